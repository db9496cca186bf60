/-! ===== orders: the sets of those thrown at, and what the rest costs at least ===== -/
def og (m j : Nat) : Nat := m ||| 2 ^ j
def opc (m : Nat) : Nat := m % 2 + m / 2 % 2 + m / 4 % 2 + m / 8 % 2 + m / 16 % 2 + m / 32 % 2
theorem og_I : ∀ m, m < 64 → ∀ j, j < 6 → (nI m ||| ((1 : Int32) <<< (nI j &&& 31))) = nI (og m j) := by decide +kernel
theorem og_b : ∀ m, m < 64 → ∀ j, j < 6 → (((nI m >>> (nI j &&& 31)) &&& 1) = 0 ↔ ¬ hit m j = true) := by decide +kernel
theorem og_hit : ∀ m, m < 64 → ∀ j, j < 6 → ∀ i, i < 6 → (hit (og m j) i = true ↔ (hit m i = true ∨ i = j)) := by decide +kernel
theorem og_lt : ∀ n, n < 7 → ∀ m, m < 2 ^ n → ∀ j, j < n → og m j < 2 ^ n := by decide +kernel
theorem og_gt : ∀ m, m < 64 → ∀ j, j < 6 → ¬ hit m j = true → m < og m j ∧ opc (og m j) = opc m + 1 := by decide +kernel
theorem opc_f : ∀ n, n < 7 → ∀ m, m < 2 ^ n → opc m ≤ n ∧ (opc m = n ↔ m = 2 ^ n - 1) ∧ ((∀ j, j < n → hit m j = true) → m = 2 ^ n - 1) := by decide +kernel
theorem p2_le {n : Nat} (h : n ≤ 6) : 2 ^ n ≤ 64 := Nat.pow_le_pow_right (n := 2) (by decide) h
theorem p2_I : ∀ n, n < 7 → ((1 : Int32) <<< (nI n &&& 31)) - 1 = nI (2 ^ n - 1) := by decide +kernel
def bc1 (x : Int32) : Int32 := x - (((x.toUInt32 >>> ((1 : Int32).toUInt32 &&& Int32.toUInt32 31)).toInt32) &&& 1431655765)
def bc2 (x : Int32) : Int32 := (x &&& 858993459) + (((x.toUInt32 >>> ((2 : Int32).toUInt32 &&& Int32.toUInt32 31)).toInt32) &&& 858993459)
def bc3 (x : Int32) : Int32 := (x + ((x.toUInt32 >>> ((4 : Int32).toUInt32 &&& Int32.toUInt32 31)).toInt32)) &&& 252645135
def bc4 (x : Int32) : Int32 := x + ((x.toUInt32 >>> ((8 : Int32).toUInt32 &&& Int32.toUInt32 31)).toInt32)
def bc5 (x : Int32) : Int32 := x + ((x.toUInt32 >>> ((16 : Int32).toUInt32 &&& Int32.toUInt32 31)).toInt32)
theorem bc_e : ∀ m, m < 64 → bc5 (bc4 (bc3 (bc2 (bc1 (nI m))))) &&& 63 = nI (opc m) := by decide +kernel
theorem bc9 {m : Nat} {Q : Int32 → Prop} (hm : m < 64) (h : Q (nI (opc m))) : wpJ6_bitCount_0f7a4 (nI m) Q := by
  unfold wpJ6_bitCount_0f7a4
  rintro _ rfl _ rfl _ rfl _ rfl _ rfl
  change Q (bc5 (bc4 (bc3 (bc2 (bc1 (nI m))))) &&& 63)
  rw [bc_e m hm]
  exact h
-- the first of those not thrown at that costs least
def leb (f : Nat → Nat) (v : Nat) : Option Nat → Option Nat
  | none => some v
  | some i => if f v < f i then some v else some i
def lea (m : Nat) (f : Nat → Nat) : Nat → Option Nat
  | 0 => none
  | v + 1 => if hit m v = true then lea m f v else leb f v (lea m f v)
theorem lea_ok {m : Nat} {f : Nat → Nat} : ∀ {v i : Nat}, lea m f v = some i → i < v ∧ ¬ hit m i = true
  | 0, i => fun h => by unfold lea at h; cases h
  | v + 1, i => fun h => by
    unfold lea at h
    by_cases z : hit m v = true
    · rw [if_pos z] at h
      have := lea_ok h
      exact ⟨by omega, this.2⟩
    · rw [if_neg z] at h
      cases e : lea m f v with
      | none =>
        rw [e] at h
        have h2 : some v = some i := h
        cases h2
        exact ⟨by omega, z⟩
      | some k =>
        rw [e] at h
        have h2 : (if f v < f k then some v else some k) = some i := h
        have := lea_ok e
        by_cases y : f v < f k
        · rw [if_pos y] at h2
          cases h2
          exact ⟨by omega, z⟩
        · rw [if_neg y] at h2
          cases h2
          exact ⟨by omega, this.2⟩
theorem lea_no {m : Nat} {f : Nat → Nat} : ∀ {v : Nat}, lea m f v = none → ∀ x, x < v → hit m x = true
  | 0 => fun _ x hx => absurd hx (by omega)
  | v + 1 => fun h x hx => by
    unfold lea at h
    by_cases z : hit m v = true
    · rw [if_pos z] at h
      rcases Nat.lt_or_ge x v with g | g
      · exact lea_no h x g
      · have : x = v := by omega
        rw [this]; exact z
    · rw [if_neg z] at h
      cases e : lea m f v with
      | none => rw [e] at h; cases h
      | some k =>
        rw [e] at h
        have h2 : (if f v < f k then some v else some k) = none := h
        by_cases y : f v < f k
        · rw [if_pos y] at h2; cases h2
        · rw [if_neg y] at h2; cases h2
theorem lea_cg {m : Nat} {f g : Nat → Nat} : ∀ {v : Nat}, (∀ j, j < v → ¬ hit m j = true → f j = g j) → lea m f v = lea m g v
  | 0 => fun _ => rfl
  | v + 1 => fun h => by
    have ih := lea_cg (v := v) (fun j hj => h j (by omega))
    unfold lea
    rw [← ih]
    by_cases z : hit m v = true
    · rw [if_pos z, if_pos z]
    · rw [if_neg z, if_neg z]
      cases e : lea m f v with
      | none => rfl
      | some k =>
        have := lea_ok e
        change (if f v < f k then some v else some k) = (if g v < g k then some v else some k)
        rw [h v (by omega) z, h k (by omega) this.2]
theorem lea_skip {m : Nat} {f : Nat → Nat} {v : Nat} : ∀ {d : Nat}, (∀ x, v ≤ x → x < v + d → hit m x = true) → lea m f (v + d) = lea m f v
  | 0 => fun _ => rfl
  | d + 1 => fun h => by
    have ih := lea_skip (f := f) (d := d) (fun x h1 h2 => h x h1 (by omega))
    rw [← Nat.add_assoc]
    change (if hit m (v + d) = true then lea m f (v + d) else leb f (v + d) (lea m f (v + d))) = _
    rw [if_pos (h (v + d) (by omega) (by omega)), ih]
def rsx (n : Nat) (C : Nat → Nat → Nat) : Nat → Nat → Nat
  | 0, _ => 0
  | k + 1, m => C ((lea m (fun j => C j (opc m) + rsx n C k (og m j)) n).getD 0) (opc m) + rsx n C k (og m ((lea m (fun j => C j (opc m) + rsx n C k (og m j)) n).getD 0))
theorem rsx_le {n : Nat} {C : Nat → Nat → Nat} (hC : ∀ j q, C j q ≤ 1000000) : ∀ k m, rsx n C k m ≤ k * 1000000
  | 0, _ => by unfold rsx; omega
  | k + 1, m => by
    unfold rsx
    have a := hC ((lea m (fun j => C j (opc m) + rsx n C k (og m j)) n).getD 0) (opc m)
    have b := rsx_le (n := n) hC k (og m ((lea m (fun j => C j (opc m) + rsx n C k (og m j)) n).getD 0))
    omega
def Rm (n : Nat) (C : Nat → Nat → Nat) (m : Nat) : Nat := rsx n C (n - opc m) m
def cbm (n : Nat) (C : Nat → Nat → Nat) (m j : Nat) : Nat := C j (opc m) + Rm n C (og m j)
def nxm (n : Nat) (C : Nat → Nat → Nat) (m : Nat) : Nat := (lea m (cbm n C m) n).getD 0
theorem Rm_le {n : Nat} {C : Nat → Nat → Nat} (hC : ∀ j q, C j q ≤ 1000000) (hn : n ≤ 6) (m : Nat) : Rm n C m ≤ 6000000 := by
  have := rsx_le (n := n) hC (n - opc m) m
  unfold Rm
  omega
theorem Rm_0 {n : Nat} {C : Nat → Nat → Nat} {m : Nat} (h : opc m = n) : Rm n C m = 0 := by
  unfold Rm
  rw [h, Nat.sub_self]
  rfl
theorem Rm_s {n : Nat} {C : Nat → Nat → Nat} {m : Nat} (hn : n ≤ 6) (hm : m < 2 ^ n) (hne : opc m < n) : lea m (cbm n C m) n = some (nxm n C m) ∧ nxm n C m < n ∧ ¬ hit m (nxm n C m) = true ∧ Rm n C m = cbm n C m (nxm n C m) := by
  have h64 := p2_le hn
  have hf := opc_f n (by omega) m hm
  have e1 : lea m (cbm n C m) n = some (nxm n C m) := by
    unfold nxm
    cases e : lea m (cbm n C m) n with
    | none => exact absurd (hf.2.1.mpr (hf.2.2 (lea_no e))) (by omega)
    | some i => rfl
  have ok := lea_ok e1
  refine ⟨e1, ok.1, ok.2, ?_⟩
  have e2 : lea m (fun j => C j (opc m) + rsx n C (n - opc m - 1) (og m j)) n = lea m (cbm n C m) n := lea_cg (fun j hj hh => by
    unfold cbm Rm
    rw [(og_gt m (by omega) j (by omega) hh).2, Nat.sub_sub])
  have e3 : n - opc m = (n - opc m - 1) + 1 := by omega
  have e4 : Rm n C m = rsx n C ((n - opc m - 1) + 1) m := by unfold Rm; rw [← e3]
  rw [e4]
  unfold rsx
  rw [e2, e1]
  change C (nxm n C m) (opc m) + rsx n C (n - opc m - 1) (og m (nxm n C m)) = cbm n C m (nxm n C m)
  unfold cbm Rm
  rw [(og_gt m (by omega) _ (by omega) ok.2).2, Nat.sub_sub]
def gmf (n : Nat) (C : Nat → Nat → Nat) : Nat → Nat → Nat
  | 0, m => m
  | d + 1, m => gmf n C d (og m (nxm n C m))
theorem gmf_ok {n : Nat} {C : Nat → Nat → Nat} (hn : n ≤ 6) : ∀ {r m : Nat}, m < 2 ^ n → opc m + r < n → gmf n C r m < 2 ^ n ∧ opc (gmf n C r m) = opc m + r
  | 0, m => fun h1 _ => ⟨h1, rfl⟩
  | r + 1, m => fun h1 h2 => by
    have h64 := p2_le hn
    have s := Rm_s (C := C) hn h1 (by omega)
    have g := og_gt m (by omega) _ (show nxm n C m < 6 by omega) s.2.2.1
    have := gmf_ok (C := C) hn (r := r) (m := og m (nxm n C m)) (og_lt n (by omega) m h1 _ s.2.1) (by omega)
    unfold gmf
    refine ⟨this.1, ?_⟩
    rw [this.2, g.2]
    omega
theorem nxm_lt {n : Nat} {C : Nat → Nat → Nat} {q : Nat} (hn : n ≤ 6) (hq : q < n) : nxm n C (gmf n C q 0) < n := by
  have h0 : opc 0 = 0 := by decide
  have := gmf_ok (C := C) hn (r := q) (m := 0) (Nat.two_pow_pos n) (by omega)
  exact (Rm_s hn this.1 (by omega)).2.1
-- rows laid in order
def ins (x : Int32) : Nat → (Nat → Int32) → (Nat → Int32)
  | 0, r => upd r 0 x
  | a + 1, r => if r a ≤ x then upd r (a + 1) x else ins x a (upd r (a + 1) (r a))
def srt (V : Nat → Int32) (r : Nat → Int32) : Nat → (Nat → Int32)
  | 0 => r
  | k + 1 => ins (V k) k (srt V r k)
theorem ins_cg {x : Int32} {k : Nat} : ∀ {a : Nat} {r r' : Nat → Int32}, (∀ j, j ≤ k → j ≠ a → r j = r' j) → a ≤ k → ∀ j, j ≤ k → ins x a r j = ins x a r' j
  | 0, r, r' => fun h _ j hj => by
    unfold ins
    rw [pb_upd, pb_upd]
    by_cases z : j = 0
    · rw [if_pos z, if_pos z]
    · rw [if_neg z, if_neg z]; exact h j hj z
  | a + 1, r, r' => fun h ha j hj => by
    have e : r a = r' a := h a (by omega) (by omega)
    unfold ins
    by_cases y : r a ≤ x
    · rw [if_pos y, if_pos (by rw [← e]; exact y), pb_upd, pb_upd]
      by_cases z : j = a + 1
      · rw [if_pos z, if_pos z]
      · rw [if_neg z, if_neg z]; exact h j hj z
    · rw [if_neg y, if_neg (by rw [← e]; exact y)]
      refine ins_cg (fun i hi hia => ?_) (by omega) j hj
      rw [pb_upd, pb_upd]
      by_cases z : i = a + 1
      · rw [if_pos z, if_pos z]; exact e
      · rw [if_neg z, if_neg z]; exact h i hi z
theorem srt_cg {V r r' : Nat → Int32} : ∀ {k : Nat} (j : Nat), j < k → srt V r k j = srt V r' k j
  | 0 => fun j hj => absurd hj (by omega)
  | k + 1 => fun j hj => by
    unfold srt
    exact ins_cg (k := k) (fun i hi hik => srt_cg i (by omega)) (Nat.le_refl _) j (by omega)
theorem ins_P {P : Int32 → Prop} {x : Int32} {k : Nat} (hx : P x) : ∀ {a : Nat} {r : Nat → Int32}, (∀ j, j ≤ k → j ≠ a → P (r j)) → a ≤ k → ∀ j, j ≤ k → P (ins x a r j)
  | 0, r => fun h _ j hj => by
    unfold ins
    rw [pb_upd]
    by_cases z : j = 0
    · rw [if_pos z]; exact hx
    · rw [if_neg z]; exact h j hj z
  | a + 1, r => fun h ha j hj => by
    have e : P (r a) := h a (by omega) (by omega)
    unfold ins
    by_cases y : r a ≤ x
    · rw [if_pos y, pb_upd]
      by_cases z : j = a + 1
      · rw [if_pos z]; exact hx
      · rw [if_neg z]; exact h j hj z
    · rw [if_neg y]
      refine ins_P hx (fun i hi hia => ?_) (by omega) j hj
      rw [pb_upd]
      by_cases z : i = a + 1
      · rw [if_pos z]; exact e
      · rw [if_neg z]; exact h i hi z
theorem srt_P {P : Int32 → Prop} {V r : Nat → Int32} : ∀ {k : Nat}, (∀ t, t < k → P (V t)) → ∀ j, j < k → P (srt V r k j)
  | 0 => fun _ j hj => absurd hj (by omega)
  | k + 1 => fun h j hj => by
    unfold srt
    exact ins_P (k := k) (h k (by omega)) (fun i hi hik => srt_P (fun t ht => h t (by omega)) i (by omega)) (Nat.le_refl _) j (by omega)
-- the best so far, and one more
def cmb (x : Nat × (Nat → Nat)) : Option (Nat × (Nat → Nat)) → Option (Nat × (Nat → Nat))
  | none => some x
  | some y => if x.1 < y.1 then some x else some y
theorem cmb_c {x y : Nat × (Nat → Nat)} {B : Option (Nat × (Nat → Nat))} : cmb y (cmb x B) = cmb (if y.1 < x.1 then y else x) B := by
  cases B with
  | none =>
    change (if y.1 < x.1 then some y else some x) = some (if y.1 < x.1 then y else x)
    split <;> rfl
  | some z =>
    change cmb y (if x.1 < z.1 then some x else some z) = (if (if y.1 < x.1 then y else x).1 < z.1 then some (if y.1 < x.1 then y else x) else some z)
    by_cases a : x.1 < z.1
    · rw [if_pos a]
      change (if y.1 < x.1 then some y else some x) = _
      by_cases b : y.1 < x.1
      · rw [if_pos b, if_pos b, if_pos (show y.1 < z.1 by omega)]
      · rw [if_neg b, if_neg b, if_pos a]
    · rw [if_neg a]
      change (if y.1 < z.1 then some y else some z) = _
      by_cases b : y.1 < x.1
      · rw [if_pos b]
      · rw [if_neg b, if_neg a, if_neg (show ¬ y.1 < z.1 by omega)]
def unu (u : Nat → Nat) (p v : Nat) : Nat → Nat := fun q => if q = p then v else u q
def psm (C : Nat → Nat → Nat) (u : Nat → Nat) : Nat → Nat
  | 0 => 0
  | p + 1 => psm C u p + C (u p) p
theorem psm_cg {C : Nat → Nat → Nat} {u w : Nat → Nat} : ∀ {p : Nat}, (∀ q, q < p → u q = w q) → psm C u p = psm C w p
  | 0 => fun _ => rfl
  | p + 1 => fun h => by
    unfold psm
    rw [psm_cg (fun q hq => h q (by omega)), h p (by omega)]
theorem psm_u {C : Nat → Nat → Nat} {u : Nat → Nat} {p v : Nat} : psm C (unu u p v) (p + 1) = psm C u p + C v p := by
  change psm C (unu u p v) p + C (unu u p v p) p = psm C u p + C v p
  rw [psm_cg (w := u) (fun q hq => by unfold unu; rw [if_neg (by omega)])]
  unfold unu
  rw [if_pos rfl]
theorem psm_le {C : Nat → Nat → Nat} {u : Nat → Nat} (hC : ∀ j q, C j q ≤ 1000000) : ∀ p, psm C u p ≤ p * 1000000
  | 0 => by unfold psm; omega
  | p + 1 => by
    have := psm_le (u := u) hC p
    have := hC (u p) p
    unfold psm
    omega
def pth (n : Nat) (C : Nat → Nat → Nat) (u : Nat → Nat) (p m : Nat) : Nat → Nat := fun q => if q < p then u q else nxm n C (gmf n C (q - p) m)
theorem pth_s {n : Nat} {C : Nat → Nat → Nat} {u : Nat → Nat} {p m : Nat} : pth n C (unu u p (nxm n C m)) (p + 1) (og m (nxm n C m)) = pth n C u p m := by
  funext q
  unfold pth unu
  rcases Nat.lt_trichotomy q p with z | z | z
  · rw [if_pos (by omega), if_neg (by omega), if_pos z]
  · subst z
    rw [if_pos (by omega), if_pos rfl, if_neg (by omega), Nat.sub_self]
    rfl
  · rw [if_neg (by omega), if_neg (by omega), show q - p = (q - (p + 1)) + 1 by omega]
    rfl
/-- the best of those tried, by the first below v of those left -/
def bov (n : Nat) (C : Nat → Nat → Nat) (u : Nat → Nat) (p m : Nat) (B : Option (Nat × (Nat → Nat))) : Option Nat → Option (Nat × (Nat → Nat))
  | none => B
  | some i => cmb (psm C u p + cbm n C m i, pth n C (unu u p i) (p + 1) (og m i)) B
theorem bov_s {n : Nat} {C : Nat → Nat → Nat} {u : Nat → Nat} {p m v : Nat} {B : Option (Nat × (Nat → Nat))} (hv : ¬ hit m v = true) : bov n C u p m B (lea m (cbm n C m) (v + 1)) = cmb (psm C u p + cbm n C m v, pth n C (unu u p v) (p + 1) (og m v)) (bov n C u p m B (lea m (cbm n C m) v)) := by
  change bov n C u p m B (if hit m v = true then lea m (cbm n C m) v else leb (cbm n C m) v (lea m (cbm n C m) v)) = _
  rw [if_neg hv]
  cases e : lea m (cbm n C m) v with
  | none => rfl
  | some i =>
    change bov n C u p m B (if cbm n C m v < cbm n C m i then some v else some i) = cmb _ (cmb _ B)
    rw [cmb_c]
    by_cases z : cbm n C m v < cbm n C m i
    · rw [if_pos z, if_pos (show psm C u p + cbm n C m v < psm C u p + cbm n C m i by omega)]
      rfl
    · rw [if_neg z, if_neg (show ¬ psm C u p + cbm n C m v < psm C u p + cbm n C m i by omega)]
      rfl
theorem bov_n {n : Nat} {C : Nat → Nat → Nat} {u : Nat → Nat} {p m : Nat} {B : Option (Nat × (Nat → Nat))} (hn : n ≤ 6) (hm : m < 2 ^ n) (hne : opc m < n) : bov n C u p m B (lea m (cbm n C m) n) = cmb (psm C u p + Rm n C m, pth n C u p m) B := by
  have s := Rm_s (C := C) hn hm hne
  rw [s.1, s.2.2.2, ← pth_s (u := u) (p := p)]
  rfl
