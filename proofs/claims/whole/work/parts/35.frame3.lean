/-! ===== worlds that grow: a frame beside the callee's cells ===== -/
theorem fx_PL {D : va_G} {a b : va_W} {H : Heap} (h : va_P D vwCl (a ++ b) H) : va_P D vwCl a H := fun k q hk => h k q (by rw [List.getElem?_append_left (List.getElem?_eq_some_iff.mp hk).1]; exact hk)
theorem fx_PR {D : va_G} {a b : va_W} {H : Heap} (h : va_P D vwCl (a ++ b) H) : va_P D vwCl b H := fun k q hk => h (a.length + k) q (by rw [List.getElem?_append_right (by omega), Nat.add_sub_cancel_left]; exact hk)
theorem fx_DL {A : Nat → Prop} {a b : va_W} (h : va_D A (a ++ b)) : va_D A a := by
  have e : ∀ (k : Nat) (q : Nat × va_E), a[k]? = some q → (a ++ b)[k]? = some q := fun k q hk => by rw [List.getElem?_append_left (List.getElem?_eq_some_iff.mp hk).1]; exact hk
  exact ⟨fun i j p q hi hj z => h.1 i j p q (e _ _ hi) (e _ _ hj) z, fun k q hk => h.2 k q (e _ _ hk)⟩
theorem fx_DR {A : Nat → Prop} {a b : va_W} (h : va_D A (a ++ b)) : va_D A b := by
  have e : ∀ (k : Nat) (q : Nat × va_E), b[k]? = some q → (a ++ b)[a.length + k]? = some q := fun k q hk => by rw [List.getElem?_append_right (by omega), Nat.add_sub_cancel_left]; exact hk
  refine ⟨fun i j p q hi hj z => ?_, fun k q hk => h.2 _ q (e _ _ hk)⟩
  have := h.1 _ _ p q (e _ _ hi) (e _ _ hj) z
  omega
theorem fx_DX {A : Nat → Prop} {a b : va_W} (h : va_D A (a ++ b)) : ∀ (i j : Nat) (p q : Nat × va_E), a[i]? = some p → b[j]? = some q → p.1 ≠ q.1 := by
  intro i j p q hi hj z
  have hl := (List.getElem?_eq_some_iff.mp hi).1
  have := h.1 i (a.length + j) p q (by rw [List.getElem?_append_left hl]; exact hi) (by rw [List.getElem?_append_right (by omega), Nat.add_sub_cancel_left]; exact hj) z
  omega
theorem fx_swap {G : fw_G} {a b : va_W} {A : Nat → Prop} {s : State} {H : Heap} {locs : List Loc} (h : fw_H G (a ++ b) A s H locs) : fw_H G (b ++ a) A s H locs :=
  ⟨(fx_PR h.1).app (fx_PL h.1), va_D.app (fx_DR h.2.1) (fx_DL h.2.1) (fun i j p q hi hj z => fx_DX h.2.1 j i q p hj hi z.symm), h.2.2⟩
theorem fx_sub {G : fw_G} {a b : va_W} {A : Nat → Prop} {s : State} {H : Heap} {locs : List Loc} (h : fw_H G (a ++ b) A s H locs) : fw_H G b A s H locs := ⟨fx_PR h.1, fx_DR h.2.1, h.2.2⟩
theorem fx_join {D : va_G} {A : Nat → Prop} {wr w0 w1 : va_W} {H H1 : Heap} (hP : va_P D vwCl (wr ++ w0) H) (hD : va_D A (wr ++ w0)) (hk : ∀ q : Nat, q < H.size → ¬ va_A w0 H.size q → H1[q]? = H[q]?) (hF : ∀ q : Nat, va_A w0 H.size q → A q) (hP1 : va_P D vwCl w1 H1) (hD1 : va_D (va_A w0 H.size) w1) : va_P D vwCl (wr ++ w1) H1 ∧ va_D A (wr ++ w1) := by
  have hn : ∀ (k : Nat) (q : Nat × va_E), wr[k]? = some q → q.1 < H.size ∧ ¬ va_A w0 H.size q.1 := by
    intro k q hq
    have hlt := (fx_PL hP k q hq).lt
    refine ⟨hlt, fun z => ?_⟩
    rcases z with ⟨j, e, hj⟩ | z
    · exact fx_DX hD k j q (q.1, e) hq hj rfl
    · omega
  refine ⟨((fx_PL hP).kept (fun k q hq => hk q.1 (hn k q hq).1 (hn k q hq).2)).app hP1, va_D.app (fx_DL hD) (hD1.weaken (fun _ _ _ h => hF _ h)) (fun i j p q hi hj z => ?_)⟩
  exact (hn i p hi).2 (by rw [z]; exact hD1.2 j q hj)
def fx_B {U : Type} (G : fw_G) (w1 : U → va_W) (A : Nat → Prop) : U → State → Prop := fun u t => va_P G.1 vwCl (w1 u) t.heap ∧ va_D A (w1 u)
section FX
variable {p : Program} {l : Launch} {e : Env} {R : Room} {s : State} {m : MethodId} {args : Array Value} {below : List Frame} {meth : Method} {c : Code} {H : Heap} {locs : List Loc} {cells slots mc ms : Nat} {Q : State → Prop}
variable {pc : Nat} {ls : Array Slot} {rest st0 : List Value} {a : Array Value} {A : Nat → Prop} {G : fw_G} {cc : ByteArray} {rt : Option FieldType} {nL : Nat} {wd : List Cond} {own : String} {ws wr w0 : va_W}
theorem fx_start {w : va_W} {y : MethodName} {wd wd' : List Cond} {rm : Room} {av : List Value} {Qc : (Nat → Prop) → Array Value → State → Outcome → State → Prop} (hy : plainName y.cls = true) (hw : wd = Cond.code y cc nL rt :: wd') (hlen : (lg_sl av).length ≤ nL)
    (body : ∀ (p : Program) (e : Env) (s : State) (m : MethodId) (below : List Frame) (meth : Method) (c : Code) (A : Nat → Prop) (ls : Array Slot) (H : Heap) (locs : List Loc), fw_C p s m av.toArray meth c cc nL rt wd y.cls → meth.name = y.name → fw_K G A s → fw_H G w A s H locs → lv_has ls nL (lv_args 0 av) →
      W p l e rm s m av.toArray below meth c H locs 0 0 (MQ below (Qc A) av.toArray s mc ms A) (F0 m 0 ls [])) (sz : Nat) : Met l y wd rm (fw_Pc G w av sz) (Qc (va_A w sz)) mc ms (va_A w sz) := by
  refine Met.ofW (cc := cc) (maxL := nL) (ret := rt) hy hw ?_
  intro p e s m args below meth c s₁ B hml hv
  obtain ⟨rfl, hsz, hP, hK, hD0, hE⟩ := hv
  have hts := atoms_spec (ws := wd) B.pre
  have hown : s.vm.findClass y.cls = some m.cls := findClass_of_methodNamed B.named
  have hin : meth.name = y.name := (name_of_methodNamed B.named B.method).1
  subst hsz
  have hD := hD0.self (sz := s.heap.size)
  rw [lg_entry_eq]
  exact body p e s m below meth c (va_A w s.heap.size) _ s.heap [] ⟨B.exec, B.bytes, B.returns, B.notSynchronized, hts, hown, hml⟩ hin ⟨hK, hE, fun q h => Or.inr h⟩ ⟨hP, hD, va_S.rf⟩ (lv_entry av (n := nL) hlen)
theorem fx_obj (C : fw_C p s m args meth c cc nL rt wd own) {idx : Nat} {lv : List (Nat × Value)} (hl : lv_has ls nL lv) (h1 : (Cond.methodLink own idx Lib.objectInit).before args s = true) (h2 : (Cond.instanceMethod Lib.objectInit).before args s = true) (h3 : (Cond.code Lib.objectInit ⟨#[0xb1]⟩ 1 none).before args s = true) {q : Nat} (hd : decode cc pc = .ok (.invokespecial idx, 3)) (hf : 1 ≤ R.frames) (hlo : 12 ≤ R.locals)
    (kk : W p l e R s m args below meth c H locs cells slots Q (F0 m (pc + 3) ls [])) : W p l e R s m args below meth c H locs cells slots Q (F0 m pc ls [.ref q]) :=
  W.objInit C.1 C.2.1 C.2.2.2.2.2.1 h1 h2 h3 rfl (by rw [C.2.2.2.2.2.2]; exact hl.1) rfl hd hf hlo kk
theorem fx_newI (C : fw_C p s m args meth c cc nL rt wd own) (harr : (Cond.arrayClass .int).before args s = true) (hK : fw_K G A s) (hG : fw_H G ws A s H locs) {n : Int32} {N : Nat} (hn : ¬ n < 0) (hN : n.toNatClampNeg = N) (hb : N * 4 ≤ 536870912) (hc : cells + 1 ≤ R.cells) (hs : slots + N ≤ R.slots) (hdg : decode cc pc = .ok (.newarray .int, 2))
    (kk : ∀ (q : Nat) (H : Heap), fw_H G (ws ++ [(q, .inl (G.2.1.1, N, .inl (fun _ => 0)))]) A s H locs → W p l e R s m args below meth c H locs (cells + 1) (slots + N) Q (F0 m (pc + 2) ls (.ref q :: rest))) : W p l e R s m args below meth c H locs cells slots Q (F0 m pc ls (.int n :: rest)) := by
  refine va_newa (atype := .int) (ty := .int) (a0 := (N, .inl (fun _ => 0))) C.1 C.2.1 harr rfl hK.1 hG.1 hG.2.1 hG.2.2 hK.2.2 (fun cA => vp_cell_i ..) hn hN hb hc hs hdg (fun q cA H1 k1 h1 h2 h3 => ?_)
  have e1 := (k1.2 4 _ rfl).2
  have e2 := (hK.1.2 0 _ rfl).2
  have e : cA = G.2.1.1 := Option.some.inj (e1.symm.trans e2)
  subst e
  exact kk q H1 ⟨h1, h2, h3⟩
theorem fx_newZ (C : fw_C p s m args meth c cc nL rt wd own) (harr : (Cond.arrayClass .boolean).before args s = true) (hK : fw_K G A s) (hG : fw_H G ws A s H locs) {n : Int32} {N : Nat} (hn : ¬ n < 0) (hN : n.toNatClampNeg = N) (hb : N * 1 ≤ 536870912) (hc : cells + 1 ≤ R.cells) (hs : slots + N ≤ R.slots) (hdg : decode cc pc = .ok (.newarray .boolean, 2))
    (kk : ∀ (q : Nat) (H : Heap), fw_H G (ws ++ [(q, .inl (G.2.1.2.1, N, .inl (fun _ => 0)))]) A s H locs → W p l e R s m args below meth c H locs (cells + 1) (slots + N) Q (F0 m (pc + 2) ls (.ref q :: rest))) : W p l e R s m args below meth c H locs cells slots Q (F0 m pc ls (.int n :: rest)) := by
  refine va_newa (atype := .boolean) (ty := .boolean) (a0 := (N, .inl (fun _ => 0))) C.1 C.2.1 harr rfl hK.1 hG.1 hG.2.1 hG.2.2 hK.2.2 (fun cA => vp_cell_i ..) hn hN hb hc hs hdg (fun q cA H1 k1 h1 h2 h3 => ?_)
  have e1 := (k1.2 4 _ rfl).2
  have e2 := (hK.1.2 1 _ rfl).2
  have e : cA = G.2.1.2.1 := Option.some.inj (e1.symm.trans e2)
  subst e
  exact kk q H1 ⟨h1, h2, h3⟩
theorem fx_newQ (C : fw_C p s m args meth c cc nL rt wd own) {Cn : String} {cA0 : ClassId} (t0 : Nat) (ht : (fw_ty G)[t0]? = some (cA0, .object Cn)) {index : Nat} (hcl : (Cond.classLink own index Cn).before args s = true) (hover : va_AO Cn s) (hK : fw_K G A s) (hG : fw_H G ws A s H locs) {n : Int32} {N : Nat} (hn : ¬ n < 0) (hN : n.toNatClampNeg = N) (hb : N * 4 ≤ 536870912) (hc : cells + 1 ≤ R.cells) (hs : slots + N ≤ R.slots) (hdg : decode cc pc = .ok (.anewarray index, 3))
    (kk : ∀ (q : Nat) (H : Heap), fw_H G (ws ++ [(q, .inl (cA0, N, .inr (.inr (.inr (.inr (fun _ => none))))))]) A s H locs → W p l e R s m args below meth c H locs (cells + 1) (slots + N) Q (F0 m (pc + 3) ls (.ref q :: rest))) : W p l e R s m args below meth c H locs cells slots Q (F0 m pc ls (.int n :: rest)) := by
  refine va_newq C.1 C.2.1 C.2.2.2.2.2.1 hcl hover hK.1 hG.1 hG.2.1 hG.2.2 hK.2.2 hn hN hb hc hs hdg (fun q cA H1 k1 h1 h2 h3 => ?_)
  obtain ⟨-, -, -, -, -, e1⟩ := (k1.2 4 _ rfl).2
  obtain ⟨-, -, -, -, -, e2⟩ := (hK.1.2 t0 _ ht).2
  have e : cA = cA0 := Option.some.inj (e1.symm.trans e2)
  subst e
  exact kk q H1 ⟨h1, h2, h3⟩
theorem fx_new (C : fw_C p s m args meth c cc nL rt wd own) {Cn : String} {T : u_T} {N ci index : Nat} (hin : ∀ x ∈ u_ws Cn T N, x ∈ wd) (ty : Nat → FieldType) (hty : ∀ k, k < N → parseFieldDescriptor (T k).2.2.1 = some (ty k)) (hcl : (Cond.classLink own index Cn).before args s = true) (hinst : (Cond.instantiable Cn N).before args s = true) (hini : (Cond.initialized Cn).before args s = true)
    (hK : fw_K G A s) (hG : fw_H G ws A s H locs) (hc : vwCl[ci]? = some (Cn, T, N)) {fs : List Value} (hfs : ∀ j, j < N → defaultValue (ty j) = vp_V fs j) (hcells : cells + 1 ≤ R.cells) (hslots : slots + N ≤ R.slots) (hdg : decode cc pc = .ok (.new index, 3))
    (kk : ∀ (q : Nat) (H : Heap), fw_H G (ws ++ [(q, .inr (ci, fs))]) A s H locs → W p l e R s m args below meth c H locs (cells + 1) (slots + N) Q (F0 m (pc + 3) ls (.ref q :: rest))) : W p l e R s m args below meth c H locs cells slots Q (F0 m pc ls rest) :=
  va_new C.1 C.2.1 C.2.2.2.2.1 hin ty hty C.2.2.2.2.2.1 hcl hinst hini hK.1 hG.1 hG.2.1 hG.2.2 hK.2.2 hc hfs hcells hslots hdg (fun q H1 h1 h2 h3 => kk q H1 ⟨h1, h2, h3⟩)
theorem fx_put (C : fw_C p s m args meth c cc nL rt wd own) {ref Cn : String} {T : u_T} {N ci index ad : Nat} (hin : ∀ x ∈ u_ws Cn T N, x ∈ wd) (ty0 : Nat → FieldType) (hty : ∀ k, k < N → parseFieldDescriptor (T k).2.2.1 = some (ty0 k)) (hnm : ∀ a, a < N → ∀ b, b < N → a ≠ b → (T a).2.1 ≠ (T b).2.1) (hK : fw_K G A s) (hG : fw_H G ws A s H locs) (q0 : Nat) {fs : List Value} (he : ws[q0]? = some (ad, .inr (ci, fs))) (hc : vwCl[ci]? = some (Cn, T, N)) (k : Nat) (hk : k < N) (hlink : (Cond.fieldLink own index ref (T k).2.1 (T k).2.2.1).before args s = true) (href : (T k).1 = ref) (hfin : (T k).2.2.2 = false) {ty : FieldType} {v : Value} (hd : parseFieldDescriptor (T k).2.2.1 = some ty) (hn : narrow ty v = v) (hfit : fits ty v = true) (hl : k < fs.length)
    (hdg : decode cc pc = .ok (.putfield index, 3)) (kk : ∀ (H1 : Heap) (locs1 : List Loc), fw_H G (ws.set q0 (ad, .inr (ci, fs.set k v))) A s H1 locs1 → W p l e R s m args below meth c H1 locs1 cells slots Q (F0 m (pc + 3) ls rest)) : W p l e R s m args below meth c H locs cells slots Q (F0 m pc ls (v :: .ref ad :: rest)) :=
  va_put C.1 C.2.1 C.2.2.2.2.1 hin ty0 hty hnm C.2.2.2.2.2.1 hK.1 hG.1 hG.2.1 hG.2.2 q0 he hc k hk hlink (fun _ h9 => by rw [← href]; exact h9) hfin hd hn hfit hl hdg (fun H1 locs1 h1 h2 h3 => kk H1 locs1 ⟨h1, h2, h3⟩)
theorem fx_putF (C : fw_C p s m args meth c cc nL rt wd own) {ref Cn : String} {T : u_T} {N ci index ad : Nat} (hin : ∀ x ∈ u_ws Cn T N, x ∈ wd) (ty0 : Nat → FieldType) (hty : ∀ k, k < N → parseFieldDescriptor (T k).2.2.1 = some (ty0 k)) (hnm : ∀ a, a < N → ∀ b, b < N → a ≠ b → (T a).2.1 ≠ (T b).2.1) (hK : fw_K G A s) (hG : fw_H G ws A s H locs) (q0 : Nat) {fs : List Value} (he : ws[q0]? = some (ad, .inr (ci, fs))) (hc : vwCl[ci]? = some (Cn, T, N)) (k : Nat) (hk : k < N) (hlink : (Cond.fieldLink own index ref (T k).2.1 (T k).2.2.1).before args s = true) (href : (T k).1 = ref) (hfin : (T k).2.2.2 = true) (hini : meth.name = "<init>") (hdecl : (T k).1 = own) {ty : FieldType} {v : Value} (hd : parseFieldDescriptor (T k).2.2.1 = some ty) (hn : narrow ty v = v) (hfit : fits ty v = true) (hl : k < fs.length)
    (hdg : decode cc pc = .ok (.putfield index, 3)) (kk : ∀ (H1 : Heap) (locs1 : List Loc), fw_H G (ws.set q0 (ad, .inr (ci, fs.set k v))) A s H1 locs1 → W p l e R s m args below meth c H1 locs1 cells slots Q (F0 m (pc + 3) ls rest)) : W p l e R s m args below meth c H locs cells slots Q (F0 m pc ls (v :: .ref ad :: rest)) :=
  va_putF C.1 C.2.1 C.2.2.2.2.1 hin ty0 hty hnm C.2.2.2.2.2.1 hK.1 hG.1 hG.2.1 hG.2.2 q0 he hc k hk hlink (fun _ h9 => by rw [← href]; exact h9) hfin hini hdecl hd hn hfit hl hdg (fun H1 locs1 h1 h2 h3 => kk H1 locs1 ⟨h1, h2, h3⟩)
theorem fx_iast (C : fw_C p s m args meth c cc nL rt wd own) (hK : fw_K G A s) (hG : fw_H G ws A s H locs) (q0 : Nat) {ad n : Nat} {f : Nat → Int32} (ha : ws[q0]? = some (ad, .inl (G.2.1.1, n, .inl f))) {i x : Int32} (hin : vp_in i n) (hdg : decode cc pc = .ok (.iastore, 1))
    (kk : ∀ (H1 : Heap) (locs1 : List Loc), fw_H G (ws.set q0 (ad, .inl (G.2.1.1, n, .inl (upd f i.toNatClampNeg x)))) A s H1 locs1 → W p l e R s m args below meth c H1 locs1 cells slots Q (F0 m (pc + 1) ls rest)) : W p l e R s m args below meth c H locs cells slots Q (F0 m pc ls (.int x :: .int i :: .ref ad :: rest)) :=
  va_iast C.1 C.2.1 hK.1 hG.1 hG.2.1 hG.2.2 q0 0 ha rfl hin hdg (fun H1 locs1 h1 h2 h3 => kk H1 locs1 ⟨h1, h2, h3⟩)
/-- a void call beside a frame -/
theorem fx_callv {U : Type} {post : U → Prop} {w1 : U → va_W} (hr : va_Run p l e R s m args below meth c H locs cells slots mc ms (F0 m pc ls st0) rest (va_Qv post (fx_B G w1 (va_A w0 H.size)) (va_A w0 H.size) a) (va_A w0 H.size)) (hG : fw_H G (wr ++ w0) A s H locs) (hK : fw_K G A s)
    (kk : ∀ (u : U) (H1 : Heap) (locs1 : List Loc), post u → fw_H G (wr ++ w1 u) A s H1 locs1 → W p l e R s m args below meth c H1 locs1 (cells + mc) (slots + ms) Q (F0 m (pc + 3) ls rest)) : W p l e R s m args below meth c H locs cells slots Q (F0 m pc ls st0) := by
  have hF := fw_free (fx_DR hG.2.1) hG.2.2 hK.2.2
  exact va_callv hr hG.2.2 (fun q _ h => hF q h) hF (fun u t H1 locs1 ht _ hw hB _ hk hS => by
    obtain ⟨j1, j2⟩ := fx_join (w1 := w1 u) hG.1 hG.2.1 hk hF (by rw [← ht]; exact hB.1) hB.2
    exact kk u H1 locs1 hw ⟨j1, j2, hS⟩)
theorem fx_calli {U : Type} {post : Int32 → U → Prop} {w1 : U → va_W} (hr : va_Run p l e R s m args below meth c H locs cells slots mc ms (F0 m pc ls st0) rest (va_Qi post (fx_B G w1 (va_A w0 H.size)) (va_A w0 H.size) a) (va_A w0 H.size)) (hG : fw_H G (wr ++ w0) A s H locs) (hK : fw_K G A s)
    (kk : ∀ (r : Int32) (u : U) (H1 : Heap) (locs1 : List Loc), post r u → fw_H G (wr ++ w1 u) A s H1 locs1 → W p l e R s m args below meth c H1 locs1 (cells + mc) (slots + ms) Q (F0 m (pc + 3) ls (.int r :: rest))) : W p l e R s m args below meth c H locs cells slots Q (F0 m pc ls st0) := by
  have hF := fw_free (fx_DR hG.2.1) hG.2.2 hK.2.2
  exact va_calli hr hG.2.2 (fun q _ h => hF q h) hF (fun r u t H1 locs1 ht _ hw hB _ hk hS => by
    obtain ⟨j1, j2⟩ := fx_join (w1 := w1 u) hG.1 hG.2.1 hk hF (by rw [← ht]; exact hB.1) hB.2
    exact kk r u H1 locs1 hw ⟨j1, j2, hS⟩)
theorem fx_calll {U : Type} {post : Int64 → U → Prop} {w1 : U → va_W} (hr : va_Run p l e R s m args below meth c H locs cells slots mc ms (F0 m pc ls st0) rest (va_Ql post (fx_B G w1 (va_A w0 H.size)) (va_A w0 H.size) a) (va_A w0 H.size)) (hG : fw_H G (wr ++ w0) A s H locs) (hK : fw_K G A s)
    (kk : ∀ (r : Int64) (u : U) (H1 : Heap) (locs1 : List Loc), post r u → fw_H G (wr ++ w1 u) A s H1 locs1 → W p l e R s m args below meth c H1 locs1 (cells + mc) (slots + ms) Q (F0 m (pc + 3) ls (.long r :: rest))) : W p l e R s m args below meth c H locs cells slots Q (F0 m pc ls st0) := by
  have hF := fw_free (fx_DR hG.2.1) hG.2.2 hK.2.2
  exact va_calll hr hG.2.2 (fun q _ h => hF q h) hF (fun r u t H1 locs1 ht _ hw hB _ hk hS => by
    obtain ⟨j1, j2⟩ := fx_join (w1 := w1 u) hG.1 hG.2.1 hk hF (by rw [← ht]; exact hB.1) hB.2
    exact kk r u H1 locs1 hw ⟨j1, j2, hS⟩)
theorem fx_vret {U : Type} {post : U → Prop} {w1 : U → va_W} (u : U) (C : fw_C p s m args meth c cc nL none wd own) (hG : fw_H G (w1 u) A s H locs) (hp : post u) (hdg : decode cc pc = .ok (.return_, 1)) : W p l e R s m args below meth c H locs mc ms (MQ below (va_Qv post (fx_B G w1 A) A) args s mc ms A) (F0 m pc ls []) :=
  W.vret C.1 C.2.1 C.2.2.1 (fun t ht hW => ⟨⟨u, rfl, hp, by rw [ht]; exact hG.1, hG.2.1⟩, hG.2.2.F ht⟩) hG.2.2.2.2 hdg C.2.2.2.1
theorem fx_iret {U : Type} {post : Int32 → U → Prop} {w1 : U → va_W} {v : Int32} (u : U) (C : fw_C p s m args meth c cc nL (some .int) wd own) (hG : fw_H G (w1 u) A s H locs) (hp : post v u) (hdg : decode cc pc = .ok (.ireturn, 1)) : W p l e R s m args below meth c H locs mc ms (MQ below (va_Qi post (fx_B G w1 A) A) args s mc ms A) (F0 m pc ls [.int v]) :=
  W.iret C.1 C.2.1 C.2.2.1 (fun t ht hW => ⟨⟨v, u, rfl, hp, by rw [ht]; exact hG.1, hG.2.1⟩, hG.2.2.F ht⟩) hG.2.2.2.2 hdg C.2.2.2.1
end FX
