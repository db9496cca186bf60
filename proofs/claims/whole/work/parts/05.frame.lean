/-! ===== the frame of this proof: a world is a family of cells over (fields, rows); a contract says which answers and which new fields and rows ===== -/
abbrev fw_F : Type := Nat → Int32
abbrev fw_R : Type := Nat → Nat → Int32
abbrev fw_V : Type := fw_F → fw_R → va_W
abbrev fw_G : Type := va_G × (ClassId × ClassId × ClassId × ClassId) × Nat
def fw_ty (G : fw_G) : List (ClassId × FieldType) := [(G.2.1.1, .int), (G.2.1.2.1, .boolean), (G.2.1.2.2.1, .object "KnifeBoard$Knife"), (G.2.1.2.2.2, .object "KnifeBoard$Sheet")]
def fw_LI : Nat → Int32 := fun j => if j = 0 then 104 else if j = 1 then 117 else if j = 2 then 97 else 116
def fw_L : Nat → Value := fun j => .int (fw_LI j)
def fw_nS : Cond := .methodLinkNest "KnifeBoard$Sheet" 39 yX9_within "KnifeBoard"
def fw_nH : Cond := .methodLinkNest "KnifeBoard$Hand" 31 yX9_within "KnifeBoard"
def fw_nB : Cond := .methodLinkNest "KnifeBoard$Board" 26 yX9_within "KnifeBoard"
def fw_nM : Cond := .methodLinkNest "KnifeBoard$Marks" 34 yX9_within "KnifeBoard"
/-- what the class's constructor asks beside -/
def fw_E2 (U : State) : Prop := (va_Nw (.methodLinkNest "KnifeBoard" 23 yX1_init "KnifeBoard") U ∧ va_Nw (.methodLinkNest "KnifeBoard" 30 yX0_init "KnifeBoard") U ∧ va_Nw (.methodLinkNest "KnifeBoard" 37 yX5_init "KnifeBoard") U ∧ va_Nw (.methodLinkNest "KnifeBoard" 44 yX4_init "KnifeBoard") U ∧ va_Nw (.methodLinkNest "KnifeBoard" 51 yX6_init "KnifeBoard") U ∧ va_Nw (.methodLinkNest "KnifeBoard" 66 yX7_init "KnifeBoard") U) ∧ va_AO "KnifeBoard$Knife" U ∧ va_AO "KnifeBoard$Sheet" U
theorem fw_E2.to {s U : State} (h : fw_E2 s) (hW : s.WarmedH U.vm) : fw_E2 U := by
  obtain ⟨⟨a1, a2, a3, a4, a5, a6⟩, b1, b2⟩ := h
  exact ⟨⟨va_Nw.warmM hW a1, va_Nw.warmM hW a2, va_Nw.warmM hW a3, va_Nw.warmM hW a4, va_Nw.warmM hW a5, va_Nw.warmM hW a6⟩, b1.moved hW.alike, b2.moved hW.alike⟩
theorem fw_E2.calling {U : State} {g : JFrame} {mk : MethodId} {a : Array Value} (h : fw_E2 U) : fw_E2 (U.calling g mk a) := by
  obtain ⟨⟨a1, a2, a3, a4, a5, a6⟩, b1, b2⟩ := h
  exact ⟨⟨va_Nw.same rfl rfl a1, va_Nw.same rfl rfl a2, va_Nw.same rfl rfl a3, va_Nw.same rfl rfl a4, va_Nw.same rfl rfl a5, va_Nw.same rfl rfl a6⟩, va_AO.moved (u := U) (U := U.calling g mk a) (Vm.Alike.refl U.vm) b1, va_AO.moved (u := U) (U := U.calling g mk a) (Vm.Alike.refl U.vm) b2⟩
/-- what is carried beside the cells: links within the nest, casts, the table of letters -/
def fw_E (G : fw_G) (A : Nat → Prop) (U : State) : Prop :=
  (va_Nw fw_nS U ∧ va_Nw fw_nH U ∧ va_Nw fw_nB U ∧ va_Nw fw_nM U) ∧
  (va_Nw (.castable "KnifeBoard$Twin" "KnifeBoard$Hatchet") U ∧ va_Nw (.castable "KnifeBoard$Hatchet" "KnifeBoard$Knife") U ∧ va_Nw (.castable "KnifeBoard$Twin" "KnifeBoard$Knife") U ∧ fw_E2 U) ∧
  (va_Nc "KnifeBoard$Knife" "KnifeBoard$Hatchet" U ∧ va_Nc "KnifeBoard$Knife" "KnifeBoard$Twin" U ∧ va_Nc "KnifeBoard$Hatchet" "KnifeBoard$Twin" U) ∧
  (va_Z "KnifeBoard$Hand" "LETTERS" "[C" (.ref G.2.2) A U U.heap ∧ va_T .char G.2.2 4 fw_L A U U.heap)
theorem fw_E.to {G : fw_G} {A A' : Nat → Prop} {s U : State} {H : Heap} {locs : List Loc} (h : fw_E G A s) (hAB : ∀ q, A' q → A q) (hS : va_S A s.heap H locs) (hU : U.heap = H) (hW : s.WarmedH U.vm) : fw_E G A' U := by
  obtain ⟨⟨a1, a2, a3, a4⟩, ⟨b1, b2, b3, b4⟩, ⟨c1, c2, c3⟩, d1, d2⟩ := h
  refine ⟨⟨va_Nw.warmM hW a1, va_Nw.warmM hW a2, va_Nw.warmM hW a3, va_Nw.warmM hW a4⟩, ⟨va_Nw.warmC hW b1, va_Nw.warmC hW b2, va_Nw.warmC hW b3, b4.to hW⟩, ⟨c1.moved hW.alike, c2.moved hW.alike, c3.moved hW.alike⟩, ?_, ?_⟩
  · rw [hU]
    exact ((d1.kept hS.2.1).moved hW.alike).narrow hAB
  · rw [hU]
    exact ((d2.kept hS.2.1).moved hW.alike).narrow hAB
theorem fw_E.calling {G : fw_G} {A : Nat → Prop} {U : State} {g : JFrame} {mk : MethodId} {a : Array Value} (h : fw_E G A U) : fw_E G A (U.calling g mk a) := by
  obtain ⟨⟨a1, a2, a3, a4⟩, ⟨b1, b2, b3, b4⟩, ⟨c1, c2, c3⟩, d1, d2⟩ := h
  exact ⟨⟨va_Nw.same rfl rfl a1, va_Nw.same rfl rfl a2, va_Nw.same rfl rfl a3, va_Nw.same rfl rfl a4⟩, ⟨va_Nw.same rfl rfl b1, va_Nw.same rfl rfl b2, va_Nw.same rfl rfl b3, b4.calling⟩, ⟨va_Nc.moved (u := U) (U := U.calling g mk a) (Vm.Alike.refl U.vm) c1, va_Nc.moved (u := U) (U := U.calling g mk a) (Vm.Alike.refl U.vm) c2, va_Nc.moved (u := U) (U := U.calling g mk a) (Vm.Alike.refl U.vm) c3⟩, va_Z.moved (u := U) (U := U.calling g mk a) (Vm.Alike.refl U.vm) d1, va_T.moved (u := U) (U := U.calling g mk a) (Vm.Alike.refl U.vm) d2⟩
/-- the world now -/
def fw_H (G : fw_G) (w : va_W) (A : Nat → Prop) (s : State) (H : Heap) (locs : List Loc) : Prop := va_P G.1 vwCl w H ∧ va_D A w ∧ va_S A s.heap H locs
def fw_Pc (G : fw_G) (w : va_W) (av : List Value) (sz : Nat) : Array Value → State → Prop := va_Pc av (fun U => U.heap.size = sz ∧ va_P G.1 vwCl w U.heap ∧ va_K G.1 vwCl (fw_ty G) U ∧ va_D (fun _ => True) w ∧ fw_E G (va_A w sz) U)
def fw_B (G : fw_G) (w : fw_V) (A : Nat → Prop) : fw_F × fw_R → State → Prop := fun u t => va_P G.1 vwCl (w u.1 u.2) t.heap ∧ va_D A (w u.1 u.2)
def fw_Qi (G : fw_G) (w : fw_V) (Q : Int32 → fw_F → fw_R → Prop) (A : Nat → Prop) : Array Value → State → Outcome → State → Prop := va_Qi (fun r (u : fw_F × fw_R) => Q r u.1 u.2) (fw_B G w A) A
def fw_Ql (G : fw_G) (w : fw_V) (Q : Int64 → fw_F → fw_R → Prop) (A : Nat → Prop) : Array Value → State → Outcome → State → Prop := va_Ql (fun r (u : fw_F × fw_R) => Q r u.1 u.2) (fw_B G w A) A
def fw_Qv (G : fw_G) (w : fw_V) (Q : fw_F → fw_R → Prop) (A : Nat → Prop) : Array Value → State → Outcome → State → Prop := va_Qv (fun (u : fw_F × fw_R) => Q u.1 u.2) (fw_B G w A) A
def fw_Qq (G : fw_G) (w : fw_V) (Q : Option Nat → fw_F → fw_R → Prop) (A : Nat → Prop) : Array Value → State → Outcome → State → Prop := va_Qq (fun r (u : fw_F × fw_R) => Q r u.1 u.2) (fw_B G w A) A
def fw_M (l : Launch) (G : fw_G) (w : fw_V) (y : MethodName) (wd : List Cond) (rm : Room) (av : List Value) (iv : fw_F) (ar : fw_R) (Qc : (Nat → Prop) → Array Value → State → Outcome → State → Prop) : Prop :=
  ∀ sz : Nat, Met l y wd rm (fw_Pc G (w iv ar) av sz) (Qc (va_A (w iv ar) sz)) 0 0 (va_A (w iv ar) sz)
/-- a method without a world -/
def fw_pM (l : Launch) (y : MethodName) (wd : List Cond) (rm : Room) (av : List Value) (Qc : (Nat → Prop) → Array Value → State → Outcome → State → Prop) : Prop :=
  ∀ sz : Nat, Met l y wd rm (va_Pc av (fun U => U.heap.size = sz)) (Qc (va_A [] sz)) 0 0 (va_A [] sz)
def fw_pQi (Q : Int32 → Prop) (A : Nat → Prop) : Array Value → State → Outcome → State → Prop := va_Qi (fun r (_ : Unit) => Q r) (fun _ _ => True) A
def fw_pQl (Q : Int64 → Prop) (A : Nat → Prop) : Array Value → State → Outcome → State → Prop := va_Ql (fun r (_ : Unit) => Q r) (fun _ _ => True) A
/-- what stands through a method's body -/
def fw_C (p : Program) (s : State) (m : MethodId) (args : Array Value) (meth : Method) (c : Code) (cc : ByteArray) (nL : Nat) (rt : Option FieldType) (wd : List Cond) (own : String) : Prop :=
  p.tables.exec = Jvm.exec ∧ c.code = cc ∧ meth.sig.returnType = rt ∧ meth.locks = false ∧ (∀ x ∈ wd, x.before args s = true) ∧ s.vm.findClass own = some m.cls ∧ c.maxLocals = nL
def fw_K (G : fw_G) (A : Nat → Prop) (s : State) : Prop := va_K G.1 vwCl (fw_ty G) s ∧ fw_E G A s ∧ ∀ q : Nat, s.heap.size ≤ q → A q
section FWA
variable {l : Launch} {G : fw_G} {w : fw_V} {y : MethodName} {wd wd' : List Cond} {rm : Room} {av : List Value} {iv : fw_F} {ar : fw_R} {Qc : (Nat → Prop) → Array Value → State → Outcome → State → Prop} {cc : ByteArray} {nL : Nat} {rt : Option FieldType}
theorem fw_start (hy : plainName y.cls = true) (hw : wd = Cond.code y cc nL rt :: wd') (hlen : (lg_sl av).length ≤ nL)
    (body : ∀ (p : Program) (e : Env) (s : State) (m : MethodId) (below : List Frame) (meth : Method) (c : Code) (A : Nat → Prop) (ls : Array Slot) (H : Heap) (locs : List Loc), fw_C p s m av.toArray meth c cc nL rt wd y.cls → fw_K G A s → fw_H G (w iv ar) A s H locs → lv_has ls nL (lv_args 0 av) →
      W p l e rm s m av.toArray below meth c H locs 0 0 (MQ below (Qc A) av.toArray s 0 0 A) (F0 m 0 ls [])) : fw_M l G w y wd rm av iv ar Qc := by
  intro sz
  refine Met.ofW (cc := cc) (maxL := nL) (ret := rt) hy hw ?_
  intro p e s m args below meth c s₁ B hml hv
  obtain ⟨rfl, hsz, hP, hK, hD0, hE⟩ := hv
  have hts := atoms_spec (ws := wd) B.pre
  have hown : s.vm.findClass y.cls = some m.cls := findClass_of_methodNamed B.named
  subst hsz
  have hD := hD0.self (sz := s.heap.size)
  rw [lg_entry_eq]
  exact body p e s m below meth c (va_A (w iv ar) s.heap.size) _ s.heap [] ⟨B.exec, B.bytes, B.returns, B.notSynchronized, hts, hown, hml⟩ ⟨hK, hE, fun q h => Or.inr h⟩ ⟨hP, hD, va_S.rf⟩ (lv_entry av (n := nL) hlen)
theorem fw_pstart (hy : plainName y.cls = true) (hw : wd = Cond.code y cc nL rt :: wd') (hlen : (lg_sl av).length ≤ nL)
    (body : ∀ (p : Program) (e : Env) (s : State) (m : MethodId) (below : List Frame) (meth : Method) (c : Code) (A : Nat → Prop) (ls : Array Slot) (H : Heap) (locs : List Loc), fw_C p s m av.toArray meth c cc nL rt wd y.cls → (∀ q : Nat, s.heap.size ≤ q → A q) → va_S A s.heap H locs → lv_has ls nL (lv_args 0 av) →
      W p l e rm s m av.toArray below meth c H locs 0 0 (MQ below (Qc A) av.toArray s 0 0 A) (F0 m 0 ls [])) : fw_pM l y wd rm av Qc := by
  intro sz
  refine Met.ofW (cc := cc) (maxL := nL) (ret := rt) hy hw ?_
  intro p e s m args below meth c s₁ B hml hv
  obtain ⟨rfl, hsz⟩ := hv
  have hts := atoms_spec (ws := wd) B.pre
  have hown : s.vm.findClass y.cls = some m.cls := findClass_of_methodNamed B.named
  subst hsz
  rw [lg_entry_eq]
  exact body p e s m below meth c (va_A [] s.heap.size) _ s.heap [] ⟨B.exec, B.bytes, B.returns, B.notSynchronized, hts, hown, hml⟩ (fun q h => Or.inr h) va_S.rf (lv_entry av (n := nL) hlen)
end FWA
theorem fw_free {A : Nat → Prop} {w : va_W} {H0 H : Heap} {locs : List Loc} (hD : va_D A w) (hS : va_S A H0 H locs) (hA : ∀ q : Nat, H0.size ≤ q → A q) : ∀ q : Nat, va_A w H.size q → A q := by
  intro q h
  rcases h with ⟨k, e, hk⟩ | h
  · exact hD.2 k (q, e) hk
  · exact hA q (Nat.le_trans hS.1 h)
theorem fw_blind {G : fw_G} {w : va_W} {av : List Value} {sz : Nat} : FrameBlind (fw_Pc G w av sz) := by
  intro a U g mk q
  obtain ⟨q0, q1, qP, qK, qD, qE⟩ := q
  exact ⟨q0, q1, qP, va_K.moved (u := U) (U := U.calling g mk a) (Vm.Alike.refl U.vm) qK, qD, qE.calling⟩
theorem fw_preS {G : fw_G} {w : va_W} {A : Nat → Prop} {s : State} {H : Heap} {locs : List Loc} {As : List Value} (hG : fw_H G w A s H locs) (hK : fw_K G A s) : PreS s H (fw_Pc G w As H.size) As :=
  ⟨fw_blind, fun U hU hW => ⟨rfl, by rw [hU], by rw [hU]; exact hG.1, va_K.moved hW.alike hK.1, hG.2.1.weaken (fun _ _ _ _ => trivial), hK.2.1.to (fw_free hG.2.1 hG.2.2 hK.2.2) hG.2.2 hU hW⟩⟩
theorem fw_preV {G : fw_G} {w : va_W} {A : Nat → Prop} {s : State} {H : Heap} {locs : List Loc} {As : List Value} {C : String} {T : u_T} {N b q0 ci : Nat} {fs : List Value} (hG : fw_H G w A s H locs) (hK : fw_K G A s) (hc : vwCl[ci]? = some (C, T, N)) (he : w[q0]? = some (b, .inr (ci, fs))) : PreV s H C b (fw_Pc G w (.ref b :: As) H.size) As :=
  ⟨fw_blind, va_recv hK.1 hG.1 hc he, fun U hU hW => ⟨rfl, by rw [hU], by rw [hU]; exact hG.1, va_K.moved hW.alike hK.1, hG.2.1.weaken (fun _ _ _ _ => trivial), hK.2.1.to (fw_free hG.2.1 hG.2.2 hK.2.2) hG.2.2 hU hW⟩⟩
theorem fw_ppre {s : State} {H : Heap} {As : List Value} : PreS s H (va_Pc As (fun U => U.heap.size = H.size)) As :=
  ⟨fun _ _ _ _ q => q, fun U hU _ => ⟨rfl, congrArg Array.size hU⟩⟩
section FWB
variable {p : Program} {l : Launch} {e : Env} {R : Room} {s : State} {m : MethodId} {args : Array Value} {below : List Frame} {meth : Method} {c : Code} {H : Heap} {locs : List Loc} {cells slots : Nat} {Q : State → Prop}
variable {pc : Nat} {ls : Array Slot} {rest st0 : List Value} {a : Array Value} {A : Nat → Prop} {G : fw_G} {w : fw_V} {iv : fw_F} {ar : fw_R} {cc : ByteArray} {rt : Option FieldType} {nL : Nat} {wd : List Cond} {own : String}
theorem fw_calli {Q' : Int32 → fw_F → fw_R → Prop} (hr : va_Run p l e R s m args below meth c H locs cells slots 0 0 (F0 m pc ls st0) rest (fw_Qi G w Q' (va_A (w iv ar) H.size) a) (va_A (w iv ar) H.size)) (hG : fw_H G (w iv ar) A s H locs) (hK : fw_K G A s)
    (kk : ∀ (r : Int32) (iv1 : fw_F) (ar1 : fw_R) (H1 : Heap) (locs1 : List Loc), Q' r iv1 ar1 → fw_H G (w iv1 ar1) A s H1 locs1 → W p l e R s m args below meth c H1 locs1 cells slots Q (F0 m (pc + 3) ls (.int r :: rest))) : W p l e R s m args below meth c H locs cells slots Q (F0 m pc ls st0) := by
  have hF := fw_free hG.2.1 hG.2.2 hK.2.2
  exact va_calli hr hG.2.2 (fun q _ h => hF q h) hF (fun r u t H1 locs1 ht _ hw hB _ _ hS => kk r u.1 u.2 H1 locs1 hw ⟨by rw [← ht]; exact hB.1, hB.2.weaken (fun _ _ _ h => hF _ h), hS⟩)
theorem fw_calll {Q' : Int64 → fw_F → fw_R → Prop} (hr : va_Run p l e R s m args below meth c H locs cells slots 0 0 (F0 m pc ls st0) rest (fw_Ql G w Q' (va_A (w iv ar) H.size) a) (va_A (w iv ar) H.size)) (hG : fw_H G (w iv ar) A s H locs) (hK : fw_K G A s)
    (kk : ∀ (r : Int64) (iv1 : fw_F) (ar1 : fw_R) (H1 : Heap) (locs1 : List Loc), Q' r iv1 ar1 → fw_H G (w iv1 ar1) A s H1 locs1 → W p l e R s m args below meth c H1 locs1 cells slots Q (F0 m (pc + 3) ls (.long r :: rest))) : W p l e R s m args below meth c H locs cells slots Q (F0 m pc ls st0) := by
  have hF := fw_free hG.2.1 hG.2.2 hK.2.2
  exact va_calll hr hG.2.2 (fun q _ h => hF q h) hF (fun r u t H1 locs1 ht _ hw hB _ _ hS => kk r u.1 u.2 H1 locs1 hw ⟨by rw [← ht]; exact hB.1, hB.2.weaken (fun _ _ _ h => hF _ h), hS⟩)
theorem fw_callv {Q' : fw_F → fw_R → Prop} (hr : va_Run p l e R s m args below meth c H locs cells slots 0 0 (F0 m pc ls st0) rest (fw_Qv G w Q' (va_A (w iv ar) H.size) a) (va_A (w iv ar) H.size)) (hG : fw_H G (w iv ar) A s H locs) (hK : fw_K G A s)
    (kk : ∀ (iv1 : fw_F) (ar1 : fw_R) (H1 : Heap) (locs1 : List Loc), Q' iv1 ar1 → fw_H G (w iv1 ar1) A s H1 locs1 → W p l e R s m args below meth c H1 locs1 cells slots Q (F0 m (pc + 3) ls rest)) : W p l e R s m args below meth c H locs cells slots Q (F0 m pc ls st0) := by
  have hF := fw_free hG.2.1 hG.2.2 hK.2.2
  exact va_callv hr hG.2.2 (fun q _ h => hF q h) hF (fun u t H1 locs1 ht _ hw hB _ _ hS => kk u.1 u.2 H1 locs1 hw ⟨by rw [← ht]; exact hB.1, hB.2.weaken (fun _ _ _ h => hF _ h), hS⟩)
theorem fw_callq {Q' : Option Nat → fw_F → fw_R → Prop} (hr : va_Run p l e R s m args below meth c H locs cells slots 0 0 (F0 m pc ls st0) rest (fw_Qq G w Q' (va_A (w iv ar) H.size) a) (va_A (w iv ar) H.size)) (hG : fw_H G (w iv ar) A s H locs) (hK : fw_K G A s)
    (kk : ∀ (r : Option Nat) (iv1 : fw_F) (ar1 : fw_R) (H1 : Heap) (locs1 : List Loc), Q' r iv1 ar1 → fw_H G (w iv1 ar1) A s H1 locs1 → W p l e R s m args below meth c H1 locs1 cells slots Q (F0 m (pc + 3) ls (va_rf r :: rest))) : W p l e R s m args below meth c H locs cells slots Q (F0 m pc ls st0) := by
  have hF := fw_free hG.2.1 hG.2.2 hK.2.2
  exact va_callq hr hG.2.2 (fun q _ h => hF q h) hF (fun r u t H1 locs1 ht _ hw hB _ _ hS => kk r u.1 u.2 H1 locs1 hw ⟨by rw [← ht]; exact hB.1, hB.2.weaken (fun _ _ _ h => hF _ h), hS⟩)
/-- the world over a call that has none -/
theorem fw_over {W0 : va_W} {H1 : Heap} {locs1 : List Loc} (hG : fw_H G W0 A s H locs) (hk : ∀ q : Nat, q < H.size → ¬ va_A [] H.size q → H1[q]? = H[q]?) (hS : va_S A s.heap H1 locs1) : fw_H G W0 A s H1 locs1 :=
  ⟨hG.1.kept (fun k q hq => hk q.1 (hG.1 k q hq).lt (fun h => by
    rcases h with ⟨k, e, hk⟩ | h
    · simp at hk
    · exact absurd (hG.1 _ q hq).lt (Nat.not_lt.mpr h))), hG.2.1, hS⟩
theorem fw_freeP {A : Nat → Prop} {H0 H : Heap} {locs : List Loc} (hS : va_S A H0 H locs) (hA : ∀ q : Nat, H0.size ≤ q → A q) : ∀ q : Nat, va_A [] H.size q → A q := by
  intro q h
  rcases h with ⟨k, e, hk⟩ | h
  · simp at hk
  · exact hA q (Nat.le_trans hS.1 h)
theorem fw_pcalli {W0 : va_W} {Q' : Int32 → Prop} (hr : va_Run p l e R s m args below meth c H locs cells slots 0 0 (F0 m pc ls st0) rest (fw_pQi Q' (va_A [] H.size) a) (va_A [] H.size)) (hG : fw_H G W0 A s H locs) (hK : fw_K G A s)
    (kk : ∀ (r : Int32) (H1 : Heap) (locs1 : List Loc), Q' r → fw_H G W0 A s H1 locs1 → W p l e R s m args below meth c H1 locs1 cells slots Q (F0 m (pc + 3) ls (.int r :: rest))) : W p l e R s m args below meth c H locs cells slots Q (F0 m pc ls st0) := by
  have hF := fw_freeP hG.2.2 hK.2.2
  exact va_calli hr hG.2.2 (fun q _ h => hF q h) hF (fun r u t H1 locs1 ht _ hw hB _ hk hS => kk r H1 locs1 hw (fw_over hG hk hS))
theorem fw_pcalll {W0 : va_W} {Q' : Int64 → Prop} (hr : va_Run p l e R s m args below meth c H locs cells slots 0 0 (F0 m pc ls st0) rest (fw_pQl Q' (va_A [] H.size) a) (va_A [] H.size)) (hG : fw_H G W0 A s H locs) (hK : fw_K G A s)
    (kk : ∀ (r : Int64) (H1 : Heap) (locs1 : List Loc), Q' r → fw_H G W0 A s H1 locs1 → W p l e R s m args below meth c H1 locs1 cells slots Q (F0 m (pc + 3) ls (.long r :: rest))) : W p l e R s m args below meth c H locs cells slots Q (F0 m pc ls st0) := by
  have hF := fw_freeP hG.2.2 hK.2.2
  exact va_calll hr hG.2.2 (fun q _ h => hF q h) hF (fun r u t H1 locs1 ht _ hw hB _ hk hS => kk r H1 locs1 hw (fw_over hG hk hS))
theorem fw_ppcalli {Q' : Int32 → Prop} (hr : va_Run p l e R s m args below meth c H locs cells slots 0 0 (F0 m pc ls st0) rest (fw_pQi Q' (va_A [] H.size) a) (va_A [] H.size)) (hS : va_S A s.heap H locs) (hA : ∀ q : Nat, s.heap.size ≤ q → A q)
    (kk : ∀ (r : Int32) (H1 : Heap) (locs1 : List Loc), Q' r → va_S A s.heap H1 locs1 → W p l e R s m args below meth c H1 locs1 cells slots Q (F0 m (pc + 3) ls (.int r :: rest))) : W p l e R s m args below meth c H locs cells slots Q (F0 m pc ls st0) := by
  have hF := fw_freeP hS hA
  exact va_calli hr hS (fun q _ h => hF q h) hF (fun r u t H1 locs1 ht _ hw hB _ hk hS => kk r H1 locs1 hw hS)
theorem fw_ppcalll {Q' : Int64 → Prop} (hr : va_Run p l e R s m args below meth c H locs cells slots 0 0 (F0 m pc ls st0) rest (fw_pQl Q' (va_A [] H.size) a) (va_A [] H.size)) (hS : va_S A s.heap H locs) (hA : ∀ q : Nat, s.heap.size ≤ q → A q)
    (kk : ∀ (r : Int64) (H1 : Heap) (locs1 : List Loc), Q' r → va_S A s.heap H1 locs1 → W p l e R s m args below meth c H1 locs1 cells slots Q (F0 m (pc + 3) ls (.long r :: rest))) : W p l e R s m args below meth c H locs cells slots Q (F0 m pc ls st0) := by
  have hF := fw_freeP hS hA
  exact va_calll hr hS (fun q _ h => hF q h) hF (fun r u t H1 locs1 ht _ hw hB _ hk hS => kk r H1 locs1 hw hS)
theorem fw_rcalli {Q' : Int32 → Prop} (hr : va_Run p l e R s m args below meth c H locs cells slots 0 0 (F0 m pc ls st0) rest (fw_Qi G w (fun r iv1 ar1 => Q' r ∧ iv = iv1 ∧ ar = ar1) (va_A (w iv ar) H.size) a) (va_A (w iv ar) H.size)) (hG : fw_H G (w iv ar) A s H locs) (hK : fw_K G A s)
    (kk : ∀ (r : Int32) (H1 : Heap) (locs1 : List Loc), Q' r → fw_H G (w iv ar) A s H1 locs1 → W p l e R s m args below meth c H1 locs1 cells slots Q (F0 m (pc + 3) ls (.int r :: rest))) : W p l e R s m args below meth c H locs cells slots Q (F0 m pc ls st0) :=
  fw_calli hr hG hK (fun r iv1 ar1 H1 locs1 h hG => by obtain ⟨h, rfl, rfl⟩ := h; exact kk r H1 locs1 h hG)
theorem fw_rcalll {Q' : Int64 → Prop} (hr : va_Run p l e R s m args below meth c H locs cells slots 0 0 (F0 m pc ls st0) rest (fw_Ql G w (fun r iv1 ar1 => Q' r ∧ iv = iv1 ∧ ar = ar1) (va_A (w iv ar) H.size) a) (va_A (w iv ar) H.size)) (hG : fw_H G (w iv ar) A s H locs) (hK : fw_K G A s)
    (kk : ∀ (r : Int64) (H1 : Heap) (locs1 : List Loc), Q' r → fw_H G (w iv ar) A s H1 locs1 → W p l e R s m args below meth c H1 locs1 cells slots Q (F0 m (pc + 3) ls (.long r :: rest))) : W p l e R s m args below meth c H locs cells slots Q (F0 m pc ls st0) :=
  fw_calll hr hG hK (fun r iv1 ar1 H1 locs1 h hG => by obtain ⟨h, rfl, rfl⟩ := h; exact kk r H1 locs1 h hG)
theorem fw_rcallq {Q' : Option Nat → Prop} {ka : Nat → Nat} (hr : va_Run p l e R s m args below meth c H locs cells slots 0 0 (F0 m pc ls st0) rest (fw_Qq G w (fun r iv1 ar1 => (∃ o : Option Nat, r = o.map ka ∧ Q' o) ∧ iv = iv1 ∧ ar = ar1) (va_A (w iv ar) H.size) a) (va_A (w iv ar) H.size)) (hG : fw_H G (w iv ar) A s H locs) (hK : fw_K G A s)
    (kk : ∀ (o : Option Nat) (H1 : Heap) (locs1 : List Loc), Q' o → fw_H G (w iv ar) A s H1 locs1 → W p l e R s m args below meth c H1 locs1 cells slots Q (F0 m (pc + 3) ls (va_rf (o.map ka) :: rest))) : W p l e R s m args below meth c H locs cells slots Q (F0 m pc ls st0) :=
  fw_callq hr hG hK (fun r iv1 ar1 H1 locs1 h hG => by obtain ⟨⟨o, rfl, h⟩, rfl, rfl⟩ := h; exact kk o H1 locs1 h hG)
-- ends
theorem fw_iret {Q' : Int32 → fw_F → fw_R → Prop} {v : Int32} (C : fw_C p s m args meth c cc nL (some .int) wd own) (hG : fw_H G (w iv ar) A s H locs) (hq : Q' v iv ar) (hdg : decode cc pc = .ok (.ireturn, 1)) : W p l e R s m args below meth c H locs 0 0 (MQ below (fw_Qi G w Q' A) args s 0 0 A) (F0 m pc ls [.int v]) :=
  W.iret C.1 C.2.1 C.2.2.1 (fun t ht hW => ⟨⟨v, (iv, ar), rfl, hq, by rw [ht]; exact hG.1, hG.2.1⟩, hG.2.2.F ht⟩) hG.2.2.2.2 hdg C.2.2.2.1
theorem fw_zret {Q' : Int32 → fw_F → fw_R → Prop} {v : Int32} (C : fw_C p s m args meth c cc nL (some .boolean) wd own) (hG : fw_H G (w iv ar) A s H locs) (hn : narrow .boolean (.int v) = .int v) (hq : Q' v iv ar) (hdg : decode cc pc = .ok (.ireturn, 1)) : W p l e R s m args below meth c H locs 0 0 (MQ below (fw_Qi G w Q' A) args s 0 0 A) (F0 m pc ls [.int v]) :=
  W.zret C.1 C.2.1 C.2.2.1 hn (fun t ht hW => ⟨⟨v, (iv, ar), rfl, hq, by rw [ht]; exact hG.1, hG.2.1⟩, hG.2.2.F ht⟩) hG.2.2.2.2 hdg C.2.2.2.1
theorem fw_lret {Q' : Int64 → fw_F → fw_R → Prop} {v : Int64} (C : fw_C p s m args meth c cc nL (some .long) wd own) (hG : fw_H G (w iv ar) A s H locs) (hq : Q' v iv ar) (hdg : decode cc pc = .ok (.lreturn, 1)) : W p l e R s m args below meth c H locs 0 0 (MQ below (fw_Ql G w Q' A) args s 0 0 A) (F0 m pc ls [.long v]) :=
  W.lret C.1 C.2.1 C.2.2.1 (fun t ht hW => ⟨⟨v, (iv, ar), rfl, hq, by rw [ht]; exact hG.1, hG.2.1⟩, hG.2.2.F ht⟩) hG.2.2.2.2 hdg C.2.2.2.1
theorem fw_vret {Q' : fw_F → fw_R → Prop} (C : fw_C p s m args meth c cc nL none wd own) (hG : fw_H G (w iv ar) A s H locs) (hq : Q' iv ar) (hdg : decode cc pc = .ok (.return_, 1)) : W p l e R s m args below meth c H locs 0 0 (MQ below (fw_Qv G w Q' A) args s 0 0 A) (F0 m pc ls []) :=
  W.vret C.1 C.2.1 C.2.2.1 (fun t ht hW => ⟨⟨(iv, ar), rfl, hq, by rw [ht]; exact hG.1, hG.2.1⟩, hG.2.2.F ht⟩) hG.2.2.2.2 hdg C.2.2.2.1
theorem fw_aret {Q' : Option Nat → fw_F → fw_R → Prop} {o : Option Nat} {cn : String} (C : fw_C p s m args meth c cc nL (some (.object cn)) wd own) (hG : fw_H G (w iv ar) A s H locs) (hq : Q' o iv ar) (hdg : decode cc pc = .ok (.areturn, 1)) : W p l e R s m args below meth c H locs 0 0 (MQ below (fw_Qq G w Q' A) args s 0 0 A) (F0 m pc ls [va_rf o]) :=
  W.aret C.1 C.2.1 C.2.2.1 (Or.inl ⟨cn, rfl⟩) (va_rf_or o) (fun t ht hW => ⟨⟨o, (iv, ar), rfl, hq, by rw [ht]; exact hG.1, hG.2.1⟩, hG.2.2.F ht⟩) hG.2.2.2.2 hdg C.2.2.2.1
theorem fw_piret {Q' : Int32 → Prop} {v : Int32} (C : fw_C p s m args meth c cc nL (some .int) wd own) (hS : va_S A s.heap H locs) (hq : Q' v) (hdg : decode cc pc = .ok (.ireturn, 1)) : W p l e R s m args below meth c H locs 0 0 (MQ below (fw_pQi Q' A) args s 0 0 A) (F0 m pc ls [.int v]) :=
  W.iret C.1 C.2.1 C.2.2.1 (fun t ht hW => ⟨⟨v, (), rfl, hq, trivial⟩, hS.F ht⟩) hS.2.2 hdg C.2.2.2.1
theorem fw_pzret {Q' : Int32 → Prop} {v : Int32} (C : fw_C p s m args meth c cc nL (some .boolean) wd own) (hS : va_S A s.heap H locs) (hn : narrow .boolean (.int v) = .int v) (hq : Q' v) (hdg : decode cc pc = .ok (.ireturn, 1)) : W p l e R s m args below meth c H locs 0 0 (MQ below (fw_pQi Q' A) args s 0 0 A) (F0 m pc ls [.int v]) :=
  W.zret C.1 C.2.1 C.2.2.1 hn (fun t ht hW => ⟨⟨v, (), rfl, hq, trivial⟩, hS.F ht⟩) hS.2.2 hdg C.2.2.2.1
theorem fw_plret {Q' : Int64 → Prop} {v : Int64} (C : fw_C p s m args meth c cc nL (some .long) wd own) (hS : va_S A s.heap H locs) (hq : Q' v) (hdg : decode cc pc = .ok (.lreturn, 1)) : W p l e R s m args below meth c H locs 0 0 (MQ below (fw_pQl Q' A) args s 0 0 A) (F0 m pc ls [.long v]) :=
  W.lret C.1 C.2.1 C.2.2.1 (fun t ht hW => ⟨⟨v, (), rfl, hq, trivial⟩, hS.F ht⟩) hS.2.2 hdg C.2.2.2.1
-- fields and rows
theorem fw_get (C : fw_C p s m args meth c cc nL rt wd own) {ref Cn : String} {T : u_T} {N ci index ad : Nat} (hin : ∀ x ∈ u_ws Cn T N, x ∈ wd) (hK : fw_K G A s) (hG : fw_H G (w iv ar) A s H locs) (q0 : Nat) {fs : List Value} (he : (w iv ar)[q0]? = some (ad, .inr (ci, fs))) (hc : vwCl[ci]? = some (Cn, T, N)) (k : Nat) (hk : k < N) (hlink : (Cond.fieldLink own index ref (T k).2.1 (T k).2.2.1).before args s = true) (href : (T k).1 = ref) {v : Value} (hv : fs[k]? = some v) (hdg : decode cc pc = .ok (.getfield index, 3))
    (kk : W p l e R s m args below meth c H locs cells slots Q (F0 m (pc + 3) ls (v :: rest))) : W p l e R s m args below meth c H locs cells slots Q (F0 m pc ls (.ref ad :: rest)) :=
  va_get C.1 C.2.1 C.2.2.2.2.1 hin C.2.2.2.2.2.1 hK.1 hG.1 q0 he hc k hk hlink (fun _ h9 => by rw [← href]; exact h9) hv hdg kk
theorem fw_put (C : fw_C p s m args meth c cc nL rt wd own) {ref Cn : String} {T : u_T} {N ci index ad : Nat} (hin : ∀ x ∈ u_ws Cn T N, x ∈ wd) (ty0 : Nat → FieldType) (hty : ∀ k, k < N → parseFieldDescriptor (T k).2.2.1 = some (ty0 k)) (hnm : ∀ a, a < N → ∀ b, b < N → a ≠ b → (T a).2.1 ≠ (T b).2.1) (hK : fw_K G A s) (hG : fw_H G (w iv ar) A s H locs) (q0 : Nat) {fs : List Value} (he : (w iv ar)[q0]? = some (ad, .inr (ci, fs))) (hc : vwCl[ci]? = some (Cn, T, N)) (k : Nat) (hk : k < N) (hlink : (Cond.fieldLink own index ref (T k).2.1 (T k).2.2.1).before args s = true) (href : (T k).1 = ref) (hfin : (T k).2.2.2 = false) {ty : FieldType} {v : Value} (hd : parseFieldDescriptor (T k).2.2.1 = some ty) (hn : narrow ty v = v) (hfit : fits ty v = true) (hl : k < fs.length) {iv1 : fw_F} (hiv : (w iv ar).set q0 (ad, .inr (ci, fs.set k v)) = w iv1 ar)
    (hdg : decode cc pc = .ok (.putfield index, 3)) (kk : ∀ (H1 : Heap) (locs1 : List Loc), fw_H G (w iv1 ar) A s H1 locs1 → W p l e R s m args below meth c H1 locs1 cells slots Q (F0 m (pc + 3) ls rest)) : W p l e R s m args below meth c H locs cells slots Q (F0 m pc ls (v :: .ref ad :: rest)) :=
  va_put C.1 C.2.1 C.2.2.2.2.1 hin ty0 hty hnm C.2.2.2.2.2.1 hK.1 hG.1 hG.2.1 hG.2.2 q0 he hc k hk hlink (fun _ h9 => by rw [← href]; exact h9) hfin hd hn hfit hl hdg (fun H1 locs1 h1 h2 h3 => kk H1 locs1 ⟨by rw [← hiv]; exact h1, by rw [← hiv]; exact h2, h3⟩)
theorem fw_iald (C : fw_C p s m args meth c cc nL rt wd own) (hK : fw_K G A s) (hG : fw_H G (w iv ar) A s H locs) (q0 : Nat) {ad n : Nat} {f : Nat → Int32} (ha : (w iv ar)[q0]? = some (ad, .inl (G.2.1.1, n, .inl f))) {i : Int32} (hin : vp_in i n) (hdg : decode cc pc = .ok (.iaload, 1))
    (kk : W p l e R s m args below meth c H locs cells slots Q (F0 m (pc + 1) ls (.int (f i.toNatClampNeg) :: rest))) : W p l e R s m args below meth c H locs cells slots Q (F0 m pc ls (.int i :: .ref ad :: rest)) :=
  va_iald C.1 C.2.1 hK.1 hG.1 q0 0 ha rfl hin hdg kk
theorem fw_zald (C : fw_C p s m args meth c cc nL rt wd own) (hK : fw_K G A s) (hG : fw_H G (w iv ar) A s H locs) (q0 : Nat) {ad n : Nat} {f : Nat → Int32} (ha : (w iv ar)[q0]? = some (ad, .inl (G.2.1.2.1, n, .inl f))) {i : Int32} (hin : vp_in i n) (hdg : decode cc pc = .ok (.baload, 1))
    (kk : W p l e R s m args below meth c H locs cells slots Q (F0 m (pc + 1) ls (.int (f i.toNatClampNeg) :: rest))) : W p l e R s m args below meth c H locs cells slots Q (F0 m pc ls (.int i :: .ref ad :: rest)) :=
  va_zald C.1 C.2.1 hK.1 hG.1 q0 1 ha rfl hin hdg kk
theorem fw_iast (C : fw_C p s m args meth c cc nL rt wd own) (hK : fw_K G A s) (hG : fw_H G (w iv ar) A s H locs) (q0 : Nat) {ad n : Nat} {f : Nat → Int32} (ha : (w iv ar)[q0]? = some (ad, .inl (G.2.1.1, n, .inl f))) {i x : Int32} (hin : vp_in i n) {ar1 : fw_R} (har : (w iv ar).set q0 (ad, .inl (G.2.1.1, n, .inl (upd f i.toNatClampNeg x))) = w iv ar1) (hdg : decode cc pc = .ok (.iastore, 1))
    (kk : ∀ (H1 : Heap) (locs1 : List Loc), fw_H G (w iv ar1) A s H1 locs1 → W p l e R s m args below meth c H1 locs1 cells slots Q (F0 m (pc + 1) ls rest)) : W p l e R s m args below meth c H locs cells slots Q (F0 m pc ls (.int x :: .int i :: .ref ad :: rest)) :=
  va_iast C.1 C.2.1 hK.1 hG.1 hG.2.1 hG.2.2 q0 0 ha rfl hin hdg (fun H1 locs1 h1 h2 h3 => kk H1 locs1 ⟨by rw [← har]; exact h1, by rw [← har]; exact h2, h3⟩)
theorem fw_zast (C : fw_C p s m args meth c cc nL rt wd own) (hK : fw_K G A s) (hG : fw_H G (w iv ar) A s H locs) (q0 : Nat) {ad n : Nat} {f : Nat → Int32} (ha : (w iv ar)[q0]? = some (ad, .inl (G.2.1.2.1, n, .inl f))) {i x : Int32} (hin : vp_in i n) {ar1 : fw_R} (har : (w iv ar).set q0 (ad, .inl (G.2.1.2.1, n, .inl (upd f i.toNatClampNeg (vp_nar .boolean x)))) = w iv ar1) (hdg : decode cc pc = .ok (.bastore, 1))
    (kk : ∀ (H1 : Heap) (locs1 : List Loc), fw_H G (w iv ar1) A s H1 locs1 → W p l e R s m args below meth c H1 locs1 cells slots Q (F0 m (pc + 1) ls rest)) : W p l e R s m args below meth c H locs cells slots Q (F0 m pc ls (.int x :: .int i :: .ref ad :: rest)) :=
  va_zast C.1 C.2.1 hK.1 hG.1 hG.2.1 hG.2.2 q0 1 ha rfl hin hdg (fun H1 locs1 h1 h2 h3 => kk H1 locs1 ⟨by rw [← har]; exact h1, by rw [← har]; exact h2, h3⟩)
end FWB
theorem fw_nb {v : Int32} (h : v = 0 ∨ v = 1) : narrow .boolean (.int v) = .int v := by
  rcases h with rfl | rfl <;> decide
theorem fw_fb {v : Int32} (h : v = 0 ∨ v = 1) : fits .boolean (.int v) = true := by
  rcases h with rfl | rfl <;> decide
