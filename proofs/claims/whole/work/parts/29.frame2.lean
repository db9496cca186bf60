/-- a method of the JDK's without a world -/
theorem fw_fstart {l : Launch} {y : MethodName} {wd wd' : List Cond} {rm : Room} {av : List Value} {Qc : (Nat → Prop) → Array Value → State → Outcome → State → Prop} {cc : ByteArray} {nL : Nat} {rt : Option FieldType} (hy : plainFor y = true) (hw : wd = Cond.code y cc nL rt :: wd') (hlen : (lg_sl av).length ≤ nL)
    (body : ∀ (p : Program) (e : Env) (s : State) (m : MethodId) (below : List Frame) (meth : Method) (c : Code) (A : Nat → Prop) (ls : Array Slot) (H : Heap) (locs : List Loc), fw_C p s m av.toArray meth c cc nL rt wd y.cls → (∀ q : Nat, s.heap.size ≤ q → A q) → va_S A s.heap H locs → lv_has ls nL (lv_args 0 av) →
      W p l e rm s m av.toArray below meth c H locs 0 0 (MQ below (Qc A) av.toArray s 0 0 A) (F0 m 0 ls [])) : fw_pM l y wd rm av Qc := by
  intro sz
  refine va_MetF (cc := cc) (maxL := nL) (ret := rt) hy hw ?_
  intro p e s m args below meth c s₁ B hml hv
  obtain ⟨rfl, hsz⟩ := hv
  have hts := atoms_spec (ws := wd) B.pre
  have hown : s.vm.findClass y.cls = some m.cls := findClass_of_methodNamed B.named
  subst hsz
  rw [lg_entry_eq]
  exact body p e s m below meth c (va_A [] s.heap.size) _ s.heap [] ⟨B.exec, B.bytes, B.returns, B.notSynchronized, hts, hown, hml⟩ (fun q h => Or.inr h) va_S.rf (lv_entry av (n := nL) hlen)
