/-! seal, open, box, unbox: the roads that throw -/
abbrev A0 (s0 : State) : Nat → Prop := fun q => s0.heap.size ≤ q
abbrev wPt (s0 : State) (G : wG) (n : Nat) (ad : Nat → Nat) (ev : Nat → va_E) (av : List Value) : Array Value → State → Prop := fun v U => wPc G (A0 s0) n ad ev av v U ∧ OLD s0 U
/-- what the tables and the statics say of the two exceptions, as long as the old world stands -/
def TW (s0 : State) : Prop := (∀ (U : State) (args : Array Value), OLD s0 U → ∀ w ∈ (Cond.classLink "NonceBox" 98 "java/lang/IllegalArgumentException" :: Cond.initialized "java/lang/IllegalArgumentException" :: Bundle.ownAtoms "NonceBox" 102 "java/lang/IllegalArgumentException" ["java/lang/RuntimeException", "java/lang/Exception"]), w.before args U = true) ∧ (∀ (U : State) (args : Array Value), OLD s0 U → ∀ w ∈ (Cond.classLink "NonceBox" 115 "java/lang/IllegalStateException" :: Cond.initialized "java/lang/IllegalStateException" :: Bundle.ownAtoms "NonceBox" 119 "java/lang/IllegalStateException" ["java/lang/RuntimeException", "java/lang/Exception"]), w.before args U = true) ∧ (∃ tx q, vk_R "NonceBox" 100 tx q s0) ∧ (∃ tx q, vk_R "NonceBox" 109 tx q s0) ∧ ∃ tx q, vk_R "NonceBox" 117 tx q s0
theorem wv_ofT {s0 : State} {G : wG} {n : Nat} {ad : Nat → Nat} {ev : Nat → va_E} {l : Launch} {cc : ByteArray} {y : MethodName} {ws ws' : List Cond} {rm : Room} {maxL : Nat} {ret : Option FieldType} {av : List Value} {Qc : Array Value → State → Addr → State → Prop} {mc ms : Nat} (hy : plainName y.cls = true) (hw : ws = Cond.code y cc maxL ret :: ws') (hlen : (lg_sl av).length ≤ maxL)
    (body : ∀ (p : Program) (e : Env) (s : State) (m : MethodId) (below : List Frame) (meth : Method) (c : Code) (ls : Array Slot), p.tables.exec = Jvm.exec → c.code = cc → c.maxLocals = maxL → (∀ w ∈ ws, w.before av.toArray s = true) → s.vm.findClass y.cls = some m.cls → meth.locks = false → wT G (A0 s0) n ad ev s s.heap [] → lv_has ls maxL (lv_args 0 av) → OLD s0 s → e.platform.stackTraces = false → (∀ (x : ExceptionTableEntry), x ∈ c.exceptionTable.toList → ∀ k, covers x k = false) →
      W p l e rm s m av.toArray below meth c s.heap [] 0 0 (MQT below Qc av.toArray s mc ms (A0 s0)) (F0 m 0 ls [])) : MetT l y ws rm (wPt s0 G n ad ev av) Qc mc ms (A0 s0) := by
  refine MetT.ofW (cc := cc) (maxL := maxL) (ret := ret) hy hw ?_
  intro p e s m args below meth c s₁ B hml hv htr
  obtain ⟨⟨rfl, ⟨hK, hP, hD⟩, hA⟩, hO⟩ := hv
  have hts := atoms_spec (ws := ws) B.pre
  have hne := BodyLoose.noHandlers B (hts _ (by rw [hw]; exact List.mem_cons_self))
  have hl := lv_entry av (n := maxL) hlen
  rw [lg_entry_eq]
  generalize (lg_sl av ++ List.replicate (maxL - (lg_sl av).length) Slot.unset).toArray = ls at hl ⊢
  refine body p e s m below meth c ls B.exec B.bytes hml hts (findClass_of_methodNamed B.named) B.notSynchronized ⟨⟨hK, hP, hD⟩, va_S.rf, hA⟩ hl hO htr (fun x hx => ?_)
  rw [Array.isEmpty_iff.mp hne] at hx
  exact absurd hx (List.not_mem_nil)
