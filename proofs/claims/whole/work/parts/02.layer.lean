/-! A layer over the kit's moving worlds: one world of n cells, cell k at the address ad k, holding ev k. -/
def wv (n : Nat) (ad : Nat → Nat) (ev : Nat → va_E) : va_W := (List.range n).map fun k => (ad k, ev k)
theorem wv_at {n : Nat} {ad : Nat → Nat} {ev : Nat → va_E} {k : Nat} (h : k < n) : (wv n ad ev)[k]? = some (ad k, ev k) := by
  simp [wv, h]
theorem wv_out {n : Nat} {ad : Nat → Nat} {ev : Nat → va_E} {k : Nat} (h : ¬ k < n) : (wv n ad ev)[k]? = none := by
  simp [wv]; omega
theorem wv_up {n : Nat} {ad : Nat → Nat} {ev : Nat → va_E} {k : Nat} {x : va_E} (hk : k < n) : (wv n ad ev).set k (ad k, x) = wv n ad (va_up ev k x) := by
  apply List.ext_getElem?
  intro i
  rw [List.getElem?_set]
  by_cases hi : i < n
  · rw [wv_at hi, wv_at hi]
    by_cases hik : k = i
    · subst hik
      rw [if_pos rfl, if_pos (by simp [wv]; exact hk), va_up_self]
    · rw [if_neg hik, va_up_ne ev x (fun q => hik q.symm)]
  · rw [wv_out hi, wv_out hi]
    by_cases hik : k = i
    · subst hik
      exact absurd hk hi
    · rw [if_neg hik]
theorem wv_push {n : Nat} {ad : Nat → Nat} {ev : Nat → va_E} {q : Nat} {x : va_E} : wv n ad ev ++ [(q, x)] = wv (n + 1) (va_up ad n q) (va_up ev n x) := by
  unfold wv
  rw [List.range_succ, List.map_append]
  congr 1
  · apply List.map_congr_left
    intro a ha
    have := List.mem_range.mp ha
    rw [va_up_ne ad q (by omega), va_up_ne ev x (by omega)]
  · simp [va_up]
theorem wv_congr {n : Nat} {ad ad' : Nat → Nat} {ev ev' : Nat → va_E} (h : ∀ k, k < n → ad k = ad' k) (h2 : ∀ k, k < n → ev k = ev' k) : wv n ad ev = wv n ad' ev' := by
  unfold wv
  apply List.map_congr_left
  intro a ha
  have := List.mem_range.mp ha
  rw [h a this, h2 a this]
abbrev wG : Type := va_G × ClassId × ClassId × ClassId
def wty (G : wG) : List (ClassId × FieldType) := [(G.2.1, .byte), (G.2.2.1, .int), (G.2.2.2, .long)]
abbrev eB (G : wG) (n : Nat) (f : Nat → Int32) : va_E := .inl (G.2.1, n, .inl f)
abbrev eI (G : wG) (n : Nat) (f : Nat → Int32) : va_E := .inl (G.2.2.1, n, .inl f)
abbrev eJ (G : wG) (n : Nat) (f : Nat → Int64) : va_E := .inl (G.2.2.2, n, .inr (.inl f))
abbrev eO (ci : Nat) (fs : List Value) : va_E := .inr (ci, fs)
def wS (G : wG) (A : Nat → Prop) (n : Nat) (ad : Nat → Nat) (ev : Nat → va_E) (U : State) (H : Heap) : Prop := va_K G.1 vwCl (wty G) U ∧ va_P G.1 vwCl (wv n ad ev) H ∧ va_D A (wv n ad ev)
def wT (G : wG) (A : Nat → Prop) (n : Nat) (ad : Nat → Nat) (ev : Nat → va_E) (s : State) (H : Heap) (locs : List Loc) : Prop := wS G A n ad ev s H ∧ va_S A s.heap H locs ∧ ∀ q : Nat, s.heap.size ≤ q → A q
def wPc (G : wG) (A : Nat → Prop) (n : Nat) (ad : Nat → Nat) (ev : Nat → va_E) (av : List Value) : Array Value → State → Prop := fun v U => v = av.toArray ∧ wS G A n ad ev U U.heap ∧ ∀ q : Nat, U.heap.size ≤ q → A q
def wQc (G : wG) (A : Nat → Prop) (n : Nat) (ad : Nat → Nat) (post : Option Value → (Nat → va_E) → Prop) : Array Value → State → Outcome → State → Prop := fun _ st oc t => (∃ (ov : Option Value) (ev' : Nat → va_E), oc = .returned ov ∧ post ov ev' ∧ wS G A n ad ev' t t.heap) ∧ va_F A st t
/-- the end of a method that makes cells: the world has grown -/
def wQn (G : wG) (A : Nat → Prop) (post : Option Value → Nat → (Nat → Nat) → (Nat → va_E) → Prop) : Array Value → State → Outcome → State → Prop := fun _ st oc t => (∃ (ov : Option Value) (n' : Nat) (ad' : Nat → Nat) (ev' : Nat → va_E), oc = .returned ov ∧ post ov n' ad' ev' ∧ wS G A n' ad' ev' t t.heap) ∧ va_F A st t
/-- a contract of a method that makes no cell -/
abbrev wM (l : Launch) (y : MethodName) (ws : List Cond) (rm : Room) (G : wG) (A : Nat → Prop) (n : Nat) (ad : Nat → Nat) (ev : Nat → va_E) (av : List Value) (post : Option Value → (Nat → va_E) → Prop) : Prop := Met l y ws rm (wPc G A n ad ev av) (wQc G A n ad post) 0 0 A
/-- a contract of a method that makes mc cells of ms slots -/
abbrev wN (l : Launch) (y : MethodName) (ws : List Cond) (rm : Room) (G : wG) (A : Nat → Prop) (n : Nat) (ad : Nat → Nat) (ev : Nat → va_E) (av : List Value) (mc ms : Nat) (post : Option Value → Nat → (Nat → Nat) → (Nat → va_E) → Prop) : Prop := Met l y ws rm (wPc G A n ad ev av) (wQn G A post) mc ms A
theorem wPc_blind {G : wG} {A : Nat → Prop} {n : Nat} {ad : Nat → Nat} {ev : Nat → va_E} {av : List Value} : FrameBlind (wPc G A n ad ev av) := by
  intro a U g mk q
  obtain ⟨q0, ⟨qK, qP, qD⟩, q2⟩ := q
  exact ⟨q0, ⟨va_K.moved (u := U) (U := U.calling g mk a) (Vm.Alike.refl U.vm) qK, qP, qD⟩, q2⟩
section WVB
variable {p : Program} {l : Launch} {e : Env} {R : Room} {s : State} {m : MethodId} {args : Array Value} {below : List Frame} {meth : Method} {c : Code} {H : Heap} {locs : List Loc} {cells slots : Nat} {Q : State → Prop} {cc : ByteArray} {pc : Nat} {ls : Array Slot} {rest st0 : List Value} {G : wG} {A : Nat → Prop} {n : Nat} {ad : Nat → Nat} {ev : Nat → va_E}
theorem wT.preS {av : List Value} (h : wT G A n ad ev s H locs) : PreS s H (wPc G A n ad ev av) av := by
  obtain ⟨⟨hK, hP, hD⟩, hS, hA⟩ := h
  exact ⟨wPc_blind, fun U hU hW => ⟨rfl, ⟨va_K.moved hW.alike hK, by rw [hU]; exact hP, hD⟩, fun q hq => hA q (Nat.le_trans hS.1 (by rw [hU] at hq; exact hq))⟩⟩
theorem wT.preV {As : List Value} (h : wT G A n ad ev s H locs) (q : Nat) (hq : q < n) {ci : Nat} {fs : List Value} {C : String} {T : u_T} {N : Nat} (hev : ev q = eO ci fs) (hc : vwCl[ci]? = some (C, T, N)) : PreV s H C (ad q) (wPc G A n ad ev (.ref (ad q) :: As)) As := by
  obtain ⟨hb, hp⟩ := h.preS (av := .ref (ad q) :: As)
  exact ⟨hb, va_recv h.1.1 h.1.2.1 hc (q0 := q) (by rw [wv_at hq, hev]), hp⟩
theorem wv_call {mc ms : Nat} {a : Array Value} {post : Option Value → (Nat → va_E) → Prop} (h : wT G A n ad ev s H locs) (hr : va_Run p l e R s m args below meth c H locs cells slots mc ms (F0 m pc ls st0) rest (wQc G A n ad post a) A)
    (kk : ∀ (ov : Option Value) (ev' : Nat → va_E) (H1 : Heap) (locs1 : List Loc), post ov ev' → wT G A n ad ev' s H1 locs1 → W p l e R s m args below meth c H1 locs1 (cells + mc) (slots + ms) Q (F0 m (pc + 3) ls (ov.toList ++ rest))) : W p l e R s m args below meth c H locs cells slots Q (F0 m pc ls st0) := by
  intro T hT X
  obtain ⟨v, st₀, t, T', L, h0, X', hL, e1, e2, ⟨⟨ov, ev', hv, hp, hK1, hP1, hD1⟩, hz, hk⟩, st⟩ := hr T hT X
  cases hv
  rw [h0] at hz hk
  obtain ⟨⟨hK, hP, hD⟩, hS, hA⟩ := h
  have hal : s.vm.Alike t.vm := by rw [← e2]; exact X'.warmed.alike
  obtain ⟨t2, a1, b1⟩ := kk v ev' T'.heap (locs ++ L) hp ⟨⟨va_K.moved hal.symm hK1, by rw [e1]; exact hP1, hD1⟩, ⟨Nat.le_trans hS.1 (by rw [e1]; exact hz), fun q h1 h2 => by rw [e1, hk q (Nat.lt_of_lt_of_le h1 hS.1) h2]; exact hS.2.1 q h1 h2, fun q hq => by
      rcases List.mem_append.mp hq with h | h
      · exact hS.2.2 q h
      · exact hL q h⟩, hA⟩ T' rfl X'
  exact ⟨t2, st t2 a1, b1⟩
theorem wv_calln {mc ms : Nat} {a : Array Value} {post : Option Value → Nat → (Nat → Nat) → (Nat → va_E) → Prop} (h : wT G A n ad ev s H locs) (hr : va_Run p l e R s m args below meth c H locs cells slots mc ms (F0 m pc ls st0) rest (wQn G A post a) A)
    (kk : ∀ (ov : Option Value) (n' : Nat) (ad' : Nat → Nat) (ev' : Nat → va_E) (H1 : Heap) (locs1 : List Loc), post ov n' ad' ev' → wT G A n' ad' ev' s H1 locs1 → W p l e R s m args below meth c H1 locs1 (cells + mc) (slots + ms) Q (F0 m (pc + 3) ls (ov.toList ++ rest))) : W p l e R s m args below meth c H locs cells slots Q (F0 m pc ls st0) := by
  intro T hT X
  obtain ⟨v, st₀, t, T', L, h0, X', hL, e1, e2, ⟨⟨ov, n', ad', ev', hv, hp, hK1, hP1, hD1⟩, hz, hk⟩, st⟩ := hr T hT X
  cases hv
  rw [h0] at hz hk
  obtain ⟨⟨hK, hP, hD⟩, hS, hA⟩ := h
  have hal : s.vm.Alike t.vm := by rw [← e2]; exact X'.warmed.alike
  obtain ⟨t2, a1, b1⟩ := kk v n' ad' ev' T'.heap (locs ++ L) hp ⟨⟨va_K.moved hal.symm hK1, by rw [e1]; exact hP1, hD1⟩, ⟨Nat.le_trans hS.1 (by rw [e1]; exact hz), fun q h1 h2 => by rw [e1, hk q (Nat.lt_of_lt_of_le h1 hS.1) h2]; exact hS.2.1 q h1 h2, fun q hq => by
      rcases List.mem_append.mp hq with h | h
      · exact hS.2.2 q h
      · exact hL q h⟩, hA⟩ T' rfl X'
  exact ⟨t2, st t2 a1, b1⟩
theorem wv_ofW {y : MethodName} {ws ws' : List Cond} {rm : Room} {maxL : Nat} {ret : Option FieldType} {av : List Value} {Qc : Array Value → State → Outcome → State → Prop} {mc ms : Nat} (hy : plainName y.cls = true) (hw : ws = Cond.code y cc maxL ret :: ws') (hlen : (lg_sl av).length ≤ maxL)
    (body : ∀ (p : Program) (e : Env) (s : State) (m : MethodId) (below : List Frame) (meth : Method) (c : Code) (ls : Array Slot), p.tables.exec = Jvm.exec → c.code = cc → meth.sig.returnType = ret → c.maxLocals = maxL → (∀ w ∈ ws, w.before av.toArray s = true) → s.vm.findClass y.cls = some m.cls → meth.locks = false → (y.name = "<init>" → meth.name = "<init>") → wT G A n ad ev s s.heap [] → lv_has ls maxL (lv_args 0 av) →
      W p l e rm s m av.toArray below meth c s.heap [] 0 0 (MQ below Qc av.toArray s mc ms A) (F0 m 0 ls [])) : Met l y ws rm (wPc G A n ad ev av) Qc mc ms A := by
  refine Met.ofW (cc := cc) (maxL := maxL) (ret := ret) hy hw ?_
  intro p e s m args below meth c s₁ B hml hv
  obtain ⟨rfl, ⟨hK, hP, hD⟩, hA⟩ := hv
  have hl := lv_entry av (n := maxL) hlen
  rw [lg_entry_eq]
  generalize (lg_sl av ++ List.replicate (maxL - (lg_sl av).length) Slot.unset).toArray = ls at hl ⊢
  exact body p e s m below meth c ls B.exec B.bytes B.returns hml (atoms_spec (ws := ws) B.pre) (findClass_of_methodNamed B.named) B.notSynchronized (fun hi => (name_of_methodNamed B.named B.method).1.trans hi) ⟨⟨hK, hP, hD⟩, va_S.rf, hA⟩ hl
theorem wv_vret {post : Option Value → (Nat → va_E) → Prop} (hx : p.tables.exec = Jvm.exec) (hb : c.code = cc) (hr : meth.sig.returnType = none) (hlocks : meth.locks = false) (h : wT G A n ad ev s H locs) (hdg : decode cc pc = .ok (.return_, 1)) (hp : post none ev) : W p l e R s m args below meth c H locs cells slots (MQ below (wQc G A n ad post) args s cells slots A) (F0 m pc ls []) :=
  W.vret hx hb hr (fun t ht hW => ⟨⟨none, ev, rfl, hp, va_K.moved hW.alike h.1.1, by rw [ht]; exact h.1.2.1, h.1.2.2⟩, h.2.1.F ht⟩) h.2.1.2.2 hdg hlocks
theorem wv_iret {v : Int32} {post : Option Value → (Nat → va_E) → Prop} (hx : p.tables.exec = Jvm.exec) (hb : c.code = cc) (hr : meth.sig.returnType = some .int) (hlocks : meth.locks = false) (h : wT G A n ad ev s H locs) (hdg : decode cc pc = .ok (.ireturn, 1)) (hp : post (some (.int v)) ev) : W p l e R s m args below meth c H locs cells slots (MQ below (wQc G A n ad post) args s cells slots A) (F0 m pc ls [.int v]) :=
  W.iret hx hb hr (fun t ht hW => ⟨⟨_, ev, rfl, hp, va_K.moved hW.alike h.1.1, by rw [ht]; exact h.1.2.1, h.1.2.2⟩, h.2.1.F ht⟩) h.2.1.2.2 hdg hlocks
theorem wv_zret {v : Int32} {ty : FieldType} {post : Option Value → (Nat → va_E) → Prop} (hx : p.tables.exec = Jvm.exec) (hb : c.code = cc) (hr : meth.sig.returnType = some ty) (hlocks : meth.locks = false) (h : wT G A n ad ev s H locs) (hdg : decode cc pc = .ok (.ireturn, 1)) (hn : narrow ty (.int v) = .int v) (hp : post (some (.int v)) ev) : W p l e R s m args below meth c H locs cells slots (MQ below (wQc G A n ad post) args s cells slots A) (F0 m pc ls [.int v]) :=
  W.zret hx hb hr hn (fun t ht hW => ⟨⟨_, ev, rfl, hp, va_K.moved hW.alike h.1.1, by rw [ht]; exact h.1.2.1, h.1.2.2⟩, h.2.1.F ht⟩) h.2.1.2.2 hdg hlocks
theorem wv_lret {v : Int64} {post : Option Value → (Nat → va_E) → Prop} (hx : p.tables.exec = Jvm.exec) (hb : c.code = cc) (hr : meth.sig.returnType = some .long) (hlocks : meth.locks = false) (h : wT G A n ad ev s H locs) (hdg : decode cc pc = .ok (.lreturn, 1)) (hp : post (some (.long v)) ev) : W p l e R s m args below meth c H locs cells slots (MQ below (wQc G A n ad post) args s cells slots A) (F0 m pc ls [.long v]) :=
  W.lret hx hb hr (fun t ht hW => ⟨⟨_, ev, rfl, hp, va_K.moved hW.alike h.1.1, by rw [ht]; exact h.1.2.1, h.1.2.2⟩, h.2.1.F ht⟩) h.2.1.2.2 hdg hlocks
theorem wv_aret {v : Value} {rt : FieldType} {post : Option Value → (Nat → va_E) → Prop} (hx : p.tables.exec = Jvm.exec) (hb : c.code = cc) (hr : meth.sig.returnType = some rt) (hlocks : meth.locks = false) (h : wT G A n ad ev s H locs) (hdg : decode cc pc = .ok (.areturn, 1)) (hrt : (∃ n, rt = .object n) ∨ ∃ t, rt = .array t) (hv : v = .null ∨ ∃ a, v = .ref a) (hp : post (some v) ev) : W p l e R s m args below meth c H locs cells slots (MQ below (wQc G A n ad post) args s cells slots A) (F0 m pc ls [v]) :=
  W.aret hx hb hr hrt hv (fun t ht hW => ⟨⟨_, ev, rfl, hp, va_K.moved hW.alike h.1.1, by rw [ht]; exact h.1.2.1, h.1.2.2⟩, h.2.1.F ht⟩) h.2.1.2.2 hdg hlocks
/-! heap rows: the cell's place q; an index that is nI k -/
theorem wv_bald (hx : p.tables.exec = Jvm.exec) (hb : c.code = cc) (h : wT G A n ad ev s H locs) (q : Nat) (hq : q < n) {N : Nat} {f : Nat → Int32} (hev : ev q = eB G N f) {i : Int32} {k : Nat} (hi : i = nI k) (hk : k < N) (hN : N < 2 ^ 31) (hdg : decode cc pc = .ok (.baload, 1))
    (kk : W p l e R s m args below meth c H locs cells slots Q (F0 m (pc + 1) ls (.int (f k) :: rest))) : W p l e R s m args below meth c H locs cells slots Q (F0 m pc ls (.int i :: .ref (ad q) :: rest)) := by
  subst hi
  refine va_bald hx hb h.1.1 h.1.2.1 q 0 (by rw [wv_at hq, hev]) rfl (vp_in_nI hk hN) hdg ?_
  rw [nI_clamp (by omega)]
  exact kk
theorem wv_iald (hx : p.tables.exec = Jvm.exec) (hb : c.code = cc) (h : wT G A n ad ev s H locs) (q : Nat) (hq : q < n) {N : Nat} {f : Nat → Int32} (hev : ev q = eI G N f) {i : Int32} {k : Nat} (hi : i = nI k) (hk : k < N) (hN : N < 2 ^ 31) (hdg : decode cc pc = .ok (.iaload, 1))
    (kk : W p l e R s m args below meth c H locs cells slots Q (F0 m (pc + 1) ls (.int (f k) :: rest))) : W p l e R s m args below meth c H locs cells slots Q (F0 m pc ls (.int i :: .ref (ad q) :: rest)) := by
  subst hi
  refine va_iald hx hb h.1.1 h.1.2.1 q 1 (by rw [wv_at hq, hev]) rfl (vp_in_nI hk hN) hdg ?_
  rw [nI_clamp (by omega)]
  exact kk
theorem wv_lald (hx : p.tables.exec = Jvm.exec) (hb : c.code = cc) (h : wT G A n ad ev s H locs) (q : Nat) (hq : q < n) {N : Nat} {f : Nat → Int64} (hev : ev q = eJ G N f) {i : Int32} {k : Nat} (hi : i = nI k) (hk : k < N) (hN : N < 2 ^ 31) (hdg : decode cc pc = .ok (.laload, 1))
    (kk : W p l e R s m args below meth c H locs cells slots Q (F0 m (pc + 1) ls (.long (f k) :: rest))) : W p l e R s m args below meth c H locs cells slots Q (F0 m pc ls (.int i :: .ref (ad q) :: rest)) := by
  subst hi
  refine va_lald hx hb h.1.1 h.1.2.1 q 2 (by rw [wv_at hq, hev]) rfl (vp_in_nI hk hN) hdg ?_
  rw [nI_clamp (by omega)]
  exact kk
theorem wv_bast (hx : p.tables.exec = Jvm.exec) (hb : c.code = cc) (h : wT G A n ad ev s H locs) (q : Nat) (hq : q < n) {N : Nat} {f : Nat → Int32} (hev : ev q = eB G N f) {i x : Int32} {k : Nat} (hi : i = nI k) (hk : k < N) (hN : N < 2 ^ 31) (hdg : decode cc pc = .ok (.bastore, 1))
    (kk : ∀ (H1 : Heap) (locs1 : List Loc), wT G A n ad (va_up ev q (eB G N (va_up f k (vp_nar .byte x)))) s H1 locs1 → W p l e R s m args below meth c H1 locs1 cells slots Q (F0 m (pc + 1) ls rest)) : W p l e R s m args below meth c H locs cells slots Q (F0 m pc ls (.int x :: .int i :: .ref (ad q) :: rest)) := by
  subst hi
  refine va_bast hx hb h.1.1 h.1.2.1 h.1.2.2 h.2.1 q 0 (by rw [wv_at hq, hev]) rfl (vp_in_nI hk hN) hdg (fun H1 locs1 hP hD hS => ?_)
  rw [nI_clamp (by omega), wv_up hq] at hP hD
  exact kk H1 locs1 ⟨⟨h.1.1, hP, hD⟩, hS, h.2.2⟩
theorem wv_iast (hx : p.tables.exec = Jvm.exec) (hb : c.code = cc) (h : wT G A n ad ev s H locs) (q : Nat) (hq : q < n) {N : Nat} {f : Nat → Int32} (hev : ev q = eI G N f) {i x : Int32} {k : Nat} (hi : i = nI k) (hk : k < N) (hN : N < 2 ^ 31) (hdg : decode cc pc = .ok (.iastore, 1))
    (kk : ∀ (H1 : Heap) (locs1 : List Loc), wT G A n ad (va_up ev q (eI G N (va_up f k x))) s H1 locs1 → W p l e R s m args below meth c H1 locs1 cells slots Q (F0 m (pc + 1) ls rest)) : W p l e R s m args below meth c H locs cells slots Q (F0 m pc ls (.int x :: .int i :: .ref (ad q) :: rest)) := by
  subst hi
  refine va_iast hx hb h.1.1 h.1.2.1 h.1.2.2 h.2.1 q 1 (by rw [wv_at hq, hev]) rfl (vp_in_nI hk hN) hdg (fun H1 locs1 hP hD hS => ?_)
  rw [nI_clamp (by omega), wv_up hq] at hP hD
  exact kk H1 locs1 ⟨⟨h.1.1, hP, hD⟩, hS, h.2.2⟩
theorem wv_last (hx : p.tables.exec = Jvm.exec) (hb : c.code = cc) (h : wT G A n ad ev s H locs) (q : Nat) (hq : q < n) {N : Nat} {f : Nat → Int64} (hev : ev q = eJ G N f) {i : Int32} {x : Int64} {k : Nat} (hi : i = nI k) (hk : k < N) (hN : N < 2 ^ 31) (hdg : decode cc pc = .ok (.lastore, 1))
    (kk : ∀ (H1 : Heap) (locs1 : List Loc), wT G A n ad (va_up ev q (eJ G N (va_up f k x))) s H1 locs1 → W p l e R s m args below meth c H1 locs1 cells slots Q (F0 m (pc + 1) ls rest)) : W p l e R s m args below meth c H locs cells slots Q (F0 m pc ls (.long x :: .int i :: .ref (ad q) :: rest)) := by
  subst hi
  refine va_last hx hb h.1.1 h.1.2.1 h.1.2.2 h.2.1 q 2 (by rw [wv_at hq, hev]) rfl (vp_in_nI hk hN) hdg (fun H1 locs1 hP hD hS => ?_)
  rw [nI_clamp (by omega), wv_up hq] at hP hD
  exact kk H1 locs1 ⟨⟨h.1.1, hP, hD⟩, hS, h.2.2⟩
end WVB
section WVC
variable {p : Program} {l : Launch} {e : Env} {R : Room} {s : State} {m : MethodId} {args : Array Value} {below : List Frame} {meth : Method} {c : Code} {H : Heap} {locs : List Loc} {cells slots : Nat} {Q : State → Prop} {cc : ByteArray} {pc : Nat} {ls : Array Slot} {rest st0 : List Value} {G : wG} {A : Nat → Prop} {n : Nat} {ad : Nat → Nat} {ev : Nat → va_E}
theorem wv_getf (hx : p.tables.exec = Jvm.exec) (hb : c.code = cc) (h : wT G A n ad ev s H locs) (q : Nat) (hq : q < n) {ci : Nat} {fs : List Value} (hev : ev q = eO ci fs) {own ref C : String} {T : u_T} {N index : Nat} {Ts : List Cond} (hts : ∀ w ∈ Ts, w.before args s = true) (hin : ∀ w ∈ u_ws C T N, w ∈ Ts) (hown : s.vm.findClass own = some m.cls) (hc : vwCl[ci]? = some (C, T, N)) (k : Nat) (hk : k < N) (hlink : (Cond.fieldLink own index ref (T k).2.1 (T k).2.2.1).before args s = true) (hsame : (T k).1 = ref) {v : Value} (hv : fs[k]? = some v) (hdg : decode cc pc = .ok (.getfield index, 3))
    (kk : W p l e R s m args below meth c H locs cells slots Q (F0 m (pc + 3) ls (v :: rest))) : W p l e R s m args below meth c H locs cells slots Q (F0 m pc ls (.ref (ad q) :: rest)) :=
  va_get hx hb hts hin hown h.1.1 h.1.2.1 q (by rw [wv_at hq, hev]) hc k hk hlink (fun x hx => by rw [← hsame]; exact hx) hv hdg kk
theorem wv_putf (hx : p.tables.exec = Jvm.exec) (hb : c.code = cc) (h : wT G A n ad ev s H locs) (q : Nat) (hq : q < n) {ci : Nat} {fs : List Value} (hev : ev q = eO ci fs) {own ref C : String} {T : u_T} {N index : Nat} {Ts : List Cond} (hts : ∀ w ∈ Ts, w.before args s = true) (hin : ∀ w ∈ u_ws C T N, w ∈ Ts) (ty0 : Nat → FieldType) (hty : ∀ k, k < N → parseFieldDescriptor (T k).2.2.1 = some (ty0 k)) (hnm : ∀ a, a < N → ∀ b, b < N → a ≠ b → (T a).2.1 ≠ (T b).2.1) (hown : s.vm.findClass own = some m.cls) (hc : vwCl[ci]? = some (C, T, N)) (k : Nat) (hk : k < N) (hlink : (Cond.fieldLink own index ref (T k).2.1 (T k).2.2.1).before args s = true) (hsame : (T k).1 = ref) (hfin : (T k).2.2.2 = false) {v : Value} (hn : narrow (ty0 k) v = v) (hfit : fits (ty0 k) v = true) (hl : k < fs.length)
    (hdg : decode cc pc = .ok (.putfield index, 3)) (kk : ∀ (H1 : Heap) (locs1 : List Loc), wT G A n ad (va_up ev q (eO ci (fs.set k v))) s H1 locs1 → W p l e R s m args below meth c H1 locs1 cells slots Q (F0 m (pc + 3) ls rest)) : W p l e R s m args below meth c H locs cells slots Q (F0 m pc ls (v :: .ref (ad q) :: rest)) := by
  refine va_put hx hb hts hin ty0 hty hnm hown h.1.1 h.1.2.1 h.1.2.2 h.2.1 q (by rw [wv_at hq, hev]) hc k hk hlink (fun x hx => by rw [← hsame]; exact hx) hfin (hty k hk) hn hfit hl hdg (fun H1 locs1 hP hD hS => ?_)
  rw [wv_up hq] at hP hD
  exact kk H1 locs1 ⟨⟨h.1.1, hP, hD⟩, hS, h.2.2⟩
theorem wv_putF (hx : p.tables.exec = Jvm.exec) (hb : c.code = cc) (h : wT G A n ad ev s H locs) (q : Nat) (hq : q < n) {ci : Nat} {fs : List Value} (hev : ev q = eO ci fs) {own ref C : String} {T : u_T} {N index : Nat} {Ts : List Cond} (hts : ∀ w ∈ Ts, w.before args s = true) (hin : ∀ w ∈ u_ws C T N, w ∈ Ts) (ty0 : Nat → FieldType) (hty : ∀ k, k < N → parseFieldDescriptor (T k).2.2.1 = some (ty0 k)) (hnm : ∀ a, a < N → ∀ b, b < N → a ≠ b → (T a).2.1 ≠ (T b).2.1) (hown : s.vm.findClass own = some m.cls) (hc : vwCl[ci]? = some (C, T, N)) (k : Nat) (hk : k < N) (hlink : (Cond.fieldLink own index ref (T k).2.1 (T k).2.2.1).before args s = true) (hsame : (T k).1 = ref) (hfin : (T k).2.2.2 = true) (hin2 : meth.name = "<init>") (hdecl : (T k).1 = own) {v : Value} (hn : narrow (ty0 k) v = v) (hfit : fits (ty0 k) v = true) (hl : k < fs.length)
    (hdg : decode cc pc = .ok (.putfield index, 3)) (kk : ∀ (H1 : Heap) (locs1 : List Loc), wT G A n ad (va_up ev q (eO ci (fs.set k v))) s H1 locs1 → W p l e R s m args below meth c H1 locs1 cells slots Q (F0 m (pc + 3) ls rest)) : W p l e R s m args below meth c H locs cells slots Q (F0 m pc ls (v :: .ref (ad q) :: rest)) := by
  refine va_putF hx hb hts hin ty0 hty hnm hown h.1.1 h.1.2.1 h.1.2.2 h.2.1 q (by rw [wv_at hq, hev]) hc k hk hlink (fun x hx => by rw [← hsame]; exact hx) hfin hin2 hdecl (hty k hk) hn hfit hl hdg (fun H1 locs1 hP hD hS => ?_)
  rw [wv_up hq] at hP hD
  exact kk H1 locs1 ⟨⟨h.1.1, hP, hD⟩, hS, h.2.2⟩
theorem wv_alenB (hx : p.tables.exec = Jvm.exec) (hb : c.code = cc) (h : wT G A n ad ev s H locs) (q : Nat) (hq : q < n) {N : Nat} {f : Nat → Int32} (hev : ev q = eB G N f) (hdg : decode cc pc = .ok (.arraylength, 1))
    (kk : W p l e R s m args below meth c H locs cells slots Q (F0 m (pc + 1) ls (.int (nI N) :: rest))) : W p l e R s m args below meth c H locs cells slots Q (F0 m pc ls (.ref (ad q) :: rest)) :=
  va_alen (x := (N, .inl f)) hx hb h.1.1 h.1.2.1 q 0 (by rw [wv_at hq, hev]) rfl rfl hdg kk
theorem wv_alenI (hx : p.tables.exec = Jvm.exec) (hb : c.code = cc) (h : wT G A n ad ev s H locs) (q : Nat) (hq : q < n) {N : Nat} {f : Nat → Int32} (hev : ev q = eI G N f) (hdg : decode cc pc = .ok (.arraylength, 1))
    (kk : W p l e R s m args below meth c H locs cells slots Q (F0 m (pc + 1) ls (.int (nI N) :: rest))) : W p l e R s m args below meth c H locs cells slots Q (F0 m pc ls (.ref (ad q) :: rest)) :=
  va_alen (x := (N, .inl f)) hx hb h.1.1 h.1.2.1 q 1 (by rw [wv_at hq, hev]) rfl rfl hdg kk
theorem wv_alenJ (hx : p.tables.exec = Jvm.exec) (hb : c.code = cc) (h : wT G A n ad ev s H locs) (q : Nat) (hq : q < n) {N : Nat} {f : Nat → Int64} (hev : ev q = eJ G N f) (hdg : decode cc pc = .ok (.arraylength, 1))
    (kk : W p l e R s m args below meth c H locs cells slots Q (F0 m (pc + 1) ls (.int (nI N) :: rest))) : W p l e R s m args below meth c H locs cells slots Q (F0 m pc ls (.ref (ad q) :: rest)) :=
  va_alen (x := (N, .inr (.inl f))) hx hb h.1.1 h.1.2.1 q 2 (by rw [wv_at hq, hev]) rfl rfl hdg kk
/-! System.arraycopy between rows of one kind -/
theorem wv_copyb (hx : p.tables.exec = Jvm.exec) (hb : c.code = cc) (hml : c.maxLocals = ls.size) (h : wT G A n ad ev s H locs) {own : String} {index : Nat} (hown : s.vm.findClass own = some m.cls) (hlink : (Cond.methodLink own index arraycopyName).before args s = true) (hnat : (Cond.native arraycopyName).before args s = true) (hstat : (Cond.static arraycopyName).before args s = true) (hini : (Cond.initialized "java/lang/System").before args s = true)
    (q0 q1 : Nat) (hq0 : q0 < n) (hq1 : q1 < n) {n0 n1 : Nat} {f g : Nat → Int32} (h0 : ev q0 = eB G n0 f) (h1 : ev q1 = eB G n1 g) {sp dp k : Int32} {a b d : Nat} (ha : sp = nI a) (hd : dp = nI b) (hk : k = nI d) (h4 : a + d ≤ n0) (h5 : b + d ≤ n1) (hn0 : n0 < 2 ^ 31) (hn1 : n1 < 2 ^ 31) (hfit : ∀ i, i < d → fits .byte (.int (f (a + i))) = true)
    (hframes : 1 ≤ R.frames) (hlocals : (rest.map fun v => v.category).sum + (nativeFrameWords "java/lang/System" "arraycopy" 5 + 11) ≤ R.locals) (hdg : decode cc pc = .ok (.invokestatic index, 3))
    (kk : ∀ (H1 : Heap) (locs1 : List Loc), wT G A n ad (va_up ev q1 (eB G n1 (va_cpy f g a b d))) s H1 locs1 → W p l e R s m args below meth c H1 locs1 cells slots Q (F0 m (pc + 3) ls rest)) : W p l e R s m args below meth c H locs cells slots Q (F0 m pc ls (.int k :: .int dp :: .ref (ad q1) :: .int sp :: .ref (ad q0) :: rest)) := by
  subst ha hd hk
  refine va_copyi (ty := .byte) hx hb hml hown hlink hnat hstat hini h.1.1 h.1.2.1 h.1.2.2 h.2.1 q0 q1 0 0 (by rw [wv_at hq0, h0]) (by rw [wv_at hq1, h1]) rfl rfl rfl (nI_pos (by omega)) (nI_pos (by omega)) (nI_pos (by omega)) (by rw [nI_clamp (by omega), nI_clamp (by omega)]; exact h4) (by rw [nI_clamp (by omega), nI_clamp (by omega)]; exact h5) (by rw [nI_clamp (by omega), nI_clamp (by omega)]; exact hfit) hframes hlocals hdg (fun H1 locs1 hP hD hS => ?_)
  rw [nI_clamp (by omega), nI_clamp (by omega), nI_clamp (by omega), wv_up hq1] at hP hD
  exact kk H1 locs1 ⟨⟨h.1.1, hP, hD⟩, hS, h.2.2⟩
theorem wv_copyi (hx : p.tables.exec = Jvm.exec) (hb : c.code = cc) (hml : c.maxLocals = ls.size) (h : wT G A n ad ev s H locs) {own : String} {index : Nat} (hown : s.vm.findClass own = some m.cls) (hlink : (Cond.methodLink own index arraycopyName).before args s = true) (hnat : (Cond.native arraycopyName).before args s = true) (hstat : (Cond.static arraycopyName).before args s = true) (hini : (Cond.initialized "java/lang/System").before args s = true)
    (q0 q1 : Nat) (hq0 : q0 < n) (hq1 : q1 < n) {n0 n1 : Nat} {f g : Nat → Int32} (h0 : ev q0 = eI G n0 f) (h1 : ev q1 = eI G n1 g) {sp dp k : Int32} {a b d : Nat} (ha : sp = nI a) (hd : dp = nI b) (hk : k = nI d) (h4 : a + d ≤ n0) (h5 : b + d ≤ n1) (hn0 : n0 < 2 ^ 31) (hn1 : n1 < 2 ^ 31)
    (hframes : 1 ≤ R.frames) (hlocals : (rest.map fun v => v.category).sum + (nativeFrameWords "java/lang/System" "arraycopy" 5 + 11) ≤ R.locals) (hdg : decode cc pc = .ok (.invokestatic index, 3))
    (kk : ∀ (H1 : Heap) (locs1 : List Loc), wT G A n ad (va_up ev q1 (eI G n1 (va_cpy f g a b d))) s H1 locs1 → W p l e R s m args below meth c H1 locs1 cells slots Q (F0 m (pc + 3) ls rest)) : W p l e R s m args below meth c H locs cells slots Q (F0 m pc ls (.int k :: .int dp :: .ref (ad q1) :: .int sp :: .ref (ad q0) :: rest)) := by
  subst ha hd hk
  refine va_copyi (ty := .int) hx hb hml hown hlink hnat hstat hini h.1.1 h.1.2.1 h.1.2.2 h.2.1 q0 q1 1 1 (by rw [wv_at hq0, h0]) (by rw [wv_at hq1, h1]) rfl rfl rfl (nI_pos (by omega)) (nI_pos (by omega)) (nI_pos (by omega)) (by rw [nI_clamp (by omega), nI_clamp (by omega)]; exact h4) (by rw [nI_clamp (by omega), nI_clamp (by omega)]; exact h5) (fun _ _ => rfl) hframes hlocals hdg (fun H1 locs1 hP hD hS => ?_)
  rw [nI_clamp (by omega), nI_clamp (by omega), nI_clamp (by omega), wv_up hq1] at hP hD
  exact kk H1 locs1 ⟨⟨h.1.1, hP, hD⟩, hS, h.2.2⟩
theorem wv_copyl (hx : p.tables.exec = Jvm.exec) (hb : c.code = cc) (hml : c.maxLocals = ls.size) (h : wT G A n ad ev s H locs) {own : String} {index : Nat} (hown : s.vm.findClass own = some m.cls) (hlink : (Cond.methodLink own index arraycopyName).before args s = true) (hnat : (Cond.native arraycopyName).before args s = true) (hstat : (Cond.static arraycopyName).before args s = true) (hini : (Cond.initialized "java/lang/System").before args s = true)
    (q0 q1 : Nat) (hq0 : q0 < n) (hq1 : q1 < n) {n0 n1 : Nat} {f g : Nat → Int64} (h0 : ev q0 = eJ G n0 f) (h1 : ev q1 = eJ G n1 g) {sp dp k : Int32} {a b d : Nat} (ha : sp = nI a) (hd : dp = nI b) (hk : k = nI d) (h4 : a + d ≤ n0) (h5 : b + d ≤ n1) (hn0 : n0 < 2 ^ 31) (hn1 : n1 < 2 ^ 31)
    (hframes : 1 ≤ R.frames) (hlocals : (rest.map fun v => v.category).sum + (nativeFrameWords "java/lang/System" "arraycopy" 5 + 11) ≤ R.locals) (hdg : decode cc pc = .ok (.invokestatic index, 3))
    (kk : ∀ (H1 : Heap) (locs1 : List Loc), wT G A n ad (va_up ev q1 (eJ G n1 (va_cpy f g a b d))) s H1 locs1 → W p l e R s m args below meth c H1 locs1 cells slots Q (F0 m (pc + 3) ls rest)) : W p l e R s m args below meth c H locs cells slots Q (F0 m pc ls (.int k :: .int dp :: .ref (ad q1) :: .int sp :: .ref (ad q0) :: rest)) := by
  subst ha hd hk
  refine va_copyl (ty := .long) hx hb hml hown hlink hnat hstat hini h.1.1 h.1.2.1 h.1.2.2 h.2.1 q0 q1 2 2 (by rw [wv_at hq0, h0]) (by rw [wv_at hq1, h1]) rfl rfl rfl (nI_pos (by omega)) (nI_pos (by omega)) (nI_pos (by omega)) (by rw [nI_clamp (by omega), nI_clamp (by omega)]; exact h4) (by rw [nI_clamp (by omega), nI_clamp (by omega)]; exact h5) (fun _ _ => rfl) hframes hlocals hdg (fun H1 locs1 hP hD hS => ?_)
  rw [nI_clamp (by omega), nI_clamp (by omega), nI_clamp (by omega), wv_up hq1] at hP hD
  exact kk H1 locs1 ⟨⟨h.1.1, hP, hD⟩, hS, h.2.2⟩
end WVC
section WVD
variable {p : Program} {l : Launch} {e : Env} {R : Room} {s : State} {m : MethodId} {args : Array Value} {below : List Frame} {meth : Method} {c : Code} {H : Heap} {locs : List Loc} {cells slots : Nat} {Q : State → Prop} {cc : ByteArray} {pc : Nat} {ls : Array Slot} {rest st0 As : List Value} {G : wG} {A : Nat → Prop} {n : Nat} {ad : Nat → Nat} {ev : Nat → va_E} {x : Cond} {y : MethodName} {bytes : ByteArray} {maxL nL index k : Nat} {ret : Option FieldType} {rm : Room} {own : String}
abbrev wRm (rm R : Room) (maxL : Nat) : Prop := rm.cells = 0 ∧ rm.slots = 0 ∧ rm.frames + 1 ≤ R.frames ∧ 8 + (maxL + 11) + rm.locals ≤ R.locals
/-- a call of an own class's method on the object at place q -/
theorem wv_V {post : Option Value → (Nat → va_E) → Prop} (hC : CallFix p m c cc nL s args (x :: tb) own) (h : wT G A n ad ev s H locs) (q : Nat) (hq : q < n) {ci : Nat} {fs : List Value} {C : String} {T : u_T} {N : Nat} (hev : ev q = eO ci fs) (hc : vwCl[ci]? = some (C, T, N))
    (hM : Met l y (.code y bytes maxL ret :: tb) rm (wPc G A n ad ev (.ref (ad q) :: As)) (wQc G A n ad post) 0 0 A) (hcode : Cond.code y bytes maxL ret ∈ tb) (hlink : Cond.methodLink own index y ∈ tb) (hin : Cond.instanceMethod y ∈ tb) (hsel : Cond.selects C y y ∈ tb) (hini : Cond.initialized C ∈ tb)
    (hd : y.cls = C ∧ y.cls ≠ "java/lang/invoke/MethodHandle" ∧ y.cls ≠ "java/lang/invoke/VarHandle" ∧ (parseMethodDescriptor y.desc).map (fun d => d.parameters.length) = some k) (hR : wRm rm R maxL) (hsz : ls.size = nL) (hn : As.length = k) (hst : st0 = As.reverse ++ .ref (ad q) :: rest) (hW : (rest.map fun v => v.category).sum ≤ 8) (hf : cells ≤ R.cells ∧ slots ≤ R.slots) (hdg : decode cc pc = .ok (.invokevirtual index, 3))
    (kk : ∀ (ov : Option Value) (ev' : Nat → va_E) (H1 : Heap) (locs1 : List Loc), post ov ev' → wT G A n ad ev' s H1 locs1 → W p l e R s m args below meth c H1 locs1 cells slots Q (F0 m (pc + 3) ls (ov.toList ++ rest))) : W p l e R s m args below meth c H locs cells slots Q (F0 m pc ls st0) := by
  refine wv_call h (va_runV (As := As) (rest := rest) hC hM (cwV k hC.2.2.2.2 (tb_good ?_) rfl hR.1 hR.2.1 hd ⟨hR.2.2.1, hR.2.2.2⟩) (h.preV q hq hev hc) rfl hn hsz hst (lv_room hW) hdg hf) kk
  intro w hw
  simp only [wsV, List.mem_append, List.mem_cons, List.not_mem_nil, or_false] at hw
  rcases hw with (rfl | rfl | rfl | rfl) | rfl | hw
  · exact hlink
  · exact hin
  · exact hsel
  · exact hini
  · exact hcode
  · exact hw
/-- a call of a static method of an own class -/
theorem wv_Sx {post : Option Value → (Nat → va_E) → Prop} (hC : CallFix p m c cc nL s args (x :: tb) own) (h : wT G A n ad ev s H locs)
    (hM : Met l y (.code y bytes maxL ret :: tb) rm (wPc G A n ad ev As) (wQc G A n ad post) 0 0 A) (hcode : Cond.code y bytes maxL ret ∈ tb) (hlink : Cond.methodLink own index y ∈ tb) (hstat : Cond.static y ∈ tb) (hini : Cond.initialized y.cls ∈ tb)
    (hd : y.cls ≠ "java/lang/invoke/MethodHandle" ∧ y.cls ≠ "java/lang/invoke/VarHandle" ∧ (parseMethodDescriptor y.desc).map (fun d => d.parameters.length) = some k) (hR : wRm rm R maxL) (hsz : ls.size = nL) (hn : As.length = k) (hst : st0 = As.reverse ++ rest) (hW : (rest.map fun v => v.category).sum ≤ 8) (hf : cells ≤ R.cells ∧ slots ≤ R.slots) (hdg : decode cc pc = .ok (.invokestatic index, 3))
    (kk : ∀ (ov : Option Value) (ev' : Nat → va_E) (H1 : Heap) (locs1 : List Loc), post ov ev' → wT G A n ad ev' s H1 locs1 → W p l e R s m args below meth c H1 locs1 cells slots Q (F0 m (pc + 3) ls (ov.toList ++ rest))) : W p l e R s m args below meth c H locs cells slots Q (F0 m pc ls st0) := by
  have hts := hC.2.2.2.2
  have hg : GoodIn (x :: tb) (.code y bytes maxL ret :: tb) := tb_good (fun w hw => by
    rcases List.mem_cons.mp hw with rfl | hw
    · exact hcode
    · exact hw)
  exact wv_call h (va_runS (As := As) (rest := rest) hC hM ⟨callB_of k hts hg rfl hR.1 hR.2.1 (hts _ (List.mem_cons_of_mem _ hini)) (hts _ (List.mem_cons_of_mem _ hlink)) hd ⟨hR.2.2.1, hR.2.2.2⟩, hts _ (List.mem_cons_of_mem _ hstat)⟩ h.preS rfl hn hsz hst (lv_room hW) hdg hf) kk
end WVD
section WVE
variable {p : Program} {l : Launch} {e : Env} {R : Room} {s : State} {m : MethodId} {args : Array Value} {below : List Frame} {meth : Method} {c : Code} {H : Heap} {locs : List Loc} {cells slots : Nat} {Q : State → Prop} {pc : Nat} {ls : Array Slot} {rest : List Value}
theorem wv_top {v w : Int32} (hvw : v = w) (k : W p l e R s m args below meth c H locs cells slots Q (F0 m pc ls (.int w :: rest))) : W p l e R s m args below meth c H locs cells slots Q (F0 m pc ls (.int v :: rest)) := hvw ▸ k
theorem wv_topl {v w : Int64} (hvw : v = w) (k : W p l e R s m args below meth c H locs cells slots Q (F0 m pc ls (.long w :: rest))) : W p l e R s m args below meth c H locs cells slots Q (F0 m pc ls (.long v :: rest)) := hvw ▸ k
end WVE
theorem wv_dec {a : Nat} (h : 1 ≤ a) : nI a + Int32.ofInt (-1) = nI (a - 1) := by
  rw [show Int32.ofInt (-1) = -1 by decide]
  obtain ⟨b, rfl⟩ : ∃ b, a = b + 1 := ⟨a - 1, by omega⟩
  rw [Nat.add_sub_cancel]
  exact pk_m1 b
theorem va_up2 {α : Type} (f : Nat → α) (k : Nat) (v w : α) : va_up (va_up f k v) k w = va_up f k w := by
  funext j
  unfold va_up
  by_cases h : j = k <;> simp [h]
theorem va_upc {α : Type} (f : Nat → α) {j k : Nat} (v w : α) (hjk : j ≠ k) : va_up (va_up f j v) k w = va_up (va_up f k w) j v := by
  funext i
  unfold va_up
  by_cases h : i = k
  · subst h
    simp [Ne.symm hjk]
  · simp [h]
theorem va_upi {α : Type} (f : Nat → α) (k : Nat) {v : α} (h : f k = v) : va_up f k v = f := by
  funext j
  unfold va_up
  by_cases hj : j = k
  · subst hj
    simp [h]
  · simp [hj]
section WVF
variable {s : State} {H : Heap} {locs : List Loc} {G : wG} {A : Nat → Prop} {n : Nat} {ad : Nat → Nat} {ev : Nat → va_E}
theorem arrV_congr (cI : ClassId) {N : Nat} {f g : Nat → Value} (h : ∀ j, j < N → f j = g j) : arrV cI N f = arrV cI N g := by
  unfold arrV
  congr 1
  apply Array.ext
  · simp
  · intro i h1 h2
    simp only [Array.getElem_ofFn]
    exact h i (by simpa using h1)
/-- a row may be told by any numbers that are the same at its places -/
theorem wT_eq (h : wT G A n ad ev s H locs) (q : Nat) (hq : q < n) {cA : ClassId} {x y : vp_A} (hev : ev q = .inl (cA, x)) (hxy : vp_cell cA x = vp_cell cA y) : wT G A n ad (va_up ev q (.inl (cA, y))) s H locs := by
  obtain ⟨⟨hK, hP, hD⟩, hS, hA⟩ := h
  have hg : ∀ k, k < n → (wv n ad ev)[k]? = some (ad k, ev k) := fun k hk => wv_at hk
  refine ⟨⟨hK, ?_, ?_⟩, hS, hA⟩
  · rw [← wv_up hq]
    refine hP.set hD (by rw [wv_at hq]) ?_ (fun _ _ => rfl)
    have h1 := hP q _ (wv_at hq)
    rw [hev] at h1
    show H[ad q]? = some (vp_cell cA y)
    rw [← hxy]
    exact h1
  · rw [← wv_up hq]
    exact hD.set (by rw [wv_at hq])
theorem wT_eqB (h : wT G A n ad ev s H locs) (q : Nat) (hq : q < n) {N : Nat} {f g : Nat → Int32} (hev : ev q = eB G N f) (hfg : ∀ j, j < N → f j = g j) : wT G A n ad (va_up ev q (eB G N g)) s H locs :=
  wT_eq h q hq hev (by rw [vp_cell_i, vp_cell_i]; exact arrV_congr _ (fun j hj => by rw [hfg j hj]))
theorem wT_eqI (h : wT G A n ad ev s H locs) (q : Nat) (hq : q < n) {N : Nat} {f g : Nat → Int32} (hev : ev q = eI G N f) (hfg : ∀ j, j < N → f j = g j) : wT G A n ad (va_up ev q (eI G N g)) s H locs :=
  wT_eq h q hq hev (by rw [vp_cell_i, vp_cell_i]; exact arrV_congr _ (fun j hj => by rw [hfg j hj]))
theorem wT_eqJ (h : wT G A n ad ev s H locs) (q : Nat) (hq : q < n) {N : Nat} {f g : Nat → Int64} (hev : ev q = eJ G N f) (hfg : ∀ j, j < N → f j = g j) : wT G A n ad (va_up ev q (eJ G N g)) s H locs :=
  wT_eq h q hq hev (by rw [vp_cell_l, vp_cell_l]; exact arrV_congr _ (fun j hj => by rw [hfg j hj]))
end WVF
