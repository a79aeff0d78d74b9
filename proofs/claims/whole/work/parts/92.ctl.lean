/-! rows for constructors: the world grows -/
section CTL
variable {p : Program} {l : Launch} {e : Env} {R : Room} {s : State} {m : MethodId} {args : Array Value} {below : List Frame} {meth : Method} {c : Code} {H : Heap} {locs : List Loc} {cells slots : Nat} {Q : State → Prop} {cc : ByteArray} {pc : Nat} {ls : Array Slot} {rest st0 As : List Value} {G : wG} {A : Nat → Prop} {n : Nat} {ad : Nat → Nat} {ev : Nat → va_E}
theorem wv_newo (hx : p.tables.exec = Jvm.exec) (hb : c.code = cc) {own C : String} {T : u_T} {N ci index : Nat} {Ts : List Cond} (hts : ∀ w ∈ Ts, w.before args s = true) (hin : ∀ w ∈ u_ws C T N, w ∈ Ts) (ty : Nat → FieldType) (hty : ∀ k, k < N → parseFieldDescriptor (T k).2.2.1 = some (ty k)) (hown : s.vm.findClass own = some m.cls) (hcl : (Cond.classLink own index C).before args s = true) (hinst : (Cond.instantiable C N).before args s = true) (hini : (Cond.initialized C).before args s = true)
    (h : wT G A n ad ev s H locs) (hc : vwCl[ci]? = some (C, T, N)) {fs : List Value} (hfs : ∀ j, j < N → defaultValue (ty j) = vp_V fs j) (hcells : cells + 1 ≤ R.cells) (hslots : slots + N ≤ R.slots) (hdg : decode cc pc = .ok (.new index, 3))
    (kk : ∀ (q : Nat) (H1 : Heap), wT G A (n + 1) (va_up ad n q) (va_up ev n (eO ci fs)) s H1 locs → W p l e R s m args below meth c H1 locs (cells + 1) (slots + N) Q (F0 m (pc + 3) ls (.ref q :: rest))) : W p l e R s m args below meth c H locs cells slots Q (F0 m pc ls rest) := by
  refine va_new hx hb hts hin ty hty hown hcl hinst hini h.1.1 h.1.2.1 h.1.2.2 h.2.1 h.2.2 hc hfs hcells hslots hdg (fun q H1 hP hD hS => ?_)
  rw [wv_push] at hP hD
  exact kk q H1 ⟨⟨h.1.1, hP, hD⟩, hS, h.2.2⟩
theorem wv_newB (hx : p.tables.exec = Jvm.exec) (hb : c.code = cc) (harr : (Cond.arrayClass .byte).before args s = true) (h : wT G A n ad ev s H locs) {i : Int32} {N : Nat} (hi : i = nI N) (hN : N < 1000000) (hcells : cells + 1 ≤ R.cells) (hslots : slots + N ≤ R.slots) (hdg : decode cc pc = .ok (.newarray .byte, 2))
    (kk : ∀ (q : Nat) (H1 : Heap), wT G A (n + 1) (va_up ad n q) (va_up ev n (eB G N (fun _ => 0))) s H1 locs → W p l e R s m args below meth c H1 locs (cells + 1) (slots + N) Q (F0 m (pc + 2) ls (.ref q :: rest))) : W p l e R s m args below meth c H locs cells slots Q (F0 m pc ls (.int i :: rest)) := by
  subst hi
  refine va_newa hx hb (atype := .byte) harr (ty := .byte) rfl h.1.1 h.1.2.1 h.1.2.2 h.2.1 h.2.2 (a0 := (N, .inl fun _ => 0)) (fun cA => rfl) (nI_pos (by omega)) (nI_clamp (by omega)) (by show N * 1 ≤ _; omega) hcells hslots hdg (fun q cA H1 hK hP hD hS => ?_)
  have e : cA = G.2.1 := Option.some.inj ((hK.2 3 (cA, .byte) rfl).2.symm.trans (hK.2 0 (G.2.1, .byte) rfl).2)
  rw [e, wv_push] at hP hD
  exact kk q H1 ⟨⟨h.1.1, hP, hD⟩, hS, h.2.2⟩
theorem wv_newI (hx : p.tables.exec = Jvm.exec) (hb : c.code = cc) (harr : (Cond.arrayClass .int).before args s = true) (h : wT G A n ad ev s H locs) {i : Int32} {N : Nat} (hi : i = nI N) (hN : N < 1000000) (hcells : cells + 1 ≤ R.cells) (hslots : slots + N ≤ R.slots) (hdg : decode cc pc = .ok (.newarray .int, 2))
    (kk : ∀ (q : Nat) (H1 : Heap), wT G A (n + 1) (va_up ad n q) (va_up ev n (eI G N (fun _ => 0))) s H1 locs → W p l e R s m args below meth c H1 locs (cells + 1) (slots + N) Q (F0 m (pc + 2) ls (.ref q :: rest))) : W p l e R s m args below meth c H locs cells slots Q (F0 m pc ls (.int i :: rest)) := by
  subst hi
  refine va_newa hx hb (atype := .int) harr (ty := .int) rfl h.1.1 h.1.2.1 h.1.2.2 h.2.1 h.2.2 (a0 := (N, .inl fun _ => 0)) (fun cA => rfl) (nI_pos (by omega)) (nI_clamp (by omega)) (by show N * 4 ≤ _; omega) hcells hslots hdg (fun q cA H1 hK hP hD hS => ?_)
  have e : cA = G.2.2.1 := Option.some.inj ((hK.2 3 (cA, .int) rfl).2.symm.trans (hK.2 1 (G.2.2.1, .int) rfl).2)
  rw [e, wv_push] at hP hD
  exact kk q H1 ⟨⟨h.1.1, hP, hD⟩, hS, h.2.2⟩
theorem wv_newJ (hx : p.tables.exec = Jvm.exec) (hb : c.code = cc) (harr : (Cond.arrayClass .long).before args s = true) (h : wT G A n ad ev s H locs) {i : Int32} {N : Nat} (hi : i = nI N) (hN : N < 1000000) (hcells : cells + 1 ≤ R.cells) (hslots : slots + N ≤ R.slots) (hdg : decode cc pc = .ok (.newarray .long, 2))
    (kk : ∀ (q : Nat) (H1 : Heap), wT G A (n + 1) (va_up ad n q) (va_up ev n (eJ G N (fun _ => 0))) s H1 locs → W p l e R s m args below meth c H1 locs (cells + 1) (slots + N) Q (F0 m (pc + 2) ls (.ref q :: rest))) : W p l e R s m args below meth c H locs cells slots Q (F0 m pc ls (.int i :: rest)) := by
  subst hi
  refine va_newa hx hb (atype := .long) harr (ty := .long) rfl h.1.1 h.1.2.1 h.1.2.2 h.2.1 h.2.2 (a0 := (N, .inr (.inl fun _ => 0))) (fun cA => rfl) (nI_pos (by omega)) (nI_clamp (by omega)) (by show N * 8 ≤ _; omega) hcells hslots hdg (fun q cA H1 hK hP hD hS => ?_)
  have e : cA = G.2.2.2 := Option.some.inj ((hK.2 3 (cA, .long) rfl).2.symm.trans (hK.2 2 (G.2.2.2, .long) rfl).2)
  rw [e, wv_push] at hP hD
  exact kk q H1 ⟨⟨h.1.1, hP, hD⟩, hS, h.2.2⟩
theorem wv_adr1 {a b : Nat} (hab : a = b) (k : W p l e R s m args below meth c H locs cells slots Q (F0 m pc ls (.ref a :: rest))) : W p l e R s m args below meth c H locs cells slots Q (F0 m pc ls (.ref b :: rest)) := hab ▸ k
theorem wv_adr2 {a b : Nat} {v : Value} (hab : a = b) (k : W p l e R s m args below meth c H locs cells slots Q (F0 m pc ls (v :: .ref a :: rest))) : W p l e R s m args below meth c H locs cells slots Q (F0 m pc ls (v :: .ref b :: rest)) := hab ▸ k
theorem wv_obj (hx : p.tables.exec = Jvm.exec) (hb : c.code = cc) {own : String} (hown : s.vm.findClass own = some m.cls) {idx : Nat} {Ts : List Cond} (hts : ∀ w ∈ Ts, w.before args s = true) (h1 : Cond.methodLink own idx Lib.objectInit ∈ Ts) (h2 : Cond.instanceMethod Lib.objectInit ∈ Ts) (h3 : Cond.code Lib.objectInit ⟨#[0xb1]⟩ 1 none ∈ Ts)
    (hsize : ls.size = c.maxLocals) {a : Nat} (hd : decode cc pc = .ok (.invokespecial idx, 3)) (hfr : 1 ≤ R.frames) (hlo : 12 ≤ R.locals)
    (kk : W p l e R s m args below meth c H locs cells slots Q (F0 m (pc + 3) ls [])) : W p l e R s m args below meth c H locs cells slots Q (F0 m pc ls [.ref a]) :=
  W.objInit hx hb hown (hts _ h1) (hts _ h2) (hts _ h3) rfl hsize rfl hd hfr (by show 2 * 0 + 0 + 12 ≤ _; omega) kk
theorem wv_nret {post : Option Value → Nat → (Nat → Nat) → (Nat → va_E) → Prop} (hx : p.tables.exec = Jvm.exec) (hb : c.code = cc) (hr : meth.sig.returnType = none) (hlocks : meth.locks = false) (h : wT G A n ad ev s H locs) (hdg : decode cc pc = .ok (.return_, 1)) (hp : post none n ad ev) : W p l e R s m args below meth c H locs cells slots (MQ below (wQn G A post) args s cells slots A) (F0 m pc ls []) :=
  W.vret hx hb hr (fun t ht hW => ⟨⟨none, n, ad, ev, rfl, hp, va_K.moved hW.alike h.1.1, by rw [ht]; exact h.1.2.1, h.1.2.2⟩, h.2.1.F ht⟩) h.2.1.2.2 hdg
end CTL
