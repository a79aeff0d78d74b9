/-! a callee that throws, and the handler of the caller's own table that takes it -/
/-- the search ends at the handler pc, the tables as vm' -/
def FT (e : Env) (s : State) (f : JFrame) (a : Addr) (pc : Nat) (vm' : Vm) : Prop := ∀ (Q : Handler → Pre) (E : CtlPost) (d : Bool) (acts : List Action), wp (findHandler f a) Q E e d acts s ↔ Q (.found pc) d acts (s.setVm vm')
/-- one entry that covers the place: it takes the thrown cell, or the search goes on; its class is noted either way -/
theorem fh_one {e : Env} {s : State} {f : JFrame} {a : Addr} {Q : Handler → Pre} {E : CtlPost} {d : Bool} {acts : List Action} {x : ExceptionTableEntry} {t : List ExceptionTableEntry} {k : ClassId} {cell : Cell} {b : Bool} (hx : covers x f.pc = true) (h0 : x.catchType ≠ 0)
    (hl : s.vm.ClassLinks e.platform f.method.cls x.catchType k) (hc : s.heap[a]? = some cell) (ho : ∀ z, cell.vm ≠ .statics z) (h1 : ∃ z, s.vm.classes[cell.cls]? = some z) (h2 : ∃ z, s.vm.classes[k]? = some z) (hb : s.vm.assignable cell.cls k = b) :
    wp (findHandler.go f a (x :: t)) Q E e d acts s ↔ (if b = true then Q (.found x.handlerPc) d acts (s.setVm (s.vm.noted f.method.cls x.catchType (.cls k))) else wp (findHandler.go f a t) Q E e d acts (s.setVm (s.vm.noted f.method.cls x.catchType (.cls k)))) := by
  have hcv : (decide (x.startPc ≤ f.pc) && decide (f.pc < x.endPc)) = true := hx
  obtain ⟨ra, rt⟩ := (resolveClass_links e.toSetting hl).op (op := VmOp.resolveClass f.method.cls x.catchType) rfl
  have al : s.vm.Alike (s.vm.noted f.method.cls x.catchType (.cls k)) := (Vm.Alike.refl s.vm).noted _ _ _
  obtain ⟨z1, e1⟩ := h1
  obtain ⟨z2, e2⟩ := h2
  obtain ⟨z1', e1', -⟩ := al.2.2 _ _ e1
  obtain ⟨z2', e2', -⟩ := al.2.2 _ _ e2
  have hb' : (s.vm.noted f.method.cls x.catchType (.cls k)).assignable cell.cls k = b := (al.assignable ..).trans hb
  cases b <;> simp [findHandler.go, hcv, h0, ra, rt, hc, ho, e1', e2', hb', VmOp.dirties, VmOp.acts]
/-- a step of the machine that finds the handler -/
theorem FT.step {tb : Tables} {e : Env} {s t : State} {g : JFrame} {c : Code} {below : List Frame} {a : Addr} (h : At s g.method c below) {pc : Nat} {vm' : Vm} (hF : FT e ((s.setTop g).pushFrame (.throwing a)) g a pc vm')
    (k : Steps tb e below ((s.setVm vm').setTop { g with pc := pc, stack := [.ref a] }) t) : Steps tb e below ((s.setTop g).pushFrame (.throwing a)) t := by
  obtain ⟨q1, q2⟩ := h.throwing a
  refine Steps.head q1 q2 ?_
  obtain ⟨g0, hg0⟩ := Option.isSome_iff_exists.mp h.top
  obtain ⟨r, hr⟩ := State.topJava?_eq_some.mp hg0
  have hr' : (s.setVm vm').frames = .java g0 :: r := hr
  have hst : (stepThrowing e ((s.setTop g).pushFrame (.throwing a)) a (.java g :: s.frames.tail)).Is ((((s.setTop g).pushFrame (.throwing a)).setVm vm').setFrames (.java { g with pc := pc, stack := [.ref a] } :: s.frames.tail)) [] := by
    simp only [stepThrowing, searchFrame, vmDo]
    generalize hres : Sem.go _ e false [] _ = res
    obtain ⟨as, rfl, ha⟩ := Sem.eq_ok_of hres (a := Handler.found pc) (s' := ((s.setTop g).pushFrame (.throwing a)).setVm vm') (acts' := []) (by simp [hF _ _ _ _])
    exact ⟨rfl, ha⟩
  rw [stepThread_throwing (frames_entered h.top _), hst.1]
  rw [State.setTop_of_frames _ hr'] at k
  have hsf : ∀ (u : State) (F F2 : List Frame), ((u.setFrames F).setVm vm').setFrames F2 = (u.setVm vm').setFrames F2 := fun u F F2 => State.setFrames_setFrames (u.setVm vm') F F2
  rw [hr, List.tail_cons, State.pushFrame, hsf, State.setTop_of_frames _ hr, hsf]
  exact k
/-- what a class link gives at a warmer state -/
theorem fh_warm {p : Program} {l : Launch} {e : Env} {R : Room} {s T : State} {m : MethodId} {args : Array Value} {below : List Frame} {meth : Method} {c : Code} {locs : List Loc} {cells slots : Nat} (X : Stand p l e R s m args below meth c T locs cells slots) {own nm : String} {ix : Nat} (hown : s.vm.findClass own = some m.cls) (hlink : (Cond.classLink own ix nm).before args s = true) :
    ∃ k, s.vm.findClass nm = some k ∧ ∀ vm, s.WarmedH vm → vm.ClassLinks e.platform m.cls ix k ∧ s.WarmedH (vm.noted m.cls ix (.cls k)) ∧ ∃ z, vm.classes[k]? = some z := by
  have hpl : e.platform.magicAccessors = ({} : Platform).magicAccessors := by rw [X.admits.platform]
  obtain ⟨k, hk, hcl⟩ := Cond.classLink_spec hown hlink e.platform hpl
  obtain ⟨dk, _, _, kt, hd, _, _, _, _, hkt, _, hopen⟩ := hcl.here
  refine ⟨k, hk, fun vm hW => ⟨hW.classLinks hcl, hW.noted hd hopen (State.rightAt_cls hcl), ?_⟩⟩
  obtain ⟨z, hz, -⟩ := hW.alike.2.2 _ _ hkt
  exact ⟨z, hz⟩
section CAT
variable {p : Program} {l : Launch} {e : Env} {R : Room} {s : State} {m : MethodId} {args : Array Value} {below : List Frame} {meth : Method} {c : Code} {H : Heap} {locs : List Loc} {cells slots : Nat} {Q : State → Prop} {cc : ByteArray} {pc : Nat} {ls : Array Slot} {rest : List Value} {G : wG} {n : Nat} {ad : Nat → Nat} {ev : Nat → va_E} {x : Cond} {y : MethodName} {bytes : ByteArray} {maxL nL index : Nat} {ret : Option FieldType} {rm : Room} {own : String}
set_option maxHeartbeats 4000000 in
/-- a call without arguments that throws, and its handler -/
theorem wv_vcatch {s0 : State} {cls : String} {post : (Nat → va_E) → Prop} {hp mc ms : Nat} (hC : CallFix p m c cc nL s args (x :: tb) own) (htr : e.platform.stackTraces = false) (hold : OLD s0 s) (h : wT G (A0 s0) n ad ev s H locs) (q : Nat) (hq : q < n) {ci : Nat} {fs : List Value} {C : String} {T : u_T} {N : Nat} (hev : ev q = eO ci fs) (hc : vwCl[ci]? = some (C, T, N))
    (hM : MetT l y (.code y bytes maxL ret :: tb) rm (wPt s0 G n ad ev [.ref (ad q)]) (wQt G (A0 s0) n ad cls post) mc ms (A0 s0)) (hcode : Cond.code y bytes maxL ret ∈ tb) (hlink : Cond.methodLink own index y ∈ tb) (hin : Cond.instanceMethod y ∈ tb) (hsel : Cond.selects C y y ∈ tb) (hini : Cond.initialized C ∈ tb)
    (hd : y.cls = C ∧ y.cls ≠ "java/lang/invoke/MethodHandle" ∧ y.cls ≠ "java/lang/invoke/VarHandle" ∧ (parseMethodDescriptor y.desc).map (fun d => d.parameters.length) = some 0) (hR : rm.cells = mc ∧ rm.slots = ms ∧ rm.frames + 1 ≤ R.frames ∧ 8 + (maxL + 11) + rm.locals ≤ R.locals) (hsz : ls.size = nL) (hW : (rest.map fun v => v.category).sum ≤ 8) (hf : cells + mc ≤ R.cells ∧ slots + ms ≤ R.slots) (hdg : decode cc pc = .ok (.invokevirtual index, 3))
    (hF : ∀ (locs : List Loc) (cells slots : Nat) (T U : State) (a : Addr) (ce : Cell) (f : JFrame), Stand p l e R s m args below meth c T locs cells slots → U.vm = T.vm → U.heap[a]? = some ce → ce.vm = .none → s.vm.findClass cls = some ce.cls → f.method = m → f.pc = pc → ∃ vm', s.WarmedH vm' ∧ FT e U f a hp vm')
    (kk : ∀ (a : Addr) (ev' : Nat → va_E) (H1 : Heap) (locs1 : List Loc), post ev' → wT G (A0 s0) n ad ev' s H1 locs1 → W p l e R s m args below meth c H1 locs1 (cells + mc) (slots + ms) Q (F0 m hp ls [.ref a])) : W p l e R s m args below meth c H locs cells slots Q (F0 m pc ls (.ref (ad q) :: rest)) := by
  have cw : CallW R s args own C index y bytes maxL ret (.code y bytes maxL ret :: tb) rm mc ms 0 := cwV 0 hC.2.2.2.2 (tb_good (fun w hw => by
    simp only [wsV, List.mem_append, List.mem_cons, List.not_mem_nil, or_false] at hw
    rcases hw with (rfl | rfl | rfl | rfl) | rfl | hw
    · exact hlink
    · exact hin
    · exact hsel
    · exact hini
    · exact hcode
    · exact hw)) rfl hR.1 hR.2.1 hd ⟨hR.2.2.1, hR.2.2.2⟩
  obtain ⟨⟨hrc, hrs, hfr, hlo, hws, hcw, hcd, hin0, hy, hlen, hlk⟩, hins, hse⟩ := cw
  obtain ⟨hx, hb, hml, ho, hts⟩ := hC
  obtain ⟨cellB, hcB, hoB, hclB⟩ := va_recv h.1.1 h.1.2.1 hc (q0 := q) (by rw [wv_at hq, hev])
  intro T0 hT X
  obtain ⟨mk, mM, n1, n2, n3, n4⟩ := Cond.instanceMethod_spec hins
  obtain ⟨mM', cM, j1, j2, -, j4, -, -, -, j9⟩ := Cond.code_spec n1 hcd
  cases n2.symm.trans j1
  obtain ⟨c2, r2, m2, q1, q2, q3, q4, kP, i1, i2⟩ := Cond.selects_spec hse
  cases hclB.symm.trans q1
  cases (State.methodFound?_of_named n1 hy).symm.trans q2
  cases n1.symm.trans q3
  have hsl : selectMethod e.platform s.vm cellB.cls mk = .method mk := by rw [Launch.admits_selectMethod X.admits]; exact q4
  obtain ⟨vm1, X1, st1⟩ := X.invokevirtual hx ho hlk n1 n2 n3 i1 i2 hy (a := ad q) (cell := cellB) (by rw [hT]; exact hcB) (fun z hz => by rw [hz] at hoB; cases hoB) hsl n2 n4 i1 i2 (g := F0 m pc ls (.ref (ad q) :: rest)) rfl (argsL := []) (rest := rest) (hlen _ j9) rfl (by rw [hb]; exact hdg)
  obtain ⟨U, hU⟩ : ∃ U, U = T0.setVm vm1 := ⟨_, rfl⟩
  have hUh : U.heap = H := by rw [hU]; exact hT
  rw [← hU] at X1 st1
  clear hU
  have hn : U.methodNamed? y = some mk := X1.named n1
  have hdc : decode c.code (F0 m pc ls rest).pc = .ok (.invokevirtual index, 3) := by rw [hb]; exact hdg
  have hcU := hws _ hcw #[Value.ref (ad q)] U X1.warmed
  obtain ⟨mY, cY, y1, y2, -, y4, -, -, -, -⟩ := Cond.code_spec hn hcU
  obtain ⟨kY, y5, -⟩ := className_of_methodNamed hn
  have hiU : (Cond.initialized y.cls).before #[Value.ref (ad q)] U = true := word_at X1.warmed (Or.inl (by first | rfl | simp [Cond.onTables, Cond.keeps, Cond.steady])) hin0
  have y6 : kY.init = .initialized := Cond.initialized_spec (findClass_of_methodNamed hn) y5 hiU
  have hA1 : At U (F0 m pc ls rest).method c below := X1.here
  have happ : (headSpec (.code y bytes maxL ret :: tb) rm).appliesLoose y e.platform (U.calling (F0 m pc ls rest) mk #[Value.ref (ad q)]) = true :=
    Spec.appliesLoose_calling (g := F0 m pc ls rest) hA1 hdc hn y5 y6
      (X1.room_calling (g := F0 m pc ls rest) (R' := rm) (hsz.trans hml.symm) y1 y2 hfr (by rw [y4]; have : 2 * (F0 m pc ls rest).monitorRoom + ((F0 m pc ls rest).stack.map fun v => v.category).sum ≤ 8 := lv_room (m := m) (pc := pc) (ls := ls) (rest := rest) hW; omega) (by rw [hrc]; exact hf.1) (by rw [hrs]; exact hf.2)) (atoms_intro fun w hw => hws w hw _ _ X1.warmed)
  obtain ⟨mid, hmid⟩ := hA1.above
  have hfrm : (U.setTop (F0 m pc ls rest)).frames = (.java (F0 m pc ls rest) :: mid) ++ below := by rw [State.frames_setTop' _ hA1.top, hmid]; rfl
  have hpre : wPt s0 G n ad ev [.ref (ad q)] #[Value.ref (ad q)] (U.calling (F0 m pc ls rest) mk #[Value.ref (ad q)]) := by
    obtain ⟨⟨hK, hP, hD⟩, hS, hA⟩ := h
    have hOU : OLD s0 U := ⟨State.WarmedH.trans hold.1 X1.warmed, by rw [hUh]; exact Nat.le_trans hold.2.1 hS.1, fun z hz => by rw [hUh]; exact (hS.2.1 z (Nat.lt_of_lt_of_le hz hold.2.1) (Nat.not_le.mpr hz)).trans (hold.2.2 z hz)⟩
    exact ⟨wPc_blind _ U _ _ ⟨rfl, ⟨va_K.moved X1.warmed.alike hK, by rw [hUh]; exact hP, hD⟩, fun z hz => hA z (Nat.le_trans hS.1 (by rw [hUh] at hz; exact hz))⟩, hOU⟩
  obtain ⟨o, s2, sts, -, hend, a, rfl, ⟨⟨ev', hpo, hK1, hP1, hD1⟩, hFF, ce, ce1, ce2, ce3⟩, L, ⟨hW2, hsm⟩, hL⟩ := Steps.callFree hM p X1.admits X1.cas X1.clock (acts := []) hfrm happ hpre htr
  rw [State.frames_setTop' _ hA1.top] at hend
  have hend : s2.frames = .throwing a :: .java (F0 m pc ls rest) :: U.frames.tail := hend
  have hW2 : U.WarmedH s2.vm := hW2
  obtain ⟨w1, w2, w3, w4, w5, w6⟩ := hsm
  obtain ⟨g0, hg0⟩ := Option.isSome_iff_exists.mp hA1.top
  obtain ⟨r, hr⟩ := State.topJava?_eq_some.mp hg0
  obtain ⟨V, hV⟩ : ∃ V, V = ({ U with heap := s2.heap, slotsUsed := s2.slotsUsed } : State).setVm s2.vm := ⟨_, rfl⟩
  have hVf : V.frames = .java g0 :: r := by rw [hV]; exact hr
  have hs2 : s2 = (V.setTop (F0 m pc ls rest)).pushFrame (.throwing a) := by
    have e1 : s2 = ({ s2 with vm := (U.calling (F0 m pc ls rest) mk #[Value.ref (ad q)]).vm } : State).setVm s2.vm := rfl
    have w1 : ({ s2 with vm := (U.calling (F0 m pc ls rest) mk #[Value.ref (ad q)]).vm } : State) = { (U.calling (F0 m pc ls rest) mk #[Value.ref (ad q)]).setFrames s2.frames with heap := s2.heap, slotsUsed := s2.slotsUsed } := w1
    rw [w1] at e1
    refine e1.trans ?_
    rw [State.pushFrame, State.frames_setTop _ hVf, State.setTop_of_frames _ hVf, State.setFrames_setFrames, hV]
    show ({ (U.calling (F0 m pc ls rest) mk #[Value.ref (ad q)]).setFrames s2.frames with heap := s2.heap, slotsUsed := s2.slotsUsed } : State).setVm s2.vm = _
    rw [hend, State.calling_eq hA1.top, State.setFrames_setFrames, hr]
    rfl
  have hsame : U.sameButNew ({ U with heap := s2.heap, slotsUsed := s2.slotsUsed } : State) L mc ms := by
    refine ⟨?_, w2, w3, w4, w5, w6⟩
    obtain ⟨t, ht, -⟩ := State.frames_cons hr
    show ({ U with heap := s2.heap, slotsUsed := s2.slotsUsed } : State) = { U.setFrames U.frames with heap := s2.heap, slotsUsed := s2.slotsUsed }
    rw [State.setFrames_self ht]
  have XV : Stand p l e R s m args below meth c V (locs ++ L) (cells + mc) (slots + ms) := by
    rw [hV]
    exact ⟨X1.admits, X1.cas, X1.clock, X1.frames, X1.room, X1.hears, X1.method, X1.code, (X1.here.setHeapUsed s2.heap s2.slotsUsed).setVm hW2.alike, X1.tail, State.WarmedH.trans X1.warmed hW2, X1.limits, X1.bytes, X1.same.trans (hsame.setVm s.vm)⟩
  have hVh : V.heap = s2.heap := by rw [hV]; rfl
  have hVv : V.vm = s2.vm := by rw [hV]; rfl
  clear hV
  have hUv : s.vm.findClass cls = some ce.cls := by
    have : U.vm.findClass cls = some ce.cls := ce3
    rw [X1.warmed.alike.findClass] at this
    exact this
  obtain ⟨vm', hW', hFT⟩ := hF _ _ _ V ((V.setTop (F0 m pc ls rest)).pushFrame (.throwing a)) a ce (F0 m pc ls rest) XV rfl (by show V.heap[a]? = _; rw [hVh]; exact ce1) ce2 hUv rfl rfl
  have XZ := XV.noted hW'
  have hal : s.vm.Alike s2.vm := by rw [← hVv]; exact XV.warmed.alike
  obtain ⟨hz, hk⟩ := hFF
  have hz : H.size ≤ s2.heap.size := by rw [← hUh]; exact hz
  have hk : ∀ z : Nat, z < H.size → ¬ A0 s0 z → s2.heap[z]? = H[z]? := fun z h1 h2 => by rw [← hUh]; exact hk z (by rw [← hUh] at h1; exact h1) h2
  obtain ⟨⟨hK, hP, hD⟩, hS, hA⟩ := h
  obtain ⟨t2, a1, b1⟩ := kk a ev' s2.heap (locs ++ L) hpo ⟨⟨va_K.moved hal.symm hK1, hP1, hD1⟩, ⟨Nat.le_trans hS.1 hz, fun z h1 h2 => (hk z (Nat.lt_of_lt_of_le h1 hS.1) h2).trans (hS.2.1 z h1 h2), fun z hz => by
      rcases List.mem_append.mp hz with h | h
      · exact hS.2.2 z h
      · exact hL z h⟩, hA⟩ (V.setVm vm') hVh XZ
  refine ⟨t2, st1 _ fun acts => ?_, b1⟩
  rw [doInvoke_state]
  refine sts.trans ?_
  rw [hs2]
  exact FT.step XV.here hFT a1
end CAT
