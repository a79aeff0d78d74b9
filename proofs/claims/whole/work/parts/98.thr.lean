section THR
variable {p : Program} {l : Launch} {e : Env} {R : Room} {s : State} {m : MethodId} {args : Array Value} {below : List Frame} {meth : Method} {c : Code} {H : Heap} {locs : List Loc} {cells slots : Nat} {cc : ByteArray} {pc : Nat} {ls : Array Slot} {G : wG} {A : Nat → Prop} {n : Nat} {ad : Nat → Nat} {ev : Nat → va_E}
/-- behind a throw: the world, and the cell of what was thrown -/
def wQt (G : wG) (A : Nat → Prop) (n : Nat) (ad : Nat → Nat) (cls : String) (post : (Nat → va_E) → Prop) : Array Value → State → Addr → State → Prop := fun _ st x t => (∃ ev', post ev' ∧ wS G A n ad ev' t t.heap) ∧ va_F A st t ∧ ∃ ce : Cell, t.heap[x]? = some ce ∧ ce.vm = .none ∧ st.vm.findClass cls = some ce.cls
theorem keep_same {s t : State} {k n : Nat} (h : s.sameButNew t [] k n) {q : Nat} (hq : q < s.heap.size) : t.heap[q]? = s.heap[q]? := by
  obtain ⟨cl, hcl⟩ : ∃ cl, s.heap[q]? = some cl := ⟨_, Array.getElem?_eq_getElem hq⟩
  obtain ⟨c', h1, h2, h3, h4⟩ := h.2.2.2.2.2 q cl hcl
  rw [h1, hcl, h2]
  have e : c'.slots = cl.slots := by
    apply Array.ext_getElem?
    intro i
    exact h4 i (by simp)
  rw [e]
set_option maxHeartbeats 4000000 in
theorem wv_throw {s0 : State} {own cls tx : String} {names : List String} {ix kx ic qm : Nat} {post : (Nat → va_E) → Prop} (hx : p.tables.exec = Jvm.exec) (hb : c.code = cc) (htr : e.platform.stackTraces = false) (hlocks : meth.locks = false) (hown : s.vm.findClass own = some m.cls) (hsz : ls.size = c.maxLocals)
    (hold : OLD s0 s) (HW : ∀ (U : State) (args : Array Value), OLD s0 U → ∀ w ∈ (Cond.classLink own ix cls :: Cond.initialized cls :: Bundle.ownAtoms own ic cls names), w.before args U = true) (hstr : vk_R own kx tx qm s) (hfit : Bundle.fit cls = true) (hnames : ∀ n ∈ names, Bundle.fit n = true) (hn3 : names.length ≤ 3)
    (h : wT G (fun q => s0.heap.size ≤ q) n ad ev s H locs) (hR : 10 ≤ R.frames ∧ 200 ≤ R.locals ∧ cells + 1 ≤ R.cells ∧ slots + 6 ≤ R.slots) (hout : ∀ x ∈ c.exceptionTable.toList, covers x (pc + 6 + 3) = false)
    (d0 : decode cc pc = .ok (.new ix, 3)) (d1 : decode cc (pc + 3) = .ok (.dup, 1)) (d2 : decode cc (pc + 4) = .ok (.ldc kx, 2)) (d3 : decode cc (pc + 6) = .ok (.invokespecial ic, 3)) (d4 : decode cc (pc + 6 + 3) = .ok (.athrow, 1)) (hp : post ev) :
    W p l e R s m args below meth c H locs cells slots (MQT below (wQt G (fun q => s0.heap.size ≤ q) n ad cls post) args s (cells + 1) (slots + 6) (fun q => s0.heap.size ≤ q)) (F0 m pc ls []) := by
  intro T hT X
  subst hT
  have X2 := Stand_rebase X (R2 := { frames := 10, cells := 1, slots := 6, locals := 200 }) hR.1 hR.2.1 hR.2.2.1 hR.2.2.2
  have ho2 : OLD s0 (rbs s T.heap T.slotsUsed) := hold.rbs h.2.1
  obtain ⟨s2, hs2⟩ : ∃ z, z = rbs s T.heap T.slotsUsed := ⟨_, rfl⟩
  have hv : s2.vm = s.vm := by rw [hs2]; rfl
  have hh : s2.heap = T.heap := by rw [hs2]; rfl
  have hsf : ∀ fs, s2.setFrames fs = { s.setFrames fs with heap := T.heap, slotsUsed := T.slotsUsed } := fun fs => by rw [hs2]; rfl
  have hwm : ∀ vm, s2.WarmedH vm → s.WarmedH vm := fun vm q => by rw [hs2] at q; exact q
  rw [← hs2] at X2 ho2
  clear hs2
  have hw := HW s2 args ho2
  have hcl := hw (.classLink own ix cls) List.mem_cons_self
  have hini := hw (.initialized cls) (List.mem_cons_of_mem _ List.mem_cons_self)
  have ha : ∀ a ∈ Bundle.ownAtoms own ic cls names, a.before args s2 = true := fun a ha => hw a (List.mem_cons_of_mem _ (List.mem_cons_of_mem _ ha))
  have hinst := ha (.instantiable cls 6) (by simp [Bundle.ownAtoms])
  have K := thr_go (p := p) (l := l) (e := e) (R := { frames := 10, cells := 1, slots := 6, locals := 200 }) (s := s2) (m := m) (args := args) (below := below) (meth := meth) (c := c) (H := T.heap) (cc := cc) (pc := pc) (ls := ls) (own := own) (cls := cls) (tx := tx) (names := names) (ix := ix) (kx := kx) (ic := ic) (qm := qm) hx hb htr hlocks (by rw [hv]; exact hown) hsz hcl hini hinst ha (vk_R.same hv hstr) hfit hnames hn3 ⟨Nat.le_refl _, Nat.le_refl _, Nat.le_refl _, Nat.le_refl _⟩ hout (by rw [hh]; exact Nat.le_refl _) d0 d1 d2 d3 d4
  obtain ⟨U, st, a, u2, u3, u4, u5, ce, u6, u7, u8⟩ := K T rfl X2
  rw [hv] at u5 u8
  have hk : ∀ q : Nat, q < T.heap.size → U.heap[q]? = T.heap[q]? := fun q hq => by
    have := keep_same u5 (q := q) (by rw [hh]; exact hq)
    rw [hh] at this
    exact this
  have hsz2 : T.heap.size ≤ U.heap.size := by
    have := u5.2.1
    rw [hh] at this
    exact this
  have hW : s.WarmedH U.vm := hwm _ u4
  refine ⟨U, st, a, u2, u3, ⟨⟨ev, hp, va_K.moved hW.alike h.1.1, h.1.2.1.kept (fun k x hx => hk x.1 (h.1.2.1 k x hx).lt), h.1.2.2⟩, ⟨Nat.le_trans h.2.1.1 hsz2, fun q h1 h2 => (hk q (Nat.lt_of_lt_of_le h1 h.2.1.1)).trans (h.2.1.2.1 q h1 h2)⟩, ce, u6, u7, u8⟩, locs, ⟨hW, ?_⟩, h.2.1.2.2⟩
  have e1 : T.setVm s.vm = { s.setFrames (T.setVm s.vm).frames with heap := T.heap, slotsUsed := T.slotsUsed } := X.same.1
  have hs3 : ∀ F fs, ({ s.setFrames F with heap := T.heap, slotsUsed := T.slotsUsed } : State).setFrames fs = { s.setFrames fs with heap := T.heap, slotsUsed := T.slotsUsed } := fun F fs => by
    show ({ (s.setFrames F).setFrames fs with heap := T.heap, slotsUsed := T.slotsUsed } : State) = _
    rw [State.setFrames_setFrames]
  have h2 : (T.setVm s.vm).sameButNew ({ U with vm := s.vm } : State) [] 1 6 := by
    obtain ⟨v1, v2, v3, v4, v5, v6⟩ := u5
    rw [hh] at v2 v3 v4 v5 v6
    have v4s : s2.slotsUsed = T.slotsUsed := by
      have := congrArg State.slotsUsed (hsf [])
      exact this
    rw [v4s] at v4
    refine ⟨?_, v2, v3, v4, v5, v6⟩
    rw [hsf] at v1
    rw [e1, hs3]
    exact v1
  have h3 := X.same.trans h2
  rw [List.append_nil] at h3
  exact h3
end THR
