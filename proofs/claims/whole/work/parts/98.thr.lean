section THR
variable {p : Program} {l : Launch} {e : Env} {R : Room} {s : State} {m : MethodId} {args : Array Value} {below : List Frame} {meth : Method} {c : Code} {H : Heap} {locs : List Loc} {cells slots : Nat} {cc : ByteArray} {pc : Nat} {ls : Array Slot} {G : wG} {A : Nat → Prop} {n : Nat} {ad : Nat → Nat} {ev : Nat → va_E}
/-- behind a throw: the world, and the cell of what was thrown -/
def wQt (G : wG) (A : Nat → Prop) (n : Nat) (ad : Nat → Nat) (cls : String) (post : (Nat → va_E) → Prop) : Array Value → State → Addr → State → Prop := fun _ st x t => (∃ ev', post ev' ∧ wS G A n ad ev' t t.heap) ∧ va_F A st t ∧ ∃ ce : Cell, t.heap[x]? = some ce ∧ ce.vm = .none ∧ st.vm.findClass cls = some ce.cls
theorem keep_same {s t : State} {k n : Nat} (h : s.sameButNew t [] k n) {q : Nat} (hq : q < s.heap.size) : t.heap[q]? = s.heap[q]? := by
  obtain ⟨cl, hcl⟩ : ∃ cl, s.heap[q]? = some cl := ⟨_, Array.getElem?_eq_getElem hq⟩
  obtain ⟨c', h1, h2, h3, h4⟩ := h.2.2.2.2.2 q cl hcl
  rw [h1, hcl, h2]
  have e : c'.slots = cl.slots := by
    apply Array.ext_getElem?
    intro i
    exact h4 i (by simp)
  rw [e]
set_option maxHeartbeats 4000000 in
theorem wv_throw {s0 : State} {own cls tx : String} {names : List String} {ix kx ic qm : Nat} {post : (Nat → va_E) → Prop} (hx : p.tables.exec = Jvm.exec) (hb : c.code = cc) (htr : e.platform.stackTraces = false) (hlocks : meth.locks = false) (hown : s.vm.findClass own = some m.cls) (hsz : ls.size = c.maxLocals)
    (hold : OLD s0 s) (HW : ∀ (U : State) (args : Array Value), OLD s0 U → ∀ w ∈ (Cond.classLink own ix cls :: Cond.initialized cls :: Bundle.ownAtoms own ic cls names), w.before args U = true) (hstr : vk_R own kx tx qm s) (hfit : Bundle.fit cls = true) (hnames : ∀ n ∈ names, Bundle.fit n = true) (hn3 : names.length ≤ 3)
    (h : wT G (fun q => s0.heap.size ≤ q) n ad ev s H locs) (hR : 10 ≤ R.frames ∧ 200 ≤ R.locals ∧ cells + 1 ≤ R.cells ∧ slots + 6 ≤ R.slots) (hout : ∀ x ∈ c.exceptionTable.toList, covers x (pc + 9) = false)
    (d0 : decode cc pc = .ok (.new ix, 3)) (d1 : decode cc (pc + 3) = .ok (.dup, 1)) (d2 : decode cc (pc + 4) = .ok (.ldc kx, 2)) (d3 : decode cc (pc + 6) = .ok (.invokespecial ic, 3)) (d4 : decode cc (pc + 9) = .ok (.athrow, 1)) (hp : post ev) :
    W p l e R s m args below meth c H locs cells slots (MQT below (wQt G (fun q => s0.heap.size ≤ q) n ad cls post) args s (cells + 1) (slots + 6) (fun q => s0.heap.size ≤ q)) (F0 m pc ls []) := by
  intro T hT X
  subst hT
  have X2 := Stand_rebase X (R2 := { frames := 10, cells := 1, slots := 6, locals := 200 }) hR.1 hR.2.1 hR.2.2.1 hR.2.2.2
  have ho2 : OLD s0 (rbs s T.heap T.slotsUsed) := hold.rbs h.2.1
  have hw := HW _ args ho2
  have hinst := hw (.instantiable cls 6) (List.mem_cons_of_mem _ (List.mem_cons_of_mem _ (by simp [Bundle.ownAtoms])))
  have hcl := hw (.classLink own ix cls) List.mem_cons_self
  have hini := hw (.initialized cls) (List.mem_cons_of_mem _ List.mem_cons_self)
  obtain ⟨cX, kX, hcX, hkX, -⟩ := Cond.instantiable_spec hinst
  have ha : ∀ a ∈ Bundle.ownAtoms own ic cls names, a.before args (rbs s T.heap T.slotsUsed) = true := fun a ha => hw a (List.mem_cons_of_mem _ (List.mem_cons_of_mem _ ha))
  have K : W p l e { frames := 10, cells := 1, slots := 6, locals := 200 } (rbs s T.heap T.slotsUsed) m args below meth c T.heap [] 0 0 (fun U => ∃ a : Addr, U.status = .running ∧ Ended U below (.threw a) ∧ (rbs s T.heap T.slotsUsed).WarmedH U.vm ∧ (rbs s T.heap T.slotsUsed).sameButNew ({ U with vm := s.vm } : State) [] 1 6 ∧ ∃ ce : Cell, U.heap[a]? = some ce ∧ ce.vm = .none ∧ s.vm.findClass cls = some ce.cls) (F0 m pc ls []) := by
    refine W.newcK (C := cls) (index := ix) (n := 6) hx hb hown hcl hinst hini rfl d0 (Nat.le_of_ble_eq_true rfl) (Nat.le_of_ble_eq_true rfl) hcX rfl (fun H1 kC hkC e1 z1 o1 => ?_)
    refine W.eq (g2 := F0 m (pc + 3) ls [.ref T.heap.size]) rfl ?_
    refine lv_dup hx hb d1 rfl ?_
    refine W.eq (g2 := F0 m (pc + 4) ls [.ref T.heap.size, .ref T.heap.size]) rfl ?_
    refine va_ldcS hx hb hown (vk_R.same (u := s) rfl hstr) d2 ?_
    refine W.eq (g2 := F0 m (pc + 6) ls [.ref qm, .ref T.heap.size, .ref T.heap.size]) rfl ?_
    intro T3 hT3 X3
    obtain ⟨U, u1, u2, u3, u4, u5, ce, u6, u7⟩ := X3.ctorThrowS hx htr (own := own) (cls := cls) (names := names) (ic := ic) hown hfit hnames ha (fun x hx => by cases hx) hcX hkC (a := T.heap.size) (by rw [hT3]; exact e1) (Nat.le_refl _) (msg := .ref qm) rfl (g := F0 m (pc + 6) ls [.ref qm, .ref T.heap.size, .ref T.heap.size]) rfl hsz rfl rfl (rest := []) rfl (by rw [hb]; exact d3) (by rw [hb]; exact d4) hout (by show names.length + 3 < 10; omega) (by show 2 * 0 + 1 + (13 * (names.length + 1) + 42) ≤ 200; omega) hlocks
    exact ⟨U, u1, _, u2, u3, u4, u5, ce, u6, u7.vm, u7.cls⟩
  obtain ⟨U, st, a, u2, u3, u4, u5, ce, u6, u7, u8⟩ := K T rfl X2
  have hk : ∀ q : Nat, q < T.heap.size → U.heap[q]? = T.heap[q]? := fun q hq => keep_same u5 hq
  have hsz2 : T.heap.size ≤ U.heap.size := u5.2.1
  have hW : s.WarmedH U.vm := u4
  refine ⟨U, st, a, u2, u3, ⟨⟨ev, hp, va_K.moved hW.alike h.1.1, h.1.2.1.kept (fun k x hx => hk x.1 (h.1.2.1 k x hx).lt), h.1.2.2⟩, ⟨Nat.le_trans h.2.1.1 hsz2, fun q h1 h2 => (hk q (Nat.lt_of_lt_of_le h1 h.2.1.1)).trans (h.2.1.2.1 q h1 h2)⟩, ce, u6, u7, u8⟩, locs, ⟨hW, ?_⟩, h.2.1.2.2⟩
  have e1 := X.same.1
  have h2 : (T.setVm s.vm).sameButNew ({ U with vm := s.vm } : State) [] 1 6 := by
    refine ⟨?_, u5.2⟩
    rw [e1]
    exact u5.1
  have h3 := X.same.trans h2
  rw [List.append_nil] at h3
  exact h3
end THR
