section THO
variable {p : Program} {l : Launch} {e : Env} {R : Room} {s : State} {m : MethodId} {args : Array Value} {below : List Frame} {meth : Method} {c : Code} {H : Heap} {locs : List Loc} {cells slots : Nat} {cc : ByteArray} {pc : Nat} {ls : Array Slot} {G : wG} {A : Nat → Prop} {n : Nat} {ad : Nat → Nat} {ev : Nat → va_E}
set_option maxHeartbeats 4000000 in
theorem thr_go {own cls tx : String} {names : List String} {ix kx ic qm : Nat} (hx : p.tables.exec = Jvm.exec) (hb : c.code = cc) (htr : e.platform.stackTraces = false) (hlocks : meth.locks = false) (hown : s.vm.findClass own = some m.cls) (hsz : ls.size = c.maxLocals)
    (hcl : (Cond.classLink own ix cls).before args s = true) (hini : (Cond.initialized cls).before args s = true) (hinst : (Cond.instantiable cls 6).before args s = true) (ha : ∀ a ∈ Bundle.ownAtoms own ic cls names, a.before args s = true) (hstr : vk_R own kx tx qm s) (hfit : Bundle.fit cls = true) (hnames : ∀ n ∈ names, Bundle.fit n = true) (hn3 : names.length ≤ 3)
    (hR : 10 ≤ R.frames ∧ 200 ≤ R.locals ∧ 1 ≤ R.cells ∧ 6 ≤ R.slots) (hout : ∀ x ∈ c.exceptionTable.toList, covers x (pc + 6 + 3) = false) (hH : s.heap.size ≤ H.size)
    (d0 : decode cc pc = .ok (.new ix, 3)) (d1 : decode cc (pc + 3) = .ok (.dup, 1)) (d2 : decode cc (pc + 4) = .ok (.ldc kx, 2)) (d3 : decode cc (pc + 6) = .ok (.invokespecial ic, 3)) (d4 : decode cc (pc + 6 + 3) = .ok (.athrow, 1)) :
    W p l e R s m args below meth c H [] 0 0 (fun U => ∃ a : Addr, U.status = .running ∧ Ended U below (.threw a) ∧ s.WarmedH U.vm ∧ s.sameButNew ({ U with vm := s.vm } : State) [] 1 6 ∧ ∃ ce : Cell, U.heap[a]? = some ce ∧ ce.vm = .none ∧ s.vm.findClass cls = some ce.cls) (F0 m pc ls []) := by
  obtain ⟨cX, kX, hcX, hkX, -⟩ := Cond.instantiable_spec hinst
  refine W.newcK (C := cls) (index := ix) (n := 6) hx hb hown hcl hinst hini rfl d0 (by omega) (by omega) hcX rfl (fun H1 kC hkC e1 z1 o1 => ?_)
  refine W.eq (g2 := F0 m (pc + 3) ls [.ref H.size]) rfl ?_
  refine lv_dup hx hb d1 rfl ?_
  refine W.eq (g2 := F0 m (pc + 4) ls [.ref H.size, .ref H.size]) rfl ?_
  refine va_ldcS hx hb hown hstr d2 ?_
  refine W.eq (g2 := F0 m (pc + 6) ls [.ref qm, .ref H.size, .ref H.size]) rfl ?_
  intro T3 hT3 X3
  have hc3 : decode c.code (pc + 6) = .ok (.invokespecial ic, 3) := by rw [hb]; exact d3
  have hc4 : decode c.code (pc + 6 + 3) = .ok (.athrow, 1) := by rw [hb]; exact d4
  have hce : T3.heap[H.size]? = some (freshCell cX kC) := by rw [hT3]; exact e1
  have hfr : names.length + 3 < R.frames := by omega
  have hlo : 2 * (F0 m (pc + 6) ls [.ref qm, .ref H.size, .ref H.size]).monitorRoom + ((Value.ref H.size :: ([] : List Value)).map fun v => v.category).sum + (13 * (names.length + 1) + 42) ≤ R.locals := by
    show 2 * 0 + 1 + (13 * (names.length + 1) + 42) ≤ R.locals
    omega
  obtain ⟨U, u1, u2, u3, u4, u5, ce, u6, u7⟩ := Stand.ctorThrowS X3 hx htr (own := own) (cls := cls) (names := names) (ic := ic) hown hfit hnames ha (fun x hx => absurd hx (List.not_mem_nil)) hcX hkC hce hH (msg := .ref qm) rfl (g := F0 m (pc + 6) ls [.ref qm, .ref H.size, .ref H.size]) rfl hsz rfl rfl (rest := []) rfl hc3 hc4 hout hfr hlo hlocks
  exact ⟨U, u1, H.size, u2, u3, u4, u5, ce, u6, u7.vm, u7.cls⟩
end THO
