/-! a method's road from the middle on: what it wrote so far is taken as the beginning -/
def rbs (s : State) (H : Heap) (k : Nat) : State := { s with heap := H, slotsUsed := k }
theorem Stand_rebase {p : Program} {l : Launch} {e : Env} {R R2 : Room} {s T : State} {m : MethodId} {args : Array Value} {below : List Frame} {meth : Method} {c : Code} {locs : List Loc} {cells slots : Nat} (X : Stand p l e R s m args below meth c T locs cells slots) (h1 : R2.frames ≤ R.frames) (h2 : R2.locals ≤ R.locals) (h3 : cells + R2.cells ≤ R.cells) (h4 : slots + R2.slots ≤ R.slots) : Stand p l e R2 (rbs s T.heap T.slotsUsed) m args below meth c T [] 0 0 where
  admits := X.admits
  cas := X.cas
  clock := X.clock
  frames := X.frames
  room := by
    have h := X.room
    have hb := X.book
    obtain ⟨q1, q2, q3, q4, q5, q6⟩ := X.same
    have q3 : T.heap.size ≤ s.heap.size + cells := q3
    have q4 : T.slotsUsed = s.slotsUsed + ((T.heap.toList.drop s.heap.size).map (·.slots.size)).sum := q4
    have q5 : ((T.heap.toList.drop s.heap.size).map (·.slots.size)).sum ≤ slots := q5
    simp only [State.hasRoom, Bool.and_eq_true, decide_eq_true_eq] at h ⊢
    obtain ⟨⟨⟨⟨a1, a2, a3, a4, a5, a6⟩, a7⟩, a8⟩, a9⟩ := h
    refine ⟨⟨⟨⟨?_, ?_, ?_, ?_, ?_, a6⟩, ?_⟩, ?_⟩, hb⟩
    · show s.localsInUse + R2.locals + stackMargin ≤ _
      omega
    · show s.frames.length + R2.frames ≤ _
      omega
    · show s.frames.length + R2.frames ≤ (e.platform.stackLimits s.me).1
      omega
    · show s.localsInUse + R2.locals ≤ _
      omega
    · show s.localsInUse + R2.locals ≤ (e.platform.stackLimits s.me).2
      omega
    · show T.heap.size + R2.cells ≤ _
      omega
    · show T.slotsUsed + R2.slots ≤ _
      omega
  hears := X.hears
  method := X.method
  code := X.code
  here := X.here
  tail := X.tail
  warmed := X.warmed
  limits := X.limits
  bytes := X.bytes
  same := by
    have e : T.heap.toList.drop T.heap.size = [] := by
      rw [← Array.length_toList]
      exact List.drop_length
    refine ⟨X.same.1, Nat.le_refl _, Nat.le_refl _, ?_, ?_, fun a c h => ⟨c, h, rfl, rfl, fun _ _ => rfl⟩⟩
    · show T.slotsUsed = T.slotsUsed + ((T.heap.toList.drop T.heap.size).map (·.slots.size)).sum
      rw [e]
      rfl
    · show ((T.heap.toList.drop T.heap.size).map (·.slots.size)).sum ≤ 0
      rw [e]
      exact Nat.le_refl _
