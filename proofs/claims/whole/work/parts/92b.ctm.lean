section CTM
variable {p : Program} {l : Launch} {e : Env} {R : Room} {s : State} {m : MethodId} {args : Array Value} {below : List Frame} {meth : Method} {c : Code} {H : Heap} {locs : List Loc} {cells slots : Nat} {Q : State → Prop} {cc : ByteArray} {pc : Nat} {ls : Array Slot} {rest st0 As : List Value} {G : wG} {A : Nat → Prop} {n : Nat} {ad : Nat → Nat} {ev : Nat → va_E} {x : Cond} {y : MethodName} {bytes : ByteArray} {maxL nL index k mc ms : Nat} {ret : Option FieldType} {rm : Room} {own : String}
abbrev wRn (rm R : Room) (maxL mc ms : Nat) : Prop := rm.cells = mc ∧ rm.slots = ms ∧ rm.frames + 1 ≤ R.frames ∧ 8 + (maxL + 11) + rm.locals ≤ R.locals
theorem wv_naret {v : Value} {rt : FieldType} {post : Option Value → Nat → (Nat → Nat) → (Nat → va_E) → Prop} (hx : p.tables.exec = Jvm.exec) (hb : c.code = cc) (hr : meth.sig.returnType = some rt) (hlocks : meth.locks = false) (h : wT G A n ad ev s H locs) (hdg : decode cc pc = .ok (.areturn, 1)) (hrt : (∃ n, rt = .object n) ∨ ∃ t, rt = .array t) (hv : v = .null ∨ ∃ a, v = .ref a) (hp : post (some v) n ad ev) : W p l e R s m args below meth c H locs cells slots (MQ below (wQn G A post) args s cells slots A) (F0 m pc ls [v]) :=
  W.aret hx hb hr hrt hv (fun t ht hW => ⟨⟨_, n, ad, ev, rfl, hp, va_K.moved hW.alike h.1.1, by rw [ht]; exact h.1.2.1, h.1.2.2⟩, h.2.1.F ht⟩) h.2.1.2.2 hdg hlocks
/-- a call of an own class's constructor -/
theorem wv_Ix {post : Option Value → Nat → (Nat → Nat) → (Nat → va_E) → Prop} (hC : CallFix p m c cc nL s args (x :: tb) own) (h : wT G A n ad ev s H locs) {b : Nat}
    (hM : Met l y (.code y bytes maxL none :: tb) rm (wPc G A n ad ev (.ref b :: As)) (wQn G A post) mc ms A) (hcode : Cond.code y bytes maxL none ∈ tb) (hlink : Cond.methodLink own index y ∈ tb) (hin : Cond.instanceMethod y ∈ tb) (hini : Cond.initialized y.cls ∈ tb) (hy1 : y.name = "<init>")
    (hd : y.cls ≠ "java/lang/invoke/MethodHandle" ∧ y.cls ≠ "java/lang/invoke/VarHandle" ∧ (parseMethodDescriptor y.desc).map (fun d => d.parameters.length) = some k) (hR : wRn rm R maxL mc ms) (hsz : ls.size = nL) (hn : As.length = k) (hst : st0 = As.reverse ++ .ref b :: rest) (hW : (rest.map fun v => v.category).sum ≤ 8) (hf : cells + mc ≤ R.cells ∧ slots + ms ≤ R.slots) (hdg : decode cc pc = .ok (.invokespecial index, 3))
    (kk : ∀ (ov : Option Value) (n' : Nat) (ad' : Nat → Nat) (ev' : Nat → va_E) (H1 : Heap) (locs1 : List Loc), post ov n' ad' ev' → wT G A n' ad' ev' s H1 locs1 → W p l e R s m args below meth c H1 locs1 (cells + mc) (slots + ms) Q (F0 m (pc + 3) ls (ov.toList ++ rest))) : W p l e R s m args below meth c H locs cells slots Q (F0 m pc ls st0) := by
  have hts := hC.2.2.2.2
  have hg : GoodIn (x :: tb) (.code y bytes maxL none :: tb) := tb_good (fun w hw => by
    rcases List.mem_cons.mp hw with rfl | hw
    · exact hcode
    · exact hw)
  exact wv_calln h (va_runI (As := As) (rest := rest) hC hM (cwI k hts hg rfl hR.1 hR.2.1 (hts _ (List.mem_cons_of_mem _ hini)) (hts _ (List.mem_cons_of_mem _ hlink)) (hts _ (List.mem_cons_of_mem _ hin)) hy1 hd ⟨hR.2.2.1, hR.2.2.2⟩) h.preS rfl hn hsz hst (lv_room hW) hdg hf) kk
/-- a call of a nest mate's private constructor -/
theorem wv_In {post : Option Value → Nat → (Nat → Nat) → (Nat → va_E) → Prop} {host : String} (hC : CallFix p m c cc nL s args (x :: tb) own) (h : wT G A n ad ev s H locs) {b : Nat}
    (hM : Met l y (.code y bytes maxL none :: tb) rm (wPc G A n ad ev (.ref b :: As)) (wQn G A post) mc ms A) (hcode : Cond.code y bytes maxL none ∈ tb) (hlink : va_Nw (.methodLinkNest own index y host) s) (hin : Cond.instanceMethod y ∈ tb) (hini : Cond.initialized y.cls ∈ tb) (hy1 : y.name = "<init>")
    (hd : y.cls ≠ "java/lang/invoke/MethodHandle" ∧ y.cls ≠ "java/lang/invoke/VarHandle" ∧ (parseMethodDescriptor y.desc).map (fun d => d.parameters.length) = some k) (hR : wRn rm R maxL mc ms) (hsz : ls.size = nL) (hn : As.length = k) (hst : st0 = As.reverse ++ .ref b :: rest) (hW : (rest.map fun v => v.category).sum ≤ 8) (hf : cells + mc ≤ R.cells ∧ slots + ms ≤ R.slots) (hdg : decode cc pc = .ok (.invokespecial index, 3))
    (kk : ∀ (ov : Option Value) (n' : Nat) (ad' : Nat → Nat) (ev' : Nat → va_E) (H1 : Heap) (locs1 : List Loc), post ov n' ad' ev' → wT G A n' ad' ev' s H1 locs1 → W p l e R s m args below meth c H1 locs1 (cells + mc) (slots + ms) Q (F0 m (pc + 3) ls (ov.toList ++ rest))) : W p l e R s m args below meth c H locs cells slots Q (F0 m pc ls st0) := by
  have hts := hC.2.2.2.2
  have hg : GoodIn (x :: tb) (.code y bytes maxL none :: tb) := tb_good (fun w hw => by
    rcases List.mem_cons.mp hw with rfl | hw
    · exact hcode
    · exact hw)
  exact wv_calln h (va_runIN (As := As) (rest := rest) hC hM ⟨va_cnB k hts hg rfl hR.1 hR.2.1 hlink (hts _ (List.mem_cons_of_mem _ hini)) hd ⟨hR.2.2.1, hR.2.2.2⟩, hy1, hts _ (List.mem_cons_of_mem _ hin)⟩ h.preS rfl hn hsz hst (lv_room hW) hdg hf) kk
/-- a call of an own class's method that makes cells -/
theorem wv_Vn {post : Option Value → Nat → (Nat → Nat) → (Nat → va_E) → Prop} (hC : CallFix p m c cc nL s args (x :: tb) own) (h : wT G A n ad ev s H locs) (q : Nat) (hq : q < n) {ci : Nat} {fs : List Value} {C : String} {T : u_T} {N : Nat} (hev : ev q = eO ci fs) (hc : vwCl[ci]? = some (C, T, N))
    (hM : Met l y (.code y bytes maxL ret :: tb) rm (wPc G A n ad ev (.ref (ad q) :: As)) (wQn G A post) mc ms A) (hcode : Cond.code y bytes maxL ret ∈ tb) (hlink : Cond.methodLink own index y ∈ tb) (hin : Cond.instanceMethod y ∈ tb) (hsel : Cond.selects C y y ∈ tb) (hini : Cond.initialized C ∈ tb)
    (hd : y.cls = C ∧ y.cls ≠ "java/lang/invoke/MethodHandle" ∧ y.cls ≠ "java/lang/invoke/VarHandle" ∧ (parseMethodDescriptor y.desc).map (fun d => d.parameters.length) = some k) (hR : wRn rm R maxL mc ms) (hsz : ls.size = nL) (hn : As.length = k) (hst : st0 = As.reverse ++ .ref (ad q) :: rest) (hW : (rest.map fun v => v.category).sum ≤ 8) (hf : cells + mc ≤ R.cells ∧ slots + ms ≤ R.slots) (hdg : decode cc pc = .ok (.invokevirtual index, 3))
    (kk : ∀ (ov : Option Value) (n' : Nat) (ad' : Nat → Nat) (ev' : Nat → va_E) (H1 : Heap) (locs1 : List Loc), post ov n' ad' ev' → wT G A n' ad' ev' s H1 locs1 → W p l e R s m args below meth c H1 locs1 (cells + mc) (slots + ms) Q (F0 m (pc + 3) ls (ov.toList ++ rest))) : W p l e R s m args below meth c H locs cells slots Q (F0 m pc ls st0) := by
  refine wv_calln h (va_runV (As := As) (rest := rest) hC hM (cwV k hC.2.2.2.2 (tb_good ?_) rfl hR.1 hR.2.1 hd ⟨hR.2.2.1, hR.2.2.2⟩) (h.preV q hq hev hc) rfl hn hsz hst (lv_room hW) hdg hf) kk
  intro w hw
  simp only [wsV, List.mem_append, List.mem_cons, List.not_mem_nil, or_false] at hw
  rcases hw with (rfl | rfl | rfl | rfl) | rfl | hw
  · exact hlink
  · exact hin
  · exact hsel
  · exact hini
  · exact hcode
  · exact hw
end CTM
