/-! what the tables and the start give at the law's entry -/
theorem st_old {s U : State} (hO : OLD s U) {C f d : String} {a a' : Array Value} (h : (Cond.isRef (.static C f d)).before a s = true) : (Cond.isRef (.static C f d)).before a' U = true := by
  obtain ⟨v, hv, hvr⟩ := Cond.isRef_spec h
  have h1 := Term.static_setVm hO.1.alike hv
  cases hi : (s.setVm U.vm).fieldFound? C f d with
  | none => simp [Term.eval, State.fieldNamed?, hi] at h1
  | some w =>
    obtain ⟨c, k, i, fd⟩ := w
    obtain ⟨hst, q, cell, hq, hcell, -, hslot⟩ := Term.static_spec hi h1
    have hs : cell.vm.isStatics = true := by
      simp only [Term.eval, State.fieldNamed?, hi, Option.bind_eq_bind, Option.bind_some, hst, beq_self_eq_true, if_true, Option.pure_def, hq, hcell] at h1
      split at h1
      · assumption
      · cases h1
    have hc : s.heap[q]? = some cell := hcell
    have hcU : U.heap[q]? = some cell := by rw [hO.2.2 q (Array.getElem?_eq_some_iff.mp hc).1]; exact hc
    have hiU : U.fieldFound? C f d = some (c, k, i, fd) := hi
    have he := Term.static_eval (args := a') (first := U) (o := none) (idx := []) (s := U) hiU hst hq hcU hs hslot
    simp only [Cond.before, Cond.holds, Cond.value, he]
    cases v <;> first | rfl | cases hvr
theorem ls_old {s U : State} (hO : OLD s U) {C f d : String} {a a' : Array Value} (h : (Cond.laysStatic C f d).before a s = true) : (Cond.laysStatic C f d).before a' U = true := by
  have h1 := Cond.laysStatic_setVm hO.1.alike h
  obtain ⟨c, k, i, fd, q, cell, p1, p2, p3, p4, p5, p6, p7, p8, p9⟩ := Cond.laysStatic_spec h1
  have hc : s.heap[q]? = some cell := p5
  have hcU : U.heap[q]? = some cell := by rw [hO.2.2 q (Array.getElem?_eq_some_iff.mp hc).1]; exact hc
  exact Cond.laysStatic_of (s := U) p1 p2 p3 p4 hcU p6 p7 p8 p9
def twA : List Cond := Cond.classLink "NonceBox" 98 "java/lang/IllegalArgumentException" :: Cond.initialized "java/lang/IllegalArgumentException" :: Bundle.ownAtoms "NonceBox" 102 "java/lang/IllegalArgumentException" ["java/lang/RuntimeException", "java/lang/Exception"]
def twS : List Cond := Cond.classLink "NonceBox" 115 "java/lang/IllegalStateException" :: Cond.initialized "java/lang/IllegalStateException" :: Bundle.ownAtoms "NonceBox" 119 "java/lang/IllegalStateException" ["java/lang/RuntimeException", "java/lang/Exception"]
def twR : List Cond := [.isRef (.static "java/lang/Throwable" "UNASSIGNED_STACK" "[Ljava/lang/StackTraceElement;"), .isRef (.static "java/lang/Throwable" "SUPPRESSED_SENTINEL" "Ljava/util/List;")]
def twK (w : Cond) : Bool := match w with
  | .declares _ => true
  | .castable _ _ => true
  | .laysStatic _ _ _ => true
  | w => goodWord w
def twT (w : Cond) : Bool := (twK w && decide (w ∈ lw_tbl)) || decide (w ∈ twR)
theorem twK_at {s U : State} (hO : OLD s U) {w : Cond} {a a' : Array Value} (hw : twK w = true) (h : w.before a s = true) : w.before a' U = true := by
  unfold twK at hw
  split at hw
  · exact va_Nw.use rfl (va_Nw.warmD hO.1 (va_Nw.of rfl h))
  · exact va_Nw.use rfl (va_Nw.warmC hO.1 (va_Nw.of rfl h))
  · exact ls_old hO h
  · exact word_at hO.1 (good_of_word hw) h
theorem twA_ok : twA.all twT = true := by decide +kernel
theorem twS_ok : twS.all twT = true := by decide +kernel
theorem tw_of {s : State} {A0' : Array Value} (hts : ∀ w ∈ lw_tbl, w.before A0' s = true) (hR : ∀ w ∈ twR, w.before A0' s = true) {ws : List Cond} (hw : ws.all twT = true) (U : State) (args : Array Value) (hO : OLD s U) : ∀ w ∈ ws, w.before args U = true := by
  intro w hm
  have h1 := List.all_eq_true.mp hw w hm
  simp only [twT, Bool.or_eq_true, Bool.and_eq_true, decide_eq_true_eq] at h1
  rcases h1 with ⟨h1, h2⟩ | h2
  · exact twK_at hO h1 (hts w h2)
  · have h3 := hR w h2
    simp only [twR, List.mem_cons, List.not_mem_nil, or_false] at h2
    rcases h2 with rfl | rfl
    · exact st_old hO h3
    · exact st_old hO h3
theorem tw_str {s : State} {A : Array Value} {own tx : String} {k : Nat} (h1 : (Cond.stringRef own k tx).before A s = true) (h2 : (Cond.exactly (.string own k) "java/lang/String").before A s = true) : ∃ tx q, vk_R own k tx q s := by
  obtain ⟨a2, c, cA, kA, q1, -⟩ := Cond.exactly_spec (args := A) (first := s) (o := none) (s := s) (idx := []) h2
  exact ⟨tx, a2, vk_R.of h1 q1⟩
theorem not_cast {s : State} {A : Array Value} {C D : String} {a b : ClassId} (h : (Cond.not (.castable C D)).before A s = true) (ha : s.vm.findClass C = some a) (hb : s.vm.findClass D = some b) : s.vm.assignable a b = false := by
  simp only [Cond.before, Cond.holds, Cond.value, ha, hb] at h
  simpa using h
theorem arr_of {s : State} {A : Array Value} {ty : FieldType} (h : (Cond.arrayClass ty).before A s = true) : ∃ cA, ArrOfT s cA ty ∧ s.vm.findClass ("[" ++ ty.toString) = some cA := by
  obtain ⟨cA, kA, comp, h1, h2, h3⟩ := Cond.arrayClass_spec h
  exact ⟨cA, fun n z => ⟨fun k h => (by cases h), kA, h2, comp, h3⟩, h1⟩
theorem va_begin {s : State} {A : Array Value} (hts : ∀ w ∈ tb, w.before A s = true) : ∃ G : wG, va_K G.1 vwCl (wty G) s := by
  obtain ⟨k0, t0, u0⟩ := u_known (C := "NonceBox$Curve") (T := fT_Cv) (N := 14) hts fW_Cv (hts _ kI_Cv)
  obtain ⟨k1, t1, u1⟩ := u_known (C := "NonceBox$Field") (T := fT_Fd) (N := 5) hts fW_Fd (hts _ kI_Fd)
  obtain ⟨k2, t2, u2⟩ := u_known (C := "NonceBox$Mixer") (T := fT_Mx) (N := 5) hts fW_Mx (hts _ kI_Mx)
  obtain ⟨k3, t3, u3⟩ := u_known (C := "NonceBox$Tagger") (T := fT_Tg) (N := 4) hts fW_Tg (hts _ kI_Tg)
  obtain ⟨k4, t4, u4⟩ := u_known (C := "NonceBox") (T := fT_NB) (N := 13) hts fW_NB (hts _ kI_NB)
  obtain ⟨k5, t5, u5⟩ := u_known (C := "NonceBoxModel") (T := fT_Md) (N := 16) hts fW_Md (hts _ kI_Md)
  obtain ⟨cB, b1, b2⟩ := arr_of (hts _ ka_byte)
  obtain ⟨cI, i1, i2⟩ := arr_of (hts _ ka_int)
  obtain ⟨cJ, j1, j2⟩ := arr_of (hts _ ka_long)
  refine ⟨((fun k => match k with | 0 => k0 | 1 => k1 | 2 => k2 | 3 => k3 | 4 => k4 | _ => k5, fun k => match k with | 0 => t0 | 1 => t1 | 2 => t2 | 3 => t3 | 4 => t4 | _ => t5), cB, cI, cJ), ?_, ?_⟩
  · intro c q hc
    match c, hc with
    | 0, hc => cases hc; exact u0
    | 1, hc => cases hc; exact u1
    | 2, hc => cases hc; exact u2
    | 3, hc => cases hc; exact u3
    | 4, hc => cases hc; exact u4
    | 5, hc => cases hc; exact u5
    | c + 6, hc => cases hc
  · intro k q hk
    match k, hk with
    | 0, hk => cases hk; exact ⟨b1, b2⟩
    | 1, hk => cases hk; exact ⟨i1, i2⟩
    | 2, hk => cases hk; exact ⟨j1, j2⟩
    | k + 3, hk => cases hk
set_option maxRecDepth 100000 in
set_option maxHeartbeats 4000000 in
/-- from the entry, for every script of at most 2560 ints, the law comes to its end with true -/
theorem whole_start {p : Program} {e : Env} {s : State} {m : MethodId} {below : List Frame} {meth : Method} {c : Code} (l : Launch) (hoff : ∀ e, l.admits e → e.platform.stackTraces = false) {b L : Nat} {xs : Nat → Int32} (hL : L ≤ 2560) (C0 : lw_At p s m meth c b L xs) : W p l e room_1 s m #[Value.ref b] below meth c s.heap [] 0 0 (lw_Z below #[Value.ref b] s) (entryFrame m ([Value.ref b] : List Value).toArray 7) := by
  obtain ⟨hx, hb, hr, hml, hown, hts, hX, hbl, hlocks, hgv⟩ := C0
  have hfl := flat_of_before _ hgv
  have ht1 : ∀ w ∈ tables_1, w.before #[Value.ref b] s = true := fun w hw => hts w (List.mem_append_right _ hw)
  have htb : ∀ w ∈ tb, w.before #[Value.ref b] s = true := fun w hw => hts w (List.mem_filter.mp hw).1
  have hxt : ∀ w ∈ xL :: tb, w.before #[Value.ref b] s = true := fun w hw => by
    rcases List.mem_cons.mp hw with rfl | hw
    · exact htb _ ki_Lw
    · exact htb w hw
  have hR : ∀ w ∈ twR, w.before #[Value.ref b] s = true := fun w hw => by
    simp only [twR, List.mem_cons, List.not_mem_nil, or_false] at hw
    rcases hw with rfl | rfl
    · exact hfl _ (by decide +kernel)
    · exact hfl _ (by decide +kernel)
  have hTW : TW s := ⟨fun U args hO => tw_of hts hR twA_ok U args hO, fun U args hO => tw_of hts hR twS_ok U args hO, tw_str (ht1 _ (List.mem_append_right _ (List.mem_append_right _ (List.mem_append_left _ (List.mem_of_getElem? (i := 224) rfl))))) (hfl _ (by decide +kernel)), tw_str (ht1 _ (List.mem_append_right _ (List.mem_append_right _ (List.mem_append_left _ (List.mem_of_getElem? (i := 238) rfl))))) (hfl _ (by decide +kernel)), tw_str (ht1 _ (List.mem_append_right _ (List.mem_append_right _ (List.mem_append_right _ (List.mem_append_left _ (List.mem_of_getElem? (i := 16) rfl)))))) (hfl _ (by decide +kernel))⟩
  have hCA : CA s := by
    obtain ⟨a, a', h1, h2, h3⟩ := Cond.castable_spec (ht1 _ kt_IllegalArgumentException)
    obtain ⟨d, d', h4, h5, h6⟩ := Cond.castable_spec (ht1 _ kt_IllegalStateException)
    cases h1.symm.trans h2
    cases h4.symm.trans h5
    exact ⟨a, d, h1, h4, h3, h6, not_cast (hfl (.not (.castable "java/lang/IllegalStateException" "java/lang/IllegalArgumentException")) (by decide +kernel)) h4 h1⟩
  have hN : NBN s := ⟨va_Nw.of rfl (ht1 _ (List.mem_append_left _ (List.mem_of_getElem? (i := 33) rfl))), va_Nw.of rfl (ht1 _ (List.mem_append_left _ (List.mem_of_getElem? (i := 57) rfl))), va_Nw.of rfl (ht1 _ (List.mem_append_left _ (List.mem_of_getElem? (i := 104) rfl)))⟩
  obtain ⟨G, hK⟩ := va_begin htb
  have hl := lv_entry [Value.ref b] (n := 7) (Nat.le_of_ble_eq_true rfl)
  rw [lg_entry_eq]
  generalize (lg_sl [Value.ref b] ++ List.replicate (7 - (lg_sl [Value.ref b]).length) Slot.unset).toArray = ls at hl ⊢
  exact lw_go (G := G) ⟨hx, hb, hml, hown, hxt, hX, hbl, hL, hTW, hCA, hoff⟩ hr hlocks hN hK hl
set_option maxHeartbeats 4000000 in
theorem lw_walk (l : Launch) (hoff : ∀ e, l.admits e → e.platform.stackTraces = false) (b : Addr) (xs : List Int32) : MetFree l x (headSpec (Jvm.Cond.code x code maxLocals ret :: tables_1) room_1) (lw_P b xs) (fun _ _ _ _ _ => True) lw_Q := by
  refine MetFree.of_bodyS (code := code) (maxLocals := maxLocals) (ret := ret) (by decide) ?_ ?_
  · intro args s m h hn
    obtain ⟨meth, c, h1, h2, h3, h4, h5, h6, -, -⟩ := Cond.code_spec hn (atoms_spec (ws := Jvm.Cond.code x code maxLocals ret :: tables_1) h _ List.mem_cons_self)
    exact ⟨meth, c, h1, h2, h3, h4, h5, h6⟩
  · intro p e s m args below meth c s₁ B hml0 hP _
    obtain ⟨rfl, hx, hbd, hgv⟩ := hP
    obtain ⟨scr, harrAt, hlist, hof, hsmall⟩ := hx
    obtain ⟨hcb, hkn, -, -⟩ := State.arrayAt?_spec harrAt
    have hown : s.vm.findClass R_law = some m.cls := findClass_of_methodNamed B.named
    have hts0 : ∀ c ∈ (Jvm.Cond.code x code maxLocals ret :: tables_1), c.before #[Value.ref b] s = true := atoms_spec (ws := Jvm.Cond.code x code maxLocals ret :: tables_1) B.pre
    have hts : ∀ w ∈ lw_tbl, w.before #[Value.ref b] s = true := k2_hts_sels lw_privs (fun w hw => hts0 w (List.mem_cons_of_mem _ hw)) lw_privs_ok
    have hml : c.maxLocals = 7 := B.maxLocals_eq (hts0 _ List.mem_cons_self)
    have X₀ : Stand p l e room_1 s m #[Value.ref b] below meth c s₁ [] 0 0 := Stand.of_body B
    have hh0 : s₁.heap = s.heap := by rw [B.state]; rfl
    have hsz : scr.slots.size = xs.length := by rw [← Array.length_toList, hlist, List.length_map]
    have hval : ∀ j : Nat, j < xs.length → scr.slots[j]? = some (.int (xs.getD j 0)) := fun j hj => by
      rw [← Array.getElem?_toList, hlist]
      simp [hj]
    have hbl : b < s.heap.size := (Array.getElem?_eq_some_iff.mp hcb).1
    have hX : va_X b xs.length (fun j => xs.getD j 0) s s.heap := ⟨scr, hcb, hof, hkn, hsz, hval⟩
    have K : W p l e room_1 s m #[Value.ref b] below meth c s₁.heap [] 0 0 (lw_Z below #[Value.ref b] s) (entryFrame m ([Value.ref b] : List Value).toArray 7) := by
      rw [hh0]
      exact whole_start l hoff hbd ⟨B.exec, B.bytes, B.returns, hml, hown, hts, hX, hbl, B.notSynchronized, hgv⟩
    obtain ⟨t, a1, o, b1, b2, b3⟩ := K s₁ rfl X₀
    exact ⟨t, o, a1, b1, b2, b3⟩
theorem lw_pre_spec {args : Array Value} {s : State} (h : (Jvm.Cond.and given_1 narrow_1).before args s = true) (hr : rest_1_c.before args s = true) : ∃ (b : Addr) (xs : List Int32), lw_P b xs args s := by
  have hs := flat_of_before _ h
  have hq := flat_of_before _ hr
  have hc : (Cond.count 1).before args s = true := hs _ (by decide +kernel)
  have harr : (Cond.arrayOf (.arg 0) .int).before args s = true := hs _ (by decide +kernel)
  have hle : (Cond.le (.length (.arg 0)) (.int 2560)).before args s = true := hs _ (by decide +kernel)
  have hlen : (Cond.isInt (.length (.arg 0))).before args s = true := hq _ (by decide +kernel)
  have hall : (Cond.all (.arg 0) (.isInt (.elem (.arg 0) (.index 0)))).before args s = true := hq _ (by decide +kernel)
  obtain ⟨b, xs, hb, hx⟩ := State.ints_of_pre rfl harr hlen hall
  have hsm : xs.length < 2 ^ 31 := hx.choose_spec.2.2.2
  have hev : (Term.length (.arg 0)).eval args s none [] s = some (.int xs.length.toInt32) := hx.length_eval hb
  have hv := Cond.le_ints hev (show (Term.int 2560).eval args s none [] s = some (.int 2560) from rfl)
  have hd : xs.length.toInt32 ≤ 2560 := by
    simpa [Cond.before, Cond.holds, hv] using hle
  have hN : xs.length ≤ 2560 := (Int32.ofNat_le_ofNat hsm (by decide)).mp (show Int32.ofNat xs.length ≤ Int32.ofNat 2560 from hd)
  exact ⟨b, xs, Cond.one_arg hc (show args[0]? = some (.ref b) from hb), hx, hN, h⟩
theorem lw_comes (l : Launch) (hoff : ∀ e, l.admits e → e.platform.stackTraces = false) : Comes l x (Jvm.Cond.code x code maxLocals ret :: tables_1) room_1 (fun tb e args s => Calls_1 tb e args s ∧ rest_1 tb e args s ∧ Pre_1 tb e args s)
    (fun _ _ args s o t => lw_Q args s o t) := by
  intro p e ha hc hk s m args below hf hfit hheap happ hpre
  obtain ⟨b, xs, hP⟩ := lw_pre_spec hpre.2.2 hpre.2.1
  obtain ⟨k, o, h1, h2, h3, hQ⟩ := lw_walk l hoff b xs p e ha hc hk s m args below hf ((Spec.applies_iff_loose hf).mp happ).1 hP trivial
  exact ⟨k, o, h1, h2, h3, hQ⟩
theorem lw_frame {s t : State} {o : Outcome} {args : Array Value} (h : Framed s o t [] 601024 7293034) :
    Framed s o t (fieldLocs frame_1_writes args s ++ arrayLocs frame_1_arrays args s ++ staticLocs frame_1_statics s) 601024 7293034 := h
theorem lw_limb (L : Cond) (hL : ∀ (args : Array Value) (s t : State), L.after args s (.returned (some (.int 1))) t = true) :
    ArmFor flags0 classFile x code maxLocals ret World_1 tables_1 room_1 Calls_1 rest_1 Pre_1
      (fun tb e a s o t => postC L tb e a s o t ∧ Framed s o t (fieldLocs frame_1_writes a s ++ arrayLocs frame_1_arrays a s ++ staticLocs frame_1_statics s) 601024 7293034) := by
  intro l q1 q2 q3 p e ha hc hk s m args below hf hfit hheap happ hpre
  obtain ⟨k, o, h1, h2, h3, rfl, hF⟩ := lw_comes l (fun e ha => Launch.traces_off (by first | exact q1 | exact q2 | exact q3) ha) p e ha hc hk s m args below hf hfit hheap happ hpre
  exact ⟨k, _, h1, h2, h3, hL args s _, lw_frame hF⟩
theorem i_vc : Claimed_1_1 ∧ Claimed_1_2 := ⟨lw_limb limb_1_1 (fun args s t => by simp [limb_1_1, Cond.after, Cond.holds, Cond.value]), lw_limb limb_1_2 (fun args s t => Cond.after_iff.mpr (by
  first | (rw [show limb_1_2 = Cond.eq .result (.int 1) from rfl, Cond.eq_ints (x := 1) (y := 1) rfl rfl]; simp; done) | (simp [limb_1_2, Cond.value, Term.eval]; done)))⟩
