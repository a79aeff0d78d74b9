def NBN (U : State) : Prop := va_Nw (.methodLinkNest "NonceBox" 34 ⟨"NonceBox$Mixer", "<init>", "()V"⟩ "NonceBox") U ∧ va_Nw (.methodLinkNest "NonceBox" 41 ⟨"NonceBox$Tagger", "<init>", "()V"⟩ "NonceBox") U ∧ va_Nw (.methodLinkNest "NonceBox" 48 ⟨"NonceBox$Curve", "<init>", "()V"⟩ "NonceBox") U
theorem NBN.warm {s U : State} (hW : s.WarmedH U.vm) (h : NBN s) : NBN U := ⟨va_Nw.warmM hW h.1, va_Nw.warmM hW h.2.1, va_Nw.warmM hW h.2.2⟩
abbrev wPk (G : wG) (A : Nat → Prop) (n : Nat) (ad : Nat → Nat) (ev : Nat → va_E) (av : List Value) : Array Value → State → Prop := fun v U => wPc G A n ad ev av v U ∧ NBN U
theorem wv_ofWk {G : wG} {A : Nat → Prop} {n : Nat} {ad : Nat → Nat} {ev : Nat → va_E} {l : Launch} {cc : ByteArray} {y : MethodName} {ws ws' : List Cond} {rm : Room} {maxL : Nat} {ret : Option FieldType} {av : List Value} {Qc : Array Value → State → Outcome → State → Prop} {mc ms : Nat} (hy : plainName y.cls = true) (hw : ws = Cond.code y cc maxL ret :: ws') (hlen : (lg_sl av).length ≤ maxL)
    (body : ∀ (p : Program) (e : Env) (s : State) (m : MethodId) (below : List Frame) (meth : Method) (c : Code) (ls : Array Slot), p.tables.exec = Jvm.exec → c.code = cc → meth.sig.returnType = ret → c.maxLocals = maxL → (∀ w ∈ ws, w.before av.toArray s = true) → s.vm.findClass y.cls = some m.cls → meth.locks = false → (y.name = "<init>" → meth.name = "<init>") → wT G A n ad ev s s.heap [] → lv_has ls maxL (lv_args 0 av) → NBN s →
      W p l e rm s m av.toArray below meth c s.heap [] 0 0 (MQ below Qc av.toArray s mc ms A) (F0 m 0 ls [])) : Met l y ws rm (wPk G A n ad ev av) Qc mc ms A := by
  refine Met.ofW (cc := cc) (maxL := maxL) (ret := ret) hy hw ?_
  intro p e s m args below meth c s₁ B hml hv
  obtain ⟨⟨rfl, ⟨hK, hP, hD⟩, hA⟩, hN⟩ := hv
  have hl := lv_entry av (n := maxL) hlen
  rw [lg_entry_eq]
  generalize (lg_sl av ++ List.replicate (maxL - (lg_sl av).length) Slot.unset).toArray = ls at hl ⊢
  exact body p e s m below meth c ls B.exec B.bytes B.returns hml (atoms_spec (ws := ws) B.pre) (findClass_of_methodNamed B.named) B.notSynchronized (fun hi => (name_of_methodNamed B.named B.method).1.trans hi) ⟨⟨hK, hP, hD⟩, va_S.rf, hA⟩ hl hN
theorem d_Fd_newRow_0 : decode c_Fd_newRow 0 = .ok (.aload_n 0, 1) := by decide +kernel
theorem d_Fd_newRow_1 : decode c_Fd_newRow 1 = .ok (.getfield 9, 3) := by decide +kernel
theorem d_Fd_newRow_4 : decode c_Fd_newRow 4 = .ok (.newarray .long, 2) := by decide +kernel
theorem d_Fd_newRow_6 : decode c_Fd_newRow 6 = .ok (.areturn, 1) := by decide +kernel
set_option maxRecDepth 100000 in
set_option maxHeartbeats 4000000 in
theorem n_newRow5 (l : Launch) (G : wG) (A : Nat → Prop) (ad : Nat → Nat) (ev : Nat → va_E) (n F qw : Nat) (hF : F < n) (hev : ev F = eO 1 [.int (nI (5)), .int (nI (26)), .long (5), .long (5), .ref qw]) : wN l y_Fd_newRow w_Fd_newRow ({ frames := 3, cells := 1, slots := 5, locals := 100 }) G A n ad ev [.ref (ad F)] 1 5 (fun ov n' ad' ev' => ∃ q : Nat, ov = some (.ref q) ∧ n' = n + 1 ∧ ad' = va_up ad n q ∧ ev' = va_up ev n (eJ G 5 (fun _ => 0))) := by
  refine wv_ofW (cc := c_Fd_newRow) (maxL := 1) (ret := some (.array .long)) (by decide) rfl (Nat.le_of_ble_eq_true rfl) ?_
  intro p e s m below meth c ls hx hb hr hml hts hown hlocks hini h hl
  have hl : lv_has ls 1 [(0, .ref (ad F))] := hl
  refine lv_aload_n hx hb d_Fd_newRow_0 rfl (lv_at hl 0 rfl) ?_
  refine wv_getf hx hb h F hF (fs := [.int (nI (5)), .int (nI (26)), .long (5), .long (5), .ref qw]) hev hts (fun w hw => List.mem_cons_of_mem _ (fW_Fd w hw)) hown (ci := 1) (C := "NonceBox$Field") (T := fT_Fd) (N := 5) rfl 0 (by decide) (hts _ (List.mem_cons_of_mem _ kf_Fd_9)) rfl (v := .int (nI (5))) rfl d_Fd_newRow_1 ?_
  refine wv_newJ hx hb (hts _ (List.mem_cons_of_mem _ ka_long)) h (N := 5) rfl (by decide) (Nat.le_of_ble_eq_true rfl) (Nat.le_of_ble_eq_true rfl) d_Fd_newRow_4 (fun q H h => ?_)
  exact wv_naret hx hb hr hlocks h d_Fd_newRow_6 (Or.inr ⟨_, rfl⟩) (Or.inr ⟨_, rfl⟩) ⟨q, rfl, rfl, rfl, rfl⟩
set_option maxRecDepth 100000 in
set_option maxHeartbeats 4000000 in
theorem n_newRow10 (l : Launch) (G : wG) (A : Nat → Prop) (ad : Nat → Nat) (ev : Nat → va_E) (n F qw : Nat) (hF : F < n) (hev : ev F = eO 1 [.int (nI (10)), .int (nI (21)), .long (19), .long (608), .ref qw]) : wN l y_Fd_newRow w_Fd_newRow ({ frames := 3, cells := 1, slots := 10, locals := 100 }) G A n ad ev [.ref (ad F)] 1 10 (fun ov n' ad' ev' => ∃ q : Nat, ov = some (.ref q) ∧ n' = n + 1 ∧ ad' = va_up ad n q ∧ ev' = va_up ev n (eJ G 10 (fun _ => 0))) := by
  refine wv_ofW (cc := c_Fd_newRow) (maxL := 1) (ret := some (.array .long)) (by decide) rfl (Nat.le_of_ble_eq_true rfl) ?_
  intro p e s m below meth c ls hx hb hr hml hts hown hlocks hini h hl
  have hl : lv_has ls 1 [(0, .ref (ad F))] := hl
  refine lv_aload_n hx hb d_Fd_newRow_0 rfl (lv_at hl 0 rfl) ?_
  refine wv_getf hx hb h F hF (fs := [.int (nI (10)), .int (nI (21)), .long (19), .long (608), .ref qw]) hev hts (fun w hw => List.mem_cons_of_mem _ (fW_Fd w hw)) hown (ci := 1) (C := "NonceBox$Field") (T := fT_Fd) (N := 5) rfl 0 (by decide) (hts _ (List.mem_cons_of_mem _ kf_Fd_9)) rfl (v := .int (nI (10))) rfl d_Fd_newRow_1 ?_
  refine wv_newJ hx hb (hts _ (List.mem_cons_of_mem _ ka_long)) h (N := 10) rfl (by decide) (Nat.le_of_ble_eq_true rfl) (Nat.le_of_ble_eq_true rfl) d_Fd_newRow_4 (fun q H h => ?_)
  exact wv_naret hx hb hr hlocks h d_Fd_newRow_6 (Or.inr ⟨_, rfl⟩) (Or.inr ⟨_, rfl⟩) ⟨q, rfl, rfl, rfl, rfl⟩
theorem d_Tg_init_0 : decode c_Tg_init 0 = .ok (.aload_n 0, 1) := by decide +kernel
theorem d_Tg_init_1 : decode c_Tg_init 1 = .ok (.invokespecial 3, 3) := by decide +kernel
theorem d_Tg_init_4 : decode c_Tg_init 4 = .ok (.aload_n 0, 1) := by decide +kernel
theorem d_Tg_init_5 : decode c_Tg_init 5 = .ok (.new 9, 3) := by decide +kernel
theorem d_Tg_init_8 : decode c_Tg_init 8 = .ok (.dup, 1) := by decide +kernel
theorem d_Tg_init_9 : decode c_Tg_init 9 = .ok (.sipush 130, 3) := by decide +kernel
theorem d_Tg_init_12 : decode c_Tg_init 12 = .ok (.ldc2_w 11, 3) := by decide +kernel
theorem d_Tg_init_15 : decode c_Tg_init 15 = .ok (.invokespecial 13, 3) := by decide +kernel
theorem d_Tg_init_18 : decode c_Tg_init 18 = .ok (.putfield 16, 3) := by decide +kernel
theorem d_Tg_init_21 : decode c_Tg_init 21 = .ok (.aload_n 0, 1) := by decide +kernel
theorem d_Tg_init_22 : decode c_Tg_init 22 = .ok (.aload_n 0, 1) := by decide +kernel
theorem d_Tg_init_23 : decode c_Tg_init 23 = .ok (.getfield 16, 3) := by decide +kernel
theorem d_Tg_init_26 : decode c_Tg_init 26 = .ok (.invokevirtual 22, 3) := by decide +kernel
theorem d_Tg_init_29 : decode c_Tg_init 29 = .ok (.putfield 26, 3) := by decide +kernel
theorem d_Tg_init_32 : decode c_Tg_init 32 = .ok (.aload_n 0, 1) := by decide +kernel
theorem d_Tg_init_33 : decode c_Tg_init 33 = .ok (.aload_n 0, 1) := by decide +kernel
theorem d_Tg_init_34 : decode c_Tg_init 34 = .ok (.getfield 16, 3) := by decide +kernel
theorem d_Tg_init_37 : decode c_Tg_init 37 = .ok (.invokevirtual 22, 3) := by decide +kernel
theorem d_Tg_init_40 : decode c_Tg_init 40 = .ok (.putfield 30, 3) := by decide +kernel
theorem d_Tg_init_43 : decode c_Tg_init 43 = .ok (.aload_n 0, 1) := by decide +kernel
theorem d_Tg_init_44 : decode c_Tg_init 44 = .ok (.bipush 16, 2) := by decide +kernel
theorem d_Tg_init_46 : decode c_Tg_init 46 = .ok (.newarray .byte, 2) := by decide +kernel
theorem d_Tg_init_48 : decode c_Tg_init 48 = .ok (.putfield 33, 3) := by decide +kernel
theorem d_Tg_init_51 : decode c_Tg_init 51 = .ok (.return_, 1) := by decide +kernel
set_option maxRecDepth 100000 in
set_option maxHeartbeats 4000000 in
/-- Tagger -/
theorem n_Tg (l : Launch) (G : wG) (A : Nat → Prop) (ad : Nat → Nat) (ev : Nat → va_E) (b : Nat) (hab : ad 12 = b) (hev : ev 12 = eO 3 [.null, .null, .null, .null]) : wN l y_Tg_init w_Tg_init ({ frames := 6, cells := 5, slots := 41, locals := 200 }) G A 13 ad ev [.ref (b)] 5 41 (fun ov n' ad' ev' => ov = none ∧ n' = 18 ∧ (∀ k, k ≤ 12 → ad' k = ad k) ∧ (∀ k, k < 12 → ev' k = ev k) ∧ ev' 12 = eO 3 [.ref (ad' 13), .ref (ad' 15), .ref (ad' 16), .ref (ad' 17)] ∧ ev' 13 = eO 1 [.int (nI (5)), .int (nI (26)), .long (5), .long (5), .ref (ad' 14)] ∧ ev' 14 = eJ G 10 (fun _ => 0) ∧ ev' 15 = eJ G 5 (fun _ => 0) ∧ ev' 16 = eJ G 5 (fun _ => 0) ∧ ev' 17 = eB G 16 (fun _ => 0)) := by
  refine wv_ofW (cc := c_Tg_init) (maxL := 1) (ret := none) (by decide) rfl (Nat.le_of_ble_eq_true rfl) ?_
  intro p e s m below meth c ls hx hb hr hml hts hown hlocks hini h hl
  have hl : lv_has ls 1 [(0, .ref (b))] := hl
  refine lv_aload_n hx hb d_Tg_init_0 rfl (lv_at hl 0 rfl) ?_
  refine wv_obj hx hb hown hts (List.mem_cons_of_mem _ kl_Tg_3) (List.mem_cons_of_mem _ km_Ob_init) (List.mem_cons_of_mem _ kc_Ob_init) (by rw [hml]; exact hl.1) d_Tg_init_1 (Nat.le_of_ble_eq_true rfl) (Nat.le_of_ble_eq_true rfl) ?_
  refine lv_aload_n hx hb d_Tg_init_4 rfl (lv_at hl 0 rfl) ?_
  refine wv_newo hx hb hts (fun w hw => List.mem_cons_of_mem _ (fW_Fd w hw)) fY_Fd fK_Fd hown (hts _ (List.mem_cons_of_mem _ kC_Tg_9)) (hts _ (List.mem_cons_of_mem _ kI_Fd)) (hts _ (List.mem_cons_of_mem _ ki_Fd)) h (ci := 1) (T := fT_Fd) rfl (fs := [.int 0, .int 0, .long 0, .long 0, .null]) (fun j hj => by rcases (show j = 0 ∨ j = 1 ∨ j = 2 ∨ j = 3 ∨ j = 4 by omega) with rfl | rfl | rfl | rfl | rfl <;> rfl) (Nat.le_of_ble_eq_true rfl) (Nat.le_of_ble_eq_true rfl) d_Tg_init_5 (fun q13 H h => ?_)
  obtain ⟨ev1, o1⟩ : ∃ z, z = va_up ev 13 (eO 1 [.int 0, .int 0, .long 0, .long 0, .null]) := ⟨_, rfl⟩
  rw [← o1] at h
  have u1_12 : ev1 12 = eO 3 [.null, .null, .null, .null] := by rw [o1, va_up_ne _ _ (by decide)]; exact hev
  have u1_13 : ev1 13 = eO 1 [.int 0, .int 0, .long 0, .long 0, .null] := by rw [o1, va_up_self]
  obtain ⟨ad1, ha1⟩ : ∃ z, z = va_up ad 13 q13 := ⟨_, rfl⟩
  rw [← ha1] at h
  have a1_12 : ad1 12 = b := by rw [ha1, va_up_ne _ _ (by decide)]; exact hab
  have a1_13 : ad1 13 = q13 := by rw [ha1, va_up_self]
  refine lv_dup hx hb d_Tg_init_8 rfl ?_
  refine lv_sipush (v := nI (130)) hx hb d_Tg_init_9 (by decide) ?_
  refine lv_ldc2 (v := 5) hx hb hown (hts _ (List.mem_cons_of_mem _ ko_Tg_11)) d_Tg_init_12 ?_
  refine wv_Ix (As := [.int (nI (130)), .long (5)]) (rest := [.ref (q13), .ref (b)]) (k := 2) ⟨hx, hb, hml, hown, hts⟩ h (n_Fd13 l G A ad1 ev1 q13 a1_13 u1_13) kc_Fd_init kl_Tg_13 km_Fd_init ki_Fd rfl (by decide +kernel) ⟨rfl, rfl, Nat.le_of_ble_eq_true rfl, Nat.le_of_ble_eq_true rfl⟩ hl.1 rfl rfl (Nat.le_of_ble_eq_true rfl) ⟨Nat.le_of_ble_eq_true rfl, Nat.le_of_ble_eq_true rfl⟩ d_Tg_init_15 ?_
  intro ov n2 ad2 ev2 H locs hp h
  obtain ⟨ho, hn, hA2, hE2, c2_13, c2_14⟩ := hp
  rw [ho]
  subst hn
  refine W.eq (g2 := F0 m 18 ls [.ref (q13), .ref (b)]) rfl ?_
  have a2_12 : ad2 12 = b := (hA2 12 (by decide)).trans a1_12
  have a2_13 : ad2 13 = q13 := (hA2 13 (by decide)).trans a1_13
  have u2_12 : ev2 12 = eO 3 [.null, .null, .null, .null] := (hE2 12 (by decide)).trans u1_12
  obtain ⟨q14, e14⟩ : ∃ z, z = ad2 14 := ⟨_, rfl⟩
  rw [← e14] at c2_13
  refine wv_adr2 a2_12 ?_
  refine wv_putF hx hb h 12 (by decide) (fs := [.null, .null, .null, .null]) u2_12 hts (fun w hw => List.mem_cons_of_mem _ (fW_Tg w hw)) fY_Tg fK_Tg fN_Tg hown (ci := 3) (C := "NonceBox$Tagger") (T := fT_Tg) (N := 4) rfl 0 (by decide) (hts _ (List.mem_cons_of_mem _ kf_Tg_16)) rfl rfl (hini rfl) rfl (v := .ref (q13)) rfl rfl (Nat.le_of_ble_eq_true rfl) d_Tg_init_18 (fun H locs h => ?_)
  have h : wT G A 15 ad2 (va_up ev2 12 (eO 3 [.ref (q13), .null, .null, .null])) s H locs := h
  obtain ⟨ev3, o3⟩ : ∃ z, z = va_up ev2 12 (eO 3 [.ref (q13), .null, .null, .null]) := ⟨_, rfl⟩
  rw [← o3] at h
  have u3_13 : ev3 13 = eO 1 [.int (nI (5)), .int (nI (26)), .long (5), .long (5), .ref (q14)] := by rw [o3, va_up_ne _ _ (by decide)]; exact c2_13
  have u3_14 : ev3 14 = eJ G 10 (fun _ => 0) := by rw [o3, va_up_ne _ _ (by decide)]; exact c2_14
  have u3_12 : ev3 12 = eO 3 [.ref (q13), .null, .null, .null] := by rw [o3, va_up_self]
  refine lv_aload_n hx hb d_Tg_init_21 rfl (lv_at hl 0 rfl) ?_
  refine lv_aload_n hx hb d_Tg_init_22 rfl (lv_at hl 0 rfl) ?_
  refine wv_adr1 a2_12 ?_
  refine wv_getf hx hb h 12 (by decide) (fs := [.ref (q13), .null, .null, .null]) u3_12 hts (fun w hw => List.mem_cons_of_mem _ (fW_Tg w hw)) hown (ci := 3) (C := "NonceBox$Tagger") (T := fT_Tg) (N := 4) rfl 0 (by decide) (hts _ (List.mem_cons_of_mem _ kf_Tg_16)) rfl (v := .ref (q13)) rfl d_Tg_init_23 ?_
  refine wv_adr1 a2_13 ?_
  refine wv_Vn (As := []) (rest := [.ref (b)]) (k := 0) ⟨hx, hb, hml, hown, hts⟩ h 13 (by decide) (C := "NonceBox$Field") u3_13 rfl (n_newRow5 l G A ad2 ev3 15 13 q14 (by decide) u3_13) kc_Fd_newRow kl_Tg_22 km_Fd_newRow kv_Fd_newRow ki_Fd (by decide +kernel) ⟨rfl, rfl, Nat.le_of_ble_eq_true rfl, Nat.le_of_ble_eq_true rfl⟩ hl.1 rfl rfl (Nat.le_of_ble_eq_true rfl) ⟨Nat.le_of_ble_eq_true rfl, Nat.le_of_ble_eq_true rfl⟩ d_Tg_init_26 ?_
  intro ov nx adx evx H locs hp h
  obtain ⟨q15, ho, hn, ha, he⟩ := hp
  rw [ho]
  subst hn
  rw [ha, he] at h
  refine W.eq (g2 := F0 m 29 ls [.ref (q15), .ref (b)]) rfl ?_
  obtain ⟨ev4, o4⟩ : ∃ z, z = va_up ev3 15 (eJ G 5 (fun _ => 0)) := ⟨_, rfl⟩
  rw [← o4] at h
  have u4_12 : ev4 12 = eO 3 [.ref (q13), .null, .null, .null] := by rw [o4, va_up_ne _ _ (by decide)]; exact u3_12
  have u4_13 : ev4 13 = eO 1 [.int (nI (5)), .int (nI (26)), .long (5), .long (5), .ref (q14)] := by rw [o4, va_up_ne _ _ (by decide)]; exact u3_13
  have u4_14 : ev4 14 = eJ G 10 (fun _ => 0) := by rw [o4, va_up_ne _ _ (by decide)]; exact u3_14
  have u4_15 : ev4 15 = eJ G 5 (fun _ => 0) := by rw [o4, va_up_self]
  obtain ⟨ad4, ha4⟩ : ∃ z, z = va_up ad2 15 q15 := ⟨_, rfl⟩
  rw [← ha4] at h
  have a4_12 : ad4 12 = b := by rw [ha4, va_up_ne _ _ (by decide)]; exact a2_12
  have a4_13 : ad4 13 = q13 := by rw [ha4, va_up_ne _ _ (by decide)]; exact a2_13
  have a4_14 : ad4 14 = q14 := by rw [ha4, va_up_ne _ _ (by decide)]; exact e14.symm
  have a4_15 : ad4 15 = q15 := by rw [ha4, va_up_self]
  refine wv_adr2 a4_12 ?_
  refine wv_putF hx hb h 12 (by decide) (fs := [.ref (q13), .null, .null, .null]) u4_12 hts (fun w hw => List.mem_cons_of_mem _ (fW_Tg w hw)) fY_Tg fK_Tg fN_Tg hown (ci := 3) (C := "NonceBox$Tagger") (T := fT_Tg) (N := 4) rfl 1 (by decide) (hts _ (List.mem_cons_of_mem _ kf_Tg_26)) rfl rfl (hini rfl) rfl (v := .ref (q15)) rfl rfl (Nat.le_of_ble_eq_true rfl) d_Tg_init_29 (fun H locs h => ?_)
  have h : wT G A 16 ad4 (va_up ev4 12 (eO 3 [.ref (q13), .ref (q15), .null, .null])) s H locs := h
  obtain ⟨ev5, o5⟩ : ∃ z, z = va_up ev4 12 (eO 3 [.ref (q13), .ref (q15), .null, .null]) := ⟨_, rfl⟩
  rw [← o5] at h
  have u5_13 : ev5 13 = eO 1 [.int (nI (5)), .int (nI (26)), .long (5), .long (5), .ref (q14)] := by rw [o5, va_up_ne _ _ (by decide)]; exact u4_13
  have u5_14 : ev5 14 = eJ G 10 (fun _ => 0) := by rw [o5, va_up_ne _ _ (by decide)]; exact u4_14
  have u5_15 : ev5 15 = eJ G 5 (fun _ => 0) := by rw [o5, va_up_ne _ _ (by decide)]; exact u4_15
  have u5_12 : ev5 12 = eO 3 [.ref (q13), .ref (q15), .null, .null] := by rw [o5, va_up_self]
  refine lv_aload_n hx hb d_Tg_init_32 rfl (lv_at hl 0 rfl) ?_
  refine lv_aload_n hx hb d_Tg_init_33 rfl (lv_at hl 0 rfl) ?_
  refine wv_adr1 a4_12 ?_
  refine wv_getf hx hb h 12 (by decide) (fs := [.ref (q13), .ref (q15), .null, .null]) u5_12 hts (fun w hw => List.mem_cons_of_mem _ (fW_Tg w hw)) hown (ci := 3) (C := "NonceBox$Tagger") (T := fT_Tg) (N := 4) rfl 0 (by decide) (hts _ (List.mem_cons_of_mem _ kf_Tg_16)) rfl (v := .ref (q13)) rfl d_Tg_init_34 ?_
  refine wv_adr1 a4_13 ?_
  refine wv_Vn (As := []) (rest := [.ref (b)]) (k := 0) ⟨hx, hb, hml, hown, hts⟩ h 13 (by decide) (C := "NonceBox$Field") u5_13 rfl (n_newRow5 l G A ad4 ev5 16 13 q14 (by decide) u5_13) kc_Fd_newRow kl_Tg_22 km_Fd_newRow kv_Fd_newRow ki_Fd (by decide +kernel) ⟨rfl, rfl, Nat.le_of_ble_eq_true rfl, Nat.le_of_ble_eq_true rfl⟩ hl.1 rfl rfl (Nat.le_of_ble_eq_true rfl) ⟨Nat.le_of_ble_eq_true rfl, Nat.le_of_ble_eq_true rfl⟩ d_Tg_init_37 ?_
  intro ov nx adx evx H locs hp h
  obtain ⟨q16, ho, hn, ha, he⟩ := hp
  rw [ho]
  subst hn
  rw [ha, he] at h
  refine W.eq (g2 := F0 m 40 ls [.ref (q16), .ref (b)]) rfl ?_
  obtain ⟨ev6, o6⟩ : ∃ z, z = va_up ev5 16 (eJ G 5 (fun _ => 0)) := ⟨_, rfl⟩
  rw [← o6] at h
  have u6_12 : ev6 12 = eO 3 [.ref (q13), .ref (q15), .null, .null] := by rw [o6, va_up_ne _ _ (by decide)]; exact u5_12
  have u6_13 : ev6 13 = eO 1 [.int (nI (5)), .int (nI (26)), .long (5), .long (5), .ref (q14)] := by rw [o6, va_up_ne _ _ (by decide)]; exact u5_13
  have u6_14 : ev6 14 = eJ G 10 (fun _ => 0) := by rw [o6, va_up_ne _ _ (by decide)]; exact u5_14
  have u6_15 : ev6 15 = eJ G 5 (fun _ => 0) := by rw [o6, va_up_ne _ _ (by decide)]; exact u5_15
  have u6_16 : ev6 16 = eJ G 5 (fun _ => 0) := by rw [o6, va_up_self]
  obtain ⟨ad6, ha6⟩ : ∃ z, z = va_up ad4 16 q16 := ⟨_, rfl⟩
  rw [← ha6] at h
  have a6_12 : ad6 12 = b := by rw [ha6, va_up_ne _ _ (by decide)]; exact a4_12
  have a6_13 : ad6 13 = q13 := by rw [ha6, va_up_ne _ _ (by decide)]; exact a4_13
  have a6_14 : ad6 14 = q14 := by rw [ha6, va_up_ne _ _ (by decide)]; exact a4_14
  have a6_15 : ad6 15 = q15 := by rw [ha6, va_up_ne _ _ (by decide)]; exact a4_15
  have a6_16 : ad6 16 = q16 := by rw [ha6, va_up_self]
  refine wv_adr2 a6_12 ?_
  refine wv_putF hx hb h 12 (by decide) (fs := [.ref (q13), .ref (q15), .null, .null]) u6_12 hts (fun w hw => List.mem_cons_of_mem _ (fW_Tg w hw)) fY_Tg fK_Tg fN_Tg hown (ci := 3) (C := "NonceBox$Tagger") (T := fT_Tg) (N := 4) rfl 2 (by decide) (hts _ (List.mem_cons_of_mem _ kf_Tg_30)) rfl rfl (hini rfl) rfl (v := .ref (q16)) rfl rfl (Nat.le_of_ble_eq_true rfl) d_Tg_init_40 (fun H locs h => ?_)
  have h : wT G A 17 ad6 (va_up ev6 12 (eO 3 [.ref (q13), .ref (q15), .ref (q16), .null])) s H locs := h
  obtain ⟨ev7, o7⟩ : ∃ z, z = va_up ev6 12 (eO 3 [.ref (q13), .ref (q15), .ref (q16), .null]) := ⟨_, rfl⟩
  rw [← o7] at h
  have u7_13 : ev7 13 = eO 1 [.int (nI (5)), .int (nI (26)), .long (5), .long (5), .ref (q14)] := by rw [o7, va_up_ne _ _ (by decide)]; exact u6_13
  have u7_14 : ev7 14 = eJ G 10 (fun _ => 0) := by rw [o7, va_up_ne _ _ (by decide)]; exact u6_14
  have u7_15 : ev7 15 = eJ G 5 (fun _ => 0) := by rw [o7, va_up_ne _ _ (by decide)]; exact u6_15
  have u7_16 : ev7 16 = eJ G 5 (fun _ => 0) := by rw [o7, va_up_ne _ _ (by decide)]; exact u6_16
  have u7_12 : ev7 12 = eO 3 [.ref (q13), .ref (q15), .ref (q16), .null] := by rw [o7, va_up_self]
  refine lv_aload_n hx hb d_Tg_init_43 rfl (lv_at hl 0 rfl) ?_
  refine lv_bipush (v := nI (16)) hx hb d_Tg_init_44 (by decide) ?_
  refine wv_newB hx hb (hts _ (List.mem_cons_of_mem _ ka_byte)) h (N := 16) rfl (by decide) (Nat.le_of_ble_eq_true rfl) (Nat.le_of_ble_eq_true rfl) d_Tg_init_46 (fun q17 H h => ?_)
  obtain ⟨ev8, o8⟩ : ∃ z, z = va_up ev7 17 (eB G 16 (fun _ => 0)) := ⟨_, rfl⟩
  rw [← o8] at h
  have u8_12 : ev8 12 = eO 3 [.ref (q13), .ref (q15), .ref (q16), .null] := by rw [o8, va_up_ne _ _ (by decide)]; exact u7_12
  have u8_13 : ev8 13 = eO 1 [.int (nI (5)), .int (nI (26)), .long (5), .long (5), .ref (q14)] := by rw [o8, va_up_ne _ _ (by decide)]; exact u7_13
  have u8_14 : ev8 14 = eJ G 10 (fun _ => 0) := by rw [o8, va_up_ne _ _ (by decide)]; exact u7_14
  have u8_15 : ev8 15 = eJ G 5 (fun _ => 0) := by rw [o8, va_up_ne _ _ (by decide)]; exact u7_15
  have u8_16 : ev8 16 = eJ G 5 (fun _ => 0) := by rw [o8, va_up_ne _ _ (by decide)]; exact u7_16
  have u8_17 : ev8 17 = eB G 16 (fun _ => 0) := by rw [o8, va_up_self]
  obtain ⟨ad8, ha8⟩ : ∃ z, z = va_up ad6 17 q17 := ⟨_, rfl⟩
  rw [← ha8] at h
  have a8_12 : ad8 12 = b := by rw [ha8, va_up_ne _ _ (by decide)]; exact a6_12
  have a8_13 : ad8 13 = q13 := by rw [ha8, va_up_ne _ _ (by decide)]; exact a6_13
  have a8_14 : ad8 14 = q14 := by rw [ha8, va_up_ne _ _ (by decide)]; exact a6_14
  have a8_15 : ad8 15 = q15 := by rw [ha8, va_up_ne _ _ (by decide)]; exact a6_15
  have a8_16 : ad8 16 = q16 := by rw [ha8, va_up_ne _ _ (by decide)]; exact a6_16
  have a8_17 : ad8 17 = q17 := by rw [ha8, va_up_self]
  refine wv_adr2 a8_12 ?_
  refine wv_putF hx hb h 12 (by decide) (fs := [.ref (q13), .ref (q15), .ref (q16), .null]) u8_12 hts (fun w hw => List.mem_cons_of_mem _ (fW_Tg w hw)) fY_Tg fK_Tg fN_Tg hown (ci := 3) (C := "NonceBox$Tagger") (T := fT_Tg) (N := 4) rfl 3 (by decide) (hts _ (List.mem_cons_of_mem _ kf_Tg_33)) rfl rfl (hini rfl) rfl (v := .ref (q17)) rfl rfl (Nat.le_of_ble_eq_true rfl) d_Tg_init_48 (fun H locs h => ?_)
  have h : wT G A 18 ad8 (va_up ev8 12 (eO 3 [.ref (q13), .ref (q15), .ref (q16), .ref (q17)])) s H locs := h
  obtain ⟨ev9, o9⟩ : ∃ z, z = va_up ev8 12 (eO 3 [.ref (q13), .ref (q15), .ref (q16), .ref (q17)]) := ⟨_, rfl⟩
  rw [← o9] at h
  have u9_13 : ev9 13 = eO 1 [.int (nI (5)), .int (nI (26)), .long (5), .long (5), .ref (q14)] := by rw [o9, va_up_ne _ _ (by decide)]; exact u8_13
  have u9_14 : ev9 14 = eJ G 10 (fun _ => 0) := by rw [o9, va_up_ne _ _ (by decide)]; exact u8_14
  have u9_15 : ev9 15 = eJ G 5 (fun _ => 0) := by rw [o9, va_up_ne _ _ (by decide)]; exact u8_15
  have u9_16 : ev9 16 = eJ G 5 (fun _ => 0) := by rw [o9, va_up_ne _ _ (by decide)]; exact u8_16
  have u9_17 : ev9 17 = eB G 16 (fun _ => 0) := by rw [o9, va_up_ne _ _ (by decide)]; exact u8_17
  have u9_12 : ev9 12 = eO 3 [.ref (q13), .ref (q15), .ref (q16), .ref (q17)] := by rw [o9, va_up_self]
  exact wv_nret hx hb hr hlocks h d_Tg_init_51 ⟨rfl, rfl, (fun k hk => by rw [ha8, va_up_ne _ _ (by omega), ha6, va_up_ne _ _ (by omega), ha4, va_up_ne _ _ (by omega), hA2 k (by omega), ha1, va_up_ne _ _ (by omega)]), (fun k hk => by rw [o9, va_up_ne _ _ (by omega), o8, va_up_ne _ _ (by omega), o7, va_up_ne _ _ (by omega), o6, va_up_ne _ _ (by omega), o5, va_up_ne _ _ (by omega), o4, va_up_ne _ _ (by omega), o3, va_up_ne _ _ (by omega), hE2 k (by omega), o1, va_up_ne _ _ (by omega)]), by rw [a8_13, a8_15, a8_16, a8_17]; exact u9_12, by rw [a8_14]; exact u9_13, u9_14, u9_15, u9_16, u9_17⟩
theorem d_Cv_init_0 : decode c_Cv_init 0 = .ok (.aload_n 0, 1) := by decide +kernel
theorem d_Cv_init_1 : decode c_Cv_init 1 = .ok (.invokespecial 3, 3) := by decide +kernel
theorem d_Cv_init_4 : decode c_Cv_init 4 = .ok (.aload_n 0, 1) := by decide +kernel
theorem d_Cv_init_5 : decode c_Cv_init 5 = .ok (.new 9, 3) := by decide +kernel
theorem d_Cv_init_8 : decode c_Cv_init 8 = .ok (.dup, 1) := by decide +kernel
theorem d_Cv_init_9 : decode c_Cv_init 9 = .ok (.sipush 255, 3) := by decide +kernel
theorem d_Cv_init_12 : decode c_Cv_init 12 = .ok (.ldc2_w 11, 3) := by decide +kernel
theorem d_Cv_init_15 : decode c_Cv_init 15 = .ok (.invokespecial 13, 3) := by decide +kernel
theorem d_Cv_init_18 : decode c_Cv_init 18 = .ok (.putfield 16, 3) := by decide +kernel
theorem d_Cv_init_21 : decode c_Cv_init 21 = .ok (.aload_n 0, 1) := by decide +kernel
theorem d_Cv_init_22 : decode c_Cv_init 22 = .ok (.bipush 32, 2) := by decide +kernel
theorem d_Cv_init_24 : decode c_Cv_init 24 = .ok (.newarray .byte, 2) := by decide +kernel
theorem d_Cv_init_26 : decode c_Cv_init 26 = .ok (.putfield 22, 3) := by decide +kernel
theorem d_Cv_init_29 : decode c_Cv_init 29 = .ok (.aload_n 0, 1) := by decide +kernel
theorem d_Cv_init_30 : decode c_Cv_init 30 = .ok (.aload_n 0, 1) := by decide +kernel
theorem d_Cv_init_31 : decode c_Cv_init 31 = .ok (.getfield 16, 3) := by decide +kernel
theorem d_Cv_init_34 : decode c_Cv_init 34 = .ok (.invokevirtual 26, 3) := by decide +kernel
theorem d_Cv_init_37 : decode c_Cv_init 37 = .ok (.putfield 30, 3) := by decide +kernel
theorem d_Cv_init_40 : decode c_Cv_init 40 = .ok (.aload_n 0, 1) := by decide +kernel
theorem d_Cv_init_41 : decode c_Cv_init 41 = .ok (.aload_n 0, 1) := by decide +kernel
theorem d_Cv_init_42 : decode c_Cv_init 42 = .ok (.getfield 16, 3) := by decide +kernel
theorem d_Cv_init_45 : decode c_Cv_init 45 = .ok (.invokevirtual 26, 3) := by decide +kernel
theorem d_Cv_init_48 : decode c_Cv_init 48 = .ok (.putfield 34, 3) := by decide +kernel
theorem d_Cv_init_51 : decode c_Cv_init 51 = .ok (.aload_n 0, 1) := by decide +kernel
theorem d_Cv_init_52 : decode c_Cv_init 52 = .ok (.aload_n 0, 1) := by decide +kernel
theorem d_Cv_init_53 : decode c_Cv_init 53 = .ok (.getfield 16, 3) := by decide +kernel
theorem d_Cv_init_56 : decode c_Cv_init 56 = .ok (.invokevirtual 26, 3) := by decide +kernel
theorem d_Cv_init_59 : decode c_Cv_init 59 = .ok (.putfield 37, 3) := by decide +kernel
theorem d_Cv_init_62 : decode c_Cv_init 62 = .ok (.aload_n 0, 1) := by decide +kernel
theorem d_Cv_init_63 : decode c_Cv_init 63 = .ok (.aload_n 0, 1) := by decide +kernel
theorem d_Cv_init_64 : decode c_Cv_init 64 = .ok (.getfield 16, 3) := by decide +kernel
theorem d_Cv_init_67 : decode c_Cv_init 67 = .ok (.invokevirtual 26, 3) := by decide +kernel
theorem d_Cv_init_70 : decode c_Cv_init 70 = .ok (.putfield 40, 3) := by decide +kernel
theorem d_Cv_init_73 : decode c_Cv_init 73 = .ok (.aload_n 0, 1) := by decide +kernel
theorem d_Cv_init_74 : decode c_Cv_init 74 = .ok (.aload_n 0, 1) := by decide +kernel
theorem d_Cv_init_75 : decode c_Cv_init 75 = .ok (.getfield 16, 3) := by decide +kernel
theorem d_Cv_init_78 : decode c_Cv_init 78 = .ok (.invokevirtual 26, 3) := by decide +kernel
theorem d_Cv_init_81 : decode c_Cv_init 81 = .ok (.putfield 43, 3) := by decide +kernel
theorem d_Cv_init_84 : decode c_Cv_init 84 = .ok (.aload_n 0, 1) := by decide +kernel
theorem d_Cv_init_85 : decode c_Cv_init 85 = .ok (.aload_n 0, 1) := by decide +kernel
theorem d_Cv_init_86 : decode c_Cv_init 86 = .ok (.getfield 16, 3) := by decide +kernel
theorem d_Cv_init_89 : decode c_Cv_init 89 = .ok (.invokevirtual 26, 3) := by decide +kernel
theorem d_Cv_init_92 : decode c_Cv_init 92 = .ok (.putfield 46, 3) := by decide +kernel
theorem d_Cv_init_95 : decode c_Cv_init 95 = .ok (.aload_n 0, 1) := by decide +kernel
theorem d_Cv_init_96 : decode c_Cv_init 96 = .ok (.aload_n 0, 1) := by decide +kernel
theorem d_Cv_init_97 : decode c_Cv_init 97 = .ok (.getfield 16, 3) := by decide +kernel
theorem d_Cv_init_100 : decode c_Cv_init 100 = .ok (.invokevirtual 26, 3) := by decide +kernel
theorem d_Cv_init_103 : decode c_Cv_init 103 = .ok (.putfield 49, 3) := by decide +kernel
theorem d_Cv_init_106 : decode c_Cv_init 106 = .ok (.aload_n 0, 1) := by decide +kernel
theorem d_Cv_init_107 : decode c_Cv_init 107 = .ok (.aload_n 0, 1) := by decide +kernel
theorem d_Cv_init_108 : decode c_Cv_init 108 = .ok (.getfield 16, 3) := by decide +kernel
theorem d_Cv_init_111 : decode c_Cv_init 111 = .ok (.invokevirtual 26, 3) := by decide +kernel
theorem d_Cv_init_114 : decode c_Cv_init 114 = .ok (.putfield 52, 3) := by decide +kernel
theorem d_Cv_init_117 : decode c_Cv_init 117 = .ok (.aload_n 0, 1) := by decide +kernel
theorem d_Cv_init_118 : decode c_Cv_init 118 = .ok (.aload_n 0, 1) := by decide +kernel
theorem d_Cv_init_119 : decode c_Cv_init 119 = .ok (.getfield 16, 3) := by decide +kernel
theorem d_Cv_init_122 : decode c_Cv_init 122 = .ok (.invokevirtual 26, 3) := by decide +kernel
theorem d_Cv_init_125 : decode c_Cv_init 125 = .ok (.putfield 55, 3) := by decide +kernel
theorem d_Cv_init_128 : decode c_Cv_init 128 = .ok (.aload_n 0, 1) := by decide +kernel
theorem d_Cv_init_129 : decode c_Cv_init 129 = .ok (.aload_n 0, 1) := by decide +kernel
theorem d_Cv_init_130 : decode c_Cv_init 130 = .ok (.getfield 16, 3) := by decide +kernel
theorem d_Cv_init_133 : decode c_Cv_init 133 = .ok (.invokevirtual 26, 3) := by decide +kernel
theorem d_Cv_init_136 : decode c_Cv_init 136 = .ok (.putfield 58, 3) := by decide +kernel
theorem d_Cv_init_139 : decode c_Cv_init 139 = .ok (.aload_n 0, 1) := by decide +kernel
theorem d_Cv_init_140 : decode c_Cv_init 140 = .ok (.aload_n 0, 1) := by decide +kernel
theorem d_Cv_init_141 : decode c_Cv_init 141 = .ok (.getfield 16, 3) := by decide +kernel
theorem d_Cv_init_144 : decode c_Cv_init 144 = .ok (.invokevirtual 26, 3) := by decide +kernel
theorem d_Cv_init_147 : decode c_Cv_init 147 = .ok (.putfield 61, 3) := by decide +kernel
theorem d_Cv_init_150 : decode c_Cv_init 150 = .ok (.aload_n 0, 1) := by decide +kernel
theorem d_Cv_init_151 : decode c_Cv_init 151 = .ok (.aload_n 0, 1) := by decide +kernel
theorem d_Cv_init_152 : decode c_Cv_init 152 = .ok (.getfield 16, 3) := by decide +kernel
theorem d_Cv_init_155 : decode c_Cv_init 155 = .ok (.invokevirtual 26, 3) := by decide +kernel
theorem d_Cv_init_158 : decode c_Cv_init 158 = .ok (.putfield 64, 3) := by decide +kernel
theorem d_Cv_init_161 : decode c_Cv_init 161 = .ok (.return_, 1) := by decide +kernel
set_option maxRecDepth 100000 in
set_option maxHeartbeats 4000000 in
/-- Curve -/
theorem n_Cv (l : Launch) (G : wG) (A : Nat → Prop) (ad : Nat → Nat) (ev : Nat → va_E) (b : Nat) (hab : ad 18 = b) (hev : ev 18 = eO 0 [.null, .null, .null, .null, .null, .null, .null, .null, .null, .null, .null, .null, .null, .null]) : wN l y_Cv_init w_Cv_init ({ frames := 6, cells := 15, slots := 177, locals := 200 }) G A 19 ad ev [.ref (b)] 15 177 (fun ov n' ad' ev' => ov = none ∧ n' = 34 ∧ (∀ k, k ≤ 18 → ad' k = ad k) ∧ (∀ k, k < 18 → ev' k = ev k) ∧ ev' 18 = eO 0 [.ref (ad' 19), .ref (ad' 21), .ref (ad' 22), .ref (ad' 23), .ref (ad' 24), .ref (ad' 25), .ref (ad' 26), .ref (ad' 27), .ref (ad' 28), .ref (ad' 29), .ref (ad' 30), .ref (ad' 31), .ref (ad' 32), .ref (ad' 33)] ∧ ev' 19 = eO 1 [.int (nI (10)), .int (nI (21)), .long (19), .long (608), .ref (ad' 20)] ∧ ev' 20 = eJ G 20 (fun _ => 0) ∧ ev' 21 = eB G 32 (fun _ => 0) ∧ ev' 22 = eJ G 10 (fun _ => 0) ∧ ev' 23 = eJ G 10 (fun _ => 0) ∧ ev' 24 = eJ G 10 (fun _ => 0) ∧ ev' 25 = eJ G 10 (fun _ => 0) ∧ ev' 26 = eJ G 10 (fun _ => 0) ∧ ev' 27 = eJ G 10 (fun _ => 0) ∧ ev' 28 = eJ G 10 (fun _ => 0) ∧ ev' 29 = eJ G 10 (fun _ => 0) ∧ ev' 30 = eJ G 10 (fun _ => 0) ∧ ev' 31 = eJ G 10 (fun _ => 0) ∧ ev' 32 = eJ G 10 (fun _ => 0) ∧ ev' 33 = eJ G 10 (fun _ => 0)) := by
  refine wv_ofW (cc := c_Cv_init) (maxL := 1) (ret := none) (by decide) rfl (Nat.le_of_ble_eq_true rfl) ?_
  intro p e s m below meth c ls hx hb hr hml hts hown hlocks hini h hl
  have hl : lv_has ls 1 [(0, .ref (b))] := hl
  refine lv_aload_n hx hb d_Cv_init_0 rfl (lv_at hl 0 rfl) ?_
  refine wv_obj hx hb hown hts (List.mem_cons_of_mem _ kl_Cv_3) (List.mem_cons_of_mem _ km_Ob_init) (List.mem_cons_of_mem _ kc_Ob_init) (by rw [hml]; exact hl.1) d_Cv_init_1 (Nat.le_of_ble_eq_true rfl) (Nat.le_of_ble_eq_true rfl) ?_
  refine lv_aload_n hx hb d_Cv_init_4 rfl (lv_at hl 0 rfl) ?_
  refine wv_newo hx hb hts (fun w hw => List.mem_cons_of_mem _ (fW_Fd w hw)) fY_Fd fK_Fd hown (hts _ (List.mem_cons_of_mem _ kC_Cv_9)) (hts _ (List.mem_cons_of_mem _ kI_Fd)) (hts _ (List.mem_cons_of_mem _ ki_Fd)) h (ci := 1) (T := fT_Fd) rfl (fs := [.int 0, .int 0, .long 0, .long 0, .null]) (fun j hj => by rcases (show j = 0 ∨ j = 1 ∨ j = 2 ∨ j = 3 ∨ j = 4 by omega) with rfl | rfl | rfl | rfl | rfl <;> rfl) (Nat.le_of_ble_eq_true rfl) (Nat.le_of_ble_eq_true rfl) d_Cv_init_5 (fun q19 H h => ?_)
  obtain ⟨ev1, o1⟩ : ∃ z, z = va_up ev 19 (eO 1 [.int 0, .int 0, .long 0, .long 0, .null]) := ⟨_, rfl⟩
  rw [← o1] at h
  have u1_18 : ev1 18 = eO 0 [.null, .null, .null, .null, .null, .null, .null, .null, .null, .null, .null, .null, .null, .null] := by rw [o1, va_up_ne _ _ (by decide)]; exact hev
  have u1_19 : ev1 19 = eO 1 [.int 0, .int 0, .long 0, .long 0, .null] := by rw [o1, va_up_self]
  obtain ⟨ad1, ha1⟩ : ∃ z, z = va_up ad 19 q19 := ⟨_, rfl⟩
  rw [← ha1] at h
  have a1_18 : ad1 18 = b := by rw [ha1, va_up_ne _ _ (by decide)]; exact hab
  have a1_19 : ad1 19 = q19 := by rw [ha1, va_up_self]
  refine lv_dup hx hb d_Cv_init_8 rfl ?_
  refine lv_sipush (v := nI (255)) hx hb d_Cv_init_9 (by decide) ?_
  refine lv_ldc2 (v := 19) hx hb hown (hts _ (List.mem_cons_of_mem _ ko_Cv_11)) d_Cv_init_12 ?_
  refine wv_Ix (As := [.int (nI (255)), .long (19)]) (rest := [.ref (q19), .ref (b)]) (k := 2) ⟨hx, hb, hml, hown, hts⟩ h (n_Fd19 l G A ad1 ev1 q19 a1_19 u1_19) kc_Fd_init kl_Cv_13 km_Fd_init ki_Fd rfl (by decide +kernel) ⟨rfl, rfl, Nat.le_of_ble_eq_true rfl, Nat.le_of_ble_eq_true rfl⟩ hl.1 rfl rfl (Nat.le_of_ble_eq_true rfl) ⟨Nat.le_of_ble_eq_true rfl, Nat.le_of_ble_eq_true rfl⟩ d_Cv_init_15 ?_
  intro ov n2 ad2 ev2 H locs hp h
  obtain ⟨ho, hn, hA2, hE2, c2_19, c2_20⟩ := hp
  rw [ho]
  subst hn
  refine W.eq (g2 := F0 m 18 ls [.ref (q19), .ref (b)]) rfl ?_
  have a2_18 : ad2 18 = b := (hA2 18 (by decide)).trans a1_18
  have a2_19 : ad2 19 = q19 := (hA2 19 (by decide)).trans a1_19
  have u2_18 : ev2 18 = eO 0 [.null, .null, .null, .null, .null, .null, .null, .null, .null, .null, .null, .null, .null, .null] := (hE2 18 (by decide)).trans u1_18
  obtain ⟨q20, e20⟩ : ∃ z, z = ad2 20 := ⟨_, rfl⟩
  rw [← e20] at c2_19
  refine wv_adr2 a2_18 ?_
  refine wv_putF hx hb h 18 (by decide) (fs := [.null, .null, .null, .null, .null, .null, .null, .null, .null, .null, .null, .null, .null, .null]) u2_18 hts (fun w hw => List.mem_cons_of_mem _ (fW_Cv w hw)) fY_Cv fK_Cv fN_Cv hown (ci := 0) (C := "NonceBox$Curve") (T := fT_Cv) (N := 14) rfl 0 (by decide) (hts _ (List.mem_cons_of_mem _ kf_Cv_16)) rfl rfl (hini rfl) rfl (v := .ref (q19)) rfl rfl (Nat.le_of_ble_eq_true rfl) d_Cv_init_18 (fun H locs h => ?_)
  have h : wT G A 21 ad2 (va_up ev2 18 (eO 0 [.ref (q19), .null, .null, .null, .null, .null, .null, .null, .null, .null, .null, .null, .null, .null])) s H locs := h
  obtain ⟨ev3, o3⟩ : ∃ z, z = va_up ev2 18 (eO 0 [.ref (q19), .null, .null, .null, .null, .null, .null, .null, .null, .null, .null, .null, .null, .null]) := ⟨_, rfl⟩
  rw [← o3] at h
  have u3_19 : ev3 19 = eO 1 [.int (nI (10)), .int (nI (21)), .long (19), .long (608), .ref (q20)] := by rw [o3, va_up_ne _ _ (by decide)]; exact c2_19
  have u3_20 : ev3 20 = eJ G 20 (fun _ => 0) := by rw [o3, va_up_ne _ _ (by decide)]; exact c2_20
  have u3_18 : ev3 18 = eO 0 [.ref (q19), .null, .null, .null, .null, .null, .null, .null, .null, .null, .null, .null, .null, .null] := by rw [o3, va_up_self]
  refine lv_aload_n hx hb d_Cv_init_21 rfl (lv_at hl 0 rfl) ?_
  refine lv_bipush (v := nI (32)) hx hb d_Cv_init_22 (by decide) ?_
  refine wv_newB hx hb (hts _ (List.mem_cons_of_mem _ ka_byte)) h (N := 32) rfl (by decide) (Nat.le_of_ble_eq_true rfl) (Nat.le_of_ble_eq_true rfl) d_Cv_init_24 (fun q21 H h => ?_)
  obtain ⟨ev4, o4⟩ : ∃ z, z = va_up ev3 21 (eB G 32 (fun _ => 0)) := ⟨_, rfl⟩
  rw [← o4] at h
  have u4_18 : ev4 18 = eO 0 [.ref (q19), .null, .null, .null, .null, .null, .null, .null, .null, .null, .null, .null, .null, .null] := by rw [o4, va_up_ne _ _ (by decide)]; exact u3_18
  have u4_19 : ev4 19 = eO 1 [.int (nI (10)), .int (nI (21)), .long (19), .long (608), .ref (q20)] := by rw [o4, va_up_ne _ _ (by decide)]; exact u3_19
  have u4_20 : ev4 20 = eJ G 20 (fun _ => 0) := by rw [o4, va_up_ne _ _ (by decide)]; exact u3_20
  have u4_21 : ev4 21 = eB G 32 (fun _ => 0) := by rw [o4, va_up_self]
  obtain ⟨ad4, ha4⟩ : ∃ z, z = va_up ad2 21 q21 := ⟨_, rfl⟩
  rw [← ha4] at h
  have a4_18 : ad4 18 = b := by rw [ha4, va_up_ne _ _ (by decide)]; exact a2_18
  have a4_19 : ad4 19 = q19 := by rw [ha4, va_up_ne _ _ (by decide)]; exact a2_19
  have a4_20 : ad4 20 = q20 := by rw [ha4, va_up_ne _ _ (by decide)]; exact e20.symm
  have a4_21 : ad4 21 = q21 := by rw [ha4, va_up_self]
  refine wv_adr2 a4_18 ?_
  refine wv_putF hx hb h 18 (by decide) (fs := [.ref (q19), .null, .null, .null, .null, .null, .null, .null, .null, .null, .null, .null, .null, .null]) u4_18 hts (fun w hw => List.mem_cons_of_mem _ (fW_Cv w hw)) fY_Cv fK_Cv fN_Cv hown (ci := 0) (C := "NonceBox$Curve") (T := fT_Cv) (N := 14) rfl 1 (by decide) (hts _ (List.mem_cons_of_mem _ kf_Cv_22)) rfl rfl (hini rfl) rfl (v := .ref (q21)) rfl rfl (Nat.le_of_ble_eq_true rfl) d_Cv_init_26 (fun H locs h => ?_)
  have h : wT G A 22 ad4 (va_up ev4 18 (eO 0 [.ref (q19), .ref (q21), .null, .null, .null, .null, .null, .null, .null, .null, .null, .null, .null, .null])) s H locs := h
  obtain ⟨ev5, o5⟩ : ∃ z, z = va_up ev4 18 (eO 0 [.ref (q19), .ref (q21), .null, .null, .null, .null, .null, .null, .null, .null, .null, .null, .null, .null]) := ⟨_, rfl⟩
  rw [← o5] at h
  have u5_19 : ev5 19 = eO 1 [.int (nI (10)), .int (nI (21)), .long (19), .long (608), .ref (q20)] := by rw [o5, va_up_ne _ _ (by decide)]; exact u4_19
  have u5_20 : ev5 20 = eJ G 20 (fun _ => 0) := by rw [o5, va_up_ne _ _ (by decide)]; exact u4_20
  have u5_21 : ev5 21 = eB G 32 (fun _ => 0) := by rw [o5, va_up_ne _ _ (by decide)]; exact u4_21
  have u5_18 : ev5 18 = eO 0 [.ref (q19), .ref (q21), .null, .null, .null, .null, .null, .null, .null, .null, .null, .null, .null, .null] := by rw [o5, va_up_self]
  refine lv_aload_n hx hb d_Cv_init_29 rfl (lv_at hl 0 rfl) ?_
  refine lv_aload_n hx hb d_Cv_init_30 rfl (lv_at hl 0 rfl) ?_
  refine wv_adr1 a4_18 ?_
  refine wv_getf hx hb h 18 (by decide) (fs := [.ref (q19), .ref (q21), .null, .null, .null, .null, .null, .null, .null, .null, .null, .null, .null, .null]) u5_18 hts (fun w hw => List.mem_cons_of_mem _ (fW_Cv w hw)) hown (ci := 0) (C := "NonceBox$Curve") (T := fT_Cv) (N := 14) rfl 0 (by decide) (hts _ (List.mem_cons_of_mem _ kf_Cv_16)) rfl (v := .ref (q19)) rfl d_Cv_init_31 ?_
  refine wv_adr1 a4_19 ?_
  refine wv_Vn (As := []) (rest := [.ref (b)]) (k := 0) ⟨hx, hb, hml, hown, hts⟩ h 19 (by decide) (C := "NonceBox$Field") u5_19 rfl (n_newRow10 l G A ad4 ev5 22 19 q20 (by decide) u5_19) kc_Fd_newRow kl_Cv_26 km_Fd_newRow kv_Fd_newRow ki_Fd (by decide +kernel) ⟨rfl, rfl, Nat.le_of_ble_eq_true rfl, Nat.le_of_ble_eq_true rfl⟩ hl.1 rfl rfl (Nat.le_of_ble_eq_true rfl) ⟨Nat.le_of_ble_eq_true rfl, Nat.le_of_ble_eq_true rfl⟩ d_Cv_init_34 ?_
  intro ov nx adx evx H locs hp h
  obtain ⟨q22, ho, hn, ha, he⟩ := hp
  rw [ho]
  subst hn
  rw [ha, he] at h
  refine W.eq (g2 := F0 m 37 ls [.ref (q22), .ref (b)]) rfl ?_
  obtain ⟨ev6, o6⟩ : ∃ z, z = va_up ev5 22 (eJ G 10 (fun _ => 0)) := ⟨_, rfl⟩
  rw [← o6] at h
  have u6_18 : ev6 18 = eO 0 [.ref (q19), .ref (q21), .null, .null, .null, .null, .null, .null, .null, .null, .null, .null, .null, .null] := by rw [o6, va_up_ne _ _ (by decide)]; exact u5_18
  have u6_19 : ev6 19 = eO 1 [.int (nI (10)), .int (nI (21)), .long (19), .long (608), .ref (q20)] := by rw [o6, va_up_ne _ _ (by decide)]; exact u5_19
  have u6_20 : ev6 20 = eJ G 20 (fun _ => 0) := by rw [o6, va_up_ne _ _ (by decide)]; exact u5_20
  have u6_21 : ev6 21 = eB G 32 (fun _ => 0) := by rw [o6, va_up_ne _ _ (by decide)]; exact u5_21
  have u6_22 : ev6 22 = eJ G 10 (fun _ => 0) := by rw [o6, va_up_self]
  obtain ⟨ad6, ha6⟩ : ∃ z, z = va_up ad4 22 q22 := ⟨_, rfl⟩
  rw [← ha6] at h
  have a6_18 : ad6 18 = b := by rw [ha6, va_up_ne _ _ (by decide)]; exact a4_18
  have a6_19 : ad6 19 = q19 := by rw [ha6, va_up_ne _ _ (by decide)]; exact a4_19
  have a6_20 : ad6 20 = q20 := by rw [ha6, va_up_ne _ _ (by decide)]; exact a4_20
  have a6_21 : ad6 21 = q21 := by rw [ha6, va_up_ne _ _ (by decide)]; exact a4_21
  have a6_22 : ad6 22 = q22 := by rw [ha6, va_up_self]
  refine wv_adr2 a6_18 ?_
  refine wv_putF hx hb h 18 (by decide) (fs := [.ref (q19), .ref (q21), .null, .null, .null, .null, .null, .null, .null, .null, .null, .null, .null, .null]) u6_18 hts (fun w hw => List.mem_cons_of_mem _ (fW_Cv w hw)) fY_Cv fK_Cv fN_Cv hown (ci := 0) (C := "NonceBox$Curve") (T := fT_Cv) (N := 14) rfl 2 (by decide) (hts _ (List.mem_cons_of_mem _ kf_Cv_30)) rfl rfl (hini rfl) rfl (v := .ref (q22)) rfl rfl (Nat.le_of_ble_eq_true rfl) d_Cv_init_37 (fun H locs h => ?_)
  have h : wT G A 23 ad6 (va_up ev6 18 (eO 0 [.ref (q19), .ref (q21), .ref (q22), .null, .null, .null, .null, .null, .null, .null, .null, .null, .null, .null])) s H locs := h
  obtain ⟨ev7, o7⟩ : ∃ z, z = va_up ev6 18 (eO 0 [.ref (q19), .ref (q21), .ref (q22), .null, .null, .null, .null, .null, .null, .null, .null, .null, .null, .null]) := ⟨_, rfl⟩
  rw [← o7] at h
  have u7_19 : ev7 19 = eO 1 [.int (nI (10)), .int (nI (21)), .long (19), .long (608), .ref (q20)] := by rw [o7, va_up_ne _ _ (by decide)]; exact u6_19
  have u7_20 : ev7 20 = eJ G 20 (fun _ => 0) := by rw [o7, va_up_ne _ _ (by decide)]; exact u6_20
  have u7_21 : ev7 21 = eB G 32 (fun _ => 0) := by rw [o7, va_up_ne _ _ (by decide)]; exact u6_21
  have u7_22 : ev7 22 = eJ G 10 (fun _ => 0) := by rw [o7, va_up_ne _ _ (by decide)]; exact u6_22
  have u7_18 : ev7 18 = eO 0 [.ref (q19), .ref (q21), .ref (q22), .null, .null, .null, .null, .null, .null, .null, .null, .null, .null, .null] := by rw [o7, va_up_self]
  refine lv_aload_n hx hb d_Cv_init_40 rfl (lv_at hl 0 rfl) ?_
  refine lv_aload_n hx hb d_Cv_init_41 rfl (lv_at hl 0 rfl) ?_
  refine wv_adr1 a6_18 ?_
  refine wv_getf hx hb h 18 (by decide) (fs := [.ref (q19), .ref (q21), .ref (q22), .null, .null, .null, .null, .null, .null, .null, .null, .null, .null, .null]) u7_18 hts (fun w hw => List.mem_cons_of_mem _ (fW_Cv w hw)) hown (ci := 0) (C := "NonceBox$Curve") (T := fT_Cv) (N := 14) rfl 0 (by decide) (hts _ (List.mem_cons_of_mem _ kf_Cv_16)) rfl (v := .ref (q19)) rfl d_Cv_init_42 ?_
  refine wv_adr1 a6_19 ?_
  refine wv_Vn (As := []) (rest := [.ref (b)]) (k := 0) ⟨hx, hb, hml, hown, hts⟩ h 19 (by decide) (C := "NonceBox$Field") u7_19 rfl (n_newRow10 l G A ad6 ev7 23 19 q20 (by decide) u7_19) kc_Fd_newRow kl_Cv_26 km_Fd_newRow kv_Fd_newRow ki_Fd (by decide +kernel) ⟨rfl, rfl, Nat.le_of_ble_eq_true rfl, Nat.le_of_ble_eq_true rfl⟩ hl.1 rfl rfl (Nat.le_of_ble_eq_true rfl) ⟨Nat.le_of_ble_eq_true rfl, Nat.le_of_ble_eq_true rfl⟩ d_Cv_init_45 ?_
  intro ov nx adx evx H locs hp h
  obtain ⟨q23, ho, hn, ha, he⟩ := hp
  rw [ho]
  subst hn
  rw [ha, he] at h
  refine W.eq (g2 := F0 m 48 ls [.ref (q23), .ref (b)]) rfl ?_
  obtain ⟨ev8, o8⟩ : ∃ z, z = va_up ev7 23 (eJ G 10 (fun _ => 0)) := ⟨_, rfl⟩
  rw [← o8] at h
  have u8_18 : ev8 18 = eO 0 [.ref (q19), .ref (q21), .ref (q22), .null, .null, .null, .null, .null, .null, .null, .null, .null, .null, .null] := by rw [o8, va_up_ne _ _ (by decide)]; exact u7_18
  have u8_19 : ev8 19 = eO 1 [.int (nI (10)), .int (nI (21)), .long (19), .long (608), .ref (q20)] := by rw [o8, va_up_ne _ _ (by decide)]; exact u7_19
  have u8_20 : ev8 20 = eJ G 20 (fun _ => 0) := by rw [o8, va_up_ne _ _ (by decide)]; exact u7_20
  have u8_21 : ev8 21 = eB G 32 (fun _ => 0) := by rw [o8, va_up_ne _ _ (by decide)]; exact u7_21
  have u8_22 : ev8 22 = eJ G 10 (fun _ => 0) := by rw [o8, va_up_ne _ _ (by decide)]; exact u7_22
  have u8_23 : ev8 23 = eJ G 10 (fun _ => 0) := by rw [o8, va_up_self]
  obtain ⟨ad8, ha8⟩ : ∃ z, z = va_up ad6 23 q23 := ⟨_, rfl⟩
  rw [← ha8] at h
  have a8_18 : ad8 18 = b := by rw [ha8, va_up_ne _ _ (by decide)]; exact a6_18
  have a8_19 : ad8 19 = q19 := by rw [ha8, va_up_ne _ _ (by decide)]; exact a6_19
  have a8_20 : ad8 20 = q20 := by rw [ha8, va_up_ne _ _ (by decide)]; exact a6_20
  have a8_21 : ad8 21 = q21 := by rw [ha8, va_up_ne _ _ (by decide)]; exact a6_21
  have a8_22 : ad8 22 = q22 := by rw [ha8, va_up_ne _ _ (by decide)]; exact a6_22
  have a8_23 : ad8 23 = q23 := by rw [ha8, va_up_self]
  refine wv_adr2 a8_18 ?_
  refine wv_putF hx hb h 18 (by decide) (fs := [.ref (q19), .ref (q21), .ref (q22), .null, .null, .null, .null, .null, .null, .null, .null, .null, .null, .null]) u8_18 hts (fun w hw => List.mem_cons_of_mem _ (fW_Cv w hw)) fY_Cv fK_Cv fN_Cv hown (ci := 0) (C := "NonceBox$Curve") (T := fT_Cv) (N := 14) rfl 3 (by decide) (hts _ (List.mem_cons_of_mem _ kf_Cv_34)) rfl rfl (hini rfl) rfl (v := .ref (q23)) rfl rfl (Nat.le_of_ble_eq_true rfl) d_Cv_init_48 (fun H locs h => ?_)
  have h : wT G A 24 ad8 (va_up ev8 18 (eO 0 [.ref (q19), .ref (q21), .ref (q22), .ref (q23), .null, .null, .null, .null, .null, .null, .null, .null, .null, .null])) s H locs := h
  obtain ⟨ev9, o9⟩ : ∃ z, z = va_up ev8 18 (eO 0 [.ref (q19), .ref (q21), .ref (q22), .ref (q23), .null, .null, .null, .null, .null, .null, .null, .null, .null, .null]) := ⟨_, rfl⟩
  rw [← o9] at h
  have u9_19 : ev9 19 = eO 1 [.int (nI (10)), .int (nI (21)), .long (19), .long (608), .ref (q20)] := by rw [o9, va_up_ne _ _ (by decide)]; exact u8_19
  have u9_20 : ev9 20 = eJ G 20 (fun _ => 0) := by rw [o9, va_up_ne _ _ (by decide)]; exact u8_20
  have u9_21 : ev9 21 = eB G 32 (fun _ => 0) := by rw [o9, va_up_ne _ _ (by decide)]; exact u8_21
  have u9_22 : ev9 22 = eJ G 10 (fun _ => 0) := by rw [o9, va_up_ne _ _ (by decide)]; exact u8_22
  have u9_23 : ev9 23 = eJ G 10 (fun _ => 0) := by rw [o9, va_up_ne _ _ (by decide)]; exact u8_23
  have u9_18 : ev9 18 = eO 0 [.ref (q19), .ref (q21), .ref (q22), .ref (q23), .null, .null, .null, .null, .null, .null, .null, .null, .null, .null] := by rw [o9, va_up_self]
  refine lv_aload_n hx hb d_Cv_init_51 rfl (lv_at hl 0 rfl) ?_
  refine lv_aload_n hx hb d_Cv_init_52 rfl (lv_at hl 0 rfl) ?_
  refine wv_adr1 a8_18 ?_
  refine wv_getf hx hb h 18 (by decide) (fs := [.ref (q19), .ref (q21), .ref (q22), .ref (q23), .null, .null, .null, .null, .null, .null, .null, .null, .null, .null]) u9_18 hts (fun w hw => List.mem_cons_of_mem _ (fW_Cv w hw)) hown (ci := 0) (C := "NonceBox$Curve") (T := fT_Cv) (N := 14) rfl 0 (by decide) (hts _ (List.mem_cons_of_mem _ kf_Cv_16)) rfl (v := .ref (q19)) rfl d_Cv_init_53 ?_
  refine wv_adr1 a8_19 ?_
  refine wv_Vn (As := []) (rest := [.ref (b)]) (k := 0) ⟨hx, hb, hml, hown, hts⟩ h 19 (by decide) (C := "NonceBox$Field") u9_19 rfl (n_newRow10 l G A ad8 ev9 24 19 q20 (by decide) u9_19) kc_Fd_newRow kl_Cv_26 km_Fd_newRow kv_Fd_newRow ki_Fd (by decide +kernel) ⟨rfl, rfl, Nat.le_of_ble_eq_true rfl, Nat.le_of_ble_eq_true rfl⟩ hl.1 rfl rfl (Nat.le_of_ble_eq_true rfl) ⟨Nat.le_of_ble_eq_true rfl, Nat.le_of_ble_eq_true rfl⟩ d_Cv_init_56 ?_
  intro ov nx adx evx H locs hp h
  obtain ⟨q24, ho, hn, ha, he⟩ := hp
  rw [ho]
  subst hn
  rw [ha, he] at h
  refine W.eq (g2 := F0 m 59 ls [.ref (q24), .ref (b)]) rfl ?_
  obtain ⟨ev10, o10⟩ : ∃ z, z = va_up ev9 24 (eJ G 10 (fun _ => 0)) := ⟨_, rfl⟩
  rw [← o10] at h
  have u10_18 : ev10 18 = eO 0 [.ref (q19), .ref (q21), .ref (q22), .ref (q23), .null, .null, .null, .null, .null, .null, .null, .null, .null, .null] := by rw [o10, va_up_ne _ _ (by decide)]; exact u9_18
  have u10_19 : ev10 19 = eO 1 [.int (nI (10)), .int (nI (21)), .long (19), .long (608), .ref (q20)] := by rw [o10, va_up_ne _ _ (by decide)]; exact u9_19
  have u10_20 : ev10 20 = eJ G 20 (fun _ => 0) := by rw [o10, va_up_ne _ _ (by decide)]; exact u9_20
  have u10_21 : ev10 21 = eB G 32 (fun _ => 0) := by rw [o10, va_up_ne _ _ (by decide)]; exact u9_21
  have u10_22 : ev10 22 = eJ G 10 (fun _ => 0) := by rw [o10, va_up_ne _ _ (by decide)]; exact u9_22
  have u10_23 : ev10 23 = eJ G 10 (fun _ => 0) := by rw [o10, va_up_ne _ _ (by decide)]; exact u9_23
  have u10_24 : ev10 24 = eJ G 10 (fun _ => 0) := by rw [o10, va_up_self]
  obtain ⟨ad10, ha10⟩ : ∃ z, z = va_up ad8 24 q24 := ⟨_, rfl⟩
  rw [← ha10] at h
  have a10_18 : ad10 18 = b := by rw [ha10, va_up_ne _ _ (by decide)]; exact a8_18
  have a10_19 : ad10 19 = q19 := by rw [ha10, va_up_ne _ _ (by decide)]; exact a8_19
  have a10_20 : ad10 20 = q20 := by rw [ha10, va_up_ne _ _ (by decide)]; exact a8_20
  have a10_21 : ad10 21 = q21 := by rw [ha10, va_up_ne _ _ (by decide)]; exact a8_21
  have a10_22 : ad10 22 = q22 := by rw [ha10, va_up_ne _ _ (by decide)]; exact a8_22
  have a10_23 : ad10 23 = q23 := by rw [ha10, va_up_ne _ _ (by decide)]; exact a8_23
  have a10_24 : ad10 24 = q24 := by rw [ha10, va_up_self]
  refine wv_adr2 a10_18 ?_
  refine wv_putF hx hb h 18 (by decide) (fs := [.ref (q19), .ref (q21), .ref (q22), .ref (q23), .null, .null, .null, .null, .null, .null, .null, .null, .null, .null]) u10_18 hts (fun w hw => List.mem_cons_of_mem _ (fW_Cv w hw)) fY_Cv fK_Cv fN_Cv hown (ci := 0) (C := "NonceBox$Curve") (T := fT_Cv) (N := 14) rfl 4 (by decide) (hts _ (List.mem_cons_of_mem _ kf_Cv_37)) rfl rfl (hini rfl) rfl (v := .ref (q24)) rfl rfl (Nat.le_of_ble_eq_true rfl) d_Cv_init_59 (fun H locs h => ?_)
  have h : wT G A 25 ad10 (va_up ev10 18 (eO 0 [.ref (q19), .ref (q21), .ref (q22), .ref (q23), .ref (q24), .null, .null, .null, .null, .null, .null, .null, .null, .null])) s H locs := h
  obtain ⟨ev11, o11⟩ : ∃ z, z = va_up ev10 18 (eO 0 [.ref (q19), .ref (q21), .ref (q22), .ref (q23), .ref (q24), .null, .null, .null, .null, .null, .null, .null, .null, .null]) := ⟨_, rfl⟩
  rw [← o11] at h
  have u11_19 : ev11 19 = eO 1 [.int (nI (10)), .int (nI (21)), .long (19), .long (608), .ref (q20)] := by rw [o11, va_up_ne _ _ (by decide)]; exact u10_19
  have u11_20 : ev11 20 = eJ G 20 (fun _ => 0) := by rw [o11, va_up_ne _ _ (by decide)]; exact u10_20
  have u11_21 : ev11 21 = eB G 32 (fun _ => 0) := by rw [o11, va_up_ne _ _ (by decide)]; exact u10_21
  have u11_22 : ev11 22 = eJ G 10 (fun _ => 0) := by rw [o11, va_up_ne _ _ (by decide)]; exact u10_22
  have u11_23 : ev11 23 = eJ G 10 (fun _ => 0) := by rw [o11, va_up_ne _ _ (by decide)]; exact u10_23
  have u11_24 : ev11 24 = eJ G 10 (fun _ => 0) := by rw [o11, va_up_ne _ _ (by decide)]; exact u10_24
  have u11_18 : ev11 18 = eO 0 [.ref (q19), .ref (q21), .ref (q22), .ref (q23), .ref (q24), .null, .null, .null, .null, .null, .null, .null, .null, .null] := by rw [o11, va_up_self]
  refine lv_aload_n hx hb d_Cv_init_62 rfl (lv_at hl 0 rfl) ?_
  refine lv_aload_n hx hb d_Cv_init_63 rfl (lv_at hl 0 rfl) ?_
  refine wv_adr1 a10_18 ?_
  refine wv_getf hx hb h 18 (by decide) (fs := [.ref (q19), .ref (q21), .ref (q22), .ref (q23), .ref (q24), .null, .null, .null, .null, .null, .null, .null, .null, .null]) u11_18 hts (fun w hw => List.mem_cons_of_mem _ (fW_Cv w hw)) hown (ci := 0) (C := "NonceBox$Curve") (T := fT_Cv) (N := 14) rfl 0 (by decide) (hts _ (List.mem_cons_of_mem _ kf_Cv_16)) rfl (v := .ref (q19)) rfl d_Cv_init_64 ?_
  refine wv_adr1 a10_19 ?_
  refine wv_Vn (As := []) (rest := [.ref (b)]) (k := 0) ⟨hx, hb, hml, hown, hts⟩ h 19 (by decide) (C := "NonceBox$Field") u11_19 rfl (n_newRow10 l G A ad10 ev11 25 19 q20 (by decide) u11_19) kc_Fd_newRow kl_Cv_26 km_Fd_newRow kv_Fd_newRow ki_Fd (by decide +kernel) ⟨rfl, rfl, Nat.le_of_ble_eq_true rfl, Nat.le_of_ble_eq_true rfl⟩ hl.1 rfl rfl (Nat.le_of_ble_eq_true rfl) ⟨Nat.le_of_ble_eq_true rfl, Nat.le_of_ble_eq_true rfl⟩ d_Cv_init_67 ?_
  intro ov nx adx evx H locs hp h
  obtain ⟨q25, ho, hn, ha, he⟩ := hp
  rw [ho]
  subst hn
  rw [ha, he] at h
  refine W.eq (g2 := F0 m 70 ls [.ref (q25), .ref (b)]) rfl ?_
  obtain ⟨ev12, o12⟩ : ∃ z, z = va_up ev11 25 (eJ G 10 (fun _ => 0)) := ⟨_, rfl⟩
  rw [← o12] at h
  have u12_18 : ev12 18 = eO 0 [.ref (q19), .ref (q21), .ref (q22), .ref (q23), .ref (q24), .null, .null, .null, .null, .null, .null, .null, .null, .null] := by rw [o12, va_up_ne _ _ (by decide)]; exact u11_18
  have u12_19 : ev12 19 = eO 1 [.int (nI (10)), .int (nI (21)), .long (19), .long (608), .ref (q20)] := by rw [o12, va_up_ne _ _ (by decide)]; exact u11_19
  have u12_20 : ev12 20 = eJ G 20 (fun _ => 0) := by rw [o12, va_up_ne _ _ (by decide)]; exact u11_20
  have u12_21 : ev12 21 = eB G 32 (fun _ => 0) := by rw [o12, va_up_ne _ _ (by decide)]; exact u11_21
  have u12_22 : ev12 22 = eJ G 10 (fun _ => 0) := by rw [o12, va_up_ne _ _ (by decide)]; exact u11_22
  have u12_23 : ev12 23 = eJ G 10 (fun _ => 0) := by rw [o12, va_up_ne _ _ (by decide)]; exact u11_23
  have u12_24 : ev12 24 = eJ G 10 (fun _ => 0) := by rw [o12, va_up_ne _ _ (by decide)]; exact u11_24
  have u12_25 : ev12 25 = eJ G 10 (fun _ => 0) := by rw [o12, va_up_self]
  obtain ⟨ad12, ha12⟩ : ∃ z, z = va_up ad10 25 q25 := ⟨_, rfl⟩
  rw [← ha12] at h
  have a12_18 : ad12 18 = b := by rw [ha12, va_up_ne _ _ (by decide)]; exact a10_18
  have a12_19 : ad12 19 = q19 := by rw [ha12, va_up_ne _ _ (by decide)]; exact a10_19
  have a12_20 : ad12 20 = q20 := by rw [ha12, va_up_ne _ _ (by decide)]; exact a10_20
  have a12_21 : ad12 21 = q21 := by rw [ha12, va_up_ne _ _ (by decide)]; exact a10_21
  have a12_22 : ad12 22 = q22 := by rw [ha12, va_up_ne _ _ (by decide)]; exact a10_22
  have a12_23 : ad12 23 = q23 := by rw [ha12, va_up_ne _ _ (by decide)]; exact a10_23
  have a12_24 : ad12 24 = q24 := by rw [ha12, va_up_ne _ _ (by decide)]; exact a10_24
  have a12_25 : ad12 25 = q25 := by rw [ha12, va_up_self]
  refine wv_adr2 a12_18 ?_
  refine wv_putF hx hb h 18 (by decide) (fs := [.ref (q19), .ref (q21), .ref (q22), .ref (q23), .ref (q24), .null, .null, .null, .null, .null, .null, .null, .null, .null]) u12_18 hts (fun w hw => List.mem_cons_of_mem _ (fW_Cv w hw)) fY_Cv fK_Cv fN_Cv hown (ci := 0) (C := "NonceBox$Curve") (T := fT_Cv) (N := 14) rfl 5 (by decide) (hts _ (List.mem_cons_of_mem _ kf_Cv_40)) rfl rfl (hini rfl) rfl (v := .ref (q25)) rfl rfl (Nat.le_of_ble_eq_true rfl) d_Cv_init_70 (fun H locs h => ?_)
  have h : wT G A 26 ad12 (va_up ev12 18 (eO 0 [.ref (q19), .ref (q21), .ref (q22), .ref (q23), .ref (q24), .ref (q25), .null, .null, .null, .null, .null, .null, .null, .null])) s H locs := h
  obtain ⟨ev13, o13⟩ : ∃ z, z = va_up ev12 18 (eO 0 [.ref (q19), .ref (q21), .ref (q22), .ref (q23), .ref (q24), .ref (q25), .null, .null, .null, .null, .null, .null, .null, .null]) := ⟨_, rfl⟩
  rw [← o13] at h
  have u13_19 : ev13 19 = eO 1 [.int (nI (10)), .int (nI (21)), .long (19), .long (608), .ref (q20)] := by rw [o13, va_up_ne _ _ (by decide)]; exact u12_19
  have u13_20 : ev13 20 = eJ G 20 (fun _ => 0) := by rw [o13, va_up_ne _ _ (by decide)]; exact u12_20
  have u13_21 : ev13 21 = eB G 32 (fun _ => 0) := by rw [o13, va_up_ne _ _ (by decide)]; exact u12_21
  have u13_22 : ev13 22 = eJ G 10 (fun _ => 0) := by rw [o13, va_up_ne _ _ (by decide)]; exact u12_22
  have u13_23 : ev13 23 = eJ G 10 (fun _ => 0) := by rw [o13, va_up_ne _ _ (by decide)]; exact u12_23
  have u13_24 : ev13 24 = eJ G 10 (fun _ => 0) := by rw [o13, va_up_ne _ _ (by decide)]; exact u12_24
  have u13_25 : ev13 25 = eJ G 10 (fun _ => 0) := by rw [o13, va_up_ne _ _ (by decide)]; exact u12_25
  have u13_18 : ev13 18 = eO 0 [.ref (q19), .ref (q21), .ref (q22), .ref (q23), .ref (q24), .ref (q25), .null, .null, .null, .null, .null, .null, .null, .null] := by rw [o13, va_up_self]
  refine lv_aload_n hx hb d_Cv_init_73 rfl (lv_at hl 0 rfl) ?_
  refine lv_aload_n hx hb d_Cv_init_74 rfl (lv_at hl 0 rfl) ?_
  refine wv_adr1 a12_18 ?_
  refine wv_getf hx hb h 18 (by decide) (fs := [.ref (q19), .ref (q21), .ref (q22), .ref (q23), .ref (q24), .ref (q25), .null, .null, .null, .null, .null, .null, .null, .null]) u13_18 hts (fun w hw => List.mem_cons_of_mem _ (fW_Cv w hw)) hown (ci := 0) (C := "NonceBox$Curve") (T := fT_Cv) (N := 14) rfl 0 (by decide) (hts _ (List.mem_cons_of_mem _ kf_Cv_16)) rfl (v := .ref (q19)) rfl d_Cv_init_75 ?_
  refine wv_adr1 a12_19 ?_
  refine wv_Vn (As := []) (rest := [.ref (b)]) (k := 0) ⟨hx, hb, hml, hown, hts⟩ h 19 (by decide) (C := "NonceBox$Field") u13_19 rfl (n_newRow10 l G A ad12 ev13 26 19 q20 (by decide) u13_19) kc_Fd_newRow kl_Cv_26 km_Fd_newRow kv_Fd_newRow ki_Fd (by decide +kernel) ⟨rfl, rfl, Nat.le_of_ble_eq_true rfl, Nat.le_of_ble_eq_true rfl⟩ hl.1 rfl rfl (Nat.le_of_ble_eq_true rfl) ⟨Nat.le_of_ble_eq_true rfl, Nat.le_of_ble_eq_true rfl⟩ d_Cv_init_78 ?_
  intro ov nx adx evx H locs hp h
  obtain ⟨q26, ho, hn, ha, he⟩ := hp
  rw [ho]
  subst hn
  rw [ha, he] at h
  refine W.eq (g2 := F0 m 81 ls [.ref (q26), .ref (b)]) rfl ?_
  obtain ⟨ev14, o14⟩ : ∃ z, z = va_up ev13 26 (eJ G 10 (fun _ => 0)) := ⟨_, rfl⟩
  rw [← o14] at h
  have u14_18 : ev14 18 = eO 0 [.ref (q19), .ref (q21), .ref (q22), .ref (q23), .ref (q24), .ref (q25), .null, .null, .null, .null, .null, .null, .null, .null] := by rw [o14, va_up_ne _ _ (by decide)]; exact u13_18
  have u14_19 : ev14 19 = eO 1 [.int (nI (10)), .int (nI (21)), .long (19), .long (608), .ref (q20)] := by rw [o14, va_up_ne _ _ (by decide)]; exact u13_19
  have u14_20 : ev14 20 = eJ G 20 (fun _ => 0) := by rw [o14, va_up_ne _ _ (by decide)]; exact u13_20
  have u14_21 : ev14 21 = eB G 32 (fun _ => 0) := by rw [o14, va_up_ne _ _ (by decide)]; exact u13_21
  have u14_22 : ev14 22 = eJ G 10 (fun _ => 0) := by rw [o14, va_up_ne _ _ (by decide)]; exact u13_22
  have u14_23 : ev14 23 = eJ G 10 (fun _ => 0) := by rw [o14, va_up_ne _ _ (by decide)]; exact u13_23
  have u14_24 : ev14 24 = eJ G 10 (fun _ => 0) := by rw [o14, va_up_ne _ _ (by decide)]; exact u13_24
  have u14_25 : ev14 25 = eJ G 10 (fun _ => 0) := by rw [o14, va_up_ne _ _ (by decide)]; exact u13_25
  have u14_26 : ev14 26 = eJ G 10 (fun _ => 0) := by rw [o14, va_up_self]
  obtain ⟨ad14, ha14⟩ : ∃ z, z = va_up ad12 26 q26 := ⟨_, rfl⟩
  rw [← ha14] at h
  have a14_18 : ad14 18 = b := by rw [ha14, va_up_ne _ _ (by decide)]; exact a12_18
  have a14_19 : ad14 19 = q19 := by rw [ha14, va_up_ne _ _ (by decide)]; exact a12_19
  have a14_20 : ad14 20 = q20 := by rw [ha14, va_up_ne _ _ (by decide)]; exact a12_20
  have a14_21 : ad14 21 = q21 := by rw [ha14, va_up_ne _ _ (by decide)]; exact a12_21
  have a14_22 : ad14 22 = q22 := by rw [ha14, va_up_ne _ _ (by decide)]; exact a12_22
  have a14_23 : ad14 23 = q23 := by rw [ha14, va_up_ne _ _ (by decide)]; exact a12_23
  have a14_24 : ad14 24 = q24 := by rw [ha14, va_up_ne _ _ (by decide)]; exact a12_24
  have a14_25 : ad14 25 = q25 := by rw [ha14, va_up_ne _ _ (by decide)]; exact a12_25
  have a14_26 : ad14 26 = q26 := by rw [ha14, va_up_self]
  refine wv_adr2 a14_18 ?_
  refine wv_putF hx hb h 18 (by decide) (fs := [.ref (q19), .ref (q21), .ref (q22), .ref (q23), .ref (q24), .ref (q25), .null, .null, .null, .null, .null, .null, .null, .null]) u14_18 hts (fun w hw => List.mem_cons_of_mem _ (fW_Cv w hw)) fY_Cv fK_Cv fN_Cv hown (ci := 0) (C := "NonceBox$Curve") (T := fT_Cv) (N := 14) rfl 6 (by decide) (hts _ (List.mem_cons_of_mem _ kf_Cv_43)) rfl rfl (hini rfl) rfl (v := .ref (q26)) rfl rfl (Nat.le_of_ble_eq_true rfl) d_Cv_init_81 (fun H locs h => ?_)
  have h : wT G A 27 ad14 (va_up ev14 18 (eO 0 [.ref (q19), .ref (q21), .ref (q22), .ref (q23), .ref (q24), .ref (q25), .ref (q26), .null, .null, .null, .null, .null, .null, .null])) s H locs := h
  obtain ⟨ev15, o15⟩ : ∃ z, z = va_up ev14 18 (eO 0 [.ref (q19), .ref (q21), .ref (q22), .ref (q23), .ref (q24), .ref (q25), .ref (q26), .null, .null, .null, .null, .null, .null, .null]) := ⟨_, rfl⟩
  rw [← o15] at h
  have u15_19 : ev15 19 = eO 1 [.int (nI (10)), .int (nI (21)), .long (19), .long (608), .ref (q20)] := by rw [o15, va_up_ne _ _ (by decide)]; exact u14_19
  have u15_20 : ev15 20 = eJ G 20 (fun _ => 0) := by rw [o15, va_up_ne _ _ (by decide)]; exact u14_20
  have u15_21 : ev15 21 = eB G 32 (fun _ => 0) := by rw [o15, va_up_ne _ _ (by decide)]; exact u14_21
  have u15_22 : ev15 22 = eJ G 10 (fun _ => 0) := by rw [o15, va_up_ne _ _ (by decide)]; exact u14_22
  have u15_23 : ev15 23 = eJ G 10 (fun _ => 0) := by rw [o15, va_up_ne _ _ (by decide)]; exact u14_23
  have u15_24 : ev15 24 = eJ G 10 (fun _ => 0) := by rw [o15, va_up_ne _ _ (by decide)]; exact u14_24
  have u15_25 : ev15 25 = eJ G 10 (fun _ => 0) := by rw [o15, va_up_ne _ _ (by decide)]; exact u14_25
  have u15_26 : ev15 26 = eJ G 10 (fun _ => 0) := by rw [o15, va_up_ne _ _ (by decide)]; exact u14_26
  have u15_18 : ev15 18 = eO 0 [.ref (q19), .ref (q21), .ref (q22), .ref (q23), .ref (q24), .ref (q25), .ref (q26), .null, .null, .null, .null, .null, .null, .null] := by rw [o15, va_up_self]
  refine lv_aload_n hx hb d_Cv_init_84 rfl (lv_at hl 0 rfl) ?_
  refine lv_aload_n hx hb d_Cv_init_85 rfl (lv_at hl 0 rfl) ?_
  refine wv_adr1 a14_18 ?_
  refine wv_getf hx hb h 18 (by decide) (fs := [.ref (q19), .ref (q21), .ref (q22), .ref (q23), .ref (q24), .ref (q25), .ref (q26), .null, .null, .null, .null, .null, .null, .null]) u15_18 hts (fun w hw => List.mem_cons_of_mem _ (fW_Cv w hw)) hown (ci := 0) (C := "NonceBox$Curve") (T := fT_Cv) (N := 14) rfl 0 (by decide) (hts _ (List.mem_cons_of_mem _ kf_Cv_16)) rfl (v := .ref (q19)) rfl d_Cv_init_86 ?_
  refine wv_adr1 a14_19 ?_
  refine wv_Vn (As := []) (rest := [.ref (b)]) (k := 0) ⟨hx, hb, hml, hown, hts⟩ h 19 (by decide) (C := "NonceBox$Field") u15_19 rfl (n_newRow10 l G A ad14 ev15 27 19 q20 (by decide) u15_19) kc_Fd_newRow kl_Cv_26 km_Fd_newRow kv_Fd_newRow ki_Fd (by decide +kernel) ⟨rfl, rfl, Nat.le_of_ble_eq_true rfl, Nat.le_of_ble_eq_true rfl⟩ hl.1 rfl rfl (Nat.le_of_ble_eq_true rfl) ⟨Nat.le_of_ble_eq_true rfl, Nat.le_of_ble_eq_true rfl⟩ d_Cv_init_89 ?_
  intro ov nx adx evx H locs hp h
  obtain ⟨q27, ho, hn, ha, he⟩ := hp
  rw [ho]
  subst hn
  rw [ha, he] at h
  refine W.eq (g2 := F0 m 92 ls [.ref (q27), .ref (b)]) rfl ?_
  obtain ⟨ev16, o16⟩ : ∃ z, z = va_up ev15 27 (eJ G 10 (fun _ => 0)) := ⟨_, rfl⟩
  rw [← o16] at h
  have u16_18 : ev16 18 = eO 0 [.ref (q19), .ref (q21), .ref (q22), .ref (q23), .ref (q24), .ref (q25), .ref (q26), .null, .null, .null, .null, .null, .null, .null] := by rw [o16, va_up_ne _ _ (by decide)]; exact u15_18
  have u16_19 : ev16 19 = eO 1 [.int (nI (10)), .int (nI (21)), .long (19), .long (608), .ref (q20)] := by rw [o16, va_up_ne _ _ (by decide)]; exact u15_19
  have u16_20 : ev16 20 = eJ G 20 (fun _ => 0) := by rw [o16, va_up_ne _ _ (by decide)]; exact u15_20
  have u16_21 : ev16 21 = eB G 32 (fun _ => 0) := by rw [o16, va_up_ne _ _ (by decide)]; exact u15_21
  have u16_22 : ev16 22 = eJ G 10 (fun _ => 0) := by rw [o16, va_up_ne _ _ (by decide)]; exact u15_22
  have u16_23 : ev16 23 = eJ G 10 (fun _ => 0) := by rw [o16, va_up_ne _ _ (by decide)]; exact u15_23
  have u16_24 : ev16 24 = eJ G 10 (fun _ => 0) := by rw [o16, va_up_ne _ _ (by decide)]; exact u15_24
  have u16_25 : ev16 25 = eJ G 10 (fun _ => 0) := by rw [o16, va_up_ne _ _ (by decide)]; exact u15_25
  have u16_26 : ev16 26 = eJ G 10 (fun _ => 0) := by rw [o16, va_up_ne _ _ (by decide)]; exact u15_26
  have u16_27 : ev16 27 = eJ G 10 (fun _ => 0) := by rw [o16, va_up_self]
  obtain ⟨ad16, ha16⟩ : ∃ z, z = va_up ad14 27 q27 := ⟨_, rfl⟩
  rw [← ha16] at h
  have a16_18 : ad16 18 = b := by rw [ha16, va_up_ne _ _ (by decide)]; exact a14_18
  have a16_19 : ad16 19 = q19 := by rw [ha16, va_up_ne _ _ (by decide)]; exact a14_19
  have a16_20 : ad16 20 = q20 := by rw [ha16, va_up_ne _ _ (by decide)]; exact a14_20
  have a16_21 : ad16 21 = q21 := by rw [ha16, va_up_ne _ _ (by decide)]; exact a14_21
  have a16_22 : ad16 22 = q22 := by rw [ha16, va_up_ne _ _ (by decide)]; exact a14_22
  have a16_23 : ad16 23 = q23 := by rw [ha16, va_up_ne _ _ (by decide)]; exact a14_23
  have a16_24 : ad16 24 = q24 := by rw [ha16, va_up_ne _ _ (by decide)]; exact a14_24
  have a16_25 : ad16 25 = q25 := by rw [ha16, va_up_ne _ _ (by decide)]; exact a14_25
  have a16_26 : ad16 26 = q26 := by rw [ha16, va_up_ne _ _ (by decide)]; exact a14_26
  have a16_27 : ad16 27 = q27 := by rw [ha16, va_up_self]
  refine wv_adr2 a16_18 ?_
  refine wv_putF hx hb h 18 (by decide) (fs := [.ref (q19), .ref (q21), .ref (q22), .ref (q23), .ref (q24), .ref (q25), .ref (q26), .null, .null, .null, .null, .null, .null, .null]) u16_18 hts (fun w hw => List.mem_cons_of_mem _ (fW_Cv w hw)) fY_Cv fK_Cv fN_Cv hown (ci := 0) (C := "NonceBox$Curve") (T := fT_Cv) (N := 14) rfl 7 (by decide) (hts _ (List.mem_cons_of_mem _ kf_Cv_46)) rfl rfl (hini rfl) rfl (v := .ref (q27)) rfl rfl (Nat.le_of_ble_eq_true rfl) d_Cv_init_92 (fun H locs h => ?_)
  have h : wT G A 28 ad16 (va_up ev16 18 (eO 0 [.ref (q19), .ref (q21), .ref (q22), .ref (q23), .ref (q24), .ref (q25), .ref (q26), .ref (q27), .null, .null, .null, .null, .null, .null])) s H locs := h
  obtain ⟨ev17, o17⟩ : ∃ z, z = va_up ev16 18 (eO 0 [.ref (q19), .ref (q21), .ref (q22), .ref (q23), .ref (q24), .ref (q25), .ref (q26), .ref (q27), .null, .null, .null, .null, .null, .null]) := ⟨_, rfl⟩
  rw [← o17] at h
  have u17_19 : ev17 19 = eO 1 [.int (nI (10)), .int (nI (21)), .long (19), .long (608), .ref (q20)] := by rw [o17, va_up_ne _ _ (by decide)]; exact u16_19
  have u17_20 : ev17 20 = eJ G 20 (fun _ => 0) := by rw [o17, va_up_ne _ _ (by decide)]; exact u16_20
  have u17_21 : ev17 21 = eB G 32 (fun _ => 0) := by rw [o17, va_up_ne _ _ (by decide)]; exact u16_21
  have u17_22 : ev17 22 = eJ G 10 (fun _ => 0) := by rw [o17, va_up_ne _ _ (by decide)]; exact u16_22
  have u17_23 : ev17 23 = eJ G 10 (fun _ => 0) := by rw [o17, va_up_ne _ _ (by decide)]; exact u16_23
  have u17_24 : ev17 24 = eJ G 10 (fun _ => 0) := by rw [o17, va_up_ne _ _ (by decide)]; exact u16_24
  have u17_25 : ev17 25 = eJ G 10 (fun _ => 0) := by rw [o17, va_up_ne _ _ (by decide)]; exact u16_25
  have u17_26 : ev17 26 = eJ G 10 (fun _ => 0) := by rw [o17, va_up_ne _ _ (by decide)]; exact u16_26
  have u17_27 : ev17 27 = eJ G 10 (fun _ => 0) := by rw [o17, va_up_ne _ _ (by decide)]; exact u16_27
  have u17_18 : ev17 18 = eO 0 [.ref (q19), .ref (q21), .ref (q22), .ref (q23), .ref (q24), .ref (q25), .ref (q26), .ref (q27), .null, .null, .null, .null, .null, .null] := by rw [o17, va_up_self]
  refine lv_aload_n hx hb d_Cv_init_95 rfl (lv_at hl 0 rfl) ?_
  refine lv_aload_n hx hb d_Cv_init_96 rfl (lv_at hl 0 rfl) ?_
  refine wv_adr1 a16_18 ?_
  refine wv_getf hx hb h 18 (by decide) (fs := [.ref (q19), .ref (q21), .ref (q22), .ref (q23), .ref (q24), .ref (q25), .ref (q26), .ref (q27), .null, .null, .null, .null, .null, .null]) u17_18 hts (fun w hw => List.mem_cons_of_mem _ (fW_Cv w hw)) hown (ci := 0) (C := "NonceBox$Curve") (T := fT_Cv) (N := 14) rfl 0 (by decide) (hts _ (List.mem_cons_of_mem _ kf_Cv_16)) rfl (v := .ref (q19)) rfl d_Cv_init_97 ?_
  refine wv_adr1 a16_19 ?_
  refine wv_Vn (As := []) (rest := [.ref (b)]) (k := 0) ⟨hx, hb, hml, hown, hts⟩ h 19 (by decide) (C := "NonceBox$Field") u17_19 rfl (n_newRow10 l G A ad16 ev17 28 19 q20 (by decide) u17_19) kc_Fd_newRow kl_Cv_26 km_Fd_newRow kv_Fd_newRow ki_Fd (by decide +kernel) ⟨rfl, rfl, Nat.le_of_ble_eq_true rfl, Nat.le_of_ble_eq_true rfl⟩ hl.1 rfl rfl (Nat.le_of_ble_eq_true rfl) ⟨Nat.le_of_ble_eq_true rfl, Nat.le_of_ble_eq_true rfl⟩ d_Cv_init_100 ?_
  intro ov nx adx evx H locs hp h
  obtain ⟨q28, ho, hn, ha, he⟩ := hp
  rw [ho]
  subst hn
  rw [ha, he] at h
  refine W.eq (g2 := F0 m 103 ls [.ref (q28), .ref (b)]) rfl ?_
  obtain ⟨ev18, o18⟩ : ∃ z, z = va_up ev17 28 (eJ G 10 (fun _ => 0)) := ⟨_, rfl⟩
  rw [← o18] at h
  have u18_18 : ev18 18 = eO 0 [.ref (q19), .ref (q21), .ref (q22), .ref (q23), .ref (q24), .ref (q25), .ref (q26), .ref (q27), .null, .null, .null, .null, .null, .null] := by rw [o18, va_up_ne _ _ (by decide)]; exact u17_18
  have u18_19 : ev18 19 = eO 1 [.int (nI (10)), .int (nI (21)), .long (19), .long (608), .ref (q20)] := by rw [o18, va_up_ne _ _ (by decide)]; exact u17_19
  have u18_20 : ev18 20 = eJ G 20 (fun _ => 0) := by rw [o18, va_up_ne _ _ (by decide)]; exact u17_20
  have u18_21 : ev18 21 = eB G 32 (fun _ => 0) := by rw [o18, va_up_ne _ _ (by decide)]; exact u17_21
  have u18_22 : ev18 22 = eJ G 10 (fun _ => 0) := by rw [o18, va_up_ne _ _ (by decide)]; exact u17_22
  have u18_23 : ev18 23 = eJ G 10 (fun _ => 0) := by rw [o18, va_up_ne _ _ (by decide)]; exact u17_23
  have u18_24 : ev18 24 = eJ G 10 (fun _ => 0) := by rw [o18, va_up_ne _ _ (by decide)]; exact u17_24
  have u18_25 : ev18 25 = eJ G 10 (fun _ => 0) := by rw [o18, va_up_ne _ _ (by decide)]; exact u17_25
  have u18_26 : ev18 26 = eJ G 10 (fun _ => 0) := by rw [o18, va_up_ne _ _ (by decide)]; exact u17_26
  have u18_27 : ev18 27 = eJ G 10 (fun _ => 0) := by rw [o18, va_up_ne _ _ (by decide)]; exact u17_27
  have u18_28 : ev18 28 = eJ G 10 (fun _ => 0) := by rw [o18, va_up_self]
  obtain ⟨ad18, ha18⟩ : ∃ z, z = va_up ad16 28 q28 := ⟨_, rfl⟩
  rw [← ha18] at h
  have a18_18 : ad18 18 = b := by rw [ha18, va_up_ne _ _ (by decide)]; exact a16_18
  have a18_19 : ad18 19 = q19 := by rw [ha18, va_up_ne _ _ (by decide)]; exact a16_19
  have a18_20 : ad18 20 = q20 := by rw [ha18, va_up_ne _ _ (by decide)]; exact a16_20
  have a18_21 : ad18 21 = q21 := by rw [ha18, va_up_ne _ _ (by decide)]; exact a16_21
  have a18_22 : ad18 22 = q22 := by rw [ha18, va_up_ne _ _ (by decide)]; exact a16_22
  have a18_23 : ad18 23 = q23 := by rw [ha18, va_up_ne _ _ (by decide)]; exact a16_23
  have a18_24 : ad18 24 = q24 := by rw [ha18, va_up_ne _ _ (by decide)]; exact a16_24
  have a18_25 : ad18 25 = q25 := by rw [ha18, va_up_ne _ _ (by decide)]; exact a16_25
  have a18_26 : ad18 26 = q26 := by rw [ha18, va_up_ne _ _ (by decide)]; exact a16_26
  have a18_27 : ad18 27 = q27 := by rw [ha18, va_up_ne _ _ (by decide)]; exact a16_27
  have a18_28 : ad18 28 = q28 := by rw [ha18, va_up_self]
  refine wv_adr2 a18_18 ?_
  refine wv_putF hx hb h 18 (by decide) (fs := [.ref (q19), .ref (q21), .ref (q22), .ref (q23), .ref (q24), .ref (q25), .ref (q26), .ref (q27), .null, .null, .null, .null, .null, .null]) u18_18 hts (fun w hw => List.mem_cons_of_mem _ (fW_Cv w hw)) fY_Cv fK_Cv fN_Cv hown (ci := 0) (C := "NonceBox$Curve") (T := fT_Cv) (N := 14) rfl 8 (by decide) (hts _ (List.mem_cons_of_mem _ kf_Cv_49)) rfl rfl (hini rfl) rfl (v := .ref (q28)) rfl rfl (Nat.le_of_ble_eq_true rfl) d_Cv_init_103 (fun H locs h => ?_)
  have h : wT G A 29 ad18 (va_up ev18 18 (eO 0 [.ref (q19), .ref (q21), .ref (q22), .ref (q23), .ref (q24), .ref (q25), .ref (q26), .ref (q27), .ref (q28), .null, .null, .null, .null, .null])) s H locs := h
  obtain ⟨ev19, o19⟩ : ∃ z, z = va_up ev18 18 (eO 0 [.ref (q19), .ref (q21), .ref (q22), .ref (q23), .ref (q24), .ref (q25), .ref (q26), .ref (q27), .ref (q28), .null, .null, .null, .null, .null]) := ⟨_, rfl⟩
  rw [← o19] at h
  have u19_19 : ev19 19 = eO 1 [.int (nI (10)), .int (nI (21)), .long (19), .long (608), .ref (q20)] := by rw [o19, va_up_ne _ _ (by decide)]; exact u18_19
  have u19_20 : ev19 20 = eJ G 20 (fun _ => 0) := by rw [o19, va_up_ne _ _ (by decide)]; exact u18_20
  have u19_21 : ev19 21 = eB G 32 (fun _ => 0) := by rw [o19, va_up_ne _ _ (by decide)]; exact u18_21
  have u19_22 : ev19 22 = eJ G 10 (fun _ => 0) := by rw [o19, va_up_ne _ _ (by decide)]; exact u18_22
  have u19_23 : ev19 23 = eJ G 10 (fun _ => 0) := by rw [o19, va_up_ne _ _ (by decide)]; exact u18_23
  have u19_24 : ev19 24 = eJ G 10 (fun _ => 0) := by rw [o19, va_up_ne _ _ (by decide)]; exact u18_24
  have u19_25 : ev19 25 = eJ G 10 (fun _ => 0) := by rw [o19, va_up_ne _ _ (by decide)]; exact u18_25
  have u19_26 : ev19 26 = eJ G 10 (fun _ => 0) := by rw [o19, va_up_ne _ _ (by decide)]; exact u18_26
  have u19_27 : ev19 27 = eJ G 10 (fun _ => 0) := by rw [o19, va_up_ne _ _ (by decide)]; exact u18_27
  have u19_28 : ev19 28 = eJ G 10 (fun _ => 0) := by rw [o19, va_up_ne _ _ (by decide)]; exact u18_28
  have u19_18 : ev19 18 = eO 0 [.ref (q19), .ref (q21), .ref (q22), .ref (q23), .ref (q24), .ref (q25), .ref (q26), .ref (q27), .ref (q28), .null, .null, .null, .null, .null] := by rw [o19, va_up_self]
  refine lv_aload_n hx hb d_Cv_init_106 rfl (lv_at hl 0 rfl) ?_
  refine lv_aload_n hx hb d_Cv_init_107 rfl (lv_at hl 0 rfl) ?_
  refine wv_adr1 a18_18 ?_
  refine wv_getf hx hb h 18 (by decide) (fs := [.ref (q19), .ref (q21), .ref (q22), .ref (q23), .ref (q24), .ref (q25), .ref (q26), .ref (q27), .ref (q28), .null, .null, .null, .null, .null]) u19_18 hts (fun w hw => List.mem_cons_of_mem _ (fW_Cv w hw)) hown (ci := 0) (C := "NonceBox$Curve") (T := fT_Cv) (N := 14) rfl 0 (by decide) (hts _ (List.mem_cons_of_mem _ kf_Cv_16)) rfl (v := .ref (q19)) rfl d_Cv_init_108 ?_
  refine wv_adr1 a18_19 ?_
  refine wv_Vn (As := []) (rest := [.ref (b)]) (k := 0) ⟨hx, hb, hml, hown, hts⟩ h 19 (by decide) (C := "NonceBox$Field") u19_19 rfl (n_newRow10 l G A ad18 ev19 29 19 q20 (by decide) u19_19) kc_Fd_newRow kl_Cv_26 km_Fd_newRow kv_Fd_newRow ki_Fd (by decide +kernel) ⟨rfl, rfl, Nat.le_of_ble_eq_true rfl, Nat.le_of_ble_eq_true rfl⟩ hl.1 rfl rfl (Nat.le_of_ble_eq_true rfl) ⟨Nat.le_of_ble_eq_true rfl, Nat.le_of_ble_eq_true rfl⟩ d_Cv_init_111 ?_
  intro ov nx adx evx H locs hp h
  obtain ⟨q29, ho, hn, ha, he⟩ := hp
  rw [ho]
  subst hn
  rw [ha, he] at h
  refine W.eq (g2 := F0 m 114 ls [.ref (q29), .ref (b)]) rfl ?_
  obtain ⟨ev20, o20⟩ : ∃ z, z = va_up ev19 29 (eJ G 10 (fun _ => 0)) := ⟨_, rfl⟩
  rw [← o20] at h
  have u20_18 : ev20 18 = eO 0 [.ref (q19), .ref (q21), .ref (q22), .ref (q23), .ref (q24), .ref (q25), .ref (q26), .ref (q27), .ref (q28), .null, .null, .null, .null, .null] := by rw [o20, va_up_ne _ _ (by decide)]; exact u19_18
  have u20_19 : ev20 19 = eO 1 [.int (nI (10)), .int (nI (21)), .long (19), .long (608), .ref (q20)] := by rw [o20, va_up_ne _ _ (by decide)]; exact u19_19
  have u20_20 : ev20 20 = eJ G 20 (fun _ => 0) := by rw [o20, va_up_ne _ _ (by decide)]; exact u19_20
  have u20_21 : ev20 21 = eB G 32 (fun _ => 0) := by rw [o20, va_up_ne _ _ (by decide)]; exact u19_21
  have u20_22 : ev20 22 = eJ G 10 (fun _ => 0) := by rw [o20, va_up_ne _ _ (by decide)]; exact u19_22
  have u20_23 : ev20 23 = eJ G 10 (fun _ => 0) := by rw [o20, va_up_ne _ _ (by decide)]; exact u19_23
  have u20_24 : ev20 24 = eJ G 10 (fun _ => 0) := by rw [o20, va_up_ne _ _ (by decide)]; exact u19_24
  have u20_25 : ev20 25 = eJ G 10 (fun _ => 0) := by rw [o20, va_up_ne _ _ (by decide)]; exact u19_25
  have u20_26 : ev20 26 = eJ G 10 (fun _ => 0) := by rw [o20, va_up_ne _ _ (by decide)]; exact u19_26
  have u20_27 : ev20 27 = eJ G 10 (fun _ => 0) := by rw [o20, va_up_ne _ _ (by decide)]; exact u19_27
  have u20_28 : ev20 28 = eJ G 10 (fun _ => 0) := by rw [o20, va_up_ne _ _ (by decide)]; exact u19_28
  have u20_29 : ev20 29 = eJ G 10 (fun _ => 0) := by rw [o20, va_up_self]
  obtain ⟨ad20, ha20⟩ : ∃ z, z = va_up ad18 29 q29 := ⟨_, rfl⟩
  rw [← ha20] at h
  have a20_18 : ad20 18 = b := by rw [ha20, va_up_ne _ _ (by decide)]; exact a18_18
  have a20_19 : ad20 19 = q19 := by rw [ha20, va_up_ne _ _ (by decide)]; exact a18_19
  have a20_20 : ad20 20 = q20 := by rw [ha20, va_up_ne _ _ (by decide)]; exact a18_20
  have a20_21 : ad20 21 = q21 := by rw [ha20, va_up_ne _ _ (by decide)]; exact a18_21
  have a20_22 : ad20 22 = q22 := by rw [ha20, va_up_ne _ _ (by decide)]; exact a18_22
  have a20_23 : ad20 23 = q23 := by rw [ha20, va_up_ne _ _ (by decide)]; exact a18_23
  have a20_24 : ad20 24 = q24 := by rw [ha20, va_up_ne _ _ (by decide)]; exact a18_24
  have a20_25 : ad20 25 = q25 := by rw [ha20, va_up_ne _ _ (by decide)]; exact a18_25
  have a20_26 : ad20 26 = q26 := by rw [ha20, va_up_ne _ _ (by decide)]; exact a18_26
  have a20_27 : ad20 27 = q27 := by rw [ha20, va_up_ne _ _ (by decide)]; exact a18_27
  have a20_28 : ad20 28 = q28 := by rw [ha20, va_up_ne _ _ (by decide)]; exact a18_28
  have a20_29 : ad20 29 = q29 := by rw [ha20, va_up_self]
  refine wv_adr2 a20_18 ?_
  refine wv_putF hx hb h 18 (by decide) (fs := [.ref (q19), .ref (q21), .ref (q22), .ref (q23), .ref (q24), .ref (q25), .ref (q26), .ref (q27), .ref (q28), .null, .null, .null, .null, .null]) u20_18 hts (fun w hw => List.mem_cons_of_mem _ (fW_Cv w hw)) fY_Cv fK_Cv fN_Cv hown (ci := 0) (C := "NonceBox$Curve") (T := fT_Cv) (N := 14) rfl 9 (by decide) (hts _ (List.mem_cons_of_mem _ kf_Cv_52)) rfl rfl (hini rfl) rfl (v := .ref (q29)) rfl rfl (Nat.le_of_ble_eq_true rfl) d_Cv_init_114 (fun H locs h => ?_)
  have h : wT G A 30 ad20 (va_up ev20 18 (eO 0 [.ref (q19), .ref (q21), .ref (q22), .ref (q23), .ref (q24), .ref (q25), .ref (q26), .ref (q27), .ref (q28), .ref (q29), .null, .null, .null, .null])) s H locs := h
  obtain ⟨ev21, o21⟩ : ∃ z, z = va_up ev20 18 (eO 0 [.ref (q19), .ref (q21), .ref (q22), .ref (q23), .ref (q24), .ref (q25), .ref (q26), .ref (q27), .ref (q28), .ref (q29), .null, .null, .null, .null]) := ⟨_, rfl⟩
  rw [← o21] at h
  have u21_19 : ev21 19 = eO 1 [.int (nI (10)), .int (nI (21)), .long (19), .long (608), .ref (q20)] := by rw [o21, va_up_ne _ _ (by decide)]; exact u20_19
  have u21_20 : ev21 20 = eJ G 20 (fun _ => 0) := by rw [o21, va_up_ne _ _ (by decide)]; exact u20_20
  have u21_21 : ev21 21 = eB G 32 (fun _ => 0) := by rw [o21, va_up_ne _ _ (by decide)]; exact u20_21
  have u21_22 : ev21 22 = eJ G 10 (fun _ => 0) := by rw [o21, va_up_ne _ _ (by decide)]; exact u20_22
  have u21_23 : ev21 23 = eJ G 10 (fun _ => 0) := by rw [o21, va_up_ne _ _ (by decide)]; exact u20_23
  have u21_24 : ev21 24 = eJ G 10 (fun _ => 0) := by rw [o21, va_up_ne _ _ (by decide)]; exact u20_24
  have u21_25 : ev21 25 = eJ G 10 (fun _ => 0) := by rw [o21, va_up_ne _ _ (by decide)]; exact u20_25
  have u21_26 : ev21 26 = eJ G 10 (fun _ => 0) := by rw [o21, va_up_ne _ _ (by decide)]; exact u20_26
  have u21_27 : ev21 27 = eJ G 10 (fun _ => 0) := by rw [o21, va_up_ne _ _ (by decide)]; exact u20_27
  have u21_28 : ev21 28 = eJ G 10 (fun _ => 0) := by rw [o21, va_up_ne _ _ (by decide)]; exact u20_28
  have u21_29 : ev21 29 = eJ G 10 (fun _ => 0) := by rw [o21, va_up_ne _ _ (by decide)]; exact u20_29
  have u21_18 : ev21 18 = eO 0 [.ref (q19), .ref (q21), .ref (q22), .ref (q23), .ref (q24), .ref (q25), .ref (q26), .ref (q27), .ref (q28), .ref (q29), .null, .null, .null, .null] := by rw [o21, va_up_self]
  refine lv_aload_n hx hb d_Cv_init_117 rfl (lv_at hl 0 rfl) ?_
  refine lv_aload_n hx hb d_Cv_init_118 rfl (lv_at hl 0 rfl) ?_
  refine wv_adr1 a20_18 ?_
  refine wv_getf hx hb h 18 (by decide) (fs := [.ref (q19), .ref (q21), .ref (q22), .ref (q23), .ref (q24), .ref (q25), .ref (q26), .ref (q27), .ref (q28), .ref (q29), .null, .null, .null, .null]) u21_18 hts (fun w hw => List.mem_cons_of_mem _ (fW_Cv w hw)) hown (ci := 0) (C := "NonceBox$Curve") (T := fT_Cv) (N := 14) rfl 0 (by decide) (hts _ (List.mem_cons_of_mem _ kf_Cv_16)) rfl (v := .ref (q19)) rfl d_Cv_init_119 ?_
  refine wv_adr1 a20_19 ?_
  refine wv_Vn (As := []) (rest := [.ref (b)]) (k := 0) ⟨hx, hb, hml, hown, hts⟩ h 19 (by decide) (C := "NonceBox$Field") u21_19 rfl (n_newRow10 l G A ad20 ev21 30 19 q20 (by decide) u21_19) kc_Fd_newRow kl_Cv_26 km_Fd_newRow kv_Fd_newRow ki_Fd (by decide +kernel) ⟨rfl, rfl, Nat.le_of_ble_eq_true rfl, Nat.le_of_ble_eq_true rfl⟩ hl.1 rfl rfl (Nat.le_of_ble_eq_true rfl) ⟨Nat.le_of_ble_eq_true rfl, Nat.le_of_ble_eq_true rfl⟩ d_Cv_init_122 ?_
  intro ov nx adx evx H locs hp h
  obtain ⟨q30, ho, hn, ha, he⟩ := hp
  rw [ho]
  subst hn
  rw [ha, he] at h
  refine W.eq (g2 := F0 m 125 ls [.ref (q30), .ref (b)]) rfl ?_
  obtain ⟨ev22, o22⟩ : ∃ z, z = va_up ev21 30 (eJ G 10 (fun _ => 0)) := ⟨_, rfl⟩
  rw [← o22] at h
  have u22_18 : ev22 18 = eO 0 [.ref (q19), .ref (q21), .ref (q22), .ref (q23), .ref (q24), .ref (q25), .ref (q26), .ref (q27), .ref (q28), .ref (q29), .null, .null, .null, .null] := by rw [o22, va_up_ne _ _ (by decide)]; exact u21_18
  have u22_19 : ev22 19 = eO 1 [.int (nI (10)), .int (nI (21)), .long (19), .long (608), .ref (q20)] := by rw [o22, va_up_ne _ _ (by decide)]; exact u21_19
  have u22_20 : ev22 20 = eJ G 20 (fun _ => 0) := by rw [o22, va_up_ne _ _ (by decide)]; exact u21_20
  have u22_21 : ev22 21 = eB G 32 (fun _ => 0) := by rw [o22, va_up_ne _ _ (by decide)]; exact u21_21
  have u22_22 : ev22 22 = eJ G 10 (fun _ => 0) := by rw [o22, va_up_ne _ _ (by decide)]; exact u21_22
  have u22_23 : ev22 23 = eJ G 10 (fun _ => 0) := by rw [o22, va_up_ne _ _ (by decide)]; exact u21_23
  have u22_24 : ev22 24 = eJ G 10 (fun _ => 0) := by rw [o22, va_up_ne _ _ (by decide)]; exact u21_24
  have u22_25 : ev22 25 = eJ G 10 (fun _ => 0) := by rw [o22, va_up_ne _ _ (by decide)]; exact u21_25
  have u22_26 : ev22 26 = eJ G 10 (fun _ => 0) := by rw [o22, va_up_ne _ _ (by decide)]; exact u21_26
  have u22_27 : ev22 27 = eJ G 10 (fun _ => 0) := by rw [o22, va_up_ne _ _ (by decide)]; exact u21_27
  have u22_28 : ev22 28 = eJ G 10 (fun _ => 0) := by rw [o22, va_up_ne _ _ (by decide)]; exact u21_28
  have u22_29 : ev22 29 = eJ G 10 (fun _ => 0) := by rw [o22, va_up_ne _ _ (by decide)]; exact u21_29
  have u22_30 : ev22 30 = eJ G 10 (fun _ => 0) := by rw [o22, va_up_self]
  obtain ⟨ad22, ha22⟩ : ∃ z, z = va_up ad20 30 q30 := ⟨_, rfl⟩
  rw [← ha22] at h
  have a22_18 : ad22 18 = b := by rw [ha22, va_up_ne _ _ (by decide)]; exact a20_18
  have a22_19 : ad22 19 = q19 := by rw [ha22, va_up_ne _ _ (by decide)]; exact a20_19
  have a22_20 : ad22 20 = q20 := by rw [ha22, va_up_ne _ _ (by decide)]; exact a20_20
  have a22_21 : ad22 21 = q21 := by rw [ha22, va_up_ne _ _ (by decide)]; exact a20_21
  have a22_22 : ad22 22 = q22 := by rw [ha22, va_up_ne _ _ (by decide)]; exact a20_22
  have a22_23 : ad22 23 = q23 := by rw [ha22, va_up_ne _ _ (by decide)]; exact a20_23
  have a22_24 : ad22 24 = q24 := by rw [ha22, va_up_ne _ _ (by decide)]; exact a20_24
  have a22_25 : ad22 25 = q25 := by rw [ha22, va_up_ne _ _ (by decide)]; exact a20_25
  have a22_26 : ad22 26 = q26 := by rw [ha22, va_up_ne _ _ (by decide)]; exact a20_26
  have a22_27 : ad22 27 = q27 := by rw [ha22, va_up_ne _ _ (by decide)]; exact a20_27
  have a22_28 : ad22 28 = q28 := by rw [ha22, va_up_ne _ _ (by decide)]; exact a20_28
  have a22_29 : ad22 29 = q29 := by rw [ha22, va_up_ne _ _ (by decide)]; exact a20_29
  have a22_30 : ad22 30 = q30 := by rw [ha22, va_up_self]
  refine wv_adr2 a22_18 ?_
  refine wv_putF hx hb h 18 (by decide) (fs := [.ref (q19), .ref (q21), .ref (q22), .ref (q23), .ref (q24), .ref (q25), .ref (q26), .ref (q27), .ref (q28), .ref (q29), .null, .null, .null, .null]) u22_18 hts (fun w hw => List.mem_cons_of_mem _ (fW_Cv w hw)) fY_Cv fK_Cv fN_Cv hown (ci := 0) (C := "NonceBox$Curve") (T := fT_Cv) (N := 14) rfl 10 (by decide) (hts _ (List.mem_cons_of_mem _ kf_Cv_55)) rfl rfl (hini rfl) rfl (v := .ref (q30)) rfl rfl (Nat.le_of_ble_eq_true rfl) d_Cv_init_125 (fun H locs h => ?_)
  have h : wT G A 31 ad22 (va_up ev22 18 (eO 0 [.ref (q19), .ref (q21), .ref (q22), .ref (q23), .ref (q24), .ref (q25), .ref (q26), .ref (q27), .ref (q28), .ref (q29), .ref (q30), .null, .null, .null])) s H locs := h
  obtain ⟨ev23, o23⟩ : ∃ z, z = va_up ev22 18 (eO 0 [.ref (q19), .ref (q21), .ref (q22), .ref (q23), .ref (q24), .ref (q25), .ref (q26), .ref (q27), .ref (q28), .ref (q29), .ref (q30), .null, .null, .null]) := ⟨_, rfl⟩
  rw [← o23] at h
  have u23_19 : ev23 19 = eO 1 [.int (nI (10)), .int (nI (21)), .long (19), .long (608), .ref (q20)] := by rw [o23, va_up_ne _ _ (by decide)]; exact u22_19
  have u23_20 : ev23 20 = eJ G 20 (fun _ => 0) := by rw [o23, va_up_ne _ _ (by decide)]; exact u22_20
  have u23_21 : ev23 21 = eB G 32 (fun _ => 0) := by rw [o23, va_up_ne _ _ (by decide)]; exact u22_21
  have u23_22 : ev23 22 = eJ G 10 (fun _ => 0) := by rw [o23, va_up_ne _ _ (by decide)]; exact u22_22
  have u23_23 : ev23 23 = eJ G 10 (fun _ => 0) := by rw [o23, va_up_ne _ _ (by decide)]; exact u22_23
  have u23_24 : ev23 24 = eJ G 10 (fun _ => 0) := by rw [o23, va_up_ne _ _ (by decide)]; exact u22_24
  have u23_25 : ev23 25 = eJ G 10 (fun _ => 0) := by rw [o23, va_up_ne _ _ (by decide)]; exact u22_25
  have u23_26 : ev23 26 = eJ G 10 (fun _ => 0) := by rw [o23, va_up_ne _ _ (by decide)]; exact u22_26
  have u23_27 : ev23 27 = eJ G 10 (fun _ => 0) := by rw [o23, va_up_ne _ _ (by decide)]; exact u22_27
  have u23_28 : ev23 28 = eJ G 10 (fun _ => 0) := by rw [o23, va_up_ne _ _ (by decide)]; exact u22_28
  have u23_29 : ev23 29 = eJ G 10 (fun _ => 0) := by rw [o23, va_up_ne _ _ (by decide)]; exact u22_29
  have u23_30 : ev23 30 = eJ G 10 (fun _ => 0) := by rw [o23, va_up_ne _ _ (by decide)]; exact u22_30
  have u23_18 : ev23 18 = eO 0 [.ref (q19), .ref (q21), .ref (q22), .ref (q23), .ref (q24), .ref (q25), .ref (q26), .ref (q27), .ref (q28), .ref (q29), .ref (q30), .null, .null, .null] := by rw [o23, va_up_self]
  refine lv_aload_n hx hb d_Cv_init_128 rfl (lv_at hl 0 rfl) ?_
  refine lv_aload_n hx hb d_Cv_init_129 rfl (lv_at hl 0 rfl) ?_
  refine wv_adr1 a22_18 ?_
  refine wv_getf hx hb h 18 (by decide) (fs := [.ref (q19), .ref (q21), .ref (q22), .ref (q23), .ref (q24), .ref (q25), .ref (q26), .ref (q27), .ref (q28), .ref (q29), .ref (q30), .null, .null, .null]) u23_18 hts (fun w hw => List.mem_cons_of_mem _ (fW_Cv w hw)) hown (ci := 0) (C := "NonceBox$Curve") (T := fT_Cv) (N := 14) rfl 0 (by decide) (hts _ (List.mem_cons_of_mem _ kf_Cv_16)) rfl (v := .ref (q19)) rfl d_Cv_init_130 ?_
  refine wv_adr1 a22_19 ?_
  refine wv_Vn (As := []) (rest := [.ref (b)]) (k := 0) ⟨hx, hb, hml, hown, hts⟩ h 19 (by decide) (C := "NonceBox$Field") u23_19 rfl (n_newRow10 l G A ad22 ev23 31 19 q20 (by decide) u23_19) kc_Fd_newRow kl_Cv_26 km_Fd_newRow kv_Fd_newRow ki_Fd (by decide +kernel) ⟨rfl, rfl, Nat.le_of_ble_eq_true rfl, Nat.le_of_ble_eq_true rfl⟩ hl.1 rfl rfl (Nat.le_of_ble_eq_true rfl) ⟨Nat.le_of_ble_eq_true rfl, Nat.le_of_ble_eq_true rfl⟩ d_Cv_init_133 ?_
  intro ov nx adx evx H locs hp h
  obtain ⟨q31, ho, hn, ha, he⟩ := hp
  rw [ho]
  subst hn
  rw [ha, he] at h
  refine W.eq (g2 := F0 m 136 ls [.ref (q31), .ref (b)]) rfl ?_
  obtain ⟨ev24, o24⟩ : ∃ z, z = va_up ev23 31 (eJ G 10 (fun _ => 0)) := ⟨_, rfl⟩
  rw [← o24] at h
  have u24_18 : ev24 18 = eO 0 [.ref (q19), .ref (q21), .ref (q22), .ref (q23), .ref (q24), .ref (q25), .ref (q26), .ref (q27), .ref (q28), .ref (q29), .ref (q30), .null, .null, .null] := by rw [o24, va_up_ne _ _ (by decide)]; exact u23_18
  have u24_19 : ev24 19 = eO 1 [.int (nI (10)), .int (nI (21)), .long (19), .long (608), .ref (q20)] := by rw [o24, va_up_ne _ _ (by decide)]; exact u23_19
  have u24_20 : ev24 20 = eJ G 20 (fun _ => 0) := by rw [o24, va_up_ne _ _ (by decide)]; exact u23_20
  have u24_21 : ev24 21 = eB G 32 (fun _ => 0) := by rw [o24, va_up_ne _ _ (by decide)]; exact u23_21
  have u24_22 : ev24 22 = eJ G 10 (fun _ => 0) := by rw [o24, va_up_ne _ _ (by decide)]; exact u23_22
  have u24_23 : ev24 23 = eJ G 10 (fun _ => 0) := by rw [o24, va_up_ne _ _ (by decide)]; exact u23_23
  have u24_24 : ev24 24 = eJ G 10 (fun _ => 0) := by rw [o24, va_up_ne _ _ (by decide)]; exact u23_24
  have u24_25 : ev24 25 = eJ G 10 (fun _ => 0) := by rw [o24, va_up_ne _ _ (by decide)]; exact u23_25
  have u24_26 : ev24 26 = eJ G 10 (fun _ => 0) := by rw [o24, va_up_ne _ _ (by decide)]; exact u23_26
  have u24_27 : ev24 27 = eJ G 10 (fun _ => 0) := by rw [o24, va_up_ne _ _ (by decide)]; exact u23_27
  have u24_28 : ev24 28 = eJ G 10 (fun _ => 0) := by rw [o24, va_up_ne _ _ (by decide)]; exact u23_28
  have u24_29 : ev24 29 = eJ G 10 (fun _ => 0) := by rw [o24, va_up_ne _ _ (by decide)]; exact u23_29
  have u24_30 : ev24 30 = eJ G 10 (fun _ => 0) := by rw [o24, va_up_ne _ _ (by decide)]; exact u23_30
  have u24_31 : ev24 31 = eJ G 10 (fun _ => 0) := by rw [o24, va_up_self]
  obtain ⟨ad24, ha24⟩ : ∃ z, z = va_up ad22 31 q31 := ⟨_, rfl⟩
  rw [← ha24] at h
  have a24_18 : ad24 18 = b := by rw [ha24, va_up_ne _ _ (by decide)]; exact a22_18
  have a24_19 : ad24 19 = q19 := by rw [ha24, va_up_ne _ _ (by decide)]; exact a22_19
  have a24_20 : ad24 20 = q20 := by rw [ha24, va_up_ne _ _ (by decide)]; exact a22_20
  have a24_21 : ad24 21 = q21 := by rw [ha24, va_up_ne _ _ (by decide)]; exact a22_21
  have a24_22 : ad24 22 = q22 := by rw [ha24, va_up_ne _ _ (by decide)]; exact a22_22
  have a24_23 : ad24 23 = q23 := by rw [ha24, va_up_ne _ _ (by decide)]; exact a22_23
  have a24_24 : ad24 24 = q24 := by rw [ha24, va_up_ne _ _ (by decide)]; exact a22_24
  have a24_25 : ad24 25 = q25 := by rw [ha24, va_up_ne _ _ (by decide)]; exact a22_25
  have a24_26 : ad24 26 = q26 := by rw [ha24, va_up_ne _ _ (by decide)]; exact a22_26
  have a24_27 : ad24 27 = q27 := by rw [ha24, va_up_ne _ _ (by decide)]; exact a22_27
  have a24_28 : ad24 28 = q28 := by rw [ha24, va_up_ne _ _ (by decide)]; exact a22_28
  have a24_29 : ad24 29 = q29 := by rw [ha24, va_up_ne _ _ (by decide)]; exact a22_29
  have a24_30 : ad24 30 = q30 := by rw [ha24, va_up_ne _ _ (by decide)]; exact a22_30
  have a24_31 : ad24 31 = q31 := by rw [ha24, va_up_self]
  refine wv_adr2 a24_18 ?_
  refine wv_putF hx hb h 18 (by decide) (fs := [.ref (q19), .ref (q21), .ref (q22), .ref (q23), .ref (q24), .ref (q25), .ref (q26), .ref (q27), .ref (q28), .ref (q29), .ref (q30), .null, .null, .null]) u24_18 hts (fun w hw => List.mem_cons_of_mem _ (fW_Cv w hw)) fY_Cv fK_Cv fN_Cv hown (ci := 0) (C := "NonceBox$Curve") (T := fT_Cv) (N := 14) rfl 11 (by decide) (hts _ (List.mem_cons_of_mem _ kf_Cv_58)) rfl rfl (hini rfl) rfl (v := .ref (q31)) rfl rfl (Nat.le_of_ble_eq_true rfl) d_Cv_init_136 (fun H locs h => ?_)
  have h : wT G A 32 ad24 (va_up ev24 18 (eO 0 [.ref (q19), .ref (q21), .ref (q22), .ref (q23), .ref (q24), .ref (q25), .ref (q26), .ref (q27), .ref (q28), .ref (q29), .ref (q30), .ref (q31), .null, .null])) s H locs := h
  obtain ⟨ev25, o25⟩ : ∃ z, z = va_up ev24 18 (eO 0 [.ref (q19), .ref (q21), .ref (q22), .ref (q23), .ref (q24), .ref (q25), .ref (q26), .ref (q27), .ref (q28), .ref (q29), .ref (q30), .ref (q31), .null, .null]) := ⟨_, rfl⟩
  rw [← o25] at h
  have u25_19 : ev25 19 = eO 1 [.int (nI (10)), .int (nI (21)), .long (19), .long (608), .ref (q20)] := by rw [o25, va_up_ne _ _ (by decide)]; exact u24_19
  have u25_20 : ev25 20 = eJ G 20 (fun _ => 0) := by rw [o25, va_up_ne _ _ (by decide)]; exact u24_20
  have u25_21 : ev25 21 = eB G 32 (fun _ => 0) := by rw [o25, va_up_ne _ _ (by decide)]; exact u24_21
  have u25_22 : ev25 22 = eJ G 10 (fun _ => 0) := by rw [o25, va_up_ne _ _ (by decide)]; exact u24_22
  have u25_23 : ev25 23 = eJ G 10 (fun _ => 0) := by rw [o25, va_up_ne _ _ (by decide)]; exact u24_23
  have u25_24 : ev25 24 = eJ G 10 (fun _ => 0) := by rw [o25, va_up_ne _ _ (by decide)]; exact u24_24
  have u25_25 : ev25 25 = eJ G 10 (fun _ => 0) := by rw [o25, va_up_ne _ _ (by decide)]; exact u24_25
  have u25_26 : ev25 26 = eJ G 10 (fun _ => 0) := by rw [o25, va_up_ne _ _ (by decide)]; exact u24_26
  have u25_27 : ev25 27 = eJ G 10 (fun _ => 0) := by rw [o25, va_up_ne _ _ (by decide)]; exact u24_27
  have u25_28 : ev25 28 = eJ G 10 (fun _ => 0) := by rw [o25, va_up_ne _ _ (by decide)]; exact u24_28
  have u25_29 : ev25 29 = eJ G 10 (fun _ => 0) := by rw [o25, va_up_ne _ _ (by decide)]; exact u24_29
  have u25_30 : ev25 30 = eJ G 10 (fun _ => 0) := by rw [o25, va_up_ne _ _ (by decide)]; exact u24_30
  have u25_31 : ev25 31 = eJ G 10 (fun _ => 0) := by rw [o25, va_up_ne _ _ (by decide)]; exact u24_31
  have u25_18 : ev25 18 = eO 0 [.ref (q19), .ref (q21), .ref (q22), .ref (q23), .ref (q24), .ref (q25), .ref (q26), .ref (q27), .ref (q28), .ref (q29), .ref (q30), .ref (q31), .null, .null] := by rw [o25, va_up_self]
  refine lv_aload_n hx hb d_Cv_init_139 rfl (lv_at hl 0 rfl) ?_
  refine lv_aload_n hx hb d_Cv_init_140 rfl (lv_at hl 0 rfl) ?_
  refine wv_adr1 a24_18 ?_
  refine wv_getf hx hb h 18 (by decide) (fs := [.ref (q19), .ref (q21), .ref (q22), .ref (q23), .ref (q24), .ref (q25), .ref (q26), .ref (q27), .ref (q28), .ref (q29), .ref (q30), .ref (q31), .null, .null]) u25_18 hts (fun w hw => List.mem_cons_of_mem _ (fW_Cv w hw)) hown (ci := 0) (C := "NonceBox$Curve") (T := fT_Cv) (N := 14) rfl 0 (by decide) (hts _ (List.mem_cons_of_mem _ kf_Cv_16)) rfl (v := .ref (q19)) rfl d_Cv_init_141 ?_
  refine wv_adr1 a24_19 ?_
  refine wv_Vn (As := []) (rest := [.ref (b)]) (k := 0) ⟨hx, hb, hml, hown, hts⟩ h 19 (by decide) (C := "NonceBox$Field") u25_19 rfl (n_newRow10 l G A ad24 ev25 32 19 q20 (by decide) u25_19) kc_Fd_newRow kl_Cv_26 km_Fd_newRow kv_Fd_newRow ki_Fd (by decide +kernel) ⟨rfl, rfl, Nat.le_of_ble_eq_true rfl, Nat.le_of_ble_eq_true rfl⟩ hl.1 rfl rfl (Nat.le_of_ble_eq_true rfl) ⟨Nat.le_of_ble_eq_true rfl, Nat.le_of_ble_eq_true rfl⟩ d_Cv_init_144 ?_
  intro ov nx adx evx H locs hp h
  obtain ⟨q32, ho, hn, ha, he⟩ := hp
  rw [ho]
  subst hn
  rw [ha, he] at h
  refine W.eq (g2 := F0 m 147 ls [.ref (q32), .ref (b)]) rfl ?_
  obtain ⟨ev26, o26⟩ : ∃ z, z = va_up ev25 32 (eJ G 10 (fun _ => 0)) := ⟨_, rfl⟩
  rw [← o26] at h
  have u26_18 : ev26 18 = eO 0 [.ref (q19), .ref (q21), .ref (q22), .ref (q23), .ref (q24), .ref (q25), .ref (q26), .ref (q27), .ref (q28), .ref (q29), .ref (q30), .ref (q31), .null, .null] := by rw [o26, va_up_ne _ _ (by decide)]; exact u25_18
  have u26_19 : ev26 19 = eO 1 [.int (nI (10)), .int (nI (21)), .long (19), .long (608), .ref (q20)] := by rw [o26, va_up_ne _ _ (by decide)]; exact u25_19
  have u26_20 : ev26 20 = eJ G 20 (fun _ => 0) := by rw [o26, va_up_ne _ _ (by decide)]; exact u25_20
  have u26_21 : ev26 21 = eB G 32 (fun _ => 0) := by rw [o26, va_up_ne _ _ (by decide)]; exact u25_21
  have u26_22 : ev26 22 = eJ G 10 (fun _ => 0) := by rw [o26, va_up_ne _ _ (by decide)]; exact u25_22
  have u26_23 : ev26 23 = eJ G 10 (fun _ => 0) := by rw [o26, va_up_ne _ _ (by decide)]; exact u25_23
  have u26_24 : ev26 24 = eJ G 10 (fun _ => 0) := by rw [o26, va_up_ne _ _ (by decide)]; exact u25_24
  have u26_25 : ev26 25 = eJ G 10 (fun _ => 0) := by rw [o26, va_up_ne _ _ (by decide)]; exact u25_25
  have u26_26 : ev26 26 = eJ G 10 (fun _ => 0) := by rw [o26, va_up_ne _ _ (by decide)]; exact u25_26
  have u26_27 : ev26 27 = eJ G 10 (fun _ => 0) := by rw [o26, va_up_ne _ _ (by decide)]; exact u25_27
  have u26_28 : ev26 28 = eJ G 10 (fun _ => 0) := by rw [o26, va_up_ne _ _ (by decide)]; exact u25_28
  have u26_29 : ev26 29 = eJ G 10 (fun _ => 0) := by rw [o26, va_up_ne _ _ (by decide)]; exact u25_29
  have u26_30 : ev26 30 = eJ G 10 (fun _ => 0) := by rw [o26, va_up_ne _ _ (by decide)]; exact u25_30
  have u26_31 : ev26 31 = eJ G 10 (fun _ => 0) := by rw [o26, va_up_ne _ _ (by decide)]; exact u25_31
  have u26_32 : ev26 32 = eJ G 10 (fun _ => 0) := by rw [o26, va_up_self]
  obtain ⟨ad26, ha26⟩ : ∃ z, z = va_up ad24 32 q32 := ⟨_, rfl⟩
  rw [← ha26] at h
  have a26_18 : ad26 18 = b := by rw [ha26, va_up_ne _ _ (by decide)]; exact a24_18
  have a26_19 : ad26 19 = q19 := by rw [ha26, va_up_ne _ _ (by decide)]; exact a24_19
  have a26_20 : ad26 20 = q20 := by rw [ha26, va_up_ne _ _ (by decide)]; exact a24_20
  have a26_21 : ad26 21 = q21 := by rw [ha26, va_up_ne _ _ (by decide)]; exact a24_21
  have a26_22 : ad26 22 = q22 := by rw [ha26, va_up_ne _ _ (by decide)]; exact a24_22
  have a26_23 : ad26 23 = q23 := by rw [ha26, va_up_ne _ _ (by decide)]; exact a24_23
  have a26_24 : ad26 24 = q24 := by rw [ha26, va_up_ne _ _ (by decide)]; exact a24_24
  have a26_25 : ad26 25 = q25 := by rw [ha26, va_up_ne _ _ (by decide)]; exact a24_25
  have a26_26 : ad26 26 = q26 := by rw [ha26, va_up_ne _ _ (by decide)]; exact a24_26
  have a26_27 : ad26 27 = q27 := by rw [ha26, va_up_ne _ _ (by decide)]; exact a24_27
  have a26_28 : ad26 28 = q28 := by rw [ha26, va_up_ne _ _ (by decide)]; exact a24_28
  have a26_29 : ad26 29 = q29 := by rw [ha26, va_up_ne _ _ (by decide)]; exact a24_29
  have a26_30 : ad26 30 = q30 := by rw [ha26, va_up_ne _ _ (by decide)]; exact a24_30
  have a26_31 : ad26 31 = q31 := by rw [ha26, va_up_ne _ _ (by decide)]; exact a24_31
  have a26_32 : ad26 32 = q32 := by rw [ha26, va_up_self]
  refine wv_adr2 a26_18 ?_
  refine wv_putF hx hb h 18 (by decide) (fs := [.ref (q19), .ref (q21), .ref (q22), .ref (q23), .ref (q24), .ref (q25), .ref (q26), .ref (q27), .ref (q28), .ref (q29), .ref (q30), .ref (q31), .null, .null]) u26_18 hts (fun w hw => List.mem_cons_of_mem _ (fW_Cv w hw)) fY_Cv fK_Cv fN_Cv hown (ci := 0) (C := "NonceBox$Curve") (T := fT_Cv) (N := 14) rfl 12 (by decide) (hts _ (List.mem_cons_of_mem _ kf_Cv_61)) rfl rfl (hini rfl) rfl (v := .ref (q32)) rfl rfl (Nat.le_of_ble_eq_true rfl) d_Cv_init_147 (fun H locs h => ?_)
  have h : wT G A 33 ad26 (va_up ev26 18 (eO 0 [.ref (q19), .ref (q21), .ref (q22), .ref (q23), .ref (q24), .ref (q25), .ref (q26), .ref (q27), .ref (q28), .ref (q29), .ref (q30), .ref (q31), .ref (q32), .null])) s H locs := h
  obtain ⟨ev27, o27⟩ : ∃ z, z = va_up ev26 18 (eO 0 [.ref (q19), .ref (q21), .ref (q22), .ref (q23), .ref (q24), .ref (q25), .ref (q26), .ref (q27), .ref (q28), .ref (q29), .ref (q30), .ref (q31), .ref (q32), .null]) := ⟨_, rfl⟩
  rw [← o27] at h
  have u27_19 : ev27 19 = eO 1 [.int (nI (10)), .int (nI (21)), .long (19), .long (608), .ref (q20)] := by rw [o27, va_up_ne _ _ (by decide)]; exact u26_19
  have u27_20 : ev27 20 = eJ G 20 (fun _ => 0) := by rw [o27, va_up_ne _ _ (by decide)]; exact u26_20
  have u27_21 : ev27 21 = eB G 32 (fun _ => 0) := by rw [o27, va_up_ne _ _ (by decide)]; exact u26_21
  have u27_22 : ev27 22 = eJ G 10 (fun _ => 0) := by rw [o27, va_up_ne _ _ (by decide)]; exact u26_22
  have u27_23 : ev27 23 = eJ G 10 (fun _ => 0) := by rw [o27, va_up_ne _ _ (by decide)]; exact u26_23
  have u27_24 : ev27 24 = eJ G 10 (fun _ => 0) := by rw [o27, va_up_ne _ _ (by decide)]; exact u26_24
  have u27_25 : ev27 25 = eJ G 10 (fun _ => 0) := by rw [o27, va_up_ne _ _ (by decide)]; exact u26_25
  have u27_26 : ev27 26 = eJ G 10 (fun _ => 0) := by rw [o27, va_up_ne _ _ (by decide)]; exact u26_26
  have u27_27 : ev27 27 = eJ G 10 (fun _ => 0) := by rw [o27, va_up_ne _ _ (by decide)]; exact u26_27
  have u27_28 : ev27 28 = eJ G 10 (fun _ => 0) := by rw [o27, va_up_ne _ _ (by decide)]; exact u26_28
  have u27_29 : ev27 29 = eJ G 10 (fun _ => 0) := by rw [o27, va_up_ne _ _ (by decide)]; exact u26_29
  have u27_30 : ev27 30 = eJ G 10 (fun _ => 0) := by rw [o27, va_up_ne _ _ (by decide)]; exact u26_30
  have u27_31 : ev27 31 = eJ G 10 (fun _ => 0) := by rw [o27, va_up_ne _ _ (by decide)]; exact u26_31
  have u27_32 : ev27 32 = eJ G 10 (fun _ => 0) := by rw [o27, va_up_ne _ _ (by decide)]; exact u26_32
  have u27_18 : ev27 18 = eO 0 [.ref (q19), .ref (q21), .ref (q22), .ref (q23), .ref (q24), .ref (q25), .ref (q26), .ref (q27), .ref (q28), .ref (q29), .ref (q30), .ref (q31), .ref (q32), .null] := by rw [o27, va_up_self]
  refine lv_aload_n hx hb d_Cv_init_150 rfl (lv_at hl 0 rfl) ?_
  refine lv_aload_n hx hb d_Cv_init_151 rfl (lv_at hl 0 rfl) ?_
  refine wv_adr1 a26_18 ?_
  refine wv_getf hx hb h 18 (by decide) (fs := [.ref (q19), .ref (q21), .ref (q22), .ref (q23), .ref (q24), .ref (q25), .ref (q26), .ref (q27), .ref (q28), .ref (q29), .ref (q30), .ref (q31), .ref (q32), .null]) u27_18 hts (fun w hw => List.mem_cons_of_mem _ (fW_Cv w hw)) hown (ci := 0) (C := "NonceBox$Curve") (T := fT_Cv) (N := 14) rfl 0 (by decide) (hts _ (List.mem_cons_of_mem _ kf_Cv_16)) rfl (v := .ref (q19)) rfl d_Cv_init_152 ?_
  refine wv_adr1 a26_19 ?_
  refine wv_Vn (As := []) (rest := [.ref (b)]) (k := 0) ⟨hx, hb, hml, hown, hts⟩ h 19 (by decide) (C := "NonceBox$Field") u27_19 rfl (n_newRow10 l G A ad26 ev27 33 19 q20 (by decide) u27_19) kc_Fd_newRow kl_Cv_26 km_Fd_newRow kv_Fd_newRow ki_Fd (by decide +kernel) ⟨rfl, rfl, Nat.le_of_ble_eq_true rfl, Nat.le_of_ble_eq_true rfl⟩ hl.1 rfl rfl (Nat.le_of_ble_eq_true rfl) ⟨Nat.le_of_ble_eq_true rfl, Nat.le_of_ble_eq_true rfl⟩ d_Cv_init_155 ?_
  intro ov nx adx evx H locs hp h
  obtain ⟨q33, ho, hn, ha, he⟩ := hp
  rw [ho]
  subst hn
  rw [ha, he] at h
  refine W.eq (g2 := F0 m 158 ls [.ref (q33), .ref (b)]) rfl ?_
  obtain ⟨ev28, o28⟩ : ∃ z, z = va_up ev27 33 (eJ G 10 (fun _ => 0)) := ⟨_, rfl⟩
  rw [← o28] at h
  have u28_18 : ev28 18 = eO 0 [.ref (q19), .ref (q21), .ref (q22), .ref (q23), .ref (q24), .ref (q25), .ref (q26), .ref (q27), .ref (q28), .ref (q29), .ref (q30), .ref (q31), .ref (q32), .null] := by rw [o28, va_up_ne _ _ (by decide)]; exact u27_18
  have u28_19 : ev28 19 = eO 1 [.int (nI (10)), .int (nI (21)), .long (19), .long (608), .ref (q20)] := by rw [o28, va_up_ne _ _ (by decide)]; exact u27_19
  have u28_20 : ev28 20 = eJ G 20 (fun _ => 0) := by rw [o28, va_up_ne _ _ (by decide)]; exact u27_20
  have u28_21 : ev28 21 = eB G 32 (fun _ => 0) := by rw [o28, va_up_ne _ _ (by decide)]; exact u27_21
  have u28_22 : ev28 22 = eJ G 10 (fun _ => 0) := by rw [o28, va_up_ne _ _ (by decide)]; exact u27_22
  have u28_23 : ev28 23 = eJ G 10 (fun _ => 0) := by rw [o28, va_up_ne _ _ (by decide)]; exact u27_23
  have u28_24 : ev28 24 = eJ G 10 (fun _ => 0) := by rw [o28, va_up_ne _ _ (by decide)]; exact u27_24
  have u28_25 : ev28 25 = eJ G 10 (fun _ => 0) := by rw [o28, va_up_ne _ _ (by decide)]; exact u27_25
  have u28_26 : ev28 26 = eJ G 10 (fun _ => 0) := by rw [o28, va_up_ne _ _ (by decide)]; exact u27_26
  have u28_27 : ev28 27 = eJ G 10 (fun _ => 0) := by rw [o28, va_up_ne _ _ (by decide)]; exact u27_27
  have u28_28 : ev28 28 = eJ G 10 (fun _ => 0) := by rw [o28, va_up_ne _ _ (by decide)]; exact u27_28
  have u28_29 : ev28 29 = eJ G 10 (fun _ => 0) := by rw [o28, va_up_ne _ _ (by decide)]; exact u27_29
  have u28_30 : ev28 30 = eJ G 10 (fun _ => 0) := by rw [o28, va_up_ne _ _ (by decide)]; exact u27_30
  have u28_31 : ev28 31 = eJ G 10 (fun _ => 0) := by rw [o28, va_up_ne _ _ (by decide)]; exact u27_31
  have u28_32 : ev28 32 = eJ G 10 (fun _ => 0) := by rw [o28, va_up_ne _ _ (by decide)]; exact u27_32
  have u28_33 : ev28 33 = eJ G 10 (fun _ => 0) := by rw [o28, va_up_self]
  obtain ⟨ad28, ha28⟩ : ∃ z, z = va_up ad26 33 q33 := ⟨_, rfl⟩
  rw [← ha28] at h
  have a28_18 : ad28 18 = b := by rw [ha28, va_up_ne _ _ (by decide)]; exact a26_18
  have a28_19 : ad28 19 = q19 := by rw [ha28, va_up_ne _ _ (by decide)]; exact a26_19
  have a28_20 : ad28 20 = q20 := by rw [ha28, va_up_ne _ _ (by decide)]; exact a26_20
  have a28_21 : ad28 21 = q21 := by rw [ha28, va_up_ne _ _ (by decide)]; exact a26_21
  have a28_22 : ad28 22 = q22 := by rw [ha28, va_up_ne _ _ (by decide)]; exact a26_22
  have a28_23 : ad28 23 = q23 := by rw [ha28, va_up_ne _ _ (by decide)]; exact a26_23
  have a28_24 : ad28 24 = q24 := by rw [ha28, va_up_ne _ _ (by decide)]; exact a26_24
  have a28_25 : ad28 25 = q25 := by rw [ha28, va_up_ne _ _ (by decide)]; exact a26_25
  have a28_26 : ad28 26 = q26 := by rw [ha28, va_up_ne _ _ (by decide)]; exact a26_26
  have a28_27 : ad28 27 = q27 := by rw [ha28, va_up_ne _ _ (by decide)]; exact a26_27
  have a28_28 : ad28 28 = q28 := by rw [ha28, va_up_ne _ _ (by decide)]; exact a26_28
  have a28_29 : ad28 29 = q29 := by rw [ha28, va_up_ne _ _ (by decide)]; exact a26_29
  have a28_30 : ad28 30 = q30 := by rw [ha28, va_up_ne _ _ (by decide)]; exact a26_30
  have a28_31 : ad28 31 = q31 := by rw [ha28, va_up_ne _ _ (by decide)]; exact a26_31
  have a28_32 : ad28 32 = q32 := by rw [ha28, va_up_ne _ _ (by decide)]; exact a26_32
  have a28_33 : ad28 33 = q33 := by rw [ha28, va_up_self]
  refine wv_adr2 a28_18 ?_
  refine wv_putF hx hb h 18 (by decide) (fs := [.ref (q19), .ref (q21), .ref (q22), .ref (q23), .ref (q24), .ref (q25), .ref (q26), .ref (q27), .ref (q28), .ref (q29), .ref (q30), .ref (q31), .ref (q32), .null]) u28_18 hts (fun w hw => List.mem_cons_of_mem _ (fW_Cv w hw)) fY_Cv fK_Cv fN_Cv hown (ci := 0) (C := "NonceBox$Curve") (T := fT_Cv) (N := 14) rfl 13 (by decide) (hts _ (List.mem_cons_of_mem _ kf_Cv_64)) rfl rfl (hini rfl) rfl (v := .ref (q33)) rfl rfl (Nat.le_of_ble_eq_true rfl) d_Cv_init_158 (fun H locs h => ?_)
  have h : wT G A 34 ad28 (va_up ev28 18 (eO 0 [.ref (q19), .ref (q21), .ref (q22), .ref (q23), .ref (q24), .ref (q25), .ref (q26), .ref (q27), .ref (q28), .ref (q29), .ref (q30), .ref (q31), .ref (q32), .ref (q33)])) s H locs := h
  obtain ⟨ev29, o29⟩ : ∃ z, z = va_up ev28 18 (eO 0 [.ref (q19), .ref (q21), .ref (q22), .ref (q23), .ref (q24), .ref (q25), .ref (q26), .ref (q27), .ref (q28), .ref (q29), .ref (q30), .ref (q31), .ref (q32), .ref (q33)]) := ⟨_, rfl⟩
  rw [← o29] at h
  have u29_19 : ev29 19 = eO 1 [.int (nI (10)), .int (nI (21)), .long (19), .long (608), .ref (q20)] := by rw [o29, va_up_ne _ _ (by decide)]; exact u28_19
  have u29_20 : ev29 20 = eJ G 20 (fun _ => 0) := by rw [o29, va_up_ne _ _ (by decide)]; exact u28_20
  have u29_21 : ev29 21 = eB G 32 (fun _ => 0) := by rw [o29, va_up_ne _ _ (by decide)]; exact u28_21
  have u29_22 : ev29 22 = eJ G 10 (fun _ => 0) := by rw [o29, va_up_ne _ _ (by decide)]; exact u28_22
  have u29_23 : ev29 23 = eJ G 10 (fun _ => 0) := by rw [o29, va_up_ne _ _ (by decide)]; exact u28_23
  have u29_24 : ev29 24 = eJ G 10 (fun _ => 0) := by rw [o29, va_up_ne _ _ (by decide)]; exact u28_24
  have u29_25 : ev29 25 = eJ G 10 (fun _ => 0) := by rw [o29, va_up_ne _ _ (by decide)]; exact u28_25
  have u29_26 : ev29 26 = eJ G 10 (fun _ => 0) := by rw [o29, va_up_ne _ _ (by decide)]; exact u28_26
  have u29_27 : ev29 27 = eJ G 10 (fun _ => 0) := by rw [o29, va_up_ne _ _ (by decide)]; exact u28_27
  have u29_28 : ev29 28 = eJ G 10 (fun _ => 0) := by rw [o29, va_up_ne _ _ (by decide)]; exact u28_28
  have u29_29 : ev29 29 = eJ G 10 (fun _ => 0) := by rw [o29, va_up_ne _ _ (by decide)]; exact u28_29
  have u29_30 : ev29 30 = eJ G 10 (fun _ => 0) := by rw [o29, va_up_ne _ _ (by decide)]; exact u28_30
  have u29_31 : ev29 31 = eJ G 10 (fun _ => 0) := by rw [o29, va_up_ne _ _ (by decide)]; exact u28_31
  have u29_32 : ev29 32 = eJ G 10 (fun _ => 0) := by rw [o29, va_up_ne _ _ (by decide)]; exact u28_32
  have u29_33 : ev29 33 = eJ G 10 (fun _ => 0) := by rw [o29, va_up_ne _ _ (by decide)]; exact u28_33
  have u29_18 : ev29 18 = eO 0 [.ref (q19), .ref (q21), .ref (q22), .ref (q23), .ref (q24), .ref (q25), .ref (q26), .ref (q27), .ref (q28), .ref (q29), .ref (q30), .ref (q31), .ref (q32), .ref (q33)] := by rw [o29, va_up_self]
  exact wv_nret hx hb hr hlocks h d_Cv_init_161 ⟨rfl, rfl, (fun k hk => by rw [ha28, va_up_ne _ _ (by omega), ha26, va_up_ne _ _ (by omega), ha24, va_up_ne _ _ (by omega), ha22, va_up_ne _ _ (by omega), ha20, va_up_ne _ _ (by omega), ha18, va_up_ne _ _ (by omega), ha16, va_up_ne _ _ (by omega), ha14, va_up_ne _ _ (by omega), ha12, va_up_ne _ _ (by omega), ha10, va_up_ne _ _ (by omega), ha8, va_up_ne _ _ (by omega), ha6, va_up_ne _ _ (by omega), ha4, va_up_ne _ _ (by omega), hA2 k (by omega), ha1, va_up_ne _ _ (by omega)]), (fun k hk => by rw [o29, va_up_ne _ _ (by omega), o28, va_up_ne _ _ (by omega), o27, va_up_ne _ _ (by omega), o26, va_up_ne _ _ (by omega), o25, va_up_ne _ _ (by omega), o24, va_up_ne _ _ (by omega), o23, va_up_ne _ _ (by omega), o22, va_up_ne _ _ (by omega), o21, va_up_ne _ _ (by omega), o20, va_up_ne _ _ (by omega), o19, va_up_ne _ _ (by omega), o18, va_up_ne _ _ (by omega), o17, va_up_ne _ _ (by omega), o16, va_up_ne _ _ (by omega), o15, va_up_ne _ _ (by omega), o14, va_up_ne _ _ (by omega), o13, va_up_ne _ _ (by omega), o12, va_up_ne _ _ (by omega), o11, va_up_ne _ _ (by omega), o10, va_up_ne _ _ (by omega), o9, va_up_ne _ _ (by omega), o8, va_up_ne _ _ (by omega), o7, va_up_ne _ _ (by omega), o6, va_up_ne _ _ (by omega), o5, va_up_ne _ _ (by omega), o4, va_up_ne _ _ (by omega), o3, va_up_ne _ _ (by omega), hE2 k (by omega), o1, va_up_ne _ _ (by omega)]), by rw [a28_19, a28_21, a28_22, a28_23, a28_24, a28_25, a28_26, a28_27, a28_28, a28_29, a28_30, a28_31, a28_32, a28_33]; exact u29_18, by rw [a28_20]; exact u29_19, u29_20, u29_21, u29_22, u29_23, u29_24, u29_25, u29_26, u29_27, u29_28, u29_29, u29_30, u29_31, u29_32, u29_33⟩
theorem d_NB_init_0 : decode c_NB_init 0 = .ok (.aload_n 0, 1) := by decide +kernel
theorem d_NB_init_1 : decode c_NB_init 1 = .ok (.invokespecial 1, 3) := by decide +kernel
theorem d_NB_init_4 : decode c_NB_init 4 = .ok (.aload_n 0, 1) := by decide +kernel
theorem d_NB_init_5 : decode c_NB_init 5 = .ok (.bipush 32, 2) := by decide +kernel
theorem d_NB_init_7 : decode c_NB_init 7 = .ok (.newarray .byte, 2) := by decide +kernel
theorem d_NB_init_9 : decode c_NB_init 9 = .ok (.putfield 9, 3) := by decide +kernel
theorem d_NB_init_12 : decode c_NB_init 12 = .ok (.aload_n 0, 1) := by decide +kernel
theorem d_NB_init_13 : decode c_NB_init 13 = .ok (.bipush 24, 2) := by decide +kernel
theorem d_NB_init_15 : decode c_NB_init 15 = .ok (.newarray .byte, 2) := by decide +kernel
theorem d_NB_init_17 : decode c_NB_init 17 = .ok (.putfield 13, 3) := by decide +kernel
theorem d_NB_init_20 : decode c_NB_init 20 = .ok (.aload_n 0, 1) := by decide +kernel
theorem d_NB_init_21 : decode c_NB_init 21 = .ok (.bipush 32, 2) := by decide +kernel
theorem d_NB_init_23 : decode c_NB_init 23 = .ok (.newarray .byte, 2) := by decide +kernel
theorem d_NB_init_25 : decode c_NB_init 25 = .ok (.putfield 16, 3) := by decide +kernel
theorem d_NB_init_28 : decode c_NB_init 28 = .ok (.aload_n 0, 1) := by decide +kernel
theorem d_NB_init_29 : decode c_NB_init 29 = .ok (.bipush 112, 2) := by decide +kernel
theorem d_NB_init_31 : decode c_NB_init 31 = .ok (.newarray .byte, 2) := by decide +kernel
theorem d_NB_init_33 : decode c_NB_init 33 = .ok (.putfield 19, 3) := by decide +kernel
theorem d_NB_init_36 : decode c_NB_init 36 = .ok (.aload_n 0, 1) := by decide +kernel
theorem d_NB_init_37 : decode c_NB_init 37 = .ok (.bipush 112, 2) := by decide +kernel
theorem d_NB_init_39 : decode c_NB_init 39 = .ok (.newarray .byte, 2) := by decide +kernel
theorem d_NB_init_41 : decode c_NB_init 41 = .ok (.putfield 22, 3) := by decide +kernel
theorem d_NB_init_44 : decode c_NB_init 44 = .ok (.aload_n 0, 1) := by decide +kernel
theorem d_NB_init_45 : decode c_NB_init 45 = .ok (.iconst 0, 1) := by decide +kernel
theorem d_NB_init_46 : decode c_NB_init 46 = .ok (.putfield 25, 3) := by decide +kernel
theorem d_NB_init_49 : decode c_NB_init 49 = .ok (.aload_n 0, 1) := by decide +kernel
theorem d_NB_init_50 : decode c_NB_init 50 = .ok (.iconst 0, 1) := by decide +kernel
theorem d_NB_init_51 : decode c_NB_init 51 = .ok (.putfield 29, 3) := by decide +kernel
theorem d_NB_init_54 : decode c_NB_init 54 = .ok (.aload_n 0, 1) := by decide +kernel
theorem d_NB_init_55 : decode c_NB_init 55 = .ok (.new 32, 3) := by decide +kernel
theorem d_NB_init_58 : decode c_NB_init 58 = .ok (.dup, 1) := by decide +kernel
theorem d_NB_init_59 : decode c_NB_init 59 = .ok (.invokespecial 34, 3) := by decide +kernel
theorem d_NB_init_62 : decode c_NB_init 62 = .ok (.putfield 35, 3) := by decide +kernel
theorem d_NB_init_65 : decode c_NB_init 65 = .ok (.aload_n 0, 1) := by decide +kernel
theorem d_NB_init_66 : decode c_NB_init 66 = .ok (.new 39, 3) := by decide +kernel
theorem d_NB_init_69 : decode c_NB_init 69 = .ok (.dup, 1) := by decide +kernel
theorem d_NB_init_70 : decode c_NB_init 70 = .ok (.invokespecial 41, 3) := by decide +kernel
theorem d_NB_init_73 : decode c_NB_init 73 = .ok (.putfield 42, 3) := by decide +kernel
theorem d_NB_init_76 : decode c_NB_init 76 = .ok (.aload_n 0, 1) := by decide +kernel
theorem d_NB_init_77 : decode c_NB_init 77 = .ok (.new 46, 3) := by decide +kernel
theorem d_NB_init_80 : decode c_NB_init 80 = .ok (.dup, 1) := by decide +kernel
theorem d_NB_init_81 : decode c_NB_init 81 = .ok (.invokespecial 48, 3) := by decide +kernel
theorem d_NB_init_84 : decode c_NB_init 84 = .ok (.putfield 49, 3) := by decide +kernel
theorem d_NB_init_87 : decode c_NB_init 87 = .ok (.aload_n 0, 1) := by decide +kernel
theorem d_NB_init_88 : decode c_NB_init 88 = .ok (.bipush 32, 2) := by decide +kernel
theorem d_NB_init_90 : decode c_NB_init 90 = .ok (.newarray .byte, 2) := by decide +kernel
theorem d_NB_init_92 : decode c_NB_init 92 = .ok (.putfield 53, 3) := by decide +kernel
theorem d_NB_init_95 : decode c_NB_init 95 = .ok (.aload_n 0, 1) := by decide +kernel
theorem d_NB_init_96 : decode c_NB_init 96 = .ok (.bipush 16, 2) := by decide +kernel
theorem d_NB_init_98 : decode c_NB_init 98 = .ok (.newarray .byte, 2) := by decide +kernel
theorem d_NB_init_100 : decode c_NB_init 100 = .ok (.putfield 56, 3) := by decide +kernel
theorem d_NB_init_103 : decode c_NB_init 103 = .ok (.aload_n 0, 1) := by decide +kernel
theorem d_NB_init_104 : decode c_NB_init 104 = .ok (.bipush 112, 2) := by decide +kernel
theorem d_NB_init_106 : decode c_NB_init 106 = .ok (.newarray .byte, 2) := by decide +kernel
theorem d_NB_init_108 : decode c_NB_init 108 = .ok (.putfield 59, 3) := by decide +kernel
theorem d_NB_init_111 : decode c_NB_init 111 = .ok (.return_, 1) := by decide +kernel
set_option maxRecDepth 100000 in
set_option maxHeartbeats 4000000 in
/-- NonceBox -/
theorem n_NB (l : Launch) (G : wG) (A : Nat → Prop) (ad : Nat → Nat) (ev : Nat → va_E) (b : Nat) (hab : ad 0 = b) (hev : ev 0 = eO 4 [.null, .null, .null, .null, .null, .int 0, .int 0, .null, .null, .null, .null, .null, .null]) : Met l y_NB_init w_NB_init ({ frames := 9, cells := 36, slots := 921, locals := 300 }) (wPk G A 1 ad ev [.ref b]) (wQn G A (fun ov n' ad' ev' => ov = none ∧ n' = 37 ∧ (∀ k, k ≤ 0 → ad' k = ad k) ∧ (∀ k, k < 0 → ev' k = ev k) ∧ ev' 0 = eO 4 [.ref (ad' 1), .ref (ad' 2), .ref (ad' 3), .ref (ad' 4), .ref (ad' 5), .int (nI (0)), .int (nI (0)), .ref (ad' 6), .ref (ad' 12), .ref (ad' 18), .ref (ad' 34), .ref (ad' 35), .ref (ad' 36)] ∧ ev' 1 = eB G 32 (fun _ => 0) ∧ ev' 2 = eB G 24 (fun _ => 0) ∧ ev' 3 = eB G 32 (fun _ => 0) ∧ ev' 4 = eB G 112 (fun _ => 0) ∧ ev' 5 = eB G 112 (fun _ => 0) ∧ ev' 6 = eO 2 [.ref (ad' 7), .ref (ad' 8), .ref (ad' 9), .ref (ad' 10), .ref (ad' 11)] ∧ ev' 7 = eI G 16 (fun _ => 0) ∧ ev' 8 = eI G 16 (fun _ => 0) ∧ ev' 9 = eB G 32 (fun _ => 0) ∧ ev' 10 = eB G 16 (fun _ => 0) ∧ ev' 11 = eB G 128 (fun _ => 0) ∧ ev' 12 = eO 3 [.ref (ad' 13), .ref (ad' 15), .ref (ad' 16), .ref (ad' 17)] ∧ ev' 13 = eO 1 [.int (nI (5)), .int (nI (26)), .long (5), .long (5), .ref (ad' 14)] ∧ ev' 14 = eJ G 10 (fun _ => 0) ∧ ev' 15 = eJ G 5 (fun _ => 0) ∧ ev' 16 = eJ G 5 (fun _ => 0) ∧ ev' 17 = eB G 16 (fun _ => 0) ∧ ev' 18 = eO 0 [.ref (ad' 19), .ref (ad' 21), .ref (ad' 22), .ref (ad' 23), .ref (ad' 24), .ref (ad' 25), .ref (ad' 26), .ref (ad' 27), .ref (ad' 28), .ref (ad' 29), .ref (ad' 30), .ref (ad' 31), .ref (ad' 32), .ref (ad' 33)] ∧ ev' 19 = eO 1 [.int (nI (10)), .int (nI (21)), .long (19), .long (608), .ref (ad' 20)] ∧ ev' 20 = eJ G 20 (fun _ => 0) ∧ ev' 21 = eB G 32 (fun _ => 0) ∧ ev' 22 = eJ G 10 (fun _ => 0) ∧ ev' 23 = eJ G 10 (fun _ => 0) ∧ ev' 24 = eJ G 10 (fun _ => 0) ∧ ev' 25 = eJ G 10 (fun _ => 0) ∧ ev' 26 = eJ G 10 (fun _ => 0) ∧ ev' 27 = eJ G 10 (fun _ => 0) ∧ ev' 28 = eJ G 10 (fun _ => 0) ∧ ev' 29 = eJ G 10 (fun _ => 0) ∧ ev' 30 = eJ G 10 (fun _ => 0) ∧ ev' 31 = eJ G 10 (fun _ => 0) ∧ ev' 32 = eJ G 10 (fun _ => 0) ∧ ev' 33 = eJ G 10 (fun _ => 0) ∧ ev' 34 = eB G 32 (fun _ => 0) ∧ ev' 35 = eB G 16 (fun _ => 0) ∧ ev' 36 = eB G 112 (fun _ => 0))) 36 921 A := by
  refine wv_ofWk (cc := c_NB_init) (maxL := 1) (ret := none) (by decide) rfl (Nat.le_of_ble_eq_true rfl) ?_
  intro p e s m below meth c ls hx hb hr hml hts hown hlocks hini h hl hN
  have hl : lv_has ls 1 [(0, .ref (b))] := hl
  refine lv_aload_n hx hb d_NB_init_0 rfl (lv_at hl 0 rfl) ?_
  refine wv_obj hx hb hown hts (List.mem_cons_of_mem _ kl_NB_1) (List.mem_cons_of_mem _ km_Ob_init) (List.mem_cons_of_mem _ kc_Ob_init) (by rw [hml]; exact hl.1) d_NB_init_1 (Nat.le_of_ble_eq_true rfl) (Nat.le_of_ble_eq_true rfl) ?_
  refine lv_aload_n hx hb d_NB_init_4 rfl (lv_at hl 0 rfl) ?_
  refine lv_bipush (v := nI (32)) hx hb d_NB_init_5 (by decide) ?_
  refine wv_newB hx hb (hts _ (List.mem_cons_of_mem _ ka_byte)) h (N := 32) rfl (by decide) (Nat.le_of_ble_eq_true rfl) (Nat.le_of_ble_eq_true rfl) d_NB_init_7 (fun q1 H h => ?_)
  obtain ⟨ev1, o1⟩ : ∃ z, z = va_up ev 1 (eB G 32 (fun _ => 0)) := ⟨_, rfl⟩
  rw [← o1] at h
  have u1_0 : ev1 0 = eO 4 [.null, .null, .null, .null, .null, .int 0, .int 0, .null, .null, .null, .null, .null, .null] := by rw [o1, va_up_ne _ _ (by decide)]; exact hev
  have u1_1 : ev1 1 = eB G 32 (fun _ => 0) := by rw [o1, va_up_self]
  obtain ⟨ad1, ha1⟩ : ∃ z, z = va_up ad 1 q1 := ⟨_, rfl⟩
  rw [← ha1] at h
  have a1_0 : ad1 0 = b := by rw [ha1, va_up_ne _ _ (by decide)]; exact hab
  have a1_1 : ad1 1 = q1 := by rw [ha1, va_up_self]
  refine wv_adr2 a1_0 ?_
  refine wv_putF hx hb h 0 (by decide) (fs := [.null, .null, .null, .null, .null, .int 0, .int 0, .null, .null, .null, .null, .null, .null]) u1_0 hts (fun w hw => List.mem_cons_of_mem _ (fW_NB w hw)) fY_NB fK_NB fN_NB hown (ci := 4) (C := "NonceBox") (T := fT_NB) (N := 13) rfl 0 (by decide) (hts _ (List.mem_cons_of_mem _ kf_NB_9)) rfl rfl (hini rfl) rfl (v := .ref (q1)) rfl rfl (Nat.le_of_ble_eq_true rfl) d_NB_init_9 (fun H locs h => ?_)
  have h : wT G A 2 ad1 (va_up ev1 0 (eO 4 [.ref (q1), .null, .null, .null, .null, .int 0, .int 0, .null, .null, .null, .null, .null, .null])) s H locs := h
  obtain ⟨ev2, o2⟩ : ∃ z, z = va_up ev1 0 (eO 4 [.ref (q1), .null, .null, .null, .null, .int 0, .int 0, .null, .null, .null, .null, .null, .null]) := ⟨_, rfl⟩
  rw [← o2] at h
  have u2_1 : ev2 1 = eB G 32 (fun _ => 0) := by rw [o2, va_up_ne _ _ (by decide)]; exact u1_1
  have u2_0 : ev2 0 = eO 4 [.ref (q1), .null, .null, .null, .null, .int 0, .int 0, .null, .null, .null, .null, .null, .null] := by rw [o2, va_up_self]
  refine lv_aload_n hx hb d_NB_init_12 rfl (lv_at hl 0 rfl) ?_
  refine lv_bipush (v := nI (24)) hx hb d_NB_init_13 (by decide) ?_
  refine wv_newB hx hb (hts _ (List.mem_cons_of_mem _ ka_byte)) h (N := 24) rfl (by decide) (Nat.le_of_ble_eq_true rfl) (Nat.le_of_ble_eq_true rfl) d_NB_init_15 (fun q2 H h => ?_)
  obtain ⟨ev3, o3⟩ : ∃ z, z = va_up ev2 2 (eB G 24 (fun _ => 0)) := ⟨_, rfl⟩
  rw [← o3] at h
  have u3_0 : ev3 0 = eO 4 [.ref (q1), .null, .null, .null, .null, .int 0, .int 0, .null, .null, .null, .null, .null, .null] := by rw [o3, va_up_ne _ _ (by decide)]; exact u2_0
  have u3_1 : ev3 1 = eB G 32 (fun _ => 0) := by rw [o3, va_up_ne _ _ (by decide)]; exact u2_1
  have u3_2 : ev3 2 = eB G 24 (fun _ => 0) := by rw [o3, va_up_self]
  obtain ⟨ad3, ha3⟩ : ∃ z, z = va_up ad1 2 q2 := ⟨_, rfl⟩
  rw [← ha3] at h
  have a3_0 : ad3 0 = b := by rw [ha3, va_up_ne _ _ (by decide)]; exact a1_0
  have a3_1 : ad3 1 = q1 := by rw [ha3, va_up_ne _ _ (by decide)]; exact a1_1
  have a3_2 : ad3 2 = q2 := by rw [ha3, va_up_self]
  refine wv_adr2 a3_0 ?_
  refine wv_putF hx hb h 0 (by decide) (fs := [.ref (q1), .null, .null, .null, .null, .int 0, .int 0, .null, .null, .null, .null, .null, .null]) u3_0 hts (fun w hw => List.mem_cons_of_mem _ (fW_NB w hw)) fY_NB fK_NB fN_NB hown (ci := 4) (C := "NonceBox") (T := fT_NB) (N := 13) rfl 1 (by decide) (hts _ (List.mem_cons_of_mem _ kf_NB_13)) rfl rfl (hini rfl) rfl (v := .ref (q2)) rfl rfl (Nat.le_of_ble_eq_true rfl) d_NB_init_17 (fun H locs h => ?_)
  have h : wT G A 3 ad3 (va_up ev3 0 (eO 4 [.ref (q1), .ref (q2), .null, .null, .null, .int 0, .int 0, .null, .null, .null, .null, .null, .null])) s H locs := h
  obtain ⟨ev4, o4⟩ : ∃ z, z = va_up ev3 0 (eO 4 [.ref (q1), .ref (q2), .null, .null, .null, .int 0, .int 0, .null, .null, .null, .null, .null, .null]) := ⟨_, rfl⟩
  rw [← o4] at h
  have u4_1 : ev4 1 = eB G 32 (fun _ => 0) := by rw [o4, va_up_ne _ _ (by decide)]; exact u3_1
  have u4_2 : ev4 2 = eB G 24 (fun _ => 0) := by rw [o4, va_up_ne _ _ (by decide)]; exact u3_2
  have u4_0 : ev4 0 = eO 4 [.ref (q1), .ref (q2), .null, .null, .null, .int 0, .int 0, .null, .null, .null, .null, .null, .null] := by rw [o4, va_up_self]
  refine lv_aload_n hx hb d_NB_init_20 rfl (lv_at hl 0 rfl) ?_
  refine lv_bipush (v := nI (32)) hx hb d_NB_init_21 (by decide) ?_
  refine wv_newB hx hb (hts _ (List.mem_cons_of_mem _ ka_byte)) h (N := 32) rfl (by decide) (Nat.le_of_ble_eq_true rfl) (Nat.le_of_ble_eq_true rfl) d_NB_init_23 (fun q3 H h => ?_)
  obtain ⟨ev5, o5⟩ : ∃ z, z = va_up ev4 3 (eB G 32 (fun _ => 0)) := ⟨_, rfl⟩
  rw [← o5] at h
  have u5_0 : ev5 0 = eO 4 [.ref (q1), .ref (q2), .null, .null, .null, .int 0, .int 0, .null, .null, .null, .null, .null, .null] := by rw [o5, va_up_ne _ _ (by decide)]; exact u4_0
  have u5_1 : ev5 1 = eB G 32 (fun _ => 0) := by rw [o5, va_up_ne _ _ (by decide)]; exact u4_1
  have u5_2 : ev5 2 = eB G 24 (fun _ => 0) := by rw [o5, va_up_ne _ _ (by decide)]; exact u4_2
  have u5_3 : ev5 3 = eB G 32 (fun _ => 0) := by rw [o5, va_up_self]
  obtain ⟨ad5, ha5⟩ : ∃ z, z = va_up ad3 3 q3 := ⟨_, rfl⟩
  rw [← ha5] at h
  have a5_0 : ad5 0 = b := by rw [ha5, va_up_ne _ _ (by decide)]; exact a3_0
  have a5_1 : ad5 1 = q1 := by rw [ha5, va_up_ne _ _ (by decide)]; exact a3_1
  have a5_2 : ad5 2 = q2 := by rw [ha5, va_up_ne _ _ (by decide)]; exact a3_2
  have a5_3 : ad5 3 = q3 := by rw [ha5, va_up_self]
  refine wv_adr2 a5_0 ?_
  refine wv_putF hx hb h 0 (by decide) (fs := [.ref (q1), .ref (q2), .null, .null, .null, .int 0, .int 0, .null, .null, .null, .null, .null, .null]) u5_0 hts (fun w hw => List.mem_cons_of_mem _ (fW_NB w hw)) fY_NB fK_NB fN_NB hown (ci := 4) (C := "NonceBox") (T := fT_NB) (N := 13) rfl 2 (by decide) (hts _ (List.mem_cons_of_mem _ kf_NB_16)) rfl rfl (hini rfl) rfl (v := .ref (q3)) rfl rfl (Nat.le_of_ble_eq_true rfl) d_NB_init_25 (fun H locs h => ?_)
  have h : wT G A 4 ad5 (va_up ev5 0 (eO 4 [.ref (q1), .ref (q2), .ref (q3), .null, .null, .int 0, .int 0, .null, .null, .null, .null, .null, .null])) s H locs := h
  obtain ⟨ev6, o6⟩ : ∃ z, z = va_up ev5 0 (eO 4 [.ref (q1), .ref (q2), .ref (q3), .null, .null, .int 0, .int 0, .null, .null, .null, .null, .null, .null]) := ⟨_, rfl⟩
  rw [← o6] at h
  have u6_1 : ev6 1 = eB G 32 (fun _ => 0) := by rw [o6, va_up_ne _ _ (by decide)]; exact u5_1
  have u6_2 : ev6 2 = eB G 24 (fun _ => 0) := by rw [o6, va_up_ne _ _ (by decide)]; exact u5_2
  have u6_3 : ev6 3 = eB G 32 (fun _ => 0) := by rw [o6, va_up_ne _ _ (by decide)]; exact u5_3
  have u6_0 : ev6 0 = eO 4 [.ref (q1), .ref (q2), .ref (q3), .null, .null, .int 0, .int 0, .null, .null, .null, .null, .null, .null] := by rw [o6, va_up_self]
  refine lv_aload_n hx hb d_NB_init_28 rfl (lv_at hl 0 rfl) ?_
  refine lv_bipush (v := nI (112)) hx hb d_NB_init_29 (by decide) ?_
  refine wv_newB hx hb (hts _ (List.mem_cons_of_mem _ ka_byte)) h (N := 112) rfl (by decide) (Nat.le_of_ble_eq_true rfl) (Nat.le_of_ble_eq_true rfl) d_NB_init_31 (fun q4 H h => ?_)
  obtain ⟨ev7, o7⟩ : ∃ z, z = va_up ev6 4 (eB G 112 (fun _ => 0)) := ⟨_, rfl⟩
  rw [← o7] at h
  have u7_0 : ev7 0 = eO 4 [.ref (q1), .ref (q2), .ref (q3), .null, .null, .int 0, .int 0, .null, .null, .null, .null, .null, .null] := by rw [o7, va_up_ne _ _ (by decide)]; exact u6_0
  have u7_1 : ev7 1 = eB G 32 (fun _ => 0) := by rw [o7, va_up_ne _ _ (by decide)]; exact u6_1
  have u7_2 : ev7 2 = eB G 24 (fun _ => 0) := by rw [o7, va_up_ne _ _ (by decide)]; exact u6_2
  have u7_3 : ev7 3 = eB G 32 (fun _ => 0) := by rw [o7, va_up_ne _ _ (by decide)]; exact u6_3
  have u7_4 : ev7 4 = eB G 112 (fun _ => 0) := by rw [o7, va_up_self]
  obtain ⟨ad7, ha7⟩ : ∃ z, z = va_up ad5 4 q4 := ⟨_, rfl⟩
  rw [← ha7] at h
  have a7_0 : ad7 0 = b := by rw [ha7, va_up_ne _ _ (by decide)]; exact a5_0
  have a7_1 : ad7 1 = q1 := by rw [ha7, va_up_ne _ _ (by decide)]; exact a5_1
  have a7_2 : ad7 2 = q2 := by rw [ha7, va_up_ne _ _ (by decide)]; exact a5_2
  have a7_3 : ad7 3 = q3 := by rw [ha7, va_up_ne _ _ (by decide)]; exact a5_3
  have a7_4 : ad7 4 = q4 := by rw [ha7, va_up_self]
  refine wv_adr2 a7_0 ?_
  refine wv_putF hx hb h 0 (by decide) (fs := [.ref (q1), .ref (q2), .ref (q3), .null, .null, .int 0, .int 0, .null, .null, .null, .null, .null, .null]) u7_0 hts (fun w hw => List.mem_cons_of_mem _ (fW_NB w hw)) fY_NB fK_NB fN_NB hown (ci := 4) (C := "NonceBox") (T := fT_NB) (N := 13) rfl 3 (by decide) (hts _ (List.mem_cons_of_mem _ kf_NB_19)) rfl rfl (hini rfl) rfl (v := .ref (q4)) rfl rfl (Nat.le_of_ble_eq_true rfl) d_NB_init_33 (fun H locs h => ?_)
  have h : wT G A 5 ad7 (va_up ev7 0 (eO 4 [.ref (q1), .ref (q2), .ref (q3), .ref (q4), .null, .int 0, .int 0, .null, .null, .null, .null, .null, .null])) s H locs := h
  obtain ⟨ev8, o8⟩ : ∃ z, z = va_up ev7 0 (eO 4 [.ref (q1), .ref (q2), .ref (q3), .ref (q4), .null, .int 0, .int 0, .null, .null, .null, .null, .null, .null]) := ⟨_, rfl⟩
  rw [← o8] at h
  have u8_1 : ev8 1 = eB G 32 (fun _ => 0) := by rw [o8, va_up_ne _ _ (by decide)]; exact u7_1
  have u8_2 : ev8 2 = eB G 24 (fun _ => 0) := by rw [o8, va_up_ne _ _ (by decide)]; exact u7_2
  have u8_3 : ev8 3 = eB G 32 (fun _ => 0) := by rw [o8, va_up_ne _ _ (by decide)]; exact u7_3
  have u8_4 : ev8 4 = eB G 112 (fun _ => 0) := by rw [o8, va_up_ne _ _ (by decide)]; exact u7_4
  have u8_0 : ev8 0 = eO 4 [.ref (q1), .ref (q2), .ref (q3), .ref (q4), .null, .int 0, .int 0, .null, .null, .null, .null, .null, .null] := by rw [o8, va_up_self]
  refine lv_aload_n hx hb d_NB_init_36 rfl (lv_at hl 0 rfl) ?_
  refine lv_bipush (v := nI (112)) hx hb d_NB_init_37 (by decide) ?_
  refine wv_newB hx hb (hts _ (List.mem_cons_of_mem _ ka_byte)) h (N := 112) rfl (by decide) (Nat.le_of_ble_eq_true rfl) (Nat.le_of_ble_eq_true rfl) d_NB_init_39 (fun q5 H h => ?_)
  obtain ⟨ev9, o9⟩ : ∃ z, z = va_up ev8 5 (eB G 112 (fun _ => 0)) := ⟨_, rfl⟩
  rw [← o9] at h
  have u9_0 : ev9 0 = eO 4 [.ref (q1), .ref (q2), .ref (q3), .ref (q4), .null, .int 0, .int 0, .null, .null, .null, .null, .null, .null] := by rw [o9, va_up_ne _ _ (by decide)]; exact u8_0
  have u9_1 : ev9 1 = eB G 32 (fun _ => 0) := by rw [o9, va_up_ne _ _ (by decide)]; exact u8_1
  have u9_2 : ev9 2 = eB G 24 (fun _ => 0) := by rw [o9, va_up_ne _ _ (by decide)]; exact u8_2
  have u9_3 : ev9 3 = eB G 32 (fun _ => 0) := by rw [o9, va_up_ne _ _ (by decide)]; exact u8_3
  have u9_4 : ev9 4 = eB G 112 (fun _ => 0) := by rw [o9, va_up_ne _ _ (by decide)]; exact u8_4
  have u9_5 : ev9 5 = eB G 112 (fun _ => 0) := by rw [o9, va_up_self]
  obtain ⟨ad9, ha9⟩ : ∃ z, z = va_up ad7 5 q5 := ⟨_, rfl⟩
  rw [← ha9] at h
  have a9_0 : ad9 0 = b := by rw [ha9, va_up_ne _ _ (by decide)]; exact a7_0
  have a9_1 : ad9 1 = q1 := by rw [ha9, va_up_ne _ _ (by decide)]; exact a7_1
  have a9_2 : ad9 2 = q2 := by rw [ha9, va_up_ne _ _ (by decide)]; exact a7_2
  have a9_3 : ad9 3 = q3 := by rw [ha9, va_up_ne _ _ (by decide)]; exact a7_3
  have a9_4 : ad9 4 = q4 := by rw [ha9, va_up_ne _ _ (by decide)]; exact a7_4
  have a9_5 : ad9 5 = q5 := by rw [ha9, va_up_self]
  refine wv_adr2 a9_0 ?_
  refine wv_putF hx hb h 0 (by decide) (fs := [.ref (q1), .ref (q2), .ref (q3), .ref (q4), .null, .int 0, .int 0, .null, .null, .null, .null, .null, .null]) u9_0 hts (fun w hw => List.mem_cons_of_mem _ (fW_NB w hw)) fY_NB fK_NB fN_NB hown (ci := 4) (C := "NonceBox") (T := fT_NB) (N := 13) rfl 4 (by decide) (hts _ (List.mem_cons_of_mem _ kf_NB_22)) rfl rfl (hini rfl) rfl (v := .ref (q5)) rfl rfl (Nat.le_of_ble_eq_true rfl) d_NB_init_41 (fun H locs h => ?_)
  have h : wT G A 6 ad9 (va_up ev9 0 (eO 4 [.ref (q1), .ref (q2), .ref (q3), .ref (q4), .ref (q5), .int 0, .int 0, .null, .null, .null, .null, .null, .null])) s H locs := h
  obtain ⟨ev10, o10⟩ : ∃ z, z = va_up ev9 0 (eO 4 [.ref (q1), .ref (q2), .ref (q3), .ref (q4), .ref (q5), .int 0, .int 0, .null, .null, .null, .null, .null, .null]) := ⟨_, rfl⟩
  rw [← o10] at h
  have u10_1 : ev10 1 = eB G 32 (fun _ => 0) := by rw [o10, va_up_ne _ _ (by decide)]; exact u9_1
  have u10_2 : ev10 2 = eB G 24 (fun _ => 0) := by rw [o10, va_up_ne _ _ (by decide)]; exact u9_2
  have u10_3 : ev10 3 = eB G 32 (fun _ => 0) := by rw [o10, va_up_ne _ _ (by decide)]; exact u9_3
  have u10_4 : ev10 4 = eB G 112 (fun _ => 0) := by rw [o10, va_up_ne _ _ (by decide)]; exact u9_4
  have u10_5 : ev10 5 = eB G 112 (fun _ => 0) := by rw [o10, va_up_ne _ _ (by decide)]; exact u9_5
  have u10_0 : ev10 0 = eO 4 [.ref (q1), .ref (q2), .ref (q3), .ref (q4), .ref (q5), .int 0, .int 0, .null, .null, .null, .null, .null, .null] := by rw [o10, va_up_self]
  refine lv_aload_n hx hb d_NB_init_44 rfl (lv_at hl 0 rfl) ?_
  refine lv_iconst (v := nI (0)) hx hb d_NB_init_45 (by decide) ?_
  refine wv_adr2 a9_0 ?_
  refine wv_putf hx hb h 0 (by decide) (fs := [.ref (q1), .ref (q2), .ref (q3), .ref (q4), .ref (q5), .int 0, .int 0, .null, .null, .null, .null, .null, .null]) u10_0 hts (fun w hw => List.mem_cons_of_mem _ (fW_NB w hw)) fY_NB fK_NB fN_NB hown (ci := 4) (C := "NonceBox") (T := fT_NB) (N := 13) rfl 5 (by decide) (hts _ (List.mem_cons_of_mem _ kf_NB_25)) rfl rfl (v := .int (nI (0))) rfl rfl (Nat.le_of_ble_eq_true rfl) d_NB_init_46 (fun H locs h => ?_)
  have h : wT G A 6 ad9 (va_up ev10 0 (eO 4 [.ref (q1), .ref (q2), .ref (q3), .ref (q4), .ref (q5), .int (nI (0)), .int 0, .null, .null, .null, .null, .null, .null])) s H locs := h
  obtain ⟨ev11, o11⟩ : ∃ z, z = va_up ev10 0 (eO 4 [.ref (q1), .ref (q2), .ref (q3), .ref (q4), .ref (q5), .int (nI (0)), .int 0, .null, .null, .null, .null, .null, .null]) := ⟨_, rfl⟩
  rw [← o11] at h
  have u11_1 : ev11 1 = eB G 32 (fun _ => 0) := by rw [o11, va_up_ne _ _ (by decide)]; exact u10_1
  have u11_2 : ev11 2 = eB G 24 (fun _ => 0) := by rw [o11, va_up_ne _ _ (by decide)]; exact u10_2
  have u11_3 : ev11 3 = eB G 32 (fun _ => 0) := by rw [o11, va_up_ne _ _ (by decide)]; exact u10_3
  have u11_4 : ev11 4 = eB G 112 (fun _ => 0) := by rw [o11, va_up_ne _ _ (by decide)]; exact u10_4
  have u11_5 : ev11 5 = eB G 112 (fun _ => 0) := by rw [o11, va_up_ne _ _ (by decide)]; exact u10_5
  have u11_0 : ev11 0 = eO 4 [.ref (q1), .ref (q2), .ref (q3), .ref (q4), .ref (q5), .int (nI (0)), .int 0, .null, .null, .null, .null, .null, .null] := by rw [o11, va_up_self]
  refine lv_aload_n hx hb d_NB_init_49 rfl (lv_at hl 0 rfl) ?_
  refine lv_iconst (v := nI (0)) hx hb d_NB_init_50 (by decide) ?_
  refine wv_adr2 a9_0 ?_
  refine wv_putf hx hb h 0 (by decide) (fs := [.ref (q1), .ref (q2), .ref (q3), .ref (q4), .ref (q5), .int (nI (0)), .int 0, .null, .null, .null, .null, .null, .null]) u11_0 hts (fun w hw => List.mem_cons_of_mem _ (fW_NB w hw)) fY_NB fK_NB fN_NB hown (ci := 4) (C := "NonceBox") (T := fT_NB) (N := 13) rfl 6 (by decide) (hts _ (List.mem_cons_of_mem _ kf_NB_29)) rfl rfl (v := .int (nI (0))) rfl rfl (Nat.le_of_ble_eq_true rfl) d_NB_init_51 (fun H locs h => ?_)
  have h : wT G A 6 ad9 (va_up ev11 0 (eO 4 [.ref (q1), .ref (q2), .ref (q3), .ref (q4), .ref (q5), .int (nI (0)), .int (nI (0)), .null, .null, .null, .null, .null, .null])) s H locs := h
  obtain ⟨ev12, o12⟩ : ∃ z, z = va_up ev11 0 (eO 4 [.ref (q1), .ref (q2), .ref (q3), .ref (q4), .ref (q5), .int (nI (0)), .int (nI (0)), .null, .null, .null, .null, .null, .null]) := ⟨_, rfl⟩
  rw [← o12] at h
  have u12_1 : ev12 1 = eB G 32 (fun _ => 0) := by rw [o12, va_up_ne _ _ (by decide)]; exact u11_1
  have u12_2 : ev12 2 = eB G 24 (fun _ => 0) := by rw [o12, va_up_ne _ _ (by decide)]; exact u11_2
  have u12_3 : ev12 3 = eB G 32 (fun _ => 0) := by rw [o12, va_up_ne _ _ (by decide)]; exact u11_3
  have u12_4 : ev12 4 = eB G 112 (fun _ => 0) := by rw [o12, va_up_ne _ _ (by decide)]; exact u11_4
  have u12_5 : ev12 5 = eB G 112 (fun _ => 0) := by rw [o12, va_up_ne _ _ (by decide)]; exact u11_5
  have u12_0 : ev12 0 = eO 4 [.ref (q1), .ref (q2), .ref (q3), .ref (q4), .ref (q5), .int (nI (0)), .int (nI (0)), .null, .null, .null, .null, .null, .null] := by rw [o12, va_up_self]
  refine lv_aload_n hx hb d_NB_init_54 rfl (lv_at hl 0 rfl) ?_
  refine wv_newo hx hb hts (fun w hw => List.mem_cons_of_mem _ (fW_Mx w hw)) fY_Mx fK_Mx hown (hts _ (List.mem_cons_of_mem _ kC_NB_32)) (hts _ (List.mem_cons_of_mem _ kI_Mx)) (hts _ (List.mem_cons_of_mem _ ki_Mx)) h (ci := 2) (T := fT_Mx) rfl (fs := [.null, .null, .null, .null, .null]) (fun j hj => by rcases (show j = 0 ∨ j = 1 ∨ j = 2 ∨ j = 3 ∨ j = 4 by omega) with rfl | rfl | rfl | rfl | rfl <;> rfl) (Nat.le_of_ble_eq_true rfl) (Nat.le_of_ble_eq_true rfl) d_NB_init_55 (fun q6 H h => ?_)
  obtain ⟨ev13, o13⟩ : ∃ z, z = va_up ev12 6 (eO 2 [.null, .null, .null, .null, .null]) := ⟨_, rfl⟩
  rw [← o13] at h
  have u13_0 : ev13 0 = eO 4 [.ref (q1), .ref (q2), .ref (q3), .ref (q4), .ref (q5), .int (nI (0)), .int (nI (0)), .null, .null, .null, .null, .null, .null] := by rw [o13, va_up_ne _ _ (by decide)]; exact u12_0
  have u13_1 : ev13 1 = eB G 32 (fun _ => 0) := by rw [o13, va_up_ne _ _ (by decide)]; exact u12_1
  have u13_2 : ev13 2 = eB G 24 (fun _ => 0) := by rw [o13, va_up_ne _ _ (by decide)]; exact u12_2
  have u13_3 : ev13 3 = eB G 32 (fun _ => 0) := by rw [o13, va_up_ne _ _ (by decide)]; exact u12_3
  have u13_4 : ev13 4 = eB G 112 (fun _ => 0) := by rw [o13, va_up_ne _ _ (by decide)]; exact u12_4
  have u13_5 : ev13 5 = eB G 112 (fun _ => 0) := by rw [o13, va_up_ne _ _ (by decide)]; exact u12_5
  have u13_6 : ev13 6 = eO 2 [.null, .null, .null, .null, .null] := by rw [o13, va_up_self]
  obtain ⟨ad13, ha13⟩ : ∃ z, z = va_up ad9 6 q6 := ⟨_, rfl⟩
  rw [← ha13] at h
  have a13_0 : ad13 0 = b := by rw [ha13, va_up_ne _ _ (by decide)]; exact a9_0
  have a13_1 : ad13 1 = q1 := by rw [ha13, va_up_ne _ _ (by decide)]; exact a9_1
  have a13_2 : ad13 2 = q2 := by rw [ha13, va_up_ne _ _ (by decide)]; exact a9_2
  have a13_3 : ad13 3 = q3 := by rw [ha13, va_up_ne _ _ (by decide)]; exact a9_3
  have a13_4 : ad13 4 = q4 := by rw [ha13, va_up_ne _ _ (by decide)]; exact a9_4
  have a13_5 : ad13 5 = q5 := by rw [ha13, va_up_ne _ _ (by decide)]; exact a9_5
  have a13_6 : ad13 6 = q6 := by rw [ha13, va_up_self]
  refine lv_dup hx hb d_NB_init_58 rfl ?_
  refine wv_In (As := []) (rest := [.ref (q6), .ref (b)]) (k := 0) ⟨hx, hb, hml, hown, hts⟩ h (n_Mx l G A ad13 ev13 q6 a13_6 u13_6) kc_Mx_init hN.1 km_Mx_init ki_Mx rfl (by decide +kernel) ⟨rfl, rfl, Nat.le_of_ble_eq_true rfl, Nat.le_of_ble_eq_true rfl⟩ hl.1 rfl rfl (Nat.le_of_ble_eq_true rfl) ⟨Nat.le_of_ble_eq_true rfl, Nat.le_of_ble_eq_true rfl⟩ d_NB_init_59 ?_
  intro ov n14 ad14 ev14 H locs hp h
  obtain ⟨ho, hn, hA14, hE14, c14_6, c14_7, c14_8, c14_9, c14_10, c14_11⟩ := hp
  rw [ho]
  subst hn
  refine W.eq (g2 := F0 m 62 ls [.ref (q6), .ref (b)]) rfl ?_
  have a14_0 : ad14 0 = b := (hA14 0 (by decide)).trans a13_0
  have a14_1 : ad14 1 = q1 := (hA14 1 (by decide)).trans a13_1
  have a14_2 : ad14 2 = q2 := (hA14 2 (by decide)).trans a13_2
  have a14_3 : ad14 3 = q3 := (hA14 3 (by decide)).trans a13_3
  have a14_4 : ad14 4 = q4 := (hA14 4 (by decide)).trans a13_4
  have a14_5 : ad14 5 = q5 := (hA14 5 (by decide)).trans a13_5
  have a14_6 : ad14 6 = q6 := (hA14 6 (by decide)).trans a13_6
  have u14_0 : ev14 0 = eO 4 [.ref (q1), .ref (q2), .ref (q3), .ref (q4), .ref (q5), .int (nI (0)), .int (nI (0)), .null, .null, .null, .null, .null, .null] := (hE14 0 (by decide)).trans u13_0
  have u14_1 : ev14 1 = eB G 32 (fun _ => 0) := (hE14 1 (by decide)).trans u13_1
  have u14_2 : ev14 2 = eB G 24 (fun _ => 0) := (hE14 2 (by decide)).trans u13_2
  have u14_3 : ev14 3 = eB G 32 (fun _ => 0) := (hE14 3 (by decide)).trans u13_3
  have u14_4 : ev14 4 = eB G 112 (fun _ => 0) := (hE14 4 (by decide)).trans u13_4
  have u14_5 : ev14 5 = eB G 112 (fun _ => 0) := (hE14 5 (by decide)).trans u13_5
  obtain ⟨q7, e7⟩ : ∃ z, z = ad14 7 := ⟨_, rfl⟩
  obtain ⟨q8, e8⟩ : ∃ z, z = ad14 8 := ⟨_, rfl⟩
  obtain ⟨q9, e9⟩ : ∃ z, z = ad14 9 := ⟨_, rfl⟩
  obtain ⟨q10, e10⟩ : ∃ z, z = ad14 10 := ⟨_, rfl⟩
  obtain ⟨q11, e11⟩ : ∃ z, z = ad14 11 := ⟨_, rfl⟩
  rw [← e7, ← e8, ← e9, ← e10, ← e11] at c14_6
  refine wv_adr2 a14_0 ?_
  refine wv_putF hx hb h 0 (by decide) (fs := [.ref (q1), .ref (q2), .ref (q3), .ref (q4), .ref (q5), .int (nI (0)), .int (nI (0)), .null, .null, .null, .null, .null, .null]) u14_0 hts (fun w hw => List.mem_cons_of_mem _ (fW_NB w hw)) fY_NB fK_NB fN_NB hown (ci := 4) (C := "NonceBox") (T := fT_NB) (N := 13) rfl 7 (by decide) (hts _ (List.mem_cons_of_mem _ kf_NB_35)) rfl rfl (hini rfl) rfl (v := .ref (q6)) rfl rfl (Nat.le_of_ble_eq_true rfl) d_NB_init_62 (fun H locs h => ?_)
  have h : wT G A 12 ad14 (va_up ev14 0 (eO 4 [.ref (q1), .ref (q2), .ref (q3), .ref (q4), .ref (q5), .int (nI (0)), .int (nI (0)), .ref (q6), .null, .null, .null, .null, .null])) s H locs := h
  obtain ⟨ev15, o15⟩ : ∃ z, z = va_up ev14 0 (eO 4 [.ref (q1), .ref (q2), .ref (q3), .ref (q4), .ref (q5), .int (nI (0)), .int (nI (0)), .ref (q6), .null, .null, .null, .null, .null]) := ⟨_, rfl⟩
  rw [← o15] at h
  have u15_1 : ev15 1 = eB G 32 (fun _ => 0) := by rw [o15, va_up_ne _ _ (by decide)]; exact u14_1
  have u15_2 : ev15 2 = eB G 24 (fun _ => 0) := by rw [o15, va_up_ne _ _ (by decide)]; exact u14_2
  have u15_3 : ev15 3 = eB G 32 (fun _ => 0) := by rw [o15, va_up_ne _ _ (by decide)]; exact u14_3
  have u15_4 : ev15 4 = eB G 112 (fun _ => 0) := by rw [o15, va_up_ne _ _ (by decide)]; exact u14_4
  have u15_5 : ev15 5 = eB G 112 (fun _ => 0) := by rw [o15, va_up_ne _ _ (by decide)]; exact u14_5
  have u15_6 : ev15 6 = eO 2 [.ref (q7), .ref (q8), .ref (q9), .ref (q10), .ref (q11)] := by rw [o15, va_up_ne _ _ (by decide)]; exact c14_6
  have u15_7 : ev15 7 = eI G 16 (fun _ => 0) := by rw [o15, va_up_ne _ _ (by decide)]; exact c14_7
  have u15_8 : ev15 8 = eI G 16 (fun _ => 0) := by rw [o15, va_up_ne _ _ (by decide)]; exact c14_8
  have u15_9 : ev15 9 = eB G 32 (fun _ => 0) := by rw [o15, va_up_ne _ _ (by decide)]; exact c14_9
  have u15_10 : ev15 10 = eB G 16 (fun _ => 0) := by rw [o15, va_up_ne _ _ (by decide)]; exact c14_10
  have u15_11 : ev15 11 = eB G 128 (fun _ => 0) := by rw [o15, va_up_ne _ _ (by decide)]; exact c14_11
  have u15_0 : ev15 0 = eO 4 [.ref (q1), .ref (q2), .ref (q3), .ref (q4), .ref (q5), .int (nI (0)), .int (nI (0)), .ref (q6), .null, .null, .null, .null, .null] := by rw [o15, va_up_self]
  refine lv_aload_n hx hb d_NB_init_65 rfl (lv_at hl 0 rfl) ?_
  refine wv_newo hx hb hts (fun w hw => List.mem_cons_of_mem _ (fW_Tg w hw)) fY_Tg fK_Tg hown (hts _ (List.mem_cons_of_mem _ kC_NB_39)) (hts _ (List.mem_cons_of_mem _ kI_Tg)) (hts _ (List.mem_cons_of_mem _ ki_Tg)) h (ci := 3) (T := fT_Tg) rfl (fs := [.null, .null, .null, .null]) (fun j hj => by rcases (show j = 0 ∨ j = 1 ∨ j = 2 ∨ j = 3 by omega) with rfl | rfl | rfl | rfl <;> rfl) (Nat.le_of_ble_eq_true rfl) (Nat.le_of_ble_eq_true rfl) d_NB_init_66 (fun q12 H h => ?_)
  obtain ⟨ev16, o16⟩ : ∃ z, z = va_up ev15 12 (eO 3 [.null, .null, .null, .null]) := ⟨_, rfl⟩
  rw [← o16] at h
  have u16_0 : ev16 0 = eO 4 [.ref (q1), .ref (q2), .ref (q3), .ref (q4), .ref (q5), .int (nI (0)), .int (nI (0)), .ref (q6), .null, .null, .null, .null, .null] := by rw [o16, va_up_ne _ _ (by decide)]; exact u15_0
  have u16_1 : ev16 1 = eB G 32 (fun _ => 0) := by rw [o16, va_up_ne _ _ (by decide)]; exact u15_1
  have u16_2 : ev16 2 = eB G 24 (fun _ => 0) := by rw [o16, va_up_ne _ _ (by decide)]; exact u15_2
  have u16_3 : ev16 3 = eB G 32 (fun _ => 0) := by rw [o16, va_up_ne _ _ (by decide)]; exact u15_3
  have u16_4 : ev16 4 = eB G 112 (fun _ => 0) := by rw [o16, va_up_ne _ _ (by decide)]; exact u15_4
  have u16_5 : ev16 5 = eB G 112 (fun _ => 0) := by rw [o16, va_up_ne _ _ (by decide)]; exact u15_5
  have u16_6 : ev16 6 = eO 2 [.ref (q7), .ref (q8), .ref (q9), .ref (q10), .ref (q11)] := by rw [o16, va_up_ne _ _ (by decide)]; exact u15_6
  have u16_7 : ev16 7 = eI G 16 (fun _ => 0) := by rw [o16, va_up_ne _ _ (by decide)]; exact u15_7
  have u16_8 : ev16 8 = eI G 16 (fun _ => 0) := by rw [o16, va_up_ne _ _ (by decide)]; exact u15_8
  have u16_9 : ev16 9 = eB G 32 (fun _ => 0) := by rw [o16, va_up_ne _ _ (by decide)]; exact u15_9
  have u16_10 : ev16 10 = eB G 16 (fun _ => 0) := by rw [o16, va_up_ne _ _ (by decide)]; exact u15_10
  have u16_11 : ev16 11 = eB G 128 (fun _ => 0) := by rw [o16, va_up_ne _ _ (by decide)]; exact u15_11
  have u16_12 : ev16 12 = eO 3 [.null, .null, .null, .null] := by rw [o16, va_up_self]
  obtain ⟨ad16, ha16⟩ : ∃ z, z = va_up ad14 12 q12 := ⟨_, rfl⟩
  rw [← ha16] at h
  have a16_0 : ad16 0 = b := by rw [ha16, va_up_ne _ _ (by decide)]; exact a14_0
  have a16_1 : ad16 1 = q1 := by rw [ha16, va_up_ne _ _ (by decide)]; exact a14_1
  have a16_2 : ad16 2 = q2 := by rw [ha16, va_up_ne _ _ (by decide)]; exact a14_2
  have a16_3 : ad16 3 = q3 := by rw [ha16, va_up_ne _ _ (by decide)]; exact a14_3
  have a16_4 : ad16 4 = q4 := by rw [ha16, va_up_ne _ _ (by decide)]; exact a14_4
  have a16_5 : ad16 5 = q5 := by rw [ha16, va_up_ne _ _ (by decide)]; exact a14_5
  have a16_6 : ad16 6 = q6 := by rw [ha16, va_up_ne _ _ (by decide)]; exact a14_6
  have a16_7 : ad16 7 = q7 := by rw [ha16, va_up_ne _ _ (by decide)]; exact e7.symm
  have a16_8 : ad16 8 = q8 := by rw [ha16, va_up_ne _ _ (by decide)]; exact e8.symm
  have a16_9 : ad16 9 = q9 := by rw [ha16, va_up_ne _ _ (by decide)]; exact e9.symm
  have a16_10 : ad16 10 = q10 := by rw [ha16, va_up_ne _ _ (by decide)]; exact e10.symm
  have a16_11 : ad16 11 = q11 := by rw [ha16, va_up_ne _ _ (by decide)]; exact e11.symm
  have a16_12 : ad16 12 = q12 := by rw [ha16, va_up_self]
  refine lv_dup hx hb d_NB_init_69 rfl ?_
  refine wv_In (As := []) (rest := [.ref (q12), .ref (b)]) (k := 0) ⟨hx, hb, hml, hown, hts⟩ h (n_Tg l G A ad16 ev16 q12 a16_12 u16_12) kc_Tg_init hN.2.1 km_Tg_init ki_Tg rfl (by decide +kernel) ⟨rfl, rfl, Nat.le_of_ble_eq_true rfl, Nat.le_of_ble_eq_true rfl⟩ hl.1 rfl rfl (Nat.le_of_ble_eq_true rfl) ⟨Nat.le_of_ble_eq_true rfl, Nat.le_of_ble_eq_true rfl⟩ d_NB_init_70 ?_
  intro ov n17 ad17 ev17 H locs hp h
  obtain ⟨ho, hn, hA17, hE17, c17_12, c17_13, c17_14, c17_15, c17_16, c17_17⟩ := hp
  rw [ho]
  subst hn
  refine W.eq (g2 := F0 m 73 ls [.ref (q12), .ref (b)]) rfl ?_
  have a17_0 : ad17 0 = b := (hA17 0 (by decide)).trans a16_0
  have a17_1 : ad17 1 = q1 := (hA17 1 (by decide)).trans a16_1
  have a17_2 : ad17 2 = q2 := (hA17 2 (by decide)).trans a16_2
  have a17_3 : ad17 3 = q3 := (hA17 3 (by decide)).trans a16_3
  have a17_4 : ad17 4 = q4 := (hA17 4 (by decide)).trans a16_4
  have a17_5 : ad17 5 = q5 := (hA17 5 (by decide)).trans a16_5
  have a17_6 : ad17 6 = q6 := (hA17 6 (by decide)).trans a16_6
  have a17_7 : ad17 7 = q7 := (hA17 7 (by decide)).trans a16_7
  have a17_8 : ad17 8 = q8 := (hA17 8 (by decide)).trans a16_8
  have a17_9 : ad17 9 = q9 := (hA17 9 (by decide)).trans a16_9
  have a17_10 : ad17 10 = q10 := (hA17 10 (by decide)).trans a16_10
  have a17_11 : ad17 11 = q11 := (hA17 11 (by decide)).trans a16_11
  have a17_12 : ad17 12 = q12 := (hA17 12 (by decide)).trans a16_12
  have u17_0 : ev17 0 = eO 4 [.ref (q1), .ref (q2), .ref (q3), .ref (q4), .ref (q5), .int (nI (0)), .int (nI (0)), .ref (q6), .null, .null, .null, .null, .null] := (hE17 0 (by decide)).trans u16_0
  have u17_1 : ev17 1 = eB G 32 (fun _ => 0) := (hE17 1 (by decide)).trans u16_1
  have u17_2 : ev17 2 = eB G 24 (fun _ => 0) := (hE17 2 (by decide)).trans u16_2
  have u17_3 : ev17 3 = eB G 32 (fun _ => 0) := (hE17 3 (by decide)).trans u16_3
  have u17_4 : ev17 4 = eB G 112 (fun _ => 0) := (hE17 4 (by decide)).trans u16_4
  have u17_5 : ev17 5 = eB G 112 (fun _ => 0) := (hE17 5 (by decide)).trans u16_5
  have u17_6 : ev17 6 = eO 2 [.ref (q7), .ref (q8), .ref (q9), .ref (q10), .ref (q11)] := (hE17 6 (by decide)).trans u16_6
  have u17_7 : ev17 7 = eI G 16 (fun _ => 0) := (hE17 7 (by decide)).trans u16_7
  have u17_8 : ev17 8 = eI G 16 (fun _ => 0) := (hE17 8 (by decide)).trans u16_8
  have u17_9 : ev17 9 = eB G 32 (fun _ => 0) := (hE17 9 (by decide)).trans u16_9
  have u17_10 : ev17 10 = eB G 16 (fun _ => 0) := (hE17 10 (by decide)).trans u16_10
  have u17_11 : ev17 11 = eB G 128 (fun _ => 0) := (hE17 11 (by decide)).trans u16_11
  obtain ⟨q13, e13⟩ : ∃ z, z = ad17 13 := ⟨_, rfl⟩
  obtain ⟨q14, e14⟩ : ∃ z, z = ad17 14 := ⟨_, rfl⟩
  obtain ⟨q15, e15⟩ : ∃ z, z = ad17 15 := ⟨_, rfl⟩
  obtain ⟨q16, e16⟩ : ∃ z, z = ad17 16 := ⟨_, rfl⟩
  obtain ⟨q17, e17⟩ : ∃ z, z = ad17 17 := ⟨_, rfl⟩
  rw [← e13, ← e15, ← e16, ← e17] at c17_12
  rw [← e14] at c17_13
  refine wv_adr2 a17_0 ?_
  refine wv_putF hx hb h 0 (by decide) (fs := [.ref (q1), .ref (q2), .ref (q3), .ref (q4), .ref (q5), .int (nI (0)), .int (nI (0)), .ref (q6), .null, .null, .null, .null, .null]) u17_0 hts (fun w hw => List.mem_cons_of_mem _ (fW_NB w hw)) fY_NB fK_NB fN_NB hown (ci := 4) (C := "NonceBox") (T := fT_NB) (N := 13) rfl 8 (by decide) (hts _ (List.mem_cons_of_mem _ kf_NB_42)) rfl rfl (hini rfl) rfl (v := .ref (q12)) rfl rfl (Nat.le_of_ble_eq_true rfl) d_NB_init_73 (fun H locs h => ?_)
  have h : wT G A 18 ad17 (va_up ev17 0 (eO 4 [.ref (q1), .ref (q2), .ref (q3), .ref (q4), .ref (q5), .int (nI (0)), .int (nI (0)), .ref (q6), .ref (q12), .null, .null, .null, .null])) s H locs := h
  obtain ⟨ev18, o18⟩ : ∃ z, z = va_up ev17 0 (eO 4 [.ref (q1), .ref (q2), .ref (q3), .ref (q4), .ref (q5), .int (nI (0)), .int (nI (0)), .ref (q6), .ref (q12), .null, .null, .null, .null]) := ⟨_, rfl⟩
  rw [← o18] at h
  have u18_1 : ev18 1 = eB G 32 (fun _ => 0) := by rw [o18, va_up_ne _ _ (by decide)]; exact u17_1
  have u18_2 : ev18 2 = eB G 24 (fun _ => 0) := by rw [o18, va_up_ne _ _ (by decide)]; exact u17_2
  have u18_3 : ev18 3 = eB G 32 (fun _ => 0) := by rw [o18, va_up_ne _ _ (by decide)]; exact u17_3
  have u18_4 : ev18 4 = eB G 112 (fun _ => 0) := by rw [o18, va_up_ne _ _ (by decide)]; exact u17_4
  have u18_5 : ev18 5 = eB G 112 (fun _ => 0) := by rw [o18, va_up_ne _ _ (by decide)]; exact u17_5
  have u18_6 : ev18 6 = eO 2 [.ref (q7), .ref (q8), .ref (q9), .ref (q10), .ref (q11)] := by rw [o18, va_up_ne _ _ (by decide)]; exact u17_6
  have u18_7 : ev18 7 = eI G 16 (fun _ => 0) := by rw [o18, va_up_ne _ _ (by decide)]; exact u17_7
  have u18_8 : ev18 8 = eI G 16 (fun _ => 0) := by rw [o18, va_up_ne _ _ (by decide)]; exact u17_8
  have u18_9 : ev18 9 = eB G 32 (fun _ => 0) := by rw [o18, va_up_ne _ _ (by decide)]; exact u17_9
  have u18_10 : ev18 10 = eB G 16 (fun _ => 0) := by rw [o18, va_up_ne _ _ (by decide)]; exact u17_10
  have u18_11 : ev18 11 = eB G 128 (fun _ => 0) := by rw [o18, va_up_ne _ _ (by decide)]; exact u17_11
  have u18_12 : ev18 12 = eO 3 [.ref (q13), .ref (q15), .ref (q16), .ref (q17)] := by rw [o18, va_up_ne _ _ (by decide)]; exact c17_12
  have u18_13 : ev18 13 = eO 1 [.int (nI (5)), .int (nI (26)), .long (5), .long (5), .ref (q14)] := by rw [o18, va_up_ne _ _ (by decide)]; exact c17_13
  have u18_14 : ev18 14 = eJ G 10 (fun _ => 0) := by rw [o18, va_up_ne _ _ (by decide)]; exact c17_14
  have u18_15 : ev18 15 = eJ G 5 (fun _ => 0) := by rw [o18, va_up_ne _ _ (by decide)]; exact c17_15
  have u18_16 : ev18 16 = eJ G 5 (fun _ => 0) := by rw [o18, va_up_ne _ _ (by decide)]; exact c17_16
  have u18_17 : ev18 17 = eB G 16 (fun _ => 0) := by rw [o18, va_up_ne _ _ (by decide)]; exact c17_17
  have u18_0 : ev18 0 = eO 4 [.ref (q1), .ref (q2), .ref (q3), .ref (q4), .ref (q5), .int (nI (0)), .int (nI (0)), .ref (q6), .ref (q12), .null, .null, .null, .null] := by rw [o18, va_up_self]
  refine lv_aload_n hx hb d_NB_init_76 rfl (lv_at hl 0 rfl) ?_
  refine wv_newo hx hb hts (fun w hw => List.mem_cons_of_mem _ (fW_Cv w hw)) fY_Cv fK_Cv hown (hts _ (List.mem_cons_of_mem _ kC_NB_46)) (hts _ (List.mem_cons_of_mem _ kI_Cv)) (hts _ (List.mem_cons_of_mem _ ki_Cv)) h (ci := 0) (T := fT_Cv) rfl (fs := [.null, .null, .null, .null, .null, .null, .null, .null, .null, .null, .null, .null, .null, .null]) (fun j hj => by rcases (show j = 0 ∨ j = 1 ∨ j = 2 ∨ j = 3 ∨ j = 4 ∨ j = 5 ∨ j = 6 ∨ j = 7 ∨ j = 8 ∨ j = 9 ∨ j = 10 ∨ j = 11 ∨ j = 12 ∨ j = 13 by omega) with rfl | rfl | rfl | rfl | rfl | rfl | rfl | rfl | rfl | rfl | rfl | rfl | rfl | rfl <;> rfl) (Nat.le_of_ble_eq_true rfl) (Nat.le_of_ble_eq_true rfl) d_NB_init_77 (fun q18 H h => ?_)
  obtain ⟨ev19, o19⟩ : ∃ z, z = va_up ev18 18 (eO 0 [.null, .null, .null, .null, .null, .null, .null, .null, .null, .null, .null, .null, .null, .null]) := ⟨_, rfl⟩
  rw [← o19] at h
  have u19_0 : ev19 0 = eO 4 [.ref (q1), .ref (q2), .ref (q3), .ref (q4), .ref (q5), .int (nI (0)), .int (nI (0)), .ref (q6), .ref (q12), .null, .null, .null, .null] := by rw [o19, va_up_ne _ _ (by decide)]; exact u18_0
  have u19_1 : ev19 1 = eB G 32 (fun _ => 0) := by rw [o19, va_up_ne _ _ (by decide)]; exact u18_1
  have u19_2 : ev19 2 = eB G 24 (fun _ => 0) := by rw [o19, va_up_ne _ _ (by decide)]; exact u18_2
  have u19_3 : ev19 3 = eB G 32 (fun _ => 0) := by rw [o19, va_up_ne _ _ (by decide)]; exact u18_3
  have u19_4 : ev19 4 = eB G 112 (fun _ => 0) := by rw [o19, va_up_ne _ _ (by decide)]; exact u18_4
  have u19_5 : ev19 5 = eB G 112 (fun _ => 0) := by rw [o19, va_up_ne _ _ (by decide)]; exact u18_5
  have u19_6 : ev19 6 = eO 2 [.ref (q7), .ref (q8), .ref (q9), .ref (q10), .ref (q11)] := by rw [o19, va_up_ne _ _ (by decide)]; exact u18_6
  have u19_7 : ev19 7 = eI G 16 (fun _ => 0) := by rw [o19, va_up_ne _ _ (by decide)]; exact u18_7
  have u19_8 : ev19 8 = eI G 16 (fun _ => 0) := by rw [o19, va_up_ne _ _ (by decide)]; exact u18_8
  have u19_9 : ev19 9 = eB G 32 (fun _ => 0) := by rw [o19, va_up_ne _ _ (by decide)]; exact u18_9
  have u19_10 : ev19 10 = eB G 16 (fun _ => 0) := by rw [o19, va_up_ne _ _ (by decide)]; exact u18_10
  have u19_11 : ev19 11 = eB G 128 (fun _ => 0) := by rw [o19, va_up_ne _ _ (by decide)]; exact u18_11
  have u19_12 : ev19 12 = eO 3 [.ref (q13), .ref (q15), .ref (q16), .ref (q17)] := by rw [o19, va_up_ne _ _ (by decide)]; exact u18_12
  have u19_13 : ev19 13 = eO 1 [.int (nI (5)), .int (nI (26)), .long (5), .long (5), .ref (q14)] := by rw [o19, va_up_ne _ _ (by decide)]; exact u18_13
  have u19_14 : ev19 14 = eJ G 10 (fun _ => 0) := by rw [o19, va_up_ne _ _ (by decide)]; exact u18_14
  have u19_15 : ev19 15 = eJ G 5 (fun _ => 0) := by rw [o19, va_up_ne _ _ (by decide)]; exact u18_15
  have u19_16 : ev19 16 = eJ G 5 (fun _ => 0) := by rw [o19, va_up_ne _ _ (by decide)]; exact u18_16
  have u19_17 : ev19 17 = eB G 16 (fun _ => 0) := by rw [o19, va_up_ne _ _ (by decide)]; exact u18_17
  have u19_18 : ev19 18 = eO 0 [.null, .null, .null, .null, .null, .null, .null, .null, .null, .null, .null, .null, .null, .null] := by rw [o19, va_up_self]
  obtain ⟨ad19, ha19⟩ : ∃ z, z = va_up ad17 18 q18 := ⟨_, rfl⟩
  rw [← ha19] at h
  have a19_0 : ad19 0 = b := by rw [ha19, va_up_ne _ _ (by decide)]; exact a17_0
  have a19_1 : ad19 1 = q1 := by rw [ha19, va_up_ne _ _ (by decide)]; exact a17_1
  have a19_2 : ad19 2 = q2 := by rw [ha19, va_up_ne _ _ (by decide)]; exact a17_2
  have a19_3 : ad19 3 = q3 := by rw [ha19, va_up_ne _ _ (by decide)]; exact a17_3
  have a19_4 : ad19 4 = q4 := by rw [ha19, va_up_ne _ _ (by decide)]; exact a17_4
  have a19_5 : ad19 5 = q5 := by rw [ha19, va_up_ne _ _ (by decide)]; exact a17_5
  have a19_6 : ad19 6 = q6 := by rw [ha19, va_up_ne _ _ (by decide)]; exact a17_6
  have a19_7 : ad19 7 = q7 := by rw [ha19, va_up_ne _ _ (by decide)]; exact a17_7
  have a19_8 : ad19 8 = q8 := by rw [ha19, va_up_ne _ _ (by decide)]; exact a17_8
  have a19_9 : ad19 9 = q9 := by rw [ha19, va_up_ne _ _ (by decide)]; exact a17_9
  have a19_10 : ad19 10 = q10 := by rw [ha19, va_up_ne _ _ (by decide)]; exact a17_10
  have a19_11 : ad19 11 = q11 := by rw [ha19, va_up_ne _ _ (by decide)]; exact a17_11
  have a19_12 : ad19 12 = q12 := by rw [ha19, va_up_ne _ _ (by decide)]; exact a17_12
  have a19_13 : ad19 13 = q13 := by rw [ha19, va_up_ne _ _ (by decide)]; exact e13.symm
  have a19_14 : ad19 14 = q14 := by rw [ha19, va_up_ne _ _ (by decide)]; exact e14.symm
  have a19_15 : ad19 15 = q15 := by rw [ha19, va_up_ne _ _ (by decide)]; exact e15.symm
  have a19_16 : ad19 16 = q16 := by rw [ha19, va_up_ne _ _ (by decide)]; exact e16.symm
  have a19_17 : ad19 17 = q17 := by rw [ha19, va_up_ne _ _ (by decide)]; exact e17.symm
  have a19_18 : ad19 18 = q18 := by rw [ha19, va_up_self]
  refine lv_dup hx hb d_NB_init_80 rfl ?_
  refine wv_In (As := []) (rest := [.ref (q18), .ref (b)]) (k := 0) ⟨hx, hb, hml, hown, hts⟩ h (n_Cv l G A ad19 ev19 q18 a19_18 u19_18) kc_Cv_init hN.2.2 km_Cv_init ki_Cv rfl (by decide +kernel) ⟨rfl, rfl, Nat.le_of_ble_eq_true rfl, Nat.le_of_ble_eq_true rfl⟩ hl.1 rfl rfl (Nat.le_of_ble_eq_true rfl) ⟨Nat.le_of_ble_eq_true rfl, Nat.le_of_ble_eq_true rfl⟩ d_NB_init_81 ?_
  intro ov n20 ad20 ev20 H locs hp h
  obtain ⟨ho, hn, hA20, hE20, c20_18, c20_19, c20_20, c20_21, c20_22, c20_23, c20_24, c20_25, c20_26, c20_27, c20_28, c20_29, c20_30, c20_31, c20_32, c20_33⟩ := hp
  rw [ho]
  subst hn
  refine W.eq (g2 := F0 m 84 ls [.ref (q18), .ref (b)]) rfl ?_
  have a20_0 : ad20 0 = b := (hA20 0 (by decide)).trans a19_0
  have a20_1 : ad20 1 = q1 := (hA20 1 (by decide)).trans a19_1
  have a20_2 : ad20 2 = q2 := (hA20 2 (by decide)).trans a19_2
  have a20_3 : ad20 3 = q3 := (hA20 3 (by decide)).trans a19_3
  have a20_4 : ad20 4 = q4 := (hA20 4 (by decide)).trans a19_4
  have a20_5 : ad20 5 = q5 := (hA20 5 (by decide)).trans a19_5
  have a20_6 : ad20 6 = q6 := (hA20 6 (by decide)).trans a19_6
  have a20_7 : ad20 7 = q7 := (hA20 7 (by decide)).trans a19_7
  have a20_8 : ad20 8 = q8 := (hA20 8 (by decide)).trans a19_8
  have a20_9 : ad20 9 = q9 := (hA20 9 (by decide)).trans a19_9
  have a20_10 : ad20 10 = q10 := (hA20 10 (by decide)).trans a19_10
  have a20_11 : ad20 11 = q11 := (hA20 11 (by decide)).trans a19_11
  have a20_12 : ad20 12 = q12 := (hA20 12 (by decide)).trans a19_12
  have a20_13 : ad20 13 = q13 := (hA20 13 (by decide)).trans a19_13
  have a20_14 : ad20 14 = q14 := (hA20 14 (by decide)).trans a19_14
  have a20_15 : ad20 15 = q15 := (hA20 15 (by decide)).trans a19_15
  have a20_16 : ad20 16 = q16 := (hA20 16 (by decide)).trans a19_16
  have a20_17 : ad20 17 = q17 := (hA20 17 (by decide)).trans a19_17
  have a20_18 : ad20 18 = q18 := (hA20 18 (by decide)).trans a19_18
  have u20_0 : ev20 0 = eO 4 [.ref (q1), .ref (q2), .ref (q3), .ref (q4), .ref (q5), .int (nI (0)), .int (nI (0)), .ref (q6), .ref (q12), .null, .null, .null, .null] := (hE20 0 (by decide)).trans u19_0
  have u20_1 : ev20 1 = eB G 32 (fun _ => 0) := (hE20 1 (by decide)).trans u19_1
  have u20_2 : ev20 2 = eB G 24 (fun _ => 0) := (hE20 2 (by decide)).trans u19_2
  have u20_3 : ev20 3 = eB G 32 (fun _ => 0) := (hE20 3 (by decide)).trans u19_3
  have u20_4 : ev20 4 = eB G 112 (fun _ => 0) := (hE20 4 (by decide)).trans u19_4
  have u20_5 : ev20 5 = eB G 112 (fun _ => 0) := (hE20 5 (by decide)).trans u19_5
  have u20_6 : ev20 6 = eO 2 [.ref (q7), .ref (q8), .ref (q9), .ref (q10), .ref (q11)] := (hE20 6 (by decide)).trans u19_6
  have u20_7 : ev20 7 = eI G 16 (fun _ => 0) := (hE20 7 (by decide)).trans u19_7
  have u20_8 : ev20 8 = eI G 16 (fun _ => 0) := (hE20 8 (by decide)).trans u19_8
  have u20_9 : ev20 9 = eB G 32 (fun _ => 0) := (hE20 9 (by decide)).trans u19_9
  have u20_10 : ev20 10 = eB G 16 (fun _ => 0) := (hE20 10 (by decide)).trans u19_10
  have u20_11 : ev20 11 = eB G 128 (fun _ => 0) := (hE20 11 (by decide)).trans u19_11
  have u20_12 : ev20 12 = eO 3 [.ref (q13), .ref (q15), .ref (q16), .ref (q17)] := (hE20 12 (by decide)).trans u19_12
  have u20_13 : ev20 13 = eO 1 [.int (nI (5)), .int (nI (26)), .long (5), .long (5), .ref (q14)] := (hE20 13 (by decide)).trans u19_13
  have u20_14 : ev20 14 = eJ G 10 (fun _ => 0) := (hE20 14 (by decide)).trans u19_14
  have u20_15 : ev20 15 = eJ G 5 (fun _ => 0) := (hE20 15 (by decide)).trans u19_15
  have u20_16 : ev20 16 = eJ G 5 (fun _ => 0) := (hE20 16 (by decide)).trans u19_16
  have u20_17 : ev20 17 = eB G 16 (fun _ => 0) := (hE20 17 (by decide)).trans u19_17
  obtain ⟨q19, e19⟩ : ∃ z, z = ad20 19 := ⟨_, rfl⟩
  obtain ⟨q20, e20⟩ : ∃ z, z = ad20 20 := ⟨_, rfl⟩
  obtain ⟨q21, e21⟩ : ∃ z, z = ad20 21 := ⟨_, rfl⟩
  obtain ⟨q22, e22⟩ : ∃ z, z = ad20 22 := ⟨_, rfl⟩
  obtain ⟨q23, e23⟩ : ∃ z, z = ad20 23 := ⟨_, rfl⟩
  obtain ⟨q24, e24⟩ : ∃ z, z = ad20 24 := ⟨_, rfl⟩
  obtain ⟨q25, e25⟩ : ∃ z, z = ad20 25 := ⟨_, rfl⟩
  obtain ⟨q26, e26⟩ : ∃ z, z = ad20 26 := ⟨_, rfl⟩
  obtain ⟨q27, e27⟩ : ∃ z, z = ad20 27 := ⟨_, rfl⟩
  obtain ⟨q28, e28⟩ : ∃ z, z = ad20 28 := ⟨_, rfl⟩
  obtain ⟨q29, e29⟩ : ∃ z, z = ad20 29 := ⟨_, rfl⟩
  obtain ⟨q30, e30⟩ : ∃ z, z = ad20 30 := ⟨_, rfl⟩
  obtain ⟨q31, e31⟩ : ∃ z, z = ad20 31 := ⟨_, rfl⟩
  obtain ⟨q32, e32⟩ : ∃ z, z = ad20 32 := ⟨_, rfl⟩
  obtain ⟨q33, e33⟩ : ∃ z, z = ad20 33 := ⟨_, rfl⟩
  rw [← e19, ← e21, ← e22, ← e23, ← e24, ← e25, ← e26, ← e27, ← e28, ← e29, ← e30, ← e31, ← e32, ← e33] at c20_18
  rw [← e20] at c20_19
  refine wv_adr2 a20_0 ?_
  refine wv_putF hx hb h 0 (by decide) (fs := [.ref (q1), .ref (q2), .ref (q3), .ref (q4), .ref (q5), .int (nI (0)), .int (nI (0)), .ref (q6), .ref (q12), .null, .null, .null, .null]) u20_0 hts (fun w hw => List.mem_cons_of_mem _ (fW_NB w hw)) fY_NB fK_NB fN_NB hown (ci := 4) (C := "NonceBox") (T := fT_NB) (N := 13) rfl 9 (by decide) (hts _ (List.mem_cons_of_mem _ kf_NB_49)) rfl rfl (hini rfl) rfl (v := .ref (q18)) rfl rfl (Nat.le_of_ble_eq_true rfl) d_NB_init_84 (fun H locs h => ?_)
  have h : wT G A 34 ad20 (va_up ev20 0 (eO 4 [.ref (q1), .ref (q2), .ref (q3), .ref (q4), .ref (q5), .int (nI (0)), .int (nI (0)), .ref (q6), .ref (q12), .ref (q18), .null, .null, .null])) s H locs := h
  obtain ⟨ev21, o21⟩ : ∃ z, z = va_up ev20 0 (eO 4 [.ref (q1), .ref (q2), .ref (q3), .ref (q4), .ref (q5), .int (nI (0)), .int (nI (0)), .ref (q6), .ref (q12), .ref (q18), .null, .null, .null]) := ⟨_, rfl⟩
  rw [← o21] at h
  have u21_1 : ev21 1 = eB G 32 (fun _ => 0) := by rw [o21, va_up_ne _ _ (by decide)]; exact u20_1
  have u21_2 : ev21 2 = eB G 24 (fun _ => 0) := by rw [o21, va_up_ne _ _ (by decide)]; exact u20_2
  have u21_3 : ev21 3 = eB G 32 (fun _ => 0) := by rw [o21, va_up_ne _ _ (by decide)]; exact u20_3
  have u21_4 : ev21 4 = eB G 112 (fun _ => 0) := by rw [o21, va_up_ne _ _ (by decide)]; exact u20_4
  have u21_5 : ev21 5 = eB G 112 (fun _ => 0) := by rw [o21, va_up_ne _ _ (by decide)]; exact u20_5
  have u21_6 : ev21 6 = eO 2 [.ref (q7), .ref (q8), .ref (q9), .ref (q10), .ref (q11)] := by rw [o21, va_up_ne _ _ (by decide)]; exact u20_6
  have u21_7 : ev21 7 = eI G 16 (fun _ => 0) := by rw [o21, va_up_ne _ _ (by decide)]; exact u20_7
  have u21_8 : ev21 8 = eI G 16 (fun _ => 0) := by rw [o21, va_up_ne _ _ (by decide)]; exact u20_8
  have u21_9 : ev21 9 = eB G 32 (fun _ => 0) := by rw [o21, va_up_ne _ _ (by decide)]; exact u20_9
  have u21_10 : ev21 10 = eB G 16 (fun _ => 0) := by rw [o21, va_up_ne _ _ (by decide)]; exact u20_10
  have u21_11 : ev21 11 = eB G 128 (fun _ => 0) := by rw [o21, va_up_ne _ _ (by decide)]; exact u20_11
  have u21_12 : ev21 12 = eO 3 [.ref (q13), .ref (q15), .ref (q16), .ref (q17)] := by rw [o21, va_up_ne _ _ (by decide)]; exact u20_12
  have u21_13 : ev21 13 = eO 1 [.int (nI (5)), .int (nI (26)), .long (5), .long (5), .ref (q14)] := by rw [o21, va_up_ne _ _ (by decide)]; exact u20_13
  have u21_14 : ev21 14 = eJ G 10 (fun _ => 0) := by rw [o21, va_up_ne _ _ (by decide)]; exact u20_14
  have u21_15 : ev21 15 = eJ G 5 (fun _ => 0) := by rw [o21, va_up_ne _ _ (by decide)]; exact u20_15
  have u21_16 : ev21 16 = eJ G 5 (fun _ => 0) := by rw [o21, va_up_ne _ _ (by decide)]; exact u20_16
  have u21_17 : ev21 17 = eB G 16 (fun _ => 0) := by rw [o21, va_up_ne _ _ (by decide)]; exact u20_17
  have u21_18 : ev21 18 = eO 0 [.ref (q19), .ref (q21), .ref (q22), .ref (q23), .ref (q24), .ref (q25), .ref (q26), .ref (q27), .ref (q28), .ref (q29), .ref (q30), .ref (q31), .ref (q32), .ref (q33)] := by rw [o21, va_up_ne _ _ (by decide)]; exact c20_18
  have u21_19 : ev21 19 = eO 1 [.int (nI (10)), .int (nI (21)), .long (19), .long (608), .ref (q20)] := by rw [o21, va_up_ne _ _ (by decide)]; exact c20_19
  have u21_20 : ev21 20 = eJ G 20 (fun _ => 0) := by rw [o21, va_up_ne _ _ (by decide)]; exact c20_20
  have u21_21 : ev21 21 = eB G 32 (fun _ => 0) := by rw [o21, va_up_ne _ _ (by decide)]; exact c20_21
  have u21_22 : ev21 22 = eJ G 10 (fun _ => 0) := by rw [o21, va_up_ne _ _ (by decide)]; exact c20_22
  have u21_23 : ev21 23 = eJ G 10 (fun _ => 0) := by rw [o21, va_up_ne _ _ (by decide)]; exact c20_23
  have u21_24 : ev21 24 = eJ G 10 (fun _ => 0) := by rw [o21, va_up_ne _ _ (by decide)]; exact c20_24
  have u21_25 : ev21 25 = eJ G 10 (fun _ => 0) := by rw [o21, va_up_ne _ _ (by decide)]; exact c20_25
  have u21_26 : ev21 26 = eJ G 10 (fun _ => 0) := by rw [o21, va_up_ne _ _ (by decide)]; exact c20_26
  have u21_27 : ev21 27 = eJ G 10 (fun _ => 0) := by rw [o21, va_up_ne _ _ (by decide)]; exact c20_27
  have u21_28 : ev21 28 = eJ G 10 (fun _ => 0) := by rw [o21, va_up_ne _ _ (by decide)]; exact c20_28
  have u21_29 : ev21 29 = eJ G 10 (fun _ => 0) := by rw [o21, va_up_ne _ _ (by decide)]; exact c20_29
  have u21_30 : ev21 30 = eJ G 10 (fun _ => 0) := by rw [o21, va_up_ne _ _ (by decide)]; exact c20_30
  have u21_31 : ev21 31 = eJ G 10 (fun _ => 0) := by rw [o21, va_up_ne _ _ (by decide)]; exact c20_31
  have u21_32 : ev21 32 = eJ G 10 (fun _ => 0) := by rw [o21, va_up_ne _ _ (by decide)]; exact c20_32
  have u21_33 : ev21 33 = eJ G 10 (fun _ => 0) := by rw [o21, va_up_ne _ _ (by decide)]; exact c20_33
  have u21_0 : ev21 0 = eO 4 [.ref (q1), .ref (q2), .ref (q3), .ref (q4), .ref (q5), .int (nI (0)), .int (nI (0)), .ref (q6), .ref (q12), .ref (q18), .null, .null, .null] := by rw [o21, va_up_self]
  refine lv_aload_n hx hb d_NB_init_87 rfl (lv_at hl 0 rfl) ?_
  refine lv_bipush (v := nI (32)) hx hb d_NB_init_88 (by decide) ?_
  refine wv_newB hx hb (hts _ (List.mem_cons_of_mem _ ka_byte)) h (N := 32) rfl (by decide) (Nat.le_of_ble_eq_true rfl) (Nat.le_of_ble_eq_true rfl) d_NB_init_90 (fun q34 H h => ?_)
  obtain ⟨ev22, o22⟩ : ∃ z, z = va_up ev21 34 (eB G 32 (fun _ => 0)) := ⟨_, rfl⟩
  rw [← o22] at h
  have u22_0 : ev22 0 = eO 4 [.ref (q1), .ref (q2), .ref (q3), .ref (q4), .ref (q5), .int (nI (0)), .int (nI (0)), .ref (q6), .ref (q12), .ref (q18), .null, .null, .null] := by rw [o22, va_up_ne _ _ (by decide)]; exact u21_0
  have u22_1 : ev22 1 = eB G 32 (fun _ => 0) := by rw [o22, va_up_ne _ _ (by decide)]; exact u21_1
  have u22_2 : ev22 2 = eB G 24 (fun _ => 0) := by rw [o22, va_up_ne _ _ (by decide)]; exact u21_2
  have u22_3 : ev22 3 = eB G 32 (fun _ => 0) := by rw [o22, va_up_ne _ _ (by decide)]; exact u21_3
  have u22_4 : ev22 4 = eB G 112 (fun _ => 0) := by rw [o22, va_up_ne _ _ (by decide)]; exact u21_4
  have u22_5 : ev22 5 = eB G 112 (fun _ => 0) := by rw [o22, va_up_ne _ _ (by decide)]; exact u21_5
  have u22_6 : ev22 6 = eO 2 [.ref (q7), .ref (q8), .ref (q9), .ref (q10), .ref (q11)] := by rw [o22, va_up_ne _ _ (by decide)]; exact u21_6
  have u22_7 : ev22 7 = eI G 16 (fun _ => 0) := by rw [o22, va_up_ne _ _ (by decide)]; exact u21_7
  have u22_8 : ev22 8 = eI G 16 (fun _ => 0) := by rw [o22, va_up_ne _ _ (by decide)]; exact u21_8
  have u22_9 : ev22 9 = eB G 32 (fun _ => 0) := by rw [o22, va_up_ne _ _ (by decide)]; exact u21_9
  have u22_10 : ev22 10 = eB G 16 (fun _ => 0) := by rw [o22, va_up_ne _ _ (by decide)]; exact u21_10
  have u22_11 : ev22 11 = eB G 128 (fun _ => 0) := by rw [o22, va_up_ne _ _ (by decide)]; exact u21_11
  have u22_12 : ev22 12 = eO 3 [.ref (q13), .ref (q15), .ref (q16), .ref (q17)] := by rw [o22, va_up_ne _ _ (by decide)]; exact u21_12
  have u22_13 : ev22 13 = eO 1 [.int (nI (5)), .int (nI (26)), .long (5), .long (5), .ref (q14)] := by rw [o22, va_up_ne _ _ (by decide)]; exact u21_13
  have u22_14 : ev22 14 = eJ G 10 (fun _ => 0) := by rw [o22, va_up_ne _ _ (by decide)]; exact u21_14
  have u22_15 : ev22 15 = eJ G 5 (fun _ => 0) := by rw [o22, va_up_ne _ _ (by decide)]; exact u21_15
  have u22_16 : ev22 16 = eJ G 5 (fun _ => 0) := by rw [o22, va_up_ne _ _ (by decide)]; exact u21_16
  have u22_17 : ev22 17 = eB G 16 (fun _ => 0) := by rw [o22, va_up_ne _ _ (by decide)]; exact u21_17
  have u22_18 : ev22 18 = eO 0 [.ref (q19), .ref (q21), .ref (q22), .ref (q23), .ref (q24), .ref (q25), .ref (q26), .ref (q27), .ref (q28), .ref (q29), .ref (q30), .ref (q31), .ref (q32), .ref (q33)] := by rw [o22, va_up_ne _ _ (by decide)]; exact u21_18
  have u22_19 : ev22 19 = eO 1 [.int (nI (10)), .int (nI (21)), .long (19), .long (608), .ref (q20)] := by rw [o22, va_up_ne _ _ (by decide)]; exact u21_19
  have u22_20 : ev22 20 = eJ G 20 (fun _ => 0) := by rw [o22, va_up_ne _ _ (by decide)]; exact u21_20
  have u22_21 : ev22 21 = eB G 32 (fun _ => 0) := by rw [o22, va_up_ne _ _ (by decide)]; exact u21_21
  have u22_22 : ev22 22 = eJ G 10 (fun _ => 0) := by rw [o22, va_up_ne _ _ (by decide)]; exact u21_22
  have u22_23 : ev22 23 = eJ G 10 (fun _ => 0) := by rw [o22, va_up_ne _ _ (by decide)]; exact u21_23
  have u22_24 : ev22 24 = eJ G 10 (fun _ => 0) := by rw [o22, va_up_ne _ _ (by decide)]; exact u21_24
  have u22_25 : ev22 25 = eJ G 10 (fun _ => 0) := by rw [o22, va_up_ne _ _ (by decide)]; exact u21_25
  have u22_26 : ev22 26 = eJ G 10 (fun _ => 0) := by rw [o22, va_up_ne _ _ (by decide)]; exact u21_26
  have u22_27 : ev22 27 = eJ G 10 (fun _ => 0) := by rw [o22, va_up_ne _ _ (by decide)]; exact u21_27
  have u22_28 : ev22 28 = eJ G 10 (fun _ => 0) := by rw [o22, va_up_ne _ _ (by decide)]; exact u21_28
  have u22_29 : ev22 29 = eJ G 10 (fun _ => 0) := by rw [o22, va_up_ne _ _ (by decide)]; exact u21_29
  have u22_30 : ev22 30 = eJ G 10 (fun _ => 0) := by rw [o22, va_up_ne _ _ (by decide)]; exact u21_30
  have u22_31 : ev22 31 = eJ G 10 (fun _ => 0) := by rw [o22, va_up_ne _ _ (by decide)]; exact u21_31
  have u22_32 : ev22 32 = eJ G 10 (fun _ => 0) := by rw [o22, va_up_ne _ _ (by decide)]; exact u21_32
  have u22_33 : ev22 33 = eJ G 10 (fun _ => 0) := by rw [o22, va_up_ne _ _ (by decide)]; exact u21_33
  have u22_34 : ev22 34 = eB G 32 (fun _ => 0) := by rw [o22, va_up_self]
  obtain ⟨ad22, ha22⟩ : ∃ z, z = va_up ad20 34 q34 := ⟨_, rfl⟩
  rw [← ha22] at h
  have a22_0 : ad22 0 = b := by rw [ha22, va_up_ne _ _ (by decide)]; exact a20_0
  have a22_1 : ad22 1 = q1 := by rw [ha22, va_up_ne _ _ (by decide)]; exact a20_1
  have a22_2 : ad22 2 = q2 := by rw [ha22, va_up_ne _ _ (by decide)]; exact a20_2
  have a22_3 : ad22 3 = q3 := by rw [ha22, va_up_ne _ _ (by decide)]; exact a20_3
  have a22_4 : ad22 4 = q4 := by rw [ha22, va_up_ne _ _ (by decide)]; exact a20_4
  have a22_5 : ad22 5 = q5 := by rw [ha22, va_up_ne _ _ (by decide)]; exact a20_5
  have a22_6 : ad22 6 = q6 := by rw [ha22, va_up_ne _ _ (by decide)]; exact a20_6
  have a22_7 : ad22 7 = q7 := by rw [ha22, va_up_ne _ _ (by decide)]; exact a20_7
  have a22_8 : ad22 8 = q8 := by rw [ha22, va_up_ne _ _ (by decide)]; exact a20_8
  have a22_9 : ad22 9 = q9 := by rw [ha22, va_up_ne _ _ (by decide)]; exact a20_9
  have a22_10 : ad22 10 = q10 := by rw [ha22, va_up_ne _ _ (by decide)]; exact a20_10
  have a22_11 : ad22 11 = q11 := by rw [ha22, va_up_ne _ _ (by decide)]; exact a20_11
  have a22_12 : ad22 12 = q12 := by rw [ha22, va_up_ne _ _ (by decide)]; exact a20_12
  have a22_13 : ad22 13 = q13 := by rw [ha22, va_up_ne _ _ (by decide)]; exact a20_13
  have a22_14 : ad22 14 = q14 := by rw [ha22, va_up_ne _ _ (by decide)]; exact a20_14
  have a22_15 : ad22 15 = q15 := by rw [ha22, va_up_ne _ _ (by decide)]; exact a20_15
  have a22_16 : ad22 16 = q16 := by rw [ha22, va_up_ne _ _ (by decide)]; exact a20_16
  have a22_17 : ad22 17 = q17 := by rw [ha22, va_up_ne _ _ (by decide)]; exact a20_17
  have a22_18 : ad22 18 = q18 := by rw [ha22, va_up_ne _ _ (by decide)]; exact a20_18
  have a22_19 : ad22 19 = q19 := by rw [ha22, va_up_ne _ _ (by decide)]; exact e19.symm
  have a22_20 : ad22 20 = q20 := by rw [ha22, va_up_ne _ _ (by decide)]; exact e20.symm
  have a22_21 : ad22 21 = q21 := by rw [ha22, va_up_ne _ _ (by decide)]; exact e21.symm
  have a22_22 : ad22 22 = q22 := by rw [ha22, va_up_ne _ _ (by decide)]; exact e22.symm
  have a22_23 : ad22 23 = q23 := by rw [ha22, va_up_ne _ _ (by decide)]; exact e23.symm
  have a22_24 : ad22 24 = q24 := by rw [ha22, va_up_ne _ _ (by decide)]; exact e24.symm
  have a22_25 : ad22 25 = q25 := by rw [ha22, va_up_ne _ _ (by decide)]; exact e25.symm
  have a22_26 : ad22 26 = q26 := by rw [ha22, va_up_ne _ _ (by decide)]; exact e26.symm
  have a22_27 : ad22 27 = q27 := by rw [ha22, va_up_ne _ _ (by decide)]; exact e27.symm
  have a22_28 : ad22 28 = q28 := by rw [ha22, va_up_ne _ _ (by decide)]; exact e28.symm
  have a22_29 : ad22 29 = q29 := by rw [ha22, va_up_ne _ _ (by decide)]; exact e29.symm
  have a22_30 : ad22 30 = q30 := by rw [ha22, va_up_ne _ _ (by decide)]; exact e30.symm
  have a22_31 : ad22 31 = q31 := by rw [ha22, va_up_ne _ _ (by decide)]; exact e31.symm
  have a22_32 : ad22 32 = q32 := by rw [ha22, va_up_ne _ _ (by decide)]; exact e32.symm
  have a22_33 : ad22 33 = q33 := by rw [ha22, va_up_ne _ _ (by decide)]; exact e33.symm
  have a22_34 : ad22 34 = q34 := by rw [ha22, va_up_self]
  refine wv_adr2 a22_0 ?_
  refine wv_putF hx hb h 0 (by decide) (fs := [.ref (q1), .ref (q2), .ref (q3), .ref (q4), .ref (q5), .int (nI (0)), .int (nI (0)), .ref (q6), .ref (q12), .ref (q18), .null, .null, .null]) u22_0 hts (fun w hw => List.mem_cons_of_mem _ (fW_NB w hw)) fY_NB fK_NB fN_NB hown (ci := 4) (C := "NonceBox") (T := fT_NB) (N := 13) rfl 10 (by decide) (hts _ (List.mem_cons_of_mem _ kf_NB_53)) rfl rfl (hini rfl) rfl (v := .ref (q34)) rfl rfl (Nat.le_of_ble_eq_true rfl) d_NB_init_92 (fun H locs h => ?_)
  have h : wT G A 35 ad22 (va_up ev22 0 (eO 4 [.ref (q1), .ref (q2), .ref (q3), .ref (q4), .ref (q5), .int (nI (0)), .int (nI (0)), .ref (q6), .ref (q12), .ref (q18), .ref (q34), .null, .null])) s H locs := h
  obtain ⟨ev23, o23⟩ : ∃ z, z = va_up ev22 0 (eO 4 [.ref (q1), .ref (q2), .ref (q3), .ref (q4), .ref (q5), .int (nI (0)), .int (nI (0)), .ref (q6), .ref (q12), .ref (q18), .ref (q34), .null, .null]) := ⟨_, rfl⟩
  rw [← o23] at h
  have u23_1 : ev23 1 = eB G 32 (fun _ => 0) := by rw [o23, va_up_ne _ _ (by decide)]; exact u22_1
  have u23_2 : ev23 2 = eB G 24 (fun _ => 0) := by rw [o23, va_up_ne _ _ (by decide)]; exact u22_2
  have u23_3 : ev23 3 = eB G 32 (fun _ => 0) := by rw [o23, va_up_ne _ _ (by decide)]; exact u22_3
  have u23_4 : ev23 4 = eB G 112 (fun _ => 0) := by rw [o23, va_up_ne _ _ (by decide)]; exact u22_4
  have u23_5 : ev23 5 = eB G 112 (fun _ => 0) := by rw [o23, va_up_ne _ _ (by decide)]; exact u22_5
  have u23_6 : ev23 6 = eO 2 [.ref (q7), .ref (q8), .ref (q9), .ref (q10), .ref (q11)] := by rw [o23, va_up_ne _ _ (by decide)]; exact u22_6
  have u23_7 : ev23 7 = eI G 16 (fun _ => 0) := by rw [o23, va_up_ne _ _ (by decide)]; exact u22_7
  have u23_8 : ev23 8 = eI G 16 (fun _ => 0) := by rw [o23, va_up_ne _ _ (by decide)]; exact u22_8
  have u23_9 : ev23 9 = eB G 32 (fun _ => 0) := by rw [o23, va_up_ne _ _ (by decide)]; exact u22_9
  have u23_10 : ev23 10 = eB G 16 (fun _ => 0) := by rw [o23, va_up_ne _ _ (by decide)]; exact u22_10
  have u23_11 : ev23 11 = eB G 128 (fun _ => 0) := by rw [o23, va_up_ne _ _ (by decide)]; exact u22_11
  have u23_12 : ev23 12 = eO 3 [.ref (q13), .ref (q15), .ref (q16), .ref (q17)] := by rw [o23, va_up_ne _ _ (by decide)]; exact u22_12
  have u23_13 : ev23 13 = eO 1 [.int (nI (5)), .int (nI (26)), .long (5), .long (5), .ref (q14)] := by rw [o23, va_up_ne _ _ (by decide)]; exact u22_13
  have u23_14 : ev23 14 = eJ G 10 (fun _ => 0) := by rw [o23, va_up_ne _ _ (by decide)]; exact u22_14
  have u23_15 : ev23 15 = eJ G 5 (fun _ => 0) := by rw [o23, va_up_ne _ _ (by decide)]; exact u22_15
  have u23_16 : ev23 16 = eJ G 5 (fun _ => 0) := by rw [o23, va_up_ne _ _ (by decide)]; exact u22_16
  have u23_17 : ev23 17 = eB G 16 (fun _ => 0) := by rw [o23, va_up_ne _ _ (by decide)]; exact u22_17
  have u23_18 : ev23 18 = eO 0 [.ref (q19), .ref (q21), .ref (q22), .ref (q23), .ref (q24), .ref (q25), .ref (q26), .ref (q27), .ref (q28), .ref (q29), .ref (q30), .ref (q31), .ref (q32), .ref (q33)] := by rw [o23, va_up_ne _ _ (by decide)]; exact u22_18
  have u23_19 : ev23 19 = eO 1 [.int (nI (10)), .int (nI (21)), .long (19), .long (608), .ref (q20)] := by rw [o23, va_up_ne _ _ (by decide)]; exact u22_19
  have u23_20 : ev23 20 = eJ G 20 (fun _ => 0) := by rw [o23, va_up_ne _ _ (by decide)]; exact u22_20
  have u23_21 : ev23 21 = eB G 32 (fun _ => 0) := by rw [o23, va_up_ne _ _ (by decide)]; exact u22_21
  have u23_22 : ev23 22 = eJ G 10 (fun _ => 0) := by rw [o23, va_up_ne _ _ (by decide)]; exact u22_22
  have u23_23 : ev23 23 = eJ G 10 (fun _ => 0) := by rw [o23, va_up_ne _ _ (by decide)]; exact u22_23
  have u23_24 : ev23 24 = eJ G 10 (fun _ => 0) := by rw [o23, va_up_ne _ _ (by decide)]; exact u22_24
  have u23_25 : ev23 25 = eJ G 10 (fun _ => 0) := by rw [o23, va_up_ne _ _ (by decide)]; exact u22_25
  have u23_26 : ev23 26 = eJ G 10 (fun _ => 0) := by rw [o23, va_up_ne _ _ (by decide)]; exact u22_26
  have u23_27 : ev23 27 = eJ G 10 (fun _ => 0) := by rw [o23, va_up_ne _ _ (by decide)]; exact u22_27
  have u23_28 : ev23 28 = eJ G 10 (fun _ => 0) := by rw [o23, va_up_ne _ _ (by decide)]; exact u22_28
  have u23_29 : ev23 29 = eJ G 10 (fun _ => 0) := by rw [o23, va_up_ne _ _ (by decide)]; exact u22_29
  have u23_30 : ev23 30 = eJ G 10 (fun _ => 0) := by rw [o23, va_up_ne _ _ (by decide)]; exact u22_30
  have u23_31 : ev23 31 = eJ G 10 (fun _ => 0) := by rw [o23, va_up_ne _ _ (by decide)]; exact u22_31
  have u23_32 : ev23 32 = eJ G 10 (fun _ => 0) := by rw [o23, va_up_ne _ _ (by decide)]; exact u22_32
  have u23_33 : ev23 33 = eJ G 10 (fun _ => 0) := by rw [o23, va_up_ne _ _ (by decide)]; exact u22_33
  have u23_34 : ev23 34 = eB G 32 (fun _ => 0) := by rw [o23, va_up_ne _ _ (by decide)]; exact u22_34
  have u23_0 : ev23 0 = eO 4 [.ref (q1), .ref (q2), .ref (q3), .ref (q4), .ref (q5), .int (nI (0)), .int (nI (0)), .ref (q6), .ref (q12), .ref (q18), .ref (q34), .null, .null] := by rw [o23, va_up_self]
  refine lv_aload_n hx hb d_NB_init_95 rfl (lv_at hl 0 rfl) ?_
  refine lv_bipush (v := nI (16)) hx hb d_NB_init_96 (by decide) ?_
  refine wv_newB hx hb (hts _ (List.mem_cons_of_mem _ ka_byte)) h (N := 16) rfl (by decide) (Nat.le_of_ble_eq_true rfl) (Nat.le_of_ble_eq_true rfl) d_NB_init_98 (fun q35 H h => ?_)
  obtain ⟨ev24, o24⟩ : ∃ z, z = va_up ev23 35 (eB G 16 (fun _ => 0)) := ⟨_, rfl⟩
  rw [← o24] at h
  have u24_0 : ev24 0 = eO 4 [.ref (q1), .ref (q2), .ref (q3), .ref (q4), .ref (q5), .int (nI (0)), .int (nI (0)), .ref (q6), .ref (q12), .ref (q18), .ref (q34), .null, .null] := by rw [o24, va_up_ne _ _ (by decide)]; exact u23_0
  have u24_1 : ev24 1 = eB G 32 (fun _ => 0) := by rw [o24, va_up_ne _ _ (by decide)]; exact u23_1
  have u24_2 : ev24 2 = eB G 24 (fun _ => 0) := by rw [o24, va_up_ne _ _ (by decide)]; exact u23_2
  have u24_3 : ev24 3 = eB G 32 (fun _ => 0) := by rw [o24, va_up_ne _ _ (by decide)]; exact u23_3
  have u24_4 : ev24 4 = eB G 112 (fun _ => 0) := by rw [o24, va_up_ne _ _ (by decide)]; exact u23_4
  have u24_5 : ev24 5 = eB G 112 (fun _ => 0) := by rw [o24, va_up_ne _ _ (by decide)]; exact u23_5
  have u24_6 : ev24 6 = eO 2 [.ref (q7), .ref (q8), .ref (q9), .ref (q10), .ref (q11)] := by rw [o24, va_up_ne _ _ (by decide)]; exact u23_6
  have u24_7 : ev24 7 = eI G 16 (fun _ => 0) := by rw [o24, va_up_ne _ _ (by decide)]; exact u23_7
  have u24_8 : ev24 8 = eI G 16 (fun _ => 0) := by rw [o24, va_up_ne _ _ (by decide)]; exact u23_8
  have u24_9 : ev24 9 = eB G 32 (fun _ => 0) := by rw [o24, va_up_ne _ _ (by decide)]; exact u23_9
  have u24_10 : ev24 10 = eB G 16 (fun _ => 0) := by rw [o24, va_up_ne _ _ (by decide)]; exact u23_10
  have u24_11 : ev24 11 = eB G 128 (fun _ => 0) := by rw [o24, va_up_ne _ _ (by decide)]; exact u23_11
  have u24_12 : ev24 12 = eO 3 [.ref (q13), .ref (q15), .ref (q16), .ref (q17)] := by rw [o24, va_up_ne _ _ (by decide)]; exact u23_12
  have u24_13 : ev24 13 = eO 1 [.int (nI (5)), .int (nI (26)), .long (5), .long (5), .ref (q14)] := by rw [o24, va_up_ne _ _ (by decide)]; exact u23_13
  have u24_14 : ev24 14 = eJ G 10 (fun _ => 0) := by rw [o24, va_up_ne _ _ (by decide)]; exact u23_14
  have u24_15 : ev24 15 = eJ G 5 (fun _ => 0) := by rw [o24, va_up_ne _ _ (by decide)]; exact u23_15
  have u24_16 : ev24 16 = eJ G 5 (fun _ => 0) := by rw [o24, va_up_ne _ _ (by decide)]; exact u23_16
  have u24_17 : ev24 17 = eB G 16 (fun _ => 0) := by rw [o24, va_up_ne _ _ (by decide)]; exact u23_17
  have u24_18 : ev24 18 = eO 0 [.ref (q19), .ref (q21), .ref (q22), .ref (q23), .ref (q24), .ref (q25), .ref (q26), .ref (q27), .ref (q28), .ref (q29), .ref (q30), .ref (q31), .ref (q32), .ref (q33)] := by rw [o24, va_up_ne _ _ (by decide)]; exact u23_18
  have u24_19 : ev24 19 = eO 1 [.int (nI (10)), .int (nI (21)), .long (19), .long (608), .ref (q20)] := by rw [o24, va_up_ne _ _ (by decide)]; exact u23_19
  have u24_20 : ev24 20 = eJ G 20 (fun _ => 0) := by rw [o24, va_up_ne _ _ (by decide)]; exact u23_20
  have u24_21 : ev24 21 = eB G 32 (fun _ => 0) := by rw [o24, va_up_ne _ _ (by decide)]; exact u23_21
  have u24_22 : ev24 22 = eJ G 10 (fun _ => 0) := by rw [o24, va_up_ne _ _ (by decide)]; exact u23_22
  have u24_23 : ev24 23 = eJ G 10 (fun _ => 0) := by rw [o24, va_up_ne _ _ (by decide)]; exact u23_23
  have u24_24 : ev24 24 = eJ G 10 (fun _ => 0) := by rw [o24, va_up_ne _ _ (by decide)]; exact u23_24
  have u24_25 : ev24 25 = eJ G 10 (fun _ => 0) := by rw [o24, va_up_ne _ _ (by decide)]; exact u23_25
  have u24_26 : ev24 26 = eJ G 10 (fun _ => 0) := by rw [o24, va_up_ne _ _ (by decide)]; exact u23_26
  have u24_27 : ev24 27 = eJ G 10 (fun _ => 0) := by rw [o24, va_up_ne _ _ (by decide)]; exact u23_27
  have u24_28 : ev24 28 = eJ G 10 (fun _ => 0) := by rw [o24, va_up_ne _ _ (by decide)]; exact u23_28
  have u24_29 : ev24 29 = eJ G 10 (fun _ => 0) := by rw [o24, va_up_ne _ _ (by decide)]; exact u23_29
  have u24_30 : ev24 30 = eJ G 10 (fun _ => 0) := by rw [o24, va_up_ne _ _ (by decide)]; exact u23_30
  have u24_31 : ev24 31 = eJ G 10 (fun _ => 0) := by rw [o24, va_up_ne _ _ (by decide)]; exact u23_31
  have u24_32 : ev24 32 = eJ G 10 (fun _ => 0) := by rw [o24, va_up_ne _ _ (by decide)]; exact u23_32
  have u24_33 : ev24 33 = eJ G 10 (fun _ => 0) := by rw [o24, va_up_ne _ _ (by decide)]; exact u23_33
  have u24_34 : ev24 34 = eB G 32 (fun _ => 0) := by rw [o24, va_up_ne _ _ (by decide)]; exact u23_34
  have u24_35 : ev24 35 = eB G 16 (fun _ => 0) := by rw [o24, va_up_self]
  obtain ⟨ad24, ha24⟩ : ∃ z, z = va_up ad22 35 q35 := ⟨_, rfl⟩
  rw [← ha24] at h
  have a24_0 : ad24 0 = b := by rw [ha24, va_up_ne _ _ (by decide)]; exact a22_0
  have a24_1 : ad24 1 = q1 := by rw [ha24, va_up_ne _ _ (by decide)]; exact a22_1
  have a24_2 : ad24 2 = q2 := by rw [ha24, va_up_ne _ _ (by decide)]; exact a22_2
  have a24_3 : ad24 3 = q3 := by rw [ha24, va_up_ne _ _ (by decide)]; exact a22_3
  have a24_4 : ad24 4 = q4 := by rw [ha24, va_up_ne _ _ (by decide)]; exact a22_4
  have a24_5 : ad24 5 = q5 := by rw [ha24, va_up_ne _ _ (by decide)]; exact a22_5
  have a24_6 : ad24 6 = q6 := by rw [ha24, va_up_ne _ _ (by decide)]; exact a22_6
  have a24_7 : ad24 7 = q7 := by rw [ha24, va_up_ne _ _ (by decide)]; exact a22_7
  have a24_8 : ad24 8 = q8 := by rw [ha24, va_up_ne _ _ (by decide)]; exact a22_8
  have a24_9 : ad24 9 = q9 := by rw [ha24, va_up_ne _ _ (by decide)]; exact a22_9
  have a24_10 : ad24 10 = q10 := by rw [ha24, va_up_ne _ _ (by decide)]; exact a22_10
  have a24_11 : ad24 11 = q11 := by rw [ha24, va_up_ne _ _ (by decide)]; exact a22_11
  have a24_12 : ad24 12 = q12 := by rw [ha24, va_up_ne _ _ (by decide)]; exact a22_12
  have a24_13 : ad24 13 = q13 := by rw [ha24, va_up_ne _ _ (by decide)]; exact a22_13
  have a24_14 : ad24 14 = q14 := by rw [ha24, va_up_ne _ _ (by decide)]; exact a22_14
  have a24_15 : ad24 15 = q15 := by rw [ha24, va_up_ne _ _ (by decide)]; exact a22_15
  have a24_16 : ad24 16 = q16 := by rw [ha24, va_up_ne _ _ (by decide)]; exact a22_16
  have a24_17 : ad24 17 = q17 := by rw [ha24, va_up_ne _ _ (by decide)]; exact a22_17
  have a24_18 : ad24 18 = q18 := by rw [ha24, va_up_ne _ _ (by decide)]; exact a22_18
  have a24_19 : ad24 19 = q19 := by rw [ha24, va_up_ne _ _ (by decide)]; exact a22_19
  have a24_20 : ad24 20 = q20 := by rw [ha24, va_up_ne _ _ (by decide)]; exact a22_20
  have a24_21 : ad24 21 = q21 := by rw [ha24, va_up_ne _ _ (by decide)]; exact a22_21
  have a24_22 : ad24 22 = q22 := by rw [ha24, va_up_ne _ _ (by decide)]; exact a22_22
  have a24_23 : ad24 23 = q23 := by rw [ha24, va_up_ne _ _ (by decide)]; exact a22_23
  have a24_24 : ad24 24 = q24 := by rw [ha24, va_up_ne _ _ (by decide)]; exact a22_24
  have a24_25 : ad24 25 = q25 := by rw [ha24, va_up_ne _ _ (by decide)]; exact a22_25
  have a24_26 : ad24 26 = q26 := by rw [ha24, va_up_ne _ _ (by decide)]; exact a22_26
  have a24_27 : ad24 27 = q27 := by rw [ha24, va_up_ne _ _ (by decide)]; exact a22_27
  have a24_28 : ad24 28 = q28 := by rw [ha24, va_up_ne _ _ (by decide)]; exact a22_28
  have a24_29 : ad24 29 = q29 := by rw [ha24, va_up_ne _ _ (by decide)]; exact a22_29
  have a24_30 : ad24 30 = q30 := by rw [ha24, va_up_ne _ _ (by decide)]; exact a22_30
  have a24_31 : ad24 31 = q31 := by rw [ha24, va_up_ne _ _ (by decide)]; exact a22_31
  have a24_32 : ad24 32 = q32 := by rw [ha24, va_up_ne _ _ (by decide)]; exact a22_32
  have a24_33 : ad24 33 = q33 := by rw [ha24, va_up_ne _ _ (by decide)]; exact a22_33
  have a24_34 : ad24 34 = q34 := by rw [ha24, va_up_ne _ _ (by decide)]; exact a22_34
  have a24_35 : ad24 35 = q35 := by rw [ha24, va_up_self]
  refine wv_adr2 a24_0 ?_
  refine wv_putF hx hb h 0 (by decide) (fs := [.ref (q1), .ref (q2), .ref (q3), .ref (q4), .ref (q5), .int (nI (0)), .int (nI (0)), .ref (q6), .ref (q12), .ref (q18), .ref (q34), .null, .null]) u24_0 hts (fun w hw => List.mem_cons_of_mem _ (fW_NB w hw)) fY_NB fK_NB fN_NB hown (ci := 4) (C := "NonceBox") (T := fT_NB) (N := 13) rfl 11 (by decide) (hts _ (List.mem_cons_of_mem _ kf_NB_56)) rfl rfl (hini rfl) rfl (v := .ref (q35)) rfl rfl (Nat.le_of_ble_eq_true rfl) d_NB_init_100 (fun H locs h => ?_)
  have h : wT G A 36 ad24 (va_up ev24 0 (eO 4 [.ref (q1), .ref (q2), .ref (q3), .ref (q4), .ref (q5), .int (nI (0)), .int (nI (0)), .ref (q6), .ref (q12), .ref (q18), .ref (q34), .ref (q35), .null])) s H locs := h
  obtain ⟨ev25, o25⟩ : ∃ z, z = va_up ev24 0 (eO 4 [.ref (q1), .ref (q2), .ref (q3), .ref (q4), .ref (q5), .int (nI (0)), .int (nI (0)), .ref (q6), .ref (q12), .ref (q18), .ref (q34), .ref (q35), .null]) := ⟨_, rfl⟩
  rw [← o25] at h
  have u25_1 : ev25 1 = eB G 32 (fun _ => 0) := by rw [o25, va_up_ne _ _ (by decide)]; exact u24_1
  have u25_2 : ev25 2 = eB G 24 (fun _ => 0) := by rw [o25, va_up_ne _ _ (by decide)]; exact u24_2
  have u25_3 : ev25 3 = eB G 32 (fun _ => 0) := by rw [o25, va_up_ne _ _ (by decide)]; exact u24_3
  have u25_4 : ev25 4 = eB G 112 (fun _ => 0) := by rw [o25, va_up_ne _ _ (by decide)]; exact u24_4
  have u25_5 : ev25 5 = eB G 112 (fun _ => 0) := by rw [o25, va_up_ne _ _ (by decide)]; exact u24_5
  have u25_6 : ev25 6 = eO 2 [.ref (q7), .ref (q8), .ref (q9), .ref (q10), .ref (q11)] := by rw [o25, va_up_ne _ _ (by decide)]; exact u24_6
  have u25_7 : ev25 7 = eI G 16 (fun _ => 0) := by rw [o25, va_up_ne _ _ (by decide)]; exact u24_7
  have u25_8 : ev25 8 = eI G 16 (fun _ => 0) := by rw [o25, va_up_ne _ _ (by decide)]; exact u24_8
  have u25_9 : ev25 9 = eB G 32 (fun _ => 0) := by rw [o25, va_up_ne _ _ (by decide)]; exact u24_9
  have u25_10 : ev25 10 = eB G 16 (fun _ => 0) := by rw [o25, va_up_ne _ _ (by decide)]; exact u24_10
  have u25_11 : ev25 11 = eB G 128 (fun _ => 0) := by rw [o25, va_up_ne _ _ (by decide)]; exact u24_11
  have u25_12 : ev25 12 = eO 3 [.ref (q13), .ref (q15), .ref (q16), .ref (q17)] := by rw [o25, va_up_ne _ _ (by decide)]; exact u24_12
  have u25_13 : ev25 13 = eO 1 [.int (nI (5)), .int (nI (26)), .long (5), .long (5), .ref (q14)] := by rw [o25, va_up_ne _ _ (by decide)]; exact u24_13
  have u25_14 : ev25 14 = eJ G 10 (fun _ => 0) := by rw [o25, va_up_ne _ _ (by decide)]; exact u24_14
  have u25_15 : ev25 15 = eJ G 5 (fun _ => 0) := by rw [o25, va_up_ne _ _ (by decide)]; exact u24_15
  have u25_16 : ev25 16 = eJ G 5 (fun _ => 0) := by rw [o25, va_up_ne _ _ (by decide)]; exact u24_16
  have u25_17 : ev25 17 = eB G 16 (fun _ => 0) := by rw [o25, va_up_ne _ _ (by decide)]; exact u24_17
  have u25_18 : ev25 18 = eO 0 [.ref (q19), .ref (q21), .ref (q22), .ref (q23), .ref (q24), .ref (q25), .ref (q26), .ref (q27), .ref (q28), .ref (q29), .ref (q30), .ref (q31), .ref (q32), .ref (q33)] := by rw [o25, va_up_ne _ _ (by decide)]; exact u24_18
  have u25_19 : ev25 19 = eO 1 [.int (nI (10)), .int (nI (21)), .long (19), .long (608), .ref (q20)] := by rw [o25, va_up_ne _ _ (by decide)]; exact u24_19
  have u25_20 : ev25 20 = eJ G 20 (fun _ => 0) := by rw [o25, va_up_ne _ _ (by decide)]; exact u24_20
  have u25_21 : ev25 21 = eB G 32 (fun _ => 0) := by rw [o25, va_up_ne _ _ (by decide)]; exact u24_21
  have u25_22 : ev25 22 = eJ G 10 (fun _ => 0) := by rw [o25, va_up_ne _ _ (by decide)]; exact u24_22
  have u25_23 : ev25 23 = eJ G 10 (fun _ => 0) := by rw [o25, va_up_ne _ _ (by decide)]; exact u24_23
  have u25_24 : ev25 24 = eJ G 10 (fun _ => 0) := by rw [o25, va_up_ne _ _ (by decide)]; exact u24_24
  have u25_25 : ev25 25 = eJ G 10 (fun _ => 0) := by rw [o25, va_up_ne _ _ (by decide)]; exact u24_25
  have u25_26 : ev25 26 = eJ G 10 (fun _ => 0) := by rw [o25, va_up_ne _ _ (by decide)]; exact u24_26
  have u25_27 : ev25 27 = eJ G 10 (fun _ => 0) := by rw [o25, va_up_ne _ _ (by decide)]; exact u24_27
  have u25_28 : ev25 28 = eJ G 10 (fun _ => 0) := by rw [o25, va_up_ne _ _ (by decide)]; exact u24_28
  have u25_29 : ev25 29 = eJ G 10 (fun _ => 0) := by rw [o25, va_up_ne _ _ (by decide)]; exact u24_29
  have u25_30 : ev25 30 = eJ G 10 (fun _ => 0) := by rw [o25, va_up_ne _ _ (by decide)]; exact u24_30
  have u25_31 : ev25 31 = eJ G 10 (fun _ => 0) := by rw [o25, va_up_ne _ _ (by decide)]; exact u24_31
  have u25_32 : ev25 32 = eJ G 10 (fun _ => 0) := by rw [o25, va_up_ne _ _ (by decide)]; exact u24_32
  have u25_33 : ev25 33 = eJ G 10 (fun _ => 0) := by rw [o25, va_up_ne _ _ (by decide)]; exact u24_33
  have u25_34 : ev25 34 = eB G 32 (fun _ => 0) := by rw [o25, va_up_ne _ _ (by decide)]; exact u24_34
  have u25_35 : ev25 35 = eB G 16 (fun _ => 0) := by rw [o25, va_up_ne _ _ (by decide)]; exact u24_35
  have u25_0 : ev25 0 = eO 4 [.ref (q1), .ref (q2), .ref (q3), .ref (q4), .ref (q5), .int (nI (0)), .int (nI (0)), .ref (q6), .ref (q12), .ref (q18), .ref (q34), .ref (q35), .null] := by rw [o25, va_up_self]
  refine lv_aload_n hx hb d_NB_init_103 rfl (lv_at hl 0 rfl) ?_
  refine lv_bipush (v := nI (112)) hx hb d_NB_init_104 (by decide) ?_
  refine wv_newB hx hb (hts _ (List.mem_cons_of_mem _ ka_byte)) h (N := 112) rfl (by decide) (Nat.le_of_ble_eq_true rfl) (Nat.le_of_ble_eq_true rfl) d_NB_init_106 (fun q36 H h => ?_)
  obtain ⟨ev26, o26⟩ : ∃ z, z = va_up ev25 36 (eB G 112 (fun _ => 0)) := ⟨_, rfl⟩
  rw [← o26] at h
  have u26_0 : ev26 0 = eO 4 [.ref (q1), .ref (q2), .ref (q3), .ref (q4), .ref (q5), .int (nI (0)), .int (nI (0)), .ref (q6), .ref (q12), .ref (q18), .ref (q34), .ref (q35), .null] := by rw [o26, va_up_ne _ _ (by decide)]; exact u25_0
  have u26_1 : ev26 1 = eB G 32 (fun _ => 0) := by rw [o26, va_up_ne _ _ (by decide)]; exact u25_1
  have u26_2 : ev26 2 = eB G 24 (fun _ => 0) := by rw [o26, va_up_ne _ _ (by decide)]; exact u25_2
  have u26_3 : ev26 3 = eB G 32 (fun _ => 0) := by rw [o26, va_up_ne _ _ (by decide)]; exact u25_3
  have u26_4 : ev26 4 = eB G 112 (fun _ => 0) := by rw [o26, va_up_ne _ _ (by decide)]; exact u25_4
  have u26_5 : ev26 5 = eB G 112 (fun _ => 0) := by rw [o26, va_up_ne _ _ (by decide)]; exact u25_5
  have u26_6 : ev26 6 = eO 2 [.ref (q7), .ref (q8), .ref (q9), .ref (q10), .ref (q11)] := by rw [o26, va_up_ne _ _ (by decide)]; exact u25_6
  have u26_7 : ev26 7 = eI G 16 (fun _ => 0) := by rw [o26, va_up_ne _ _ (by decide)]; exact u25_7
  have u26_8 : ev26 8 = eI G 16 (fun _ => 0) := by rw [o26, va_up_ne _ _ (by decide)]; exact u25_8
  have u26_9 : ev26 9 = eB G 32 (fun _ => 0) := by rw [o26, va_up_ne _ _ (by decide)]; exact u25_9
  have u26_10 : ev26 10 = eB G 16 (fun _ => 0) := by rw [o26, va_up_ne _ _ (by decide)]; exact u25_10
  have u26_11 : ev26 11 = eB G 128 (fun _ => 0) := by rw [o26, va_up_ne _ _ (by decide)]; exact u25_11
  have u26_12 : ev26 12 = eO 3 [.ref (q13), .ref (q15), .ref (q16), .ref (q17)] := by rw [o26, va_up_ne _ _ (by decide)]; exact u25_12
  have u26_13 : ev26 13 = eO 1 [.int (nI (5)), .int (nI (26)), .long (5), .long (5), .ref (q14)] := by rw [o26, va_up_ne _ _ (by decide)]; exact u25_13
  have u26_14 : ev26 14 = eJ G 10 (fun _ => 0) := by rw [o26, va_up_ne _ _ (by decide)]; exact u25_14
  have u26_15 : ev26 15 = eJ G 5 (fun _ => 0) := by rw [o26, va_up_ne _ _ (by decide)]; exact u25_15
  have u26_16 : ev26 16 = eJ G 5 (fun _ => 0) := by rw [o26, va_up_ne _ _ (by decide)]; exact u25_16
  have u26_17 : ev26 17 = eB G 16 (fun _ => 0) := by rw [o26, va_up_ne _ _ (by decide)]; exact u25_17
  have u26_18 : ev26 18 = eO 0 [.ref (q19), .ref (q21), .ref (q22), .ref (q23), .ref (q24), .ref (q25), .ref (q26), .ref (q27), .ref (q28), .ref (q29), .ref (q30), .ref (q31), .ref (q32), .ref (q33)] := by rw [o26, va_up_ne _ _ (by decide)]; exact u25_18
  have u26_19 : ev26 19 = eO 1 [.int (nI (10)), .int (nI (21)), .long (19), .long (608), .ref (q20)] := by rw [o26, va_up_ne _ _ (by decide)]; exact u25_19
  have u26_20 : ev26 20 = eJ G 20 (fun _ => 0) := by rw [o26, va_up_ne _ _ (by decide)]; exact u25_20
  have u26_21 : ev26 21 = eB G 32 (fun _ => 0) := by rw [o26, va_up_ne _ _ (by decide)]; exact u25_21
  have u26_22 : ev26 22 = eJ G 10 (fun _ => 0) := by rw [o26, va_up_ne _ _ (by decide)]; exact u25_22
  have u26_23 : ev26 23 = eJ G 10 (fun _ => 0) := by rw [o26, va_up_ne _ _ (by decide)]; exact u25_23
  have u26_24 : ev26 24 = eJ G 10 (fun _ => 0) := by rw [o26, va_up_ne _ _ (by decide)]; exact u25_24
  have u26_25 : ev26 25 = eJ G 10 (fun _ => 0) := by rw [o26, va_up_ne _ _ (by decide)]; exact u25_25
  have u26_26 : ev26 26 = eJ G 10 (fun _ => 0) := by rw [o26, va_up_ne _ _ (by decide)]; exact u25_26
  have u26_27 : ev26 27 = eJ G 10 (fun _ => 0) := by rw [o26, va_up_ne _ _ (by decide)]; exact u25_27
  have u26_28 : ev26 28 = eJ G 10 (fun _ => 0) := by rw [o26, va_up_ne _ _ (by decide)]; exact u25_28
  have u26_29 : ev26 29 = eJ G 10 (fun _ => 0) := by rw [o26, va_up_ne _ _ (by decide)]; exact u25_29
  have u26_30 : ev26 30 = eJ G 10 (fun _ => 0) := by rw [o26, va_up_ne _ _ (by decide)]; exact u25_30
  have u26_31 : ev26 31 = eJ G 10 (fun _ => 0) := by rw [o26, va_up_ne _ _ (by decide)]; exact u25_31
  have u26_32 : ev26 32 = eJ G 10 (fun _ => 0) := by rw [o26, va_up_ne _ _ (by decide)]; exact u25_32
  have u26_33 : ev26 33 = eJ G 10 (fun _ => 0) := by rw [o26, va_up_ne _ _ (by decide)]; exact u25_33
  have u26_34 : ev26 34 = eB G 32 (fun _ => 0) := by rw [o26, va_up_ne _ _ (by decide)]; exact u25_34
  have u26_35 : ev26 35 = eB G 16 (fun _ => 0) := by rw [o26, va_up_ne _ _ (by decide)]; exact u25_35
  have u26_36 : ev26 36 = eB G 112 (fun _ => 0) := by rw [o26, va_up_self]
  obtain ⟨ad26, ha26⟩ : ∃ z, z = va_up ad24 36 q36 := ⟨_, rfl⟩
  rw [← ha26] at h
  have a26_0 : ad26 0 = b := by rw [ha26, va_up_ne _ _ (by decide)]; exact a24_0
  have a26_1 : ad26 1 = q1 := by rw [ha26, va_up_ne _ _ (by decide)]; exact a24_1
  have a26_2 : ad26 2 = q2 := by rw [ha26, va_up_ne _ _ (by decide)]; exact a24_2
  have a26_3 : ad26 3 = q3 := by rw [ha26, va_up_ne _ _ (by decide)]; exact a24_3
  have a26_4 : ad26 4 = q4 := by rw [ha26, va_up_ne _ _ (by decide)]; exact a24_4
  have a26_5 : ad26 5 = q5 := by rw [ha26, va_up_ne _ _ (by decide)]; exact a24_5
  have a26_6 : ad26 6 = q6 := by rw [ha26, va_up_ne _ _ (by decide)]; exact a24_6
  have a26_7 : ad26 7 = q7 := by rw [ha26, va_up_ne _ _ (by decide)]; exact a24_7
  have a26_8 : ad26 8 = q8 := by rw [ha26, va_up_ne _ _ (by decide)]; exact a24_8
  have a26_9 : ad26 9 = q9 := by rw [ha26, va_up_ne _ _ (by decide)]; exact a24_9
  have a26_10 : ad26 10 = q10 := by rw [ha26, va_up_ne _ _ (by decide)]; exact a24_10
  have a26_11 : ad26 11 = q11 := by rw [ha26, va_up_ne _ _ (by decide)]; exact a24_11
  have a26_12 : ad26 12 = q12 := by rw [ha26, va_up_ne _ _ (by decide)]; exact a24_12
  have a26_13 : ad26 13 = q13 := by rw [ha26, va_up_ne _ _ (by decide)]; exact a24_13
  have a26_14 : ad26 14 = q14 := by rw [ha26, va_up_ne _ _ (by decide)]; exact a24_14
  have a26_15 : ad26 15 = q15 := by rw [ha26, va_up_ne _ _ (by decide)]; exact a24_15
  have a26_16 : ad26 16 = q16 := by rw [ha26, va_up_ne _ _ (by decide)]; exact a24_16
  have a26_17 : ad26 17 = q17 := by rw [ha26, va_up_ne _ _ (by decide)]; exact a24_17
  have a26_18 : ad26 18 = q18 := by rw [ha26, va_up_ne _ _ (by decide)]; exact a24_18
  have a26_19 : ad26 19 = q19 := by rw [ha26, va_up_ne _ _ (by decide)]; exact a24_19
  have a26_20 : ad26 20 = q20 := by rw [ha26, va_up_ne _ _ (by decide)]; exact a24_20
  have a26_21 : ad26 21 = q21 := by rw [ha26, va_up_ne _ _ (by decide)]; exact a24_21
  have a26_22 : ad26 22 = q22 := by rw [ha26, va_up_ne _ _ (by decide)]; exact a24_22
  have a26_23 : ad26 23 = q23 := by rw [ha26, va_up_ne _ _ (by decide)]; exact a24_23
  have a26_24 : ad26 24 = q24 := by rw [ha26, va_up_ne _ _ (by decide)]; exact a24_24
  have a26_25 : ad26 25 = q25 := by rw [ha26, va_up_ne _ _ (by decide)]; exact a24_25
  have a26_26 : ad26 26 = q26 := by rw [ha26, va_up_ne _ _ (by decide)]; exact a24_26
  have a26_27 : ad26 27 = q27 := by rw [ha26, va_up_ne _ _ (by decide)]; exact a24_27
  have a26_28 : ad26 28 = q28 := by rw [ha26, va_up_ne _ _ (by decide)]; exact a24_28
  have a26_29 : ad26 29 = q29 := by rw [ha26, va_up_ne _ _ (by decide)]; exact a24_29
  have a26_30 : ad26 30 = q30 := by rw [ha26, va_up_ne _ _ (by decide)]; exact a24_30
  have a26_31 : ad26 31 = q31 := by rw [ha26, va_up_ne _ _ (by decide)]; exact a24_31
  have a26_32 : ad26 32 = q32 := by rw [ha26, va_up_ne _ _ (by decide)]; exact a24_32
  have a26_33 : ad26 33 = q33 := by rw [ha26, va_up_ne _ _ (by decide)]; exact a24_33
  have a26_34 : ad26 34 = q34 := by rw [ha26, va_up_ne _ _ (by decide)]; exact a24_34
  have a26_35 : ad26 35 = q35 := by rw [ha26, va_up_ne _ _ (by decide)]; exact a24_35
  have a26_36 : ad26 36 = q36 := by rw [ha26, va_up_self]
  refine wv_adr2 a26_0 ?_
  refine wv_putF hx hb h 0 (by decide) (fs := [.ref (q1), .ref (q2), .ref (q3), .ref (q4), .ref (q5), .int (nI (0)), .int (nI (0)), .ref (q6), .ref (q12), .ref (q18), .ref (q34), .ref (q35), .null]) u26_0 hts (fun w hw => List.mem_cons_of_mem _ (fW_NB w hw)) fY_NB fK_NB fN_NB hown (ci := 4) (C := "NonceBox") (T := fT_NB) (N := 13) rfl 12 (by decide) (hts _ (List.mem_cons_of_mem _ kf_NB_59)) rfl rfl (hini rfl) rfl (v := .ref (q36)) rfl rfl (Nat.le_of_ble_eq_true rfl) d_NB_init_108 (fun H locs h => ?_)
  have h : wT G A 37 ad26 (va_up ev26 0 (eO 4 [.ref (q1), .ref (q2), .ref (q3), .ref (q4), .ref (q5), .int (nI (0)), .int (nI (0)), .ref (q6), .ref (q12), .ref (q18), .ref (q34), .ref (q35), .ref (q36)])) s H locs := h
  obtain ⟨ev27, o27⟩ : ∃ z, z = va_up ev26 0 (eO 4 [.ref (q1), .ref (q2), .ref (q3), .ref (q4), .ref (q5), .int (nI (0)), .int (nI (0)), .ref (q6), .ref (q12), .ref (q18), .ref (q34), .ref (q35), .ref (q36)]) := ⟨_, rfl⟩
  rw [← o27] at h
  have u27_1 : ev27 1 = eB G 32 (fun _ => 0) := by rw [o27, va_up_ne _ _ (by decide)]; exact u26_1
  have u27_2 : ev27 2 = eB G 24 (fun _ => 0) := by rw [o27, va_up_ne _ _ (by decide)]; exact u26_2
  have u27_3 : ev27 3 = eB G 32 (fun _ => 0) := by rw [o27, va_up_ne _ _ (by decide)]; exact u26_3
  have u27_4 : ev27 4 = eB G 112 (fun _ => 0) := by rw [o27, va_up_ne _ _ (by decide)]; exact u26_4
  have u27_5 : ev27 5 = eB G 112 (fun _ => 0) := by rw [o27, va_up_ne _ _ (by decide)]; exact u26_5
  have u27_6 : ev27 6 = eO 2 [.ref (q7), .ref (q8), .ref (q9), .ref (q10), .ref (q11)] := by rw [o27, va_up_ne _ _ (by decide)]; exact u26_6
  have u27_7 : ev27 7 = eI G 16 (fun _ => 0) := by rw [o27, va_up_ne _ _ (by decide)]; exact u26_7
  have u27_8 : ev27 8 = eI G 16 (fun _ => 0) := by rw [o27, va_up_ne _ _ (by decide)]; exact u26_8
  have u27_9 : ev27 9 = eB G 32 (fun _ => 0) := by rw [o27, va_up_ne _ _ (by decide)]; exact u26_9
  have u27_10 : ev27 10 = eB G 16 (fun _ => 0) := by rw [o27, va_up_ne _ _ (by decide)]; exact u26_10
  have u27_11 : ev27 11 = eB G 128 (fun _ => 0) := by rw [o27, va_up_ne _ _ (by decide)]; exact u26_11
  have u27_12 : ev27 12 = eO 3 [.ref (q13), .ref (q15), .ref (q16), .ref (q17)] := by rw [o27, va_up_ne _ _ (by decide)]; exact u26_12
  have u27_13 : ev27 13 = eO 1 [.int (nI (5)), .int (nI (26)), .long (5), .long (5), .ref (q14)] := by rw [o27, va_up_ne _ _ (by decide)]; exact u26_13
  have u27_14 : ev27 14 = eJ G 10 (fun _ => 0) := by rw [o27, va_up_ne _ _ (by decide)]; exact u26_14
  have u27_15 : ev27 15 = eJ G 5 (fun _ => 0) := by rw [o27, va_up_ne _ _ (by decide)]; exact u26_15
  have u27_16 : ev27 16 = eJ G 5 (fun _ => 0) := by rw [o27, va_up_ne _ _ (by decide)]; exact u26_16
  have u27_17 : ev27 17 = eB G 16 (fun _ => 0) := by rw [o27, va_up_ne _ _ (by decide)]; exact u26_17
  have u27_18 : ev27 18 = eO 0 [.ref (q19), .ref (q21), .ref (q22), .ref (q23), .ref (q24), .ref (q25), .ref (q26), .ref (q27), .ref (q28), .ref (q29), .ref (q30), .ref (q31), .ref (q32), .ref (q33)] := by rw [o27, va_up_ne _ _ (by decide)]; exact u26_18
  have u27_19 : ev27 19 = eO 1 [.int (nI (10)), .int (nI (21)), .long (19), .long (608), .ref (q20)] := by rw [o27, va_up_ne _ _ (by decide)]; exact u26_19
  have u27_20 : ev27 20 = eJ G 20 (fun _ => 0) := by rw [o27, va_up_ne _ _ (by decide)]; exact u26_20
  have u27_21 : ev27 21 = eB G 32 (fun _ => 0) := by rw [o27, va_up_ne _ _ (by decide)]; exact u26_21
  have u27_22 : ev27 22 = eJ G 10 (fun _ => 0) := by rw [o27, va_up_ne _ _ (by decide)]; exact u26_22
  have u27_23 : ev27 23 = eJ G 10 (fun _ => 0) := by rw [o27, va_up_ne _ _ (by decide)]; exact u26_23
  have u27_24 : ev27 24 = eJ G 10 (fun _ => 0) := by rw [o27, va_up_ne _ _ (by decide)]; exact u26_24
  have u27_25 : ev27 25 = eJ G 10 (fun _ => 0) := by rw [o27, va_up_ne _ _ (by decide)]; exact u26_25
  have u27_26 : ev27 26 = eJ G 10 (fun _ => 0) := by rw [o27, va_up_ne _ _ (by decide)]; exact u26_26
  have u27_27 : ev27 27 = eJ G 10 (fun _ => 0) := by rw [o27, va_up_ne _ _ (by decide)]; exact u26_27
  have u27_28 : ev27 28 = eJ G 10 (fun _ => 0) := by rw [o27, va_up_ne _ _ (by decide)]; exact u26_28
  have u27_29 : ev27 29 = eJ G 10 (fun _ => 0) := by rw [o27, va_up_ne _ _ (by decide)]; exact u26_29
  have u27_30 : ev27 30 = eJ G 10 (fun _ => 0) := by rw [o27, va_up_ne _ _ (by decide)]; exact u26_30
  have u27_31 : ev27 31 = eJ G 10 (fun _ => 0) := by rw [o27, va_up_ne _ _ (by decide)]; exact u26_31
  have u27_32 : ev27 32 = eJ G 10 (fun _ => 0) := by rw [o27, va_up_ne _ _ (by decide)]; exact u26_32
  have u27_33 : ev27 33 = eJ G 10 (fun _ => 0) := by rw [o27, va_up_ne _ _ (by decide)]; exact u26_33
  have u27_34 : ev27 34 = eB G 32 (fun _ => 0) := by rw [o27, va_up_ne _ _ (by decide)]; exact u26_34
  have u27_35 : ev27 35 = eB G 16 (fun _ => 0) := by rw [o27, va_up_ne _ _ (by decide)]; exact u26_35
  have u27_36 : ev27 36 = eB G 112 (fun _ => 0) := by rw [o27, va_up_ne _ _ (by decide)]; exact u26_36
  have u27_0 : ev27 0 = eO 4 [.ref (q1), .ref (q2), .ref (q3), .ref (q4), .ref (q5), .int (nI (0)), .int (nI (0)), .ref (q6), .ref (q12), .ref (q18), .ref (q34), .ref (q35), .ref (q36)] := by rw [o27, va_up_self]
  exact wv_nret hx hb hr hlocks h d_NB_init_111 ⟨rfl, rfl, (fun k hk => by rw [ha26, va_up_ne _ _ (by omega), ha24, va_up_ne _ _ (by omega), ha22, va_up_ne _ _ (by omega), hA20 k (by omega), ha19, va_up_ne _ _ (by omega), hA17 k (by omega), ha16, va_up_ne _ _ (by omega), hA14 k (by omega), ha13, va_up_ne _ _ (by omega), ha9, va_up_ne _ _ (by omega), ha7, va_up_ne _ _ (by omega), ha5, va_up_ne _ _ (by omega), ha3, va_up_ne _ _ (by omega), ha1, va_up_ne _ _ (by omega)]), (fun k hk => by rw [o27, va_up_ne _ _ (by omega), o26, va_up_ne _ _ (by omega), o25, va_up_ne _ _ (by omega), o24, va_up_ne _ _ (by omega), o23, va_up_ne _ _ (by omega), o22, va_up_ne _ _ (by omega), o21, va_up_ne _ _ (by omega), hE20 k (by omega), o19, va_up_ne _ _ (by omega), o18, va_up_ne _ _ (by omega), hE17 k (by omega), o16, va_up_ne _ _ (by omega), o15, va_up_ne _ _ (by omega), hE14 k (by omega), o13, va_up_ne _ _ (by omega), o12, va_up_ne _ _ (by omega), o11, va_up_ne _ _ (by omega), o10, va_up_ne _ _ (by omega), o9, va_up_ne _ _ (by omega), o8, va_up_ne _ _ (by omega), o7, va_up_ne _ _ (by omega), o6, va_up_ne _ _ (by omega), o5, va_up_ne _ _ (by omega), o4, va_up_ne _ _ (by omega), o3, va_up_ne _ _ (by omega), o2, va_up_ne _ _ (by omega), o1, va_up_ne _ _ (by omega)]), by rw [a26_1, a26_2, a26_3, a26_4, a26_5, a26_6, a26_12, a26_18, a26_34, a26_35, a26_36]; exact u27_0, u27_1, u27_2, u27_3, u27_4, u27_5, by rw [a26_7, a26_8, a26_9, a26_10, a26_11]; exact u27_6, u27_7, u27_8, u27_9, u27_10, u27_11, by rw [a26_13, a26_15, a26_16, a26_17]; exact u27_12, by rw [a26_14]; exact u27_13, u27_14, u27_15, u27_16, u27_17, by rw [a26_19, a26_21, a26_22, a26_23, a26_24, a26_25, a26_26, a26_27, a26_28, a26_29, a26_30, a26_31, a26_32, a26_33]; exact u27_18, by rw [a26_20]; exact u27_19, u27_20, u27_21, u27_22, u27_23, u27_24, u27_25, u27_26, u27_27, u27_28, u27_29, u27_30, u27_31, u27_32, u27_33, u27_34, u27_35, u27_36⟩
