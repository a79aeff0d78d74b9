def R_law : String := "NonceBoxLaw"
def lw_P (b : Addr) (xs : List Int32) (args : Array Value) (s : State) : Prop := args = #[.ref b] ∧ s.IntsAt b xs ∧ xs.length ≤ 2560 ∧ (Jvm.Cond.and given_1 narrow_1).before args s = true
def lw_Q (_ : Array Value) (s : State) (o : Outcome) (t : State) : Prop := o = .returned (some (.int 1)) ∧ Framed s o t [] 601024 7293034
def lw_Z (below : List Frame) (a : Array Value) (s : State) : State → Prop := fun t => ∃ o, t.status = .running ∧ Ended t below o ∧ lw_Q a s o t
/-- the law's own end, with 1 on the stack, nothing written that was there before, its room as the claim has it -/
theorem lw_ret {p : Program} {l : Launch} {e : Env} {s : State} {m : MethodId} {below : List Frame} {meth : Method} {c : Code} {b : Nat} (hx : p.tables.exec = Jvm.exec) (hb : c.code = code) (hr : meth.sig.returnType = ret) (hlocks : meth.locks = false) {pc : Nat} {H : Heap} {ls : Array Slot} (hdg : decode code pc = .ok (.ireturn, 1)) : W p l e room_1 s m #[Value.ref b] below meth c H [] 601024 7293034 (lw_Z below #[Value.ref b] s) (F0 m pc ls [.int 1]) := by
  intro T hT X
  obtain ⟨fs, hret, hrun, hended, hW, hframe⟩ := X.leave (v := some (.int 1)) (hlocks := hlocks) (fun h => by rw [hr] at h; cases h)
  have hmeth' : T.vm.method? m = some meth := X.method'
  refine ⟨T.setFrames fs, ?_, .returned (some (.int 1)), hrun, hended, rfl, ⟨_, rfl⟩, hW, hframe⟩
  jvm_step X.here [X.here.top, hx, hb, hdg, hmeth', hr, ret, narrow_b1]
  (try refine ⟨rfl, ?_⟩); (try refine ⟨rfl, ?_⟩)
  first | (intro acts; rw [hret _ acts rfl rfl rfl]) | rw [hret _ _ rfl rfl rfl]
  exact Steps.refl _
/-- what holds at the law's entry: the machine, the code, the tables' words (any of lw_tbl by 'hts w (by decide +kernel)'), the script of L ints xs at the cell b, what the Statement gives of the start (any of its parts by flat_of_before) -/
def lw_At (p : Program) (s : State) (m : MethodId) (meth : Method) (c : Code) (b L : Nat) (xs : Nat → Int32) : Prop :=
  p.tables.exec = Jvm.exec ∧ c.code = code ∧ meth.sig.returnType = ret ∧ c.maxLocals = 7 ∧ s.vm.findClass R_law = some m.cls ∧ (∀ w ∈ lw_tbl, w.before #[Value.ref b] s = true) ∧ va_X b L xs s s.heap ∧ b < s.heap.size ∧ meth.locks = false ∧ (Jvm.Cond.and given_1 narrow_1).before #[Value.ref b] s = true
theorem lw_sw (x : Int32) : ∃ k, k < 16 ∧ x &&& 15 = nI k := by
  refine ⟨(x &&& 15).toBitVec.toNat, ?_, ?_⟩
  · have e : (x &&& 15).toBitVec = x.toBitVec &&& 15#32 := rfl
    rw [e, BitVec.toNat_and]
    have := Nat.and_le_right (n := x.toBitVec.toNat) (m := (15#32).toNat)
    have e2 : (15#32).toNat = 15 := rfl
    omega
  · apply Int32.toBitVec_inj.mp
    show _ = BitVec.ofNat 32 _
    rw [BitVec.ofNat_toNat, BitVec.setWidth_eq]
theorem lw_cmp {a L : Nat} (ha : a ≤ 2560) (hL : L ≤ 2560) : (nI L - nI 5 < nI a) ↔ L < a + 5 := by
  rw [Int32.lt_iff_toInt_lt, Int32.toInt_sub, nI_toInt (by omega), nI_toInt (by omega), nI_toInt (by omega)]
  have e : ((L : Int) - ((5 : Nat) : Int)).bmod (2 ^ 32) = (L : Int) - 5 := by
    rw [Int.bmod_def]
    split <;> omega
  rw [e]
  omega
theorem lw_inc (j : Nat) : nI (5 * j) + Int32.ofInt 5 = nI (5 * (j + 1)) := by
  rw [show Int32.ofInt 5 = nI 5 by decide, nI_add]
  rfl
section LOOP
variable {p : Program} {l : Launch} {e : Env} {s : State} {m : MethodId} {below : List Frame} {meth : Method} {c : Code} {b L : Nat} {xs : Nat → Int32} {G : wG} {ad : Nat → Nat}
theorem lw_exit {H : Heap} {locs : List Loc} {ls : Array Slot} {ev : Nat → va_E} {cells slots : Nat} (hLC : LC p l s m c b L xs) (hr : meth.sig.returnType = ret) (hlocks : meth.locks = false) (h : wT G (A0 s) 52 ad ev s H locs) (h1 : cells ≤ 601024) (h2 : slots ≤ 7293034) : W p l e room_1 s m #[Value.ref b] below meth c H locs cells slots (lw_Z below #[Value.ref b] s) (F0 m 553 ls []) := by
  obtain ⟨hx, hb, -⟩ := hLC
  refine lv_iconst (v := 1) hx hb d_Lw_law_553 (by decide) ?_
  refine W.widen (k := 601024) (n := 7293034) h1 h2 ?_
  refine va_forget h.2.1.2.2 ?_
  exact lw_ret hx hb hr hlocks d_Lw_law_554
set_option maxRecDepth 100000 in
set_option maxHeartbeats 4000000 in
theorem lw_loop (hLC : LC p l s m c b L xs) (hr : meth.sig.returnType = ret) (hlocks : meth.locks = false) : ∀ (d j : Nat), j + d = 512 → ∀ (ev : Nat → va_E) (H : Heap) (locs : List Loc) (ls : Array Slot), INV G ad ev → wT G (A0 s) 52 ad ev s H locs → lv_has ls 7 (lvL b ad j) → W p l e room_1 s m #[Value.ref b] below meth c H locs (52 + j) (1794 + 6 * j) (lw_Z below #[Value.ref b] s) (F0 m 23 ls []) := by
  have hLC0 := hLC
  obtain ⟨hx, hb, hml, hown, hts, hX, hbl, hL, hTW, hCA, hoff⟩ := hLC
  intro d
  induction d with
  | zero =>
    intro j hj ev H locs ls hI h hl
    refine lv_iload hx hb d_Lw_law_23 (lv_at hl 4 rfl) ?_
    refine lv_aload_n hx hb d_Lw_law_25 rfl (lv_at hl 0 rfl) ?_
    refine va_slen hx hb hX hbl (Nat.not_le.mpr hbl) h.2.1 d_Lw_law_26 ?_
    refine lv_iconst (v := nI (5)) hx hb d_Lw_law_27 (by decide) ?_
    refine lv_isub hx hb d_Lw_law_28 ?_
    refine lv_icmp_gt (tgt := 553) hx hb d_Lw_law_29 (by decide) (fun _ => ?_) (fun hc => absurd ((lw_cmp (by omega) hL).mpr (by omega)) hc)
    exact lw_exit hLC0 hr hlocks h (by omega) (by omega)
  | succ d ih =>
    intro j hj ev H locs ls hI h hl
    refine lv_iload hx hb d_Lw_law_23 (lv_at hl 4 rfl) ?_
    refine lv_aload_n hx hb d_Lw_law_25 rfl (lv_at hl 0 rfl) ?_
    refine va_slen hx hb hX hbl (Nat.not_le.mpr hbl) h.2.1 d_Lw_law_26 ?_
    refine lv_iconst (v := nI (5)) hx hb d_Lw_law_27 (by decide) ?_
    refine lv_isub hx hb d_Lw_law_28 ?_
    refine lv_icmp_gt (tgt := 553) hx hb d_Lw_law_29 (by decide) (fun _ => lw_exit hLC0 hr hlocks h (by omega) (by omega)) (fun hc => ?_)
    have hjL : 5 * j + 5 ≤ L := Nat.not_lt.mp (fun q => hc ((lw_cmp (by omega) hL).mpr q))
    refine lv_aload_n hx hb d_Lw_law_32 rfl (lv_at hl 0 rfl) ?_
    refine lv_iload hx hb d_Lw_law_33 (lv_at hl 4 rfl) ?_
    refine wv_sld hx hb hX hbl h (k := 5 * j) rfl (by omega) (by omega) d_Lw_law_35 ?_
    refine lv_bipush (v := 15) hx hb d_Lw_law_36 (by decide) ?_
    refine lv_iand hx hb d_Lw_law_38 ?_
    obtain ⟨k, hk, hkx⟩ := lw_sw (xs (5 * j))
    refine wv_top (w := nI k) hkx ?_
    have kk : LK p l e s m below meth c b G ad j (52 + j) (1794 + 6 * j) (lw_Z below #[Value.ref b] s) := by
      intro ev H locs ls hI h hl
      refine lv_iinc (lv' := [(4, .int (nI (5 * (j + 1)))), (0, .ref b), (1, .ref (ad 0)), (2, .ref (ad 37)), (3, .ref (ad 51))]) hx hb d_Lw_law_547 hl (k := 4) rfl (lw_inc j) (by decide) rfl (fun ls hl => ?_)
      refine lv_goto (tgt := 23) hx hb d_Lw_law_550 (by decide) ?_
      refine W.widen (k := 52 + (j + 1)) (n := 1794 + 6 * (j + 1)) (by omega) (by omega) ?_
      exact ih (j + 1) (by omega) ev H locs ls hI h (lv_sub hl [1, 2, 3, 4, 0] rfl)
    have hf : 52 + j + 1 ≤ 601024 ∧ 1794 + 6 * j + 6 ≤ 7293034 := ⟨by omega, by omega⟩
    match k, hk with
    | 0, _ => exact lv_tableIn (tgt := 108) (off := 69) hx hb d_Lw_law_39 (by decide) (by decide) (by decide) (by decide) (lw_put hLC0 hjL h hI hl hf kk)
    | 1, _ => exact lv_tableIn (tgt := 189) (off := 150) hx hb d_Lw_law_39 (by decide) (by decide) (by decide) (by decide) (lw_length hLC0 hjL h hI hl hf kk)
    | 2, _ => exact lv_tableIn (tgt := 214) (off := 175) hx hb d_Lw_law_39 (by decide) (by decide) (by decide) (by decide) (lw_word hLC0 hjL h hI hl hf kk)
    | 3, _ => exact lv_tableIn (tgt := 252) (off := 213) hx hb d_Lw_law_39 (by decide) (by decide) (by decide) (by decide) (lw_size hLC0 hjL h hI hl hf kk)
    | 4, _ => exact lv_tableIn (tgt := 277) (off := 238) hx hb d_Lw_law_39 (by decide) (by decide) (by decide) (by decide) (lw_move hLC0 hjL h hI hl hf kk)
    | 5, _ => exact lv_tableIn (tgt := 302) (off := 263) hx hb d_Lw_law_39 (by decide) (by decide) (by decide) (by decide) (lw_mix hLC0 hjL h hI hl hf kk)
    | 6, _ => exact lv_tableIn (tgt := 313) (off := 274) hx hb d_Lw_law_39 (by decide) (by decide) (by decide) (by decide) (lw_stream hLC0 hjL h hI hl hf kk)
    | 7, _ => exact lv_tableIn (tgt := 338) (off := 299) hx hb d_Lw_law_39 (by decide) (by decide) (by decide) (by decide) (lw_tag hLC0 hjL h hI hl hf kk)
    | 8, _ => exact lv_tableIn (tgt := 349) (off := 310) hx hb d_Lw_law_39 (by decide) (by decide) (by decide) (by decide) (lw_multiply hLC0 hjL h hI hl hf kk)
    | 9, _ => exact lv_tableIn (tgt := 360) (off := 321) hx hb d_Lw_law_39 (by decide) (by decide) (by decide) (by decide) (lw_agree hLC0 hjL h hI hl hf kk)
    | 10, _ => exact lv_tableIn (tgt := 371) (off := 332) hx hb d_Lw_law_39 (by decide) (by decide) (by decide) (by decide) (lw_seal hLC0 hjL h hI hl hf kk)
    | 11, _ => exact lv_tableIn (tgt := 415) (off := 376) hx hb d_Lw_law_39 (by decide) (by decide) (by decide) (by decide) (lw_open hLC0 hjL h hI hl hf kk)
    | 12, _ => exact lv_tableIn (tgt := 459) (off := 420) hx hb d_Lw_law_39 (by decide) (by decide) (by decide) (by decide) (lw_box hLC0 hjL h hI hl hf kk)
    | 13, _ => exact lv_tableIn (tgt := 503) (off := 464) hx hb d_Lw_law_39 (by decide) (by decide) (by decide) (by decide) (lw_unbox hLC0 hjL h hI hl hf kk)
    | 14, _ => exact lv_tableOut (tgt := 547) hx hb d_Lw_law_39 (Or.inr (by decide)) (by decide) (W.widen (k := 52 + j + 1) (n := 1794 + 6 * j + 6) (by omega) (by omega) (kk ev H locs ls hI h hl))
    | 15, _ => exact lv_tableOut (tgt := 547) hx hb d_Lw_law_39 (Or.inr (by decide)) (by decide) (W.widen (k := 52 + j + 1) (n := 1794 + 6 * j + 6) (by omega) (by omega) (kk ev H locs ls hI h hl))
    | k + 16, hk => exact absurd hk (by omega)
end LOOP
theorem bs0 : bs (fun _ => 0) = fun _ => 0 := by
  funext j
  show sb_b 0 = 0
  decide
theorem ns0 : ns (fun _ => 0) = fun _ => 0 := rfl
theorem NB.cg {G : wG} {ad ad' : Nat → Nat} {ev ev' : Nat → va_E} {Bf : Nat → Nat → Nat} {tl ol : Nat} (h : NB G ad ev Bf tl ol) (ha : ∀ j, j < 37 → ad' j = ad j) (he : ∀ j, j < 37 → ev' j = ev j) : NB G ad' ev' Bf tl ol := by
  unfold NB at h ⊢
  simp only [he 0 (by decide), he 1 (by decide), he 2 (by decide), he 3 (by decide), he 4 (by decide), he 5 (by decide), he 6 (by decide), he 7 (by decide), he 8 (by decide), he 9 (by decide), he 10 (by decide), he 11 (by decide), he 12 (by decide), he 13 (by decide), he 14 (by decide), he 15 (by decide), he 16 (by decide), he 17 (by decide), he 18 (by decide), he 19 (by decide), he 20 (by decide), he 21 (by decide), he 22 (by decide), he 23 (by decide), he 24 (by decide), he 25 (by decide), he 26 (by decide), he 27 (by decide), he 28 (by decide), he 29 (by decide), he 30 (by decide), he 31 (by decide), he 32 (by decide), he 33 (by decide), he 34 (by decide), he 35 (by decide), he 36 (by decide), ha 1 (by decide), ha 2 (by decide), ha 3 (by decide), ha 4 (by decide), ha 5 (by decide), ha 6 (by decide), ha 7 (by decide), ha 8 (by decide), ha 9 (by decide), ha 10 (by decide), ha 11 (by decide), ha 12 (by decide), ha 13 (by decide), ha 14 (by decide), ha 15 (by decide), ha 16 (by decide), ha 17 (by decide), ha 18 (by decide), ha 19 (by decide), ha 20 (by decide), ha 21 (by decide), ha 22 (by decide), ha 23 (by decide), ha 24 (by decide), ha 25 (by decide), ha 26 (by decide), ha 27 (by decide), ha 28 (by decide), ha 29 (by decide), ha 30 (by decide), ha 31 (by decide), ha 32 (by decide), ha 33 (by decide), ha 34 (by decide), ha 35 (by decide), ha 36 (by decide)]
  exact h
theorem MD.cg {G : wG} {ad ad' : Nat → Nat} {ev ev' : Nat → va_E} {Bf : Nat → Nat → Nat} {tl ol cd : Nat} (h : MD G ad ev Bf tl ol cd) (ha : ∀ j, j < 51 → ad' j = ad j) (he : ∀ j, j < 51 → ev' j = ev j) : MD G ad' ev' Bf tl ol cd := by
  unfold MD at h ⊢
  simp only [he 37 (by decide), he 38 (by decide), he 39 (by decide), he 40 (by decide), he 41 (by decide), he 42 (by decide), he 43 (by decide), he 44 (by decide), he 45 (by decide), he 46 (by decide), he 47 (by decide), he 48 (by decide), he 49 (by decide), he 50 (by decide), ha 38 (by decide), ha 39 (by decide), ha 40 (by decide), ha 41 (by decide), ha 42 (by decide), ha 43 (by decide), ha 44 (by decide), ha 45 (by decide), ha 46 (by decide), ha 47 (by decide), ha 48 (by decide), ha 49 (by decide), ha 50 (by decide)]
  exact h
theorem wPk_blind {G : wG} {A : Nat → Prop} {n : Nat} {ad : Nat → Nat} {ev : Nat → va_E} {av : List Value} : FrameBlind (wPk G A n ad ev av) := fun a U g mk q => ⟨wPc_blind a U g mk q.1, NBN.warm (s := U) (State.WarmedH.refl U) q.2⟩
section START
variable {p : Program} {l : Launch} {e : Env} {s : State} {m : MethodId} {below : List Frame} {meth : Method} {c : Code} {b L : Nat} {xs : Nat → Int32} {G : wG}
set_option maxRecDepth 100000 in
set_option maxHeartbeats 4000000 in
theorem lw_go {ls : Array Slot} (hLC : LC p l s m c b L xs) (hr : meth.sig.returnType = ret) (hlocks : meth.locks = false) (hN : NBN s) (hK : va_K G.1 vwCl (wty G) s) (hl : lv_has ls 7 [(0, .ref b)]) : W p l e room_1 s m #[Value.ref b] below meth c s.heap [] 0 0 (lw_Z below #[Value.ref b] s) (F0 m 0 ls []) := by
  have hLC0 := hLC
  obtain ⟨hx, hb, hml, hown, hts, hX, hbl, hL, hTW, hCA, hoff⟩ := hLC
  have h : wT G (A0 s) 0 (fun _ => 0) (fun _ => eO 0 []) s s.heap [] := ⟨⟨hK, fun k q hk => by simp [wv] at hk, ⟨fun i j p q h1 => by simp [wv] at h1, fun k q hk => by simp [wv] at hk⟩⟩, va_S.rf, fun q hq => hq⟩
  refine wv_newo hx hb hts (fun w hw => List.mem_cons_of_mem _ (fW_NB w hw)) fY_NB fK_NB hown (hts _ (List.mem_cons_of_mem _ kC_Lw_8)) (hts _ (List.mem_cons_of_mem _ kI_NB)) (hts _ (List.mem_cons_of_mem _ ki_NB)) h (ci := 4) (T := fT_NB) rfl (fs := [.null, .null, .null, .null, .null, .int 0, .int 0, .null, .null, .null, .null, .null, .null]) (fun j hj => by rcases (show j = 0 ∨ j = 1 ∨ j = 2 ∨ j = 3 ∨ j = 4 ∨ j = 5 ∨ j = 6 ∨ j = 7 ∨ j = 8 ∨ j = 9 ∨ j = 10 ∨ j = 11 ∨ j = 12 by omega) with rfl | rfl | rfl | rfl | rfl | rfl | rfl | rfl | rfl | rfl | rfl | rfl | rfl <;> rfl) (Nat.le_of_ble_eq_true rfl) (Nat.le_of_ble_eq_true rfl) d_Lw_law_0 (fun q0 H h => ?_)
  obtain ⟨ad1, ha1⟩ : ∃ z, z = va_up (fun _ : Nat => 0) 0 q0 := ⟨_, rfl⟩
  obtain ⟨ev1, hv1⟩ : ∃ z, z = va_up (fun _ : Nat => eO 0 []) 0 (eO 4 [.null, .null, .null, .null, .null, .int 0, .int 0, .null, .null, .null, .null, .null, .null]) := ⟨_, rfl⟩
  rw [← ha1, ← hv1] at h
  have a10 : ad1 0 = q0 := by rw [ha1, va_up_self]
  have v10 : ev1 0 = eO 4 [.null, .null, .null, .null, .null, .int 0, .int 0, .null, .null, .null, .null, .null, .null] := by rw [hv1, va_up_self]
  clear ha1 hv1
  refine lv_dup hx hb d_Lw_law_3 rfl ?_
  have hg : GoodIn (xL :: tb) w_NB_init := tb_good (fun w hw => by
    rcases List.mem_cons.mp hw with rfl | hw
    · exact kc_NB_init
    · exact hw)
  refine wv_calln h (va_runI (As := []) (rest := [.ref q0]) ⟨hx, hb, hml, hown, hts⟩ (n_NB l G (A0 s) ad1 ev1 q0 a10 v10) (cwI 0 hts hg rfl rfl rfl (hts _ (List.mem_cons_of_mem _ ki_NB)) (hts _ (List.mem_cons_of_mem _ kl_Lw_26)) (hts _ (List.mem_cons_of_mem _ km_NB_init)) rfl (by decide +kernel) ⟨Nat.le_of_ble_eq_true rfl, Nat.le_of_ble_eq_true rfl⟩) ⟨wPk_blind, fun U hU hW => ⟨h.preS.2 U hU hW, hN.warm hW⟩⟩ rfl rfl hl.1 rfl (lv_room (Nat.le_of_ble_eq_true rfl)) d_Lw_law_4 ⟨Nat.le_of_ble_eq_true rfl, Nat.le_of_ble_eq_true rfl⟩) ?_
  intro ov n2 ad2 ev2 H locs hp h
  obtain ⟨ho, hn, hA2, -, e0, e1, e2, e3, e4, e5, e6, e7, e8, e9, e10, e11, e12, e13, e14, e15, e16, e17, e18, e19, e20, e21, e22, e23, e24, e25, e26, e27, e28, e29, e30, e31, e32, e33, e34, e35, e36⟩ := hp
  rw [hn] at h
  rw [ho]
  refine W.eq (g2 := F0 m 7 ls [.ref q0]) rfl ?_
  have a20 : ad2 0 = q0 := (hA2 0 (Nat.le_refl _)).trans a10
  have hNB : NB G ad2 ev2 (fun _ _ => 0) 0 0 := ⟨e0, by rw [bs0]; exact e1, by rw [bs0]; exact e2, by rw [bs0]; exact e3, by rw [bs0]; exact e4, by rw [bs0]; exact e5, e6, ⟨_, e7⟩, ⟨_, e8⟩, ⟨fun _ => 0, by rw [bs0]; exact e9⟩, ⟨fun _ => 0, fun _ => Nat.zero_lt_succ 255, fun _ _ => rfl, by rw [bs0]; exact e10⟩, ⟨fun _ => 0, fun _ => Nat.zero_lt_succ 255, by rw [bs0]; exact e11⟩, e12, e13, ⟨_, e14⟩, ⟨_, e15⟩, ⟨_, e16⟩, ⟨fun _ => 0, by rw [bs0]; exact e17⟩, e18, e19, ⟨_, e20⟩, ⟨fun _ => 0, by rw [bs0]; exact e21⟩, ⟨_, e22⟩, ⟨_, e23⟩, ⟨_, e24⟩, ⟨_, e25⟩, ⟨_, e26⟩, ⟨_, e27⟩, ⟨_, e28⟩, ⟨_, e29⟩, ⟨_, e30⟩, ⟨_, e31⟩, ⟨_, e32⟩, ⟨_, e33⟩, ⟨fun _ => 0, fun _ => Nat.zero_lt_succ 255, by rw [bs0]; exact e34⟩, by rw [bs0]; exact e35, ⟨fun _ => 0, fun _ => Nat.zero_lt_succ 255, by rw [bs0]; exact e36⟩, fun _ _ => Nat.zero_lt_succ 255, by decide, by decide⟩
  refine lv_astore_n (lv' := [(1, .ref q0), (0, .ref b)]) hx hb d_Lw_law_7 rfl hl (by decide) rfl (fun ls hl => ?_)
  refine wv_newo hx hb hts (fun w hw => List.mem_cons_of_mem _ (fW_Md w hw)) fY_Md fK_Md hown (hts _ (List.mem_cons_of_mem _ kC_Lw_27)) (hts _ (List.mem_cons_of_mem _ kI_Md)) (hts _ (List.mem_cons_of_mem _ ki_Md)) h (ci := 5) (T := fT_Md) rfl (fs := [.null, .int 0, .int 0, .int 0, .null, .null, .null, .null, .null, .null, .null, .null, .null, .null, .null, .null]) (fun j hj => by rcases (show j = 0 ∨ j = 1 ∨ j = 2 ∨ j = 3 ∨ j = 4 ∨ j = 5 ∨ j = 6 ∨ j = 7 ∨ j = 8 ∨ j = 9 ∨ j = 10 ∨ j = 11 ∨ j = 12 ∨ j = 13 ∨ j = 14 ∨ j = 15 by omega) with rfl | rfl | rfl | rfl | rfl | rfl | rfl | rfl | rfl | rfl | rfl | rfl | rfl | rfl | rfl | rfl <;> rfl) (Nat.le_of_ble_eq_true rfl) (Nat.le_of_ble_eq_true rfl) d_Lw_law_8 (fun q37 H h => ?_)
  obtain ⟨ad3, ha3⟩ : ∃ z, z = va_up ad2 37 q37 := ⟨_, rfl⟩
  obtain ⟨ev3, hv3⟩ : ∃ z, z = va_up ev2 37 (eO 5 [.null, .int 0, .int 0, .int 0, .null, .null, .null, .null, .null, .null, .null, .null, .null, .null, .null, .null]) := ⟨_, rfl⟩
  rw [← ha3, ← hv3] at h
  have a37 : ad3 37 = q37 := by rw [ha3, va_up_self]
  have v37 : ev3 37 = eO 5 [.null, .int 0, .int 0, .int 0, .null, .null, .null, .null, .null, .null, .null, .null, .null, .null, .null, .null] := by rw [hv3, va_up_self]
  have A3 : ∀ k, k < 37 → ad3 k = ad2 k := fun k hk => by rw [ha3, va_up_ne _ _ (by omega)]
  have V3 : ∀ k, k < 37 → ev3 k = ev2 k := fun k hk => by rw [hv3, va_up_ne _ _ (by omega)]
  clear ha3 hv3
  refine lv_dup hx hb d_Lw_law_11 rfl ?_
  refine wv_Ix (As := []) (rest := [.ref q37]) (k := 0) ⟨hx, hb, hml, hown, hts⟩ h (n_Md l G (A0 s) ad3 ev3 q37 a37 v37) kc_Md_init kl_Lw_29 km_Md_init ki_Md rfl (by decide +kernel) ⟨rfl, rfl, Nat.le_of_ble_eq_true rfl, Nat.le_of_ble_eq_true rfl⟩ hl.1 rfl rfl (Nat.le_of_ble_eq_true rfl) ⟨Nat.le_of_ble_eq_true rfl, Nat.le_of_ble_eq_true rfl⟩ d_Lw_law_12 ?_
  intro ov n4 ad4 ev4 H locs hp h
  obtain ⟨ho, hn4, A4, V4, f37, f38, f39, f40, f41, f42, f43, f44, f45, f46, f47, f48, f49, f50⟩ := hp
  rw [hn4] at h
  rw [ho]
  refine W.eq (g2 := F0 m 15 ls [.ref q37]) rfl ?_
  have hMD : MD G ad4 ev4 (fun _ _ => 0) 0 0 0 := ⟨f37, ⟨fun _ => 0, fun _ _ _ _ => rfl, by rw [ns0]; exact f38⟩, ⟨fun _ => 0, by rw [ns0]; exact f39⟩, ⟨fun _ => 0, by rw [ns0]; exact f40⟩, ⟨_, f41⟩, ⟨_, f42⟩, ⟨fun _ => 0, by rw [ns0]; exact f43⟩, ⟨_, f44⟩, ⟨_, f45⟩, ⟨_, f46⟩, ⟨_, f47⟩, ⟨_, f48⟩, ⟨fun _ => 0, by rw [ns0]; exact f49⟩, ⟨fun _ => 0, fun _ => Nat.zero_lt_succ 255, by rw [ns0]; exact f50⟩, fun _ _ => Nat.zero_lt_succ 255, by decide, by decide⟩
  refine lv_astore_n (lv' := [(2, .ref q37), (1, .ref q0), (0, .ref b)]) hx hb d_Lw_law_15 rfl hl (by decide) rfl (fun ls hl => ?_)
  refine lv_iconst (v := nI (1)) hx hb d_Lw_law_16 (by decide) ?_
  refine wv_newJ hx hb (hts _ (List.mem_cons_of_mem _ ka_long)) h (N := 1) rfl (by decide) (Nat.le_of_ble_eq_true rfl) (Nat.le_of_ble_eq_true rfl) d_Lw_law_17 (fun q51 H h => ?_)
  obtain ⟨ad5, ha5⟩ : ∃ z, z = va_up ad4 51 q51 := ⟨_, rfl⟩
  obtain ⟨ev5, hv5⟩ : ∃ z, z = va_up ev4 51 (eJ G 1 (fun _ => 0)) := ⟨_, rfl⟩
  rw [← ha5, ← hv5] at h
  have a51 : ad5 51 = q51 := by rw [ha5, va_up_self]
  have v51 : ev5 51 = eJ G 1 (fun _ => 0) := by rw [hv5, va_up_self]
  have A5 : ∀ k, k < 51 → ad5 k = ad4 k := fun k hk => by rw [ha5, va_up_ne _ _ (by omega)]
  have V5 : ∀ k, k < 51 → ev5 k = ev4 k := fun k hk => by rw [hv5, va_up_ne _ _ (by omega)]
  clear ha5 hv5
  have A6 : ∀ k, k < 37 → ad5 k = ad2 k := fun k hk => (A5 k (by omega)).trans ((A4 k (by omega)).trans (A3 k hk))
  have V6 : ∀ k, k < 37 → ev5 k = ev2 k := fun k hk => (V5 k (by omega)).trans ((V4 k (by omega)).trans (V3 k hk))
  have a50 : ad5 0 = q0 := (A6 0 (by decide)).trans a20
  have a537 : ad5 37 = q37 := (A5 37 (by decide)).trans ((A4 37 (by decide)).trans a37)
  have hI : INV G ad5 ev5 := ⟨_, _, _, _, _, hNB.cg A6 V6, hMD.cg A5 V5, v51⟩
  refine lv_astore_n (lv' := [(3, .ref q51), (2, .ref q37), (1, .ref q0), (0, .ref b)]) hx hb d_Lw_law_19 rfl hl (by decide) rfl (fun ls hl => ?_)
  refine lv_iconst (v := nI (0)) hx hb d_Lw_law_20 (by decide) ?_
  refine lv_istore (lv' := [(4, .int (nI (0))), (3, .ref q51), (2, .ref q37), (1, .ref q0), (0, .ref b)]) hx hb d_Lw_law_21 hl (by decide) rfl (fun ls hl => ?_)
  have hl2 : lv_has ls 7 [(0, .ref b), (1, .ref q0), (2, .ref q37), (3, .ref q51), (4, .int (nI (0)))] := lv_sub hl [4, 3, 2, 1, 0] rfl
  rw [← a50, ← a537, ← a51] at hl2
  refine W.widen (k := 52 + 0) (n := 1794 + 6 * 0) (by decide) (by decide) ?_
  exact lw_loop hLC0 hr hlocks 512 0 rfl ev5 H locs ls hI h hl2
end START
