theorem d_Ar_fill1_0 : decode c_Ar_fill1 0 = .ok (.iconst 0, 1) := by decide +kernel
theorem d_Ar_fill1_1 : decode c_Ar_fill1 1 = .ok (.istore_n 3, 1) := by decide +kernel
theorem d_Ar_fill1_2 : decode c_Ar_fill1 2 = .ok (.aload_n 0, 1) := by decide +kernel
theorem d_Ar_fill1_3 : decode c_Ar_fill1 3 = .ok (.arraylength, 1) := by decide +kernel
theorem d_Ar_fill1_4 : decode c_Ar_fill1 4 = .ok (.istore 4, 2) := by decide +kernel
theorem d_Ar_fill1_6 : decode c_Ar_fill1 6 = .ok (.iload_n 3, 1) := by decide +kernel
theorem d_Ar_fill1_7 : decode c_Ar_fill1 7 = .ok (.iload 4, 2) := by decide +kernel
theorem d_Ar_fill1_9 : decode c_Ar_fill1 9 = .ok (.if_icmp .ge 13, 3) := by decide +kernel
theorem d_Ar_fill1_12 : decode c_Ar_fill1 12 = .ok (.aload_n 0, 1) := by decide +kernel
theorem d_Ar_fill1_13 : decode c_Ar_fill1 13 = .ok (.iload_n 3, 1) := by decide +kernel
theorem d_Ar_fill1_14 : decode c_Ar_fill1 14 = .ok (.lload_n 1, 1) := by decide +kernel
theorem d_Ar_fill1_15 : decode c_Ar_fill1 15 = .ok (.lastore, 1) := by decide +kernel
theorem d_Ar_fill1_16 : decode c_Ar_fill1 16 = .ok (.iinc 3 1, 3) := by decide +kernel
theorem d_Ar_fill1_19 : decode c_Ar_fill1 19 = .ok (.goto (-13), 3) := by decide +kernel
theorem d_Ar_fill1_22 : decode c_Ar_fill1 22 = .ok (.return_, 1) := by decide +kernel
set_option maxRecDepth 100000 in
set_option maxHeartbeats 4000000 in
/-- Arrays.fill of a row of longs -/
theorem m_Ar_fill1 (l : Launch) (G : wG) (A : Nat → Prop) (ad : Nat → Nat) (ev : Nat → va_E) (q M : Nat) (f : Nat → Int64) (v : Int64) (hq : q < 52) (hev : ev q = eJ G M f) (hM : M < 2 ^ 30) : wM l y_Ar_fill1 w_Ar_fill1 ({ frames := 0, cells := 0, slots := 0, locals := 0 }) G A 52 ad ev [.ref (ad q), .long (v)] (fun ov ev' => ov = none ∧ ev' = va_up ev q (eJ G M (fun _ => v))) := by
  refine wv_ofW (cc := c_Ar_fill1) (maxL := 5) (ret := none) (by decide) rfl (Nat.le_of_ble_eq_true rfl) ?_
  intro p e s m below meth c ls hx hb hr hml hts hown hlocks hini h hl
  have hl : lv_has ls 5 [(0, .ref (ad q)), (1, .long (v))] := hl
  refine lv_iconst (v := nI (0)) hx hb d_Ar_fill1_0 (by decide) ?_
  refine lv_istore_n (lv' := [(3, .int (nI (0))), (0, .ref (ad q)), (1, .long (v))]) hx hb d_Ar_fill1_1 rfl hl (by decide) rfl (fun ls hl => ?_)
  refine lv_aload_n hx hb d_Ar_fill1_2 rfl (lv_at hl 1 rfl) ?_
  refine wv_alenJ hx hb h q hq hev d_Ar_fill1_3 ?_
  refine lv_istore (lv' := [(4, .int (nI (M))), (3, .int (nI (0))), (0, .ref (ad q)), (1, .long (v))]) hx hb d_Ar_fill1_4 hl (by decide) rfl (fun ls hl => ?_)
  have loop1 : ∀ (d k : Nat), k + d = M →  ∀ (ev1 : Nat → va_E) (H : Heap) (locs : List Loc) (ls : Array Slot), ev1 = (va_up ev q (eJ G M (fil 0 k (fun _ => v) f))) → wT G A 52 ad ev1 s H locs → lv_has ls 5 [(3, .int (nI (k))), (4, .int (nI (M))), (0, .ref (ad q)), (1, .long (v))] → W p l e ({ frames := 0, cells := 0, slots := 0, locals := 0 }) s m ([.ref (ad q), .long (v)] : List Value).toArray below meth c H locs 0 0 (MQ below (wQc G A 52 ad (fun ov ev' => ov = none ∧ ev' = va_up ev q (eJ G M (fun _ => v)))) ([.ref (ad q), .long (v)] : List Value).toArray s 0 0 A) (F0 m 6 ls []) := by
    intro d
    induction d with
    | zero =>
      intro k hk_k  ev1 H locs ls  o1 h hl
      have t1_q : ev1 q = eJ G M (fil 0 k (fun _ => v) f) := by rw [o1, va_up_self]
      refine lv_iload_n hx hb d_Ar_fill1_6 rfl (lv_at hl 0 rfl) ?_
      refine lv_iload hx hb d_Ar_fill1_7 (lv_at hl 1 rfl) ?_
      refine lv_icmp_ge (tgt := 22) hx hb d_Ar_fill1_9 (by decide) (fun _ => ?_) (fun hc => absurd ((nI_leI (by omega) (by omega)).mpr (by omega)) hc)
      have h := wT_eqJ (g := (fun _ => v)) h q hq t1_q (fun j hj => by unfold fil; rw [if_pos (by omega)])
      obtain ⟨ev2, o2⟩ : ∃ z, z = va_up ev1 q (eJ G M (fun _ => v)) := ⟨_, rfl⟩
      rw [← o2] at h
      have t2_q : ev2 q = eJ G M (fun _ => v) := by rw [o2, va_up_self]
      refine wv_vret hx hb hr hlocks h d_Ar_fill1_22 ⟨rfl, ?_⟩
      rw [o2, o1, va_up2]
    | succ d ih =>
      intro k hk_k  ev1 H locs ls  o1 h hl
      have t1_q : ev1 q = eJ G M (fil 0 k (fun _ => v) f) := by rw [o1, va_up_self]
      refine lv_iload_n hx hb d_Ar_fill1_6 rfl (lv_at hl 0 rfl) ?_
      refine lv_iload hx hb d_Ar_fill1_7 (lv_at hl 1 rfl) ?_
      refine lv_icmp_ge (tgt := 22) hx hb d_Ar_fill1_9 (by decide) (fun hc => absurd ((nI_leI (by omega) (by omega)).mp hc) (by omega)) (fun _ => ?_)
      refine lv_aload_n hx hb d_Ar_fill1_12 rfl (lv_at hl 2 rfl) ?_
      refine lv_iload_n hx hb d_Ar_fill1_13 rfl (lv_at hl 0 rfl) ?_
      refine lv_lload_n hx hb d_Ar_fill1_14 rfl (lv_at hl 3 rfl) ?_
      refine wv_last hx hb h q hq (f := (fil 0 k (fun _ => v) f)) t1_q (k := k) rfl (by omega) (by omega) d_Ar_fill1_15 (fun H locs h => ?_)
      obtain ⟨ev2, o2⟩ : ∃ z, z = va_up ev1 q (eJ G M (va_up ((fil 0 k (fun _ => v) f)) k v)) := ⟨_, rfl⟩
      rw [← o2] at h
      have t2_q : ev2 q = eJ G M (va_up ((fil 0 k (fun _ => v) f)) k v) := by rw [o2, va_up_self]
      refine lv_iinc (v := nI (k + 1)) (lv' := [(3, .int (nI (k + 1))), (4, .int (nI (M))), (0, .ref (ad q)), (1, .long (v))]) hx hb d_Ar_fill1_16 hl (k := 0) rfl (nI_add _ _) (by decide) rfl (fun ls hl => ?_)
      refine lv_goto (tgt := 6) hx hb d_Ar_fill1_19 (by decide) ?_
      refine ih (k + 1) (by omega) ev2 H locs ls ?_ h (lv_sub hl [0, 1, 2, 3] rfl)
      rw [o2, o1, va_up2, ← fil_s 0 k (fun _ => v) f rfl, Nat.zero_add]
  exact loop1 M 0 (by omega) ev s.heap [] ls (by rw [fil_0, va_upi _ _ hev]) h (lv_sub hl [1, 0, 2, 3] rfl)
theorem d_Fd_carry_0 : decode c_Fd_carry 0 = .ok (.iconst 0, 1) := by decide +kernel
theorem d_Fd_carry_1 : decode c_Fd_carry 1 = .ok (.istore_n 1, 1) := by decide +kernel
theorem d_Fd_carry_2 : decode c_Fd_carry 2 = .ok (.iload_n 1, 1) := by decide +kernel
theorem d_Fd_carry_3 : decode c_Fd_carry 3 = .ok (.iconst 1, 1) := by decide +kernel
theorem d_Fd_carry_4 : decode c_Fd_carry 4 = .ok (.iadd, 1) := by decide +kernel
theorem d_Fd_carry_5 : decode c_Fd_carry 5 = .ok (.aload_n 0, 1) := by decide +kernel
theorem d_Fd_carry_6 : decode c_Fd_carry 6 = .ok (.arraylength, 1) := by decide +kernel
theorem d_Fd_carry_7 : decode c_Fd_carry 7 = .ok (.if_icmp .ge 32, 3) := by decide +kernel
theorem d_Fd_carry_10 : decode c_Fd_carry 10 = .ok (.aload_n 0, 1) := by decide +kernel
theorem d_Fd_carry_11 : decode c_Fd_carry 11 = .ok (.iload_n 1, 1) := by decide +kernel
theorem d_Fd_carry_12 : decode c_Fd_carry 12 = .ok (.iconst 1, 1) := by decide +kernel
theorem d_Fd_carry_13 : decode c_Fd_carry 13 = .ok (.iadd, 1) := by decide +kernel
theorem d_Fd_carry_14 : decode c_Fd_carry 14 = .ok (.dup2, 1) := by decide +kernel
theorem d_Fd_carry_15 : decode c_Fd_carry 15 = .ok (.laload, 1) := by decide +kernel
theorem d_Fd_carry_16 : decode c_Fd_carry 16 = .ok (.aload_n 0, 1) := by decide +kernel
theorem d_Fd_carry_17 : decode c_Fd_carry 17 = .ok (.iload_n 1, 1) := by decide +kernel
theorem d_Fd_carry_18 : decode c_Fd_carry 18 = .ok (.laload, 1) := by decide +kernel
theorem d_Fd_carry_19 : decode c_Fd_carry 19 = .ok (.bipush 26, 2) := by decide +kernel
theorem d_Fd_carry_21 : decode c_Fd_carry 21 = .ok (.lshr, 1) := by decide +kernel
theorem d_Fd_carry_22 : decode c_Fd_carry 22 = .ok (.ladd, 1) := by decide +kernel
theorem d_Fd_carry_23 : decode c_Fd_carry 23 = .ok (.lastore, 1) := by decide +kernel
theorem d_Fd_carry_24 : decode c_Fd_carry 24 = .ok (.aload_n 0, 1) := by decide +kernel
theorem d_Fd_carry_25 : decode c_Fd_carry 25 = .ok (.iload_n 1, 1) := by decide +kernel
theorem d_Fd_carry_26 : decode c_Fd_carry 26 = .ok (.dup2, 1) := by decide +kernel
theorem d_Fd_carry_27 : decode c_Fd_carry 27 = .ok (.laload, 1) := by decide +kernel
theorem d_Fd_carry_28 : decode c_Fd_carry 28 = .ok (.ldc2_w 50, 3) := by decide +kernel
theorem d_Fd_carry_31 : decode c_Fd_carry 31 = .ok (.land, 1) := by decide +kernel
theorem d_Fd_carry_32 : decode c_Fd_carry 32 = .ok (.lastore, 1) := by decide +kernel
theorem d_Fd_carry_33 : decode c_Fd_carry 33 = .ok (.iinc 1 1, 3) := by decide +kernel
theorem d_Fd_carry_36 : decode c_Fd_carry 36 = .ok (.goto (-34), 3) := by decide +kernel
theorem d_Fd_carry_39 : decode c_Fd_carry 39 = .ok (.return_, 1) := by decide +kernel
set_option maxRecDepth 100000 in
set_option maxHeartbeats 4000000 in
/-- the carries from limb to limb -/
theorem m_Fd_carry (l : Launch) (G : wG) (A : Nat → Prop) (ad : Nat → Nat) (ev : Nat → va_E) (q M : Nat) (f : Nat → Int64) (hq : q < 52) (hev : ev q = eJ G M f) (h1 : 1 ≤ M) (hM : M < 2 ^ 30) : wM l y_Fd_carry w_Fd_carry ({ frames := 0, cells := 0, slots := 0, locals := 0 }) G A 52 ad ev [.ref (ad q)] (fun ov ev' => ov = none ∧ ev' = va_up ev q (eJ G M (cry f (M - 1)))) := by
  refine wv_ofW (cc := c_Fd_carry) (maxL := 2) (ret := none) (by decide) rfl (Nat.le_of_ble_eq_true rfl) ?_
  intro p e s m below meth c ls hx hb hr hml hts hown hlocks hini h hl
  have hl : lv_has ls 2 [(0, .ref (ad q))] := hl
  refine lv_iconst (v := nI (0)) hx hb d_Fd_carry_0 (by decide) ?_
  refine lv_istore_n (lv' := [(1, .int (nI (0))), (0, .ref (ad q))]) hx hb d_Fd_carry_1 rfl hl (by decide) rfl (fun ls hl => ?_)
  have loop1 : ∀ (d k : Nat), k + d = M - 1 →  ∀ (ev1 : Nat → va_E) (H : Heap) (locs : List Loc) (ls : Array Slot), ev1 = (va_up ev q (eJ G M (cry f k))) → wT G A 52 ad ev1 s H locs → lv_has ls 2 [(1, .int (nI (k))), (0, .ref (ad q))] → W p l e ({ frames := 0, cells := 0, slots := 0, locals := 0 }) s m ([.ref (ad q)] : List Value).toArray below meth c H locs 0 0 (MQ below (wQc G A 52 ad (fun ov ev' => ov = none ∧ ev' = va_up ev q (eJ G M (cry f (M - 1))))) ([.ref (ad q)] : List Value).toArray s 0 0 A) (F0 m 2 ls []) := by
    intro d
    induction d with
    | zero =>
      intro k hk_k  ev1 H locs ls  o1 h hl
      have t1_q : ev1 q = eJ G M (cry f k) := by rw [o1, va_up_self]
      refine lv_iload_n hx hb d_Fd_carry_2 rfl (lv_at hl 0 rfl) ?_
      refine lv_iconst (v := nI (1)) hx hb d_Fd_carry_3 (by decide) ?_
      refine lv_iadd hx hb d_Fd_carry_4 ?_
      refine wv_top (nI_add _ _) ?_
      refine lv_aload_n hx hb d_Fd_carry_5 rfl (lv_at hl 1 rfl) ?_
      refine wv_alenJ hx hb h q hq t1_q d_Fd_carry_6 ?_
      refine lv_icmp_ge (tgt := 39) hx hb d_Fd_carry_7 (by decide) (fun _ => ?_) (fun hc => absurd ((nI_leI (by omega) (by omega)).mpr (by omega)) hc)
      refine wv_vret hx hb hr hlocks h d_Fd_carry_39 ⟨rfl, ?_⟩
      rw [o1, show M - 1 = k by omega]
    | succ d ih =>
      intro k hk_k  ev1 H locs ls  o1 h hl
      have t1_q : ev1 q = eJ G M (cry f k) := by rw [o1, va_up_self]
      refine lv_iload_n hx hb d_Fd_carry_2 rfl (lv_at hl 0 rfl) ?_
      refine lv_iconst (v := nI (1)) hx hb d_Fd_carry_3 (by decide) ?_
      refine lv_iadd hx hb d_Fd_carry_4 ?_
      refine wv_top (nI_add _ _) ?_
      refine lv_aload_n hx hb d_Fd_carry_5 rfl (lv_at hl 1 rfl) ?_
      refine wv_alenJ hx hb h q hq t1_q d_Fd_carry_6 ?_
      refine lv_icmp_ge (tgt := 39) hx hb d_Fd_carry_7 (by decide) (fun hc => absurd ((nI_leI (by omega) (by omega)).mp hc) (by omega)) (fun _ => ?_)
      refine lv_aload_n hx hb d_Fd_carry_10 rfl (lv_at hl 1 rfl) ?_
      refine lv_iload_n hx hb d_Fd_carry_11 rfl (lv_at hl 0 rfl) ?_
      refine lv_iconst (v := nI (1)) hx hb d_Fd_carry_12 (by decide) ?_
      refine lv_iadd hx hb d_Fd_carry_13 ?_
      refine wv_top (nI_add _ _) ?_
      refine lv_dup2_11 hx hb d_Fd_carry_14 rfl rfl ?_
      refine wv_lald hx hb h q hq (f := (cry f k)) t1_q (k := k + 1) rfl (by omega) (by omega) d_Fd_carry_15 ?_
      refine lv_aload_n hx hb d_Fd_carry_16 rfl (lv_at hl 1 rfl) ?_
      refine lv_iload_n hx hb d_Fd_carry_17 rfl (lv_at hl 0 rfl) ?_
      refine wv_lald hx hb h q hq (f := (cry f k)) t1_q (k := k) rfl (by omega) (by omega) d_Fd_carry_18 ?_
      refine lv_bipush (v := nI (26)) hx hb d_Fd_carry_19 (by decide) ?_
      refine lv_lshr (v := sar (((cry f k)) k) 26) hx hb d_Fd_carry_21 rfl ?_
      refine lv_ladd hx hb d_Fd_carry_22 ?_
      refine wv_last hx hb h q hq (f := (cry f k)) t1_q (k := k + 1) rfl (by omega) (by omega) d_Fd_carry_23 (fun H locs h => ?_)
      obtain ⟨ev2, o2⟩ : ∃ z, z = va_up ev1 q (eJ G M (va_up ((cry f k)) (k + 1) ((((cry f k)) (k + 1)) + (sar (((cry f k)) k) 26)))) := ⟨_, rfl⟩
      rw [← o2] at h
      have t2_q : ev2 q = eJ G M (va_up ((cry f k)) (k + 1) ((((cry f k)) (k + 1)) + (sar (((cry f k)) k) 26))) := by rw [o2, va_up_self]
      refine lv_aload_n hx hb d_Fd_carry_24 rfl (lv_at hl 1 rfl) ?_
      refine lv_iload_n hx hb d_Fd_carry_25 rfl (lv_at hl 0 rfl) ?_
      refine lv_dup2_11 hx hb d_Fd_carry_26 rfl rfl ?_
      refine wv_lald hx hb h q hq (f := (va_up ((cry f k)) (k + 1) ((((cry f k)) (k + 1)) + (sar (((cry f k)) k) 26)))) t2_q (k := k) rfl (by omega) (by omega) d_Fd_carry_27 ?_
      refine lv_ldc2 (v := 67108863) hx hb hown (hts _ (List.mem_cons_of_mem _ ko_Fd_50)) d_Fd_carry_28 ?_
      refine lv_land hx hb d_Fd_carry_31 ?_
      refine wv_last hx hb h q hq (f := (va_up ((cry f k)) (k + 1) ((((cry f k)) (k + 1)) + (sar (((cry f k)) k) 26)))) t2_q (k := k) rfl (by omega) (by omega) d_Fd_carry_32 (fun H locs h => ?_)
      obtain ⟨ev3, o3⟩ : ∃ z, z = va_up ev2 q (eJ G M (va_up ((va_up ((cry f k)) (k + 1) ((((cry f k)) (k + 1)) + (sar (((cry f k)) k) 26)))) k ((((va_up ((cry f k)) (k + 1) ((((cry f k)) (k + 1)) + (sar (((cry f k)) k) 26)))) k) &&& 67108863))) := ⟨_, rfl⟩
      rw [← o3] at h
      have t3_q : ev3 q = eJ G M (va_up ((va_up ((cry f k)) (k + 1) ((((cry f k)) (k + 1)) + (sar (((cry f k)) k) 26)))) k ((((va_up ((cry f k)) (k + 1) ((((cry f k)) (k + 1)) + (sar (((cry f k)) k) 26)))) k) &&& 67108863)) := by rw [o3, va_up_self]
      refine lv_iinc (v := nI (k + 1)) (lv' := [(1, .int (nI (k + 1))), (0, .ref (ad q))]) hx hb d_Fd_carry_33 hl (k := 0) rfl (nI_add _ _) (by decide) rfl (fun ls hl => ?_)
      refine lv_goto (tgt := 2) hx hb d_Fd_carry_36 (by decide) ?_
      refine ih (k + 1) (by omega) ev3 H locs ls ?_ h (lv_sub hl [0, 1] rfl)
      rw [o3, o2, o1, va_up2, va_up2]
      rfl
  exact loop1 (M - 1) 0 (by omega) ev s.heap [] ls (va_upi _ _ hev).symm h (lv_sub hl [0, 1] rfl)
theorem d_Fd_foldTop_0 : decode c_Fd_foldTop 0 = .ok (.aload_n 1, 1) := by decide +kernel
theorem d_Fd_foldTop_1 : decode c_Fd_foldTop 1 = .ok (.invokestatic 43, 3) := by decide +kernel
theorem d_Fd_foldTop_4 : decode c_Fd_foldTop 4 = .ok (.aload_n 1, 1) := by decide +kernel
theorem d_Fd_foldTop_5 : decode c_Fd_foldTop 5 = .ok (.aload_n 0, 1) := by decide +kernel
theorem d_Fd_foldTop_6 : decode c_Fd_foldTop 6 = .ok (.getfield 9, 3) := by decide +kernel
theorem d_Fd_foldTop_9 : decode c_Fd_foldTop 9 = .ok (.iconst 1, 1) := by decide +kernel
theorem d_Fd_foldTop_10 : decode c_Fd_foldTop 10 = .ok (.isub, 1) := by decide +kernel
theorem d_Fd_foldTop_11 : decode c_Fd_foldTop 11 = .ok (.laload, 1) := by decide +kernel
theorem d_Fd_foldTop_12 : decode c_Fd_foldTop 12 = .ok (.aload_n 0, 1) := by decide +kernel
theorem d_Fd_foldTop_13 : decode c_Fd_foldTop 13 = .ok (.getfield 13, 3) := by decide +kernel
theorem d_Fd_foldTop_16 : decode c_Fd_foldTop 16 = .ok (.lshr, 1) := by decide +kernel
theorem d_Fd_foldTop_17 : decode c_Fd_foldTop 17 = .ok (.lstore_n 2, 1) := by decide +kernel
theorem d_Fd_foldTop_18 : decode c_Fd_foldTop 18 = .ok (.aload_n 1, 1) := by decide +kernel
theorem d_Fd_foldTop_19 : decode c_Fd_foldTop 19 = .ok (.aload_n 0, 1) := by decide +kernel
theorem d_Fd_foldTop_20 : decode c_Fd_foldTop 20 = .ok (.getfield 9, 3) := by decide +kernel
theorem d_Fd_foldTop_23 : decode c_Fd_foldTop 23 = .ok (.iconst 1, 1) := by decide +kernel
theorem d_Fd_foldTop_24 : decode c_Fd_foldTop 24 = .ok (.isub, 1) := by decide +kernel
theorem d_Fd_foldTop_25 : decode c_Fd_foldTop 25 = .ok (.dup2, 1) := by decide +kernel
theorem d_Fd_foldTop_26 : decode c_Fd_foldTop 26 = .ok (.laload, 1) := by decide +kernel
theorem d_Fd_foldTop_27 : decode c_Fd_foldTop 27 = .ok (.lload_n 2, 1) := by decide +kernel
theorem d_Fd_foldTop_28 : decode c_Fd_foldTop 28 = .ok (.aload_n 0, 1) := by decide +kernel
theorem d_Fd_foldTop_29 : decode c_Fd_foldTop 29 = .ok (.getfield 13, 3) := by decide +kernel
theorem d_Fd_foldTop_32 : decode c_Fd_foldTop 32 = .ok (.lshl, 1) := by decide +kernel
theorem d_Fd_foldTop_33 : decode c_Fd_foldTop 33 = .ok (.lsub, 1) := by decide +kernel
theorem d_Fd_foldTop_34 : decode c_Fd_foldTop 34 = .ok (.lastore, 1) := by decide +kernel
theorem d_Fd_foldTop_35 : decode c_Fd_foldTop 35 = .ok (.aload_n 1, 1) := by decide +kernel
theorem d_Fd_foldTop_36 : decode c_Fd_foldTop 36 = .ok (.iconst 0, 1) := by decide +kernel
theorem d_Fd_foldTop_37 : decode c_Fd_foldTop 37 = .ok (.dup2, 1) := by decide +kernel
theorem d_Fd_foldTop_38 : decode c_Fd_foldTop 38 = .ok (.laload, 1) := by decide +kernel
theorem d_Fd_foldTop_39 : decode c_Fd_foldTop 39 = .ok (.aload_n 0, 1) := by decide +kernel
theorem d_Fd_foldTop_40 : decode c_Fd_foldTop 40 = .ok (.getfield 16, 3) := by decide +kernel
theorem d_Fd_foldTop_43 : decode c_Fd_foldTop 43 = .ok (.lload_n 2, 1) := by decide +kernel
theorem d_Fd_foldTop_44 : decode c_Fd_foldTop 44 = .ok (.lmul, 1) := by decide +kernel
theorem d_Fd_foldTop_45 : decode c_Fd_foldTop 45 = .ok (.ladd, 1) := by decide +kernel
theorem d_Fd_foldTop_46 : decode c_Fd_foldTop 46 = .ok (.lastore, 1) := by decide +kernel
theorem d_Fd_foldTop_47 : decode c_Fd_foldTop 47 = .ok (.return_, 1) := by decide +kernel
set_option maxRecDepth 100000 in
set_option maxHeartbeats 4000000 in
/-- what stands above the top comes in below -/
theorem m_Fd_foldTop (l : Launch) (G : wG) (A : Nat → Prop) (ad : Nat → Nat) (ev : Nat → va_E) (qF qw nl tb : Nat) (low fold : Int64) (hqF : qF < 52) (hF : ev qF = eO 1 [.int (nI nl), .int (nI tb), .long low, .long fold, .ref (ad qw)]) (hnl : 2 ≤ nl) (hnl2 : nl < 100) (q : Nat) (f : Nat → Int64) (hq : q < 52) (hev : ev q = eJ G nl f) (nFq : qF ≠ q) : wM l y_Fd_foldTop w_Fd_foldTop ({ frames := 3, cells := 0, slots := 0, locals := 100 }) G A 52 ad ev [.ref (ad qF), .ref (ad q)] (fun ov ev' => ov = none ∧ ev' = va_up ev q (eJ G nl (fTop nl tb low f))) := by
  refine wv_ofW (cc := c_Fd_foldTop) (maxL := 4) (ret := none) (by decide) rfl (Nat.le_of_ble_eq_true rfl) ?_
  intro p e s m below meth c ls hx hb hr hml hts hown hlocks hini h hl
  have hl : lv_has ls 4 [(0, .ref (ad qF)), (1, .ref (ad q))] := hl
  refine lv_aload_n hx hb d_Fd_foldTop_0 rfl (lv_at hl 1 rfl) ?_
  refine wv_Sx (As := [.ref (ad q)]) (rest := []) (k := 1) ⟨hx, hb, hml, hown, hts⟩ h (m_Fd_carry l G A ad ev q nl f hq hev (by omega) (by omega)) kc_Fd_carry kl_Fd_43 ks_Fd_carry ki_Fd (by decide +kernel) ⟨rfl, rfl, Nat.le_of_ble_eq_true rfl, Nat.le_of_ble_eq_true rfl⟩ hl.1 rfl rfl (Nat.le_of_ble_eq_true rfl) ⟨Nat.le_refl _, Nat.le_refl _⟩ d_Fd_foldTop_1 ?_
  intro ov ev1 H locs hp h
  rw [hp.1]
  refine W.eq (g2 := F0 m 4 ls []) rfl ?_
  have o1 : ev1 = (va_up ev q (eJ G nl (cry f (nl - 1)))) := hp.2
  have t1_q : ev1 q = eJ G nl (cry f (nl - 1)) := by rw [o1, va_up_self]
  have t1_qF := (show ev1 qF = ev qF by rw [o1, va_up_ne _ _ nFq]).trans hF
  refine lv_aload_n hx hb d_Fd_foldTop_4 rfl (lv_at hl 1 rfl) ?_
  refine lv_aload_n hx hb d_Fd_foldTop_5 rfl (lv_at hl 0 rfl) ?_
  refine wv_getf hx hb h qF hqF (fs := [.int (nI (nl)), .int (nI (tb)), .long (low), .long (fold), .ref (ad qw)]) t1_qF hts (fun w hw => List.mem_cons_of_mem _ (fW_Fd w hw)) hown (ci := 1) (C := "NonceBox$Field") (T := fT_Fd) (N := 5) rfl 0 (by decide) (hts _ (List.mem_cons_of_mem _ kf_Fd_9)) rfl (v := .int (nI (nl))) rfl d_Fd_foldTop_6 ?_
  refine lv_iconst (v := nI (1)) hx hb d_Fd_foldTop_9 (by decide) ?_
  refine lv_isub hx hb d_Fd_foldTop_10 ?_
  refine wv_top (pk_sub (by omega)) ?_
  refine wv_lald hx hb h q hq (f := (cry f (nl - 1))) t1_q (k := nl - 1) rfl (by omega) (by omega) d_Fd_foldTop_11 ?_
  refine lv_aload_n hx hb d_Fd_foldTop_12 rfl (lv_at hl 0 rfl) ?_
  refine wv_getf hx hb h qF hqF (fs := [.int (nI (nl)), .int (nI (tb)), .long (low), .long (fold), .ref (ad qw)]) t1_qF hts (fun w hw => List.mem_cons_of_mem _ (fW_Fd w hw)) hown (ci := 1) (C := "NonceBox$Field") (T := fT_Fd) (N := 5) rfl 1 (by decide) (hts _ (List.mem_cons_of_mem _ kf_Fd_13)) rfl (v := .int (nI (tb))) rfl d_Fd_foldTop_13 ?_
  refine lv_lshr (v := sar (((cry f (nl - 1))) (nl - 1)) tb) hx hb d_Fd_foldTop_16 rfl ?_
  refine lv_topl (fun hi ehi => ?_)
  refine lv_lstore_n (lv' := [(2, .long (hi)), (0, .ref (ad qF)), (1, .ref (ad q))]) hx hb d_Fd_foldTop_17 rfl hl (by decide) rfl (fun ls hl => ?_)
  refine lv_aload_n hx hb d_Fd_foldTop_18 rfl (lv_at hl 2 rfl) ?_
  refine lv_aload_n hx hb d_Fd_foldTop_19 rfl (lv_at hl 1 rfl) ?_
  refine wv_getf hx hb h qF hqF (fs := [.int (nI (nl)), .int (nI (tb)), .long (low), .long (fold), .ref (ad qw)]) t1_qF hts (fun w hw => List.mem_cons_of_mem _ (fW_Fd w hw)) hown (ci := 1) (C := "NonceBox$Field") (T := fT_Fd) (N := 5) rfl 0 (by decide) (hts _ (List.mem_cons_of_mem _ kf_Fd_9)) rfl (v := .int (nI (nl))) rfl d_Fd_foldTop_20 ?_
  refine lv_iconst (v := nI (1)) hx hb d_Fd_foldTop_23 (by decide) ?_
  refine lv_isub hx hb d_Fd_foldTop_24 ?_
  refine wv_top (pk_sub (by omega)) ?_
  refine lv_dup2_11 hx hb d_Fd_foldTop_25 rfl rfl ?_
  refine wv_lald hx hb h q hq (f := (cry f (nl - 1))) t1_q (k := nl - 1) rfl (by omega) (by omega) d_Fd_foldTop_26 ?_
  refine lv_lload_n hx hb d_Fd_foldTop_27 rfl (lv_at hl 0 rfl) ?_
  refine lv_aload_n hx hb d_Fd_foldTop_28 rfl (lv_at hl 1 rfl) ?_
  refine wv_getf hx hb h qF hqF (fs := [.int (nI (nl)), .int (nI (tb)), .long (low), .long (fold), .ref (ad qw)]) t1_qF hts (fun w hw => List.mem_cons_of_mem _ (fW_Fd w hw)) hown (ci := 1) (C := "NonceBox$Field") (T := fT_Fd) (N := 5) rfl 1 (by decide) (hts _ (List.mem_cons_of_mem _ kf_Fd_13)) rfl (v := .int (nI (tb))) rfl d_Fd_foldTop_29 ?_
  refine lv_lshl (v := sal hi tb) hx hb d_Fd_foldTop_32 rfl ?_
  refine lv_lsub hx hb d_Fd_foldTop_33 ?_
  refine wv_last hx hb h q hq (f := (cry f (nl - 1))) t1_q (k := nl - 1) rfl (by omega) (by omega) d_Fd_foldTop_34 (fun H locs h => ?_)
  obtain ⟨ev2, o2⟩ : ∃ z, z = va_up ev1 q (eJ G nl (va_up ((cry f (nl - 1))) (nl - 1) ((((cry f (nl - 1))) (nl - 1)) - (sal hi tb)))) := ⟨_, rfl⟩
  rw [← o2] at h
  have t2_q : ev2 q = eJ G nl (va_up ((cry f (nl - 1))) (nl - 1) ((((cry f (nl - 1))) (nl - 1)) - (sal hi tb))) := by rw [o2, va_up_self]
  have t2_qF := (show ev2 qF = ev1 qF by rw [o2, va_up_ne _ _ nFq]).trans t1_qF
  refine lv_aload_n hx hb d_Fd_foldTop_35 rfl (lv_at hl 2 rfl) ?_
  refine lv_iconst (v := nI (0)) hx hb d_Fd_foldTop_36 (by decide) ?_
  refine lv_dup2_11 hx hb d_Fd_foldTop_37 rfl rfl ?_
  refine wv_lald hx hb h q hq (f := (va_up ((cry f (nl - 1))) (nl - 1) ((((cry f (nl - 1))) (nl - 1)) - (sal hi tb)))) t2_q (k := 0) rfl (by omega) (by omega) d_Fd_foldTop_38 ?_
  refine lv_aload_n hx hb d_Fd_foldTop_39 rfl (lv_at hl 1 rfl) ?_
  refine wv_getf hx hb h qF hqF (fs := [.int (nI (nl)), .int (nI (tb)), .long (low), .long (fold), .ref (ad qw)]) t2_qF hts (fun w hw => List.mem_cons_of_mem _ (fW_Fd w hw)) hown (ci := 1) (C := "NonceBox$Field") (T := fT_Fd) (N := 5) rfl 2 (by decide) (hts _ (List.mem_cons_of_mem _ kf_Fd_16)) rfl (v := .long (low)) rfl d_Fd_foldTop_40 ?_
  refine lv_lload_n hx hb d_Fd_foldTop_43 rfl (lv_at hl 0 rfl) ?_
  refine lv_lmul hx hb d_Fd_foldTop_44 ?_
  refine lv_ladd hx hb d_Fd_foldTop_45 ?_
  refine wv_last hx hb h q hq (f := (va_up ((cry f (nl - 1))) (nl - 1) ((((cry f (nl - 1))) (nl - 1)) - (sal hi tb)))) t2_q (k := 0) rfl (by omega) (by omega) d_Fd_foldTop_46 (fun H locs h => ?_)
  obtain ⟨ev3, o3⟩ : ∃ z, z = va_up ev2 q (eJ G nl (va_up ((va_up ((cry f (nl - 1))) (nl - 1) ((((cry f (nl - 1))) (nl - 1)) - (sal hi tb)))) 0 ((((va_up ((cry f (nl - 1))) (nl - 1) ((((cry f (nl - 1))) (nl - 1)) - (sal hi tb)))) 0) + (low * hi)))) := ⟨_, rfl⟩
  rw [← o3] at h
  have t3_q : ev3 q = eJ G nl (va_up ((va_up ((cry f (nl - 1))) (nl - 1) ((((cry f (nl - 1))) (nl - 1)) - (sal hi tb)))) 0 ((((va_up ((cry f (nl - 1))) (nl - 1) ((((cry f (nl - 1))) (nl - 1)) - (sal hi tb)))) 0) + (low * hi))) := by rw [o3, va_up_self]
  have t3_qF := (show ev3 qF = ev2 qF by rw [o3, va_up_ne _ _ nFq]).trans t2_qF
  refine wv_vret hx hb hr hlocks h d_Fd_foldTop_47 ⟨rfl, ?_⟩
  rw [o3, o2, o1, va_up2, va_up2, ehi]
  rfl
theorem d_Fd_plus_0 : decode c_Fd_plus 0 = .ok (.iconst 0, 1) := by decide +kernel
theorem d_Fd_plus_1 : decode c_Fd_plus 1 = .ok (.istore 4, 2) := by decide +kernel
theorem d_Fd_plus_3 : decode c_Fd_plus 3 = .ok (.iload 4, 2) := by decide +kernel
theorem d_Fd_plus_5 : decode c_Fd_plus 5 = .ok (.aload_n 0, 1) := by decide +kernel
theorem d_Fd_plus_6 : decode c_Fd_plus 6 = .ok (.getfield 9, 3) := by decide +kernel
theorem d_Fd_plus_9 : decode c_Fd_plus 9 = .ok (.if_icmp .ge 22, 3) := by decide +kernel
theorem d_Fd_plus_12 : decode c_Fd_plus 12 = .ok (.aload_n 3, 1) := by decide +kernel
theorem d_Fd_plus_13 : decode c_Fd_plus 13 = .ok (.iload 4, 2) := by decide +kernel
theorem d_Fd_plus_15 : decode c_Fd_plus 15 = .ok (.aload_n 1, 1) := by decide +kernel
theorem d_Fd_plus_16 : decode c_Fd_plus 16 = .ok (.iload 4, 2) := by decide +kernel
theorem d_Fd_plus_18 : decode c_Fd_plus 18 = .ok (.laload, 1) := by decide +kernel
theorem d_Fd_plus_19 : decode c_Fd_plus 19 = .ok (.aload_n 2, 1) := by decide +kernel
theorem d_Fd_plus_20 : decode c_Fd_plus 20 = .ok (.iload 4, 2) := by decide +kernel
theorem d_Fd_plus_22 : decode c_Fd_plus 22 = .ok (.laload, 1) := by decide +kernel
theorem d_Fd_plus_23 : decode c_Fd_plus 23 = .ok (.ladd, 1) := by decide +kernel
theorem d_Fd_plus_24 : decode c_Fd_plus 24 = .ok (.lastore, 1) := by decide +kernel
theorem d_Fd_plus_25 : decode c_Fd_plus 25 = .ok (.iinc 4 1, 3) := by decide +kernel
theorem d_Fd_plus_28 : decode c_Fd_plus 28 = .ok (.goto (-25), 3) := by decide +kernel
theorem d_Fd_plus_31 : decode c_Fd_plus 31 = .ok (.return_, 1) := by decide +kernel
set_option maxRecDepth 100000 in
set_option maxHeartbeats 4000000 in
/-- row + row -/
theorem m_Fd_plus (l : Launch) (G : wG) (A : Nat → Prop) (ad : Nat → Nat) (ev : Nat → va_E) (qF qw nl tb : Nat) (low fold : Int64) (hqF : qF < 52) (hF : ev qF = eO 1 [.int (nI nl), .int (nI tb), .long low, .long fold, .ref (ad qw)]) (hnl : 2 ≤ nl) (hnl2 : nl < 100) (qx qy qt : Nat) (X Y T : Nat → Int64) (hqx : qx < 52) (hqy : qy < 52) (hqt : qt < 52) (hX : ev qx = eJ G nl X) (hY : ev qy = eJ G nl Y) (hT : ev qt = eJ G nl T) (nFt : qF ≠ qt) : wM l y_Fd_plus w_Fd_plus ({ frames := 0, cells := 0, slots := 0, locals := 0 }) G A 52 ad ev [.ref (ad qF), .ref (ad qx), .ref (ad qy), .ref (ad qt)] (fun ov ev' => ov = none ∧ ev' = va_up ev qt (eJ G nl (fun i => X i + Y i))) := by
  refine wv_ofW (cc := c_Fd_plus) (maxL := 5) (ret := none) (by decide) rfl (Nat.le_of_ble_eq_true rfl) ?_
  intro p e s m below meth c ls hx hb hr hml hts hown hlocks hini h hl
  have hl : lv_has ls 5 [(0, .ref (ad qF)), (1, .ref (ad qx)), (2, .ref (ad qy)), (3, .ref (ad qt))] := hl
  refine lv_iconst (v := nI (0)) hx hb d_Fd_plus_0 (by decide) ?_
  refine lv_istore (lv' := [(4, .int (nI (0))), (0, .ref (ad qF)), (1, .ref (ad qx)), (2, .ref (ad qy)), (3, .ref (ad qt))]) hx hb d_Fd_plus_1 hl (by decide) rfl (fun ls hl => ?_)
  have loop1 : ∀ (d k : Nat), k + d = nl →  ∀ (ev1 : Nat → va_E) (H : Heap) (locs : List Loc) (ls : Array Slot), ev1 = (va_up ev qt (eJ G nl (fil 0 k (fun i => X i + Y i) T))) → wT G A 52 ad ev1 s H locs → lv_has ls 5 [(4, .int (nI (k))), (0, .ref (ad qF)), (1, .ref (ad qx)), (2, .ref (ad qy)), (3, .ref (ad qt))] → W p l e ({ frames := 0, cells := 0, slots := 0, locals := 0 }) s m ([.ref (ad qF), .ref (ad qx), .ref (ad qy), .ref (ad qt)] : List Value).toArray below meth c H locs 0 0 (MQ below (wQc G A 52 ad (fun ov ev' => ov = none ∧ ev' = va_up ev qt (eJ G nl (fun i => X i + Y i)))) ([.ref (ad qF), .ref (ad qx), .ref (ad qy), .ref (ad qt)] : List Value).toArray s 0 0 A) (F0 m 3 ls []) := by
    intro d
    induction d with
    | zero =>
      intro k hk_k  ev1 H locs ls  o1 h hl
      have t1_qt : ev1 qt = eJ G nl (fil 0 k (fun i => X i + Y i) T) := by rw [o1, va_up_self]
      have t1_qF := (show ev1 qF = ev qF by rw [o1, va_up_ne _ _ nFt]).trans hF
      refine lv_iload hx hb d_Fd_plus_3 (lv_at hl 0 rfl) ?_
      refine lv_aload_n hx hb d_Fd_plus_5 rfl (lv_at hl 1 rfl) ?_
      refine wv_getf hx hb h qF hqF (fs := [.int (nI (nl)), .int (nI (tb)), .long (low), .long (fold), .ref (ad qw)]) t1_qF hts (fun w hw => List.mem_cons_of_mem _ (fW_Fd w hw)) hown (ci := 1) (C := "NonceBox$Field") (T := fT_Fd) (N := 5) rfl 0 (by decide) (hts _ (List.mem_cons_of_mem _ kf_Fd_9)) rfl (v := .int (nI (nl))) rfl d_Fd_plus_6 ?_
      refine lv_icmp_ge (tgt := 31) hx hb d_Fd_plus_9 (by decide) (fun _ => ?_) (fun hc => absurd ((nI_leI (by omega) (by omega)).mpr (by omega)) hc)
      have h := wT_eqJ (g := (fun i => X i + Y i)) h qt hqt t1_qt (fun j hj => by unfold fil; rw [if_pos (by omega), Nat.sub_zero])
      obtain ⟨ev2, o2⟩ : ∃ z, z = va_up ev1 qt (eJ G nl (fun i => X i + Y i)) := ⟨_, rfl⟩
      rw [← o2] at h
      have t2_qt : ev2 qt = eJ G nl (fun i => X i + Y i) := by rw [o2, va_up_self]
      have t2_qF := (show ev2 qF = ev1 qF by rw [o2, va_up_ne _ _ nFt]).trans t1_qF
      refine wv_vret hx hb hr hlocks h d_Fd_plus_31 ⟨rfl, ?_⟩
      rw [o2, o1, va_up2]
    | succ d ih =>
      intro k hk_k  ev1 H locs ls  o1 h hl
      have t1_qt : ev1 qt = eJ G nl (fil 0 k (fun i => X i + Y i) T) := by rw [o1, va_up_self]
      have t1_qF := (show ev1 qF = ev qF by rw [o1, va_up_ne _ _ nFt]).trans hF
      refine lv_iload hx hb d_Fd_plus_3 (lv_at hl 0 rfl) ?_
      refine lv_aload_n hx hb d_Fd_plus_5 rfl (lv_at hl 1 rfl) ?_
      refine wv_getf hx hb h qF hqF (fs := [.int (nI (nl)), .int (nI (tb)), .long (low), .long (fold), .ref (ad qw)]) t1_qF hts (fun w hw => List.mem_cons_of_mem _ (fW_Fd w hw)) hown (ci := 1) (C := "NonceBox$Field") (T := fT_Fd) (N := 5) rfl 0 (by decide) (hts _ (List.mem_cons_of_mem _ kf_Fd_9)) rfl (v := .int (nI (nl))) rfl d_Fd_plus_6 ?_
      refine lv_icmp_ge (tgt := 31) hx hb d_Fd_plus_9 (by decide) (fun hc => absurd ((nI_leI (by omega) (by omega)).mp hc) (by omega)) (fun _ => ?_)
      obtain ⟨X1, hX1, eX1⟩ := al_read (k := k) (g := (fun i => X i + Y i)) hX hT
      rw [← o1] at hX1
      obtain ⟨Y1, hY1, eY1⟩ := al_read (k := k) (g := (fun i => X i + Y i)) hY hT
      rw [← o1] at hY1
      refine lv_aload_n hx hb d_Fd_plus_12 rfl (lv_at hl 4 rfl) ?_
      refine lv_iload hx hb d_Fd_plus_13 (lv_at hl 0 rfl) ?_
      refine lv_aload_n hx hb d_Fd_plus_15 rfl (lv_at hl 2 rfl) ?_
      refine lv_iload hx hb d_Fd_plus_16 (lv_at hl 0 rfl) ?_
      refine wv_lald hx hb h qx hqx (f := X1) hX1 (k := k) rfl (by omega) (by omega) d_Fd_plus_18 ?_
      refine wv_topl eX1 ?_
      refine lv_aload_n hx hb d_Fd_plus_19 rfl (lv_at hl 3 rfl) ?_
      refine lv_iload hx hb d_Fd_plus_20 (lv_at hl 0 rfl) ?_
      refine wv_lald hx hb h qy hqy (f := Y1) hY1 (k := k) rfl (by omega) (by omega) d_Fd_plus_22 ?_
      refine wv_topl eY1 ?_
      refine lv_ladd hx hb d_Fd_plus_23 ?_
      refine wv_last hx hb h qt hqt (f := (fil 0 k (fun i => X i + Y i) T)) t1_qt (k := k) rfl (by omega) (by omega) d_Fd_plus_24 (fun H locs h => ?_)
      obtain ⟨ev2, o2⟩ : ∃ z, z = va_up ev1 qt (eJ G nl (va_up ((fil 0 k (fun i => X i + Y i) T)) k ((X k) + (Y k)))) := ⟨_, rfl⟩
      rw [← o2] at h
      have t2_qt : ev2 qt = eJ G nl (va_up ((fil 0 k (fun i => X i + Y i) T)) k ((X k) + (Y k))) := by rw [o2, va_up_self]
      have t2_qF := (show ev2 qF = ev1 qF by rw [o2, va_up_ne _ _ nFt]).trans t1_qF
      refine lv_iinc (v := nI (k + 1)) (lv' := [(4, .int (nI (k + 1))), (0, .ref (ad qF)), (1, .ref (ad qx)), (2, .ref (ad qy)), (3, .ref (ad qt))]) hx hb d_Fd_plus_25 hl (k := 0) rfl (nI_add _ _) (by decide) rfl (fun ls hl => ?_)
      refine lv_goto (tgt := 3) hx hb d_Fd_plus_28 (by decide) ?_
      refine ih (k + 1) (by omega) ev2 H locs ls ?_ h (lv_sub hl [0, 1, 2, 3, 4] rfl)
      rw [o2, o1, va_up2, ← fil_s 0 k (fun i => X i + Y i) T rfl, Nat.zero_add]
  exact loop1 nl 0 (by omega) ev s.heap [] ls (by rw [fil_0, va_upi _ _ hT]) h (lv_sub hl [0, 1, 2, 3, 4] rfl)
theorem d_Fd_minus_0 : decode c_Fd_minus 0 = .ok (.iconst 0, 1) := by decide +kernel
theorem d_Fd_minus_1 : decode c_Fd_minus 1 = .ok (.istore 4, 2) := by decide +kernel
theorem d_Fd_minus_3 : decode c_Fd_minus 3 = .ok (.iload 4, 2) := by decide +kernel
theorem d_Fd_minus_5 : decode c_Fd_minus 5 = .ok (.aload_n 0, 1) := by decide +kernel
theorem d_Fd_minus_6 : decode c_Fd_minus 6 = .ok (.getfield 9, 3) := by decide +kernel
theorem d_Fd_minus_9 : decode c_Fd_minus 9 = .ok (.if_icmp .ge 22, 3) := by decide +kernel
theorem d_Fd_minus_12 : decode c_Fd_minus 12 = .ok (.aload_n 3, 1) := by decide +kernel
theorem d_Fd_minus_13 : decode c_Fd_minus 13 = .ok (.iload 4, 2) := by decide +kernel
theorem d_Fd_minus_15 : decode c_Fd_minus 15 = .ok (.aload_n 1, 1) := by decide +kernel
theorem d_Fd_minus_16 : decode c_Fd_minus 16 = .ok (.iload 4, 2) := by decide +kernel
theorem d_Fd_minus_18 : decode c_Fd_minus 18 = .ok (.laload, 1) := by decide +kernel
theorem d_Fd_minus_19 : decode c_Fd_minus 19 = .ok (.aload_n 2, 1) := by decide +kernel
theorem d_Fd_minus_20 : decode c_Fd_minus 20 = .ok (.iload 4, 2) := by decide +kernel
theorem d_Fd_minus_22 : decode c_Fd_minus 22 = .ok (.laload, 1) := by decide +kernel
theorem d_Fd_minus_23 : decode c_Fd_minus 23 = .ok (.lsub, 1) := by decide +kernel
theorem d_Fd_minus_24 : decode c_Fd_minus 24 = .ok (.lastore, 1) := by decide +kernel
theorem d_Fd_minus_25 : decode c_Fd_minus 25 = .ok (.iinc 4 1, 3) := by decide +kernel
theorem d_Fd_minus_28 : decode c_Fd_minus 28 = .ok (.goto (-25), 3) := by decide +kernel
theorem d_Fd_minus_31 : decode c_Fd_minus 31 = .ok (.return_, 1) := by decide +kernel
set_option maxRecDepth 100000 in
set_option maxHeartbeats 4000000 in
/-- row - row -/
theorem m_Fd_minus (l : Launch) (G : wG) (A : Nat → Prop) (ad : Nat → Nat) (ev : Nat → va_E) (qF qw nl tb : Nat) (low fold : Int64) (hqF : qF < 52) (hF : ev qF = eO 1 [.int (nI nl), .int (nI tb), .long low, .long fold, .ref (ad qw)]) (hnl : 2 ≤ nl) (hnl2 : nl < 100) (qx qy qt : Nat) (X Y T : Nat → Int64) (hqx : qx < 52) (hqy : qy < 52) (hqt : qt < 52) (hX : ev qx = eJ G nl X) (hY : ev qy = eJ G nl Y) (hT : ev qt = eJ G nl T) (nFt : qF ≠ qt) : wM l y_Fd_minus w_Fd_minus ({ frames := 0, cells := 0, slots := 0, locals := 0 }) G A 52 ad ev [.ref (ad qF), .ref (ad qx), .ref (ad qy), .ref (ad qt)] (fun ov ev' => ov = none ∧ ev' = va_up ev qt (eJ G nl (fun i => X i - Y i))) := by
  refine wv_ofW (cc := c_Fd_minus) (maxL := 5) (ret := none) (by decide) rfl (Nat.le_of_ble_eq_true rfl) ?_
  intro p e s m below meth c ls hx hb hr hml hts hown hlocks hini h hl
  have hl : lv_has ls 5 [(0, .ref (ad qF)), (1, .ref (ad qx)), (2, .ref (ad qy)), (3, .ref (ad qt))] := hl
  refine lv_iconst (v := nI (0)) hx hb d_Fd_minus_0 (by decide) ?_
  refine lv_istore (lv' := [(4, .int (nI (0))), (0, .ref (ad qF)), (1, .ref (ad qx)), (2, .ref (ad qy)), (3, .ref (ad qt))]) hx hb d_Fd_minus_1 hl (by decide) rfl (fun ls hl => ?_)
  have loop1 : ∀ (d k : Nat), k + d = nl →  ∀ (ev1 : Nat → va_E) (H : Heap) (locs : List Loc) (ls : Array Slot), ev1 = (va_up ev qt (eJ G nl (fil 0 k (fun i => X i - Y i) T))) → wT G A 52 ad ev1 s H locs → lv_has ls 5 [(4, .int (nI (k))), (0, .ref (ad qF)), (1, .ref (ad qx)), (2, .ref (ad qy)), (3, .ref (ad qt))] → W p l e ({ frames := 0, cells := 0, slots := 0, locals := 0 }) s m ([.ref (ad qF), .ref (ad qx), .ref (ad qy), .ref (ad qt)] : List Value).toArray below meth c H locs 0 0 (MQ below (wQc G A 52 ad (fun ov ev' => ov = none ∧ ev' = va_up ev qt (eJ G nl (fun i => X i - Y i)))) ([.ref (ad qF), .ref (ad qx), .ref (ad qy), .ref (ad qt)] : List Value).toArray s 0 0 A) (F0 m 3 ls []) := by
    intro d
    induction d with
    | zero =>
      intro k hk_k  ev1 H locs ls  o1 h hl
      have t1_qt : ev1 qt = eJ G nl (fil 0 k (fun i => X i - Y i) T) := by rw [o1, va_up_self]
      have t1_qF := (show ev1 qF = ev qF by rw [o1, va_up_ne _ _ nFt]).trans hF
      refine lv_iload hx hb d_Fd_minus_3 (lv_at hl 0 rfl) ?_
      refine lv_aload_n hx hb d_Fd_minus_5 rfl (lv_at hl 1 rfl) ?_
      refine wv_getf hx hb h qF hqF (fs := [.int (nI (nl)), .int (nI (tb)), .long (low), .long (fold), .ref (ad qw)]) t1_qF hts (fun w hw => List.mem_cons_of_mem _ (fW_Fd w hw)) hown (ci := 1) (C := "NonceBox$Field") (T := fT_Fd) (N := 5) rfl 0 (by decide) (hts _ (List.mem_cons_of_mem _ kf_Fd_9)) rfl (v := .int (nI (nl))) rfl d_Fd_minus_6 ?_
      refine lv_icmp_ge (tgt := 31) hx hb d_Fd_minus_9 (by decide) (fun _ => ?_) (fun hc => absurd ((nI_leI (by omega) (by omega)).mpr (by omega)) hc)
      have h := wT_eqJ (g := (fun i => X i - Y i)) h qt hqt t1_qt (fun j hj => by unfold fil; rw [if_pos (by omega), Nat.sub_zero])
      obtain ⟨ev2, o2⟩ : ∃ z, z = va_up ev1 qt (eJ G nl (fun i => X i - Y i)) := ⟨_, rfl⟩
      rw [← o2] at h
      have t2_qt : ev2 qt = eJ G nl (fun i => X i - Y i) := by rw [o2, va_up_self]
      have t2_qF := (show ev2 qF = ev1 qF by rw [o2, va_up_ne _ _ nFt]).trans t1_qF
      refine wv_vret hx hb hr hlocks h d_Fd_minus_31 ⟨rfl, ?_⟩
      rw [o2, o1, va_up2]
    | succ d ih =>
      intro k hk_k  ev1 H locs ls  o1 h hl
      have t1_qt : ev1 qt = eJ G nl (fil 0 k (fun i => X i - Y i) T) := by rw [o1, va_up_self]
      have t1_qF := (show ev1 qF = ev qF by rw [o1, va_up_ne _ _ nFt]).trans hF
      refine lv_iload hx hb d_Fd_minus_3 (lv_at hl 0 rfl) ?_
      refine lv_aload_n hx hb d_Fd_minus_5 rfl (lv_at hl 1 rfl) ?_
      refine wv_getf hx hb h qF hqF (fs := [.int (nI (nl)), .int (nI (tb)), .long (low), .long (fold), .ref (ad qw)]) t1_qF hts (fun w hw => List.mem_cons_of_mem _ (fW_Fd w hw)) hown (ci := 1) (C := "NonceBox$Field") (T := fT_Fd) (N := 5) rfl 0 (by decide) (hts _ (List.mem_cons_of_mem _ kf_Fd_9)) rfl (v := .int (nI (nl))) rfl d_Fd_minus_6 ?_
      refine lv_icmp_ge (tgt := 31) hx hb d_Fd_minus_9 (by decide) (fun hc => absurd ((nI_leI (by omega) (by omega)).mp hc) (by omega)) (fun _ => ?_)
      obtain ⟨X1, hX1, eX1⟩ := al_read (k := k) (g := (fun i => X i - Y i)) hX hT
      rw [← o1] at hX1
      obtain ⟨Y1, hY1, eY1⟩ := al_read (k := k) (g := (fun i => X i - Y i)) hY hT
      rw [← o1] at hY1
      refine lv_aload_n hx hb d_Fd_minus_12 rfl (lv_at hl 4 rfl) ?_
      refine lv_iload hx hb d_Fd_minus_13 (lv_at hl 0 rfl) ?_
      refine lv_aload_n hx hb d_Fd_minus_15 rfl (lv_at hl 2 rfl) ?_
      refine lv_iload hx hb d_Fd_minus_16 (lv_at hl 0 rfl) ?_
      refine wv_lald hx hb h qx hqx (f := X1) hX1 (k := k) rfl (by omega) (by omega) d_Fd_minus_18 ?_
      refine wv_topl eX1 ?_
      refine lv_aload_n hx hb d_Fd_minus_19 rfl (lv_at hl 3 rfl) ?_
      refine lv_iload hx hb d_Fd_minus_20 (lv_at hl 0 rfl) ?_
      refine wv_lald hx hb h qy hqy (f := Y1) hY1 (k := k) rfl (by omega) (by omega) d_Fd_minus_22 ?_
      refine wv_topl eY1 ?_
      refine lv_lsub hx hb d_Fd_minus_23 ?_
      refine wv_last hx hb h qt hqt (f := (fil 0 k (fun i => X i - Y i) T)) t1_qt (k := k) rfl (by omega) (by omega) d_Fd_minus_24 (fun H locs h => ?_)
      obtain ⟨ev2, o2⟩ : ∃ z, z = va_up ev1 qt (eJ G nl (va_up ((fil 0 k (fun i => X i - Y i) T)) k ((X k) - (Y k)))) := ⟨_, rfl⟩
      rw [← o2] at h
      have t2_qt : ev2 qt = eJ G nl (va_up ((fil 0 k (fun i => X i - Y i) T)) k ((X k) - (Y k))) := by rw [o2, va_up_self]
      have t2_qF := (show ev2 qF = ev1 qF by rw [o2, va_up_ne _ _ nFt]).trans t1_qF
      refine lv_iinc (v := nI (k + 1)) (lv' := [(4, .int (nI (k + 1))), (0, .ref (ad qF)), (1, .ref (ad qx)), (2, .ref (ad qy)), (3, .ref (ad qt))]) hx hb d_Fd_minus_25 hl (k := 0) rfl (nI_add _ _) (by decide) rfl (fun ls hl => ?_)
      refine lv_goto (tgt := 3) hx hb d_Fd_minus_28 (by decide) ?_
      refine ih (k + 1) (by omega) ev2 H locs ls ?_ h (lv_sub hl [0, 1, 2, 3, 4] rfl)
      rw [o2, o1, va_up2, ← fil_s 0 k (fun i => X i - Y i) T rfl, Nat.zero_add]
  exact loop1 nl 0 (by omega) ev s.heap [] ls (by rw [fil_0, va_upi _ _ hT]) h (lv_sub hl [0, 1, 2, 3, 4] rfl)
theorem d_Fd_scale_0 : decode c_Fd_scale 0 = .ok (.iconst 0, 1) := by decide +kernel
theorem d_Fd_scale_1 : decode c_Fd_scale 1 = .ok (.istore 4, 2) := by decide +kernel
theorem d_Fd_scale_3 : decode c_Fd_scale 3 = .ok (.iload 4, 2) := by decide +kernel
theorem d_Fd_scale_5 : decode c_Fd_scale 5 = .ok (.aload_n 0, 1) := by decide +kernel
theorem d_Fd_scale_6 : decode c_Fd_scale 6 = .ok (.getfield 9, 3) := by decide +kernel
theorem d_Fd_scale_9 : decode c_Fd_scale 9 = .ok (.if_icmp .ge 20, 3) := by decide +kernel
theorem d_Fd_scale_12 : decode c_Fd_scale 12 = .ok (.aload_n 3, 1) := by decide +kernel
theorem d_Fd_scale_13 : decode c_Fd_scale 13 = .ok (.iload 4, 2) := by decide +kernel
theorem d_Fd_scale_15 : decode c_Fd_scale 15 = .ok (.aload_n 1, 1) := by decide +kernel
theorem d_Fd_scale_16 : decode c_Fd_scale 16 = .ok (.iload 4, 2) := by decide +kernel
theorem d_Fd_scale_18 : decode c_Fd_scale 18 = .ok (.laload, 1) := by decide +kernel
theorem d_Fd_scale_19 : decode c_Fd_scale 19 = .ok (.iload_n 2, 1) := by decide +kernel
theorem d_Fd_scale_20 : decode c_Fd_scale 20 = .ok (.i2l, 1) := by decide +kernel
theorem d_Fd_scale_21 : decode c_Fd_scale 21 = .ok (.lmul, 1) := by decide +kernel
theorem d_Fd_scale_22 : decode c_Fd_scale 22 = .ok (.lastore, 1) := by decide +kernel
theorem d_Fd_scale_23 : decode c_Fd_scale 23 = .ok (.iinc 4 1, 3) := by decide +kernel
theorem d_Fd_scale_26 : decode c_Fd_scale 26 = .ok (.goto (-23), 3) := by decide +kernel
theorem d_Fd_scale_29 : decode c_Fd_scale 29 = .ok (.aload_n 0, 1) := by decide +kernel
theorem d_Fd_scale_30 : decode c_Fd_scale 30 = .ok (.aload_n 3, 1) := by decide +kernel
theorem d_Fd_scale_31 : decode c_Fd_scale 31 = .ok (.invokevirtual 39, 3) := by decide +kernel
theorem d_Fd_scale_34 : decode c_Fd_scale 34 = .ok (.return_, 1) := by decide +kernel
set_option maxRecDepth 100000 in
set_option maxHeartbeats 4000000 in
/-- a row times an int -/
theorem m_Fd_scale (l : Launch) (G : wG) (A : Nat → Prop) (ad : Nat → Nat) (ev : Nat → va_E) (qF qw nl tb : Nat) (low fold : Int64) (hqF : qF < 52) (hF : ev qF = eO 1 [.int (nI nl), .int (nI tb), .long low, .long fold, .ref (ad qw)]) (hnl : 2 ≤ nl) (hnl2 : nl < 100) (qx qt : Nat) (v : Int32) (X T : Nat → Int64) (hqx : qx < 52) (hqt : qt < 52) (hX : ev qx = eJ G nl X) (hT : ev qt = eJ G nl T) (nFt : qF ≠ qt) : wM l y_Fd_scale w_Fd_scale ({ frames := 6, cells := 0, slots := 0, locals := 200 }) G A 52 ad ev [.ref (ad qF), .ref (ad qx), .int (v), .ref (ad qt)] (fun ov ev' => ov = none ∧ ev' = va_up ev qt (eJ G nl (fTop nl tb low (fun i => X i * v.toInt64)))) := by
  refine wv_ofW (cc := c_Fd_scale) (maxL := 5) (ret := none) (by decide) rfl (Nat.le_of_ble_eq_true rfl) ?_
  intro p e s m below meth c ls hx hb hr hml hts hown hlocks hini h hl
  have hl : lv_has ls 5 [(0, .ref (ad qF)), (1, .ref (ad qx)), (2, .int (v)), (3, .ref (ad qt))] := hl
  refine lv_iconst (v := nI (0)) hx hb d_Fd_scale_0 (by decide) ?_
  refine lv_istore (lv' := [(4, .int (nI (0))), (0, .ref (ad qF)), (1, .ref (ad qx)), (2, .int (v)), (3, .ref (ad qt))]) hx hb d_Fd_scale_1 hl (by decide) rfl (fun ls hl => ?_)
  have loop1 : ∀ (d k : Nat), k + d = nl →  ∀ (ev1 : Nat → va_E) (H : Heap) (locs : List Loc) (ls : Array Slot), ev1 = (va_up ev qt (eJ G nl (fil 0 k (fun i => X i * v.toInt64) T))) → wT G A 52 ad ev1 s H locs → lv_has ls 5 [(4, .int (nI (k))), (0, .ref (ad qF)), (1, .ref (ad qx)), (2, .int (v)), (3, .ref (ad qt))] → W p l e ({ frames := 6, cells := 0, slots := 0, locals := 200 }) s m ([.ref (ad qF), .ref (ad qx), .int (v), .ref (ad qt)] : List Value).toArray below meth c H locs 0 0 (MQ below (wQc G A 52 ad (fun ov ev' => ov = none ∧ ev' = va_up ev qt (eJ G nl (fTop nl tb low (fun i => X i * v.toInt64))))) ([.ref (ad qF), .ref (ad qx), .int (v), .ref (ad qt)] : List Value).toArray s 0 0 A) (F0 m 3 ls []) := by
    intro d
    induction d with
    | zero =>
      intro k hk_k  ev1 H locs ls  o1 h hl
      have t1_qt : ev1 qt = eJ G nl (fil 0 k (fun i => X i * v.toInt64) T) := by rw [o1, va_up_self]
      have t1_qF := (show ev1 qF = ev qF by rw [o1, va_up_ne _ _ nFt]).trans hF
      refine lv_iload hx hb d_Fd_scale_3 (lv_at hl 0 rfl) ?_
      refine lv_aload_n hx hb d_Fd_scale_5 rfl (lv_at hl 1 rfl) ?_
      refine wv_getf hx hb h qF hqF (fs := [.int (nI (nl)), .int (nI (tb)), .long (low), .long (fold), .ref (ad qw)]) t1_qF hts (fun w hw => List.mem_cons_of_mem _ (fW_Fd w hw)) hown (ci := 1) (C := "NonceBox$Field") (T := fT_Fd) (N := 5) rfl 0 (by decide) (hts _ (List.mem_cons_of_mem _ kf_Fd_9)) rfl (v := .int (nI (nl))) rfl d_Fd_scale_6 ?_
      refine lv_icmp_ge (tgt := 29) hx hb d_Fd_scale_9 (by decide) (fun _ => ?_) (fun hc => absurd ((nI_leI (by omega) (by omega)).mpr (by omega)) hc)
      have h := wT_eqJ (g := (fun i => X i * v.toInt64)) h qt hqt t1_qt (fun j hj => by unfold fil; rw [if_pos (by omega), Nat.sub_zero])
      obtain ⟨ev2, o2⟩ : ∃ z, z = va_up ev1 qt (eJ G nl (fun i => X i * v.toInt64)) := ⟨_, rfl⟩
      rw [← o2] at h
      have t2_qt : ev2 qt = eJ G nl (fun i => X i * v.toInt64) := by rw [o2, va_up_self]
      have t2_qF := (show ev2 qF = ev1 qF by rw [o2, va_up_ne _ _ nFt]).trans t1_qF
      refine lv_aload_n hx hb d_Fd_scale_29 rfl (lv_at hl 1 rfl) ?_
      refine lv_aload_n hx hb d_Fd_scale_30 rfl (lv_at hl 4 rfl) ?_
      refine wv_V (As := [.ref (ad qt)]) (rest := []) (k := 1) ⟨hx, hb, hml, hown, hts⟩ h qF hqF (C := "NonceBox$Field") t2_qF rfl (m_Fd_foldTop l G A ad ev2 qF qw nl tb low fold hqF t2_qF hnl hnl2 qt (fun i => X i * v.toInt64) hqt t2_qt nFt) kc_Fd_foldTop kl_Fd_39 km_Fd_foldTop kv_Fd_foldTop ki_Fd (by decide +kernel) ⟨rfl, rfl, Nat.le_of_ble_eq_true rfl, Nat.le_of_ble_eq_true rfl⟩ hl.1 rfl rfl (Nat.le_of_ble_eq_true rfl) ⟨Nat.le_refl _, Nat.le_refl _⟩ d_Fd_scale_31 ?_
      intro ov ev3 H locs hp h
      rw [hp.1]
      refine W.eq (g2 := F0 m 34 ls []) rfl ?_
      have o3 : ev3 = (va_up ev2 qt (eJ G nl (fTop nl tb low (fun i => X i * v.toInt64)))) := hp.2
      have t3_qt : ev3 qt = eJ G nl (fTop nl tb low (fun i => X i * v.toInt64)) := by rw [o3, va_up_self]
      have t3_qF := (show ev3 qF = ev2 qF by rw [o3, va_up_ne _ _ nFt]).trans t2_qF
      refine wv_vret hx hb hr hlocks h d_Fd_scale_34 ⟨rfl, ?_⟩
      rw [o3, o2, o1, va_up2, va_up2]
    | succ d ih =>
      intro k hk_k  ev1 H locs ls  o1 h hl
      have t1_qt : ev1 qt = eJ G nl (fil 0 k (fun i => X i * v.toInt64) T) := by rw [o1, va_up_self]
      have t1_qF := (show ev1 qF = ev qF by rw [o1, va_up_ne _ _ nFt]).trans hF
      refine lv_iload hx hb d_Fd_scale_3 (lv_at hl 0 rfl) ?_
      refine lv_aload_n hx hb d_Fd_scale_5 rfl (lv_at hl 1 rfl) ?_
      refine wv_getf hx hb h qF hqF (fs := [.int (nI (nl)), .int (nI (tb)), .long (low), .long (fold), .ref (ad qw)]) t1_qF hts (fun w hw => List.mem_cons_of_mem _ (fW_Fd w hw)) hown (ci := 1) (C := "NonceBox$Field") (T := fT_Fd) (N := 5) rfl 0 (by decide) (hts _ (List.mem_cons_of_mem _ kf_Fd_9)) rfl (v := .int (nI (nl))) rfl d_Fd_scale_6 ?_
      refine lv_icmp_ge (tgt := 29) hx hb d_Fd_scale_9 (by decide) (fun hc => absurd ((nI_leI (by omega) (by omega)).mp hc) (by omega)) (fun _ => ?_)
      obtain ⟨X1, hX1, eX1⟩ := al_read (k := k) (g := (fun i => X i * v.toInt64)) hX hT
      rw [← o1] at hX1
      refine lv_aload_n hx hb d_Fd_scale_12 rfl (lv_at hl 4 rfl) ?_
      refine lv_iload hx hb d_Fd_scale_13 (lv_at hl 0 rfl) ?_
      refine lv_aload_n hx hb d_Fd_scale_15 rfl (lv_at hl 2 rfl) ?_
      refine lv_iload hx hb d_Fd_scale_16 (lv_at hl 0 rfl) ?_
      refine wv_lald hx hb h qx hqx (f := X1) hX1 (k := k) rfl (by omega) (by omega) d_Fd_scale_18 ?_
      refine wv_topl eX1 ?_
      refine lv_iload_n hx hb d_Fd_scale_19 rfl (lv_at hl 3 rfl) ?_
      refine lv_i2l hx hb d_Fd_scale_20 rfl ?_
      refine lv_lmul hx hb d_Fd_scale_21 ?_
      refine wv_last hx hb h qt hqt (f := (fil 0 k (fun i => X i * v.toInt64) T)) t1_qt (k := k) rfl (by omega) (by omega) d_Fd_scale_22 (fun H locs h => ?_)
      obtain ⟨ev2, o2⟩ : ∃ z, z = va_up ev1 qt (eJ G nl (va_up ((fil 0 k (fun i => X i * v.toInt64) T)) k ((X k) * v.toInt64))) := ⟨_, rfl⟩
      rw [← o2] at h
      have t2_qt : ev2 qt = eJ G nl (va_up ((fil 0 k (fun i => X i * v.toInt64) T)) k ((X k) * v.toInt64)) := by rw [o2, va_up_self]
      have t2_qF := (show ev2 qF = ev1 qF by rw [o2, va_up_ne _ _ nFt]).trans t1_qF
      refine lv_iinc (v := nI (k + 1)) (lv' := [(4, .int (nI (k + 1))), (0, .ref (ad qF)), (1, .ref (ad qx)), (2, .int (v)), (3, .ref (ad qt))]) hx hb d_Fd_scale_23 hl (k := 0) rfl (nI_add _ _) (by decide) rfl (fun ls hl => ?_)
      refine lv_goto (tgt := 3) hx hb d_Fd_scale_26 (by decide) ?_
      refine ih (k + 1) (by omega) ev2 H locs ls ?_ h (lv_sub hl [0, 1, 2, 3, 4] rfl)
      rw [o2, o1, va_up2, ← fil_s 0 k (fun i => X i * v.toInt64) T rfl, Nat.zero_add]
  exact loop1 nl 0 (by omega) ev s.heap [] ls (by rw [fil_0, va_upi _ _ hT]) h (lv_sub hl [0, 1, 2, 3, 4] rfl)
theorem d_Fd_setTo_0 : decode c_Fd_setTo 0 = .ok (.aload_n 1, 1) := by decide +kernel
theorem d_Fd_setTo_1 : decode c_Fd_setTo 1 = .ok (.lconst 0, 1) := by decide +kernel
theorem d_Fd_setTo_2 : decode c_Fd_setTo 2 = .ok (.invokestatic 27, 3) := by decide +kernel
theorem d_Fd_setTo_5 : decode c_Fd_setTo 5 = .ok (.aload_n 1, 1) := by decide +kernel
theorem d_Fd_setTo_6 : decode c_Fd_setTo 6 = .ok (.iconst 0, 1) := by decide +kernel
theorem d_Fd_setTo_7 : decode c_Fd_setTo 7 = .ok (.iload_n 2, 1) := by decide +kernel
theorem d_Fd_setTo_8 : decode c_Fd_setTo 8 = .ok (.i2l, 1) := by decide +kernel
theorem d_Fd_setTo_9 : decode c_Fd_setTo 9 = .ok (.lastore, 1) := by decide +kernel
theorem d_Fd_setTo_10 : decode c_Fd_setTo 10 = .ok (.return_, 1) := by decide +kernel
set_option maxRecDepth 100000 in
set_option maxHeartbeats 4000000 in
/-- a row set to an int -/
theorem m_Fd_setTo (l : Launch) (G : wG) (A : Nat → Prop) (ad : Nat → Nat) (ev : Nat → va_E) (qF q M : Nat) (f : Nat → Int64) (v : Int32) (hq : q < 52) (hev : ev q = eJ G M f) (h1 : 1 ≤ M) (hM : M < 2 ^ 30) : wM l y_Fd_setTo w_Fd_setTo ({ frames := 3, cells := 0, slots := 0, locals := 100 }) G A 52 ad ev [.ref (ad qF), .ref (ad q), .int (v)] (fun ov ev' => ov = none ∧ ev' = va_up ev q (eJ G M (va_up (fun _ => 0) 0 v.toInt64))) := by
  refine wv_ofW (cc := c_Fd_setTo) (maxL := 3) (ret := none) (by decide) rfl (Nat.le_of_ble_eq_true rfl) ?_
  intro p e s m below meth c ls hx hb hr hml hts hown hlocks hini h hl
  have hl : lv_has ls 3 [(0, .ref (ad qF)), (1, .ref (ad q)), (2, .int (v))] := hl
  refine lv_aload_n hx hb d_Fd_setTo_0 rfl (lv_at hl 1 rfl) ?_
  refine lv_lconst (v := 0) hx hb d_Fd_setTo_1 (by decide) ?_
  refine wv_Sx (As := [.ref (ad q), .long (0)]) (rest := []) (k := 2) ⟨hx, hb, hml, hown, hts⟩ h (m_Ar_fill1 l G A ad ev q M f 0 hq hev hM) kc_Ar_fill1 kl_Fd_27 ks_Ar_fill1 ki_Ar (by decide +kernel) ⟨rfl, rfl, Nat.le_of_ble_eq_true rfl, Nat.le_of_ble_eq_true rfl⟩ hl.1 rfl rfl (Nat.le_of_ble_eq_true rfl) ⟨Nat.le_refl _, Nat.le_refl _⟩ d_Fd_setTo_2 ?_
  intro ov ev1 H locs hp h
  rw [hp.1]
  refine W.eq (g2 := F0 m 5 ls []) rfl ?_
  have o1 : ev1 = (va_up ev q (eJ G M (fun _ => 0))) := hp.2
  have t1_q : ev1 q = eJ G M (fun _ => 0) := by rw [o1, va_up_self]
  refine lv_aload_n hx hb d_Fd_setTo_5 rfl (lv_at hl 1 rfl) ?_
  refine lv_iconst (v := nI (0)) hx hb d_Fd_setTo_6 (by decide) ?_
  refine lv_iload_n hx hb d_Fd_setTo_7 rfl (lv_at hl 2 rfl) ?_
  refine lv_i2l hx hb d_Fd_setTo_8 rfl ?_
  refine wv_last hx hb h q hq (f := (fun _ => 0)) t1_q (k := 0) rfl (by omega) (by omega) d_Fd_setTo_9 (fun H locs h => ?_)
  obtain ⟨ev2, o2⟩ : ∃ z, z = va_up ev1 q (eJ G M (va_up ((fun _ => 0)) 0 v.toInt64)) := ⟨_, rfl⟩
  rw [← o2] at h
  have t2_q : ev2 q = eJ G M (va_up ((fun _ => 0)) 0 v.toInt64) := by rw [o2, va_up_self]
  refine wv_vret hx hb hr hlocks h d_Fd_setTo_10 ⟨rfl, ?_⟩
  rw [o2, o1, va_up2]
theorem d_Fd_copy_0 : decode c_Fd_copy 0 = .ok (.aload_n 1, 1) := by decide +kernel
theorem d_Fd_copy_1 : decode c_Fd_copy 1 = .ok (.iconst 0, 1) := by decide +kernel
theorem d_Fd_copy_2 : decode c_Fd_copy 2 = .ok (.aload_n 2, 1) := by decide +kernel
theorem d_Fd_copy_3 : decode c_Fd_copy 3 = .ok (.iconst 0, 1) := by decide +kernel
theorem d_Fd_copy_4 : decode c_Fd_copy 4 = .ok (.aload_n 0, 1) := by decide +kernel
theorem d_Fd_copy_5 : decode c_Fd_copy 5 = .ok (.getfield 9, 3) := by decide +kernel
theorem d_Fd_copy_8 : decode c_Fd_copy 8 = .ok (.invokestatic 33, 3) := by decide +kernel
theorem d_Fd_copy_11 : decode c_Fd_copy 11 = .ok (.return_, 1) := by decide +kernel
set_option maxRecDepth 100000 in
set_option maxHeartbeats 4000000 in
/-- a row copied -/
theorem m_Fd_copy (l : Launch) (G : wG) (A : Nat → Prop) (ad : Nat → Nat) (ev : Nat → va_E) (qF qw nl tb : Nat) (low fold : Int64) (hqF : qF < 52) (hF : ev qF = eO 1 [.int (nI nl), .int (nI tb), .long low, .long fold, .ref (ad qw)]) (hnl : 2 ≤ nl) (hnl2 : nl < 100) (qx qt : Nat) (X T : Nat → Int64) (hqx : qx < 52) (hqt : qt < 52) (hX : ev qx = eJ G nl X) (hT : ev qt = eJ G nl T) (nxt : qx ≠ qt) (nFt : qF ≠ qt) : wM l y_Fd_copy w_Fd_copy ({ frames := 3, cells := 0, slots := 0, locals := 100 }) G A 52 ad ev [.ref (ad qF), .ref (ad qx), .ref (ad qt)] (fun ov ev' => ov = none ∧ ev' = va_up ev qt (eJ G nl X)) := by
  refine wv_ofW (cc := c_Fd_copy) (maxL := 3) (ret := none) (by decide) rfl (Nat.le_of_ble_eq_true rfl) ?_
  intro p e s m below meth c ls hx hb hr hml hts hown hlocks hini h hl
  have hl : lv_has ls 3 [(0, .ref (ad qF)), (1, .ref (ad qx)), (2, .ref (ad qt))] := hl
  refine lv_aload_n hx hb d_Fd_copy_0 rfl (lv_at hl 1 rfl) ?_
  refine lv_iconst (v := nI (0)) hx hb d_Fd_copy_1 (by decide) ?_
  refine lv_aload_n hx hb d_Fd_copy_2 rfl (lv_at hl 2 rfl) ?_
  refine lv_iconst (v := nI (0)) hx hb d_Fd_copy_3 (by decide) ?_
  refine lv_aload_n hx hb d_Fd_copy_4 rfl (lv_at hl 0 rfl) ?_
  refine wv_getf hx hb h qF hqF (fs := [.int (nI (nl)), .int (nI (tb)), .long (low), .long (fold), .ref (ad qw)]) hF hts (fun w hw => List.mem_cons_of_mem _ (fW_Fd w hw)) hown (ci := 1) (C := "NonceBox$Field") (T := fT_Fd) (N := 5) rfl 0 (by decide) (hts _ (List.mem_cons_of_mem _ kf_Fd_9)) rfl (v := .int (nI (nl))) rfl d_Fd_copy_5 ?_
  refine wv_copyl hx hb (hml.trans hl.1.symm) h hown (hts _ (List.mem_cons_of_mem _ kl_Fd_33)) (hts _ (List.mem_cons_of_mem _ kn_Sy_arraycopy)) (hts _ (List.mem_cons_of_mem _ ks_Sy_arraycopy)) (hts _ (List.mem_cons_of_mem _ ki_Sy)) qx qt hqx hqt (f := X) (g := T) hX hT (a := 0) (b := 0) (d := nl) rfl rfl rfl (by omega) (by omega) (by omega) (by omega) (by decide) (by decide) d_Fd_copy_8 (fun H locs h => ?_)
  obtain ⟨ev1, o1⟩ : ∃ z, z = va_up ev qt (eJ G nl (va_cpy X T 0 0 nl)) := ⟨_, rfl⟩
  rw [← o1] at h
  have t1_qt : ev1 qt = eJ G nl (va_cpy X T 0 0 nl) := by rw [o1, va_up_self]
  have t1_qx := (show ev1 qx = ev qx by rw [o1, va_up_ne _ _ nxt]).trans hX
  have t1_qF := (show ev1 qF = ev qF by rw [o1, va_up_ne _ _ nFt]).trans hF
  have h := wT_eqJ (g := X) h qt hqt t1_qt (fun j hj => by rw [pk_cpy_in (Nat.zero_le _) (by omega), Nat.zero_add, Nat.sub_zero])
  obtain ⟨ev2, o2⟩ : ∃ z, z = va_up ev1 qt (eJ G nl X) := ⟨_, rfl⟩
  rw [← o2] at h
  have t2_qt : ev2 qt = eJ G nl X := by rw [o2, va_up_self]
  have t2_qx := (show ev2 qx = ev1 qx by rw [o2, va_up_ne _ _ nxt]).trans t1_qx
  have t2_qF := (show ev2 qF = ev1 qF by rw [o2, va_up_ne _ _ nFt]).trans t1_qF
  refine wv_vret hx hb hr hlocks h d_Fd_copy_11 ⟨rfl, ?_⟩
  rw [o2, o1, va_up2]
