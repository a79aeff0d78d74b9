theorem d_Ar_rangeCheck_0 : decode c_Ar_rangeCheck 0 = .ok (.iload_n 1, 1) := by decide +kernel
theorem d_Ar_rangeCheck_1 : decode c_Ar_rangeCheck 1 = .ok (.iload_n 2, 1) := by decide +kernel
theorem d_Ar_rangeCheck_2 : decode c_Ar_rangeCheck 2 = .ok (.if_icmp .le 44, 3) := by decide +kernel
theorem d_Ar_rangeCheck_5 : decode c_Ar_rangeCheck 5 = .ok (.new 43, 3) := by decide +kernel
theorem d_Ar_rangeCheck_8 : decode c_Ar_rangeCheck 8 = .ok (.dup, 1) := by decide +kernel
theorem d_Ar_rangeCheck_9 : decode c_Ar_rangeCheck 9 = .ok (.new 45, 3) := by decide +kernel
theorem d_Ar_rangeCheck_12 : decode c_Ar_rangeCheck 12 = .ok (.dup, 1) := by decide +kernel
theorem d_Ar_rangeCheck_13 : decode c_Ar_rangeCheck 13 = .ok (.invokespecial 47, 3) := by decide +kernel
theorem d_Ar_rangeCheck_16 : decode c_Ar_rangeCheck 16 = .ok (.ldc 48, 2) := by decide +kernel
theorem d_Ar_rangeCheck_18 : decode c_Ar_rangeCheck 18 = .ok (.invokevirtual 50, 3) := by decide +kernel
theorem d_Ar_rangeCheck_21 : decode c_Ar_rangeCheck 21 = .ok (.iload_n 1, 1) := by decide +kernel
theorem d_Ar_rangeCheck_22 : decode c_Ar_rangeCheck 22 = .ok (.invokevirtual 54, 3) := by decide +kernel
theorem d_Ar_rangeCheck_25 : decode c_Ar_rangeCheck 25 = .ok (.ldc 57, 2) := by decide +kernel
theorem d_Ar_rangeCheck_27 : decode c_Ar_rangeCheck 27 = .ok (.invokevirtual 50, 3) := by decide +kernel
theorem d_Ar_rangeCheck_30 : decode c_Ar_rangeCheck 30 = .ok (.iload_n 2, 1) := by decide +kernel
theorem d_Ar_rangeCheck_31 : decode c_Ar_rangeCheck 31 = .ok (.invokevirtual 54, 3) := by decide +kernel
theorem d_Ar_rangeCheck_34 : decode c_Ar_rangeCheck 34 = .ok (.ldc 59, 2) := by decide +kernel
theorem d_Ar_rangeCheck_36 : decode c_Ar_rangeCheck 36 = .ok (.invokevirtual 50, 3) := by decide +kernel
theorem d_Ar_rangeCheck_39 : decode c_Ar_rangeCheck 39 = .ok (.invokevirtual 61, 3) := by decide +kernel
theorem d_Ar_rangeCheck_42 : decode c_Ar_rangeCheck 42 = .ok (.invokespecial 65, 3) := by decide +kernel
theorem d_Ar_rangeCheck_45 : decode c_Ar_rangeCheck 45 = .ok (.athrow, 1) := by decide +kernel
theorem d_Ar_rangeCheck_46 : decode c_Ar_rangeCheck 46 = .ok (.iload_n 1, 1) := by decide +kernel
theorem d_Ar_rangeCheck_47 : decode c_Ar_rangeCheck 47 = .ok (.ifCond .ge 12, 3) := by decide +kernel
theorem d_Ar_rangeCheck_50 : decode c_Ar_rangeCheck 50 = .ok (.new 68, 3) := by decide +kernel
theorem d_Ar_rangeCheck_53 : decode c_Ar_rangeCheck 53 = .ok (.dup, 1) := by decide +kernel
theorem d_Ar_rangeCheck_54 : decode c_Ar_rangeCheck 54 = .ok (.iload_n 1, 1) := by decide +kernel
theorem d_Ar_rangeCheck_55 : decode c_Ar_rangeCheck 55 = .ok (.invokespecial 70, 3) := by decide +kernel
theorem d_Ar_rangeCheck_58 : decode c_Ar_rangeCheck 58 = .ok (.athrow, 1) := by decide +kernel
theorem d_Ar_rangeCheck_59 : decode c_Ar_rangeCheck 59 = .ok (.iload_n 2, 1) := by decide +kernel
theorem d_Ar_rangeCheck_60 : decode c_Ar_rangeCheck 60 = .ok (.iload_n 0, 1) := by decide +kernel
theorem d_Ar_rangeCheck_61 : decode c_Ar_rangeCheck 61 = .ok (.if_icmp .le 12, 3) := by decide +kernel
theorem d_Ar_rangeCheck_64 : decode c_Ar_rangeCheck 64 = .ok (.new 68, 3) := by decide +kernel
theorem d_Ar_rangeCheck_67 : decode c_Ar_rangeCheck 67 = .ok (.dup, 1) := by decide +kernel
theorem d_Ar_rangeCheck_68 : decode c_Ar_rangeCheck 68 = .ok (.iload_n 2, 1) := by decide +kernel
theorem d_Ar_rangeCheck_69 : decode c_Ar_rangeCheck 69 = .ok (.invokespecial 70, 3) := by decide +kernel
theorem d_Ar_rangeCheck_72 : decode c_Ar_rangeCheck 72 = .ok (.athrow, 1) := by decide +kernel
theorem d_Ar_rangeCheck_73 : decode c_Ar_rangeCheck 73 = .ok (.return_, 1) := by decide +kernel
set_option maxRecDepth 100000 in
set_option maxHeartbeats 4000000 in
/-- nothing is wrong -/
theorem m_Ar_rangeCheck (l : Launch) (G : wG) (A : Nat → Prop) (ad : Nat → Nat) (ev : Nat → va_E) (a b c' : Nat) (h1 : b ≤ c') (h2 : c' ≤ a) (h3 : a < 2 ^ 31) : wM l y_Ar_rangeCheck w_Ar_rangeCheck ({ frames := 0, cells := 0, slots := 0, locals := 0 }) G A 52 ad ev [.int (nI (a)), .int (nI (b)), .int (nI (c'))] (fun ov ev' => ov = none ∧ ev' = ev) := by
  refine wv_ofW (cc := c_Ar_rangeCheck) (maxL := 3) (ret := none) (by decide) rfl (Nat.le_of_ble_eq_true rfl) ?_
  intro p e s m below meth c ls hx hb hr hml hts hown hlocks hini h hl
  have hl : lv_has ls 3 [(0, .int (nI (a))), (1, .int (nI (b))), (2, .int (nI (c')))] := hl
  refine lv_iload_n hx hb d_Ar_rangeCheck_0 rfl (lv_at hl 1 rfl) ?_
  refine lv_iload_n hx hb d_Ar_rangeCheck_1 rfl (lv_at hl 2 rfl) ?_
  refine lv_icmp_le (tgt := 46) hx hb d_Ar_rangeCheck_2 (by decide) (fun _ => ?_) (fun hc => absurd ((nI_leI (by omega) (by omega)).mpr h1) hc)
  refine lv_iload_n hx hb d_Ar_rangeCheck_46 rfl (lv_at hl 1 rfl) ?_
  refine lv_if_ge (tgt := 59) hx hb d_Ar_rangeCheck_47 (by decide) (fun _ => ?_) (fun hc => absurd (nI_pos' (by omega)) hc)
  refine lv_iload_n hx hb d_Ar_rangeCheck_59 rfl (lv_at hl 2 rfl) ?_
  refine lv_iload_n hx hb d_Ar_rangeCheck_60 rfl (lv_at hl 0 rfl) ?_
  refine lv_icmp_le (tgt := 73) hx hb d_Ar_rangeCheck_61 (by decide) (fun _ => ?_) (fun hc => absurd ((nI_leI (by omega) (by omega)).mpr h2) hc)
  exact wv_vret hx hb hr hlocks h d_Ar_rangeCheck_73 ⟨rfl, rfl⟩
theorem d_Ar_fill0_0 : decode c_Ar_fill0 0 = .ok (.aload_n 0, 1) := by decide +kernel
theorem d_Ar_fill0_1 : decode c_Ar_fill0 1 = .ok (.arraylength, 1) := by decide +kernel
theorem d_Ar_fill0_2 : decode c_Ar_fill0 2 = .ok (.iload_n 1, 1) := by decide +kernel
theorem d_Ar_fill0_3 : decode c_Ar_fill0 3 = .ok (.iload_n 2, 1) := by decide +kernel
theorem d_Ar_fill0_4 : decode c_Ar_fill0 4 = .ok (.invokestatic 13, 3) := by decide +kernel
theorem d_Ar_fill0_7 : decode c_Ar_fill0 7 = .ok (.iload_n 1, 1) := by decide +kernel
theorem d_Ar_fill0_8 : decode c_Ar_fill0 8 = .ok (.istore 4, 2) := by decide +kernel
theorem d_Ar_fill0_10 : decode c_Ar_fill0 10 = .ok (.iload 4, 2) := by decide +kernel
theorem d_Ar_fill0_12 : decode c_Ar_fill0 12 = .ok (.iload_n 2, 1) := by decide +kernel
theorem d_Ar_fill0_13 : decode c_Ar_fill0 13 = .ok (.if_icmp .ge 14, 3) := by decide +kernel
theorem d_Ar_fill0_16 : decode c_Ar_fill0 16 = .ok (.aload_n 0, 1) := by decide +kernel
theorem d_Ar_fill0_17 : decode c_Ar_fill0 17 = .ok (.iload 4, 2) := by decide +kernel
theorem d_Ar_fill0_19 : decode c_Ar_fill0 19 = .ok (.iload_n 3, 1) := by decide +kernel
theorem d_Ar_fill0_20 : decode c_Ar_fill0 20 = .ok (.bastore, 1) := by decide +kernel
theorem d_Ar_fill0_21 : decode c_Ar_fill0 21 = .ok (.iinc 4 1, 3) := by decide +kernel
theorem d_Ar_fill0_24 : decode c_Ar_fill0 24 = .ok (.goto (-14), 3) := by decide +kernel
theorem d_Ar_fill0_27 : decode c_Ar_fill0 27 = .ok (.return_, 1) := by decide +kernel
set_option maxRecDepth 100000 in
set_option maxHeartbeats 4000000 in
/-- Arrays.fill of bytes with 0 -/
theorem m_Ar_fill0 (l : Launch) (G : wG) (A : Nat → Prop) (ad : Nat → Nat) (ev : Nat → va_E) (q M a b : Nat) (B : Nat → Nat) (hq : q < 52) (hev : ev q = eB G M (bs B)) (hab : a ≤ b) (hbM : b ≤ M) (hM : M < 2 ^ 30) : wM l y_Ar_fill0 w_Ar_fill0 ({ frames := 3, cells := 0, slots := 0, locals := 100 }) G A 52 ad ev [.ref (ad q), .int (nI (a)), .int (nI (b)), .int (nI (0))] (fun ov ev' => ov = none ∧ ev' = va_up ev q (eB G M (bs (fil a (b - a) (fun _ => 0) B)))) := by
  refine wv_ofW (cc := c_Ar_fill0) (maxL := 5) (ret := none) (by decide) rfl (Nat.le_of_ble_eq_true rfl) ?_
  intro p e s m below meth c ls hx hb hr hml hts hown hlocks hini h hl
  have hl : lv_has ls 5 [(0, .ref (ad q)), (1, .int (nI (a))), (2, .int (nI (b))), (3, .int (nI (0)))] := hl
  refine lv_aload_n hx hb d_Ar_fill0_0 rfl (lv_at hl 0 rfl) ?_
  refine wv_alenB hx hb h q hq hev d_Ar_fill0_1 ?_
  refine lv_iload_n hx hb d_Ar_fill0_2 rfl (lv_at hl 1 rfl) ?_
  refine lv_iload_n hx hb d_Ar_fill0_3 rfl (lv_at hl 2 rfl) ?_
  refine wv_Sx (As := [.int (nI (M)), .int (nI (a)), .int (nI (b))]) (rest := []) (k := 3) ⟨hx, hb, hml, hown, hts⟩ h (m_Ar_rangeCheck l G A ad ev M a b hab hbM (by omega)) kc_Ar_rangeCheck kl_Ar_13 ks_Ar_rangeCheck ki_Ar (by decide +kernel) ⟨rfl, rfl, Nat.le_of_ble_eq_true rfl, Nat.le_of_ble_eq_true rfl⟩ hl.1 rfl rfl (Nat.le_of_ble_eq_true rfl) ⟨Nat.le_refl _, Nat.le_refl _⟩ d_Ar_fill0_4 ?_
  intro ov ev1 H locs hp h
  rw [hp.1]
  refine W.eq (g2 := F0 m 7 ls []) rfl ?_
  rw [hp.2] at h
  refine lv_iload_n hx hb d_Ar_fill0_7 rfl (lv_at hl 1 rfl) ?_
  refine lv_istore (lv' := [(4, .int (nI (a))), (0, .ref (ad q)), (1, .int (nI (a))), (2, .int (nI (b))), (3, .int (nI (0)))]) hx hb d_Ar_fill0_8 hl (by decide) rfl (fun ls hl => ?_)
  rw [show nI a = nI (a + 0) from rfl] at hl
  have hl : lv_has ls 5 [(4, .int (nI (a + 0))), (0, .ref (ad q)), (1, .int (nI a)), (2, .int (nI b)), (3, .int (nI 0))] := by
    exact hl
  have loop1 : ∀ (d k : Nat), k + d = b - a →  ∀ (ev1 : Nat → va_E) (H : Heap) (locs : List Loc) (ls : Array Slot), ev1 = (va_up ev q (eB G M (bs (fil a k (fun _ => 0) B)))) → wT G A 52 ad ev1 s H locs → lv_has ls 5 [(4, .int (nI (a + k))), (0, .ref (ad q)), (1, .int (nI (a))), (2, .int (nI (b))), (3, .int (nI (0)))] → W p l e ({ frames := 3, cells := 0, slots := 0, locals := 100 }) s m ([.ref (ad q), .int (nI (a)), .int (nI (b)), .int (nI (0))] : List Value).toArray below meth c H locs 0 0 (MQ below (wQc G A 52 ad (fun ov ev' => ov = none ∧ ev' = va_up ev q (eB G M (bs (fil a (b - a) (fun _ => 0) B))))) ([.ref (ad q), .int (nI (a)), .int (nI (b)), .int (nI (0))] : List Value).toArray s 0 0 A) (F0 m 10 ls []) := by
    intro d
    induction d with
    | zero =>
      intro k hk_k  ev1 H locs ls  o1 h hl
      have t1_q : ev1 q = eB G M (bs (fil a k (fun _ => 0) B)) := by rw [o1, va_up_self]
      refine lv_iload hx hb d_Ar_fill0_10 (lv_at hl 0 rfl) ?_
      refine lv_iload_n hx hb d_Ar_fill0_12 rfl (lv_at hl 3 rfl) ?_
      refine lv_icmp_ge (tgt := 27) hx hb d_Ar_fill0_13 (by decide) (fun _ => ?_) (fun hc => absurd ((nI_leI (by omega) (by omega)).mpr (by omega)) hc)
      refine wv_vret hx hb hr hlocks h d_Ar_fill0_27 ⟨rfl, ?_⟩
      rw [o1, show b - a = k by omega]
    | succ d ih =>
      intro k hk_k  ev1 H locs ls  o1 h hl
      have t1_q : ev1 q = eB G M (bs (fil a k (fun _ => 0) B)) := by rw [o1, va_up_self]
      refine lv_iload hx hb d_Ar_fill0_10 (lv_at hl 0 rfl) ?_
      refine lv_iload_n hx hb d_Ar_fill0_12 rfl (lv_at hl 3 rfl) ?_
      refine lv_icmp_ge (tgt := 27) hx hb d_Ar_fill0_13 (by decide) (fun hc => absurd ((nI_leI (by omega) (by omega)).mp hc) (by omega)) (fun _ => ?_)
      refine lv_aload_n hx hb d_Ar_fill0_16 rfl (lv_at hl 1 rfl) ?_
      refine lv_iload hx hb d_Ar_fill0_17 (lv_at hl 0 rfl) ?_
      refine lv_iload_n hx hb d_Ar_fill0_19 rfl (lv_at hl 4 rfl) ?_
      refine wv_bast hx hb h q hq (f := (bs (fil a k (fun _ => 0) B))) t1_q (k := a + k) rfl (by omega) (by omega) d_Ar_fill0_20 (fun H locs h => ?_)
      obtain ⟨ev2, o2⟩ : ∃ z, z = va_up ev1 q (eB G M (va_up ((bs (fil a k (fun _ => 0) B))) (a + k) (vp_nar .byte (nI (0))))) := ⟨_, rfl⟩
      rw [← o2] at h
      have t2_q : ev2 q = eB G M (va_up ((bs (fil a k (fun _ => 0) B))) (a + k) (vp_nar .byte (nI (0)))) := by rw [o2, va_up_self]
      rw [bs_up _ _ 0 (by decide), fil_s a k (fun _ => 0) B rfl] at o2
      refine lv_iinc (v := nI ((a + k) + 1)) (lv' := [(4, .int (nI ((a + k) + 1))), (0, .ref (ad q)), (1, .int (nI (a))), (2, .int (nI (b))), (3, .int (nI (0)))]) hx hb d_Ar_fill0_21 hl (k := 0) rfl (nI_add _ _) (by decide) rfl (fun ls hl => ?_)
      refine lv_goto (tgt := 10) hx hb d_Ar_fill0_24 (by decide) ?_
      refine ih (k + 1) (by omega) ev2 H locs ls ?_ h (lv_sub hl [0, 1, 2, 3, 4] rfl)
      rw [o2, o1, va_up2]
  exact loop1 (b - a) 0 (by omega) ev H locs ls (by rw [fil_0, va_upi _ _ hev]) h hl
theorem d_NB_showWork_0 : decode c_NB_showWork 0 = .ok (.aload_n 0, 1) := by decide +kernel
theorem d_NB_showWork_1 : decode c_NB_showWork 1 = .ok (.getfield 59, 3) := by decide +kernel
theorem d_NB_showWork_4 : decode c_NB_showWork 4 = .ok (.iconst 0, 1) := by decide +kernel
theorem d_NB_showWork_5 : decode c_NB_showWork 5 = .ok (.aload_n 0, 1) := by decide +kernel
theorem d_NB_showWork_6 : decode c_NB_showWork 6 = .ok (.getfield 22, 3) := by decide +kernel
theorem d_NB_showWork_9 : decode c_NB_showWork 9 = .ok (.iconst 0, 1) := by decide +kernel
theorem d_NB_showWork_10 : decode c_NB_showWork 10 = .ok (.iload_n 1, 1) := by decide +kernel
theorem d_NB_showWork_11 : decode c_NB_showWork 11 = .ok (.invokestatic 70, 3) := by decide +kernel
theorem d_NB_showWork_14 : decode c_NB_showWork 14 = .ok (.aload_n 0, 1) := by decide +kernel
theorem d_NB_showWork_15 : decode c_NB_showWork 15 = .ok (.getfield 22, 3) := by decide +kernel
theorem d_NB_showWork_18 : decode c_NB_showWork 18 = .ok (.iload_n 1, 1) := by decide +kernel
theorem d_NB_showWork_19 : decode c_NB_showWork 19 = .ok (.bipush 112, 2) := by decide +kernel
theorem d_NB_showWork_21 : decode c_NB_showWork 21 = .ok (.iconst 0, 1) := by decide +kernel
theorem d_NB_showWork_22 : decode c_NB_showWork 22 = .ok (.invokestatic 120, 3) := by decide +kernel
theorem d_NB_showWork_25 : decode c_NB_showWork 25 = .ok (.aload_n 0, 1) := by decide +kernel
theorem d_NB_showWork_26 : decode c_NB_showWork 26 = .ok (.iload_n 1, 1) := by decide +kernel
theorem d_NB_showWork_27 : decode c_NB_showWork 27 = .ok (.putfield 29, 3) := by decide +kernel
theorem d_NB_showWork_30 : decode c_NB_showWork 30 = .ok (.return_, 1) := by decide +kernel
set_option maxRecDepth 100000 in
set_option maxHeartbeats 4000000 in
/-- OUT gets the first n bytes of the work -/
theorem m_NB_showWork (l : Launch) (G : wG) (A : Nat → Prop) (ad : Nat → Nat) (ev : Nat → va_E) (tl ol n : Nat) (O X : Nat → Nat) (g0 : ev 0 = eO 4 [.ref (ad 1), .ref (ad 2), .ref (ad 3), .ref (ad 4), .ref (ad 5), .int (nI tl), .int (nI ol), .ref (ad 6), .ref (ad 12), .ref (ad 18), .ref (ad 34), .ref (ad 35), .ref (ad 36)]) (g5 : ev 5 = eB G 112 (bs O)) (g36 : ev 36 = eB G 112 (bs X)) (hn : n ≤ 112) : wM l y_NB_showWork w_NB_showWork ({ frames := 6, cells := 0, slots := 0, locals := 200 }) G A 52 ad ev [.ref (ad 0), .int (nI (n))] (fun ov ev' => ov = none ∧ ev' = va_up (va_up ev 5 (eB G 112 (bs (outF n X)))) 0 (eO 4 [.ref (ad 1), .ref (ad 2), .ref (ad 3), .ref (ad 4), .ref (ad 5), .int (nI tl), .int (nI n), .ref (ad 6), .ref (ad 12), .ref (ad 18), .ref (ad 34), .ref (ad 35), .ref (ad 36)])) := by
  refine wv_ofW (cc := c_NB_showWork) (maxL := 2) (ret := none) (by decide) rfl (Nat.le_of_ble_eq_true rfl) ?_
  intro p e s m below meth c ls hx hb hr hml hts hown hlocks hini h hl
  have hl : lv_has ls 2 [(0, .ref (ad 0)), (1, .int (nI (n)))] := hl
  refine lv_aload_n hx hb d_NB_showWork_0 rfl (lv_at hl 0 rfl) ?_
  refine wv_getf hx hb h 0 (by decide) (fs := [.ref (ad 1), .ref (ad 2), .ref (ad 3), .ref (ad 4), .ref (ad 5), .int (nI (tl)), .int (nI (ol)), .ref (ad 6), .ref (ad 12), .ref (ad 18), .ref (ad 34), .ref (ad 35), .ref (ad 36)]) g0 hts (fun w hw => List.mem_cons_of_mem _ (fW_NB w hw)) hown (ci := 4) (C := "NonceBox") (T := fT_NB) (N := 13) rfl 12 (by decide) (hts _ (List.mem_cons_of_mem _ kf_NB_59)) rfl (v := .ref (ad 36)) rfl d_NB_showWork_1 ?_
  refine lv_iconst (v := nI (0)) hx hb d_NB_showWork_4 (by decide) ?_
  refine lv_aload_n hx hb d_NB_showWork_5 rfl (lv_at hl 0 rfl) ?_
  refine wv_getf hx hb h 0 (by decide) (fs := [.ref (ad 1), .ref (ad 2), .ref (ad 3), .ref (ad 4), .ref (ad 5), .int (nI (tl)), .int (nI (ol)), .ref (ad 6), .ref (ad 12), .ref (ad 18), .ref (ad 34), .ref (ad 35), .ref (ad 36)]) g0 hts (fun w hw => List.mem_cons_of_mem _ (fW_NB w hw)) hown (ci := 4) (C := "NonceBox") (T := fT_NB) (N := 13) rfl 4 (by decide) (hts _ (List.mem_cons_of_mem _ kf_NB_22)) rfl (v := .ref (ad 5)) rfl d_NB_showWork_6 ?_
  refine lv_iconst (v := nI (0)) hx hb d_NB_showWork_9 (by decide) ?_
  refine lv_iload_n hx hb d_NB_showWork_10 rfl (lv_at hl 1 rfl) ?_
  refine wv_copyb hx hb (hml.trans hl.1.symm) h hown (hts _ (List.mem_cons_of_mem _ kl_NB_70)) (hts _ (List.mem_cons_of_mem _ kn_Sy_arraycopy)) (hts _ (List.mem_cons_of_mem _ ks_Sy_arraycopy)) (hts _ (List.mem_cons_of_mem _ ki_Sy)) 36 5 (by decide) (by decide) (f := (bs X)) (g := (bs O)) g36 g5 (a := 0) (b := 0) (d := n) rfl rfl rfl (by omega) (by omega) (by decide) (by decide) (fun i _ => bs_fit _ _) (by decide) (by decide) d_NB_showWork_11 (fun H locs h => ?_)
  obtain ⟨ev1, o1⟩ : ∃ z, z = va_up ev 5 (eB G 112 (va_cpy (bs X) (bs O) 0 0 n)) := ⟨_, rfl⟩
  rw [← o1] at h
  have t1_5 : ev1 5 = eB G 112 (va_cpy (bs X) (bs O) 0 0 n) := by rw [o1, va_up_self]
  have t1_36 := (show ev1 36 = ev 36 by rw [o1, va_up_ne _ _ (by decide)]).trans g36
  have t1_0 := (show ev1 0 = ev 0 by rw [o1, va_up_ne _ _ (by decide)]).trans g0
  have h := wT_eqB (g := (bs (fil 0 n X O))) h 5 (by decide) t1_5 (fun j hj => by
      unfold va_cpy bs fil
      by_cases c : j < n
      · rw [if_pos (by omega), if_pos (by omega), Nat.zero_add]
      · rw [if_neg (by omega), if_neg (by omega)])
  obtain ⟨ev2, o2⟩ : ∃ z, z = va_up ev1 5 (eB G 112 (bs (fil 0 n X O))) := ⟨_, rfl⟩
  rw [← o2] at h
  have t2_5 : ev2 5 = eB G 112 (bs (fil 0 n X O)) := by rw [o2, va_up_self]
  have t2_36 := (show ev2 36 = ev1 36 by rw [o2, va_up_ne _ _ (by decide)]).trans t1_36
  have t2_0 := (show ev2 0 = ev1 0 by rw [o2, va_up_ne _ _ (by decide)]).trans t1_0
  refine lv_aload_n hx hb d_NB_showWork_14 rfl (lv_at hl 0 rfl) ?_
  refine wv_getf hx hb h 0 (by decide) (fs := [.ref (ad 1), .ref (ad 2), .ref (ad 3), .ref (ad 4), .ref (ad 5), .int (nI (tl)), .int (nI (ol)), .ref (ad 6), .ref (ad 12), .ref (ad 18), .ref (ad 34), .ref (ad 35), .ref (ad 36)]) t2_0 hts (fun w hw => List.mem_cons_of_mem _ (fW_NB w hw)) hown (ci := 4) (C := "NonceBox") (T := fT_NB) (N := 13) rfl 4 (by decide) (hts _ (List.mem_cons_of_mem _ kf_NB_22)) rfl (v := .ref (ad 5)) rfl d_NB_showWork_15 ?_
  refine lv_iload_n hx hb d_NB_showWork_18 rfl (lv_at hl 1 rfl) ?_
  refine lv_bipush (v := nI (112)) hx hb d_NB_showWork_19 (by decide) ?_
  refine lv_iconst (v := nI (0)) hx hb d_NB_showWork_21 (by decide) ?_
  refine wv_Sx (As := [.ref (ad 5), .int (nI (n)), .int (nI (112)), .int (nI (0))]) (rest := []) (k := 4) ⟨hx, hb, hml, hown, hts⟩ h (m_Ar_fill0 l G A ad ev2 5 112 n 112 (fil 0 n X O) (by decide) t2_5 (by omega) (by omega) (by decide)) kc_Ar_fill0 kl_NB_120 ks_Ar_fill0 ki_Ar (by decide +kernel) ⟨rfl, rfl, Nat.le_of_ble_eq_true rfl, Nat.le_of_ble_eq_true rfl⟩ hl.1 rfl rfl (Nat.le_of_ble_eq_true rfl) ⟨Nat.le_refl _, Nat.le_refl _⟩ d_NB_showWork_22 ?_
  intro ov ev3 H locs hp h
  rw [hp.1]
  refine W.eq (g2 := F0 m 25 ls []) rfl ?_
  have o3 : ev3 = (va_up ev2 5 (eB G 112 (bs (fil n (112 - n) (fun _ => 0) (fil 0 n X O))))) := hp.2
  have t3_5 : ev3 5 = eB G 112 (bs (fil n (112 - n) (fun _ => 0) (fil 0 n X O))) := by rw [o3, va_up_self]
  have t3_36 := (show ev3 36 = ev2 36 by rw [o3, va_up_ne _ _ (by decide)]).trans t2_36
  have t3_0 := (show ev3 0 = ev2 0 by rw [o3, va_up_ne _ _ (by decide)]).trans t2_0
  have h := wT_eqB (g := (bs (outF n X))) h 5 (by decide) t3_5 (fun j hj => by
      unfold bs fil outF
      by_cases c : j < n
      · rw [if_neg (by omega), if_pos (by omega), if_pos c, Nat.sub_zero]
      · rw [if_pos (by omega), if_neg c])
  obtain ⟨ev4, o4⟩ : ∃ z, z = va_up ev3 5 (eB G 112 (bs (outF n X))) := ⟨_, rfl⟩
  rw [← o4] at h
  have t4_5 : ev4 5 = eB G 112 (bs (outF n X)) := by rw [o4, va_up_self]
  have t4_36 := (show ev4 36 = ev3 36 by rw [o4, va_up_ne _ _ (by decide)]).trans t3_36
  have t4_0 := (show ev4 0 = ev3 0 by rw [o4, va_up_ne _ _ (by decide)]).trans t3_0
  refine lv_aload_n hx hb d_NB_showWork_25 rfl (lv_at hl 0 rfl) ?_
  refine lv_iload_n hx hb d_NB_showWork_26 rfl (lv_at hl 1 rfl) ?_
  refine wv_putf hx hb h 0 (by decide) (fs := [.ref (ad 1), .ref (ad 2), .ref (ad 3), .ref (ad 4), .ref (ad 5), .int (nI (tl)), .int (nI (ol)), .ref (ad 6), .ref (ad 12), .ref (ad 18), .ref (ad 34), .ref (ad 35), .ref (ad 36)]) t4_0 hts (fun w hw => List.mem_cons_of_mem _ (fW_NB w hw)) fY_NB fK_NB fN_NB hown (ci := 4) (C := "NonceBox") (T := fT_NB) (N := 13) rfl 6 (by decide) (hts _ (List.mem_cons_of_mem _ kf_NB_29)) rfl rfl (v := .int (nI (n))) rfl rfl (Nat.le_of_ble_eq_true rfl) d_NB_showWork_27 (fun H locs h => ?_)
  have h : wT G A 52 ad (va_up ev4 0 (eO 4 [.ref (ad 1), .ref (ad 2), .ref (ad 3), .ref (ad 4), .ref (ad 5), .int (nI (tl)), .int (nI (n)), .ref (ad 6), .ref (ad 12), .ref (ad 18), .ref (ad 34), .ref (ad 35), .ref (ad 36)])) s H locs := h
  obtain ⟨ev5, o5⟩ : ∃ z, z = va_up ev4 0 (eO 4 [.ref (ad 1), .ref (ad 2), .ref (ad 3), .ref (ad 4), .ref (ad 5), .int (nI (tl)), .int (nI (n)), .ref (ad 6), .ref (ad 12), .ref (ad 18), .ref (ad 34), .ref (ad 35), .ref (ad 36)]) := ⟨_, rfl⟩
  rw [← o5] at h
  have t5_0 : ev5 0 = eO 4 [.ref (ad 1), .ref (ad 2), .ref (ad 3), .ref (ad 4), .ref (ad 5), .int (nI (tl)), .int (nI (n)), .ref (ad 6), .ref (ad 12), .ref (ad 18), .ref (ad 34), .ref (ad 35), .ref (ad 36)] := by rw [o5, va_up_self]
  have t5_5 := (show ev5 5 = ev4 5 by rw [o5, va_up_ne _ _ (by decide)]).trans t4_5
  have t5_36 := (show ev5 36 = ev4 36 by rw [o5, va_up_ne _ _ (by decide)]).trans t4_36
  refine wv_vret hx hb hr hlocks h d_NB_showWork_30 ⟨rfl, ?_⟩
  funext j
  by_cases c0 : j = 5
  · rw [c0, t5_5, va_up_ne _ _ (by decide), va_up_self]
  by_cases c1 : j = 0
  · rw [c1, t5_0, va_up_self]
  rw [va_up_ne _ _ c1, va_up_ne _ _ c0]
  rw [o5, va_up_ne _ _ c1, o4, va_up_ne _ _ c0, o3, va_up_ne _ _ c0, o2, va_up_ne _ _ c0, o1, va_up_ne _ _ c0]
theorem d_NB_mix_0 : decode c_NB_mix 0 = .ok (.aload_n 0, 1) := by decide +kernel
theorem d_NB_mix_1 : decode c_NB_mix 1 = .ok (.getfield 35, 3) := by decide +kernel
theorem d_NB_mix_4 : decode c_NB_mix 4 = .ok (.aload_n 0, 1) := by decide +kernel
theorem d_NB_mix_5 : decode c_NB_mix 5 = .ok (.getfield 9, 3) := by decide +kernel
theorem d_NB_mix_8 : decode c_NB_mix 8 = .ok (.aload_n 0, 1) := by decide +kernel
theorem d_NB_mix_9 : decode c_NB_mix 9 = .ok (.getfield 13, 3) := by decide +kernel
theorem d_NB_mix_12 : decode c_NB_mix 12 = .ok (.aload_n 0, 1) := by decide +kernel
theorem d_NB_mix_13 : decode c_NB_mix 13 = .ok (.getfield 59, 3) := by decide +kernel
theorem d_NB_mix_16 : decode c_NB_mix 16 = .ok (.invokevirtual 76, 3) := by decide +kernel
theorem d_NB_mix_19 : decode c_NB_mix 19 = .ok (.aload_n 0, 1) := by decide +kernel
theorem d_NB_mix_20 : decode c_NB_mix 20 = .ok (.bipush 32, 2) := by decide +kernel
theorem d_NB_mix_22 : decode c_NB_mix 22 = .ok (.invokevirtual 80, 3) := by decide +kernel
theorem d_NB_mix_25 : decode c_NB_mix 25 = .ok (.return_, 1) := by decide +kernel
set_option maxRecDepth 100000 in
set_option maxHeartbeats 4000000 in
/-- mix -/
theorem m_NB_mix (l : Launch) (G : wG) (A : Nat → Prop) (ad : Nat → Nat) (ev : Nat → va_E) (Bf : Nat → Nat → Nat) (tl ol : Nat) (hNB : NB G ad ev Bf tl ol) : wM l y_NB_mix w_NB_mix ({ frames := 15, cells := 0, slots := 0, locals := 500 }) G A 52 ad ev [.ref (ad 0)] (fun ov ev' => ov = none ∧ NB G ad ev' (va_up Bf 4 (outF 32 (MIXB (Bf 0) (Bf 1)))) tl 32 ∧ ∀ j, 37 ≤ j → ev' j = ev j) := by
  refine wv_ofW (cc := c_NB_mix) (maxL := 1) (ret := none) (by decide) rfl (Nat.le_of_ble_eq_true rfl) ?_
  intro p e s m below meth c ls hx hb hr hml hts hown hlocks hini h hl
  have hl : lv_has ls 1 [(0, .ref (ad 0))] := hl
  obtain ⟨g0, g1, g2, g3, g4, g5, g6, ⟨x7, g7⟩, ⟨x8, g8⟩, ⟨x9, g9⟩, ⟨x10, b10, z10, g10⟩, ⟨x11, b11, g11⟩, g12, g13, ⟨x14, g14⟩, ⟨x15, g15⟩, ⟨x16, g16⟩, ⟨x17, g17⟩, g18, g19, ⟨x20, g20⟩, ⟨x21, g21⟩, ⟨x22, g22⟩, ⟨x23, g23⟩, ⟨x24, g24⟩, ⟨x25, g25⟩, ⟨x26, g26⟩, ⟨x27, g27⟩, ⟨x28, g28⟩, ⟨x29, g29⟩, ⟨x30, g30⟩, ⟨x31, g31⟩, ⟨x32, g32⟩, ⟨x33, g33⟩, ⟨x34, b34, g34⟩, g35, ⟨x36, b36, g36⟩, hB, htl, hol⟩ := hNB
  refine lv_aload_n hx hb d_NB_mix_0 rfl (lv_at hl 0 rfl) ?_
  refine wv_getf hx hb h 0 (by decide) (fs := [.ref (ad 1), .ref (ad 2), .ref (ad 3), .ref (ad 4), .ref (ad 5), .int (nI (tl)), .int (nI (ol)), .ref (ad 6), .ref (ad 12), .ref (ad 18), .ref (ad 34), .ref (ad 35), .ref (ad 36)]) g0 hts (fun w hw => List.mem_cons_of_mem _ (fW_NB w hw)) hown (ci := 4) (C := "NonceBox") (T := fT_NB) (N := 13) rfl 7 (by decide) (hts _ (List.mem_cons_of_mem _ kf_NB_35)) rfl (v := .ref (ad 6)) rfl d_NB_mix_1 ?_
  refine lv_aload_n hx hb d_NB_mix_4 rfl (lv_at hl 0 rfl) ?_
  refine wv_getf hx hb h 0 (by decide) (fs := [.ref (ad 1), .ref (ad 2), .ref (ad 3), .ref (ad 4), .ref (ad 5), .int (nI (tl)), .int (nI (ol)), .ref (ad 6), .ref (ad 12), .ref (ad 18), .ref (ad 34), .ref (ad 35), .ref (ad 36)]) g0 hts (fun w hw => List.mem_cons_of_mem _ (fW_NB w hw)) hown (ci := 4) (C := "NonceBox") (T := fT_NB) (N := 13) rfl 0 (by decide) (hts _ (List.mem_cons_of_mem _ kf_NB_9)) rfl (v := .ref (ad 1)) rfl d_NB_mix_5 ?_
  refine lv_aload_n hx hb d_NB_mix_8 rfl (lv_at hl 0 rfl) ?_
  refine wv_getf hx hb h 0 (by decide) (fs := [.ref (ad 1), .ref (ad 2), .ref (ad 3), .ref (ad 4), .ref (ad 5), .int (nI (tl)), .int (nI (ol)), .ref (ad 6), .ref (ad 12), .ref (ad 18), .ref (ad 34), .ref (ad 35), .ref (ad 36)]) g0 hts (fun w hw => List.mem_cons_of_mem _ (fW_NB w hw)) hown (ci := 4) (C := "NonceBox") (T := fT_NB) (N := 13) rfl 1 (by decide) (hts _ (List.mem_cons_of_mem _ kf_NB_13)) rfl (v := .ref (ad 2)) rfl d_NB_mix_9 ?_
  refine lv_aload_n hx hb d_NB_mix_12 rfl (lv_at hl 0 rfl) ?_
  refine wv_getf hx hb h 0 (by decide) (fs := [.ref (ad 1), .ref (ad 2), .ref (ad 3), .ref (ad 4), .ref (ad 5), .int (nI (tl)), .int (nI (ol)), .ref (ad 6), .ref (ad 12), .ref (ad 18), .ref (ad 34), .ref (ad 35), .ref (ad 36)]) g0 hts (fun w hw => List.mem_cons_of_mem _ (fW_NB w hw)) hown (ci := 4) (C := "NonceBox") (T := fT_NB) (N := 13) rfl 12 (by decide) (hts _ (List.mem_cons_of_mem _ kf_NB_59)) rfl (v := .ref (ad 36)) rfl d_NB_mix_13 ?_
  refine wv_V (As := [.ref (ad 1), .ref (ad 2), .ref (ad 36)]) (rest := []) (k := 3) ⟨hx, hb, hml, hown, hts⟩ h 6 (by decide) (C := "NonceBox$Mixer") g6 rfl (m_Mx_mixInto l G A ad ev 1 2 36 32 24 112 (Bf 0) (Bf 1) x36 x7 x8 (by decide) (by decide) (by decide) g6 g7 g8 g1 g2 g36 (by decide) (by decide) (by decide) (by decide) (by decide) (hB 0) (hB 1) (by decide) (by decide) (by decide) (by decide) (by decide) (by decide)) kc_Mx_mixInto kl_NB_76 km_Mx_mixInto kv_Mx_mixInto ki_Mx (by decide +kernel) ⟨rfl, rfl, Nat.le_of_ble_eq_true rfl, Nat.le_of_ble_eq_true rfl⟩ hl.1 rfl rfl (Nat.le_of_ble_eq_true rfl) ⟨Nat.le_refl _, Nat.le_refl _⟩ d_NB_mix_16 ?_
  intro ov ev1 H locs hp h
  rw [hp.1]
  refine W.eq (g2 := F0 m 19 ls []) rfl ?_
  have o1 : ev1 = (va_up (va_up (va_up ev 7 (eI G 16 (LAY (Bf 0) (Bf 1)))) 8 (eI G 16 (RND (Bf 0) (Bf 1)))) 36 (eB G 112 (bs (fil 0 32 (MIXB (Bf 0) (Bf 1)) x36)))) := hp.2
  have t1_7 : ev1 7 = eI G 16 (LAY (Bf 0) (Bf 1)) := by rw [o1, va_up_ne _ _ (by decide), va_up_ne _ _ (by decide), va_up_self]
  have t1_8 : ev1 8 = eI G 16 (RND (Bf 0) (Bf 1)) := by rw [o1, va_up_ne _ _ (by decide), va_up_self]
  have t1_36 : ev1 36 = eB G 112 (bs (fil 0 32 (MIXB (Bf 0) (Bf 1)) x36)) := by rw [o1, va_up_self]
  have t1_1 := (show ev1 1 = ev 1 by rw [o1, va_up_ne _ _ (by decide), va_up_ne _ _ (by decide), va_up_ne _ _ (by decide)]).trans g1
  have t1_2 := (show ev1 2 = ev 2 by rw [o1, va_up_ne _ _ (by decide), va_up_ne _ _ (by decide), va_up_ne _ _ (by decide)]).trans g2
  have t1_3 := (show ev1 3 = ev 3 by rw [o1, va_up_ne _ _ (by decide), va_up_ne _ _ (by decide), va_up_ne _ _ (by decide)]).trans g3
  have t1_4 := (show ev1 4 = ev 4 by rw [o1, va_up_ne _ _ (by decide), va_up_ne _ _ (by decide), va_up_ne _ _ (by decide)]).trans g4
  have t1_5 := (show ev1 5 = ev 5 by rw [o1, va_up_ne _ _ (by decide), va_up_ne _ _ (by decide), va_up_ne _ _ (by decide)]).trans g5
  have t1_35 := (show ev1 35 = ev 35 by rw [o1, va_up_ne _ _ (by decide), va_up_ne _ _ (by decide), va_up_ne _ _ (by decide)]).trans g35
  have t1_9 := (show ev1 9 = ev 9 by rw [o1, va_up_ne _ _ (by decide), va_up_ne _ _ (by decide), va_up_ne _ _ (by decide)]).trans g9
  have t1_10 := (show ev1 10 = ev 10 by rw [o1, va_up_ne _ _ (by decide), va_up_ne _ _ (by decide), va_up_ne _ _ (by decide)]).trans g10
  have t1_11 := (show ev1 11 = ev 11 by rw [o1, va_up_ne _ _ (by decide), va_up_ne _ _ (by decide), va_up_ne _ _ (by decide)]).trans g11
  have t1_14 := (show ev1 14 = ev 14 by rw [o1, va_up_ne _ _ (by decide), va_up_ne _ _ (by decide), va_up_ne _ _ (by decide)]).trans g14
  have t1_15 := (show ev1 15 = ev 15 by rw [o1, va_up_ne _ _ (by decide), va_up_ne _ _ (by decide), va_up_ne _ _ (by decide)]).trans g15
  have t1_16 := (show ev1 16 = ev 16 by rw [o1, va_up_ne _ _ (by decide), va_up_ne _ _ (by decide), va_up_ne _ _ (by decide)]).trans g16
  have t1_17 := (show ev1 17 = ev 17 by rw [o1, va_up_ne _ _ (by decide), va_up_ne _ _ (by decide), va_up_ne _ _ (by decide)]).trans g17
  have t1_20 := (show ev1 20 = ev 20 by rw [o1, va_up_ne _ _ (by decide), va_up_ne _ _ (by decide), va_up_ne _ _ (by decide)]).trans g20
  have t1_21 := (show ev1 21 = ev 21 by rw [o1, va_up_ne _ _ (by decide), va_up_ne _ _ (by decide), va_up_ne _ _ (by decide)]).trans g21
  have t1_34 := (show ev1 34 = ev 34 by rw [o1, va_up_ne _ _ (by decide), va_up_ne _ _ (by decide), va_up_ne _ _ (by decide)]).trans g34
  have t1_22 := (show ev1 22 = ev 22 by rw [o1, va_up_ne _ _ (by decide), va_up_ne _ _ (by decide), va_up_ne _ _ (by decide)]).trans g22
  have t1_23 := (show ev1 23 = ev 23 by rw [o1, va_up_ne _ _ (by decide), va_up_ne _ _ (by decide), va_up_ne _ _ (by decide)]).trans g23
  have t1_24 := (show ev1 24 = ev 24 by rw [o1, va_up_ne _ _ (by decide), va_up_ne _ _ (by decide), va_up_ne _ _ (by decide)]).trans g24
  have t1_25 := (show ev1 25 = ev 25 by rw [o1, va_up_ne _ _ (by decide), va_up_ne _ _ (by decide), va_up_ne _ _ (by decide)]).trans g25
  have t1_26 := (show ev1 26 = ev 26 by rw [o1, va_up_ne _ _ (by decide), va_up_ne _ _ (by decide), va_up_ne _ _ (by decide)]).trans g26
  have t1_27 := (show ev1 27 = ev 27 by rw [o1, va_up_ne _ _ (by decide), va_up_ne _ _ (by decide), va_up_ne _ _ (by decide)]).trans g27
  have t1_28 := (show ev1 28 = ev 28 by rw [o1, va_up_ne _ _ (by decide), va_up_ne _ _ (by decide), va_up_ne _ _ (by decide)]).trans g28
  have t1_29 := (show ev1 29 = ev 29 by rw [o1, va_up_ne _ _ (by decide), va_up_ne _ _ (by decide), va_up_ne _ _ (by decide)]).trans g29
  have t1_30 := (show ev1 30 = ev 30 by rw [o1, va_up_ne _ _ (by decide), va_up_ne _ _ (by decide), va_up_ne _ _ (by decide)]).trans g30
  have t1_31 := (show ev1 31 = ev 31 by rw [o1, va_up_ne _ _ (by decide), va_up_ne _ _ (by decide), va_up_ne _ _ (by decide)]).trans g31
  have t1_32 := (show ev1 32 = ev 32 by rw [o1, va_up_ne _ _ (by decide), va_up_ne _ _ (by decide), va_up_ne _ _ (by decide)]).trans g32
  have t1_33 := (show ev1 33 = ev 33 by rw [o1, va_up_ne _ _ (by decide), va_up_ne _ _ (by decide), va_up_ne _ _ (by decide)]).trans g33
  have t1_0 := (show ev1 0 = ev 0 by rw [o1, va_up_ne _ _ (by decide), va_up_ne _ _ (by decide), va_up_ne _ _ (by decide)]).trans g0
  have t1_6 := (show ev1 6 = ev 6 by rw [o1, va_up_ne _ _ (by decide), va_up_ne _ _ (by decide), va_up_ne _ _ (by decide)]).trans g6
  have t1_12 := (show ev1 12 = ev 12 by rw [o1, va_up_ne _ _ (by decide), va_up_ne _ _ (by decide), va_up_ne _ _ (by decide)]).trans g12
  have t1_13 := (show ev1 13 = ev 13 by rw [o1, va_up_ne _ _ (by decide), va_up_ne _ _ (by decide), va_up_ne _ _ (by decide)]).trans g13
  have t1_18 := (show ev1 18 = ev 18 by rw [o1, va_up_ne _ _ (by decide), va_up_ne _ _ (by decide), va_up_ne _ _ (by decide)]).trans g18
  have t1_19 := (show ev1 19 = ev 19 by rw [o1, va_up_ne _ _ (by decide), va_up_ne _ _ (by decide), va_up_ne _ _ (by decide)]).trans g19
  refine lv_aload_n hx hb d_NB_mix_19 rfl (lv_at hl 0 rfl) ?_
  refine lv_bipush (v := nI (32)) hx hb d_NB_mix_20 (by decide) ?_
  refine wv_V (As := [.int (nI (32))]) (rest := []) (k := 1) ⟨hx, hb, hml, hown, hts⟩ h 0 (by decide) (C := "NonceBox") t1_0 rfl (m_NB_showWork l G A ad ev1 tl ol 32 (Bf 4) (fil 0 32 (MIXB (Bf 0) (Bf 1)) x36) t1_0 t1_5 t1_36 (by decide)) kc_NB_showWork kl_NB_80 km_NB_showWork kv_NB_showWork ki_NB (by decide +kernel) ⟨rfl, rfl, Nat.le_of_ble_eq_true rfl, Nat.le_of_ble_eq_true rfl⟩ hl.1 rfl rfl (Nat.le_of_ble_eq_true rfl) ⟨Nat.le_refl _, Nat.le_refl _⟩ d_NB_mix_22 ?_
  intro ov ev2 H locs hp h
  rw [hp.1]
  refine W.eq (g2 := F0 m 25 ls []) rfl ?_
  have o2 : ev2 = va_up (va_up ev1 5 (eB G 112 (bs (outF 32 (fil 0 32 (MIXB (Bf 0) (Bf 1)) x36))))) 0 (eO 4 [.ref (ad 1), .ref (ad 2), .ref (ad 3), .ref (ad 4), .ref (ad 5), .int (nI tl), .int (nI 32), .ref (ad 6), .ref (ad 12), .ref (ad 18), .ref (ad 34), .ref (ad 35), .ref (ad 36)]) := hp.2
  have t2_5 : ev2 5 = eB G 112 (bs (outF 32 (fil 0 32 (MIXB (Bf 0) (Bf 1)) x36))) := by rw [o2, va_up_ne _ _ (by decide), va_up_self]
  have t2_0 : ev2 0 = eO 4 [.ref (ad 1), .ref (ad 2), .ref (ad 3), .ref (ad 4), .ref (ad 5), .int (nI tl), .int (nI 32), .ref (ad 6), .ref (ad 12), .ref (ad 18), .ref (ad 34), .ref (ad 35), .ref (ad 36)] := by rw [o2, va_up_self]
  have t2_1 := (show ev2 1 = ev1 1 by rw [o2, va_up_ne _ _ (by decide), va_up_ne _ _ (by decide)]).trans t1_1
  have t2_2 := (show ev2 2 = ev1 2 by rw [o2, va_up_ne _ _ (by decide), va_up_ne _ _ (by decide)]).trans t1_2
  have t2_3 := (show ev2 3 = ev1 3 by rw [o2, va_up_ne _ _ (by decide), va_up_ne _ _ (by decide)]).trans t1_3
  have t2_4 := (show ev2 4 = ev1 4 by rw [o2, va_up_ne _ _ (by decide), va_up_ne _ _ (by decide)]).trans t1_4
  have t2_35 := (show ev2 35 = ev1 35 by rw [o2, va_up_ne _ _ (by decide), va_up_ne _ _ (by decide)]).trans t1_35
  have t2_7 := (show ev2 7 = ev1 7 by rw [o2, va_up_ne _ _ (by decide), va_up_ne _ _ (by decide)]).trans t1_7
  have t2_8 := (show ev2 8 = ev1 8 by rw [o2, va_up_ne _ _ (by decide), va_up_ne _ _ (by decide)]).trans t1_8
  have t2_9 := (show ev2 9 = ev1 9 by rw [o2, va_up_ne _ _ (by decide), va_up_ne _ _ (by decide)]).trans t1_9
  have t2_10 := (show ev2 10 = ev1 10 by rw [o2, va_up_ne _ _ (by decide), va_up_ne _ _ (by decide)]).trans t1_10
  have t2_11 := (show ev2 11 = ev1 11 by rw [o2, va_up_ne _ _ (by decide), va_up_ne _ _ (by decide)]).trans t1_11
  have t2_14 := (show ev2 14 = ev1 14 by rw [o2, va_up_ne _ _ (by decide), va_up_ne _ _ (by decide)]).trans t1_14
  have t2_15 := (show ev2 15 = ev1 15 by rw [o2, va_up_ne _ _ (by decide), va_up_ne _ _ (by decide)]).trans t1_15
  have t2_16 := (show ev2 16 = ev1 16 by rw [o2, va_up_ne _ _ (by decide), va_up_ne _ _ (by decide)]).trans t1_16
  have t2_17 := (show ev2 17 = ev1 17 by rw [o2, va_up_ne _ _ (by decide), va_up_ne _ _ (by decide)]).trans t1_17
  have t2_20 := (show ev2 20 = ev1 20 by rw [o2, va_up_ne _ _ (by decide), va_up_ne _ _ (by decide)]).trans t1_20
  have t2_21 := (show ev2 21 = ev1 21 by rw [o2, va_up_ne _ _ (by decide), va_up_ne _ _ (by decide)]).trans t1_21
  have t2_34 := (show ev2 34 = ev1 34 by rw [o2, va_up_ne _ _ (by decide), va_up_ne _ _ (by decide)]).trans t1_34
  have t2_36 := (show ev2 36 = ev1 36 by rw [o2, va_up_ne _ _ (by decide), va_up_ne _ _ (by decide)]).trans t1_36
  have t2_22 := (show ev2 22 = ev1 22 by rw [o2, va_up_ne _ _ (by decide), va_up_ne _ _ (by decide)]).trans t1_22
  have t2_23 := (show ev2 23 = ev1 23 by rw [o2, va_up_ne _ _ (by decide), va_up_ne _ _ (by decide)]).trans t1_23
  have t2_24 := (show ev2 24 = ev1 24 by rw [o2, va_up_ne _ _ (by decide), va_up_ne _ _ (by decide)]).trans t1_24
  have t2_25 := (show ev2 25 = ev1 25 by rw [o2, va_up_ne _ _ (by decide), va_up_ne _ _ (by decide)]).trans t1_25
  have t2_26 := (show ev2 26 = ev1 26 by rw [o2, va_up_ne _ _ (by decide), va_up_ne _ _ (by decide)]).trans t1_26
  have t2_27 := (show ev2 27 = ev1 27 by rw [o2, va_up_ne _ _ (by decide), va_up_ne _ _ (by decide)]).trans t1_27
  have t2_28 := (show ev2 28 = ev1 28 by rw [o2, va_up_ne _ _ (by decide), va_up_ne _ _ (by decide)]).trans t1_28
  have t2_29 := (show ev2 29 = ev1 29 by rw [o2, va_up_ne _ _ (by decide), va_up_ne _ _ (by decide)]).trans t1_29
  have t2_30 := (show ev2 30 = ev1 30 by rw [o2, va_up_ne _ _ (by decide), va_up_ne _ _ (by decide)]).trans t1_30
  have t2_31 := (show ev2 31 = ev1 31 by rw [o2, va_up_ne _ _ (by decide), va_up_ne _ _ (by decide)]).trans t1_31
  have t2_32 := (show ev2 32 = ev1 32 by rw [o2, va_up_ne _ _ (by decide), va_up_ne _ _ (by decide)]).trans t1_32
  have t2_33 := (show ev2 33 = ev1 33 by rw [o2, va_up_ne _ _ (by decide), va_up_ne _ _ (by decide)]).trans t1_33
  have t2_6 := (show ev2 6 = ev1 6 by rw [o2, va_up_ne _ _ (by decide), va_up_ne _ _ (by decide)]).trans t1_6
  have t2_12 := (show ev2 12 = ev1 12 by rw [o2, va_up_ne _ _ (by decide), va_up_ne _ _ (by decide)]).trans t1_12
  have t2_13 := (show ev2 13 = ev1 13 by rw [o2, va_up_ne _ _ (by decide), va_up_ne _ _ (by decide)]).trans t1_13
  have t2_18 := (show ev2 18 = ev1 18 by rw [o2, va_up_ne _ _ (by decide), va_up_ne _ _ (by decide)]).trans t1_18
  have t2_19 := (show ev2 19 = ev1 19 by rw [o2, va_up_ne _ _ (by decide), va_up_ne _ _ (by decide)]).trans t1_19
  have eo : outF 32 (fil 0 32 (MIXB (Bf 0) (Bf 1)) x36) = outF 32 (MIXB (Bf 0) (Bf 1)) := (outF_congr (fun j hj => by unfold fil; rw [if_pos (by omega), Nat.sub_zero]))
  rw [eo] at t2_5
  exact wv_vret hx hb hr hlocks h d_NB_mix_25 ⟨rfl, ⟨t2_0, t2_1, t2_2, t2_3, t2_4, t2_5, t2_6, ⟨_, t2_7⟩, ⟨_, t2_8⟩, ⟨_, t2_9⟩, ⟨_, b10, z10, t2_10⟩, ⟨_, b11, t2_11⟩, t2_12, t2_13, ⟨_, t2_14⟩, ⟨_, t2_15⟩, ⟨_, t2_16⟩, ⟨_, t2_17⟩, t2_18, t2_19, ⟨_, t2_20⟩, ⟨_, t2_21⟩, ⟨_, t2_22⟩, ⟨_, t2_23⟩, ⟨_, t2_24⟩, ⟨_, t2_25⟩, ⟨_, t2_26⟩, ⟨_, t2_27⟩, ⟨_, t2_28⟩, ⟨_, t2_29⟩, ⟨_, t2_30⟩, ⟨_, t2_31⟩, ⟨_, t2_32⟩, ⟨_, t2_33⟩, ⟨_, b34, t2_34⟩, t2_35, ⟨_, (fil_lt (MIXB_lt _ _) b36), t2_36⟩, Bf_lt hB (outF_lt (MIXB_lt _ _)) 4, htl, (by decide)⟩, (fun j hj => by rw [o2, va_up_ne _ _ (by omega), va_up_ne _ _ (by omega), o1, va_up_ne _ _ (by omega), va_up_ne _ _ (by omega), va_up_ne _ _ (by omega)])⟩
theorem d_NB_tag_0 : decode c_NB_tag 0 = .ok (.aload_n 0, 1) := by decide +kernel
theorem d_NB_tag_1 : decode c_NB_tag 1 = .ok (.getfield 42, 3) := by decide +kernel
theorem d_NB_tag_4 : decode c_NB_tag 4 = .ok (.aload_n 0, 1) := by decide +kernel
theorem d_NB_tag_5 : decode c_NB_tag 5 = .ok (.getfield 9, 3) := by decide +kernel
theorem d_NB_tag_8 : decode c_NB_tag 8 = .ok (.aload_n 0, 1) := by decide +kernel
theorem d_NB_tag_9 : decode c_NB_tag 9 = .ok (.getfield 19, 3) := by decide +kernel
theorem d_NB_tag_12 : decode c_NB_tag 12 = .ok (.iconst 0, 1) := by decide +kernel
theorem d_NB_tag_13 : decode c_NB_tag 13 = .ok (.aload_n 0, 1) := by decide +kernel
theorem d_NB_tag_14 : decode c_NB_tag 14 = .ok (.getfield 25, 3) := by decide +kernel
theorem d_NB_tag_17 : decode c_NB_tag 17 = .ok (.aload_n 0, 1) := by decide +kernel
theorem d_NB_tag_18 : decode c_NB_tag 18 = .ok (.getfield 59, 3) := by decide +kernel
theorem d_NB_tag_21 : decode c_NB_tag 21 = .ok (.invokevirtual 88, 3) := by decide +kernel
theorem d_NB_tag_24 : decode c_NB_tag 24 = .ok (.aload_n 0, 1) := by decide +kernel
theorem d_NB_tag_25 : decode c_NB_tag 25 = .ok (.bipush 16, 2) := by decide +kernel
theorem d_NB_tag_27 : decode c_NB_tag 27 = .ok (.invokevirtual 80, 3) := by decide +kernel
theorem d_NB_tag_30 : decode c_NB_tag 30 = .ok (.return_, 1) := by decide +kernel
set_option maxRecDepth 100000 in
set_option maxHeartbeats 4000000 in
/-- tag -/
theorem m_NB_tag (l : Launch) (G : wG) (A : Nat → Prop) (ad : Nat → Nat) (ev : Nat → va_E) (Bf : Nat → Nat → Nat) (tl ol : Nat) (hNB : NB G ad ev Bf tl ol) : wM l y_NB_tag w_NB_tag ({ frames := 21, cells := 0, slots := 0, locals := 700 }) G A 52 ad ev [.ref (ad 0)] (fun ov ev' => ov = none ∧ NB G ad ev' (va_up Bf 4 (outF 16 (TAGM (Bf 0) (Bf 3) 0 tl))) tl 16 ∧ ∀ j, 37 ≤ j → ev' j = ev j) := by
  refine wv_ofW (cc := c_NB_tag) (maxL := 1) (ret := none) (by decide) rfl (Nat.le_of_ble_eq_true rfl) ?_
  intro p e s m below meth c ls hx hb hr hml hts hown hlocks hini h hl
  have hl : lv_has ls 1 [(0, .ref (ad 0))] := hl
  obtain ⟨g0, g1, g2, g3, g4, g5, g6, ⟨x7, g7⟩, ⟨x8, g8⟩, ⟨x9, g9⟩, ⟨x10, b10, z10, g10⟩, ⟨x11, b11, g11⟩, g12, g13, ⟨x14, g14⟩, ⟨x15, g15⟩, ⟨x16, g16⟩, ⟨x17, g17⟩, g18, g19, ⟨x20, g20⟩, ⟨x21, g21⟩, ⟨x22, g22⟩, ⟨x23, g23⟩, ⟨x24, g24⟩, ⟨x25, g25⟩, ⟨x26, g26⟩, ⟨x27, g27⟩, ⟨x28, g28⟩, ⟨x29, g29⟩, ⟨x30, g30⟩, ⟨x31, g31⟩, ⟨x32, g32⟩, ⟨x33, g33⟩, ⟨x34, b34, g34⟩, g35, ⟨x36, b36, g36⟩, hB, htl, hol⟩ := hNB
  refine lv_aload_n hx hb d_NB_tag_0 rfl (lv_at hl 0 rfl) ?_
  refine wv_getf hx hb h 0 (by decide) (fs := [.ref (ad 1), .ref (ad 2), .ref (ad 3), .ref (ad 4), .ref (ad 5), .int (nI (tl)), .int (nI (ol)), .ref (ad 6), .ref (ad 12), .ref (ad 18), .ref (ad 34), .ref (ad 35), .ref (ad 36)]) g0 hts (fun w hw => List.mem_cons_of_mem _ (fW_NB w hw)) hown (ci := 4) (C := "NonceBox") (T := fT_NB) (N := 13) rfl 8 (by decide) (hts _ (List.mem_cons_of_mem _ kf_NB_42)) rfl (v := .ref (ad 12)) rfl d_NB_tag_1 ?_
  refine lv_aload_n hx hb d_NB_tag_4 rfl (lv_at hl 0 rfl) ?_
  refine wv_getf hx hb h 0 (by decide) (fs := [.ref (ad 1), .ref (ad 2), .ref (ad 3), .ref (ad 4), .ref (ad 5), .int (nI (tl)), .int (nI (ol)), .ref (ad 6), .ref (ad 12), .ref (ad 18), .ref (ad 34), .ref (ad 35), .ref (ad 36)]) g0 hts (fun w hw => List.mem_cons_of_mem _ (fW_NB w hw)) hown (ci := 4) (C := "NonceBox") (T := fT_NB) (N := 13) rfl 0 (by decide) (hts _ (List.mem_cons_of_mem _ kf_NB_9)) rfl (v := .ref (ad 1)) rfl d_NB_tag_5 ?_
  refine lv_aload_n hx hb d_NB_tag_8 rfl (lv_at hl 0 rfl) ?_
  refine wv_getf hx hb h 0 (by decide) (fs := [.ref (ad 1), .ref (ad 2), .ref (ad 3), .ref (ad 4), .ref (ad 5), .int (nI (tl)), .int (nI (ol)), .ref (ad 6), .ref (ad 12), .ref (ad 18), .ref (ad 34), .ref (ad 35), .ref (ad 36)]) g0 hts (fun w hw => List.mem_cons_of_mem _ (fW_NB w hw)) hown (ci := 4) (C := "NonceBox") (T := fT_NB) (N := 13) rfl 3 (by decide) (hts _ (List.mem_cons_of_mem _ kf_NB_19)) rfl (v := .ref (ad 4)) rfl d_NB_tag_9 ?_
  refine lv_iconst (v := nI (0)) hx hb d_NB_tag_12 (by decide) ?_
  refine lv_aload_n hx hb d_NB_tag_13 rfl (lv_at hl 0 rfl) ?_
  refine wv_getf hx hb h 0 (by decide) (fs := [.ref (ad 1), .ref (ad 2), .ref (ad 3), .ref (ad 4), .ref (ad 5), .int (nI (tl)), .int (nI (ol)), .ref (ad 6), .ref (ad 12), .ref (ad 18), .ref (ad 34), .ref (ad 35), .ref (ad 36)]) g0 hts (fun w hw => List.mem_cons_of_mem _ (fW_NB w hw)) hown (ci := 4) (C := "NonceBox") (T := fT_NB) (N := 13) rfl 5 (by decide) (hts _ (List.mem_cons_of_mem _ kf_NB_25)) rfl (v := .int (nI (tl))) rfl d_NB_tag_14 ?_
  refine lv_aload_n hx hb d_NB_tag_17 rfl (lv_at hl 0 rfl) ?_
  refine wv_getf hx hb h 0 (by decide) (fs := [.ref (ad 1), .ref (ad 2), .ref (ad 3), .ref (ad 4), .ref (ad 5), .int (nI (tl)), .int (nI (ol)), .ref (ad 6), .ref (ad 12), .ref (ad 18), .ref (ad 34), .ref (ad 35), .ref (ad 36)]) g0 hts (fun w hw => List.mem_cons_of_mem _ (fW_NB w hw)) hown (ci := 4) (C := "NonceBox") (T := fT_NB) (N := 13) rfl 12 (by decide) (hts _ (List.mem_cons_of_mem _ kf_NB_59)) rfl (v := .ref (ad 36)) rfl d_NB_tag_18 ?_
  refine wv_V (As := [.ref (ad 1), .ref (ad 4), .int (nI (0)), .int (nI (tl)), .ref (ad 36)]) (rest := []) (k := 5) ⟨hx, hb, hml, hown, hts⟩ h 12 (by decide) (C := "NonceBox$Tagger") g12 rfl (m_Tg_tagInto l G A ad ev 1 4 36 32 112 112 0 tl (Bf 0) (Bf 3) x36 x17 x14 x15 x16 g12 g13 (by decide) (by decide) (by decide) g1 g4 g36 (hB 0) (hB 3) g14 g15 g16 g17 (by decide) (by decide) (by omega) (by decide) (by decide) (by decide) (by decide) (by decide) (by decide)) kc_Tg_tagInto kl_NB_88 km_Tg_tagInto kv_Tg_tagInto ki_Tg (by decide +kernel) ⟨rfl, rfl, Nat.le_of_ble_eq_true rfl, Nat.le_of_ble_eq_true rfl⟩ hl.1 rfl rfl (Nat.le_of_ble_eq_true rfl) ⟨Nat.le_refl _, Nat.le_refl _⟩ d_NB_tag_21 ?_
  intro ov ev1 H locs hp h
  obtain ⟨Wd, hp⟩ := hp
  rw [hp.1]
  refine W.eq (g2 := F0 m 24 ls []) rfl ?_
  have o1 : ev1 = (va_up (va_up (va_up (va_up (va_up ev 14 (eJ G 10 Wd)) 15 (eJ G 5 (tagRow (Bf 0) (Bf 3) 0 tl))) 16 (eJ G 5 (fRow (Bf 0)))) 17 (eB G 16 (bs (FCT (Bf 0))))) 36 (eB G 112 (bs (fil 0 16 (TAGB (Bf 0) (Bf 3) 0 tl) x36)))) := hp.2
  have t1_14 : ev1 14 = eJ G 10 Wd := by rw [o1, va_up_ne _ _ (by decide), va_up_ne _ _ (by decide), va_up_ne _ _ (by decide), va_up_ne _ _ (by decide), va_up_self]
  have t1_15 : ev1 15 = eJ G 5 (tagRow (Bf 0) (Bf 3) 0 tl) := by rw [o1, va_up_ne _ _ (by decide), va_up_ne _ _ (by decide), va_up_ne _ _ (by decide), va_up_self]
  have t1_16 : ev1 16 = eJ G 5 (fRow (Bf 0)) := by rw [o1, va_up_ne _ _ (by decide), va_up_ne _ _ (by decide), va_up_self]
  have t1_17 : ev1 17 = eB G 16 (bs (FCT (Bf 0))) := by rw [o1, va_up_ne _ _ (by decide), va_up_self]
  have t1_36 : ev1 36 = eB G 112 (bs (fil 0 16 (TAGB (Bf 0) (Bf 3) 0 tl) x36)) := by rw [o1, va_up_self]
  have t1_1 := (show ev1 1 = ev 1 by rw [o1, va_up_ne _ _ (by decide), va_up_ne _ _ (by decide), va_up_ne _ _ (by decide), va_up_ne _ _ (by decide), va_up_ne _ _ (by decide)]).trans g1
  have t1_2 := (show ev1 2 = ev 2 by rw [o1, va_up_ne _ _ (by decide), va_up_ne _ _ (by decide), va_up_ne _ _ (by decide), va_up_ne _ _ (by decide), va_up_ne _ _ (by decide)]).trans g2
  have t1_3 := (show ev1 3 = ev 3 by rw [o1, va_up_ne _ _ (by decide), va_up_ne _ _ (by decide), va_up_ne _ _ (by decide), va_up_ne _ _ (by decide), va_up_ne _ _ (by decide)]).trans g3
  have t1_4 := (show ev1 4 = ev 4 by rw [o1, va_up_ne _ _ (by decide), va_up_ne _ _ (by decide), va_up_ne _ _ (by decide), va_up_ne _ _ (by decide), va_up_ne _ _ (by decide)]).trans g4
  have t1_5 := (show ev1 5 = ev 5 by rw [o1, va_up_ne _ _ (by decide), va_up_ne _ _ (by decide), va_up_ne _ _ (by decide), va_up_ne _ _ (by decide), va_up_ne _ _ (by decide)]).trans g5
  have t1_35 := (show ev1 35 = ev 35 by rw [o1, va_up_ne _ _ (by decide), va_up_ne _ _ (by decide), va_up_ne _ _ (by decide), va_up_ne _ _ (by decide), va_up_ne _ _ (by decide)]).trans g35
  have t1_7 := (show ev1 7 = ev 7 by rw [o1, va_up_ne _ _ (by decide), va_up_ne _ _ (by decide), va_up_ne _ _ (by decide), va_up_ne _ _ (by decide), va_up_ne _ _ (by decide)]).trans g7
  have t1_8 := (show ev1 8 = ev 8 by rw [o1, va_up_ne _ _ (by decide), va_up_ne _ _ (by decide), va_up_ne _ _ (by decide), va_up_ne _ _ (by decide), va_up_ne _ _ (by decide)]).trans g8
  have t1_9 := (show ev1 9 = ev 9 by rw [o1, va_up_ne _ _ (by decide), va_up_ne _ _ (by decide), va_up_ne _ _ (by decide), va_up_ne _ _ (by decide), va_up_ne _ _ (by decide)]).trans g9
  have t1_10 := (show ev1 10 = ev 10 by rw [o1, va_up_ne _ _ (by decide), va_up_ne _ _ (by decide), va_up_ne _ _ (by decide), va_up_ne _ _ (by decide), va_up_ne _ _ (by decide)]).trans g10
  have t1_11 := (show ev1 11 = ev 11 by rw [o1, va_up_ne _ _ (by decide), va_up_ne _ _ (by decide), va_up_ne _ _ (by decide), va_up_ne _ _ (by decide), va_up_ne _ _ (by decide)]).trans g11
  have t1_20 := (show ev1 20 = ev 20 by rw [o1, va_up_ne _ _ (by decide), va_up_ne _ _ (by decide), va_up_ne _ _ (by decide), va_up_ne _ _ (by decide), va_up_ne _ _ (by decide)]).trans g20
  have t1_21 := (show ev1 21 = ev 21 by rw [o1, va_up_ne _ _ (by decide), va_up_ne _ _ (by decide), va_up_ne _ _ (by decide), va_up_ne _ _ (by decide), va_up_ne _ _ (by decide)]).trans g21
  have t1_34 := (show ev1 34 = ev 34 by rw [o1, va_up_ne _ _ (by decide), va_up_ne _ _ (by decide), va_up_ne _ _ (by decide), va_up_ne _ _ (by decide), va_up_ne _ _ (by decide)]).trans g34
  have t1_22 := (show ev1 22 = ev 22 by rw [o1, va_up_ne _ _ (by decide), va_up_ne _ _ (by decide), va_up_ne _ _ (by decide), va_up_ne _ _ (by decide), va_up_ne _ _ (by decide)]).trans g22
  have t1_23 := (show ev1 23 = ev 23 by rw [o1, va_up_ne _ _ (by decide), va_up_ne _ _ (by decide), va_up_ne _ _ (by decide), va_up_ne _ _ (by decide), va_up_ne _ _ (by decide)]).trans g23
  have t1_24 := (show ev1 24 = ev 24 by rw [o1, va_up_ne _ _ (by decide), va_up_ne _ _ (by decide), va_up_ne _ _ (by decide), va_up_ne _ _ (by decide), va_up_ne _ _ (by decide)]).trans g24
  have t1_25 := (show ev1 25 = ev 25 by rw [o1, va_up_ne _ _ (by decide), va_up_ne _ _ (by decide), va_up_ne _ _ (by decide), va_up_ne _ _ (by decide), va_up_ne _ _ (by decide)]).trans g25
  have t1_26 := (show ev1 26 = ev 26 by rw [o1, va_up_ne _ _ (by decide), va_up_ne _ _ (by decide), va_up_ne _ _ (by decide), va_up_ne _ _ (by decide), va_up_ne _ _ (by decide)]).trans g26
  have t1_27 := (show ev1 27 = ev 27 by rw [o1, va_up_ne _ _ (by decide), va_up_ne _ _ (by decide), va_up_ne _ _ (by decide), va_up_ne _ _ (by decide), va_up_ne _ _ (by decide)]).trans g27
  have t1_28 := (show ev1 28 = ev 28 by rw [o1, va_up_ne _ _ (by decide), va_up_ne _ _ (by decide), va_up_ne _ _ (by decide), va_up_ne _ _ (by decide), va_up_ne _ _ (by decide)]).trans g28
  have t1_29 := (show ev1 29 = ev 29 by rw [o1, va_up_ne _ _ (by decide), va_up_ne _ _ (by decide), va_up_ne _ _ (by decide), va_up_ne _ _ (by decide), va_up_ne _ _ (by decide)]).trans g29
  have t1_30 := (show ev1 30 = ev 30 by rw [o1, va_up_ne _ _ (by decide), va_up_ne _ _ (by decide), va_up_ne _ _ (by decide), va_up_ne _ _ (by decide), va_up_ne _ _ (by decide)]).trans g30
  have t1_31 := (show ev1 31 = ev 31 by rw [o1, va_up_ne _ _ (by decide), va_up_ne _ _ (by decide), va_up_ne _ _ (by decide), va_up_ne _ _ (by decide), va_up_ne _ _ (by decide)]).trans g31
  have t1_32 := (show ev1 32 = ev 32 by rw [o1, va_up_ne _ _ (by decide), va_up_ne _ _ (by decide), va_up_ne _ _ (by decide), va_up_ne _ _ (by decide), va_up_ne _ _ (by decide)]).trans g32
  have t1_33 := (show ev1 33 = ev 33 by rw [o1, va_up_ne _ _ (by decide), va_up_ne _ _ (by decide), va_up_ne _ _ (by decide), va_up_ne _ _ (by decide), va_up_ne _ _ (by decide)]).trans g33
  have t1_0 := (show ev1 0 = ev 0 by rw [o1, va_up_ne _ _ (by decide), va_up_ne _ _ (by decide), va_up_ne _ _ (by decide), va_up_ne _ _ (by decide), va_up_ne _ _ (by decide)]).trans g0
  have t1_6 := (show ev1 6 = ev 6 by rw [o1, va_up_ne _ _ (by decide), va_up_ne _ _ (by decide), va_up_ne _ _ (by decide), va_up_ne _ _ (by decide), va_up_ne _ _ (by decide)]).trans g6
  have t1_12 := (show ev1 12 = ev 12 by rw [o1, va_up_ne _ _ (by decide), va_up_ne _ _ (by decide), va_up_ne _ _ (by decide), va_up_ne _ _ (by decide), va_up_ne _ _ (by decide)]).trans g12
  have t1_13 := (show ev1 13 = ev 13 by rw [o1, va_up_ne _ _ (by decide), va_up_ne _ _ (by decide), va_up_ne _ _ (by decide), va_up_ne _ _ (by decide), va_up_ne _ _ (by decide)]).trans g13
  have t1_18 := (show ev1 18 = ev 18 by rw [o1, va_up_ne _ _ (by decide), va_up_ne _ _ (by decide), va_up_ne _ _ (by decide), va_up_ne _ _ (by decide), va_up_ne _ _ (by decide)]).trans g18
  have t1_19 := (show ev1 19 = ev 19 by rw [o1, va_up_ne _ _ (by decide), va_up_ne _ _ (by decide), va_up_ne _ _ (by decide), va_up_ne _ _ (by decide), va_up_ne _ _ (by decide)]).trans g19
  refine lv_aload_n hx hb d_NB_tag_24 rfl (lv_at hl 0 rfl) ?_
  refine lv_bipush (v := nI (16)) hx hb d_NB_tag_25 (by decide) ?_
  refine wv_V (As := [.int (nI (16))]) (rest := []) (k := 1) ⟨hx, hb, hml, hown, hts⟩ h 0 (by decide) (C := "NonceBox") t1_0 rfl (m_NB_showWork l G A ad ev1 tl ol 16 (Bf 4) (fil 0 16 (TAGB (Bf 0) (Bf 3) 0 tl) x36) t1_0 t1_5 t1_36 (by decide)) kc_NB_showWork kl_NB_80 km_NB_showWork kv_NB_showWork ki_NB (by decide +kernel) ⟨rfl, rfl, Nat.le_of_ble_eq_true rfl, Nat.le_of_ble_eq_true rfl⟩ hl.1 rfl rfl (Nat.le_of_ble_eq_true rfl) ⟨Nat.le_refl _, Nat.le_refl _⟩ d_NB_tag_27 ?_
  intro ov ev2 H locs hp h
  rw [hp.1]
  refine W.eq (g2 := F0 m 30 ls []) rfl ?_
  have o2 : ev2 = va_up (va_up ev1 5 (eB G 112 (bs (outF 16 (fil 0 16 (TAGB (Bf 0) (Bf 3) 0 tl) x36))))) 0 (eO 4 [.ref (ad 1), .ref (ad 2), .ref (ad 3), .ref (ad 4), .ref (ad 5), .int (nI tl), .int (nI 16), .ref (ad 6), .ref (ad 12), .ref (ad 18), .ref (ad 34), .ref (ad 35), .ref (ad 36)]) := hp.2
  have t2_5 : ev2 5 = eB G 112 (bs (outF 16 (fil 0 16 (TAGB (Bf 0) (Bf 3) 0 tl) x36))) := by rw [o2, va_up_ne _ _ (by decide), va_up_self]
  have t2_0 : ev2 0 = eO 4 [.ref (ad 1), .ref (ad 2), .ref (ad 3), .ref (ad 4), .ref (ad 5), .int (nI tl), .int (nI 16), .ref (ad 6), .ref (ad 12), .ref (ad 18), .ref (ad 34), .ref (ad 35), .ref (ad 36)] := by rw [o2, va_up_self]
  have t2_1 := (show ev2 1 = ev1 1 by rw [o2, va_up_ne _ _ (by decide), va_up_ne _ _ (by decide)]).trans t1_1
  have t2_2 := (show ev2 2 = ev1 2 by rw [o2, va_up_ne _ _ (by decide), va_up_ne _ _ (by decide)]).trans t1_2
  have t2_3 := (show ev2 3 = ev1 3 by rw [o2, va_up_ne _ _ (by decide), va_up_ne _ _ (by decide)]).trans t1_3
  have t2_4 := (show ev2 4 = ev1 4 by rw [o2, va_up_ne _ _ (by decide), va_up_ne _ _ (by decide)]).trans t1_4
  have t2_35 := (show ev2 35 = ev1 35 by rw [o2, va_up_ne _ _ (by decide), va_up_ne _ _ (by decide)]).trans t1_35
  have t2_7 := (show ev2 7 = ev1 7 by rw [o2, va_up_ne _ _ (by decide), va_up_ne _ _ (by decide)]).trans t1_7
  have t2_8 := (show ev2 8 = ev1 8 by rw [o2, va_up_ne _ _ (by decide), va_up_ne _ _ (by decide)]).trans t1_8
  have t2_9 := (show ev2 9 = ev1 9 by rw [o2, va_up_ne _ _ (by decide), va_up_ne _ _ (by decide)]).trans t1_9
  have t2_10 := (show ev2 10 = ev1 10 by rw [o2, va_up_ne _ _ (by decide), va_up_ne _ _ (by decide)]).trans t1_10
  have t2_11 := (show ev2 11 = ev1 11 by rw [o2, va_up_ne _ _ (by decide), va_up_ne _ _ (by decide)]).trans t1_11
  have t2_14 := (show ev2 14 = ev1 14 by rw [o2, va_up_ne _ _ (by decide), va_up_ne _ _ (by decide)]).trans t1_14
  have t2_15 := (show ev2 15 = ev1 15 by rw [o2, va_up_ne _ _ (by decide), va_up_ne _ _ (by decide)]).trans t1_15
  have t2_16 := (show ev2 16 = ev1 16 by rw [o2, va_up_ne _ _ (by decide), va_up_ne _ _ (by decide)]).trans t1_16
  have t2_17 := (show ev2 17 = ev1 17 by rw [o2, va_up_ne _ _ (by decide), va_up_ne _ _ (by decide)]).trans t1_17
  have t2_20 := (show ev2 20 = ev1 20 by rw [o2, va_up_ne _ _ (by decide), va_up_ne _ _ (by decide)]).trans t1_20
  have t2_21 := (show ev2 21 = ev1 21 by rw [o2, va_up_ne _ _ (by decide), va_up_ne _ _ (by decide)]).trans t1_21
  have t2_34 := (show ev2 34 = ev1 34 by rw [o2, va_up_ne _ _ (by decide), va_up_ne _ _ (by decide)]).trans t1_34
  have t2_36 := (show ev2 36 = ev1 36 by rw [o2, va_up_ne _ _ (by decide), va_up_ne _ _ (by decide)]).trans t1_36
  have t2_22 := (show ev2 22 = ev1 22 by rw [o2, va_up_ne _ _ (by decide), va_up_ne _ _ (by decide)]).trans t1_22
  have t2_23 := (show ev2 23 = ev1 23 by rw [o2, va_up_ne _ _ (by decide), va_up_ne _ _ (by decide)]).trans t1_23
  have t2_24 := (show ev2 24 = ev1 24 by rw [o2, va_up_ne _ _ (by decide), va_up_ne _ _ (by decide)]).trans t1_24
  have t2_25 := (show ev2 25 = ev1 25 by rw [o2, va_up_ne _ _ (by decide), va_up_ne _ _ (by decide)]).trans t1_25
  have t2_26 := (show ev2 26 = ev1 26 by rw [o2, va_up_ne _ _ (by decide), va_up_ne _ _ (by decide)]).trans t1_26
  have t2_27 := (show ev2 27 = ev1 27 by rw [o2, va_up_ne _ _ (by decide), va_up_ne _ _ (by decide)]).trans t1_27
  have t2_28 := (show ev2 28 = ev1 28 by rw [o2, va_up_ne _ _ (by decide), va_up_ne _ _ (by decide)]).trans t1_28
  have t2_29 := (show ev2 29 = ev1 29 by rw [o2, va_up_ne _ _ (by decide), va_up_ne _ _ (by decide)]).trans t1_29
  have t2_30 := (show ev2 30 = ev1 30 by rw [o2, va_up_ne _ _ (by decide), va_up_ne _ _ (by decide)]).trans t1_30
  have t2_31 := (show ev2 31 = ev1 31 by rw [o2, va_up_ne _ _ (by decide), va_up_ne _ _ (by decide)]).trans t1_31
  have t2_32 := (show ev2 32 = ev1 32 by rw [o2, va_up_ne _ _ (by decide), va_up_ne _ _ (by decide)]).trans t1_32
  have t2_33 := (show ev2 33 = ev1 33 by rw [o2, va_up_ne _ _ (by decide), va_up_ne _ _ (by decide)]).trans t1_33
  have t2_6 := (show ev2 6 = ev1 6 by rw [o2, va_up_ne _ _ (by decide), va_up_ne _ _ (by decide)]).trans t1_6
  have t2_12 := (show ev2 12 = ev1 12 by rw [o2, va_up_ne _ _ (by decide), va_up_ne _ _ (by decide)]).trans t1_12
  have t2_13 := (show ev2 13 = ev1 13 by rw [o2, va_up_ne _ _ (by decide), va_up_ne _ _ (by decide)]).trans t1_13
  have t2_18 := (show ev2 18 = ev1 18 by rw [o2, va_up_ne _ _ (by decide), va_up_ne _ _ (by decide)]).trans t1_18
  have t2_19 := (show ev2 19 = ev1 19 by rw [o2, va_up_ne _ _ (by decide), va_up_ne _ _ (by decide)]).trans t1_19
  have eo : outF 16 (fil 0 16 (TAGB (Bf 0) (Bf 3) 0 tl) x36) = outF 16 (TAGM (Bf 0) (Bf 3) 0 tl) := outF_congr (fun j hj => by unfold fil; rw [if_pos (by omega), Nat.sub_zero, TAGB_eq (hB 0) (hB 3) j hj])
  rw [eo] at t2_5
  exact wv_vret hx hb hr hlocks h d_NB_tag_30 ⟨rfl, ⟨t2_0, t2_1, t2_2, t2_3, t2_4, t2_5, t2_6, ⟨_, t2_7⟩, ⟨_, t2_8⟩, ⟨_, t2_9⟩, ⟨_, b10, z10, t2_10⟩, ⟨_, b11, t2_11⟩, t2_12, t2_13, ⟨_, t2_14⟩, ⟨_, t2_15⟩, ⟨_, t2_16⟩, ⟨_, t2_17⟩, t2_18, t2_19, ⟨_, t2_20⟩, ⟨_, t2_21⟩, ⟨_, t2_22⟩, ⟨_, t2_23⟩, ⟨_, t2_24⟩, ⟨_, t2_25⟩, ⟨_, t2_26⟩, ⟨_, t2_27⟩, ⟨_, t2_28⟩, ⟨_, t2_29⟩, ⟨_, t2_30⟩, ⟨_, t2_31⟩, ⟨_, t2_32⟩, ⟨_, t2_33⟩, ⟨_, b34, t2_34⟩, t2_35, ⟨_, (fil_lt (TAGB_lt _ _ _ _) b36), t2_36⟩, Bf_lt hB (outF_lt (TAGM_lt _ _ _ _)) 4, htl, (by decide)⟩, (fun j hj => by rw [o2, va_up_ne _ _ (by omega), va_up_ne _ _ (by omega), o1, va_up_ne _ _ (by omega), va_up_ne _ _ (by omega), va_up_ne _ _ (by omega), va_up_ne _ _ (by omega), va_up_ne _ _ (by omega)])⟩
theorem d_NB_multiply_0 : decode c_NB_multiply 0 = .ok (.aload_n 0, 1) := by decide +kernel
theorem d_NB_multiply_1 : decode c_NB_multiply 1 = .ok (.getfield 49, 3) := by decide +kernel
theorem d_NB_multiply_4 : decode c_NB_multiply 4 = .ok (.aload_n 0, 1) := by decide +kernel
theorem d_NB_multiply_5 : decode c_NB_multiply 5 = .ok (.getfield 9, 3) := by decide +kernel
theorem d_NB_multiply_8 : decode c_NB_multiply 8 = .ok (.aload_n 0, 1) := by decide +kernel
theorem d_NB_multiply_9 : decode c_NB_multiply 9 = .ok (.getfield 16, 3) := by decide +kernel
theorem d_NB_multiply_12 : decode c_NB_multiply 12 = .ok (.aload_n 0, 1) := by decide +kernel
theorem d_NB_multiply_13 : decode c_NB_multiply 13 = .ok (.getfield 59, 3) := by decide +kernel
theorem d_NB_multiply_16 : decode c_NB_multiply 16 = .ok (.invokevirtual 92, 3) := by decide +kernel
theorem d_NB_multiply_19 : decode c_NB_multiply 19 = .ok (.aload_n 0, 1) := by decide +kernel
theorem d_NB_multiply_20 : decode c_NB_multiply 20 = .ok (.bipush 32, 2) := by decide +kernel
theorem d_NB_multiply_22 : decode c_NB_multiply 22 = .ok (.invokevirtual 80, 3) := by decide +kernel
theorem d_NB_multiply_25 : decode c_NB_multiply 25 = .ok (.return_, 1) := by decide +kernel
set_option maxRecDepth 100000 in
set_option maxHeartbeats 4000000 in
/-- multiply -/
theorem m_NB_multiply (l : Launch) (G : wG) (A : Nat → Prop) (ad : Nat → Nat) (ev : Nat → va_E) (Bf : Nat → Nat → Nat) (tl ol : Nat) (hNB : NB G ad ev Bf tl ol) : wM l y_NB_multiply w_NB_multiply ({ frames := 24, cells := 0, slots := 0, locals := 800 }) G A 52 ad ev [.ref (ad 0)] (fun ov ev' => ov = none ∧ NB G ad ev' (va_up Bf 4 (outF 32 (MULM (Bf 0) (Bf 2)))) tl 32 ∧ ∀ j, 37 ≤ j → ev' j = ev j) := by
  refine wv_ofW (cc := c_NB_multiply) (maxL := 1) (ret := none) (by decide) rfl (Nat.le_of_ble_eq_true rfl) ?_
  intro p e s m below meth c ls hx hb hr hml hts hown hlocks hini h hl
  have hl : lv_has ls 1 [(0, .ref (ad 0))] := hl
  obtain ⟨g0, g1, g2, g3, g4, g5, g6, ⟨x7, g7⟩, ⟨x8, g8⟩, ⟨x9, g9⟩, ⟨x10, b10, z10, g10⟩, ⟨x11, b11, g11⟩, g12, g13, ⟨x14, g14⟩, ⟨x15, g15⟩, ⟨x16, g16⟩, ⟨x17, g17⟩, g18, g19, ⟨x20, g20⟩, ⟨x21, g21⟩, ⟨x22, g22⟩, ⟨x23, g23⟩, ⟨x24, g24⟩, ⟨x25, g25⟩, ⟨x26, g26⟩, ⟨x27, g27⟩, ⟨x28, g28⟩, ⟨x29, g29⟩, ⟨x30, g30⟩, ⟨x31, g31⟩, ⟨x32, g32⟩, ⟨x33, g33⟩, ⟨x34, b34, g34⟩, g35, ⟨x36, b36, g36⟩, hB, htl, hol⟩ := hNB
  refine lv_aload_n hx hb d_NB_multiply_0 rfl (lv_at hl 0 rfl) ?_
  refine wv_getf hx hb h 0 (by decide) (fs := [.ref (ad 1), .ref (ad 2), .ref (ad 3), .ref (ad 4), .ref (ad 5), .int (nI (tl)), .int (nI (ol)), .ref (ad 6), .ref (ad 12), .ref (ad 18), .ref (ad 34), .ref (ad 35), .ref (ad 36)]) g0 hts (fun w hw => List.mem_cons_of_mem _ (fW_NB w hw)) hown (ci := 4) (C := "NonceBox") (T := fT_NB) (N := 13) rfl 9 (by decide) (hts _ (List.mem_cons_of_mem _ kf_NB_49)) rfl (v := .ref (ad 18)) rfl d_NB_multiply_1 ?_
  refine lv_aload_n hx hb d_NB_multiply_4 rfl (lv_at hl 0 rfl) ?_
  refine wv_getf hx hb h 0 (by decide) (fs := [.ref (ad 1), .ref (ad 2), .ref (ad 3), .ref (ad 4), .ref (ad 5), .int (nI (tl)), .int (nI (ol)), .ref (ad 6), .ref (ad 12), .ref (ad 18), .ref (ad 34), .ref (ad 35), .ref (ad 36)]) g0 hts (fun w hw => List.mem_cons_of_mem _ (fW_NB w hw)) hown (ci := 4) (C := "NonceBox") (T := fT_NB) (N := 13) rfl 0 (by decide) (hts _ (List.mem_cons_of_mem _ kf_NB_9)) rfl (v := .ref (ad 1)) rfl d_NB_multiply_5 ?_
  refine lv_aload_n hx hb d_NB_multiply_8 rfl (lv_at hl 0 rfl) ?_
  refine wv_getf hx hb h 0 (by decide) (fs := [.ref (ad 1), .ref (ad 2), .ref (ad 3), .ref (ad 4), .ref (ad 5), .int (nI (tl)), .int (nI (ol)), .ref (ad 6), .ref (ad 12), .ref (ad 18), .ref (ad 34), .ref (ad 35), .ref (ad 36)]) g0 hts (fun w hw => List.mem_cons_of_mem _ (fW_NB w hw)) hown (ci := 4) (C := "NonceBox") (T := fT_NB) (N := 13) rfl 2 (by decide) (hts _ (List.mem_cons_of_mem _ kf_NB_16)) rfl (v := .ref (ad 3)) rfl d_NB_multiply_9 ?_
  refine lv_aload_n hx hb d_NB_multiply_12 rfl (lv_at hl 0 rfl) ?_
  refine wv_getf hx hb h 0 (by decide) (fs := [.ref (ad 1), .ref (ad 2), .ref (ad 3), .ref (ad 4), .ref (ad 5), .int (nI (tl)), .int (nI (ol)), .ref (ad 6), .ref (ad 12), .ref (ad 18), .ref (ad 34), .ref (ad 35), .ref (ad 36)]) g0 hts (fun w hw => List.mem_cons_of_mem _ (fW_NB w hw)) hown (ci := 4) (C := "NonceBox") (T := fT_NB) (N := 13) rfl 12 (by decide) (hts _ (List.mem_cons_of_mem _ kf_NB_59)) rfl (v := .ref (ad 36)) rfl d_NB_multiply_13 ?_
  refine wv_V (As := [.ref (ad 1), .ref (ad 3), .ref (ad 36)]) (rest := []) (k := 3) ⟨hx, hb, hml, hown, hts⟩ h 18 (by decide) (C := "NonceBox$Curve") g18 rfl (m_Cv_multipleInto l G A ad ev 36 112 (Bf 0) (Bf 2) x36 x21 x20 x22 x23 x24 x25 x26 x27 x28 x29 x30 x31 x32 x33 g18 g19 (by decide) g1 g3 g36 (hB 0) (hB 2) (by decide) (by decide) (by decide) g20 g21 g22 g23 g24 g25 g26 g27 g28 g29 g30 g31 g32 g33) kc_Cv_multipleInto kl_NB_92 km_Cv_multipleInto kv_Cv_multipleInto ki_Cv (by decide +kernel) ⟨rfl, rfl, Nat.le_of_ble_eq_true rfl, Nat.le_of_ble_eq_true rfl⟩ hl.1 rfl rfl (Nat.le_of_ble_eq_true rfl) ⟨Nat.le_refl _, Nat.le_refl _⟩ d_NB_multiply_16 ?_
  intro ov ev1 H locs hp h
  obtain ⟨Wd, s22, s23, s24, s25, s26, s27, s28, s29, s30, s31, s32, s33, hp⟩ := hp
  rw [hp.1]
  refine W.eq (g2 := F0 m 19 ls []) rfl ?_
  have o1 : ev1 = (va_up (va_up (va_up (va_up (va_up (va_up (va_up (va_up (va_up (va_up (va_up (va_up (va_up (va_up (va_up ev 20 (eJ G 20 Wd)) 21 (eB G 32 (bs (KEYB (Bf 0))))) 22 (eJ G 10 s22)) 23 (eJ G 10 s23)) 24 (eJ G 10 s24)) 25 (eJ G 10 s25)) 26 (eJ G 10 s26)) 27 (eJ G 10 s27)) 28 (eJ G 10 s28)) 29 (eJ G 10 s29)) 30 (eJ G 10 s30)) 31 (eJ G 10 s31)) 32 (eJ G 10 s32)) 33 (eJ G 10 s33)) 36 (eB G 112 (bs (fil 0 32 (MULB (Bf 0) (Bf 2)) x36)))) := hp.2
  have t1_20 : ev1 20 = eJ G 20 Wd := by rw [o1, va_up_ne _ _ (by decide), va_up_ne _ _ (by decide), va_up_ne _ _ (by decide), va_up_ne _ _ (by decide), va_up_ne _ _ (by decide), va_up_ne _ _ (by decide), va_up_ne _ _ (by decide), va_up_ne _ _ (by decide), va_up_ne _ _ (by decide), va_up_ne _ _ (by decide), va_up_ne _ _ (by decide), va_up_ne _ _ (by decide), va_up_ne _ _ (by decide), va_up_ne _ _ (by decide), va_up_self]
  have t1_21 : ev1 21 = eB G 32 (bs (KEYB (Bf 0))) := by rw [o1, va_up_ne _ _ (by decide), va_up_ne _ _ (by decide), va_up_ne _ _ (by decide), va_up_ne _ _ (by decide), va_up_ne _ _ (by decide), va_up_ne _ _ (by decide), va_up_ne _ _ (by decide), va_up_ne _ _ (by decide), va_up_ne _ _ (by decide), va_up_ne _ _ (by decide), va_up_ne _ _ (by decide), va_up_ne _ _ (by decide), va_up_ne _ _ (by decide), va_up_self]
  have t1_22 : ev1 22 = eJ G 10 s22 := by rw [o1, va_up_ne _ _ (by decide), va_up_ne _ _ (by decide), va_up_ne _ _ (by decide), va_up_ne _ _ (by decide), va_up_ne _ _ (by decide), va_up_ne _ _ (by decide), va_up_ne _ _ (by decide), va_up_ne _ _ (by decide), va_up_ne _ _ (by decide), va_up_ne _ _ (by decide), va_up_ne _ _ (by decide), va_up_ne _ _ (by decide), va_up_self]
  have t1_23 : ev1 23 = eJ G 10 s23 := by rw [o1, va_up_ne _ _ (by decide), va_up_ne _ _ (by decide), va_up_ne _ _ (by decide), va_up_ne _ _ (by decide), va_up_ne _ _ (by decide), va_up_ne _ _ (by decide), va_up_ne _ _ (by decide), va_up_ne _ _ (by decide), va_up_ne _ _ (by decide), va_up_ne _ _ (by decide), va_up_ne _ _ (by decide), va_up_self]
  have t1_24 : ev1 24 = eJ G 10 s24 := by rw [o1, va_up_ne _ _ (by decide), va_up_ne _ _ (by decide), va_up_ne _ _ (by decide), va_up_ne _ _ (by decide), va_up_ne _ _ (by decide), va_up_ne _ _ (by decide), va_up_ne _ _ (by decide), va_up_ne _ _ (by decide), va_up_ne _ _ (by decide), va_up_ne _ _ (by decide), va_up_self]
  have t1_25 : ev1 25 = eJ G 10 s25 := by rw [o1, va_up_ne _ _ (by decide), va_up_ne _ _ (by decide), va_up_ne _ _ (by decide), va_up_ne _ _ (by decide), va_up_ne _ _ (by decide), va_up_ne _ _ (by decide), va_up_ne _ _ (by decide), va_up_ne _ _ (by decide), va_up_ne _ _ (by decide), va_up_self]
  have t1_26 : ev1 26 = eJ G 10 s26 := by rw [o1, va_up_ne _ _ (by decide), va_up_ne _ _ (by decide), va_up_ne _ _ (by decide), va_up_ne _ _ (by decide), va_up_ne _ _ (by decide), va_up_ne _ _ (by decide), va_up_ne _ _ (by decide), va_up_ne _ _ (by decide), va_up_self]
  have t1_27 : ev1 27 = eJ G 10 s27 := by rw [o1, va_up_ne _ _ (by decide), va_up_ne _ _ (by decide), va_up_ne _ _ (by decide), va_up_ne _ _ (by decide), va_up_ne _ _ (by decide), va_up_ne _ _ (by decide), va_up_ne _ _ (by decide), va_up_self]
  have t1_28 : ev1 28 = eJ G 10 s28 := by rw [o1, va_up_ne _ _ (by decide), va_up_ne _ _ (by decide), va_up_ne _ _ (by decide), va_up_ne _ _ (by decide), va_up_ne _ _ (by decide), va_up_ne _ _ (by decide), va_up_self]
  have t1_29 : ev1 29 = eJ G 10 s29 := by rw [o1, va_up_ne _ _ (by decide), va_up_ne _ _ (by decide), va_up_ne _ _ (by decide), va_up_ne _ _ (by decide), va_up_ne _ _ (by decide), va_up_self]
  have t1_30 : ev1 30 = eJ G 10 s30 := by rw [o1, va_up_ne _ _ (by decide), va_up_ne _ _ (by decide), va_up_ne _ _ (by decide), va_up_ne _ _ (by decide), va_up_self]
  have t1_31 : ev1 31 = eJ G 10 s31 := by rw [o1, va_up_ne _ _ (by decide), va_up_ne _ _ (by decide), va_up_ne _ _ (by decide), va_up_self]
  have t1_32 : ev1 32 = eJ G 10 s32 := by rw [o1, va_up_ne _ _ (by decide), va_up_ne _ _ (by decide), va_up_self]
  have t1_33 : ev1 33 = eJ G 10 s33 := by rw [o1, va_up_ne _ _ (by decide), va_up_self]
  have t1_36 : ev1 36 = eB G 112 (bs (fil 0 32 (MULB (Bf 0) (Bf 2)) x36)) := by rw [o1, va_up_self]
  have t1_1 := (show ev1 1 = ev 1 by rw [o1, va_up_ne _ _ (by decide), va_up_ne _ _ (by decide), va_up_ne _ _ (by decide), va_up_ne _ _ (by decide), va_up_ne _ _ (by decide), va_up_ne _ _ (by decide), va_up_ne _ _ (by decide), va_up_ne _ _ (by decide), va_up_ne _ _ (by decide), va_up_ne _ _ (by decide), va_up_ne _ _ (by decide), va_up_ne _ _ (by decide), va_up_ne _ _ (by decide), va_up_ne _ _ (by decide), va_up_ne _ _ (by decide)]).trans g1
  have t1_2 := (show ev1 2 = ev 2 by rw [o1, va_up_ne _ _ (by decide), va_up_ne _ _ (by decide), va_up_ne _ _ (by decide), va_up_ne _ _ (by decide), va_up_ne _ _ (by decide), va_up_ne _ _ (by decide), va_up_ne _ _ (by decide), va_up_ne _ _ (by decide), va_up_ne _ _ (by decide), va_up_ne _ _ (by decide), va_up_ne _ _ (by decide), va_up_ne _ _ (by decide), va_up_ne _ _ (by decide), va_up_ne _ _ (by decide), va_up_ne _ _ (by decide)]).trans g2
  have t1_3 := (show ev1 3 = ev 3 by rw [o1, va_up_ne _ _ (by decide), va_up_ne _ _ (by decide), va_up_ne _ _ (by decide), va_up_ne _ _ (by decide), va_up_ne _ _ (by decide), va_up_ne _ _ (by decide), va_up_ne _ _ (by decide), va_up_ne _ _ (by decide), va_up_ne _ _ (by decide), va_up_ne _ _ (by decide), va_up_ne _ _ (by decide), va_up_ne _ _ (by decide), va_up_ne _ _ (by decide), va_up_ne _ _ (by decide), va_up_ne _ _ (by decide)]).trans g3
  have t1_4 := (show ev1 4 = ev 4 by rw [o1, va_up_ne _ _ (by decide), va_up_ne _ _ (by decide), va_up_ne _ _ (by decide), va_up_ne _ _ (by decide), va_up_ne _ _ (by decide), va_up_ne _ _ (by decide), va_up_ne _ _ (by decide), va_up_ne _ _ (by decide), va_up_ne _ _ (by decide), va_up_ne _ _ (by decide), va_up_ne _ _ (by decide), va_up_ne _ _ (by decide), va_up_ne _ _ (by decide), va_up_ne _ _ (by decide), va_up_ne _ _ (by decide)]).trans g4
  have t1_5 := (show ev1 5 = ev 5 by rw [o1, va_up_ne _ _ (by decide), va_up_ne _ _ (by decide), va_up_ne _ _ (by decide), va_up_ne _ _ (by decide), va_up_ne _ _ (by decide), va_up_ne _ _ (by decide), va_up_ne _ _ (by decide), va_up_ne _ _ (by decide), va_up_ne _ _ (by decide), va_up_ne _ _ (by decide), va_up_ne _ _ (by decide), va_up_ne _ _ (by decide), va_up_ne _ _ (by decide), va_up_ne _ _ (by decide), va_up_ne _ _ (by decide)]).trans g5
  have t1_35 := (show ev1 35 = ev 35 by rw [o1, va_up_ne _ _ (by decide), va_up_ne _ _ (by decide), va_up_ne _ _ (by decide), va_up_ne _ _ (by decide), va_up_ne _ _ (by decide), va_up_ne _ _ (by decide), va_up_ne _ _ (by decide), va_up_ne _ _ (by decide), va_up_ne _ _ (by decide), va_up_ne _ _ (by decide), va_up_ne _ _ (by decide), va_up_ne _ _ (by decide), va_up_ne _ _ (by decide), va_up_ne _ _ (by decide), va_up_ne _ _ (by decide)]).trans g35
  have t1_7 := (show ev1 7 = ev 7 by rw [o1, va_up_ne _ _ (by decide), va_up_ne _ _ (by decide), va_up_ne _ _ (by decide), va_up_ne _ _ (by decide), va_up_ne _ _ (by decide), va_up_ne _ _ (by decide), va_up_ne _ _ (by decide), va_up_ne _ _ (by decide), va_up_ne _ _ (by decide), va_up_ne _ _ (by decide), va_up_ne _ _ (by decide), va_up_ne _ _ (by decide), va_up_ne _ _ (by decide), va_up_ne _ _ (by decide), va_up_ne _ _ (by decide)]).trans g7
  have t1_8 := (show ev1 8 = ev 8 by rw [o1, va_up_ne _ _ (by decide), va_up_ne _ _ (by decide), va_up_ne _ _ (by decide), va_up_ne _ _ (by decide), va_up_ne _ _ (by decide), va_up_ne _ _ (by decide), va_up_ne _ _ (by decide), va_up_ne _ _ (by decide), va_up_ne _ _ (by decide), va_up_ne _ _ (by decide), va_up_ne _ _ (by decide), va_up_ne _ _ (by decide), va_up_ne _ _ (by decide), va_up_ne _ _ (by decide), va_up_ne _ _ (by decide)]).trans g8
  have t1_9 := (show ev1 9 = ev 9 by rw [o1, va_up_ne _ _ (by decide), va_up_ne _ _ (by decide), va_up_ne _ _ (by decide), va_up_ne _ _ (by decide), va_up_ne _ _ (by decide), va_up_ne _ _ (by decide), va_up_ne _ _ (by decide), va_up_ne _ _ (by decide), va_up_ne _ _ (by decide), va_up_ne _ _ (by decide), va_up_ne _ _ (by decide), va_up_ne _ _ (by decide), va_up_ne _ _ (by decide), va_up_ne _ _ (by decide), va_up_ne _ _ (by decide)]).trans g9
  have t1_10 := (show ev1 10 = ev 10 by rw [o1, va_up_ne _ _ (by decide), va_up_ne _ _ (by decide), va_up_ne _ _ (by decide), va_up_ne _ _ (by decide), va_up_ne _ _ (by decide), va_up_ne _ _ (by decide), va_up_ne _ _ (by decide), va_up_ne _ _ (by decide), va_up_ne _ _ (by decide), va_up_ne _ _ (by decide), va_up_ne _ _ (by decide), va_up_ne _ _ (by decide), va_up_ne _ _ (by decide), va_up_ne _ _ (by decide), va_up_ne _ _ (by decide)]).trans g10
  have t1_11 := (show ev1 11 = ev 11 by rw [o1, va_up_ne _ _ (by decide), va_up_ne _ _ (by decide), va_up_ne _ _ (by decide), va_up_ne _ _ (by decide), va_up_ne _ _ (by decide), va_up_ne _ _ (by decide), va_up_ne _ _ (by decide), va_up_ne _ _ (by decide), va_up_ne _ _ (by decide), va_up_ne _ _ (by decide), va_up_ne _ _ (by decide), va_up_ne _ _ (by decide), va_up_ne _ _ (by decide), va_up_ne _ _ (by decide), va_up_ne _ _ (by decide)]).trans g11
  have t1_14 := (show ev1 14 = ev 14 by rw [o1, va_up_ne _ _ (by decide), va_up_ne _ _ (by decide), va_up_ne _ _ (by decide), va_up_ne _ _ (by decide), va_up_ne _ _ (by decide), va_up_ne _ _ (by decide), va_up_ne _ _ (by decide), va_up_ne _ _ (by decide), va_up_ne _ _ (by decide), va_up_ne _ _ (by decide), va_up_ne _ _ (by decide), va_up_ne _ _ (by decide), va_up_ne _ _ (by decide), va_up_ne _ _ (by decide), va_up_ne _ _ (by decide)]).trans g14
  have t1_15 := (show ev1 15 = ev 15 by rw [o1, va_up_ne _ _ (by decide), va_up_ne _ _ (by decide), va_up_ne _ _ (by decide), va_up_ne _ _ (by decide), va_up_ne _ _ (by decide), va_up_ne _ _ (by decide), va_up_ne _ _ (by decide), va_up_ne _ _ (by decide), va_up_ne _ _ (by decide), va_up_ne _ _ (by decide), va_up_ne _ _ (by decide), va_up_ne _ _ (by decide), va_up_ne _ _ (by decide), va_up_ne _ _ (by decide), va_up_ne _ _ (by decide)]).trans g15
  have t1_16 := (show ev1 16 = ev 16 by rw [o1, va_up_ne _ _ (by decide), va_up_ne _ _ (by decide), va_up_ne _ _ (by decide), va_up_ne _ _ (by decide), va_up_ne _ _ (by decide), va_up_ne _ _ (by decide), va_up_ne _ _ (by decide), va_up_ne _ _ (by decide), va_up_ne _ _ (by decide), va_up_ne _ _ (by decide), va_up_ne _ _ (by decide), va_up_ne _ _ (by decide), va_up_ne _ _ (by decide), va_up_ne _ _ (by decide), va_up_ne _ _ (by decide)]).trans g16
  have t1_17 := (show ev1 17 = ev 17 by rw [o1, va_up_ne _ _ (by decide), va_up_ne _ _ (by decide), va_up_ne _ _ (by decide), va_up_ne _ _ (by decide), va_up_ne _ _ (by decide), va_up_ne _ _ (by decide), va_up_ne _ _ (by decide), va_up_ne _ _ (by decide), va_up_ne _ _ (by decide), va_up_ne _ _ (by decide), va_up_ne _ _ (by decide), va_up_ne _ _ (by decide), va_up_ne _ _ (by decide), va_up_ne _ _ (by decide), va_up_ne _ _ (by decide)]).trans g17
  have t1_34 := (show ev1 34 = ev 34 by rw [o1, va_up_ne _ _ (by decide), va_up_ne _ _ (by decide), va_up_ne _ _ (by decide), va_up_ne _ _ (by decide), va_up_ne _ _ (by decide), va_up_ne _ _ (by decide), va_up_ne _ _ (by decide), va_up_ne _ _ (by decide), va_up_ne _ _ (by decide), va_up_ne _ _ (by decide), va_up_ne _ _ (by decide), va_up_ne _ _ (by decide), va_up_ne _ _ (by decide), va_up_ne _ _ (by decide), va_up_ne _ _ (by decide)]).trans g34
  have t1_0 := (show ev1 0 = ev 0 by rw [o1, va_up_ne _ _ (by decide), va_up_ne _ _ (by decide), va_up_ne _ _ (by decide), va_up_ne _ _ (by decide), va_up_ne _ _ (by decide), va_up_ne _ _ (by decide), va_up_ne _ _ (by decide), va_up_ne _ _ (by decide), va_up_ne _ _ (by decide), va_up_ne _ _ (by decide), va_up_ne _ _ (by decide), va_up_ne _ _ (by decide), va_up_ne _ _ (by decide), va_up_ne _ _ (by decide), va_up_ne _ _ (by decide)]).trans g0
  have t1_6 := (show ev1 6 = ev 6 by rw [o1, va_up_ne _ _ (by decide), va_up_ne _ _ (by decide), va_up_ne _ _ (by decide), va_up_ne _ _ (by decide), va_up_ne _ _ (by decide), va_up_ne _ _ (by decide), va_up_ne _ _ (by decide), va_up_ne _ _ (by decide), va_up_ne _ _ (by decide), va_up_ne _ _ (by decide), va_up_ne _ _ (by decide), va_up_ne _ _ (by decide), va_up_ne _ _ (by decide), va_up_ne _ _ (by decide), va_up_ne _ _ (by decide)]).trans g6
  have t1_12 := (show ev1 12 = ev 12 by rw [o1, va_up_ne _ _ (by decide), va_up_ne _ _ (by decide), va_up_ne _ _ (by decide), va_up_ne _ _ (by decide), va_up_ne _ _ (by decide), va_up_ne _ _ (by decide), va_up_ne _ _ (by decide), va_up_ne _ _ (by decide), va_up_ne _ _ (by decide), va_up_ne _ _ (by decide), va_up_ne _ _ (by decide), va_up_ne _ _ (by decide), va_up_ne _ _ (by decide), va_up_ne _ _ (by decide), va_up_ne _ _ (by decide)]).trans g12
  have t1_13 := (show ev1 13 = ev 13 by rw [o1, va_up_ne _ _ (by decide), va_up_ne _ _ (by decide), va_up_ne _ _ (by decide), va_up_ne _ _ (by decide), va_up_ne _ _ (by decide), va_up_ne _ _ (by decide), va_up_ne _ _ (by decide), va_up_ne _ _ (by decide), va_up_ne _ _ (by decide), va_up_ne _ _ (by decide), va_up_ne _ _ (by decide), va_up_ne _ _ (by decide), va_up_ne _ _ (by decide), va_up_ne _ _ (by decide), va_up_ne _ _ (by decide)]).trans g13
  have t1_18 := (show ev1 18 = ev 18 by rw [o1, va_up_ne _ _ (by decide), va_up_ne _ _ (by decide), va_up_ne _ _ (by decide), va_up_ne _ _ (by decide), va_up_ne _ _ (by decide), va_up_ne _ _ (by decide), va_up_ne _ _ (by decide), va_up_ne _ _ (by decide), va_up_ne _ _ (by decide), va_up_ne _ _ (by decide), va_up_ne _ _ (by decide), va_up_ne _ _ (by decide), va_up_ne _ _ (by decide), va_up_ne _ _ (by decide), va_up_ne _ _ (by decide)]).trans g18
  have t1_19 := (show ev1 19 = ev 19 by rw [o1, va_up_ne _ _ (by decide), va_up_ne _ _ (by decide), va_up_ne _ _ (by decide), va_up_ne _ _ (by decide), va_up_ne _ _ (by decide), va_up_ne _ _ (by decide), va_up_ne _ _ (by decide), va_up_ne _ _ (by decide), va_up_ne _ _ (by decide), va_up_ne _ _ (by decide), va_up_ne _ _ (by decide), va_up_ne _ _ (by decide), va_up_ne _ _ (by decide), va_up_ne _ _ (by decide), va_up_ne _ _ (by decide)]).trans g19
  refine lv_aload_n hx hb d_NB_multiply_19 rfl (lv_at hl 0 rfl) ?_
  refine lv_bipush (v := nI (32)) hx hb d_NB_multiply_20 (by decide) ?_
  refine wv_V (As := [.int (nI (32))]) (rest := []) (k := 1) ⟨hx, hb, hml, hown, hts⟩ h 0 (by decide) (C := "NonceBox") t1_0 rfl (m_NB_showWork l G A ad ev1 tl ol 32 (Bf 4) (fil 0 32 (MULB (Bf 0) (Bf 2)) x36) t1_0 t1_5 t1_36 (by decide)) kc_NB_showWork kl_NB_80 km_NB_showWork kv_NB_showWork ki_NB (by decide +kernel) ⟨rfl, rfl, Nat.le_of_ble_eq_true rfl, Nat.le_of_ble_eq_true rfl⟩ hl.1 rfl rfl (Nat.le_of_ble_eq_true rfl) ⟨Nat.le_refl _, Nat.le_refl _⟩ d_NB_multiply_22 ?_
  intro ov ev2 H locs hp h
  rw [hp.1]
  refine W.eq (g2 := F0 m 25 ls []) rfl ?_
  have o2 : ev2 = va_up (va_up ev1 5 (eB G 112 (bs (outF 32 (fil 0 32 (MULB (Bf 0) (Bf 2)) x36))))) 0 (eO 4 [.ref (ad 1), .ref (ad 2), .ref (ad 3), .ref (ad 4), .ref (ad 5), .int (nI tl), .int (nI 32), .ref (ad 6), .ref (ad 12), .ref (ad 18), .ref (ad 34), .ref (ad 35), .ref (ad 36)]) := hp.2
  have t2_5 : ev2 5 = eB G 112 (bs (outF 32 (fil 0 32 (MULB (Bf 0) (Bf 2)) x36))) := by rw [o2, va_up_ne _ _ (by decide), va_up_self]
  have t2_0 : ev2 0 = eO 4 [.ref (ad 1), .ref (ad 2), .ref (ad 3), .ref (ad 4), .ref (ad 5), .int (nI tl), .int (nI 32), .ref (ad 6), .ref (ad 12), .ref (ad 18), .ref (ad 34), .ref (ad 35), .ref (ad 36)] := by rw [o2, va_up_self]
  have t2_1 := (show ev2 1 = ev1 1 by rw [o2, va_up_ne _ _ (by decide), va_up_ne _ _ (by decide)]).trans t1_1
  have t2_2 := (show ev2 2 = ev1 2 by rw [o2, va_up_ne _ _ (by decide), va_up_ne _ _ (by decide)]).trans t1_2
  have t2_3 := (show ev2 3 = ev1 3 by rw [o2, va_up_ne _ _ (by decide), va_up_ne _ _ (by decide)]).trans t1_3
  have t2_4 := (show ev2 4 = ev1 4 by rw [o2, va_up_ne _ _ (by decide), va_up_ne _ _ (by decide)]).trans t1_4
  have t2_35 := (show ev2 35 = ev1 35 by rw [o2, va_up_ne _ _ (by decide), va_up_ne _ _ (by decide)]).trans t1_35
  have t2_7 := (show ev2 7 = ev1 7 by rw [o2, va_up_ne _ _ (by decide), va_up_ne _ _ (by decide)]).trans t1_7
  have t2_8 := (show ev2 8 = ev1 8 by rw [o2, va_up_ne _ _ (by decide), va_up_ne _ _ (by decide)]).trans t1_8
  have t2_9 := (show ev2 9 = ev1 9 by rw [o2, va_up_ne _ _ (by decide), va_up_ne _ _ (by decide)]).trans t1_9
  have t2_10 := (show ev2 10 = ev1 10 by rw [o2, va_up_ne _ _ (by decide), va_up_ne _ _ (by decide)]).trans t1_10
  have t2_11 := (show ev2 11 = ev1 11 by rw [o2, va_up_ne _ _ (by decide), va_up_ne _ _ (by decide)]).trans t1_11
  have t2_14 := (show ev2 14 = ev1 14 by rw [o2, va_up_ne _ _ (by decide), va_up_ne _ _ (by decide)]).trans t1_14
  have t2_15 := (show ev2 15 = ev1 15 by rw [o2, va_up_ne _ _ (by decide), va_up_ne _ _ (by decide)]).trans t1_15
  have t2_16 := (show ev2 16 = ev1 16 by rw [o2, va_up_ne _ _ (by decide), va_up_ne _ _ (by decide)]).trans t1_16
  have t2_17 := (show ev2 17 = ev1 17 by rw [o2, va_up_ne _ _ (by decide), va_up_ne _ _ (by decide)]).trans t1_17
  have t2_20 := (show ev2 20 = ev1 20 by rw [o2, va_up_ne _ _ (by decide), va_up_ne _ _ (by decide)]).trans t1_20
  have t2_21 := (show ev2 21 = ev1 21 by rw [o2, va_up_ne _ _ (by decide), va_up_ne _ _ (by decide)]).trans t1_21
  have t2_34 := (show ev2 34 = ev1 34 by rw [o2, va_up_ne _ _ (by decide), va_up_ne _ _ (by decide)]).trans t1_34
  have t2_36 := (show ev2 36 = ev1 36 by rw [o2, va_up_ne _ _ (by decide), va_up_ne _ _ (by decide)]).trans t1_36
  have t2_22 := (show ev2 22 = ev1 22 by rw [o2, va_up_ne _ _ (by decide), va_up_ne _ _ (by decide)]).trans t1_22
  have t2_23 := (show ev2 23 = ev1 23 by rw [o2, va_up_ne _ _ (by decide), va_up_ne _ _ (by decide)]).trans t1_23
  have t2_24 := (show ev2 24 = ev1 24 by rw [o2, va_up_ne _ _ (by decide), va_up_ne _ _ (by decide)]).trans t1_24
  have t2_25 := (show ev2 25 = ev1 25 by rw [o2, va_up_ne _ _ (by decide), va_up_ne _ _ (by decide)]).trans t1_25
  have t2_26 := (show ev2 26 = ev1 26 by rw [o2, va_up_ne _ _ (by decide), va_up_ne _ _ (by decide)]).trans t1_26
  have t2_27 := (show ev2 27 = ev1 27 by rw [o2, va_up_ne _ _ (by decide), va_up_ne _ _ (by decide)]).trans t1_27
  have t2_28 := (show ev2 28 = ev1 28 by rw [o2, va_up_ne _ _ (by decide), va_up_ne _ _ (by decide)]).trans t1_28
  have t2_29 := (show ev2 29 = ev1 29 by rw [o2, va_up_ne _ _ (by decide), va_up_ne _ _ (by decide)]).trans t1_29
  have t2_30 := (show ev2 30 = ev1 30 by rw [o2, va_up_ne _ _ (by decide), va_up_ne _ _ (by decide)]).trans t1_30
  have t2_31 := (show ev2 31 = ev1 31 by rw [o2, va_up_ne _ _ (by decide), va_up_ne _ _ (by decide)]).trans t1_31
  have t2_32 := (show ev2 32 = ev1 32 by rw [o2, va_up_ne _ _ (by decide), va_up_ne _ _ (by decide)]).trans t1_32
  have t2_33 := (show ev2 33 = ev1 33 by rw [o2, va_up_ne _ _ (by decide), va_up_ne _ _ (by decide)]).trans t1_33
  have t2_6 := (show ev2 6 = ev1 6 by rw [o2, va_up_ne _ _ (by decide), va_up_ne _ _ (by decide)]).trans t1_6
  have t2_12 := (show ev2 12 = ev1 12 by rw [o2, va_up_ne _ _ (by decide), va_up_ne _ _ (by decide)]).trans t1_12
  have t2_13 := (show ev2 13 = ev1 13 by rw [o2, va_up_ne _ _ (by decide), va_up_ne _ _ (by decide)]).trans t1_13
  have t2_18 := (show ev2 18 = ev1 18 by rw [o2, va_up_ne _ _ (by decide), va_up_ne _ _ (by decide)]).trans t1_18
  have t2_19 := (show ev2 19 = ev1 19 by rw [o2, va_up_ne _ _ (by decide), va_up_ne _ _ (by decide)]).trans t1_19
  have eo : outF 32 (fil 0 32 (MULB (Bf 0) (Bf 2)) x36) = outF 32 (MULM (Bf 0) (Bf 2)) := outF_congr (fun j hj => by unfold fil; rw [if_pos (by omega), Nat.sub_zero, MULB_eq (hB 2) j hj])
  rw [eo] at t2_5
  exact wv_vret hx hb hr hlocks h d_NB_multiply_25 ⟨rfl, ⟨t2_0, t2_1, t2_2, t2_3, t2_4, t2_5, t2_6, ⟨_, t2_7⟩, ⟨_, t2_8⟩, ⟨_, t2_9⟩, ⟨_, b10, z10, t2_10⟩, ⟨_, b11, t2_11⟩, t2_12, t2_13, ⟨_, t2_14⟩, ⟨_, t2_15⟩, ⟨_, t2_16⟩, ⟨_, t2_17⟩, t2_18, t2_19, ⟨_, t2_20⟩, ⟨_, t2_21⟩, ⟨_, t2_22⟩, ⟨_, t2_23⟩, ⟨_, t2_24⟩, ⟨_, t2_25⟩, ⟨_, t2_26⟩, ⟨_, t2_27⟩, ⟨_, t2_28⟩, ⟨_, t2_29⟩, ⟨_, t2_30⟩, ⟨_, t2_31⟩, ⟨_, t2_32⟩, ⟨_, t2_33⟩, ⟨_, b34, t2_34⟩, t2_35, ⟨_, (fil_lt (MULB_lt _ _) b36), t2_36⟩, Bf_lt hB (outF_lt (MULM_lt _ _)) 4, htl, (by decide)⟩, (fun j hj => by rw [o2, va_up_ne _ _ (by omega), va_up_ne _ _ (by omega), o1, va_up_ne _ _ (by omega), va_up_ne _ _ (by omega), va_up_ne _ _ (by omega), va_up_ne _ _ (by omega), va_up_ne _ _ (by omega), va_up_ne _ _ (by omega), va_up_ne _ _ (by omega), va_up_ne _ _ (by omega), va_up_ne _ _ (by omega), va_up_ne _ _ (by omega), va_up_ne _ _ (by omega), va_up_ne _ _ (by omega), va_up_ne _ _ (by omega), va_up_ne _ _ (by omega), va_up_ne _ _ (by omega)])⟩
/-- AGREED's bytes -/
def AGRB (K X : Nat → Nat) : Nat → Nat := MIXB (MULM K X) (fun _ => 0)
theorem AGRB_lt (K X : Nat → Nat) (j : Nat) : AGRB K X j < 256 := MIXB_lt _ _ j
theorem d_NB_findAgreedKey_0 : decode c_NB_findAgreedKey 0 = .ok (.aload_n 0, 1) := by decide +kernel
theorem d_NB_findAgreedKey_1 : decode c_NB_findAgreedKey 1 = .ok (.getfield 49, 3) := by decide +kernel
theorem d_NB_findAgreedKey_4 : decode c_NB_findAgreedKey 4 = .ok (.aload_n 0, 1) := by decide +kernel
theorem d_NB_findAgreedKey_5 : decode c_NB_findAgreedKey 5 = .ok (.getfield 9, 3) := by decide +kernel
theorem d_NB_findAgreedKey_8 : decode c_NB_findAgreedKey 8 = .ok (.aload_n 0, 1) := by decide +kernel
theorem d_NB_findAgreedKey_9 : decode c_NB_findAgreedKey 9 = .ok (.getfield 16, 3) := by decide +kernel
theorem d_NB_findAgreedKey_12 : decode c_NB_findAgreedKey 12 = .ok (.aload_n 0, 1) := by decide +kernel
theorem d_NB_findAgreedKey_13 : decode c_NB_findAgreedKey 13 = .ok (.getfield 53, 3) := by decide +kernel
theorem d_NB_findAgreedKey_16 : decode c_NB_findAgreedKey 16 = .ok (.invokevirtual 92, 3) := by decide +kernel
theorem d_NB_findAgreedKey_19 : decode c_NB_findAgreedKey 19 = .ok (.aload_n 0, 1) := by decide +kernel
theorem d_NB_findAgreedKey_20 : decode c_NB_findAgreedKey 20 = .ok (.getfield 35, 3) := by decide +kernel
theorem d_NB_findAgreedKey_23 : decode c_NB_findAgreedKey 23 = .ok (.aload_n 0, 1) := by decide +kernel
theorem d_NB_findAgreedKey_24 : decode c_NB_findAgreedKey 24 = .ok (.getfield 53, 3) := by decide +kernel
theorem d_NB_findAgreedKey_27 : decode c_NB_findAgreedKey 27 = .ok (.aload_n 0, 1) := by decide +kernel
theorem d_NB_findAgreedKey_28 : decode c_NB_findAgreedKey 28 = .ok (.getfield 56, 3) := by decide +kernel
theorem d_NB_findAgreedKey_31 : decode c_NB_findAgreedKey 31 = .ok (.aload_n 0, 1) := by decide +kernel
theorem d_NB_findAgreedKey_32 : decode c_NB_findAgreedKey 32 = .ok (.getfield 53, 3) := by decide +kernel
theorem d_NB_findAgreedKey_35 : decode c_NB_findAgreedKey 35 = .ok (.invokevirtual 76, 3) := by decide +kernel
theorem d_NB_findAgreedKey_38 : decode c_NB_findAgreedKey 38 = .ok (.return_, 1) := by decide +kernel
set_option maxRecDepth 100000 in
set_option maxHeartbeats 4000000 in
/-- AGREED into its row -/
theorem m_NB_findAgreedKey (l : Launch) (G : wG) (A : Nat → Prop) (ad : Nat → Nat) (ev : Nat → va_E) (Bf : Nat → Nat → Nat) (tl ol : Nat) (hNB : NB G ad ev Bf tl ol) : wM l y_NB_findAgreedKey w_NB_findAgreedKey ({ frames := 24, cells := 0, slots := 0, locals := 800 }) G A 52 ad ev [.ref (ad 0)] (fun ov ev' => ov = none ∧ NB G ad ev' Bf tl ol ∧ ev' 34 = eB G 32 (bs (AGRB (Bf 0) (Bf 2))) ∧ ∀ j, 37 ≤ j → ev' j = ev j) := by
  refine wv_ofW (cc := c_NB_findAgreedKey) (maxL := 1) (ret := none) (by decide) rfl (Nat.le_of_ble_eq_true rfl) ?_
  intro p e s m below meth c ls hx hb hr hml hts hown hlocks hini h hl
  have hl : lv_has ls 1 [(0, .ref (ad 0))] := hl
  obtain ⟨g0, g1, g2, g3, g4, g5, g6, ⟨x7, g7⟩, ⟨x8, g8⟩, ⟨x9, g9⟩, ⟨x10, b10, z10, g10⟩, ⟨x11, b11, g11⟩, g12, g13, ⟨x14, g14⟩, ⟨x15, g15⟩, ⟨x16, g16⟩, ⟨x17, g17⟩, g18, g19, ⟨x20, g20⟩, ⟨x21, g21⟩, ⟨x22, g22⟩, ⟨x23, g23⟩, ⟨x24, g24⟩, ⟨x25, g25⟩, ⟨x26, g26⟩, ⟨x27, g27⟩, ⟨x28, g28⟩, ⟨x29, g29⟩, ⟨x30, g30⟩, ⟨x31, g31⟩, ⟨x32, g32⟩, ⟨x33, g33⟩, ⟨x34, b34, g34⟩, g35, ⟨x36, b36, g36⟩, hB, htl, hol⟩ := hNB
  refine lv_aload_n hx hb d_NB_findAgreedKey_0 rfl (lv_at hl 0 rfl) ?_
  refine wv_getf hx hb h 0 (by decide) (fs := [.ref (ad 1), .ref (ad 2), .ref (ad 3), .ref (ad 4), .ref (ad 5), .int (nI (tl)), .int (nI (ol)), .ref (ad 6), .ref (ad 12), .ref (ad 18), .ref (ad 34), .ref (ad 35), .ref (ad 36)]) g0 hts (fun w hw => List.mem_cons_of_mem _ (fW_NB w hw)) hown (ci := 4) (C := "NonceBox") (T := fT_NB) (N := 13) rfl 9 (by decide) (hts _ (List.mem_cons_of_mem _ kf_NB_49)) rfl (v := .ref (ad 18)) rfl d_NB_findAgreedKey_1 ?_
  refine lv_aload_n hx hb d_NB_findAgreedKey_4 rfl (lv_at hl 0 rfl) ?_
  refine wv_getf hx hb h 0 (by decide) (fs := [.ref (ad 1), .ref (ad 2), .ref (ad 3), .ref (ad 4), .ref (ad 5), .int (nI (tl)), .int (nI (ol)), .ref (ad 6), .ref (ad 12), .ref (ad 18), .ref (ad 34), .ref (ad 35), .ref (ad 36)]) g0 hts (fun w hw => List.mem_cons_of_mem _ (fW_NB w hw)) hown (ci := 4) (C := "NonceBox") (T := fT_NB) (N := 13) rfl 0 (by decide) (hts _ (List.mem_cons_of_mem _ kf_NB_9)) rfl (v := .ref (ad 1)) rfl d_NB_findAgreedKey_5 ?_
  refine lv_aload_n hx hb d_NB_findAgreedKey_8 rfl (lv_at hl 0 rfl) ?_
  refine wv_getf hx hb h 0 (by decide) (fs := [.ref (ad 1), .ref (ad 2), .ref (ad 3), .ref (ad 4), .ref (ad 5), .int (nI (tl)), .int (nI (ol)), .ref (ad 6), .ref (ad 12), .ref (ad 18), .ref (ad 34), .ref (ad 35), .ref (ad 36)]) g0 hts (fun w hw => List.mem_cons_of_mem _ (fW_NB w hw)) hown (ci := 4) (C := "NonceBox") (T := fT_NB) (N := 13) rfl 2 (by decide) (hts _ (List.mem_cons_of_mem _ kf_NB_16)) rfl (v := .ref (ad 3)) rfl d_NB_findAgreedKey_9 ?_
  refine lv_aload_n hx hb d_NB_findAgreedKey_12 rfl (lv_at hl 0 rfl) ?_
  refine wv_getf hx hb h 0 (by decide) (fs := [.ref (ad 1), .ref (ad 2), .ref (ad 3), .ref (ad 4), .ref (ad 5), .int (nI (tl)), .int (nI (ol)), .ref (ad 6), .ref (ad 12), .ref (ad 18), .ref (ad 34), .ref (ad 35), .ref (ad 36)]) g0 hts (fun w hw => List.mem_cons_of_mem _ (fW_NB w hw)) hown (ci := 4) (C := "NonceBox") (T := fT_NB) (N := 13) rfl 10 (by decide) (hts _ (List.mem_cons_of_mem _ kf_NB_53)) rfl (v := .ref (ad 34)) rfl d_NB_findAgreedKey_13 ?_
  refine wv_V (As := [.ref (ad 1), .ref (ad 3), .ref (ad 34)]) (rest := []) (k := 3) ⟨hx, hb, hml, hown, hts⟩ h 18 (by decide) (C := "NonceBox$Curve") g18 rfl (m_Cv_multipleInto l G A ad ev 34 32 (Bf 0) (Bf 2) x34 x21 x20 x22 x23 x24 x25 x26 x27 x28 x29 x30 x31 x32 x33 g18 g19 (by decide) g1 g3 g34 (hB 0) (hB 2) (by decide) (by decide) (by decide) g20 g21 g22 g23 g24 g25 g26 g27 g28 g29 g30 g31 g32 g33) kc_Cv_multipleInto kl_NB_92 km_Cv_multipleInto kv_Cv_multipleInto ki_Cv (by decide +kernel) ⟨rfl, rfl, Nat.le_of_ble_eq_true rfl, Nat.le_of_ble_eq_true rfl⟩ hl.1 rfl rfl (Nat.le_of_ble_eq_true rfl) ⟨Nat.le_refl _, Nat.le_refl _⟩ d_NB_findAgreedKey_16 ?_
  intro ov ev1 H locs hp h
  obtain ⟨Wd, s22, s23, s24, s25, s26, s27, s28, s29, s30, s31, s32, s33, hp⟩ := hp
  rw [hp.1]
  refine W.eq (g2 := F0 m 19 ls []) rfl ?_
  have o1 : ev1 = (va_up (va_up (va_up (va_up (va_up (va_up (va_up (va_up (va_up (va_up (va_up (va_up (va_up (va_up (va_up ev 20 (eJ G 20 Wd)) 21 (eB G 32 (bs (KEYB (Bf 0))))) 22 (eJ G 10 s22)) 23 (eJ G 10 s23)) 24 (eJ G 10 s24)) 25 (eJ G 10 s25)) 26 (eJ G 10 s26)) 27 (eJ G 10 s27)) 28 (eJ G 10 s28)) 29 (eJ G 10 s29)) 30 (eJ G 10 s30)) 31 (eJ G 10 s31)) 32 (eJ G 10 s32)) 33 (eJ G 10 s33)) 34 (eB G 32 (bs (fil 0 32 (MULB (Bf 0) (Bf 2)) x34)))) := hp.2
  have t1_20 : ev1 20 = eJ G 20 Wd := by rw [o1, va_up_ne _ _ (by decide), va_up_ne _ _ (by decide), va_up_ne _ _ (by decide), va_up_ne _ _ (by decide), va_up_ne _ _ (by decide), va_up_ne _ _ (by decide), va_up_ne _ _ (by decide), va_up_ne _ _ (by decide), va_up_ne _ _ (by decide), va_up_ne _ _ (by decide), va_up_ne _ _ (by decide), va_up_ne _ _ (by decide), va_up_ne _ _ (by decide), va_up_ne _ _ (by decide), va_up_self]
  have t1_21 : ev1 21 = eB G 32 (bs (KEYB (Bf 0))) := by rw [o1, va_up_ne _ _ (by decide), va_up_ne _ _ (by decide), va_up_ne _ _ (by decide), va_up_ne _ _ (by decide), va_up_ne _ _ (by decide), va_up_ne _ _ (by decide), va_up_ne _ _ (by decide), va_up_ne _ _ (by decide), va_up_ne _ _ (by decide), va_up_ne _ _ (by decide), va_up_ne _ _ (by decide), va_up_ne _ _ (by decide), va_up_ne _ _ (by decide), va_up_self]
  have t1_22 : ev1 22 = eJ G 10 s22 := by rw [o1, va_up_ne _ _ (by decide), va_up_ne _ _ (by decide), va_up_ne _ _ (by decide), va_up_ne _ _ (by decide), va_up_ne _ _ (by decide), va_up_ne _ _ (by decide), va_up_ne _ _ (by decide), va_up_ne _ _ (by decide), va_up_ne _ _ (by decide), va_up_ne _ _ (by decide), va_up_ne _ _ (by decide), va_up_ne _ _ (by decide), va_up_self]
  have t1_23 : ev1 23 = eJ G 10 s23 := by rw [o1, va_up_ne _ _ (by decide), va_up_ne _ _ (by decide), va_up_ne _ _ (by decide), va_up_ne _ _ (by decide), va_up_ne _ _ (by decide), va_up_ne _ _ (by decide), va_up_ne _ _ (by decide), va_up_ne _ _ (by decide), va_up_ne _ _ (by decide), va_up_ne _ _ (by decide), va_up_ne _ _ (by decide), va_up_self]
  have t1_24 : ev1 24 = eJ G 10 s24 := by rw [o1, va_up_ne _ _ (by decide), va_up_ne _ _ (by decide), va_up_ne _ _ (by decide), va_up_ne _ _ (by decide), va_up_ne _ _ (by decide), va_up_ne _ _ (by decide), va_up_ne _ _ (by decide), va_up_ne _ _ (by decide), va_up_ne _ _ (by decide), va_up_ne _ _ (by decide), va_up_self]
  have t1_25 : ev1 25 = eJ G 10 s25 := by rw [o1, va_up_ne _ _ (by decide), va_up_ne _ _ (by decide), va_up_ne _ _ (by decide), va_up_ne _ _ (by decide), va_up_ne _ _ (by decide), va_up_ne _ _ (by decide), va_up_ne _ _ (by decide), va_up_ne _ _ (by decide), va_up_ne _ _ (by decide), va_up_self]
  have t1_26 : ev1 26 = eJ G 10 s26 := by rw [o1, va_up_ne _ _ (by decide), va_up_ne _ _ (by decide), va_up_ne _ _ (by decide), va_up_ne _ _ (by decide), va_up_ne _ _ (by decide), va_up_ne _ _ (by decide), va_up_ne _ _ (by decide), va_up_ne _ _ (by decide), va_up_self]
  have t1_27 : ev1 27 = eJ G 10 s27 := by rw [o1, va_up_ne _ _ (by decide), va_up_ne _ _ (by decide), va_up_ne _ _ (by decide), va_up_ne _ _ (by decide), va_up_ne _ _ (by decide), va_up_ne _ _ (by decide), va_up_ne _ _ (by decide), va_up_self]
  have t1_28 : ev1 28 = eJ G 10 s28 := by rw [o1, va_up_ne _ _ (by decide), va_up_ne _ _ (by decide), va_up_ne _ _ (by decide), va_up_ne _ _ (by decide), va_up_ne _ _ (by decide), va_up_ne _ _ (by decide), va_up_self]
  have t1_29 : ev1 29 = eJ G 10 s29 := by rw [o1, va_up_ne _ _ (by decide), va_up_ne _ _ (by decide), va_up_ne _ _ (by decide), va_up_ne _ _ (by decide), va_up_ne _ _ (by decide), va_up_self]
  have t1_30 : ev1 30 = eJ G 10 s30 := by rw [o1, va_up_ne _ _ (by decide), va_up_ne _ _ (by decide), va_up_ne _ _ (by decide), va_up_ne _ _ (by decide), va_up_self]
  have t1_31 : ev1 31 = eJ G 10 s31 := by rw [o1, va_up_ne _ _ (by decide), va_up_ne _ _ (by decide), va_up_ne _ _ (by decide), va_up_self]
  have t1_32 : ev1 32 = eJ G 10 s32 := by rw [o1, va_up_ne _ _ (by decide), va_up_ne _ _ (by decide), va_up_self]
  have t1_33 : ev1 33 = eJ G 10 s33 := by rw [o1, va_up_ne _ _ (by decide), va_up_self]
  have t1_34 : ev1 34 = eB G 32 (bs (fil 0 32 (MULB (Bf 0) (Bf 2)) x34)) := by rw [o1, va_up_self]
  have t1_1 := (show ev1 1 = ev 1 by rw [o1, va_up_ne _ _ (by decide), va_up_ne _ _ (by decide), va_up_ne _ _ (by decide), va_up_ne _ _ (by decide), va_up_ne _ _ (by decide), va_up_ne _ _ (by decide), va_up_ne _ _ (by decide), va_up_ne _ _ (by decide), va_up_ne _ _ (by decide), va_up_ne _ _ (by decide), va_up_ne _ _ (by decide), va_up_ne _ _ (by decide), va_up_ne _ _ (by decide), va_up_ne _ _ (by decide), va_up_ne _ _ (by decide)]).trans g1
  have t1_2 := (show ev1 2 = ev 2 by rw [o1, va_up_ne _ _ (by decide), va_up_ne _ _ (by decide), va_up_ne _ _ (by decide), va_up_ne _ _ (by decide), va_up_ne _ _ (by decide), va_up_ne _ _ (by decide), va_up_ne _ _ (by decide), va_up_ne _ _ (by decide), va_up_ne _ _ (by decide), va_up_ne _ _ (by decide), va_up_ne _ _ (by decide), va_up_ne _ _ (by decide), va_up_ne _ _ (by decide), va_up_ne _ _ (by decide), va_up_ne _ _ (by decide)]).trans g2
  have t1_3 := (show ev1 3 = ev 3 by rw [o1, va_up_ne _ _ (by decide), va_up_ne _ _ (by decide), va_up_ne _ _ (by decide), va_up_ne _ _ (by decide), va_up_ne _ _ (by decide), va_up_ne _ _ (by decide), va_up_ne _ _ (by decide), va_up_ne _ _ (by decide), va_up_ne _ _ (by decide), va_up_ne _ _ (by decide), va_up_ne _ _ (by decide), va_up_ne _ _ (by decide), va_up_ne _ _ (by decide), va_up_ne _ _ (by decide), va_up_ne _ _ (by decide)]).trans g3
  have t1_4 := (show ev1 4 = ev 4 by rw [o1, va_up_ne _ _ (by decide), va_up_ne _ _ (by decide), va_up_ne _ _ (by decide), va_up_ne _ _ (by decide), va_up_ne _ _ (by decide), va_up_ne _ _ (by decide), va_up_ne _ _ (by decide), va_up_ne _ _ (by decide), va_up_ne _ _ (by decide), va_up_ne _ _ (by decide), va_up_ne _ _ (by decide), va_up_ne _ _ (by decide), va_up_ne _ _ (by decide), va_up_ne _ _ (by decide), va_up_ne _ _ (by decide)]).trans g4
  have t1_5 := (show ev1 5 = ev 5 by rw [o1, va_up_ne _ _ (by decide), va_up_ne _ _ (by decide), va_up_ne _ _ (by decide), va_up_ne _ _ (by decide), va_up_ne _ _ (by decide), va_up_ne _ _ (by decide), va_up_ne _ _ (by decide), va_up_ne _ _ (by decide), va_up_ne _ _ (by decide), va_up_ne _ _ (by decide), va_up_ne _ _ (by decide), va_up_ne _ _ (by decide), va_up_ne _ _ (by decide), va_up_ne _ _ (by decide), va_up_ne _ _ (by decide)]).trans g5
  have t1_35 := (show ev1 35 = ev 35 by rw [o1, va_up_ne _ _ (by decide), va_up_ne _ _ (by decide), va_up_ne _ _ (by decide), va_up_ne _ _ (by decide), va_up_ne _ _ (by decide), va_up_ne _ _ (by decide), va_up_ne _ _ (by decide), va_up_ne _ _ (by decide), va_up_ne _ _ (by decide), va_up_ne _ _ (by decide), va_up_ne _ _ (by decide), va_up_ne _ _ (by decide), va_up_ne _ _ (by decide), va_up_ne _ _ (by decide), va_up_ne _ _ (by decide)]).trans g35
  have t1_7 := (show ev1 7 = ev 7 by rw [o1, va_up_ne _ _ (by decide), va_up_ne _ _ (by decide), va_up_ne _ _ (by decide), va_up_ne _ _ (by decide), va_up_ne _ _ (by decide), va_up_ne _ _ (by decide), va_up_ne _ _ (by decide), va_up_ne _ _ (by decide), va_up_ne _ _ (by decide), va_up_ne _ _ (by decide), va_up_ne _ _ (by decide), va_up_ne _ _ (by decide), va_up_ne _ _ (by decide), va_up_ne _ _ (by decide), va_up_ne _ _ (by decide)]).trans g7
  have t1_8 := (show ev1 8 = ev 8 by rw [o1, va_up_ne _ _ (by decide), va_up_ne _ _ (by decide), va_up_ne _ _ (by decide), va_up_ne _ _ (by decide), va_up_ne _ _ (by decide), va_up_ne _ _ (by decide), va_up_ne _ _ (by decide), va_up_ne _ _ (by decide), va_up_ne _ _ (by decide), va_up_ne _ _ (by decide), va_up_ne _ _ (by decide), va_up_ne _ _ (by decide), va_up_ne _ _ (by decide), va_up_ne _ _ (by decide), va_up_ne _ _ (by decide)]).trans g8
  have t1_9 := (show ev1 9 = ev 9 by rw [o1, va_up_ne _ _ (by decide), va_up_ne _ _ (by decide), va_up_ne _ _ (by decide), va_up_ne _ _ (by decide), va_up_ne _ _ (by decide), va_up_ne _ _ (by decide), va_up_ne _ _ (by decide), va_up_ne _ _ (by decide), va_up_ne _ _ (by decide), va_up_ne _ _ (by decide), va_up_ne _ _ (by decide), va_up_ne _ _ (by decide), va_up_ne _ _ (by decide), va_up_ne _ _ (by decide), va_up_ne _ _ (by decide)]).trans g9
  have t1_10 := (show ev1 10 = ev 10 by rw [o1, va_up_ne _ _ (by decide), va_up_ne _ _ (by decide), va_up_ne _ _ (by decide), va_up_ne _ _ (by decide), va_up_ne _ _ (by decide), va_up_ne _ _ (by decide), va_up_ne _ _ (by decide), va_up_ne _ _ (by decide), va_up_ne _ _ (by decide), va_up_ne _ _ (by decide), va_up_ne _ _ (by decide), va_up_ne _ _ (by decide), va_up_ne _ _ (by decide), va_up_ne _ _ (by decide), va_up_ne _ _ (by decide)]).trans g10
  have t1_11 := (show ev1 11 = ev 11 by rw [o1, va_up_ne _ _ (by decide), va_up_ne _ _ (by decide), va_up_ne _ _ (by decide), va_up_ne _ _ (by decide), va_up_ne _ _ (by decide), va_up_ne _ _ (by decide), va_up_ne _ _ (by decide), va_up_ne _ _ (by decide), va_up_ne _ _ (by decide), va_up_ne _ _ (by decide), va_up_ne _ _ (by decide), va_up_ne _ _ (by decide), va_up_ne _ _ (by decide), va_up_ne _ _ (by decide), va_up_ne _ _ (by decide)]).trans g11
  have t1_14 := (show ev1 14 = ev 14 by rw [o1, va_up_ne _ _ (by decide), va_up_ne _ _ (by decide), va_up_ne _ _ (by decide), va_up_ne _ _ (by decide), va_up_ne _ _ (by decide), va_up_ne _ _ (by decide), va_up_ne _ _ (by decide), va_up_ne _ _ (by decide), va_up_ne _ _ (by decide), va_up_ne _ _ (by decide), va_up_ne _ _ (by decide), va_up_ne _ _ (by decide), va_up_ne _ _ (by decide), va_up_ne _ _ (by decide), va_up_ne _ _ (by decide)]).trans g14
  have t1_15 := (show ev1 15 = ev 15 by rw [o1, va_up_ne _ _ (by decide), va_up_ne _ _ (by decide), va_up_ne _ _ (by decide), va_up_ne _ _ (by decide), va_up_ne _ _ (by decide), va_up_ne _ _ (by decide), va_up_ne _ _ (by decide), va_up_ne _ _ (by decide), va_up_ne _ _ (by decide), va_up_ne _ _ (by decide), va_up_ne _ _ (by decide), va_up_ne _ _ (by decide), va_up_ne _ _ (by decide), va_up_ne _ _ (by decide), va_up_ne _ _ (by decide)]).trans g15
  have t1_16 := (show ev1 16 = ev 16 by rw [o1, va_up_ne _ _ (by decide), va_up_ne _ _ (by decide), va_up_ne _ _ (by decide), va_up_ne _ _ (by decide), va_up_ne _ _ (by decide), va_up_ne _ _ (by decide), va_up_ne _ _ (by decide), va_up_ne _ _ (by decide), va_up_ne _ _ (by decide), va_up_ne _ _ (by decide), va_up_ne _ _ (by decide), va_up_ne _ _ (by decide), va_up_ne _ _ (by decide), va_up_ne _ _ (by decide), va_up_ne _ _ (by decide)]).trans g16
  have t1_17 := (show ev1 17 = ev 17 by rw [o1, va_up_ne _ _ (by decide), va_up_ne _ _ (by decide), va_up_ne _ _ (by decide), va_up_ne _ _ (by decide), va_up_ne _ _ (by decide), va_up_ne _ _ (by decide), va_up_ne _ _ (by decide), va_up_ne _ _ (by decide), va_up_ne _ _ (by decide), va_up_ne _ _ (by decide), va_up_ne _ _ (by decide), va_up_ne _ _ (by decide), va_up_ne _ _ (by decide), va_up_ne _ _ (by decide), va_up_ne _ _ (by decide)]).trans g17
  have t1_36 := (show ev1 36 = ev 36 by rw [o1, va_up_ne _ _ (by decide), va_up_ne _ _ (by decide), va_up_ne _ _ (by decide), va_up_ne _ _ (by decide), va_up_ne _ _ (by decide), va_up_ne _ _ (by decide), va_up_ne _ _ (by decide), va_up_ne _ _ (by decide), va_up_ne _ _ (by decide), va_up_ne _ _ (by decide), va_up_ne _ _ (by decide), va_up_ne _ _ (by decide), va_up_ne _ _ (by decide), va_up_ne _ _ (by decide), va_up_ne _ _ (by decide)]).trans g36
  have t1_0 := (show ev1 0 = ev 0 by rw [o1, va_up_ne _ _ (by decide), va_up_ne _ _ (by decide), va_up_ne _ _ (by decide), va_up_ne _ _ (by decide), va_up_ne _ _ (by decide), va_up_ne _ _ (by decide), va_up_ne _ _ (by decide), va_up_ne _ _ (by decide), va_up_ne _ _ (by decide), va_up_ne _ _ (by decide), va_up_ne _ _ (by decide), va_up_ne _ _ (by decide), va_up_ne _ _ (by decide), va_up_ne _ _ (by decide), va_up_ne _ _ (by decide)]).trans g0
  have t1_6 := (show ev1 6 = ev 6 by rw [o1, va_up_ne _ _ (by decide), va_up_ne _ _ (by decide), va_up_ne _ _ (by decide), va_up_ne _ _ (by decide), va_up_ne _ _ (by decide), va_up_ne _ _ (by decide), va_up_ne _ _ (by decide), va_up_ne _ _ (by decide), va_up_ne _ _ (by decide), va_up_ne _ _ (by decide), va_up_ne _ _ (by decide), va_up_ne _ _ (by decide), va_up_ne _ _ (by decide), va_up_ne _ _ (by decide), va_up_ne _ _ (by decide)]).trans g6
  have t1_12 := (show ev1 12 = ev 12 by rw [o1, va_up_ne _ _ (by decide), va_up_ne _ _ (by decide), va_up_ne _ _ (by decide), va_up_ne _ _ (by decide), va_up_ne _ _ (by decide), va_up_ne _ _ (by decide), va_up_ne _ _ (by decide), va_up_ne _ _ (by decide), va_up_ne _ _ (by decide), va_up_ne _ _ (by decide), va_up_ne _ _ (by decide), va_up_ne _ _ (by decide), va_up_ne _ _ (by decide), va_up_ne _ _ (by decide), va_up_ne _ _ (by decide)]).trans g12
  have t1_13 := (show ev1 13 = ev 13 by rw [o1, va_up_ne _ _ (by decide), va_up_ne _ _ (by decide), va_up_ne _ _ (by decide), va_up_ne _ _ (by decide), va_up_ne _ _ (by decide), va_up_ne _ _ (by decide), va_up_ne _ _ (by decide), va_up_ne _ _ (by decide), va_up_ne _ _ (by decide), va_up_ne _ _ (by decide), va_up_ne _ _ (by decide), va_up_ne _ _ (by decide), va_up_ne _ _ (by decide), va_up_ne _ _ (by decide), va_up_ne _ _ (by decide)]).trans g13
  have t1_18 := (show ev1 18 = ev 18 by rw [o1, va_up_ne _ _ (by decide), va_up_ne _ _ (by decide), va_up_ne _ _ (by decide), va_up_ne _ _ (by decide), va_up_ne _ _ (by decide), va_up_ne _ _ (by decide), va_up_ne _ _ (by decide), va_up_ne _ _ (by decide), va_up_ne _ _ (by decide), va_up_ne _ _ (by decide), va_up_ne _ _ (by decide), va_up_ne _ _ (by decide), va_up_ne _ _ (by decide), va_up_ne _ _ (by decide), va_up_ne _ _ (by decide)]).trans g18
  have t1_19 := (show ev1 19 = ev 19 by rw [o1, va_up_ne _ _ (by decide), va_up_ne _ _ (by decide), va_up_ne _ _ (by decide), va_up_ne _ _ (by decide), va_up_ne _ _ (by decide), va_up_ne _ _ (by decide), va_up_ne _ _ (by decide), va_up_ne _ _ (by decide), va_up_ne _ _ (by decide), va_up_ne _ _ (by decide), va_up_ne _ _ (by decide), va_up_ne _ _ (by decide), va_up_ne _ _ (by decide), va_up_ne _ _ (by decide), va_up_ne _ _ (by decide)]).trans g19
  have h := wT_eqB (g := (bs (MULM (Bf 0) (Bf 2)))) h 34 (by decide) t1_34 (fun j hj => by unfold bs fil; rw [if_pos (by omega), Nat.sub_zero, MULB_eq (hB 2) j hj])
  obtain ⟨ev2, o2⟩ : ∃ z, z = va_up ev1 34 (eB G 32 (bs (MULM (Bf 0) (Bf 2)))) := ⟨_, rfl⟩
  rw [← o2] at h
  have t2_34 : ev2 34 = eB G 32 (bs (MULM (Bf 0) (Bf 2))) := by rw [o2, va_up_self]
  have t2_1 := (show ev2 1 = ev1 1 by rw [o2, va_up_ne _ _ (by decide)]).trans t1_1
  have t2_2 := (show ev2 2 = ev1 2 by rw [o2, va_up_ne _ _ (by decide)]).trans t1_2
  have t2_3 := (show ev2 3 = ev1 3 by rw [o2, va_up_ne _ _ (by decide)]).trans t1_3
  have t2_4 := (show ev2 4 = ev1 4 by rw [o2, va_up_ne _ _ (by decide)]).trans t1_4
  have t2_5 := (show ev2 5 = ev1 5 by rw [o2, va_up_ne _ _ (by decide)]).trans t1_5
  have t2_35 := (show ev2 35 = ev1 35 by rw [o2, va_up_ne _ _ (by decide)]).trans t1_35
  have t2_7 := (show ev2 7 = ev1 7 by rw [o2, va_up_ne _ _ (by decide)]).trans t1_7
  have t2_8 := (show ev2 8 = ev1 8 by rw [o2, va_up_ne _ _ (by decide)]).trans t1_8
  have t2_9 := (show ev2 9 = ev1 9 by rw [o2, va_up_ne _ _ (by decide)]).trans t1_9
  have t2_10 := (show ev2 10 = ev1 10 by rw [o2, va_up_ne _ _ (by decide)]).trans t1_10
  have t2_11 := (show ev2 11 = ev1 11 by rw [o2, va_up_ne _ _ (by decide)]).trans t1_11
  have t2_14 := (show ev2 14 = ev1 14 by rw [o2, va_up_ne _ _ (by decide)]).trans t1_14
  have t2_15 := (show ev2 15 = ev1 15 by rw [o2, va_up_ne _ _ (by decide)]).trans t1_15
  have t2_16 := (show ev2 16 = ev1 16 by rw [o2, va_up_ne _ _ (by decide)]).trans t1_16
  have t2_17 := (show ev2 17 = ev1 17 by rw [o2, va_up_ne _ _ (by decide)]).trans t1_17
  have t2_20 := (show ev2 20 = ev1 20 by rw [o2, va_up_ne _ _ (by decide)]).trans t1_20
  have t2_21 := (show ev2 21 = ev1 21 by rw [o2, va_up_ne _ _ (by decide)]).trans t1_21
  have t2_36 := (show ev2 36 = ev1 36 by rw [o2, va_up_ne _ _ (by decide)]).trans t1_36
  have t2_22 := (show ev2 22 = ev1 22 by rw [o2, va_up_ne _ _ (by decide)]).trans t1_22
  have t2_23 := (show ev2 23 = ev1 23 by rw [o2, va_up_ne _ _ (by decide)]).trans t1_23
  have t2_24 := (show ev2 24 = ev1 24 by rw [o2, va_up_ne _ _ (by decide)]).trans t1_24
  have t2_25 := (show ev2 25 = ev1 25 by rw [o2, va_up_ne _ _ (by decide)]).trans t1_25
  have t2_26 := (show ev2 26 = ev1 26 by rw [o2, va_up_ne _ _ (by decide)]).trans t1_26
  have t2_27 := (show ev2 27 = ev1 27 by rw [o2, va_up_ne _ _ (by decide)]).trans t1_27
  have t2_28 := (show ev2 28 = ev1 28 by rw [o2, va_up_ne _ _ (by decide)]).trans t1_28
  have t2_29 := (show ev2 29 = ev1 29 by rw [o2, va_up_ne _ _ (by decide)]).trans t1_29
  have t2_30 := (show ev2 30 = ev1 30 by rw [o2, va_up_ne _ _ (by decide)]).trans t1_30
  have t2_31 := (show ev2 31 = ev1 31 by rw [o2, va_up_ne _ _ (by decide)]).trans t1_31
  have t2_32 := (show ev2 32 = ev1 32 by rw [o2, va_up_ne _ _ (by decide)]).trans t1_32
  have t2_33 := (show ev2 33 = ev1 33 by rw [o2, va_up_ne _ _ (by decide)]).trans t1_33
  have t2_0 := (show ev2 0 = ev1 0 by rw [o2, va_up_ne _ _ (by decide)]).trans t1_0
  have t2_6 := (show ev2 6 = ev1 6 by rw [o2, va_up_ne _ _ (by decide)]).trans t1_6
  have t2_12 := (show ev2 12 = ev1 12 by rw [o2, va_up_ne _ _ (by decide)]).trans t1_12
  have t2_13 := (show ev2 13 = ev1 13 by rw [o2, va_up_ne _ _ (by decide)]).trans t1_13
  have t2_18 := (show ev2 18 = ev1 18 by rw [o2, va_up_ne _ _ (by decide)]).trans t1_18
  have t2_19 := (show ev2 19 = ev1 19 by rw [o2, va_up_ne _ _ (by decide)]).trans t1_19
  refine lv_aload_n hx hb d_NB_findAgreedKey_19 rfl (lv_at hl 0 rfl) ?_
  refine wv_getf hx hb h 0 (by decide) (fs := [.ref (ad 1), .ref (ad 2), .ref (ad 3), .ref (ad 4), .ref (ad 5), .int (nI (tl)), .int (nI (ol)), .ref (ad 6), .ref (ad 12), .ref (ad 18), .ref (ad 34), .ref (ad 35), .ref (ad 36)]) t2_0 hts (fun w hw => List.mem_cons_of_mem _ (fW_NB w hw)) hown (ci := 4) (C := "NonceBox") (T := fT_NB) (N := 13) rfl 7 (by decide) (hts _ (List.mem_cons_of_mem _ kf_NB_35)) rfl (v := .ref (ad 6)) rfl d_NB_findAgreedKey_20 ?_
  refine lv_aload_n hx hb d_NB_findAgreedKey_23 rfl (lv_at hl 0 rfl) ?_
  refine wv_getf hx hb h 0 (by decide) (fs := [.ref (ad 1), .ref (ad 2), .ref (ad 3), .ref (ad 4), .ref (ad 5), .int (nI (tl)), .int (nI (ol)), .ref (ad 6), .ref (ad 12), .ref (ad 18), .ref (ad 34), .ref (ad 35), .ref (ad 36)]) t2_0 hts (fun w hw => List.mem_cons_of_mem _ (fW_NB w hw)) hown (ci := 4) (C := "NonceBox") (T := fT_NB) (N := 13) rfl 10 (by decide) (hts _ (List.mem_cons_of_mem _ kf_NB_53)) rfl (v := .ref (ad 34)) rfl d_NB_findAgreedKey_24 ?_
  refine lv_aload_n hx hb d_NB_findAgreedKey_27 rfl (lv_at hl 0 rfl) ?_
  refine wv_getf hx hb h 0 (by decide) (fs := [.ref (ad 1), .ref (ad 2), .ref (ad 3), .ref (ad 4), .ref (ad 5), .int (nI (tl)), .int (nI (ol)), .ref (ad 6), .ref (ad 12), .ref (ad 18), .ref (ad 34), .ref (ad 35), .ref (ad 36)]) t2_0 hts (fun w hw => List.mem_cons_of_mem _ (fW_NB w hw)) hown (ci := 4) (C := "NonceBox") (T := fT_NB) (N := 13) rfl 11 (by decide) (hts _ (List.mem_cons_of_mem _ kf_NB_56)) rfl (v := .ref (ad 35)) rfl d_NB_findAgreedKey_28 ?_
  refine lv_aload_n hx hb d_NB_findAgreedKey_31 rfl (lv_at hl 0 rfl) ?_
  refine wv_getf hx hb h 0 (by decide) (fs := [.ref (ad 1), .ref (ad 2), .ref (ad 3), .ref (ad 4), .ref (ad 5), .int (nI (tl)), .int (nI (ol)), .ref (ad 6), .ref (ad 12), .ref (ad 18), .ref (ad 34), .ref (ad 35), .ref (ad 36)]) t2_0 hts (fun w hw => List.mem_cons_of_mem _ (fW_NB w hw)) hown (ci := 4) (C := "NonceBox") (T := fT_NB) (N := 13) rfl 10 (by decide) (hts _ (List.mem_cons_of_mem _ kf_NB_53)) rfl (v := .ref (ad 34)) rfl d_NB_findAgreedKey_32 ?_
  refine wv_V (As := [.ref (ad 34), .ref (ad 35), .ref (ad 34)]) (rest := []) (k := 3) ⟨hx, hb, hml, hown, hts⟩ h 6 (by decide) (C := "NonceBox$Mixer") t2_6 rfl (m_Mx_mixInto l G A ad ev2 34 35 34 32 16 32 (MULM (Bf 0) (Bf 2)) (fun _ => 0) (MULM (Bf 0) (Bf 2)) x7 x8 (by decide) (by decide) (by decide) t2_6 t2_7 t2_8 t2_34 t2_35 t2_34 (by decide) (by decide) (by decide) (by decide) (by decide) (MULM_lt _ _) (fun _ => by decide) (by decide) (by decide) (by decide) (by decide) (by decide) (by decide)) kc_Mx_mixInto kl_NB_76 km_Mx_mixInto kv_Mx_mixInto ki_Mx (by decide +kernel) ⟨rfl, rfl, Nat.le_of_ble_eq_true rfl, Nat.le_of_ble_eq_true rfl⟩ hl.1 rfl rfl (Nat.le_of_ble_eq_true rfl) ⟨Nat.le_refl _, Nat.le_refl _⟩ d_NB_findAgreedKey_35 ?_
  intro ov ev3 H locs hp h
  rw [hp.1]
  refine W.eq (g2 := F0 m 38 ls []) rfl ?_
  have o3 : ev3 = (va_up (va_up (va_up ev2 7 (eI G 16 (LAY (MULM (Bf 0) (Bf 2)) (fun _ => 0)))) 8 (eI G 16 (RND (MULM (Bf 0) (Bf 2)) (fun _ => 0)))) 34 (eB G 32 (bs (fil 0 32 (AGRB (Bf 0) (Bf 2)) (MULM (Bf 0) (Bf 2)))))) := hp.2
  have t3_7 : ev3 7 = eI G 16 (LAY (MULM (Bf 0) (Bf 2)) (fun _ => 0)) := by rw [o3, va_up_ne _ _ (by decide), va_up_ne _ _ (by decide), va_up_self]
  have t3_8 : ev3 8 = eI G 16 (RND (MULM (Bf 0) (Bf 2)) (fun _ => 0)) := by rw [o3, va_up_ne _ _ (by decide), va_up_self]
  have t3_34 : ev3 34 = eB G 32 (bs (fil 0 32 (AGRB (Bf 0) (Bf 2)) (MULM (Bf 0) (Bf 2)))) := by rw [o3, va_up_self]
  have t3_1 := (show ev3 1 = ev2 1 by rw [o3, va_up_ne _ _ (by decide), va_up_ne _ _ (by decide), va_up_ne _ _ (by decide)]).trans t2_1
  have t3_2 := (show ev3 2 = ev2 2 by rw [o3, va_up_ne _ _ (by decide), va_up_ne _ _ (by decide), va_up_ne _ _ (by decide)]).trans t2_2
  have t3_3 := (show ev3 3 = ev2 3 by rw [o3, va_up_ne _ _ (by decide), va_up_ne _ _ (by decide), va_up_ne _ _ (by decide)]).trans t2_3
  have t3_4 := (show ev3 4 = ev2 4 by rw [o3, va_up_ne _ _ (by decide), va_up_ne _ _ (by decide), va_up_ne _ _ (by decide)]).trans t2_4
  have t3_5 := (show ev3 5 = ev2 5 by rw [o3, va_up_ne _ _ (by decide), va_up_ne _ _ (by decide), va_up_ne _ _ (by decide)]).trans t2_5
  have t3_35 := (show ev3 35 = ev2 35 by rw [o3, va_up_ne _ _ (by decide), va_up_ne _ _ (by decide), va_up_ne _ _ (by decide)]).trans t2_35
  have t3_9 := (show ev3 9 = ev2 9 by rw [o3, va_up_ne _ _ (by decide), va_up_ne _ _ (by decide), va_up_ne _ _ (by decide)]).trans t2_9
  have t3_10 := (show ev3 10 = ev2 10 by rw [o3, va_up_ne _ _ (by decide), va_up_ne _ _ (by decide), va_up_ne _ _ (by decide)]).trans t2_10
  have t3_11 := (show ev3 11 = ev2 11 by rw [o3, va_up_ne _ _ (by decide), va_up_ne _ _ (by decide), va_up_ne _ _ (by decide)]).trans t2_11
  have t3_14 := (show ev3 14 = ev2 14 by rw [o3, va_up_ne _ _ (by decide), va_up_ne _ _ (by decide), va_up_ne _ _ (by decide)]).trans t2_14
  have t3_15 := (show ev3 15 = ev2 15 by rw [o3, va_up_ne _ _ (by decide), va_up_ne _ _ (by decide), va_up_ne _ _ (by decide)]).trans t2_15
  have t3_16 := (show ev3 16 = ev2 16 by rw [o3, va_up_ne _ _ (by decide), va_up_ne _ _ (by decide), va_up_ne _ _ (by decide)]).trans t2_16
  have t3_17 := (show ev3 17 = ev2 17 by rw [o3, va_up_ne _ _ (by decide), va_up_ne _ _ (by decide), va_up_ne _ _ (by decide)]).trans t2_17
  have t3_20 := (show ev3 20 = ev2 20 by rw [o3, va_up_ne _ _ (by decide), va_up_ne _ _ (by decide), va_up_ne _ _ (by decide)]).trans t2_20
  have t3_21 := (show ev3 21 = ev2 21 by rw [o3, va_up_ne _ _ (by decide), va_up_ne _ _ (by decide), va_up_ne _ _ (by decide)]).trans t2_21
  have t3_36 := (show ev3 36 = ev2 36 by rw [o3, va_up_ne _ _ (by decide), va_up_ne _ _ (by decide), va_up_ne _ _ (by decide)]).trans t2_36
  have t3_22 := (show ev3 22 = ev2 22 by rw [o3, va_up_ne _ _ (by decide), va_up_ne _ _ (by decide), va_up_ne _ _ (by decide)]).trans t2_22
  have t3_23 := (show ev3 23 = ev2 23 by rw [o3, va_up_ne _ _ (by decide), va_up_ne _ _ (by decide), va_up_ne _ _ (by decide)]).trans t2_23
  have t3_24 := (show ev3 24 = ev2 24 by rw [o3, va_up_ne _ _ (by decide), va_up_ne _ _ (by decide), va_up_ne _ _ (by decide)]).trans t2_24
  have t3_25 := (show ev3 25 = ev2 25 by rw [o3, va_up_ne _ _ (by decide), va_up_ne _ _ (by decide), va_up_ne _ _ (by decide)]).trans t2_25
  have t3_26 := (show ev3 26 = ev2 26 by rw [o3, va_up_ne _ _ (by decide), va_up_ne _ _ (by decide), va_up_ne _ _ (by decide)]).trans t2_26
  have t3_27 := (show ev3 27 = ev2 27 by rw [o3, va_up_ne _ _ (by decide), va_up_ne _ _ (by decide), va_up_ne _ _ (by decide)]).trans t2_27
  have t3_28 := (show ev3 28 = ev2 28 by rw [o3, va_up_ne _ _ (by decide), va_up_ne _ _ (by decide), va_up_ne _ _ (by decide)]).trans t2_28
  have t3_29 := (show ev3 29 = ev2 29 by rw [o3, va_up_ne _ _ (by decide), va_up_ne _ _ (by decide), va_up_ne _ _ (by decide)]).trans t2_29
  have t3_30 := (show ev3 30 = ev2 30 by rw [o3, va_up_ne _ _ (by decide), va_up_ne _ _ (by decide), va_up_ne _ _ (by decide)]).trans t2_30
  have t3_31 := (show ev3 31 = ev2 31 by rw [o3, va_up_ne _ _ (by decide), va_up_ne _ _ (by decide), va_up_ne _ _ (by decide)]).trans t2_31
  have t3_32 := (show ev3 32 = ev2 32 by rw [o3, va_up_ne _ _ (by decide), va_up_ne _ _ (by decide), va_up_ne _ _ (by decide)]).trans t2_32
  have t3_33 := (show ev3 33 = ev2 33 by rw [o3, va_up_ne _ _ (by decide), va_up_ne _ _ (by decide), va_up_ne _ _ (by decide)]).trans t2_33
  have t3_0 := (show ev3 0 = ev2 0 by rw [o3, va_up_ne _ _ (by decide), va_up_ne _ _ (by decide), va_up_ne _ _ (by decide)]).trans t2_0
  have t3_6 := (show ev3 6 = ev2 6 by rw [o3, va_up_ne _ _ (by decide), va_up_ne _ _ (by decide), va_up_ne _ _ (by decide)]).trans t2_6
  have t3_12 := (show ev3 12 = ev2 12 by rw [o3, va_up_ne _ _ (by decide), va_up_ne _ _ (by decide), va_up_ne _ _ (by decide)]).trans t2_12
  have t3_13 := (show ev3 13 = ev2 13 by rw [o3, va_up_ne _ _ (by decide), va_up_ne _ _ (by decide), va_up_ne _ _ (by decide)]).trans t2_13
  have t3_18 := (show ev3 18 = ev2 18 by rw [o3, va_up_ne _ _ (by decide), va_up_ne _ _ (by decide), va_up_ne _ _ (by decide)]).trans t2_18
  have t3_19 := (show ev3 19 = ev2 19 by rw [o3, va_up_ne _ _ (by decide), va_up_ne _ _ (by decide), va_up_ne _ _ (by decide)]).trans t2_19
  have h := wT_eqB (g := (bs (AGRB (Bf 0) (Bf 2)))) h 34 (by decide) t3_34 (fun j hj => by unfold bs fil; rw [if_pos (by omega), Nat.sub_zero])
  obtain ⟨ev4, o4⟩ : ∃ z, z = va_up ev3 34 (eB G 32 (bs (AGRB (Bf 0) (Bf 2)))) := ⟨_, rfl⟩
  rw [← o4] at h
  have t4_34 : ev4 34 = eB G 32 (bs (AGRB (Bf 0) (Bf 2))) := by rw [o4, va_up_self]
  have t4_1 := (show ev4 1 = ev3 1 by rw [o4, va_up_ne _ _ (by decide)]).trans t3_1
  have t4_2 := (show ev4 2 = ev3 2 by rw [o4, va_up_ne _ _ (by decide)]).trans t3_2
  have t4_3 := (show ev4 3 = ev3 3 by rw [o4, va_up_ne _ _ (by decide)]).trans t3_3
  have t4_4 := (show ev4 4 = ev3 4 by rw [o4, va_up_ne _ _ (by decide)]).trans t3_4
  have t4_5 := (show ev4 5 = ev3 5 by rw [o4, va_up_ne _ _ (by decide)]).trans t3_5
  have t4_35 := (show ev4 35 = ev3 35 by rw [o4, va_up_ne _ _ (by decide)]).trans t3_35
  have t4_7 := (show ev4 7 = ev3 7 by rw [o4, va_up_ne _ _ (by decide)]).trans t3_7
  have t4_8 := (show ev4 8 = ev3 8 by rw [o4, va_up_ne _ _ (by decide)]).trans t3_8
  have t4_9 := (show ev4 9 = ev3 9 by rw [o4, va_up_ne _ _ (by decide)]).trans t3_9
  have t4_10 := (show ev4 10 = ev3 10 by rw [o4, va_up_ne _ _ (by decide)]).trans t3_10
  have t4_11 := (show ev4 11 = ev3 11 by rw [o4, va_up_ne _ _ (by decide)]).trans t3_11
  have t4_14 := (show ev4 14 = ev3 14 by rw [o4, va_up_ne _ _ (by decide)]).trans t3_14
  have t4_15 := (show ev4 15 = ev3 15 by rw [o4, va_up_ne _ _ (by decide)]).trans t3_15
  have t4_16 := (show ev4 16 = ev3 16 by rw [o4, va_up_ne _ _ (by decide)]).trans t3_16
  have t4_17 := (show ev4 17 = ev3 17 by rw [o4, va_up_ne _ _ (by decide)]).trans t3_17
  have t4_20 := (show ev4 20 = ev3 20 by rw [o4, va_up_ne _ _ (by decide)]).trans t3_20
  have t4_21 := (show ev4 21 = ev3 21 by rw [o4, va_up_ne _ _ (by decide)]).trans t3_21
  have t4_36 := (show ev4 36 = ev3 36 by rw [o4, va_up_ne _ _ (by decide)]).trans t3_36
  have t4_22 := (show ev4 22 = ev3 22 by rw [o4, va_up_ne _ _ (by decide)]).trans t3_22
  have t4_23 := (show ev4 23 = ev3 23 by rw [o4, va_up_ne _ _ (by decide)]).trans t3_23
  have t4_24 := (show ev4 24 = ev3 24 by rw [o4, va_up_ne _ _ (by decide)]).trans t3_24
  have t4_25 := (show ev4 25 = ev3 25 by rw [o4, va_up_ne _ _ (by decide)]).trans t3_25
  have t4_26 := (show ev4 26 = ev3 26 by rw [o4, va_up_ne _ _ (by decide)]).trans t3_26
  have t4_27 := (show ev4 27 = ev3 27 by rw [o4, va_up_ne _ _ (by decide)]).trans t3_27
  have t4_28 := (show ev4 28 = ev3 28 by rw [o4, va_up_ne _ _ (by decide)]).trans t3_28
  have t4_29 := (show ev4 29 = ev3 29 by rw [o4, va_up_ne _ _ (by decide)]).trans t3_29
  have t4_30 := (show ev4 30 = ev3 30 by rw [o4, va_up_ne _ _ (by decide)]).trans t3_30
  have t4_31 := (show ev4 31 = ev3 31 by rw [o4, va_up_ne _ _ (by decide)]).trans t3_31
  have t4_32 := (show ev4 32 = ev3 32 by rw [o4, va_up_ne _ _ (by decide)]).trans t3_32
  have t4_33 := (show ev4 33 = ev3 33 by rw [o4, va_up_ne _ _ (by decide)]).trans t3_33
  have t4_0 := (show ev4 0 = ev3 0 by rw [o4, va_up_ne _ _ (by decide)]).trans t3_0
  have t4_6 := (show ev4 6 = ev3 6 by rw [o4, va_up_ne _ _ (by decide)]).trans t3_6
  have t4_12 := (show ev4 12 = ev3 12 by rw [o4, va_up_ne _ _ (by decide)]).trans t3_12
  have t4_13 := (show ev4 13 = ev3 13 by rw [o4, va_up_ne _ _ (by decide)]).trans t3_13
  have t4_18 := (show ev4 18 = ev3 18 by rw [o4, va_up_ne _ _ (by decide)]).trans t3_18
  have t4_19 := (show ev4 19 = ev3 19 by rw [o4, va_up_ne _ _ (by decide)]).trans t3_19
  exact wv_vret hx hb hr hlocks h d_NB_findAgreedKey_38 ⟨rfl, ⟨t4_0, t4_1, t4_2, t4_3, t4_4, t4_5, t4_6, ⟨_, t4_7⟩, ⟨_, t4_8⟩, ⟨_, t4_9⟩, ⟨_, b10, z10, t4_10⟩, ⟨_, b11, t4_11⟩, t4_12, t4_13, ⟨_, t4_14⟩, ⟨_, t4_15⟩, ⟨_, t4_16⟩, ⟨_, t4_17⟩, t4_18, t4_19, ⟨_, t4_20⟩, ⟨_, t4_21⟩, ⟨_, t4_22⟩, ⟨_, t4_23⟩, ⟨_, t4_24⟩, ⟨_, t4_25⟩, ⟨_, t4_26⟩, ⟨_, t4_27⟩, ⟨_, t4_28⟩, ⟨_, t4_29⟩, ⟨_, t4_30⟩, ⟨_, t4_31⟩, ⟨_, t4_32⟩, ⟨_, t4_33⟩, ⟨_, (AGRB_lt _ _), t4_34⟩, t4_35, ⟨_, b36, t4_36⟩, hB, htl, hol⟩, t4_34, (fun j hj => by rw [o4, va_up_ne _ _ (by omega), o3, va_up_ne _ _ (by omega), va_up_ne _ _ (by omega), va_up_ne _ _ (by omega), o2, va_up_ne _ _ (by omega), o1, va_up_ne _ _ (by omega), va_up_ne _ _ (by omega), va_up_ne _ _ (by omega), va_up_ne _ _ (by omega), va_up_ne _ _ (by omega), va_up_ne _ _ (by omega), va_up_ne _ _ (by omega), va_up_ne _ _ (by omega), va_up_ne _ _ (by omega), va_up_ne _ _ (by omega), va_up_ne _ _ (by omega), va_up_ne _ _ (by omega), va_up_ne _ _ (by omega), va_up_ne _ _ (by omega), va_up_ne _ _ (by omega)])⟩
theorem d_NB_agree_0 : decode c_NB_agree 0 = .ok (.aload_n 0, 1) := by decide +kernel
theorem d_NB_agree_1 : decode c_NB_agree 1 = .ok (.invokevirtual 95, 3) := by decide +kernel
theorem d_NB_agree_4 : decode c_NB_agree 4 = .ok (.aload_n 0, 1) := by decide +kernel
theorem d_NB_agree_5 : decode c_NB_agree 5 = .ok (.getfield 53, 3) := by decide +kernel
theorem d_NB_agree_8 : decode c_NB_agree 8 = .ok (.iconst 0, 1) := by decide +kernel
theorem d_NB_agree_9 : decode c_NB_agree 9 = .ok (.aload_n 0, 1) := by decide +kernel
theorem d_NB_agree_10 : decode c_NB_agree 10 = .ok (.getfield 59, 3) := by decide +kernel
theorem d_NB_agree_13 : decode c_NB_agree 13 = .ok (.iconst 0, 1) := by decide +kernel
theorem d_NB_agree_14 : decode c_NB_agree 14 = .ok (.bipush 32, 2) := by decide +kernel
theorem d_NB_agree_16 : decode c_NB_agree 16 = .ok (.invokestatic 70, 3) := by decide +kernel
theorem d_NB_agree_19 : decode c_NB_agree 19 = .ok (.aload_n 0, 1) := by decide +kernel
theorem d_NB_agree_20 : decode c_NB_agree 20 = .ok (.bipush 32, 2) := by decide +kernel
theorem d_NB_agree_22 : decode c_NB_agree 22 = .ok (.invokevirtual 80, 3) := by decide +kernel
theorem d_NB_agree_25 : decode c_NB_agree 25 = .ok (.return_, 1) := by decide +kernel
set_option maxRecDepth 100000 in
set_option maxHeartbeats 4000000 in
/-- agree -/
theorem m_NB_agree (l : Launch) (G : wG) (A : Nat → Prop) (ad : Nat → Nat) (ev : Nat → va_E) (Bf : Nat → Nat → Nat) (tl ol : Nat) (hNB : NB G ad ev Bf tl ol) : wM l y_NB_agree w_NB_agree ({ frames := 27, cells := 0, slots := 0, locals := 900 }) G A 52 ad ev [.ref (ad 0)] (fun ov ev' => ov = none ∧ NB G ad ev' (va_up Bf 4 (outF 32 (AGRB (Bf 0) (Bf 2)))) tl 32 ∧ ∀ j, 37 ≤ j → ev' j = ev j) := by
  refine wv_ofW (cc := c_NB_agree) (maxL := 1) (ret := none) (by decide) rfl (Nat.le_of_ble_eq_true rfl) ?_
  intro p e s m below meth c ls hx hb hr hml hts hown hlocks hini h hl
  have hl : lv_has ls 1 [(0, .ref (ad 0))] := hl
  have hNB0 := hNB
  obtain ⟨g0, g1, g2, g3, g4, g5, g6, ⟨x7, g7⟩, ⟨x8, g8⟩, ⟨x9, g9⟩, ⟨x10, b10, z10, g10⟩, ⟨x11, b11, g11⟩, g12, g13, ⟨x14, g14⟩, ⟨x15, g15⟩, ⟨x16, g16⟩, ⟨x17, g17⟩, g18, g19, ⟨x20, g20⟩, ⟨x21, g21⟩, ⟨x22, g22⟩, ⟨x23, g23⟩, ⟨x24, g24⟩, ⟨x25, g25⟩, ⟨x26, g26⟩, ⟨x27, g27⟩, ⟨x28, g28⟩, ⟨x29, g29⟩, ⟨x30, g30⟩, ⟨x31, g31⟩, ⟨x32, g32⟩, ⟨x33, g33⟩, ⟨x34, b34, g34⟩, g35, ⟨x36, b36, g36⟩, hB, htl, hol⟩ := hNB
  refine lv_aload_n hx hb d_NB_agree_0 rfl (lv_at hl 0 rfl) ?_
  refine wv_V (As := []) (rest := []) (k := 0) ⟨hx, hb, hml, hown, hts⟩ h 0 (by decide) (C := "NonceBox") g0 rfl (m_NB_findAgreedKey l G A ad ev Bf tl ol hNB0) kc_NB_findAgreedKey kl_NB_95 km_NB_findAgreedKey kv_NB_findAgreedKey ki_NB (by decide +kernel) ⟨rfl, rfl, Nat.le_of_ble_eq_true rfl, Nat.le_of_ble_eq_true rfl⟩ hl.1 rfl rfl (Nat.le_of_ble_eq_true rfl) ⟨Nat.le_refl _, Nat.le_refl _⟩ d_NB_agree_1 ?_
  intro ov ev' H locs hp h
  obtain ⟨e1, hNB, e34, efr⟩ := hp
  rw [e1]
  refine W.eq (g2 := F0 m 4 ls []) rfl ?_
  clear hNB0 g0 g1 g2 g3 g4 g5 g6 g7 g8 g9 g10 g11 g12 g13 g14 g15 g16 g17 g18 g19 g20 g21 g22 g23 g24 g25 g26 g27 g28 g29 g30 g31 g32 g33 g34 g35 g36
  obtain ⟨g0, g1, g2, g3, g4, g5, g6, ⟨x7, g7⟩, ⟨x8, g8⟩, ⟨x9, g9⟩, ⟨x10, b10, z10, g10⟩, ⟨x11, b11, g11⟩, g12, g13, ⟨x14, g14⟩, ⟨x15, g15⟩, ⟨x16, g16⟩, ⟨x17, g17⟩, g18, g19, ⟨x20, g20⟩, ⟨x21, g21⟩, ⟨x22, g22⟩, ⟨x23, g23⟩, ⟨x24, g24⟩, ⟨x25, g25⟩, ⟨x26, g26⟩, ⟨x27, g27⟩, ⟨x28, g28⟩, ⟨x29, g29⟩, ⟨x30, g30⟩, ⟨x31, g31⟩, ⟨x32, g32⟩, ⟨x33, g33⟩, ⟨x34, b34, g34⟩, g35, ⟨x36, b36, g36⟩, hB, htl, hol⟩ := hNB
  refine lv_aload_n hx hb d_NB_agree_4 rfl (lv_at hl 0 rfl) ?_
  refine wv_getf hx hb h 0 (by decide) (fs := [.ref (ad 1), .ref (ad 2), .ref (ad 3), .ref (ad 4), .ref (ad 5), .int (nI (tl)), .int (nI (ol)), .ref (ad 6), .ref (ad 12), .ref (ad 18), .ref (ad 34), .ref (ad 35), .ref (ad 36)]) g0 hts (fun w hw => List.mem_cons_of_mem _ (fW_NB w hw)) hown (ci := 4) (C := "NonceBox") (T := fT_NB) (N := 13) rfl 10 (by decide) (hts _ (List.mem_cons_of_mem _ kf_NB_53)) rfl (v := .ref (ad 34)) rfl d_NB_agree_5 ?_
  refine lv_iconst (v := nI (0)) hx hb d_NB_agree_8 (by decide) ?_
  refine lv_aload_n hx hb d_NB_agree_9 rfl (lv_at hl 0 rfl) ?_
  refine wv_getf hx hb h 0 (by decide) (fs := [.ref (ad 1), .ref (ad 2), .ref (ad 3), .ref (ad 4), .ref (ad 5), .int (nI (tl)), .int (nI (ol)), .ref (ad 6), .ref (ad 12), .ref (ad 18), .ref (ad 34), .ref (ad 35), .ref (ad 36)]) g0 hts (fun w hw => List.mem_cons_of_mem _ (fW_NB w hw)) hown (ci := 4) (C := "NonceBox") (T := fT_NB) (N := 13) rfl 12 (by decide) (hts _ (List.mem_cons_of_mem _ kf_NB_59)) rfl (v := .ref (ad 36)) rfl d_NB_agree_10 ?_
  refine lv_iconst (v := nI (0)) hx hb d_NB_agree_13 (by decide) ?_
  refine lv_bipush (v := nI (32)) hx hb d_NB_agree_14 (by decide) ?_
  refine wv_copyb hx hb (hml.trans hl.1.symm) h hown (hts _ (List.mem_cons_of_mem _ kl_NB_70)) (hts _ (List.mem_cons_of_mem _ kn_Sy_arraycopy)) (hts _ (List.mem_cons_of_mem _ ks_Sy_arraycopy)) (hts _ (List.mem_cons_of_mem _ ki_Sy)) 34 36 (by decide) (by decide) (f := (bs (AGRB (Bf 0) (Bf 2)))) (g := (bs x36)) e34 g36 (a := 0) (b := 0) (d := 32) rfl rfl rfl (by omega) (by omega) (by decide) (by decide) (fun i _ => bs_fit _ _) (by decide) (by decide) d_NB_agree_16 (fun H locs h => ?_)
  obtain ⟨ev1, o1⟩ : ∃ z, z = va_up ev' 36 (eB G 112 (va_cpy (bs (AGRB (Bf 0) (Bf 2))) (bs x36) 0 0 32)) := ⟨_, rfl⟩
  rw [← o1] at h
  have t1_36 : ev1 36 = eB G 112 (va_cpy (bs (AGRB (Bf 0) (Bf 2))) (bs x36) 0 0 32) := by rw [o1, va_up_self]
  have t1_1 := (show ev1 1 = ev' 1 by rw [o1, va_up_ne _ _ (by decide)]).trans g1
  have t1_2 := (show ev1 2 = ev' 2 by rw [o1, va_up_ne _ _ (by decide)]).trans g2
  have t1_3 := (show ev1 3 = ev' 3 by rw [o1, va_up_ne _ _ (by decide)]).trans g3
  have t1_4 := (show ev1 4 = ev' 4 by rw [o1, va_up_ne _ _ (by decide)]).trans g4
  have t1_5 := (show ev1 5 = ev' 5 by rw [o1, va_up_ne _ _ (by decide)]).trans g5
  have t1_35 := (show ev1 35 = ev' 35 by rw [o1, va_up_ne _ _ (by decide)]).trans g35
  have t1_7 := (show ev1 7 = ev' 7 by rw [o1, va_up_ne _ _ (by decide)]).trans g7
  have t1_8 := (show ev1 8 = ev' 8 by rw [o1, va_up_ne _ _ (by decide)]).trans g8
  have t1_9 := (show ev1 9 = ev' 9 by rw [o1, va_up_ne _ _ (by decide)]).trans g9
  have t1_10 := (show ev1 10 = ev' 10 by rw [o1, va_up_ne _ _ (by decide)]).trans g10
  have t1_11 := (show ev1 11 = ev' 11 by rw [o1, va_up_ne _ _ (by decide)]).trans g11
  have t1_14 := (show ev1 14 = ev' 14 by rw [o1, va_up_ne _ _ (by decide)]).trans g14
  have t1_15 := (show ev1 15 = ev' 15 by rw [o1, va_up_ne _ _ (by decide)]).trans g15
  have t1_16 := (show ev1 16 = ev' 16 by rw [o1, va_up_ne _ _ (by decide)]).trans g16
  have t1_17 := (show ev1 17 = ev' 17 by rw [o1, va_up_ne _ _ (by decide)]).trans g17
  have t1_20 := (show ev1 20 = ev' 20 by rw [o1, va_up_ne _ _ (by decide)]).trans g20
  have t1_21 := (show ev1 21 = ev' 21 by rw [o1, va_up_ne _ _ (by decide)]).trans g21
  have t1_34 := (show ev1 34 = ev' 34 by rw [o1, va_up_ne _ _ (by decide)]).trans e34
  have t1_22 := (show ev1 22 = ev' 22 by rw [o1, va_up_ne _ _ (by decide)]).trans g22
  have t1_23 := (show ev1 23 = ev' 23 by rw [o1, va_up_ne _ _ (by decide)]).trans g23
  have t1_24 := (show ev1 24 = ev' 24 by rw [o1, va_up_ne _ _ (by decide)]).trans g24
  have t1_25 := (show ev1 25 = ev' 25 by rw [o1, va_up_ne _ _ (by decide)]).trans g25
  have t1_26 := (show ev1 26 = ev' 26 by rw [o1, va_up_ne _ _ (by decide)]).trans g26
  have t1_27 := (show ev1 27 = ev' 27 by rw [o1, va_up_ne _ _ (by decide)]).trans g27
  have t1_28 := (show ev1 28 = ev' 28 by rw [o1, va_up_ne _ _ (by decide)]).trans g28
  have t1_29 := (show ev1 29 = ev' 29 by rw [o1, va_up_ne _ _ (by decide)]).trans g29
  have t1_30 := (show ev1 30 = ev' 30 by rw [o1, va_up_ne _ _ (by decide)]).trans g30
  have t1_31 := (show ev1 31 = ev' 31 by rw [o1, va_up_ne _ _ (by decide)]).trans g31
  have t1_32 := (show ev1 32 = ev' 32 by rw [o1, va_up_ne _ _ (by decide)]).trans g32
  have t1_33 := (show ev1 33 = ev' 33 by rw [o1, va_up_ne _ _ (by decide)]).trans g33
  have t1_0 := (show ev1 0 = ev' 0 by rw [o1, va_up_ne _ _ (by decide)]).trans g0
  have t1_6 := (show ev1 6 = ev' 6 by rw [o1, va_up_ne _ _ (by decide)]).trans g6
  have t1_12 := (show ev1 12 = ev' 12 by rw [o1, va_up_ne _ _ (by decide)]).trans g12
  have t1_13 := (show ev1 13 = ev' 13 by rw [o1, va_up_ne _ _ (by decide)]).trans g13
  have t1_18 := (show ev1 18 = ev' 18 by rw [o1, va_up_ne _ _ (by decide)]).trans g18
  have t1_19 := (show ev1 19 = ev' 19 by rw [o1, va_up_ne _ _ (by decide)]).trans g19
  have h := wT_eqB (g := (bs (fil 0 32 (AGRB (Bf 0) (Bf 2)) x36))) h 36 (by decide) t1_36 (fun j hj => by
      unfold va_cpy bs fil
      by_cases c : j < 32
      · rw [if_pos (by omega), if_pos (by omega), Nat.zero_add]
      · rw [if_neg (by omega), if_neg (by omega)])
  obtain ⟨ev2, o2⟩ : ∃ z, z = va_up ev1 36 (eB G 112 (bs (fil 0 32 (AGRB (Bf 0) (Bf 2)) x36))) := ⟨_, rfl⟩
  rw [← o2] at h
  have t2_36 : ev2 36 = eB G 112 (bs (fil 0 32 (AGRB (Bf 0) (Bf 2)) x36)) := by rw [o2, va_up_self]
  have t2_1 := (show ev2 1 = ev1 1 by rw [o2, va_up_ne _ _ (by decide)]).trans t1_1
  have t2_2 := (show ev2 2 = ev1 2 by rw [o2, va_up_ne _ _ (by decide)]).trans t1_2
  have t2_3 := (show ev2 3 = ev1 3 by rw [o2, va_up_ne _ _ (by decide)]).trans t1_3
  have t2_4 := (show ev2 4 = ev1 4 by rw [o2, va_up_ne _ _ (by decide)]).trans t1_4
  have t2_5 := (show ev2 5 = ev1 5 by rw [o2, va_up_ne _ _ (by decide)]).trans t1_5
  have t2_35 := (show ev2 35 = ev1 35 by rw [o2, va_up_ne _ _ (by decide)]).trans t1_35
  have t2_7 := (show ev2 7 = ev1 7 by rw [o2, va_up_ne _ _ (by decide)]).trans t1_7
  have t2_8 := (show ev2 8 = ev1 8 by rw [o2, va_up_ne _ _ (by decide)]).trans t1_8
  have t2_9 := (show ev2 9 = ev1 9 by rw [o2, va_up_ne _ _ (by decide)]).trans t1_9
  have t2_10 := (show ev2 10 = ev1 10 by rw [o2, va_up_ne _ _ (by decide)]).trans t1_10
  have t2_11 := (show ev2 11 = ev1 11 by rw [o2, va_up_ne _ _ (by decide)]).trans t1_11
  have t2_14 := (show ev2 14 = ev1 14 by rw [o2, va_up_ne _ _ (by decide)]).trans t1_14
  have t2_15 := (show ev2 15 = ev1 15 by rw [o2, va_up_ne _ _ (by decide)]).trans t1_15
  have t2_16 := (show ev2 16 = ev1 16 by rw [o2, va_up_ne _ _ (by decide)]).trans t1_16
  have t2_17 := (show ev2 17 = ev1 17 by rw [o2, va_up_ne _ _ (by decide)]).trans t1_17
  have t2_20 := (show ev2 20 = ev1 20 by rw [o2, va_up_ne _ _ (by decide)]).trans t1_20
  have t2_21 := (show ev2 21 = ev1 21 by rw [o2, va_up_ne _ _ (by decide)]).trans t1_21
  have t2_34 := (show ev2 34 = ev1 34 by rw [o2, va_up_ne _ _ (by decide)]).trans t1_34
  have t2_22 := (show ev2 22 = ev1 22 by rw [o2, va_up_ne _ _ (by decide)]).trans t1_22
  have t2_23 := (show ev2 23 = ev1 23 by rw [o2, va_up_ne _ _ (by decide)]).trans t1_23
  have t2_24 := (show ev2 24 = ev1 24 by rw [o2, va_up_ne _ _ (by decide)]).trans t1_24
  have t2_25 := (show ev2 25 = ev1 25 by rw [o2, va_up_ne _ _ (by decide)]).trans t1_25
  have t2_26 := (show ev2 26 = ev1 26 by rw [o2, va_up_ne _ _ (by decide)]).trans t1_26
  have t2_27 := (show ev2 27 = ev1 27 by rw [o2, va_up_ne _ _ (by decide)]).trans t1_27
  have t2_28 := (show ev2 28 = ev1 28 by rw [o2, va_up_ne _ _ (by decide)]).trans t1_28
  have t2_29 := (show ev2 29 = ev1 29 by rw [o2, va_up_ne _ _ (by decide)]).trans t1_29
  have t2_30 := (show ev2 30 = ev1 30 by rw [o2, va_up_ne _ _ (by decide)]).trans t1_30
  have t2_31 := (show ev2 31 = ev1 31 by rw [o2, va_up_ne _ _ (by decide)]).trans t1_31
  have t2_32 := (show ev2 32 = ev1 32 by rw [o2, va_up_ne _ _ (by decide)]).trans t1_32
  have t2_33 := (show ev2 33 = ev1 33 by rw [o2, va_up_ne _ _ (by decide)]).trans t1_33
  have t2_0 := (show ev2 0 = ev1 0 by rw [o2, va_up_ne _ _ (by decide)]).trans t1_0
  have t2_6 := (show ev2 6 = ev1 6 by rw [o2, va_up_ne _ _ (by decide)]).trans t1_6
  have t2_12 := (show ev2 12 = ev1 12 by rw [o2, va_up_ne _ _ (by decide)]).trans t1_12
  have t2_13 := (show ev2 13 = ev1 13 by rw [o2, va_up_ne _ _ (by decide)]).trans t1_13
  have t2_18 := (show ev2 18 = ev1 18 by rw [o2, va_up_ne _ _ (by decide)]).trans t1_18
  have t2_19 := (show ev2 19 = ev1 19 by rw [o2, va_up_ne _ _ (by decide)]).trans t1_19
  refine lv_aload_n hx hb d_NB_agree_19 rfl (lv_at hl 0 rfl) ?_
  refine lv_bipush (v := nI (32)) hx hb d_NB_agree_20 (by decide) ?_
  refine wv_V (As := [.int (nI (32))]) (rest := []) (k := 1) ⟨hx, hb, hml, hown, hts⟩ h 0 (by decide) (C := "NonceBox") t2_0 rfl (m_NB_showWork l G A ad ev2 tl ol 32 (Bf 4) (fil 0 32 (AGRB (Bf 0) (Bf 2)) x36) t2_0 t2_5 t2_36 (by decide)) kc_NB_showWork kl_NB_80 km_NB_showWork kv_NB_showWork ki_NB (by decide +kernel) ⟨rfl, rfl, Nat.le_of_ble_eq_true rfl, Nat.le_of_ble_eq_true rfl⟩ hl.1 rfl rfl (Nat.le_of_ble_eq_true rfl) ⟨Nat.le_refl _, Nat.le_refl _⟩ d_NB_agree_22 ?_
  intro ov ev3 H locs hp h
  rw [hp.1]
  refine W.eq (g2 := F0 m 25 ls []) rfl ?_
  have o3 : ev3 = va_up (va_up ev2 5 (eB G 112 (bs (outF 32 (fil 0 32 (AGRB (Bf 0) (Bf 2)) x36))))) 0 (eO 4 [.ref (ad 1), .ref (ad 2), .ref (ad 3), .ref (ad 4), .ref (ad 5), .int (nI tl), .int (nI 32), .ref (ad 6), .ref (ad 12), .ref (ad 18), .ref (ad 34), .ref (ad 35), .ref (ad 36)]) := hp.2
  have t3_5 : ev3 5 = eB G 112 (bs (outF 32 (fil 0 32 (AGRB (Bf 0) (Bf 2)) x36))) := by rw [o3, va_up_ne _ _ (by decide), va_up_self]
  have t3_0 : ev3 0 = eO 4 [.ref (ad 1), .ref (ad 2), .ref (ad 3), .ref (ad 4), .ref (ad 5), .int (nI tl), .int (nI 32), .ref (ad 6), .ref (ad 12), .ref (ad 18), .ref (ad 34), .ref (ad 35), .ref (ad 36)] := by rw [o3, va_up_self]
  have t3_1 := (show ev3 1 = ev2 1 by rw [o3, va_up_ne _ _ (by decide), va_up_ne _ _ (by decide)]).trans t2_1
  have t3_2 := (show ev3 2 = ev2 2 by rw [o3, va_up_ne _ _ (by decide), va_up_ne _ _ (by decide)]).trans t2_2
  have t3_3 := (show ev3 3 = ev2 3 by rw [o3, va_up_ne _ _ (by decide), va_up_ne _ _ (by decide)]).trans t2_3
  have t3_4 := (show ev3 4 = ev2 4 by rw [o3, va_up_ne _ _ (by decide), va_up_ne _ _ (by decide)]).trans t2_4
  have t3_35 := (show ev3 35 = ev2 35 by rw [o3, va_up_ne _ _ (by decide), va_up_ne _ _ (by decide)]).trans t2_35
  have t3_7 := (show ev3 7 = ev2 7 by rw [o3, va_up_ne _ _ (by decide), va_up_ne _ _ (by decide)]).trans t2_7
  have t3_8 := (show ev3 8 = ev2 8 by rw [o3, va_up_ne _ _ (by decide), va_up_ne _ _ (by decide)]).trans t2_8
  have t3_9 := (show ev3 9 = ev2 9 by rw [o3, va_up_ne _ _ (by decide), va_up_ne _ _ (by decide)]).trans t2_9
  have t3_10 := (show ev3 10 = ev2 10 by rw [o3, va_up_ne _ _ (by decide), va_up_ne _ _ (by decide)]).trans t2_10
  have t3_11 := (show ev3 11 = ev2 11 by rw [o3, va_up_ne _ _ (by decide), va_up_ne _ _ (by decide)]).trans t2_11
  have t3_14 := (show ev3 14 = ev2 14 by rw [o3, va_up_ne _ _ (by decide), va_up_ne _ _ (by decide)]).trans t2_14
  have t3_15 := (show ev3 15 = ev2 15 by rw [o3, va_up_ne _ _ (by decide), va_up_ne _ _ (by decide)]).trans t2_15
  have t3_16 := (show ev3 16 = ev2 16 by rw [o3, va_up_ne _ _ (by decide), va_up_ne _ _ (by decide)]).trans t2_16
  have t3_17 := (show ev3 17 = ev2 17 by rw [o3, va_up_ne _ _ (by decide), va_up_ne _ _ (by decide)]).trans t2_17
  have t3_20 := (show ev3 20 = ev2 20 by rw [o3, va_up_ne _ _ (by decide), va_up_ne _ _ (by decide)]).trans t2_20
  have t3_21 := (show ev3 21 = ev2 21 by rw [o3, va_up_ne _ _ (by decide), va_up_ne _ _ (by decide)]).trans t2_21
  have t3_34 := (show ev3 34 = ev2 34 by rw [o3, va_up_ne _ _ (by decide), va_up_ne _ _ (by decide)]).trans t2_34
  have t3_36 := (show ev3 36 = ev2 36 by rw [o3, va_up_ne _ _ (by decide), va_up_ne _ _ (by decide)]).trans t2_36
  have t3_22 := (show ev3 22 = ev2 22 by rw [o3, va_up_ne _ _ (by decide), va_up_ne _ _ (by decide)]).trans t2_22
  have t3_23 := (show ev3 23 = ev2 23 by rw [o3, va_up_ne _ _ (by decide), va_up_ne _ _ (by decide)]).trans t2_23
  have t3_24 := (show ev3 24 = ev2 24 by rw [o3, va_up_ne _ _ (by decide), va_up_ne _ _ (by decide)]).trans t2_24
  have t3_25 := (show ev3 25 = ev2 25 by rw [o3, va_up_ne _ _ (by decide), va_up_ne _ _ (by decide)]).trans t2_25
  have t3_26 := (show ev3 26 = ev2 26 by rw [o3, va_up_ne _ _ (by decide), va_up_ne _ _ (by decide)]).trans t2_26
  have t3_27 := (show ev3 27 = ev2 27 by rw [o3, va_up_ne _ _ (by decide), va_up_ne _ _ (by decide)]).trans t2_27
  have t3_28 := (show ev3 28 = ev2 28 by rw [o3, va_up_ne _ _ (by decide), va_up_ne _ _ (by decide)]).trans t2_28
  have t3_29 := (show ev3 29 = ev2 29 by rw [o3, va_up_ne _ _ (by decide), va_up_ne _ _ (by decide)]).trans t2_29
  have t3_30 := (show ev3 30 = ev2 30 by rw [o3, va_up_ne _ _ (by decide), va_up_ne _ _ (by decide)]).trans t2_30
  have t3_31 := (show ev3 31 = ev2 31 by rw [o3, va_up_ne _ _ (by decide), va_up_ne _ _ (by decide)]).trans t2_31
  have t3_32 := (show ev3 32 = ev2 32 by rw [o3, va_up_ne _ _ (by decide), va_up_ne _ _ (by decide)]).trans t2_32
  have t3_33 := (show ev3 33 = ev2 33 by rw [o3, va_up_ne _ _ (by decide), va_up_ne _ _ (by decide)]).trans t2_33
  have t3_6 := (show ev3 6 = ev2 6 by rw [o3, va_up_ne _ _ (by decide), va_up_ne _ _ (by decide)]).trans t2_6
  have t3_12 := (show ev3 12 = ev2 12 by rw [o3, va_up_ne _ _ (by decide), va_up_ne _ _ (by decide)]).trans t2_12
  have t3_13 := (show ev3 13 = ev2 13 by rw [o3, va_up_ne _ _ (by decide), va_up_ne _ _ (by decide)]).trans t2_13
  have t3_18 := (show ev3 18 = ev2 18 by rw [o3, va_up_ne _ _ (by decide), va_up_ne _ _ (by decide)]).trans t2_18
  have t3_19 := (show ev3 19 = ev2 19 by rw [o3, va_up_ne _ _ (by decide), va_up_ne _ _ (by decide)]).trans t2_19
  have eo : outF 32 (fil 0 32 (AGRB (Bf 0) (Bf 2)) x36) = outF 32 (AGRB (Bf 0) (Bf 2)) := (outF_congr (fun j hj => by unfold fil; rw [if_pos (by omega), Nat.sub_zero]))
  rw [eo] at t3_5
  exact wv_vret hx hb hr hlocks h d_NB_agree_25 ⟨rfl, ⟨t3_0, t3_1, t3_2, t3_3, t3_4, t3_5, t3_6, ⟨_, t3_7⟩, ⟨_, t3_8⟩, ⟨_, t3_9⟩, ⟨_, b10, z10, t3_10⟩, ⟨_, b11, t3_11⟩, t3_12, t3_13, ⟨_, t3_14⟩, ⟨_, t3_15⟩, ⟨_, t3_16⟩, ⟨_, t3_17⟩, t3_18, t3_19, ⟨_, t3_20⟩, ⟨_, t3_21⟩, ⟨_, t3_22⟩, ⟨_, t3_23⟩, ⟨_, t3_24⟩, ⟨_, t3_25⟩, ⟨_, t3_26⟩, ⟨_, t3_27⟩, ⟨_, t3_28⟩, ⟨_, t3_29⟩, ⟨_, t3_30⟩, ⟨_, t3_31⟩, ⟨_, t3_32⟩, ⟨_, t3_33⟩, ⟨_, (AGRB_lt _ _), t3_34⟩, t3_35, ⟨_, (fil_lt (AGRB_lt _ _) b36), t3_36⟩, Bf_lt hB (outF_lt (AGRB_lt _ _)) 4, htl, (by decide)⟩, fun j hj => ((show ∀ j, 37 ≤ j → ev3 j = ev' j from fun j hj => by rw [o3, va_up_ne _ _ (by omega), va_up_ne _ _ (by omega), o2, va_up_ne _ _ (by omega), o1, va_up_ne _ _ (by omega)]) j hj).trans (efr j hj)⟩
