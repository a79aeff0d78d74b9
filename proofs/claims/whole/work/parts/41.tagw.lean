theorem jmin_eq {a b : Nat} (ha : a < 2 ^ 31) (hb : b < 2 ^ 31) : (if nI b < nI a then nI b else nI a) = nI (min a b) := by
  by_cases h : b < a
  · rw [if_pos ((nI_ltI hb ha).mpr h), Nat.min_eq_right (by omega)]
  · rw [if_neg (fun q => h ((nI_ltI hb ha).mp q)), Nat.min_eq_left (by omega)]
theorem d_Tg_readFactor_0 : decode c_Tg_readFactor 0 = .ok (.aload_n 1, 1) := by decide +kernel
theorem d_Tg_readFactor_1 : decode c_Tg_readFactor 1 = .ok (.iconst 0, 1) := by decide +kernel
theorem d_Tg_readFactor_2 : decode c_Tg_readFactor 2 = .ok (.aload_n 0, 1) := by decide +kernel
theorem d_Tg_readFactor_3 : decode c_Tg_readFactor 3 = .ok (.getfield 33, 3) := by decide +kernel
theorem d_Tg_readFactor_6 : decode c_Tg_readFactor 6 = .ok (.iconst 0, 1) := by decide +kernel
theorem d_Tg_readFactor_7 : decode c_Tg_readFactor 7 = .ok (.bipush 16, 2) := by decide +kernel
theorem d_Tg_readFactor_9 : decode c_Tg_readFactor 9 = .ok (.invokestatic 67, 3) := by decide +kernel
theorem d_Tg_readFactor_12 : decode c_Tg_readFactor 12 = .ok (.iconst 3, 1) := by decide +kernel
theorem d_Tg_readFactor_13 : decode c_Tg_readFactor 13 = .ok (.istore_n 2, 1) := by decide +kernel
theorem d_Tg_readFactor_14 : decode c_Tg_readFactor 14 = .ok (.iload_n 2, 1) := by decide +kernel
theorem d_Tg_readFactor_15 : decode c_Tg_readFactor 15 = .ok (.bipush 16, 2) := by decide +kernel
theorem d_Tg_readFactor_17 : decode c_Tg_readFactor 17 = .ok (.if_icmp .ge 21, 3) := by decide +kernel
theorem d_Tg_readFactor_20 : decode c_Tg_readFactor 20 = .ok (.aload_n 0, 1) := by decide +kernel
theorem d_Tg_readFactor_21 : decode c_Tg_readFactor 21 = .ok (.getfield 33, 3) := by decide +kernel
theorem d_Tg_readFactor_24 : decode c_Tg_readFactor 24 = .ok (.iload_n 2, 1) := by decide +kernel
theorem d_Tg_readFactor_25 : decode c_Tg_readFactor 25 = .ok (.dup2, 1) := by decide +kernel
theorem d_Tg_readFactor_26 : decode c_Tg_readFactor 26 = .ok (.baload, 1) := by decide +kernel
theorem d_Tg_readFactor_27 : decode c_Tg_readFactor 27 = .ok (.bipush 15, 2) := by decide +kernel
theorem d_Tg_readFactor_29 : decode c_Tg_readFactor 29 = .ok (.iand, 1) := by decide +kernel
theorem d_Tg_readFactor_30 : decode c_Tg_readFactor 30 = .ok (.i2b, 1) := by decide +kernel
theorem d_Tg_readFactor_31 : decode c_Tg_readFactor 31 = .ok (.bastore, 1) := by decide +kernel
theorem d_Tg_readFactor_32 : decode c_Tg_readFactor 32 = .ok (.iinc 2 4, 3) := by decide +kernel
theorem d_Tg_readFactor_35 : decode c_Tg_readFactor 35 = .ok (.goto (-21), 3) := by decide +kernel
theorem d_Tg_readFactor_38 : decode c_Tg_readFactor 38 = .ok (.iconst 4, 1) := by decide +kernel
theorem d_Tg_readFactor_39 : decode c_Tg_readFactor 39 = .ok (.istore_n 2, 1) := by decide +kernel
theorem d_Tg_readFactor_40 : decode c_Tg_readFactor 40 = .ok (.iload_n 2, 1) := by decide +kernel
theorem d_Tg_readFactor_41 : decode c_Tg_readFactor 41 = .ok (.bipush 16, 2) := by decide +kernel
theorem d_Tg_readFactor_43 : decode c_Tg_readFactor 43 = .ok (.if_icmp .ge 22, 3) := by decide +kernel
theorem d_Tg_readFactor_46 : decode c_Tg_readFactor 46 = .ok (.aload_n 0, 1) := by decide +kernel
theorem d_Tg_readFactor_47 : decode c_Tg_readFactor 47 = .ok (.getfield 33, 3) := by decide +kernel
theorem d_Tg_readFactor_50 : decode c_Tg_readFactor 50 = .ok (.iload_n 2, 1) := by decide +kernel
theorem d_Tg_readFactor_51 : decode c_Tg_readFactor 51 = .ok (.dup2, 1) := by decide +kernel
theorem d_Tg_readFactor_52 : decode c_Tg_readFactor 52 = .ok (.baload, 1) := by decide +kernel
theorem d_Tg_readFactor_53 : decode c_Tg_readFactor 53 = .ok (.sipush 252, 3) := by decide +kernel
theorem d_Tg_readFactor_56 : decode c_Tg_readFactor 56 = .ok (.iand, 1) := by decide +kernel
theorem d_Tg_readFactor_57 : decode c_Tg_readFactor 57 = .ok (.i2b, 1) := by decide +kernel
theorem d_Tg_readFactor_58 : decode c_Tg_readFactor 58 = .ok (.bastore, 1) := by decide +kernel
theorem d_Tg_readFactor_59 : decode c_Tg_readFactor 59 = .ok (.iinc 2 4, 3) := by decide +kernel
theorem d_Tg_readFactor_62 : decode c_Tg_readFactor 62 = .ok (.goto (-22), 3) := by decide +kernel
theorem d_Tg_readFactor_65 : decode c_Tg_readFactor 65 = .ok (.aload_n 0, 1) := by decide +kernel
theorem d_Tg_readFactor_66 : decode c_Tg_readFactor 66 = .ok (.getfield 16, 3) := by decide +kernel
theorem d_Tg_readFactor_69 : decode c_Tg_readFactor 69 = .ok (.aload_n 0, 1) := by decide +kernel
theorem d_Tg_readFactor_70 : decode c_Tg_readFactor 70 = .ok (.getfield 30, 3) := by decide +kernel
theorem d_Tg_readFactor_73 : decode c_Tg_readFactor 73 = .ok (.iconst 0, 1) := by decide +kernel
theorem d_Tg_readFactor_74 : decode c_Tg_readFactor 74 = .ok (.invokevirtual 41, 3) := by decide +kernel
theorem d_Tg_readFactor_77 : decode c_Tg_readFactor 77 = .ok (.aload_n 0, 1) := by decide +kernel
theorem d_Tg_readFactor_78 : decode c_Tg_readFactor 78 = .ok (.getfield 16, 3) := by decide +kernel
theorem d_Tg_readFactor_81 : decode c_Tg_readFactor 81 = .ok (.aload_n 0, 1) := by decide +kernel
theorem d_Tg_readFactor_82 : decode c_Tg_readFactor 82 = .ok (.getfield 33, 3) := by decide +kernel
theorem d_Tg_readFactor_85 : decode c_Tg_readFactor 85 = .ok (.iconst 0, 1) := by decide +kernel
theorem d_Tg_readFactor_86 : decode c_Tg_readFactor 86 = .ok (.bipush 16, 2) := by decide +kernel
theorem d_Tg_readFactor_88 : decode c_Tg_readFactor 88 = .ok (.aload_n 0, 1) := by decide +kernel
theorem d_Tg_readFactor_89 : decode c_Tg_readFactor 89 = .ok (.getfield 30, 3) := by decide +kernel
theorem d_Tg_readFactor_92 : decode c_Tg_readFactor 92 = .ok (.invokevirtual 59, 3) := by decide +kernel
theorem d_Tg_readFactor_95 : decode c_Tg_readFactor 95 = .ok (.return_, 1) := by decide +kernel
set_option maxRecDepth 100000 in
set_option maxHeartbeats 4000000 in
/-- r, out of the key -/
theorem m_Tg_readFactor (l : Launch) (G : wG) (A : Nat → Prop) (ad : Nat → Nat) (ev : Nat → va_E) (qk Nk : Nat) (K BY : Nat → Nat) (r16 : Row) (h12 : ev 12 = eO 3 [.ref (ad 13), .ref (ad 15), .ref (ad 16), .ref (ad 17)]) (h13 : ev 13 = eO 1 [.int (nI 5), .int (nI 26), .long 5, .long 5, .ref (ad 14)]) (hqk : qk < 52) (hk : ev qk = eB G Nk (bs K)) (hK : ∀ j, K j < 256) (h16 : ev 16 = eJ G 5 r16) (h17 : ev 17 = eB G 16 (bs BY)) (nk : 16 ≤ Nk) (nk2 : Nk < 2 ^ 30) (k17 : qk ≠ 17) : wM l y_Tg_readFactor w_Tg_readFactor ({ frames := 9, cells := 0, slots := 0, locals := 300 }) G A 52 ad ev [.ref (ad 12), .ref (ad qk)] (fun ov ev' => ov = none ∧ ev' = va_up (va_up ev 17 (eB G 16 (bs (FCT K)))) 16 (eJ G 5 (fRow K))) := by
  refine wv_ofW (cc := c_Tg_readFactor) (maxL := 3) (ret := none) (by decide) rfl (Nat.le_of_ble_eq_true rfl) ?_
  intro p e s m below meth c ls hx hb hr hml hts hown hlocks hini h hl
  have hl : lv_has ls 3 [(0, .ref (ad 12)), (1, .ref (ad qk))] := hl
  refine lv_aload_n hx hb d_Tg_readFactor_0 rfl (lv_at hl 1 rfl) ?_
  refine lv_iconst (v := nI (0)) hx hb d_Tg_readFactor_1 (by decide) ?_
  refine lv_aload_n hx hb d_Tg_readFactor_2 rfl (lv_at hl 0 rfl) ?_
  refine wv_getf hx hb h 12 (by decide) (fs := [.ref (ad 13), .ref (ad 15), .ref (ad 16), .ref (ad 17)]) h12 hts (fun w hw => List.mem_cons_of_mem _ (fW_Tg w hw)) hown (ci := 3) (C := "NonceBox$Tagger") (T := fT_Tg) (N := 4) rfl 3 (by decide) (hts _ (List.mem_cons_of_mem _ kf_Tg_33)) rfl (v := .ref (ad 17)) rfl d_Tg_readFactor_3 ?_
  refine lv_iconst (v := nI (0)) hx hb d_Tg_readFactor_6 (by decide) ?_
  refine lv_bipush (v := nI (16)) hx hb d_Tg_readFactor_7 (by decide) ?_
  refine wv_copyb hx hb (hml.trans hl.1.symm) h hown (hts _ (List.mem_cons_of_mem _ kl_Tg_67)) (hts _ (List.mem_cons_of_mem _ kn_Sy_arraycopy)) (hts _ (List.mem_cons_of_mem _ ks_Sy_arraycopy)) (hts _ (List.mem_cons_of_mem _ ki_Sy)) qk 17 hqk (by decide) (f := (bs K)) (g := (bs BY)) hk h17 (a := 0) (b := 0) (d := 16) rfl rfl rfl (by omega) (by omega) (by omega) (by decide) (fun i _ => bs_fit _ _) (by decide) (by decide) d_Tg_readFactor_9 (fun H locs h => ?_)
  obtain ⟨ev1, o1⟩ : ∃ z, z = va_up ev 17 (eB G 16 (va_cpy (bs K) (bs BY) 0 0 16)) := ⟨_, rfl⟩
  rw [← o1] at h
  have t1_17 : ev1 17 = eB G 16 (va_cpy (bs K) (bs BY) 0 0 16) := by rw [o1, va_up_self]
  have t1_qk := (show ev1 qk = ev qk by rw [o1, va_up_ne _ _ k17]).trans hk
  have t1_16 := (show ev1 16 = ev 16 by rw [o1, va_up_ne _ _ (by decide)]).trans h16
  have t1_12 := (show ev1 12 = ev 12 by rw [o1, va_up_ne _ _ (by decide)]).trans h12
  have t1_13 := (show ev1 13 = ev 13 by rw [o1, va_up_ne _ _ (by decide)]).trans h13
  have h := wT_eqB (g := (bs K)) h 17 (by decide) t1_17 (fun j hj => by rw [pk_cpy_in (Nat.zero_le _) (by omega), Nat.zero_add, Nat.sub_zero])
  obtain ⟨ev2, o2⟩ : ∃ z, z = va_up ev1 17 (eB G 16 (bs K)) := ⟨_, rfl⟩
  rw [← o2] at h
  have t2_17 : ev2 17 = eB G 16 (bs K) := by rw [o2, va_up_self]
  have t2_qk := (show ev2 qk = ev1 qk by rw [o2, va_up_ne _ _ k17]).trans t1_qk
  have t2_16 := (show ev2 16 = ev1 16 by rw [o2, va_up_ne _ _ (by decide)]).trans t1_16
  have t2_12 := (show ev2 12 = ev1 12 by rw [o2, va_up_ne _ _ (by decide)]).trans t1_12
  have t2_13 := (show ev2 13 = ev1 13 by rw [o2, va_up_ne _ _ (by decide)]).trans t1_13
  refine lv_iconst (v := nI (3)) hx hb d_Tg_readFactor_12 (by decide) ?_
  refine lv_istore_n (lv' := [(2, .int (nI (3))), (0, .ref (ad 12)), (1, .ref (ad qk))]) hx hb d_Tg_readFactor_13 rfl hl (by decide) rfl (fun ls hl => ?_)
  refine lv_iload_n hx hb d_Tg_readFactor_14 rfl (lv_at hl 0 rfl) ?_
  refine lv_bipush (v := nI (16)) hx hb d_Tg_readFactor_15 (by decide) ?_
  refine lv_icmp_ge (tgt := 38) hx hb d_Tg_readFactor_17 (by decide) (fun hc => absurd hc (by decide)) (fun _ => ?_)
  refine lv_aload_n hx hb d_Tg_readFactor_20 rfl (lv_at hl 1 rfl) ?_
  refine wv_getf hx hb h 12 (by decide) (fs := [.ref (ad 13), .ref (ad 15), .ref (ad 16), .ref (ad 17)]) t2_12 hts (fun w hw => List.mem_cons_of_mem _ (fW_Tg w hw)) hown (ci := 3) (C := "NonceBox$Tagger") (T := fT_Tg) (N := 4) rfl 3 (by decide) (hts _ (List.mem_cons_of_mem _ kf_Tg_33)) rfl (v := .ref (ad 17)) rfl d_Tg_readFactor_21 ?_
  refine lv_iload_n hx hb d_Tg_readFactor_24 rfl (lv_at hl 0 rfl) ?_
  refine lv_dup2_11 hx hb d_Tg_readFactor_25 rfl rfl ?_
  refine wv_bald hx hb h 17 (by decide) (f := (bs K)) t2_17 (k := 3) rfl (by decide) (by decide) d_Tg_readFactor_26 ?_
  refine lv_bipush (v := (15 : Int32)) hx hb d_Tg_readFactor_27 (by decide) ?_
  refine lv_iand hx hb d_Tg_readFactor_29 ?_
  refine lv_i2b hx hb d_Tg_readFactor_30 rfl ?_
  refine wv_bast hx hb h 17 (by decide) (f := (bs K)) t2_17 (k := 3) rfl (by decide) (by decide) d_Tg_readFactor_31 (fun H locs h => ?_)
  obtain ⟨ev3, o3⟩ : ∃ z, z = va_up ev2 17 (eB G 16 (va_up ((bs K)) 3 (vp_nar .byte (((((bs K)) 3) &&& (15 : Int32)).toInt8.toInt32)))) := ⟨_, rfl⟩
  rw [← o3] at h
  have t3_17 : ev3 17 = eB G 16 (va_up ((bs K)) 3 (vp_nar .byte (((((bs K)) 3) &&& (15 : Int32)).toInt8.toInt32))) := by rw [o3, va_up_self]
  have t3_16 := (show ev3 16 = ev2 16 by rw [o3, va_up_ne _ _ (by decide)]).trans t2_16
  have t3_12 := (show ev3 12 = ev2 12 by rw [o3, va_up_ne _ _ (by decide)]).trans t2_12
  have t3_13 := (show ev3 13 = ev2 13 by rw [o3, va_up_ne _ _ (by decide)]).trans t2_13
  rw [bs_up K 3 (K 3 % 16) (show vp_nar .byte (bs K 3 &&& (15 : Int32)).toInt8.toInt32 = sb_b (K 3 % 16) from sb_m15 _ (hK 3))] at o3 t3_17
  refine lv_iinc (v := nI (7)) (lv' := [(2, .int (nI (7))), (0, .ref (ad 12)), (1, .ref (ad qk))]) hx hb d_Tg_readFactor_32 hl (k := 0) rfl (by decide) (by decide) rfl (fun ls hl => ?_)
  refine lv_goto (tgt := 14) hx hb d_Tg_readFactor_35 (by decide) ?_
  refine lv_iload_n hx hb d_Tg_readFactor_14 rfl (lv_at hl 0 rfl) ?_
  refine lv_bipush (v := nI (16)) hx hb d_Tg_readFactor_15 (by decide) ?_
  refine lv_icmp_ge (tgt := 38) hx hb d_Tg_readFactor_17 (by decide) (fun hc => absurd hc (by decide)) (fun _ => ?_)
  refine lv_aload_n hx hb d_Tg_readFactor_20 rfl (lv_at hl 1 rfl) ?_
  refine wv_getf hx hb h 12 (by decide) (fs := [.ref (ad 13), .ref (ad 15), .ref (ad 16), .ref (ad 17)]) t3_12 hts (fun w hw => List.mem_cons_of_mem _ (fW_Tg w hw)) hown (ci := 3) (C := "NonceBox$Tagger") (T := fT_Tg) (N := 4) rfl 3 (by decide) (hts _ (List.mem_cons_of_mem _ kf_Tg_33)) rfl (v := .ref (ad 17)) rfl d_Tg_readFactor_21 ?_
  refine lv_iload_n hx hb d_Tg_readFactor_24 rfl (lv_at hl 0 rfl) ?_
  refine lv_dup2_11 hx hb d_Tg_readFactor_25 rfl rfl ?_
  refine wv_bald hx hb h 17 (by decide) (f := (bs (va_up K 3 (K 3 % 16)))) t3_17 (k := 7) rfl (by decide) (by decide) d_Tg_readFactor_26 ?_
  refine lv_bipush (v := (15 : Int32)) hx hb d_Tg_readFactor_27 (by decide) ?_
  refine lv_iand hx hb d_Tg_readFactor_29 ?_
  refine lv_i2b hx hb d_Tg_readFactor_30 rfl ?_
  refine wv_bast hx hb h 17 (by decide) (f := (bs (va_up K 3 (K 3 % 16)))) t3_17 (k := 7) rfl (by decide) (by decide) d_Tg_readFactor_31 (fun H locs h => ?_)
  obtain ⟨ev4, o4⟩ : ∃ z, z = va_up ev3 17 (eB G 16 (va_up ((bs (va_up K 3 (K 3 % 16)))) 7 (vp_nar .byte (((((bs (va_up K 3 (K 3 % 16)))) 7) &&& (15 : Int32)).toInt8.toInt32)))) := ⟨_, rfl⟩
  rw [← o4] at h
  have t4_17 : ev4 17 = eB G 16 (va_up ((bs (va_up K 3 (K 3 % 16)))) 7 (vp_nar .byte (((((bs (va_up K 3 (K 3 % 16)))) 7) &&& (15 : Int32)).toInt8.toInt32))) := by rw [o4, va_up_self]
  have t4_16 := (show ev4 16 = ev3 16 by rw [o4, va_up_ne _ _ (by decide)]).trans t3_16
  have t4_12 := (show ev4 12 = ev3 12 by rw [o4, va_up_ne _ _ (by decide)]).trans t3_12
  have t4_13 := (show ev4 13 = ev3 13 by rw [o4, va_up_ne _ _ (by decide)]).trans t3_13
  rw [bs_up (va_up K 3 (K 3 % 16)) 7 (K 7 % 16) (show vp_nar .byte (bs (va_up K 3 (K 3 % 16)) 7 &&& (15 : Int32)).toInt8.toInt32 = sb_b (K 7 % 16) from sb_m15 _ (hK 7))] at o4 t4_17
  refine lv_iinc (v := nI (11)) (lv' := [(2, .int (nI (11))), (0, .ref (ad 12)), (1, .ref (ad qk))]) hx hb d_Tg_readFactor_32 hl (k := 0) rfl (by decide) (by decide) rfl (fun ls hl => ?_)
  refine lv_goto (tgt := 14) hx hb d_Tg_readFactor_35 (by decide) ?_
  refine lv_iload_n hx hb d_Tg_readFactor_14 rfl (lv_at hl 0 rfl) ?_
  refine lv_bipush (v := nI (16)) hx hb d_Tg_readFactor_15 (by decide) ?_
  refine lv_icmp_ge (tgt := 38) hx hb d_Tg_readFactor_17 (by decide) (fun hc => absurd hc (by decide)) (fun _ => ?_)
  refine lv_aload_n hx hb d_Tg_readFactor_20 rfl (lv_at hl 1 rfl) ?_
  refine wv_getf hx hb h 12 (by decide) (fs := [.ref (ad 13), .ref (ad 15), .ref (ad 16), .ref (ad 17)]) t4_12 hts (fun w hw => List.mem_cons_of_mem _ (fW_Tg w hw)) hown (ci := 3) (C := "NonceBox$Tagger") (T := fT_Tg) (N := 4) rfl 3 (by decide) (hts _ (List.mem_cons_of_mem _ kf_Tg_33)) rfl (v := .ref (ad 17)) rfl d_Tg_readFactor_21 ?_
  refine lv_iload_n hx hb d_Tg_readFactor_24 rfl (lv_at hl 0 rfl) ?_
  refine lv_dup2_11 hx hb d_Tg_readFactor_25 rfl rfl ?_
  refine wv_bald hx hb h 17 (by decide) (f := (bs (va_up (va_up K 3 (K 3 % 16)) 7 (K 7 % 16)))) t4_17 (k := 11) rfl (by decide) (by decide) d_Tg_readFactor_26 ?_
  refine lv_bipush (v := (15 : Int32)) hx hb d_Tg_readFactor_27 (by decide) ?_
  refine lv_iand hx hb d_Tg_readFactor_29 ?_
  refine lv_i2b hx hb d_Tg_readFactor_30 rfl ?_
  refine wv_bast hx hb h 17 (by decide) (f := (bs (va_up (va_up K 3 (K 3 % 16)) 7 (K 7 % 16)))) t4_17 (k := 11) rfl (by decide) (by decide) d_Tg_readFactor_31 (fun H locs h => ?_)
  obtain ⟨ev5, o5⟩ : ∃ z, z = va_up ev4 17 (eB G 16 (va_up ((bs (va_up (va_up K 3 (K 3 % 16)) 7 (K 7 % 16)))) 11 (vp_nar .byte (((((bs (va_up (va_up K 3 (K 3 % 16)) 7 (K 7 % 16)))) 11) &&& (15 : Int32)).toInt8.toInt32)))) := ⟨_, rfl⟩
  rw [← o5] at h
  have t5_17 : ev5 17 = eB G 16 (va_up ((bs (va_up (va_up K 3 (K 3 % 16)) 7 (K 7 % 16)))) 11 (vp_nar .byte (((((bs (va_up (va_up K 3 (K 3 % 16)) 7 (K 7 % 16)))) 11) &&& (15 : Int32)).toInt8.toInt32))) := by rw [o5, va_up_self]
  have t5_16 := (show ev5 16 = ev4 16 by rw [o5, va_up_ne _ _ (by decide)]).trans t4_16
  have t5_12 := (show ev5 12 = ev4 12 by rw [o5, va_up_ne _ _ (by decide)]).trans t4_12
  have t5_13 := (show ev5 13 = ev4 13 by rw [o5, va_up_ne _ _ (by decide)]).trans t4_13
  rw [bs_up (va_up (va_up K 3 (K 3 % 16)) 7 (K 7 % 16)) 11 (K 11 % 16) (show vp_nar .byte (bs (va_up (va_up K 3 (K 3 % 16)) 7 (K 7 % 16)) 11 &&& (15 : Int32)).toInt8.toInt32 = sb_b (K 11 % 16) from sb_m15 _ (hK 11))] at o5 t5_17
  refine lv_iinc (v := nI (15)) (lv' := [(2, .int (nI (15))), (0, .ref (ad 12)), (1, .ref (ad qk))]) hx hb d_Tg_readFactor_32 hl (k := 0) rfl (by decide) (by decide) rfl (fun ls hl => ?_)
  refine lv_goto (tgt := 14) hx hb d_Tg_readFactor_35 (by decide) ?_
  refine lv_iload_n hx hb d_Tg_readFactor_14 rfl (lv_at hl 0 rfl) ?_
  refine lv_bipush (v := nI (16)) hx hb d_Tg_readFactor_15 (by decide) ?_
  refine lv_icmp_ge (tgt := 38) hx hb d_Tg_readFactor_17 (by decide) (fun hc => absurd hc (by decide)) (fun _ => ?_)
  refine lv_aload_n hx hb d_Tg_readFactor_20 rfl (lv_at hl 1 rfl) ?_
  refine wv_getf hx hb h 12 (by decide) (fs := [.ref (ad 13), .ref (ad 15), .ref (ad 16), .ref (ad 17)]) t5_12 hts (fun w hw => List.mem_cons_of_mem _ (fW_Tg w hw)) hown (ci := 3) (C := "NonceBox$Tagger") (T := fT_Tg) (N := 4) rfl 3 (by decide) (hts _ (List.mem_cons_of_mem _ kf_Tg_33)) rfl (v := .ref (ad 17)) rfl d_Tg_readFactor_21 ?_
  refine lv_iload_n hx hb d_Tg_readFactor_24 rfl (lv_at hl 0 rfl) ?_
  refine lv_dup2_11 hx hb d_Tg_readFactor_25 rfl rfl ?_
  refine wv_bald hx hb h 17 (by decide) (f := (bs (va_up (va_up (va_up K 3 (K 3 % 16)) 7 (K 7 % 16)) 11 (K 11 % 16)))) t5_17 (k := 15) rfl (by decide) (by decide) d_Tg_readFactor_26 ?_
  refine lv_bipush (v := (15 : Int32)) hx hb d_Tg_readFactor_27 (by decide) ?_
  refine lv_iand hx hb d_Tg_readFactor_29 ?_
  refine lv_i2b hx hb d_Tg_readFactor_30 rfl ?_
  refine wv_bast hx hb h 17 (by decide) (f := (bs (va_up (va_up (va_up K 3 (K 3 % 16)) 7 (K 7 % 16)) 11 (K 11 % 16)))) t5_17 (k := 15) rfl (by decide) (by decide) d_Tg_readFactor_31 (fun H locs h => ?_)
  obtain ⟨ev6, o6⟩ : ∃ z, z = va_up ev5 17 (eB G 16 (va_up ((bs (va_up (va_up (va_up K 3 (K 3 % 16)) 7 (K 7 % 16)) 11 (K 11 % 16)))) 15 (vp_nar .byte (((((bs (va_up (va_up (va_up K 3 (K 3 % 16)) 7 (K 7 % 16)) 11 (K 11 % 16)))) 15) &&& (15 : Int32)).toInt8.toInt32)))) := ⟨_, rfl⟩
  rw [← o6] at h
  have t6_17 : ev6 17 = eB G 16 (va_up ((bs (va_up (va_up (va_up K 3 (K 3 % 16)) 7 (K 7 % 16)) 11 (K 11 % 16)))) 15 (vp_nar .byte (((((bs (va_up (va_up (va_up K 3 (K 3 % 16)) 7 (K 7 % 16)) 11 (K 11 % 16)))) 15) &&& (15 : Int32)).toInt8.toInt32))) := by rw [o6, va_up_self]
  have t6_16 := (show ev6 16 = ev5 16 by rw [o6, va_up_ne _ _ (by decide)]).trans t5_16
  have t6_12 := (show ev6 12 = ev5 12 by rw [o6, va_up_ne _ _ (by decide)]).trans t5_12
  have t6_13 := (show ev6 13 = ev5 13 by rw [o6, va_up_ne _ _ (by decide)]).trans t5_13
  rw [bs_up (va_up (va_up (va_up K 3 (K 3 % 16)) 7 (K 7 % 16)) 11 (K 11 % 16)) 15 (K 15 % 16) (show vp_nar .byte (bs (va_up (va_up (va_up K 3 (K 3 % 16)) 7 (K 7 % 16)) 11 (K 11 % 16)) 15 &&& (15 : Int32)).toInt8.toInt32 = sb_b (K 15 % 16) from sb_m15 _ (hK 15))] at o6 t6_17
  refine lv_iinc (v := nI (19)) (lv' := [(2, .int (nI (19))), (0, .ref (ad 12)), (1, .ref (ad qk))]) hx hb d_Tg_readFactor_32 hl (k := 0) rfl (by decide) (by decide) rfl (fun ls hl => ?_)
  refine lv_goto (tgt := 14) hx hb d_Tg_readFactor_35 (by decide) ?_
  refine lv_iload_n hx hb d_Tg_readFactor_14 rfl (lv_at hl 0 rfl) ?_
  refine lv_bipush (v := nI (16)) hx hb d_Tg_readFactor_15 (by decide) ?_
  refine lv_icmp_ge (tgt := 38) hx hb d_Tg_readFactor_17 (by decide) (fun _ => ?_) (fun hc => absurd (by decide) hc)
  refine lv_iconst (v := nI (4)) hx hb d_Tg_readFactor_38 (by decide) ?_
  refine lv_istore_n (lv' := [(2, .int (nI (4))), (0, .ref (ad 12)), (1, .ref (ad qk))]) hx hb d_Tg_readFactor_39 rfl hl (by decide) rfl (fun ls hl => ?_)
  refine lv_iload_n hx hb d_Tg_readFactor_40 rfl (lv_at hl 0 rfl) ?_
  refine lv_bipush (v := nI (16)) hx hb d_Tg_readFactor_41 (by decide) ?_
  refine lv_icmp_ge (tgt := 65) hx hb d_Tg_readFactor_43 (by decide) (fun hc => absurd hc (by decide)) (fun _ => ?_)
  refine lv_aload_n hx hb d_Tg_readFactor_46 rfl (lv_at hl 1 rfl) ?_
  refine wv_getf hx hb h 12 (by decide) (fs := [.ref (ad 13), .ref (ad 15), .ref (ad 16), .ref (ad 17)]) t6_12 hts (fun w hw => List.mem_cons_of_mem _ (fW_Tg w hw)) hown (ci := 3) (C := "NonceBox$Tagger") (T := fT_Tg) (N := 4) rfl 3 (by decide) (hts _ (List.mem_cons_of_mem _ kf_Tg_33)) rfl (v := .ref (ad 17)) rfl d_Tg_readFactor_47 ?_
  refine lv_iload_n hx hb d_Tg_readFactor_50 rfl (lv_at hl 0 rfl) ?_
  refine lv_dup2_11 hx hb d_Tg_readFactor_51 rfl rfl ?_
  refine wv_bald hx hb h 17 (by decide) (f := (bs (va_up (va_up (va_up (va_up K 3 (K 3 % 16)) 7 (K 7 % 16)) 11 (K 11 % 16)) 15 (K 15 % 16)))) t6_17 (k := 4) rfl (by decide) (by decide) d_Tg_readFactor_52 ?_
  refine lv_sipush (v := (252 : Int32)) hx hb d_Tg_readFactor_53 (by decide) ?_
  refine lv_iand hx hb d_Tg_readFactor_56 ?_
  refine lv_i2b hx hb d_Tg_readFactor_57 rfl ?_
  refine wv_bast hx hb h 17 (by decide) (f := (bs (va_up (va_up (va_up (va_up K 3 (K 3 % 16)) 7 (K 7 % 16)) 11 (K 11 % 16)) 15 (K 15 % 16)))) t6_17 (k := 4) rfl (by decide) (by decide) d_Tg_readFactor_58 (fun H locs h => ?_)
  obtain ⟨ev7, o7⟩ : ∃ z, z = va_up ev6 17 (eB G 16 (va_up ((bs (va_up (va_up (va_up (va_up K 3 (K 3 % 16)) 7 (K 7 % 16)) 11 (K 11 % 16)) 15 (K 15 % 16)))) 4 (vp_nar .byte (((((bs (va_up (va_up (va_up (va_up K 3 (K 3 % 16)) 7 (K 7 % 16)) 11 (K 11 % 16)) 15 (K 15 % 16)))) 4) &&& (252 : Int32)).toInt8.toInt32)))) := ⟨_, rfl⟩
  rw [← o7] at h
  have t7_17 : ev7 17 = eB G 16 (va_up ((bs (va_up (va_up (va_up (va_up K 3 (K 3 % 16)) 7 (K 7 % 16)) 11 (K 11 % 16)) 15 (K 15 % 16)))) 4 (vp_nar .byte (((((bs (va_up (va_up (va_up (va_up K 3 (K 3 % 16)) 7 (K 7 % 16)) 11 (K 11 % 16)) 15 (K 15 % 16)))) 4) &&& (252 : Int32)).toInt8.toInt32))) := by rw [o7, va_up_self]
  have t7_16 := (show ev7 16 = ev6 16 by rw [o7, va_up_ne _ _ (by decide)]).trans t6_16
  have t7_12 := (show ev7 12 = ev6 12 by rw [o7, va_up_ne _ _ (by decide)]).trans t6_12
  have t7_13 := (show ev7 13 = ev6 13 by rw [o7, va_up_ne _ _ (by decide)]).trans t6_13
  rw [bs_up (va_up (va_up (va_up (va_up K 3 (K 3 % 16)) 7 (K 7 % 16)) 11 (K 11 % 16)) 15 (K 15 % 16)) 4 (K 4 / 4 * 4) (show vp_nar .byte (bs (va_up (va_up (va_up (va_up K 3 (K 3 % 16)) 7 (K 7 % 16)) 11 (K 11 % 16)) 15 (K 15 % 16)) 4 &&& (252 : Int32)).toInt8.toInt32 = sb_b (K 4 / 4 * 4) from sb_m252 _ (hK 4))] at o7 t7_17
  refine lv_iinc (v := nI (8)) (lv' := [(2, .int (nI (8))), (0, .ref (ad 12)), (1, .ref (ad qk))]) hx hb d_Tg_readFactor_59 hl (k := 0) rfl (by decide) (by decide) rfl (fun ls hl => ?_)
  refine lv_goto (tgt := 40) hx hb d_Tg_readFactor_62 (by decide) ?_
  refine lv_iload_n hx hb d_Tg_readFactor_40 rfl (lv_at hl 0 rfl) ?_
  refine lv_bipush (v := nI (16)) hx hb d_Tg_readFactor_41 (by decide) ?_
  refine lv_icmp_ge (tgt := 65) hx hb d_Tg_readFactor_43 (by decide) (fun hc => absurd hc (by decide)) (fun _ => ?_)
  refine lv_aload_n hx hb d_Tg_readFactor_46 rfl (lv_at hl 1 rfl) ?_
  refine wv_getf hx hb h 12 (by decide) (fs := [.ref (ad 13), .ref (ad 15), .ref (ad 16), .ref (ad 17)]) t7_12 hts (fun w hw => List.mem_cons_of_mem _ (fW_Tg w hw)) hown (ci := 3) (C := "NonceBox$Tagger") (T := fT_Tg) (N := 4) rfl 3 (by decide) (hts _ (List.mem_cons_of_mem _ kf_Tg_33)) rfl (v := .ref (ad 17)) rfl d_Tg_readFactor_47 ?_
  refine lv_iload_n hx hb d_Tg_readFactor_50 rfl (lv_at hl 0 rfl) ?_
  refine lv_dup2_11 hx hb d_Tg_readFactor_51 rfl rfl ?_
  refine wv_bald hx hb h 17 (by decide) (f := (bs (va_up (va_up (va_up (va_up (va_up K 3 (K 3 % 16)) 7 (K 7 % 16)) 11 (K 11 % 16)) 15 (K 15 % 16)) 4 (K 4 / 4 * 4)))) t7_17 (k := 8) rfl (by decide) (by decide) d_Tg_readFactor_52 ?_
  refine lv_sipush (v := (252 : Int32)) hx hb d_Tg_readFactor_53 (by decide) ?_
  refine lv_iand hx hb d_Tg_readFactor_56 ?_
  refine lv_i2b hx hb d_Tg_readFactor_57 rfl ?_
  refine wv_bast hx hb h 17 (by decide) (f := (bs (va_up (va_up (va_up (va_up (va_up K 3 (K 3 % 16)) 7 (K 7 % 16)) 11 (K 11 % 16)) 15 (K 15 % 16)) 4 (K 4 / 4 * 4)))) t7_17 (k := 8) rfl (by decide) (by decide) d_Tg_readFactor_58 (fun H locs h => ?_)
  obtain ⟨ev8, o8⟩ : ∃ z, z = va_up ev7 17 (eB G 16 (va_up ((bs (va_up (va_up (va_up (va_up (va_up K 3 (K 3 % 16)) 7 (K 7 % 16)) 11 (K 11 % 16)) 15 (K 15 % 16)) 4 (K 4 / 4 * 4)))) 8 (vp_nar .byte (((((bs (va_up (va_up (va_up (va_up (va_up K 3 (K 3 % 16)) 7 (K 7 % 16)) 11 (K 11 % 16)) 15 (K 15 % 16)) 4 (K 4 / 4 * 4)))) 8) &&& (252 : Int32)).toInt8.toInt32)))) := ⟨_, rfl⟩
  rw [← o8] at h
  have t8_17 : ev8 17 = eB G 16 (va_up ((bs (va_up (va_up (va_up (va_up (va_up K 3 (K 3 % 16)) 7 (K 7 % 16)) 11 (K 11 % 16)) 15 (K 15 % 16)) 4 (K 4 / 4 * 4)))) 8 (vp_nar .byte (((((bs (va_up (va_up (va_up (va_up (va_up K 3 (K 3 % 16)) 7 (K 7 % 16)) 11 (K 11 % 16)) 15 (K 15 % 16)) 4 (K 4 / 4 * 4)))) 8) &&& (252 : Int32)).toInt8.toInt32))) := by rw [o8, va_up_self]
  have t8_16 := (show ev8 16 = ev7 16 by rw [o8, va_up_ne _ _ (by decide)]).trans t7_16
  have t8_12 := (show ev8 12 = ev7 12 by rw [o8, va_up_ne _ _ (by decide)]).trans t7_12
  have t8_13 := (show ev8 13 = ev7 13 by rw [o8, va_up_ne _ _ (by decide)]).trans t7_13
  rw [bs_up (va_up (va_up (va_up (va_up (va_up K 3 (K 3 % 16)) 7 (K 7 % 16)) 11 (K 11 % 16)) 15 (K 15 % 16)) 4 (K 4 / 4 * 4)) 8 (K 8 / 4 * 4) (show vp_nar .byte (bs (va_up (va_up (va_up (va_up (va_up K 3 (K 3 % 16)) 7 (K 7 % 16)) 11 (K 11 % 16)) 15 (K 15 % 16)) 4 (K 4 / 4 * 4)) 8 &&& (252 : Int32)).toInt8.toInt32 = sb_b (K 8 / 4 * 4) from sb_m252 _ (hK 8))] at o8 t8_17
  refine lv_iinc (v := nI (12)) (lv' := [(2, .int (nI (12))), (0, .ref (ad 12)), (1, .ref (ad qk))]) hx hb d_Tg_readFactor_59 hl (k := 0) rfl (by decide) (by decide) rfl (fun ls hl => ?_)
  refine lv_goto (tgt := 40) hx hb d_Tg_readFactor_62 (by decide) ?_
  refine lv_iload_n hx hb d_Tg_readFactor_40 rfl (lv_at hl 0 rfl) ?_
  refine lv_bipush (v := nI (16)) hx hb d_Tg_readFactor_41 (by decide) ?_
  refine lv_icmp_ge (tgt := 65) hx hb d_Tg_readFactor_43 (by decide) (fun hc => absurd hc (by decide)) (fun _ => ?_)
  refine lv_aload_n hx hb d_Tg_readFactor_46 rfl (lv_at hl 1 rfl) ?_
  refine wv_getf hx hb h 12 (by decide) (fs := [.ref (ad 13), .ref (ad 15), .ref (ad 16), .ref (ad 17)]) t8_12 hts (fun w hw => List.mem_cons_of_mem _ (fW_Tg w hw)) hown (ci := 3) (C := "NonceBox$Tagger") (T := fT_Tg) (N := 4) rfl 3 (by decide) (hts _ (List.mem_cons_of_mem _ kf_Tg_33)) rfl (v := .ref (ad 17)) rfl d_Tg_readFactor_47 ?_
  refine lv_iload_n hx hb d_Tg_readFactor_50 rfl (lv_at hl 0 rfl) ?_
  refine lv_dup2_11 hx hb d_Tg_readFactor_51 rfl rfl ?_
  refine wv_bald hx hb h 17 (by decide) (f := (bs (va_up (va_up (va_up (va_up (va_up (va_up K 3 (K 3 % 16)) 7 (K 7 % 16)) 11 (K 11 % 16)) 15 (K 15 % 16)) 4 (K 4 / 4 * 4)) 8 (K 8 / 4 * 4)))) t8_17 (k := 12) rfl (by decide) (by decide) d_Tg_readFactor_52 ?_
  refine lv_sipush (v := (252 : Int32)) hx hb d_Tg_readFactor_53 (by decide) ?_
  refine lv_iand hx hb d_Tg_readFactor_56 ?_
  refine lv_i2b hx hb d_Tg_readFactor_57 rfl ?_
  refine wv_bast hx hb h 17 (by decide) (f := (bs (va_up (va_up (va_up (va_up (va_up (va_up K 3 (K 3 % 16)) 7 (K 7 % 16)) 11 (K 11 % 16)) 15 (K 15 % 16)) 4 (K 4 / 4 * 4)) 8 (K 8 / 4 * 4)))) t8_17 (k := 12) rfl (by decide) (by decide) d_Tg_readFactor_58 (fun H locs h => ?_)
  obtain ⟨ev9, o9⟩ : ∃ z, z = va_up ev8 17 (eB G 16 (va_up ((bs (va_up (va_up (va_up (va_up (va_up (va_up K 3 (K 3 % 16)) 7 (K 7 % 16)) 11 (K 11 % 16)) 15 (K 15 % 16)) 4 (K 4 / 4 * 4)) 8 (K 8 / 4 * 4)))) 12 (vp_nar .byte (((((bs (va_up (va_up (va_up (va_up (va_up (va_up K 3 (K 3 % 16)) 7 (K 7 % 16)) 11 (K 11 % 16)) 15 (K 15 % 16)) 4 (K 4 / 4 * 4)) 8 (K 8 / 4 * 4)))) 12) &&& (252 : Int32)).toInt8.toInt32)))) := ⟨_, rfl⟩
  rw [← o9] at h
  have t9_17 : ev9 17 = eB G 16 (va_up ((bs (va_up (va_up (va_up (va_up (va_up (va_up K 3 (K 3 % 16)) 7 (K 7 % 16)) 11 (K 11 % 16)) 15 (K 15 % 16)) 4 (K 4 / 4 * 4)) 8 (K 8 / 4 * 4)))) 12 (vp_nar .byte (((((bs (va_up (va_up (va_up (va_up (va_up (va_up K 3 (K 3 % 16)) 7 (K 7 % 16)) 11 (K 11 % 16)) 15 (K 15 % 16)) 4 (K 4 / 4 * 4)) 8 (K 8 / 4 * 4)))) 12) &&& (252 : Int32)).toInt8.toInt32))) := by rw [o9, va_up_self]
  have t9_16 := (show ev9 16 = ev8 16 by rw [o9, va_up_ne _ _ (by decide)]).trans t8_16
  have t9_12 := (show ev9 12 = ev8 12 by rw [o9, va_up_ne _ _ (by decide)]).trans t8_12
  have t9_13 := (show ev9 13 = ev8 13 by rw [o9, va_up_ne _ _ (by decide)]).trans t8_13
  rw [bs_up (va_up (va_up (va_up (va_up (va_up (va_up K 3 (K 3 % 16)) 7 (K 7 % 16)) 11 (K 11 % 16)) 15 (K 15 % 16)) 4 (K 4 / 4 * 4)) 8 (K 8 / 4 * 4)) 12 (K 12 / 4 * 4) (show vp_nar .byte (bs (va_up (va_up (va_up (va_up (va_up (va_up K 3 (K 3 % 16)) 7 (K 7 % 16)) 11 (K 11 % 16)) 15 (K 15 % 16)) 4 (K 4 / 4 * 4)) 8 (K 8 / 4 * 4)) 12 &&& (252 : Int32)).toInt8.toInt32 = sb_b (K 12 / 4 * 4) from sb_m252 _ (hK 12))] at o9 t9_17
  refine lv_iinc (v := nI (16)) (lv' := [(2, .int (nI (16))), (0, .ref (ad 12)), (1, .ref (ad qk))]) hx hb d_Tg_readFactor_59 hl (k := 0) rfl (by decide) (by decide) rfl (fun ls hl => ?_)
  refine lv_goto (tgt := 40) hx hb d_Tg_readFactor_62 (by decide) ?_
  refine lv_iload_n hx hb d_Tg_readFactor_40 rfl (lv_at hl 0 rfl) ?_
  refine lv_bipush (v := nI (16)) hx hb d_Tg_readFactor_41 (by decide) ?_
  refine lv_icmp_ge (tgt := 65) hx hb d_Tg_readFactor_43 (by decide) (fun _ => ?_) (fun hc => absurd (by decide) hc)
  have h := wT_eqB (g := (bs (FCT K))) h 17 (by decide) t9_17 (fun j hj => by
      match j, hj with
      | 0, _ => rfl
      | 1, _ => rfl
      | 2, _ => rfl
      | 3, _ => rfl
      | 4, _ => rfl
      | 5, _ => rfl
      | 6, _ => rfl
      | 7, _ => rfl
      | 8, _ => rfl
      | 9, _ => rfl
      | 10, _ => rfl
      | 11, _ => rfl
      | 12, _ => rfl
      | 13, _ => rfl
      | 14, _ => rfl
      | 15, _ => rfl
      | j + 16, h => exact absurd h (by omega))
  obtain ⟨ev10, o10⟩ : ∃ z, z = va_up ev9 17 (eB G 16 (bs (FCT K))) := ⟨_, rfl⟩
  rw [← o10] at h
  have t10_17 : ev10 17 = eB G 16 (bs (FCT K)) := by rw [o10, va_up_self]
  have t10_16 := (show ev10 16 = ev9 16 by rw [o10, va_up_ne _ _ (by decide)]).trans t9_16
  have t10_12 := (show ev10 12 = ev9 12 by rw [o10, va_up_ne _ _ (by decide)]).trans t9_12
  have t10_13 := (show ev10 13 = ev9 13 by rw [o10, va_up_ne _ _ (by decide)]).trans t9_13
  refine lv_aload_n hx hb d_Tg_readFactor_65 rfl (lv_at hl 1 rfl) ?_
  refine wv_getf hx hb h 12 (by decide) (fs := [.ref (ad 13), .ref (ad 15), .ref (ad 16), .ref (ad 17)]) t10_12 hts (fun w hw => List.mem_cons_of_mem _ (fW_Tg w hw)) hown (ci := 3) (C := "NonceBox$Tagger") (T := fT_Tg) (N := 4) rfl 0 (by decide) (hts _ (List.mem_cons_of_mem _ kf_Tg_16)) rfl (v := .ref (ad 13)) rfl d_Tg_readFactor_66 ?_
  refine lv_aload_n hx hb d_Tg_readFactor_69 rfl (lv_at hl 1 rfl) ?_
  refine wv_getf hx hb h 12 (by decide) (fs := [.ref (ad 13), .ref (ad 15), .ref (ad 16), .ref (ad 17)]) t10_12 hts (fun w hw => List.mem_cons_of_mem _ (fW_Tg w hw)) hown (ci := 3) (C := "NonceBox$Tagger") (T := fT_Tg) (N := 4) rfl 2 (by decide) (hts _ (List.mem_cons_of_mem _ kf_Tg_30)) rfl (v := .ref (ad 16)) rfl d_Tg_readFactor_70 ?_
  refine lv_iconst (v := nI (0)) hx hb d_Tg_readFactor_73 (by decide) ?_
  refine wv_V (As := [.ref (ad 16), .int (nI (0))]) (rest := []) (k := 2) ⟨hx, hb, hml, hown, hts⟩ h 13 (by decide) (C := "NonceBox$Field") t10_13 rfl (m_Fd_setTo l G A ad ev10 13 16 5 r16 (nI 0) (by decide) t10_16 (by decide) (by decide)) kc_Fd_setTo kl_Tg_41 km_Fd_setTo kv_Fd_setTo ki_Fd (by decide +kernel) ⟨rfl, rfl, Nat.le_of_ble_eq_true rfl, Nat.le_of_ble_eq_true rfl⟩ hl.1 rfl rfl (Nat.le_of_ble_eq_true rfl) ⟨Nat.le_refl _, Nat.le_refl _⟩ d_Tg_readFactor_74 ?_
  intro ov ev11 H locs hp h
  rw [hp.1]
  refine W.eq (g2 := F0 m 77 ls []) rfl ?_
  have o11 : ev11 = (va_up ev10 16 (eJ G 5 (rowV 0))) := hp.2
  have t11_16 : ev11 16 = eJ G 5 (rowV 0) := by rw [o11, va_up_self]
  have t11_17 := (show ev11 17 = ev10 17 by rw [o11, va_up_ne _ _ (by decide)]).trans t10_17
  have t11_12 := (show ev11 12 = ev10 12 by rw [o11, va_up_ne _ _ (by decide)]).trans t10_12
  have t11_13 := (show ev11 13 = ev10 13 by rw [o11, va_up_ne _ _ (by decide)]).trans t10_13
  refine lv_aload_n hx hb d_Tg_readFactor_77 rfl (lv_at hl 1 rfl) ?_
  refine wv_getf hx hb h 12 (by decide) (fs := [.ref (ad 13), .ref (ad 15), .ref (ad 16), .ref (ad 17)]) t11_12 hts (fun w hw => List.mem_cons_of_mem _ (fW_Tg w hw)) hown (ci := 3) (C := "NonceBox$Tagger") (T := fT_Tg) (N := 4) rfl 0 (by decide) (hts _ (List.mem_cons_of_mem _ kf_Tg_16)) rfl (v := .ref (ad 13)) rfl d_Tg_readFactor_78 ?_
  refine lv_aload_n hx hb d_Tg_readFactor_81 rfl (lv_at hl 1 rfl) ?_
  refine wv_getf hx hb h 12 (by decide) (fs := [.ref (ad 13), .ref (ad 15), .ref (ad 16), .ref (ad 17)]) t11_12 hts (fun w hw => List.mem_cons_of_mem _ (fW_Tg w hw)) hown (ci := 3) (C := "NonceBox$Tagger") (T := fT_Tg) (N := 4) rfl 3 (by decide) (hts _ (List.mem_cons_of_mem _ kf_Tg_33)) rfl (v := .ref (ad 17)) rfl d_Tg_readFactor_82 ?_
  refine lv_iconst (v := nI (0)) hx hb d_Tg_readFactor_85 (by decide) ?_
  refine lv_bipush (v := nI (16)) hx hb d_Tg_readFactor_86 (by decide) ?_
  refine lv_aload_n hx hb d_Tg_readFactor_88 rfl (lv_at hl 1 rfl) ?_
  refine wv_getf hx hb h 12 (by decide) (fs := [.ref (ad 13), .ref (ad 15), .ref (ad 16), .ref (ad 17)]) t11_12 hts (fun w hw => List.mem_cons_of_mem _ (fW_Tg w hw)) hown (ci := 3) (C := "NonceBox$Tagger") (T := fT_Tg) (N := 4) rfl 2 (by decide) (hts _ (List.mem_cons_of_mem _ kf_Tg_30)) rfl (v := .ref (ad 16)) rfl d_Tg_readFactor_89 ?_
  refine wv_V (As := [.ref (ad 17), .int (nI (0)), .int (nI (16)), .ref (ad 16)]) (rest := []) (k := 4) ⟨hx, hb, hml, hown, hts⟩ h 13 (by decide) (C := "NonceBox$Field") t11_13 rfl (m_Fd_addBytes l G A ad ev11 13 0 _ (by decide) t11_13 17 16 5 16 0 16 (FCT K) (rowV 0) (by decide) (by decide) t11_17 (FCT_lt hK) t11_16 (by decide) (by decide) (by decide) (by decide) (by decide) (by decide) (by decide) (by decide)) kc_Fd_addBytes kl_Tg_59 km_Fd_addBytes kv_Fd_addBytes ki_Fd (by decide +kernel) ⟨rfl, rfl, Nat.le_of_ble_eq_true rfl, Nat.le_of_ble_eq_true rfl⟩ hl.1 rfl rfl (Nat.le_of_ble_eq_true rfl) ⟨Nat.le_refl _, Nat.le_refl _⟩ d_Tg_readFactor_92 ?_
  intro ov ev12 H locs hp h
  rw [hp.1]
  refine W.eq (g2 := F0 m 95 ls []) rfl ?_
  have o12 : ev12 = (va_up ev11 16 (eJ G 5 (fRow K))) := hp.2
  have t12_16 : ev12 16 = eJ G 5 (fRow K) := by rw [o12, va_up_self]
  have t12_17 := (show ev12 17 = ev11 17 by rw [o12, va_up_ne _ _ (by decide)]).trans t11_17
  have t12_12 := (show ev12 12 = ev11 12 by rw [o12, va_up_ne _ _ (by decide)]).trans t11_12
  have t12_13 := (show ev12 13 = ev11 13 by rw [o12, va_up_ne _ _ (by decide)]).trans t11_13
  refine wv_vret hx hb hr hlocks h d_Tg_readFactor_95 ⟨rfl, ?_⟩
  funext j
  by_cases c0 : j = 17
  · rw [c0, t12_17, va_up_ne _ _ (by decide), va_up_self]
  by_cases c1 : j = 16
  · rw [c1, t12_16, va_up_self]
  rw [va_up_ne _ _ c1, va_up_ne _ _ c0]
  rw [o12, va_up_ne _ _ c1, o11, va_up_ne _ _ c1, o10, va_up_ne _ _ c0, o9, va_up_ne _ _ c0, o8, va_up_ne _ _ c0, o7, va_up_ne _ _ c0, o6, va_up_ne _ _ c0, o5, va_up_ne _ _ c0, o4, va_up_ne _ _ c0, o3, va_up_ne _ _ c0, o2, va_up_ne _ _ c0, o1, va_up_ne _ _ c0]
theorem d_Tg_takePiece_0 : decode c_Tg_takePiece 0 = .ok (.aload_n 0, 1) := by decide +kernel
theorem d_Tg_takePiece_1 : decode c_Tg_takePiece 1 = .ok (.getfield 16, 3) := by decide +kernel
theorem d_Tg_takePiece_4 : decode c_Tg_takePiece 4 = .ok (.lconst 1, 1) := by decide +kernel
theorem d_Tg_takePiece_5 : decode c_Tg_takePiece 5 = .ok (.iload_n 3, 1) := by decide +kernel
theorem d_Tg_takePiece_6 : decode c_Tg_takePiece 6 = .ok (.aload_n 0, 1) := by decide +kernel
theorem d_Tg_takePiece_7 : decode c_Tg_takePiece 7 = .ok (.getfield 26, 3) := by decide +kernel
theorem d_Tg_takePiece_10 : decode c_Tg_takePiece 10 = .ok (.invokevirtual 73, 3) := by decide +kernel
theorem d_Tg_takePiece_13 : decode c_Tg_takePiece 13 = .ok (.aload_n 0, 1) := by decide +kernel
theorem d_Tg_takePiece_14 : decode c_Tg_takePiece 14 = .ok (.getfield 16, 3) := by decide +kernel
theorem d_Tg_takePiece_17 : decode c_Tg_takePiece 17 = .ok (.aload_n 1, 1) := by decide +kernel
theorem d_Tg_takePiece_18 : decode c_Tg_takePiece 18 = .ok (.iload_n 2, 1) := by decide +kernel
theorem d_Tg_takePiece_19 : decode c_Tg_takePiece 19 = .ok (.iload_n 3, 1) := by decide +kernel
theorem d_Tg_takePiece_20 : decode c_Tg_takePiece 20 = .ok (.aload_n 0, 1) := by decide +kernel
theorem d_Tg_takePiece_21 : decode c_Tg_takePiece 21 = .ok (.getfield 26, 3) := by decide +kernel
theorem d_Tg_takePiece_24 : decode c_Tg_takePiece 24 = .ok (.invokevirtual 59, 3) := by decide +kernel
theorem d_Tg_takePiece_27 : decode c_Tg_takePiece 27 = .ok (.aload_n 0, 1) := by decide +kernel
theorem d_Tg_takePiece_28 : decode c_Tg_takePiece 28 = .ok (.getfield 16, 3) := by decide +kernel
theorem d_Tg_takePiece_31 : decode c_Tg_takePiece 31 = .ok (.aload_n 0, 1) := by decide +kernel
theorem d_Tg_takePiece_32 : decode c_Tg_takePiece 32 = .ok (.getfield 26, 3) := by decide +kernel
theorem d_Tg_takePiece_35 : decode c_Tg_takePiece 35 = .ok (.aload_n 0, 1) := by decide +kernel
theorem d_Tg_takePiece_36 : decode c_Tg_takePiece 36 = .ok (.getfield 30, 3) := by decide +kernel
theorem d_Tg_takePiece_39 : decode c_Tg_takePiece 39 = .ok (.aload_n 0, 1) := by decide +kernel
theorem d_Tg_takePiece_40 : decode c_Tg_takePiece 40 = .ok (.getfield 26, 3) := by decide +kernel
theorem d_Tg_takePiece_43 : decode c_Tg_takePiece 43 = .ok (.invokevirtual 77, 3) := by decide +kernel
theorem d_Tg_takePiece_46 : decode c_Tg_takePiece 46 = .ok (.return_, 1) := by decide +kernel
set_option maxRecDepth 100000 in
set_option maxHeartbeats 4000000 in
/-- a piece taken in -/
theorem m_Tg_takePiece (l : Launch) (G : wG) (A : Nat → Prop) (ad : Nat → Nat) (ev : Nat → va_E) (qx Nx o sz : Nat) (X : Nat → Nat) (S F r14 : Row) (h12 : ev 12 = eO 3 [.ref (ad 13), .ref (ad 15), .ref (ad 16), .ref (ad 17)]) (h13 : ev 13 = eO 1 [.int (nI 5), .int (nI 26), .long 5, .long 5, .ref (ad 14)]) (hqx : qx < 52) (hx' : ev qx = eB G Nx (bs X)) (hX : ∀ j, X j < 256) (h14 : ev 14 = eJ G 10 r14) (h15 : ev 15 = eJ G 5 S) (h16 : ev 16 = eJ G 5 F) (ho : o + sz ≤ Nx) (hsz : sz ≤ 16) (nx2 : Nx < 2 ^ 30) (x15 : qx ≠ 15) : wM l y_Tg_takePiece w_Tg_takePiece ({ frames := 12, cells := 0, slots := 0, locals := 400 }) G A 52 ad ev [.ref (ad 12), .ref (ad qx), .int (nI (o)), .int (nI (sz))] (fun ov ev' => ∃ Wd : Row, ov = none ∧ ev' = va_up (va_up ev 14 (eJ G 10 Wd)) 15 (eJ G 5 (pcs S F X o sz))) := by
  refine wv_ofW (cc := c_Tg_takePiece) (maxL := 4) (ret := none) (by decide) rfl (Nat.le_of_ble_eq_true rfl) ?_
  intro p e s m below meth c ls hx hb hr hml hts hown hlocks hini h hl
  have hl : lv_has ls 4 [(0, .ref (ad 12)), (1, .ref (ad qx)), (2, .int (nI (o))), (3, .int (nI (sz)))] := hl
  refine lv_aload_n hx hb d_Tg_takePiece_0 rfl (lv_at hl 0 rfl) ?_
  refine wv_getf hx hb h 12 (by decide) (fs := [.ref (ad 13), .ref (ad 15), .ref (ad 16), .ref (ad 17)]) h12 hts (fun w hw => List.mem_cons_of_mem _ (fW_Tg w hw)) hown (ci := 3) (C := "NonceBox$Tagger") (T := fT_Tg) (N := 4) rfl 0 (by decide) (hts _ (List.mem_cons_of_mem _ kf_Tg_16)) rfl (v := .ref (ad 13)) rfl d_Tg_takePiece_1 ?_
  refine lv_lconst (v := 1) hx hb d_Tg_takePiece_4 (by decide) ?_
  refine lv_iload_n hx hb d_Tg_takePiece_5 rfl (lv_at hl 3 rfl) ?_
  refine lv_aload_n hx hb d_Tg_takePiece_6 rfl (lv_at hl 0 rfl) ?_
  refine wv_getf hx hb h 12 (by decide) (fs := [.ref (ad 13), .ref (ad 15), .ref (ad 16), .ref (ad 17)]) h12 hts (fun w hw => List.mem_cons_of_mem _ (fW_Tg w hw)) hown (ci := 3) (C := "NonceBox$Tagger") (T := fT_Tg) (N := 4) rfl 1 (by decide) (hts _ (List.mem_cons_of_mem _ kf_Tg_26)) rfl (v := .ref (ad 15)) rfl d_Tg_takePiece_7 ?_
  refine wv_V (As := [.long (1), .int (nI (sz)), .ref (ad 15)]) (rest := []) (k := 3) ⟨hx, hb, hml, hown, hts⟩ h 13 (by decide) (C := "NonceBox$Field") h13 rfl (m_Fd_addByte l G A ad ev 13 15 5 sz 1 S (by decide) h15 (by omega) (by omega) (by decide)) kc_Fd_addByte kl_Tg_73 km_Fd_addByte kv_Fd_addByte ki_Fd (by decide +kernel) ⟨rfl, rfl, Nat.le_of_ble_eq_true rfl, Nat.le_of_ble_eq_true rfl⟩ hl.1 rfl rfl (Nat.le_of_ble_eq_true rfl) ⟨Nat.le_refl _, Nat.le_refl _⟩ d_Tg_takePiece_10 ?_
  intro ov ev1 H locs hp h
  rw [hp.1]
  refine W.eq (g2 := F0 m 13 ls []) rfl ?_
  have o1 : ev1 = (va_up ev 15 (eJ G 5 (adB S 1 sz))) := hp.2
  have t1_15 : ev1 15 = eJ G 5 (adB S 1 sz) := by rw [o1, va_up_self]
  have t1_qx := (show ev1 qx = ev qx by rw [o1, va_up_ne _ _ x15]).trans hx'
  have t1_14 := (show ev1 14 = ev 14 by rw [o1, va_up_ne _ _ (by decide)]).trans h14
  have t1_16 := (show ev1 16 = ev 16 by rw [o1, va_up_ne _ _ (by decide)]).trans h16
  have t1_12 := (show ev1 12 = ev 12 by rw [o1, va_up_ne _ _ (by decide)]).trans h12
  have t1_13 := (show ev1 13 = ev 13 by rw [o1, va_up_ne _ _ (by decide)]).trans h13
  refine lv_aload_n hx hb d_Tg_takePiece_13 rfl (lv_at hl 0 rfl) ?_
  refine wv_getf hx hb h 12 (by decide) (fs := [.ref (ad 13), .ref (ad 15), .ref (ad 16), .ref (ad 17)]) t1_12 hts (fun w hw => List.mem_cons_of_mem _ (fW_Tg w hw)) hown (ci := 3) (C := "NonceBox$Tagger") (T := fT_Tg) (N := 4) rfl 0 (by decide) (hts _ (List.mem_cons_of_mem _ kf_Tg_16)) rfl (v := .ref (ad 13)) rfl d_Tg_takePiece_14 ?_
  refine lv_aload_n hx hb d_Tg_takePiece_17 rfl (lv_at hl 1 rfl) ?_
  refine lv_iload_n hx hb d_Tg_takePiece_18 rfl (lv_at hl 2 rfl) ?_
  refine lv_iload_n hx hb d_Tg_takePiece_19 rfl (lv_at hl 3 rfl) ?_
  refine lv_aload_n hx hb d_Tg_takePiece_20 rfl (lv_at hl 0 rfl) ?_
  refine wv_getf hx hb h 12 (by decide) (fs := [.ref (ad 13), .ref (ad 15), .ref (ad 16), .ref (ad 17)]) t1_12 hts (fun w hw => List.mem_cons_of_mem _ (fW_Tg w hw)) hown (ci := 3) (C := "NonceBox$Tagger") (T := fT_Tg) (N := 4) rfl 1 (by decide) (hts _ (List.mem_cons_of_mem _ kf_Tg_26)) rfl (v := .ref (ad 15)) rfl d_Tg_takePiece_21 ?_
  refine wv_V (As := [.ref (ad qx), .int (nI (o)), .int (nI (sz)), .ref (ad 15)]) (rest := []) (k := 4) ⟨hx, hb, hml, hown, hts⟩ h 13 (by decide) (C := "NonceBox$Field") t1_13 rfl (m_Fd_addBytes l G A ad ev1 13 0 _ (by decide) t1_13 qx 15 5 Nx o sz X (adB S 1 sz) hqx (by decide) t1_qx hX t1_15 (by decide) x15 (by omega) (by omega) ho nx2 (by decide) (by decide)) kc_Fd_addBytes kl_Tg_59 km_Fd_addBytes kv_Fd_addBytes ki_Fd (by decide +kernel) ⟨rfl, rfl, Nat.le_of_ble_eq_true rfl, Nat.le_of_ble_eq_true rfl⟩ hl.1 rfl rfl (Nat.le_of_ble_eq_true rfl) ⟨Nat.le_refl _, Nat.le_refl _⟩ d_Tg_takePiece_24 ?_
  intro ov ev2 H locs hp h
  rw [hp.1]
  refine W.eq (g2 := F0 m 27 ls []) rfl ?_
  have o2 : ev2 = (va_up ev1 15 (eJ G 5 (cry (adBs X o (adB S 1 sz) sz) 4))) := hp.2
  have t2_15 : ev2 15 = eJ G 5 (cry (adBs X o (adB S 1 sz) sz) 4) := by rw [o2, va_up_self]
  have t2_qx := (show ev2 qx = ev1 qx by rw [o2, va_up_ne _ _ x15]).trans t1_qx
  have t2_14 := (show ev2 14 = ev1 14 by rw [o2, va_up_ne _ _ (by decide)]).trans t1_14
  have t2_16 := (show ev2 16 = ev1 16 by rw [o2, va_up_ne _ _ (by decide)]).trans t1_16
  have t2_12 := (show ev2 12 = ev1 12 by rw [o2, va_up_ne _ _ (by decide)]).trans t1_12
  have t2_13 := (show ev2 13 = ev1 13 by rw [o2, va_up_ne _ _ (by decide)]).trans t1_13
  refine lv_aload_n hx hb d_Tg_takePiece_27 rfl (lv_at hl 0 rfl) ?_
  refine wv_getf hx hb h 12 (by decide) (fs := [.ref (ad 13), .ref (ad 15), .ref (ad 16), .ref (ad 17)]) t2_12 hts (fun w hw => List.mem_cons_of_mem _ (fW_Tg w hw)) hown (ci := 3) (C := "NonceBox$Tagger") (T := fT_Tg) (N := 4) rfl 0 (by decide) (hts _ (List.mem_cons_of_mem _ kf_Tg_16)) rfl (v := .ref (ad 13)) rfl d_Tg_takePiece_28 ?_
  refine lv_aload_n hx hb d_Tg_takePiece_31 rfl (lv_at hl 0 rfl) ?_
  refine wv_getf hx hb h 12 (by decide) (fs := [.ref (ad 13), .ref (ad 15), .ref (ad 16), .ref (ad 17)]) t2_12 hts (fun w hw => List.mem_cons_of_mem _ (fW_Tg w hw)) hown (ci := 3) (C := "NonceBox$Tagger") (T := fT_Tg) (N := 4) rfl 1 (by decide) (hts _ (List.mem_cons_of_mem _ kf_Tg_26)) rfl (v := .ref (ad 15)) rfl d_Tg_takePiece_32 ?_
  refine lv_aload_n hx hb d_Tg_takePiece_35 rfl (lv_at hl 0 rfl) ?_
  refine wv_getf hx hb h 12 (by decide) (fs := [.ref (ad 13), .ref (ad 15), .ref (ad 16), .ref (ad 17)]) t2_12 hts (fun w hw => List.mem_cons_of_mem _ (fW_Tg w hw)) hown (ci := 3) (C := "NonceBox$Tagger") (T := fT_Tg) (N := 4) rfl 2 (by decide) (hts _ (List.mem_cons_of_mem _ kf_Tg_30)) rfl (v := .ref (ad 16)) rfl d_Tg_takePiece_36 ?_
  refine lv_aload_n hx hb d_Tg_takePiece_39 rfl (lv_at hl 0 rfl) ?_
  refine wv_getf hx hb h 12 (by decide) (fs := [.ref (ad 13), .ref (ad 15), .ref (ad 16), .ref (ad 17)]) t2_12 hts (fun w hw => List.mem_cons_of_mem _ (fW_Tg w hw)) hown (ci := 3) (C := "NonceBox$Tagger") (T := fT_Tg) (N := 4) rfl 1 (by decide) (hts _ (List.mem_cons_of_mem _ kf_Tg_26)) rfl (v := .ref (ad 15)) rfl d_Tg_takePiece_40 ?_
  refine wv_V (As := [.ref (ad 15), .ref (ad 16), .ref (ad 15)]) (rest := []) (k := 3) ⟨hx, hb, hml, hown, hts⟩ h 13 (by decide) (C := "NonceBox$Field") t2_13 rfl (m_Fd_times l G A ad ev2 13 14 5 26 5 5 (by decide) t2_13 (by decide) (by decide) 15 16 15 (cry (adBs X o (adB S 1 sz) sz) 4) F (cry (adBs X o (adB S 1 sz) sz) 4) r14 (by decide) (by decide) (by decide) (by decide) t2_15 t2_16 t2_15 t2_14 (by decide) (by decide) (by decide) (by decide) (by decide)) kc_Fd_times kl_Tg_77 km_Fd_times kv_Fd_times ki_Fd (by decide +kernel) ⟨rfl, rfl, Nat.le_of_ble_eq_true rfl, Nat.le_of_ble_eq_true rfl⟩ hl.1 rfl rfl (Nat.le_of_ble_eq_true rfl) ⟨Nat.le_refl _, Nat.le_refl _⟩ d_Tg_takePiece_43 ?_
  intro ov ev3 H locs hp h
  rw [hp.1]
  refine W.eq (g2 := F0 m 46 ls []) rfl ?_
  have o3 : ev3 = (va_up (va_up ev2 14 (eJ G 10 (wdC (cry (adBs X o (adB S 1 sz) sz) 4) F 5))) 15 (eJ G 5 (pcs S F X o sz))) := hp.2
  have t3_14 : ev3 14 = eJ G 10 (wdC (cry (adBs X o (adB S 1 sz) sz) 4) F 5) := by rw [o3, va_up_ne _ _ (by decide), va_up_self]
  have t3_15 : ev3 15 = eJ G 5 (pcs S F X o sz) := by rw [o3, va_up_self]
  have t3_16 := (show ev3 16 = ev2 16 by rw [o3, va_up_ne _ _ (by decide), va_up_ne _ _ (by decide)]).trans t2_16
  have t3_12 := (show ev3 12 = ev2 12 by rw [o3, va_up_ne _ _ (by decide), va_up_ne _ _ (by decide)]).trans t2_12
  have t3_13 := (show ev3 13 = ev2 13 by rw [o3, va_up_ne _ _ (by decide), va_up_ne _ _ (by decide)]).trans t2_13
  refine wv_vret hx hb hr hlocks h d_Tg_takePiece_46 ⟨wdC (cry (adBs X o (adB S 1 sz) sz) 4) F 5, rfl, ?_⟩
  rw [o3, o2, o1]
  funext j
  by_cases c0 : j = 14
  · subst c0; simp [va_up]
  by_cases c1 : j = 15
  · subst c1; simp [va_up]
  simp only [va_up, c0, c1, if_false]
theorem d_Tg_tagInto_0 : decode c_Tg_tagInto 0 = .ok (.aload_n 0, 1) := by decide +kernel
theorem d_Tg_tagInto_1 : decode c_Tg_tagInto 1 = .ok (.aload_n 1, 1) := by decide +kernel
theorem d_Tg_tagInto_2 : decode c_Tg_tagInto 2 = .ok (.invokevirtual 37, 3) := by decide +kernel
theorem d_Tg_tagInto_5 : decode c_Tg_tagInto 5 = .ok (.aload_n 0, 1) := by decide +kernel
theorem d_Tg_tagInto_6 : decode c_Tg_tagInto 6 = .ok (.getfield 16, 3) := by decide +kernel
theorem d_Tg_tagInto_9 : decode c_Tg_tagInto 9 = .ok (.aload_n 0, 1) := by decide +kernel
theorem d_Tg_tagInto_10 : decode c_Tg_tagInto 10 = .ok (.getfield 26, 3) := by decide +kernel
theorem d_Tg_tagInto_13 : decode c_Tg_tagInto 13 = .ok (.iconst 0, 1) := by decide +kernel
theorem d_Tg_tagInto_14 : decode c_Tg_tagInto 14 = .ok (.invokevirtual 41, 3) := by decide +kernel
theorem d_Tg_tagInto_17 : decode c_Tg_tagInto 17 = .ok (.iconst 0, 1) := by decide +kernel
theorem d_Tg_tagInto_18 : decode c_Tg_tagInto 18 = .ok (.istore 6, 2) := by decide +kernel
theorem d_Tg_tagInto_20 : decode c_Tg_tagInto 20 = .ok (.iload 6, 2) := by decide +kernel
theorem d_Tg_tagInto_22 : decode c_Tg_tagInto 22 = .ok (.iload 4, 2) := by decide +kernel
theorem d_Tg_tagInto_24 : decode c_Tg_tagInto 24 = .ok (.if_icmp .ge 28, 3) := by decide +kernel
theorem d_Tg_tagInto_27 : decode c_Tg_tagInto 27 = .ok (.aload_n 0, 1) := by decide +kernel
theorem d_Tg_tagInto_28 : decode c_Tg_tagInto 28 = .ok (.aload_n 2, 1) := by decide +kernel
theorem d_Tg_tagInto_29 : decode c_Tg_tagInto 29 = .ok (.iload_n 3, 1) := by decide +kernel
theorem d_Tg_tagInto_30 : decode c_Tg_tagInto 30 = .ok (.iload 6, 2) := by decide +kernel
theorem d_Tg_tagInto_32 : decode c_Tg_tagInto 32 = .ok (.iadd, 1) := by decide +kernel
theorem d_Tg_tagInto_33 : decode c_Tg_tagInto 33 = .ok (.bipush 16, 2) := by decide +kernel
theorem d_Tg_tagInto_35 : decode c_Tg_tagInto 35 = .ok (.iload 4, 2) := by decide +kernel
theorem d_Tg_tagInto_37 : decode c_Tg_tagInto 37 = .ok (.iload 6, 2) := by decide +kernel
theorem d_Tg_tagInto_39 : decode c_Tg_tagInto 39 = .ok (.isub, 1) := by decide +kernel
theorem d_Tg_tagInto_40 : decode c_Tg_tagInto 40 = .ok (.invokestatic 45, 3) := by decide +kernel
theorem d_Tg_tagInto_43 : decode c_Tg_tagInto 43 = .ok (.invokevirtual 51, 3) := by decide +kernel
theorem d_Tg_tagInto_46 : decode c_Tg_tagInto 46 = .ok (.iinc 6 16, 3) := by decide +kernel
theorem d_Tg_tagInto_49 : decode c_Tg_tagInto 49 = .ok (.goto (-29), 3) := by decide +kernel
theorem d_Tg_tagInto_52 : decode c_Tg_tagInto 52 = .ok (.aload_n 0, 1) := by decide +kernel
theorem d_Tg_tagInto_53 : decode c_Tg_tagInto 53 = .ok (.getfield 16, 3) := by decide +kernel
theorem d_Tg_tagInto_56 : decode c_Tg_tagInto 56 = .ok (.aload_n 0, 1) := by decide +kernel
theorem d_Tg_tagInto_57 : decode c_Tg_tagInto 57 = .ok (.getfield 26, 3) := by decide +kernel
theorem d_Tg_tagInto_60 : decode c_Tg_tagInto 60 = .ok (.invokevirtual 55, 3) := by decide +kernel
theorem d_Tg_tagInto_63 : decode c_Tg_tagInto 63 = .ok (.aload_n 0, 1) := by decide +kernel
theorem d_Tg_tagInto_64 : decode c_Tg_tagInto 64 = .ok (.getfield 16, 3) := by decide +kernel
theorem d_Tg_tagInto_67 : decode c_Tg_tagInto 67 = .ok (.aload_n 1, 1) := by decide +kernel
theorem d_Tg_tagInto_68 : decode c_Tg_tagInto 68 = .ok (.bipush 16, 2) := by decide +kernel
theorem d_Tg_tagInto_70 : decode c_Tg_tagInto 70 = .ok (.bipush 16, 2) := by decide +kernel
theorem d_Tg_tagInto_72 : decode c_Tg_tagInto 72 = .ok (.aload_n 0, 1) := by decide +kernel
theorem d_Tg_tagInto_73 : decode c_Tg_tagInto 73 = .ok (.getfield 26, 3) := by decide +kernel
theorem d_Tg_tagInto_76 : decode c_Tg_tagInto 76 = .ok (.invokevirtual 59, 3) := by decide +kernel
theorem d_Tg_tagInto_79 : decode c_Tg_tagInto 79 = .ok (.aload_n 0, 1) := by decide +kernel
theorem d_Tg_tagInto_80 : decode c_Tg_tagInto 80 = .ok (.getfield 16, 3) := by decide +kernel
theorem d_Tg_tagInto_83 : decode c_Tg_tagInto 83 = .ok (.aload_n 0, 1) := by decide +kernel
theorem d_Tg_tagInto_84 : decode c_Tg_tagInto 84 = .ok (.getfield 26, 3) := by decide +kernel
theorem d_Tg_tagInto_87 : decode c_Tg_tagInto 87 = .ok (.aload 5, 2) := by decide +kernel
theorem d_Tg_tagInto_89 : decode c_Tg_tagInto 89 = .ok (.bipush 16, 2) := by decide +kernel
theorem d_Tg_tagInto_91 : decode c_Tg_tagInto 91 = .ok (.invokevirtual 63, 3) := by decide +kernel
theorem d_Tg_tagInto_94 : decode c_Tg_tagInto 94 = .ok (.return_, 1) := by decide +kernel
set_option maxRecDepth 100000 in
set_option maxHeartbeats 4000000 in
/-- TAG -/
theorem m_Tg_tagInto (l : Launch) (G : wG) (A : Nat → Prop) (ad : Nat → Nat) (ev : Nat → va_E) (qk qx qt Nk Nx Nt o n : Nat) (K X T BY : Nat → Nat) (r14 r15 r16 : Row) (h12 : ev 12 = eO 3 [.ref (ad 13), .ref (ad 15), .ref (ad 16), .ref (ad 17)]) (h13 : ev 13 = eO 1 [.int (nI 5), .int (nI 26), .long 5, .long 5, .ref (ad 14)]) (hqk : qk < 52) (hqx : qx < 52) (hqt : qt < 52) (hk : ev qk = eB G Nk (bs K)) (hx' : ev qx = eB G Nx (bs X)) (ht : ev qt = eB G Nt (bs T)) (hK : ∀ j, K j < 256) (hX : ∀ j, X j < 256) (h14 : ev 14 = eJ G 10 r14) (h15 : ev 15 = eJ G 5 r15) (h16 : ev 16 = eJ G 5 r16) (h17 : ev 17 = eB G 16 (bs BY)) (nk : 32 ≤ Nk) (nk2 : Nk < 2 ^ 30) (nx : o + n ≤ Nx) (nx2 : Nx < 2 ^ 30) (nt : 16 ≤ Nt) (nt2 : Nt < 2 ^ 30) (kq : qk < 12 ∨ 17 < qk) (xq : qx < 12 ∨ 17 < qx) (tq : qt < 12 ∨ 17 < qt) : wM l y_Tg_tagInto w_Tg_tagInto ({ frames := 15, cells := 0, slots := 0, locals := 500 }) G A 52 ad ev [.ref (ad 12), .ref (ad qk), .ref (ad qx), .int (nI (o)), .int (nI (n)), .ref (ad qt)] (fun ov ev' => ∃ Wd : Row, ov = none ∧ ev' = (va_up (va_up (va_up (va_up (va_up ev 14 (eJ G 10 Wd)) 15 (eJ G 5 (tagRow K X o n))) 16 (eJ G 5 (fRow K))) 17 (eB G 16 (bs (FCT K)))) qt (eB G Nt (bs (fil 0 16 (TAGB K X o n) T))))) := by
  refine wv_ofW (cc := c_Tg_tagInto) (maxL := 7) (ret := none) (by decide) rfl (Nat.le_of_ble_eq_true rfl) ?_
  intro p e s m below meth c ls hx hb hr hml hts hown hlocks hini h hl
  have hl : lv_has ls 7 [(0, .ref (ad 12)), (1, .ref (ad qk)), (2, .ref (ad qx)), (3, .int (nI (o))), (4, .int (nI (n))), (5, .ref (ad qt))] := hl
  refine lv_aload_n hx hb d_Tg_tagInto_0 rfl (lv_at hl 0 rfl) ?_
  refine lv_aload_n hx hb d_Tg_tagInto_1 rfl (lv_at hl 1 rfl) ?_
  refine wv_V (As := [.ref (ad qk)]) (rest := []) (k := 1) ⟨hx, hb, hml, hown, hts⟩ h 12 (by decide) (C := "NonceBox$Tagger") h12 rfl (m_Tg_readFactor l G A ad ev qk Nk K BY r16 h12 h13 hqk hk hK h16 h17 (by omega) nk2 (by omega)) kc_Tg_readFactor kl_Tg_37 km_Tg_readFactor kv_Tg_readFactor ki_Tg (by decide +kernel) ⟨rfl, rfl, Nat.le_of_ble_eq_true rfl, Nat.le_of_ble_eq_true rfl⟩ hl.1 rfl rfl (Nat.le_of_ble_eq_true rfl) ⟨Nat.le_refl _, Nat.le_refl _⟩ d_Tg_tagInto_2 ?_
  intro ov ev1 H locs hp h
  rw [hp.1]
  refine W.eq (g2 := F0 m 5 ls []) rfl ?_
  have o1 : ev1 = (va_up (va_up ev 17 (eB G 16 (bs (FCT K)))) 16 (eJ G 5 (fRow K))) := hp.2
  have t1_17 : ev1 17 = eB G 16 (bs (FCT K)) := by rw [o1, va_up_ne _ _ (by decide), va_up_self]
  have t1_16 : ev1 16 = eJ G 5 (fRow K) := by rw [o1, va_up_self]
  have t1_qk := (show ev1 qk = ev qk by rw [o1, va_up_ne _ _ (by omega), va_up_ne _ _ (by omega)]).trans hk
  have t1_qx := (show ev1 qx = ev qx by rw [o1, va_up_ne _ _ (by omega), va_up_ne _ _ (by omega)]).trans hx'
  have t1_qt := (show ev1 qt = ev qt by rw [o1, va_up_ne _ _ (by omega), va_up_ne _ _ (by omega)]).trans ht
  have t1_14 := (show ev1 14 = ev 14 by rw [o1, va_up_ne _ _ (by decide), va_up_ne _ _ (by decide)]).trans h14
  have t1_15 := (show ev1 15 = ev 15 by rw [o1, va_up_ne _ _ (by decide), va_up_ne _ _ (by decide)]).trans h15
  have t1_12 := (show ev1 12 = ev 12 by rw [o1, va_up_ne _ _ (by decide), va_up_ne _ _ (by decide)]).trans h12
  have t1_13 := (show ev1 13 = ev 13 by rw [o1, va_up_ne _ _ (by decide), va_up_ne _ _ (by decide)]).trans h13
  refine lv_aload_n hx hb d_Tg_tagInto_5 rfl (lv_at hl 0 rfl) ?_
  refine wv_getf hx hb h 12 (by decide) (fs := [.ref (ad 13), .ref (ad 15), .ref (ad 16), .ref (ad 17)]) t1_12 hts (fun w hw => List.mem_cons_of_mem _ (fW_Tg w hw)) hown (ci := 3) (C := "NonceBox$Tagger") (T := fT_Tg) (N := 4) rfl 0 (by decide) (hts _ (List.mem_cons_of_mem _ kf_Tg_16)) rfl (v := .ref (ad 13)) rfl d_Tg_tagInto_6 ?_
  refine lv_aload_n hx hb d_Tg_tagInto_9 rfl (lv_at hl 0 rfl) ?_
  refine wv_getf hx hb h 12 (by decide) (fs := [.ref (ad 13), .ref (ad 15), .ref (ad 16), .ref (ad 17)]) t1_12 hts (fun w hw => List.mem_cons_of_mem _ (fW_Tg w hw)) hown (ci := 3) (C := "NonceBox$Tagger") (T := fT_Tg) (N := 4) rfl 1 (by decide) (hts _ (List.mem_cons_of_mem _ kf_Tg_26)) rfl (v := .ref (ad 15)) rfl d_Tg_tagInto_10 ?_
  refine lv_iconst (v := nI (0)) hx hb d_Tg_tagInto_13 (by decide) ?_
  refine wv_V (As := [.ref (ad 15), .int (nI (0))]) (rest := []) (k := 2) ⟨hx, hb, hml, hown, hts⟩ h 13 (by decide) (C := "NonceBox$Field") t1_13 rfl (m_Fd_setTo l G A ad ev1 13 15 5 r15 (nI 0) (by decide) t1_15 (by decide) (by decide)) kc_Fd_setTo kl_Tg_41 km_Fd_setTo kv_Fd_setTo ki_Fd (by decide +kernel) ⟨rfl, rfl, Nat.le_of_ble_eq_true rfl, Nat.le_of_ble_eq_true rfl⟩ hl.1 rfl rfl (Nat.le_of_ble_eq_true rfl) ⟨Nat.le_refl _, Nat.le_refl _⟩ d_Tg_tagInto_14 ?_
  intro ov ev2 H locs hp h
  rw [hp.1]
  refine W.eq (g2 := F0 m 17 ls []) rfl ?_
  have o2 : ev2 = (va_up ev1 15 (eJ G 5 (rowV 0))) := hp.2
  have t2_15 : ev2 15 = eJ G 5 (rowV 0) := by rw [o2, va_up_self]
  have t2_qk := (show ev2 qk = ev1 qk by rw [o2, va_up_ne _ _ (by omega)]).trans t1_qk
  have t2_qx := (show ev2 qx = ev1 qx by rw [o2, va_up_ne _ _ (by omega)]).trans t1_qx
  have t2_qt := (show ev2 qt = ev1 qt by rw [o2, va_up_ne _ _ (by omega)]).trans t1_qt
  have t2_14 := (show ev2 14 = ev1 14 by rw [o2, va_up_ne _ _ (by decide)]).trans t1_14
  have t2_16 := (show ev2 16 = ev1 16 by rw [o2, va_up_ne _ _ (by decide)]).trans t1_16
  have t2_17 := (show ev2 17 = ev1 17 by rw [o2, va_up_ne _ _ (by decide)]).trans t1_17
  have t2_12 := (show ev2 12 = ev1 12 by rw [o2, va_up_ne _ _ (by decide)]).trans t1_12
  have t2_13 := (show ev2 13 = ev1 13 by rw [o2, va_up_ne _ _ (by decide)]).trans t1_13
  refine lv_iconst (v := nI (0)) hx hb d_Tg_tagInto_17 (by decide) ?_
  refine lv_istore (lv' := [(6, .int (nI (0))), (0, .ref (ad 12)), (1, .ref (ad qk)), (2, .ref (ad qx)), (3, .int (nI (o))), (4, .int (nI (n))), (5, .ref (ad qt))]) hx hb d_Tg_tagInto_18 hl (by decide) rfl (fun ls hl => ?_)
  have loop3 : ∀ (d k : Nat), k + d = (n + 15) / 16 → ∀ (Wd : Row),  ∀ (ev3 : Nat → va_E) (H : Heap) (locs : List Loc) (ls : Array Slot), ev3 = (va_up (va_up ev2 14 (eJ G 10 Wd)) 15 (eJ G 5 (tgS (fRow K) X o n k))) → wT G A 52 ad ev3 s H locs → lv_has ls 7 [(6, .int (nI (16 * k))), (0, .ref (ad 12)), (1, .ref (ad qk)), (2, .ref (ad qx)), (3, .int (nI (o))), (4, .int (nI (n))), (5, .ref (ad qt))] → W p l e ({ frames := 15, cells := 0, slots := 0, locals := 500 }) s m ([.ref (ad 12), .ref (ad qk), .ref (ad qx), .int (nI (o)), .int (nI (n)), .ref (ad qt)] : List Value).toArray below meth c H locs 0 0 (MQ below (wQc G A 52 ad (fun ov ev' => ∃ Wd : Row, ov = none ∧ ev' = (va_up (va_up (va_up (va_up (va_up ev 14 (eJ G 10 Wd)) 15 (eJ G 5 (tagRow K X o n))) 16 (eJ G 5 (fRow K))) 17 (eB G 16 (bs (FCT K)))) qt (eB G Nt (bs (fil 0 16 (TAGB K X o n) T)))))) ([.ref (ad 12), .ref (ad qk), .ref (ad qx), .int (nI (o)), .int (nI (n)), .ref (ad qt)] : List Value).toArray s 0 0 A) (F0 m 20 ls []) := by
    intro d
    induction d with
    | zero =>
      intro k hk_k Wd ev3 H locs ls  o3 h hl
      have t3_14 : ev3 14 = eJ G 10 Wd := by rw [o3, va_up_ne _ _ (by decide), va_up_self]
      have t3_15 : ev3 15 = eJ G 5 (tgS (fRow K) X o n k) := by rw [o3, va_up_self]
      have t3_qk := (show ev3 qk = ev2 qk by rw [o3, va_up_ne _ _ (by omega), va_up_ne _ _ (by omega)]).trans t2_qk
      have t3_qx := (show ev3 qx = ev2 qx by rw [o3, va_up_ne _ _ (by omega), va_up_ne _ _ (by omega)]).trans t2_qx
      have t3_qt := (show ev3 qt = ev2 qt by rw [o3, va_up_ne _ _ (by omega), va_up_ne _ _ (by omega)]).trans t2_qt
      have t3_16 := (show ev3 16 = ev2 16 by rw [o3, va_up_ne _ _ (by decide), va_up_ne _ _ (by decide)]).trans t2_16
      have t3_17 := (show ev3 17 = ev2 17 by rw [o3, va_up_ne _ _ (by decide), va_up_ne _ _ (by decide)]).trans t2_17
      have t3_12 := (show ev3 12 = ev2 12 by rw [o3, va_up_ne _ _ (by decide), va_up_ne _ _ (by decide)]).trans t2_12
      have t3_13 := (show ev3 13 = ev2 13 by rw [o3, va_up_ne _ _ (by decide), va_up_ne _ _ (by decide)]).trans t2_13
      refine lv_iload hx hb d_Tg_tagInto_20 (lv_at hl 0 rfl) ?_
      refine lv_iload hx hb d_Tg_tagInto_22 (lv_at hl 5 rfl) ?_
      refine lv_icmp_ge (tgt := 52) hx hb d_Tg_tagInto_24 (by decide) (fun _ => ?_) (fun hc => absurd ((nI_leI (by omega) (by omega)).mpr (by omega)) hc)
      refine lv_aload_n hx hb d_Tg_tagInto_52 rfl (lv_at hl 1 rfl) ?_
      refine wv_getf hx hb h 12 (by decide) (fs := [.ref (ad 13), .ref (ad 15), .ref (ad 16), .ref (ad 17)]) t3_12 hts (fun w hw => List.mem_cons_of_mem _ (fW_Tg w hw)) hown (ci := 3) (C := "NonceBox$Tagger") (T := fT_Tg) (N := 4) rfl 0 (by decide) (hts _ (List.mem_cons_of_mem _ kf_Tg_16)) rfl (v := .ref (ad 13)) rfl d_Tg_tagInto_53 ?_
      refine lv_aload_n hx hb d_Tg_tagInto_56 rfl (lv_at hl 1 rfl) ?_
      refine wv_getf hx hb h 12 (by decide) (fs := [.ref (ad 13), .ref (ad 15), .ref (ad 16), .ref (ad 17)]) t3_12 hts (fun w hw => List.mem_cons_of_mem _ (fW_Tg w hw)) hown (ci := 3) (C := "NonceBox$Tagger") (T := fT_Tg) (N := 4) rfl 1 (by decide) (hts _ (List.mem_cons_of_mem _ kf_Tg_26)) rfl (v := .ref (ad 15)) rfl d_Tg_tagInto_57 ?_
      refine wv_V (As := [.ref (ad 15)]) (rest := []) (k := 1) ⟨hx, hb, hml, hown, hts⟩ h 13 (by decide) (C := "NonceBox$Field") t3_13 rfl (m_Fd_settle l G A ad ev3 13 14 5 26 5 5 (by decide) t3_13 (by decide) (by decide) 15 (tgS (fRow K) X o n k) (by decide) t3_15 (by decide)) kc_Fd_settle kl_Tg_55 km_Fd_settle kv_Fd_settle ki_Fd (by decide +kernel) ⟨rfl, rfl, Nat.le_of_ble_eq_true rfl, Nat.le_of_ble_eq_true rfl⟩ hl.1 rfl rfl (Nat.le_of_ble_eq_true rfl) ⟨Nat.le_refl _, Nat.le_refl _⟩ d_Tg_tagInto_60 ?_
      intro ov ev4 H locs hp h
      rw [hp.1]
      refine W.eq (g2 := F0 m 63 ls []) rfl ?_
      have o4 : ev4 = (va_up ev3 15 (eJ G 5 (stl 5 26 5 (tgS (fRow K) X o n k)))) := hp.2
      have t4_15 : ev4 15 = eJ G 5 (stl 5 26 5 (tgS (fRow K) X o n k)) := by rw [o4, va_up_self]
      have t4_qk := (show ev4 qk = ev3 qk by rw [o4, va_up_ne _ _ (by omega)]).trans t3_qk
      have t4_qx := (show ev4 qx = ev3 qx by rw [o4, va_up_ne _ _ (by omega)]).trans t3_qx
      have t4_qt := (show ev4 qt = ev3 qt by rw [o4, va_up_ne _ _ (by omega)]).trans t3_qt
      have t4_14 := (show ev4 14 = ev3 14 by rw [o4, va_up_ne _ _ (by decide)]).trans t3_14
      have t4_16 := (show ev4 16 = ev3 16 by rw [o4, va_up_ne _ _ (by decide)]).trans t3_16
      have t4_17 := (show ev4 17 = ev3 17 by rw [o4, va_up_ne _ _ (by decide)]).trans t3_17
      have t4_12 := (show ev4 12 = ev3 12 by rw [o4, va_up_ne _ _ (by decide)]).trans t3_12
      have t4_13 := (show ev4 13 = ev3 13 by rw [o4, va_up_ne _ _ (by decide)]).trans t3_13
      refine lv_aload_n hx hb d_Tg_tagInto_63 rfl (lv_at hl 1 rfl) ?_
      refine wv_getf hx hb h 12 (by decide) (fs := [.ref (ad 13), .ref (ad 15), .ref (ad 16), .ref (ad 17)]) t4_12 hts (fun w hw => List.mem_cons_of_mem _ (fW_Tg w hw)) hown (ci := 3) (C := "NonceBox$Tagger") (T := fT_Tg) (N := 4) rfl 0 (by decide) (hts _ (List.mem_cons_of_mem _ kf_Tg_16)) rfl (v := .ref (ad 13)) rfl d_Tg_tagInto_64 ?_
      refine lv_aload_n hx hb d_Tg_tagInto_67 rfl (lv_at hl 2 rfl) ?_
      refine lv_bipush (v := nI (16)) hx hb d_Tg_tagInto_68 (by decide) ?_
      refine lv_bipush (v := nI (16)) hx hb d_Tg_tagInto_70 (by decide) ?_
      refine lv_aload_n hx hb d_Tg_tagInto_72 rfl (lv_at hl 1 rfl) ?_
      refine wv_getf hx hb h 12 (by decide) (fs := [.ref (ad 13), .ref (ad 15), .ref (ad 16), .ref (ad 17)]) t4_12 hts (fun w hw => List.mem_cons_of_mem _ (fW_Tg w hw)) hown (ci := 3) (C := "NonceBox$Tagger") (T := fT_Tg) (N := 4) rfl 1 (by decide) (hts _ (List.mem_cons_of_mem _ kf_Tg_26)) rfl (v := .ref (ad 15)) rfl d_Tg_tagInto_73 ?_
      refine wv_V (As := [.ref (ad qk), .int (nI (16)), .int (nI (16)), .ref (ad 15)]) (rest := []) (k := 4) ⟨hx, hb, hml, hown, hts⟩ h 13 (by decide) (C := "NonceBox$Field") t4_13 rfl (m_Fd_addBytes l G A ad ev4 13 0 _ (by decide) t4_13 qk 15 5 Nk 16 16 K (stl 5 26 5 (tgS (fRow K) X o n k)) hqk (by decide) t4_qk hK t4_15 (by decide) (by omega) (by decide) (by decide) (by omega) nk2 (by decide) (by decide)) kc_Fd_addBytes kl_Tg_59 km_Fd_addBytes kv_Fd_addBytes ki_Fd (by decide +kernel) ⟨rfl, rfl, Nat.le_of_ble_eq_true rfl, Nat.le_of_ble_eq_true rfl⟩ hl.1 rfl rfl (Nat.le_of_ble_eq_true rfl) ⟨Nat.le_refl _, Nat.le_refl _⟩ d_Tg_tagInto_76 ?_
      intro ov ev5 H locs hp h
      rw [hp.1]
      refine W.eq (g2 := F0 m 79 ls []) rfl ?_
      have o5 : ev5 = (va_up ev4 15 (eJ G 5 (cry (adBs K 16 (stl 5 26 5 (tgS (fRow K) X o n k)) 16) 4))) := hp.2
      have t5_15 : ev5 15 = eJ G 5 (cry (adBs K 16 (stl 5 26 5 (tgS (fRow K) X o n k)) 16) 4) := by rw [o5, va_up_self]
      have t5_qk := (show ev5 qk = ev4 qk by rw [o5, va_up_ne _ _ (by omega)]).trans t4_qk
      have t5_qx := (show ev5 qx = ev4 qx by rw [o5, va_up_ne _ _ (by omega)]).trans t4_qx
      have t5_qt := (show ev5 qt = ev4 qt by rw [o5, va_up_ne _ _ (by omega)]).trans t4_qt
      have t5_14 := (show ev5 14 = ev4 14 by rw [o5, va_up_ne _ _ (by decide)]).trans t4_14
      have t5_16 := (show ev5 16 = ev4 16 by rw [o5, va_up_ne _ _ (by decide)]).trans t4_16
      have t5_17 := (show ev5 17 = ev4 17 by rw [o5, va_up_ne _ _ (by decide)]).trans t4_17
      have t5_12 := (show ev5 12 = ev4 12 by rw [o5, va_up_ne _ _ (by decide)]).trans t4_12
      have t5_13 := (show ev5 13 = ev4 13 by rw [o5, va_up_ne _ _ (by decide)]).trans t4_13
      rw [show k = (n + 15) / 16 by omega] at o5 t5_15
      have t5_15x : ev5 15 = eJ G 5 (tagRow K X o n) := t5_15
      refine lv_aload_n hx hb d_Tg_tagInto_79 rfl (lv_at hl 1 rfl) ?_
      refine wv_getf hx hb h 12 (by decide) (fs := [.ref (ad 13), .ref (ad 15), .ref (ad 16), .ref (ad 17)]) t5_12 hts (fun w hw => List.mem_cons_of_mem _ (fW_Tg w hw)) hown (ci := 3) (C := "NonceBox$Tagger") (T := fT_Tg) (N := 4) rfl 0 (by decide) (hts _ (List.mem_cons_of_mem _ kf_Tg_16)) rfl (v := .ref (ad 13)) rfl d_Tg_tagInto_80 ?_
      refine lv_aload_n hx hb d_Tg_tagInto_83 rfl (lv_at hl 1 rfl) ?_
      refine wv_getf hx hb h 12 (by decide) (fs := [.ref (ad 13), .ref (ad 15), .ref (ad 16), .ref (ad 17)]) t5_12 hts (fun w hw => List.mem_cons_of_mem _ (fW_Tg w hw)) hown (ci := 3) (C := "NonceBox$Tagger") (T := fT_Tg) (N := 4) rfl 1 (by decide) (hts _ (List.mem_cons_of_mem _ kf_Tg_26)) rfl (v := .ref (ad 15)) rfl d_Tg_tagInto_84 ?_
      refine lv_aload hx hb d_Tg_tagInto_87 (lv_at hl 6 rfl) ?_
      refine lv_bipush (v := nI (16)) hx hb d_Tg_tagInto_89 (by decide) ?_
      refine wv_V (As := [.ref (ad 15), .ref (ad qt), .int (nI (16))]) (rest := []) (k := 3) ⟨hx, hb, hml, hown, hts⟩ h 13 (by decide) (C := "NonceBox$Field") t5_13 rfl (m_Fd_writeBytes l G A ad ev5 13 14 5 26 5 5 (by decide) t5_13 (by decide) (by decide) 15 qt Nt 16 (tagRow K X o n) T (by decide) hqt t5_15x t5_qt (by omega) (by omega) (by decide) nt nt2) kc_Fd_writeBytes kl_Tg_63 km_Fd_writeBytes kv_Fd_writeBytes ki_Fd (by decide +kernel) ⟨rfl, rfl, Nat.le_of_ble_eq_true rfl, Nat.le_of_ble_eq_true rfl⟩ hl.1 rfl rfl (Nat.le_of_ble_eq_true rfl) ⟨Nat.le_refl _, Nat.le_refl _⟩ d_Tg_tagInto_91 ?_
      intro ov ev6 H locs hp h
      rw [hp.1]
      refine W.eq (g2 := F0 m 94 ls []) rfl ?_
      have o6 : ev6 = (va_up ev5 qt (eB G Nt (bs (fil 0 16 (TAGB K X o n) T)))) := hp.2
      have t6_qt : ev6 qt = eB G Nt (bs (fil 0 16 (TAGB K X o n) T)) := by rw [o6, va_up_self]
      have t6_14 := (show ev6 14 = ev5 14 by rw [o6, va_up_ne _ _ (by omega)]).trans t5_14
      have t6_15 := (show ev6 15 = ev5 15 by rw [o6, va_up_ne _ _ (by omega)]).trans t5_15x
      have t6_16 := (show ev6 16 = ev5 16 by rw [o6, va_up_ne _ _ (by omega)]).trans t5_16
      have t6_17 := (show ev6 17 = ev5 17 by rw [o6, va_up_ne _ _ (by omega)]).trans t5_17
      have t6_12 := (show ev6 12 = ev5 12 by rw [o6, va_up_ne _ _ (by omega)]).trans t5_12
      have t6_13 := (show ev6 13 = ev5 13 by rw [o6, va_up_ne _ _ (by omega)]).trans t5_13
      refine wv_vret hx hb hr hlocks h d_Tg_tagInto_94 ⟨Wd, rfl, ?_⟩
      funext j
      by_cases c0 : j = 14
      · rw [c0, t6_14, va_up_ne _ _ (by omega), va_up_ne _ _ (by decide), va_up_ne _ _ (by decide), va_up_ne _ _ (by decide), va_up_self]
      by_cases c1 : j = 15
      · rw [c1, t6_15, va_up_ne _ _ (by omega), va_up_ne _ _ (by decide), va_up_ne _ _ (by decide), va_up_self]
      by_cases c2 : j = 16
      · rw [c2, t6_16, va_up_ne _ _ (by omega), va_up_ne _ _ (by decide), va_up_self]
      by_cases c3 : j = 17
      · rw [c3, t6_17, va_up_ne _ _ (by omega), va_up_self]
      by_cases c4 : j = qt
      · rw [c4, t6_qt, va_up_self]
      rw [va_up_ne _ _ c4, va_up_ne _ _ c3, va_up_ne _ _ c2, va_up_ne _ _ c1, va_up_ne _ _ c0]
      rw [o6, va_up_ne _ _ c4, o5, va_up_ne _ _ c1, o4, va_up_ne _ _ c1, o3, va_up_ne _ _ c1, va_up_ne _ _ c0, o2, va_up_ne _ _ c1, o1, va_up_ne _ _ c2, va_up_ne _ _ c3]
    | succ d ih =>
      intro k hk_k Wd ev3 H locs ls  o3 h hl
      have t3_14 : ev3 14 = eJ G 10 Wd := by rw [o3, va_up_ne _ _ (by decide), va_up_self]
      have t3_15 : ev3 15 = eJ G 5 (tgS (fRow K) X o n k) := by rw [o3, va_up_self]
      have t3_qk := (show ev3 qk = ev2 qk by rw [o3, va_up_ne _ _ (by omega), va_up_ne _ _ (by omega)]).trans t2_qk
      have t3_qx := (show ev3 qx = ev2 qx by rw [o3, va_up_ne _ _ (by omega), va_up_ne _ _ (by omega)]).trans t2_qx
      have t3_qt := (show ev3 qt = ev2 qt by rw [o3, va_up_ne _ _ (by omega), va_up_ne _ _ (by omega)]).trans t2_qt
      have t3_16 := (show ev3 16 = ev2 16 by rw [o3, va_up_ne _ _ (by decide), va_up_ne _ _ (by decide)]).trans t2_16
      have t3_17 := (show ev3 17 = ev2 17 by rw [o3, va_up_ne _ _ (by decide), va_up_ne _ _ (by decide)]).trans t2_17
      have t3_12 := (show ev3 12 = ev2 12 by rw [o3, va_up_ne _ _ (by decide), va_up_ne _ _ (by decide)]).trans t2_12
      have t3_13 := (show ev3 13 = ev2 13 by rw [o3, va_up_ne _ _ (by decide), va_up_ne _ _ (by decide)]).trans t2_13
      refine lv_iload hx hb d_Tg_tagInto_20 (lv_at hl 0 rfl) ?_
      refine lv_iload hx hb d_Tg_tagInto_22 (lv_at hl 5 rfl) ?_
      refine lv_icmp_ge (tgt := 52) hx hb d_Tg_tagInto_24 (by decide) (fun hc => absurd ((nI_leI (by omega) (by omega)).mp hc) (by omega)) (fun _ => ?_)
      refine lv_aload_n hx hb d_Tg_tagInto_27 rfl (lv_at hl 1 rfl) ?_
      refine lv_aload_n hx hb d_Tg_tagInto_28 rfl (lv_at hl 3 rfl) ?_
      refine lv_iload_n hx hb d_Tg_tagInto_29 rfl (lv_at hl 4 rfl) ?_
      refine lv_iload hx hb d_Tg_tagInto_30 (lv_at hl 0 rfl) ?_
      refine lv_iadd hx hb d_Tg_tagInto_32 ?_
      refine wv_top (nI_add _ _) ?_
      refine lv_bipush (v := nI (16)) hx hb d_Tg_tagInto_33 (by decide) ?_
      refine lv_iload hx hb d_Tg_tagInto_35 (lv_at hl 5 rfl) ?_
      refine lv_iload hx hb d_Tg_tagInto_37 (lv_at hl 0 rfl) ?_
      refine lv_isub hx hb d_Tg_tagInto_39 ?_
      refine wv_top (pk_sub (by omega)) ?_
      refine va_mmin hx hb (hml.trans hl.1.symm) hown (hts _ (List.mem_cons_of_mem _ kl_Tg_45)) (hts _ (List.mem_cons_of_mem _ ks_Ma_min)) (hts _ (List.mem_cons_of_mem _ ki_Ma)) (hts _ (List.mem_cons_of_mem _ kc_Ma_min)) (by decide) (Nat.le_of_ble_eq_true rfl) (Nat.le_refl _) (Nat.le_refl _) d_Tg_tagInto_40 ?_
      refine wv_top (jmin_eq (by omega) (by omega)) ?_
      refine wv_V (As := [.ref (ad qx), .int (nI (o + (16 * k))), .int (nI (min 16 (n - (16 * k))))]) (rest := []) (k := 3) ⟨hx, hb, hml, hown, hts⟩ h 12 (by decide) (C := "NonceBox$Tagger") t3_12 rfl (m_Tg_takePiece l G A ad ev3 qx Nx (o + 16 * k) (min 16 (n - 16 * k)) X (tgS (fRow K) X o n k) (fRow K) Wd t3_12 t3_13 hqx t3_qx hX t3_14 t3_15 t3_16 (by omega) (by omega) nx2 (by omega)) kc_Tg_takePiece kl_Tg_51 km_Tg_takePiece kv_Tg_takePiece ki_Tg (by decide +kernel) ⟨rfl, rfl, Nat.le_of_ble_eq_true rfl, Nat.le_of_ble_eq_true rfl⟩ hl.1 rfl rfl (Nat.le_of_ble_eq_true rfl) ⟨Nat.le_refl _, Nat.le_refl _⟩ d_Tg_tagInto_43 ?_
      intro ov ev4 H locs hp h
      obtain ⟨W2, hp⟩ := hp
      rw [hp.1]
      refine W.eq (g2 := F0 m 46 ls []) rfl ?_
      have o4 : ev4 = (va_up (va_up ev3 14 (eJ G 10 W2)) 15 (eJ G 5 (tgS (fRow K) X o n (k + 1)))) := hp.2
      have t4_14 : ev4 14 = eJ G 10 W2 := by rw [o4, va_up_ne _ _ (by decide), va_up_self]
      have t4_15 : ev4 15 = eJ G 5 (tgS (fRow K) X o n (k + 1)) := by rw [o4, va_up_self]
      have t4_qk := (show ev4 qk = ev3 qk by rw [o4, va_up_ne _ _ (by omega), va_up_ne _ _ (by omega)]).trans t3_qk
      have t4_qx := (show ev4 qx = ev3 qx by rw [o4, va_up_ne _ _ (by omega), va_up_ne _ _ (by omega)]).trans t3_qx
      have t4_qt := (show ev4 qt = ev3 qt by rw [o4, va_up_ne _ _ (by omega), va_up_ne _ _ (by omega)]).trans t3_qt
      have t4_16 := (show ev4 16 = ev3 16 by rw [o4, va_up_ne _ _ (by decide), va_up_ne _ _ (by decide)]).trans t3_16
      have t4_17 := (show ev4 17 = ev3 17 by rw [o4, va_up_ne _ _ (by decide), va_up_ne _ _ (by decide)]).trans t3_17
      have t4_12 := (show ev4 12 = ev3 12 by rw [o4, va_up_ne _ _ (by decide), va_up_ne _ _ (by decide)]).trans t3_12
      have t4_13 := (show ev4 13 = ev3 13 by rw [o4, va_up_ne _ _ (by decide), va_up_ne _ _ (by decide)]).trans t3_13
      refine lv_iinc (v := nI ((16 * k) + 16)) (lv' := [(6, .int (nI ((16 * k) + 16))), (0, .ref (ad 12)), (1, .ref (ad qk)), (2, .ref (ad qx)), (3, .int (nI (o))), (4, .int (nI (n))), (5, .ref (ad qt))]) hx hb d_Tg_tagInto_46 hl (k := 0) rfl (nI_add _ _) (by decide) rfl (fun ls hl => ?_)
      rw [show 16 * k + 16 = 16 * (k + 1) by omega] at hl
      refine lv_goto (tgt := 20) hx hb d_Tg_tagInto_49 (by decide) ?_
      refine ih (k + 1) (by omega) W2 ev4 H locs ls ?_ h (lv_sub hl [0, 1, 2, 3, 4, 5, 6] rfl)
      rw [o4, o3]
      funext j
      by_cases c0 : j = 14
      · subst c0; simp [va_up]
      by_cases c1 : j = 15
      · subst c1; simp [va_up]
      simp only [va_up, c0, c1, if_false]
  refine loop3 ((n + 15) / 16) 0 (by omega) r14 ev2 H locs ls ?_ h (lv_sub hl [0, 1, 2, 3, 4, 5, 6] rfl)
  rw [va_upi _ 14 t2_14]
  exact (va_upi _ 15 t2_15).symm
