theorem d_Mx_init_0 : decode c_Mx_init 0 = .ok (.aload_n 0, 1) := by decide +kernel
theorem d_Mx_init_1 : decode c_Mx_init 1 = .ok (.invokespecial 3, 3) := by decide +kernel
theorem d_Mx_init_4 : decode c_Mx_init 4 = .ok (.aload_n 0, 1) := by decide +kernel
theorem d_Mx_init_5 : decode c_Mx_init 5 = .ok (.bipush 16, 2) := by decide +kernel
theorem d_Mx_init_7 : decode c_Mx_init 7 = .ok (.newarray .int, 2) := by decide +kernel
theorem d_Mx_init_9 : decode c_Mx_init 9 = .ok (.putfield 11, 3) := by decide +kernel
theorem d_Mx_init_12 : decode c_Mx_init 12 = .ok (.aload_n 0, 1) := by decide +kernel
theorem d_Mx_init_13 : decode c_Mx_init 13 = .ok (.bipush 16, 2) := by decide +kernel
theorem d_Mx_init_15 : decode c_Mx_init 15 = .ok (.newarray .int, 2) := by decide +kernel
theorem d_Mx_init_17 : decode c_Mx_init 17 = .ok (.putfield 15, 3) := by decide +kernel
theorem d_Mx_init_20 : decode c_Mx_init 20 = .ok (.aload_n 0, 1) := by decide +kernel
theorem d_Mx_init_21 : decode c_Mx_init 21 = .ok (.bipush 32, 2) := by decide +kernel
theorem d_Mx_init_23 : decode c_Mx_init 23 = .ok (.newarray .byte, 2) := by decide +kernel
theorem d_Mx_init_25 : decode c_Mx_init 25 = .ok (.putfield 18, 3) := by decide +kernel
theorem d_Mx_init_28 : decode c_Mx_init 28 = .ok (.aload_n 0, 1) := by decide +kernel
theorem d_Mx_init_29 : decode c_Mx_init 29 = .ok (.bipush 16, 2) := by decide +kernel
theorem d_Mx_init_31 : decode c_Mx_init 31 = .ok (.newarray .byte, 2) := by decide +kernel
theorem d_Mx_init_33 : decode c_Mx_init 33 = .ok (.putfield 22, 3) := by decide +kernel
theorem d_Mx_init_36 : decode c_Mx_init 36 = .ok (.aload_n 0, 1) := by decide +kernel
theorem d_Mx_init_37 : decode c_Mx_init 37 = .ok (.sipush 128, 3) := by decide +kernel
theorem d_Mx_init_40 : decode c_Mx_init 40 = .ok (.newarray .byte, 2) := by decide +kernel
theorem d_Mx_init_42 : decode c_Mx_init 42 = .ok (.putfield 25, 3) := by decide +kernel
theorem d_Mx_init_45 : decode c_Mx_init 45 = .ok (.return_, 1) := by decide +kernel
set_option maxRecDepth 100000 in
set_option maxHeartbeats 4000000 in
/-- Mixer -/
theorem n_Mx (l : Launch) (G : wG) (A : Nat → Prop) (ad : Nat → Nat) (ev : Nat → va_E) (b : Nat) (hab : ad 6 = b) (hev : ev 6 = eO 2 [.null, .null, .null, .null, .null]) : wN l y_Mx_init w_Mx_init ({ frames := 3, cells := 5, slots := 208, locals := 100 }) G A 7 ad ev [.ref (b)] 5 208 (fun ov n' ad' ev' => ov = none ∧ n' = 12 ∧ (∀ k, k ≤ 6 → ad' k = ad k) ∧ (∀ k, k < 6 → ev' k = ev k) ∧ ev' 6 = eO 2 [.ref (ad' 7), .ref (ad' 8), .ref (ad' 9), .ref (ad' 10), .ref (ad' 11)] ∧ ev' 7 = eI G 16 (fun _ => 0) ∧ ev' 8 = eI G 16 (fun _ => 0) ∧ ev' 9 = eB G 32 (fun _ => 0) ∧ ev' 10 = eB G 16 (fun _ => 0) ∧ ev' 11 = eB G 128 (fun _ => 0)) := by
  refine wv_ofW (cc := c_Mx_init) (maxL := 1) (ret := none) (by decide) rfl (Nat.le_of_ble_eq_true rfl) ?_
  intro p e s m below meth c ls hx hb hr hml hts hown hlocks hini h hl
  have hl : lv_has ls 1 [(0, .ref (b))] := hl
  refine lv_aload_n hx hb d_Mx_init_0 rfl (lv_at hl 0 rfl) ?_
  refine wv_obj hx hb hown hts (List.mem_cons_of_mem _ kl_Mx_3) (List.mem_cons_of_mem _ km_Ob_init) (List.mem_cons_of_mem _ kc_Ob_init) (by rw [hml]; exact hl.1) d_Mx_init_1 (Nat.le_of_ble_eq_true rfl) (Nat.le_of_ble_eq_true rfl) ?_
  refine lv_aload_n hx hb d_Mx_init_4 rfl (lv_at hl 0 rfl) ?_
  refine lv_bipush (v := nI (16)) hx hb d_Mx_init_5 (by decide) ?_
  refine wv_newI hx hb (hts _ (List.mem_cons_of_mem _ ka_int)) h (N := 16) rfl (by decide) (Nat.le_of_ble_eq_true rfl) (Nat.le_of_ble_eq_true rfl) d_Mx_init_7 (fun q7 H h => ?_)
  obtain ⟨ev1, o1⟩ : ∃ z, z = va_up ev 7 (eI G 16 (fun _ => 0)) := ⟨_, rfl⟩
  rw [← o1] at h
  have u1_6 : ev1 6 = eO 2 [.null, .null, .null, .null, .null] := by rw [o1, va_up_ne _ _ (by decide)]; exact hev
  have u1_7 : ev1 7 = eI G 16 (fun _ => 0) := by rw [o1, va_up_self]
  obtain ⟨ad1, ha1⟩ : ∃ z, z = va_up ad 7 q7 := ⟨_, rfl⟩
  rw [← ha1] at h
  have a1_6 : ad1 6 = b := by rw [ha1, va_up_ne _ _ (by decide)]; exact hab
  have a1_7 : ad1 7 = q7 := by rw [ha1, va_up_self]
  refine wv_adr2 a1_6 ?_
  refine wv_putF hx hb h 6 (by decide) (fs := [.null, .null, .null, .null, .null]) u1_6 hts (fun w hw => List.mem_cons_of_mem _ (fW_Mx w hw)) fY_Mx fK_Mx fN_Mx hown (ci := 2) (C := "NonceBox$Mixer") (T := fT_Mx) (N := 5) rfl 0 (by decide) (hts _ (List.mem_cons_of_mem _ kf_Mx_11)) rfl rfl (hini rfl) rfl (v := .ref (q7)) rfl rfl (Nat.le_of_ble_eq_true rfl) d_Mx_init_9 (fun H locs h => ?_)
  have h : wT G A 8 ad1 (va_up ev1 6 (eO 2 [.ref (q7), .null, .null, .null, .null])) s H locs := h
  obtain ⟨ev2, o2⟩ : ∃ z, z = va_up ev1 6 (eO 2 [.ref (q7), .null, .null, .null, .null]) := ⟨_, rfl⟩
  rw [← o2] at h
  have u2_7 : ev2 7 = eI G 16 (fun _ => 0) := by rw [o2, va_up_ne _ _ (by decide)]; exact u1_7
  have u2_6 : ev2 6 = eO 2 [.ref (q7), .null, .null, .null, .null] := by rw [o2, va_up_self]
  refine lv_aload_n hx hb d_Mx_init_12 rfl (lv_at hl 0 rfl) ?_
  refine lv_bipush (v := nI (16)) hx hb d_Mx_init_13 (by decide) ?_
  refine wv_newI hx hb (hts _ (List.mem_cons_of_mem _ ka_int)) h (N := 16) rfl (by decide) (Nat.le_of_ble_eq_true rfl) (Nat.le_of_ble_eq_true rfl) d_Mx_init_15 (fun q8 H h => ?_)
  obtain ⟨ev3, o3⟩ : ∃ z, z = va_up ev2 8 (eI G 16 (fun _ => 0)) := ⟨_, rfl⟩
  rw [← o3] at h
  have u3_6 : ev3 6 = eO 2 [.ref (q7), .null, .null, .null, .null] := by rw [o3, va_up_ne _ _ (by decide)]; exact u2_6
  have u3_7 : ev3 7 = eI G 16 (fun _ => 0) := by rw [o3, va_up_ne _ _ (by decide)]; exact u2_7
  have u3_8 : ev3 8 = eI G 16 (fun _ => 0) := by rw [o3, va_up_self]
  obtain ⟨ad3, ha3⟩ : ∃ z, z = va_up ad1 8 q8 := ⟨_, rfl⟩
  rw [← ha3] at h
  have a3_6 : ad3 6 = b := by rw [ha3, va_up_ne _ _ (by decide)]; exact a1_6
  have a3_7 : ad3 7 = q7 := by rw [ha3, va_up_ne _ _ (by decide)]; exact a1_7
  have a3_8 : ad3 8 = q8 := by rw [ha3, va_up_self]
  refine wv_adr2 a3_6 ?_
  refine wv_putF hx hb h 6 (by decide) (fs := [.ref (q7), .null, .null, .null, .null]) u3_6 hts (fun w hw => List.mem_cons_of_mem _ (fW_Mx w hw)) fY_Mx fK_Mx fN_Mx hown (ci := 2) (C := "NonceBox$Mixer") (T := fT_Mx) (N := 5) rfl 1 (by decide) (hts _ (List.mem_cons_of_mem _ kf_Mx_15)) rfl rfl (hini rfl) rfl (v := .ref (q8)) rfl rfl (Nat.le_of_ble_eq_true rfl) d_Mx_init_17 (fun H locs h => ?_)
  have h : wT G A 9 ad3 (va_up ev3 6 (eO 2 [.ref (q7), .ref (q8), .null, .null, .null])) s H locs := h
  obtain ⟨ev4, o4⟩ : ∃ z, z = va_up ev3 6 (eO 2 [.ref (q7), .ref (q8), .null, .null, .null]) := ⟨_, rfl⟩
  rw [← o4] at h
  have u4_7 : ev4 7 = eI G 16 (fun _ => 0) := by rw [o4, va_up_ne _ _ (by decide)]; exact u3_7
  have u4_8 : ev4 8 = eI G 16 (fun _ => 0) := by rw [o4, va_up_ne _ _ (by decide)]; exact u3_8
  have u4_6 : ev4 6 = eO 2 [.ref (q7), .ref (q8), .null, .null, .null] := by rw [o4, va_up_self]
  refine lv_aload_n hx hb d_Mx_init_20 rfl (lv_at hl 0 rfl) ?_
  refine lv_bipush (v := nI (32)) hx hb d_Mx_init_21 (by decide) ?_
  refine wv_newB hx hb (hts _ (List.mem_cons_of_mem _ ka_byte)) h (N := 32) rfl (by decide) (Nat.le_of_ble_eq_true rfl) (Nat.le_of_ble_eq_true rfl) d_Mx_init_23 (fun q9 H h => ?_)
  obtain ⟨ev5, o5⟩ : ∃ z, z = va_up ev4 9 (eB G 32 (fun _ => 0)) := ⟨_, rfl⟩
  rw [← o5] at h
  have u5_6 : ev5 6 = eO 2 [.ref (q7), .ref (q8), .null, .null, .null] := by rw [o5, va_up_ne _ _ (by decide)]; exact u4_6
  have u5_7 : ev5 7 = eI G 16 (fun _ => 0) := by rw [o5, va_up_ne _ _ (by decide)]; exact u4_7
  have u5_8 : ev5 8 = eI G 16 (fun _ => 0) := by rw [o5, va_up_ne _ _ (by decide)]; exact u4_8
  have u5_9 : ev5 9 = eB G 32 (fun _ => 0) := by rw [o5, va_up_self]
  obtain ⟨ad5, ha5⟩ : ∃ z, z = va_up ad3 9 q9 := ⟨_, rfl⟩
  rw [← ha5] at h
  have a5_6 : ad5 6 = b := by rw [ha5, va_up_ne _ _ (by decide)]; exact a3_6
  have a5_7 : ad5 7 = q7 := by rw [ha5, va_up_ne _ _ (by decide)]; exact a3_7
  have a5_8 : ad5 8 = q8 := by rw [ha5, va_up_ne _ _ (by decide)]; exact a3_8
  have a5_9 : ad5 9 = q9 := by rw [ha5, va_up_self]
  refine wv_adr2 a5_6 ?_
  refine wv_putF hx hb h 6 (by decide) (fs := [.ref (q7), .ref (q8), .null, .null, .null]) u5_6 hts (fun w hw => List.mem_cons_of_mem _ (fW_Mx w hw)) fY_Mx fK_Mx fN_Mx hown (ci := 2) (C := "NonceBox$Mixer") (T := fT_Mx) (N := 5) rfl 2 (by decide) (hts _ (List.mem_cons_of_mem _ kf_Mx_18)) rfl rfl (hini rfl) rfl (v := .ref (q9)) rfl rfl (Nat.le_of_ble_eq_true rfl) d_Mx_init_25 (fun H locs h => ?_)
  have h : wT G A 10 ad5 (va_up ev5 6 (eO 2 [.ref (q7), .ref (q8), .ref (q9), .null, .null])) s H locs := h
  obtain ⟨ev6, o6⟩ : ∃ z, z = va_up ev5 6 (eO 2 [.ref (q7), .ref (q8), .ref (q9), .null, .null]) := ⟨_, rfl⟩
  rw [← o6] at h
  have u6_7 : ev6 7 = eI G 16 (fun _ => 0) := by rw [o6, va_up_ne _ _ (by decide)]; exact u5_7
  have u6_8 : ev6 8 = eI G 16 (fun _ => 0) := by rw [o6, va_up_ne _ _ (by decide)]; exact u5_8
  have u6_9 : ev6 9 = eB G 32 (fun _ => 0) := by rw [o6, va_up_ne _ _ (by decide)]; exact u5_9
  have u6_6 : ev6 6 = eO 2 [.ref (q7), .ref (q8), .ref (q9), .null, .null] := by rw [o6, va_up_self]
  refine lv_aload_n hx hb d_Mx_init_28 rfl (lv_at hl 0 rfl) ?_
  refine lv_bipush (v := nI (16)) hx hb d_Mx_init_29 (by decide) ?_
  refine wv_newB hx hb (hts _ (List.mem_cons_of_mem _ ka_byte)) h (N := 16) rfl (by decide) (Nat.le_of_ble_eq_true rfl) (Nat.le_of_ble_eq_true rfl) d_Mx_init_31 (fun q10 H h => ?_)
  obtain ⟨ev7, o7⟩ : ∃ z, z = va_up ev6 10 (eB G 16 (fun _ => 0)) := ⟨_, rfl⟩
  rw [← o7] at h
  have u7_6 : ev7 6 = eO 2 [.ref (q7), .ref (q8), .ref (q9), .null, .null] := by rw [o7, va_up_ne _ _ (by decide)]; exact u6_6
  have u7_7 : ev7 7 = eI G 16 (fun _ => 0) := by rw [o7, va_up_ne _ _ (by decide)]; exact u6_7
  have u7_8 : ev7 8 = eI G 16 (fun _ => 0) := by rw [o7, va_up_ne _ _ (by decide)]; exact u6_8
  have u7_9 : ev7 9 = eB G 32 (fun _ => 0) := by rw [o7, va_up_ne _ _ (by decide)]; exact u6_9
  have u7_10 : ev7 10 = eB G 16 (fun _ => 0) := by rw [o7, va_up_self]
  obtain ⟨ad7, ha7⟩ : ∃ z, z = va_up ad5 10 q10 := ⟨_, rfl⟩
  rw [← ha7] at h
  have a7_6 : ad7 6 = b := by rw [ha7, va_up_ne _ _ (by decide)]; exact a5_6
  have a7_7 : ad7 7 = q7 := by rw [ha7, va_up_ne _ _ (by decide)]; exact a5_7
  have a7_8 : ad7 8 = q8 := by rw [ha7, va_up_ne _ _ (by decide)]; exact a5_8
  have a7_9 : ad7 9 = q9 := by rw [ha7, va_up_ne _ _ (by decide)]; exact a5_9
  have a7_10 : ad7 10 = q10 := by rw [ha7, va_up_self]
  refine wv_adr2 a7_6 ?_
  refine wv_putF hx hb h 6 (by decide) (fs := [.ref (q7), .ref (q8), .ref (q9), .null, .null]) u7_6 hts (fun w hw => List.mem_cons_of_mem _ (fW_Mx w hw)) fY_Mx fK_Mx fN_Mx hown (ci := 2) (C := "NonceBox$Mixer") (T := fT_Mx) (N := 5) rfl 3 (by decide) (hts _ (List.mem_cons_of_mem _ kf_Mx_22)) rfl rfl (hini rfl) rfl (v := .ref (q10)) rfl rfl (Nat.le_of_ble_eq_true rfl) d_Mx_init_33 (fun H locs h => ?_)
  have h : wT G A 11 ad7 (va_up ev7 6 (eO 2 [.ref (q7), .ref (q8), .ref (q9), .ref (q10), .null])) s H locs := h
  obtain ⟨ev8, o8⟩ : ∃ z, z = va_up ev7 6 (eO 2 [.ref (q7), .ref (q8), .ref (q9), .ref (q10), .null]) := ⟨_, rfl⟩
  rw [← o8] at h
  have u8_7 : ev8 7 = eI G 16 (fun _ => 0) := by rw [o8, va_up_ne _ _ (by decide)]; exact u7_7
  have u8_8 : ev8 8 = eI G 16 (fun _ => 0) := by rw [o8, va_up_ne _ _ (by decide)]; exact u7_8
  have u8_9 : ev8 9 = eB G 32 (fun _ => 0) := by rw [o8, va_up_ne _ _ (by decide)]; exact u7_9
  have u8_10 : ev8 10 = eB G 16 (fun _ => 0) := by rw [o8, va_up_ne _ _ (by decide)]; exact u7_10
  have u8_6 : ev8 6 = eO 2 [.ref (q7), .ref (q8), .ref (q9), .ref (q10), .null] := by rw [o8, va_up_self]
  refine lv_aload_n hx hb d_Mx_init_36 rfl (lv_at hl 0 rfl) ?_
  refine lv_sipush (v := nI (128)) hx hb d_Mx_init_37 (by decide) ?_
  refine wv_newB hx hb (hts _ (List.mem_cons_of_mem _ ka_byte)) h (N := 128) rfl (by decide) (Nat.le_of_ble_eq_true rfl) (Nat.le_of_ble_eq_true rfl) d_Mx_init_40 (fun q11 H h => ?_)
  obtain ⟨ev9, o9⟩ : ∃ z, z = va_up ev8 11 (eB G 128 (fun _ => 0)) := ⟨_, rfl⟩
  rw [← o9] at h
  have u9_6 : ev9 6 = eO 2 [.ref (q7), .ref (q8), .ref (q9), .ref (q10), .null] := by rw [o9, va_up_ne _ _ (by decide)]; exact u8_6
  have u9_7 : ev9 7 = eI G 16 (fun _ => 0) := by rw [o9, va_up_ne _ _ (by decide)]; exact u8_7
  have u9_8 : ev9 8 = eI G 16 (fun _ => 0) := by rw [o9, va_up_ne _ _ (by decide)]; exact u8_8
  have u9_9 : ev9 9 = eB G 32 (fun _ => 0) := by rw [o9, va_up_ne _ _ (by decide)]; exact u8_9
  have u9_10 : ev9 10 = eB G 16 (fun _ => 0) := by rw [o9, va_up_ne _ _ (by decide)]; exact u8_10
  have u9_11 : ev9 11 = eB G 128 (fun _ => 0) := by rw [o9, va_up_self]
  obtain ⟨ad9, ha9⟩ : ∃ z, z = va_up ad7 11 q11 := ⟨_, rfl⟩
  rw [← ha9] at h
  have a9_6 : ad9 6 = b := by rw [ha9, va_up_ne _ _ (by decide)]; exact a7_6
  have a9_7 : ad9 7 = q7 := by rw [ha9, va_up_ne _ _ (by decide)]; exact a7_7
  have a9_8 : ad9 8 = q8 := by rw [ha9, va_up_ne _ _ (by decide)]; exact a7_8
  have a9_9 : ad9 9 = q9 := by rw [ha9, va_up_ne _ _ (by decide)]; exact a7_9
  have a9_10 : ad9 10 = q10 := by rw [ha9, va_up_ne _ _ (by decide)]; exact a7_10
  have a9_11 : ad9 11 = q11 := by rw [ha9, va_up_self]
  refine wv_adr2 a9_6 ?_
  refine wv_putF hx hb h 6 (by decide) (fs := [.ref (q7), .ref (q8), .ref (q9), .ref (q10), .null]) u9_6 hts (fun w hw => List.mem_cons_of_mem _ (fW_Mx w hw)) fY_Mx fK_Mx fN_Mx hown (ci := 2) (C := "NonceBox$Mixer") (T := fT_Mx) (N := 5) rfl 4 (by decide) (hts _ (List.mem_cons_of_mem _ kf_Mx_25)) rfl rfl (hini rfl) rfl (v := .ref (q11)) rfl rfl (Nat.le_of_ble_eq_true rfl) d_Mx_init_42 (fun H locs h => ?_)
  have h : wT G A 12 ad9 (va_up ev9 6 (eO 2 [.ref (q7), .ref (q8), .ref (q9), .ref (q10), .ref (q11)])) s H locs := h
  obtain ⟨ev10, o10⟩ : ∃ z, z = va_up ev9 6 (eO 2 [.ref (q7), .ref (q8), .ref (q9), .ref (q10), .ref (q11)]) := ⟨_, rfl⟩
  rw [← o10] at h
  have u10_7 : ev10 7 = eI G 16 (fun _ => 0) := by rw [o10, va_up_ne _ _ (by decide)]; exact u9_7
  have u10_8 : ev10 8 = eI G 16 (fun _ => 0) := by rw [o10, va_up_ne _ _ (by decide)]; exact u9_8
  have u10_9 : ev10 9 = eB G 32 (fun _ => 0) := by rw [o10, va_up_ne _ _ (by decide)]; exact u9_9
  have u10_10 : ev10 10 = eB G 16 (fun _ => 0) := by rw [o10, va_up_ne _ _ (by decide)]; exact u9_10
  have u10_11 : ev10 11 = eB G 128 (fun _ => 0) := by rw [o10, va_up_ne _ _ (by decide)]; exact u9_11
  have u10_6 : ev10 6 = eO 2 [.ref (q7), .ref (q8), .ref (q9), .ref (q10), .ref (q11)] := by rw [o10, va_up_self]
  exact wv_nret hx hb hr hlocks h d_Mx_init_45 ⟨rfl, rfl, (fun k hk => by rw [ha9, va_up_ne _ _ (by omega), ha7, va_up_ne _ _ (by omega), ha5, va_up_ne _ _ (by omega), ha3, va_up_ne _ _ (by omega), ha1, va_up_ne _ _ (by omega)]), (fun k hk => by rw [o10, va_up_ne _ _ (by omega), o9, va_up_ne _ _ (by omega), o8, va_up_ne _ _ (by omega), o7, va_up_ne _ _ (by omega), o6, va_up_ne _ _ (by omega), o5, va_up_ne _ _ (by omega), o4, va_up_ne _ _ (by omega), o3, va_up_ne _ _ (by omega), o2, va_up_ne _ _ (by omega), o1, va_up_ne _ _ (by omega)]), by rw [a9_7, a9_8, a9_9, a9_10, a9_11]; exact u10_6, u10_7, u10_8, u10_9, u10_10, u10_11⟩
theorem d_Fd_init_0 : decode c_Fd_init 0 = .ok (.aload_n 0, 1) := by decide +kernel
theorem d_Fd_init_1 : decode c_Fd_init 1 = .ok (.invokespecial 3, 3) := by decide +kernel
theorem d_Fd_init_4 : decode c_Fd_init 4 = .ok (.aload_n 0, 1) := by decide +kernel
theorem d_Fd_init_5 : decode c_Fd_init 5 = .ok (.iload_n 1, 1) := by decide +kernel
theorem d_Fd_init_6 : decode c_Fd_init 6 = .ok (.bipush 26, 2) := by decide +kernel
theorem d_Fd_init_8 : decode c_Fd_init 8 = .ok (.iadd, 1) := by decide +kernel
theorem d_Fd_init_9 : decode c_Fd_init 9 = .ok (.iconst 1, 1) := by decide +kernel
theorem d_Fd_init_10 : decode c_Fd_init 10 = .ok (.isub, 1) := by decide +kernel
theorem d_Fd_init_11 : decode c_Fd_init 11 = .ok (.bipush 26, 2) := by decide +kernel
theorem d_Fd_init_13 : decode c_Fd_init 13 = .ok (.idiv, 1) := by decide +kernel
theorem d_Fd_init_14 : decode c_Fd_init 14 = .ok (.putfield 9, 3) := by decide +kernel
theorem d_Fd_init_17 : decode c_Fd_init 17 = .ok (.aload_n 0, 1) := by decide +kernel
theorem d_Fd_init_18 : decode c_Fd_init 18 = .ok (.iload_n 1, 1) := by decide +kernel
theorem d_Fd_init_19 : decode c_Fd_init 19 = .ok (.bipush 26, 2) := by decide +kernel
theorem d_Fd_init_21 : decode c_Fd_init 21 = .ok (.aload_n 0, 1) := by decide +kernel
theorem d_Fd_init_22 : decode c_Fd_init 22 = .ok (.getfield 9, 3) := by decide +kernel
theorem d_Fd_init_25 : decode c_Fd_init 25 = .ok (.iconst 1, 1) := by decide +kernel
theorem d_Fd_init_26 : decode c_Fd_init 26 = .ok (.isub, 1) := by decide +kernel
theorem d_Fd_init_27 : decode c_Fd_init 27 = .ok (.imul, 1) := by decide +kernel
theorem d_Fd_init_28 : decode c_Fd_init 28 = .ok (.isub, 1) := by decide +kernel
theorem d_Fd_init_29 : decode c_Fd_init 29 = .ok (.putfield 13, 3) := by decide +kernel
theorem d_Fd_init_32 : decode c_Fd_init 32 = .ok (.aload_n 0, 1) := by decide +kernel
theorem d_Fd_init_33 : decode c_Fd_init 33 = .ok (.lload_n 2, 1) := by decide +kernel
theorem d_Fd_init_34 : decode c_Fd_init 34 = .ok (.putfield 16, 3) := by decide +kernel
theorem d_Fd_init_37 : decode c_Fd_init 37 = .ok (.aload_n 0, 1) := by decide +kernel
theorem d_Fd_init_38 : decode c_Fd_init 38 = .ok (.lload_n 2, 1) := by decide +kernel
theorem d_Fd_init_39 : decode c_Fd_init 39 = .ok (.bipush 26, 2) := by decide +kernel
theorem d_Fd_init_41 : decode c_Fd_init 41 = .ok (.aload_n 0, 1) := by decide +kernel
theorem d_Fd_init_42 : decode c_Fd_init 42 = .ok (.getfield 13, 3) := by decide +kernel
theorem d_Fd_init_45 : decode c_Fd_init 45 = .ok (.isub, 1) := by decide +kernel
theorem d_Fd_init_46 : decode c_Fd_init 46 = .ok (.lshl, 1) := by decide +kernel
theorem d_Fd_init_47 : decode c_Fd_init 47 = .ok (.putfield 20, 3) := by decide +kernel
theorem d_Fd_init_50 : decode c_Fd_init 50 = .ok (.aload_n 0, 1) := by decide +kernel
theorem d_Fd_init_51 : decode c_Fd_init 51 = .ok (.iconst 2, 1) := by decide +kernel
theorem d_Fd_init_52 : decode c_Fd_init 52 = .ok (.aload_n 0, 1) := by decide +kernel
theorem d_Fd_init_53 : decode c_Fd_init 53 = .ok (.getfield 9, 3) := by decide +kernel
theorem d_Fd_init_56 : decode c_Fd_init 56 = .ok (.imul, 1) := by decide +kernel
theorem d_Fd_init_57 : decode c_Fd_init 57 = .ok (.newarray .long, 2) := by decide +kernel
theorem d_Fd_init_59 : decode c_Fd_init 59 = .ok (.putfield 23, 3) := by decide +kernel
theorem d_Fd_init_62 : decode c_Fd_init 62 = .ok (.return_, 1) := by decide +kernel
set_option maxRecDepth 100000 in
set_option maxHeartbeats 4000000 in
/-- Field -/
theorem n_Fd13 (l : Launch) (G : wG) (A : Nat → Prop) (ad : Nat → Nat) (ev : Nat → va_E) (b : Nat) (hab : ad 13 = b) (hev : ev 13 = eO 1 [.int 0, .int 0, .long 0, .long 0, .null]) : wN l y_Fd_init w_Fd_init ({ frames := 3, cells := 1, slots := 10, locals := 100 }) G A 14 ad ev [.ref (b), .int (nI (130)), .long (5)] 1 10 (fun ov n' ad' ev' => ov = none ∧ n' = 15 ∧ (∀ k, k ≤ 13 → ad' k = ad k) ∧ (∀ k, k < 13 → ev' k = ev k) ∧ ev' 13 = eO 1 [.int (nI (5)), .int (nI (26)), .long (5), .long (5), .ref (ad' 14)] ∧ ev' 14 = eJ G 10 (fun _ => 0)) := by
  refine wv_ofW (cc := c_Fd_init) (maxL := 4) (ret := none) (by decide) rfl (Nat.le_of_ble_eq_true rfl) ?_
  intro p e s m below meth c ls hx hb hr hml hts hown hlocks hini h hl
  have hl : lv_has ls 4 [(0, .ref (b)), (1, .int (nI (130))), (2, .long (5))] := hl
  refine lv_aload_n hx hb d_Fd_init_0 rfl (lv_at hl 0 rfl) ?_
  refine wv_obj hx hb hown hts (List.mem_cons_of_mem _ kl_Fd_3) (List.mem_cons_of_mem _ km_Ob_init) (List.mem_cons_of_mem _ kc_Ob_init) (by rw [hml]; exact hl.1) d_Fd_init_1 (Nat.le_of_ble_eq_true rfl) (Nat.le_of_ble_eq_true rfl) ?_
  refine lv_aload_n hx hb d_Fd_init_4 rfl (lv_at hl 0 rfl) ?_
  refine lv_iload_n hx hb d_Fd_init_5 rfl (lv_at hl 1 rfl) ?_
  refine lv_bipush (v := nI (26)) hx hb d_Fd_init_6 (by decide) ?_
  refine lv_iadd hx hb d_Fd_init_8 ?_
  refine wv_top (w := nI (156)) (by decide) ?_
  refine lv_iconst (v := nI (1)) hx hb d_Fd_init_9 (by decide) ?_
  refine lv_isub hx hb d_Fd_init_10 ?_
  refine wv_top (w := nI (155)) (by decide) ?_
  refine lv_bipush (v := nI (26)) hx hb d_Fd_init_11 (by decide) ?_
  refine lv_idiv hx hb d_Fd_init_13 (by decide) ?_
  refine wv_top (w := nI (5)) (by decide) ?_
  refine wv_adr2 hab ?_
  refine wv_putF hx hb h 13 (by decide) (fs := [.int 0, .int 0, .long 0, .long 0, .null]) hev hts (fun w hw => List.mem_cons_of_mem _ (fW_Fd w hw)) fY_Fd fK_Fd fN_Fd hown (ci := 1) (C := "NonceBox$Field") (T := fT_Fd) (N := 5) rfl 0 (by decide) (hts _ (List.mem_cons_of_mem _ kf_Fd_9)) rfl rfl (hini rfl) rfl (v := .int (nI (5))) rfl rfl (Nat.le_of_ble_eq_true rfl) d_Fd_init_14 (fun H locs h => ?_)
  have h : wT G A 14 ad (va_up ev 13 (eO 1 [.int (nI (5)), .int 0, .long 0, .long 0, .null])) s H locs := h
  obtain ⟨ev1, o1⟩ : ∃ z, z = va_up ev 13 (eO 1 [.int (nI (5)), .int 0, .long 0, .long 0, .null]) := ⟨_, rfl⟩
  rw [← o1] at h
  have u1_13 : ev1 13 = eO 1 [.int (nI (5)), .int 0, .long 0, .long 0, .null] := by rw [o1, va_up_self]
  refine lv_aload_n hx hb d_Fd_init_17 rfl (lv_at hl 0 rfl) ?_
  refine lv_iload_n hx hb d_Fd_init_18 rfl (lv_at hl 1 rfl) ?_
  refine lv_bipush (v := nI (26)) hx hb d_Fd_init_19 (by decide) ?_
  refine lv_aload_n hx hb d_Fd_init_21 rfl (lv_at hl 0 rfl) ?_
  refine wv_adr1 hab ?_
  refine wv_getf hx hb h 13 (by decide) (fs := [.int (nI (5)), .int 0, .long 0, .long 0, .null]) u1_13 hts (fun w hw => List.mem_cons_of_mem _ (fW_Fd w hw)) hown (ci := 1) (C := "NonceBox$Field") (T := fT_Fd) (N := 5) rfl 0 (by decide) (hts _ (List.mem_cons_of_mem _ kf_Fd_9)) rfl (v := .int (nI (5))) rfl d_Fd_init_22 ?_
  refine lv_iconst (v := nI (1)) hx hb d_Fd_init_25 (by decide) ?_
  refine lv_isub hx hb d_Fd_init_26 ?_
  refine wv_top (w := nI (4)) (by decide) ?_
  refine lv_imul hx hb d_Fd_init_27 ?_
  refine wv_top (w := nI (104)) (by decide) ?_
  refine lv_isub hx hb d_Fd_init_28 ?_
  refine wv_top (w := nI (26)) (by decide) ?_
  refine wv_adr2 hab ?_
  refine wv_putF hx hb h 13 (by decide) (fs := [.int (nI (5)), .int 0, .long 0, .long 0, .null]) u1_13 hts (fun w hw => List.mem_cons_of_mem _ (fW_Fd w hw)) fY_Fd fK_Fd fN_Fd hown (ci := 1) (C := "NonceBox$Field") (T := fT_Fd) (N := 5) rfl 1 (by decide) (hts _ (List.mem_cons_of_mem _ kf_Fd_13)) rfl rfl (hini rfl) rfl (v := .int (nI (26))) rfl rfl (Nat.le_of_ble_eq_true rfl) d_Fd_init_29 (fun H locs h => ?_)
  have h : wT G A 14 ad (va_up ev1 13 (eO 1 [.int (nI (5)), .int (nI (26)), .long 0, .long 0, .null])) s H locs := h
  obtain ⟨ev2, o2⟩ : ∃ z, z = va_up ev1 13 (eO 1 [.int (nI (5)), .int (nI (26)), .long 0, .long 0, .null]) := ⟨_, rfl⟩
  rw [← o2] at h
  have u2_13 : ev2 13 = eO 1 [.int (nI (5)), .int (nI (26)), .long 0, .long 0, .null] := by rw [o2, va_up_self]
  refine lv_aload_n hx hb d_Fd_init_32 rfl (lv_at hl 0 rfl) ?_
  refine lv_lload_n hx hb d_Fd_init_33 rfl (lv_at hl 2 rfl) ?_
  refine wv_adr2 hab ?_
  refine wv_putF hx hb h 13 (by decide) (fs := [.int (nI (5)), .int (nI (26)), .long 0, .long 0, .null]) u2_13 hts (fun w hw => List.mem_cons_of_mem _ (fW_Fd w hw)) fY_Fd fK_Fd fN_Fd hown (ci := 1) (C := "NonceBox$Field") (T := fT_Fd) (N := 5) rfl 2 (by decide) (hts _ (List.mem_cons_of_mem _ kf_Fd_16)) rfl rfl (hini rfl) rfl (v := .long (5)) rfl rfl (Nat.le_of_ble_eq_true rfl) d_Fd_init_34 (fun H locs h => ?_)
  have h : wT G A 14 ad (va_up ev2 13 (eO 1 [.int (nI (5)), .int (nI (26)), .long (5), .long 0, .null])) s H locs := h
  obtain ⟨ev3, o3⟩ : ∃ z, z = va_up ev2 13 (eO 1 [.int (nI (5)), .int (nI (26)), .long (5), .long 0, .null]) := ⟨_, rfl⟩
  rw [← o3] at h
  have u3_13 : ev3 13 = eO 1 [.int (nI (5)), .int (nI (26)), .long (5), .long 0, .null] := by rw [o3, va_up_self]
  refine lv_aload_n hx hb d_Fd_init_37 rfl (lv_at hl 0 rfl) ?_
  refine lv_lload_n hx hb d_Fd_init_38 rfl (lv_at hl 2 rfl) ?_
  refine lv_bipush (v := nI (26)) hx hb d_Fd_init_39 (by decide) ?_
  refine lv_aload_n hx hb d_Fd_init_41 rfl (lv_at hl 0 rfl) ?_
  refine wv_adr1 hab ?_
  refine wv_getf hx hb h 13 (by decide) (fs := [.int (nI (5)), .int (nI (26)), .long (5), .long 0, .null]) u3_13 hts (fun w hw => List.mem_cons_of_mem _ (fW_Fd w hw)) hown (ci := 1) (C := "NonceBox$Field") (T := fT_Fd) (N := 5) rfl 1 (by decide) (hts _ (List.mem_cons_of_mem _ kf_Fd_13)) rfl (v := .int (nI (26))) rfl d_Fd_init_42 ?_
  refine lv_isub hx hb d_Fd_init_45 ?_
  refine wv_top (w := nI (0)) (by decide) ?_
  refine lv_lshl (v := sal 5 0) hx hb d_Fd_init_46 rfl ?_
  refine wv_topl (w := 5) (by decide) ?_
  refine wv_adr2 hab ?_
  refine wv_putF hx hb h 13 (by decide) (fs := [.int (nI (5)), .int (nI (26)), .long (5), .long 0, .null]) u3_13 hts (fun w hw => List.mem_cons_of_mem _ (fW_Fd w hw)) fY_Fd fK_Fd fN_Fd hown (ci := 1) (C := "NonceBox$Field") (T := fT_Fd) (N := 5) rfl 3 (by decide) (hts _ (List.mem_cons_of_mem _ kf_Fd_20)) rfl rfl (hini rfl) rfl (v := .long (5)) rfl rfl (Nat.le_of_ble_eq_true rfl) d_Fd_init_47 (fun H locs h => ?_)
  have h : wT G A 14 ad (va_up ev3 13 (eO 1 [.int (nI (5)), .int (nI (26)), .long (5), .long (5), .null])) s H locs := h
  obtain ⟨ev4, o4⟩ : ∃ z, z = va_up ev3 13 (eO 1 [.int (nI (5)), .int (nI (26)), .long (5), .long (5), .null]) := ⟨_, rfl⟩
  rw [← o4] at h
  have u4_13 : ev4 13 = eO 1 [.int (nI (5)), .int (nI (26)), .long (5), .long (5), .null] := by rw [o4, va_up_self]
  refine lv_aload_n hx hb d_Fd_init_50 rfl (lv_at hl 0 rfl) ?_
  refine lv_iconst (v := nI (2)) hx hb d_Fd_init_51 (by decide) ?_
  refine lv_aload_n hx hb d_Fd_init_52 rfl (lv_at hl 0 rfl) ?_
  refine wv_adr1 hab ?_
  refine wv_getf hx hb h 13 (by decide) (fs := [.int (nI (5)), .int (nI (26)), .long (5), .long (5), .null]) u4_13 hts (fun w hw => List.mem_cons_of_mem _ (fW_Fd w hw)) hown (ci := 1) (C := "NonceBox$Field") (T := fT_Fd) (N := 5) rfl 0 (by decide) (hts _ (List.mem_cons_of_mem _ kf_Fd_9)) rfl (v := .int (nI (5))) rfl d_Fd_init_53 ?_
  refine lv_imul hx hb d_Fd_init_56 ?_
  refine wv_top (w := nI (10)) (by decide) ?_
  refine wv_newJ hx hb (hts _ (List.mem_cons_of_mem _ ka_long)) h (N := 10) rfl (by decide) (Nat.le_of_ble_eq_true rfl) (Nat.le_of_ble_eq_true rfl) d_Fd_init_57 (fun q14 H h => ?_)
  obtain ⟨ev5, o5⟩ : ∃ z, z = va_up ev4 14 (eJ G 10 (fun _ => 0)) := ⟨_, rfl⟩
  rw [← o5] at h
  have u5_13 : ev5 13 = eO 1 [.int (nI (5)), .int (nI (26)), .long (5), .long (5), .null] := by rw [o5, va_up_ne _ _ (by decide)]; exact u4_13
  have u5_14 : ev5 14 = eJ G 10 (fun _ => 0) := by rw [o5, va_up_self]
  obtain ⟨ad5, ha5⟩ : ∃ z, z = va_up ad 14 q14 := ⟨_, rfl⟩
  rw [← ha5] at h
  have a5_13 : ad5 13 = b := by rw [ha5, va_up_ne _ _ (by decide)]; exact hab
  have a5_14 : ad5 14 = q14 := by rw [ha5, va_up_self]
  refine wv_adr2 a5_13 ?_
  refine wv_putF hx hb h 13 (by decide) (fs := [.int (nI (5)), .int (nI (26)), .long (5), .long (5), .null]) u5_13 hts (fun w hw => List.mem_cons_of_mem _ (fW_Fd w hw)) fY_Fd fK_Fd fN_Fd hown (ci := 1) (C := "NonceBox$Field") (T := fT_Fd) (N := 5) rfl 4 (by decide) (hts _ (List.mem_cons_of_mem _ kf_Fd_23)) rfl rfl (hini rfl) rfl (v := .ref (q14)) rfl rfl (Nat.le_of_ble_eq_true rfl) d_Fd_init_59 (fun H locs h => ?_)
  have h : wT G A 15 ad5 (va_up ev5 13 (eO 1 [.int (nI (5)), .int (nI (26)), .long (5), .long (5), .ref (q14)])) s H locs := h
  obtain ⟨ev6, o6⟩ : ∃ z, z = va_up ev5 13 (eO 1 [.int (nI (5)), .int (nI (26)), .long (5), .long (5), .ref (q14)]) := ⟨_, rfl⟩
  rw [← o6] at h
  have u6_14 : ev6 14 = eJ G 10 (fun _ => 0) := by rw [o6, va_up_ne _ _ (by decide)]; exact u5_14
  have u6_13 : ev6 13 = eO 1 [.int (nI (5)), .int (nI (26)), .long (5), .long (5), .ref (q14)] := by rw [o6, va_up_self]
  exact wv_nret hx hb hr hlocks h d_Fd_init_62 ⟨rfl, rfl, (fun k hk => by rw [ha5, va_up_ne _ _ (by omega)]), (fun k hk => by rw [o6, va_up_ne _ _ (by omega), o5, va_up_ne _ _ (by omega), o4, va_up_ne _ _ (by omega), o3, va_up_ne _ _ (by omega), o2, va_up_ne _ _ (by omega), o1, va_up_ne _ _ (by omega)]), by rw [a5_14]; exact u6_13, u6_14⟩
set_option maxRecDepth 100000 in
set_option maxHeartbeats 4000000 in
/-- Field -/
theorem n_Fd19 (l : Launch) (G : wG) (A : Nat → Prop) (ad : Nat → Nat) (ev : Nat → va_E) (b : Nat) (hab : ad 19 = b) (hev : ev 19 = eO 1 [.int 0, .int 0, .long 0, .long 0, .null]) : wN l y_Fd_init w_Fd_init ({ frames := 3, cells := 1, slots := 20, locals := 100 }) G A 20 ad ev [.ref (b), .int (nI (255)), .long (19)] 1 20 (fun ov n' ad' ev' => ov = none ∧ n' = 21 ∧ (∀ k, k ≤ 19 → ad' k = ad k) ∧ (∀ k, k < 19 → ev' k = ev k) ∧ ev' 19 = eO 1 [.int (nI (10)), .int (nI (21)), .long (19), .long (608), .ref (ad' 20)] ∧ ev' 20 = eJ G 20 (fun _ => 0)) := by
  refine wv_ofW (cc := c_Fd_init) (maxL := 4) (ret := none) (by decide) rfl (Nat.le_of_ble_eq_true rfl) ?_
  intro p e s m below meth c ls hx hb hr hml hts hown hlocks hini h hl
  have hl : lv_has ls 4 [(0, .ref (b)), (1, .int (nI (255))), (2, .long (19))] := hl
  refine lv_aload_n hx hb d_Fd_init_0 rfl (lv_at hl 0 rfl) ?_
  refine wv_obj hx hb hown hts (List.mem_cons_of_mem _ kl_Fd_3) (List.mem_cons_of_mem _ km_Ob_init) (List.mem_cons_of_mem _ kc_Ob_init) (by rw [hml]; exact hl.1) d_Fd_init_1 (Nat.le_of_ble_eq_true rfl) (Nat.le_of_ble_eq_true rfl) ?_
  refine lv_aload_n hx hb d_Fd_init_4 rfl (lv_at hl 0 rfl) ?_
  refine lv_iload_n hx hb d_Fd_init_5 rfl (lv_at hl 1 rfl) ?_
  refine lv_bipush (v := nI (26)) hx hb d_Fd_init_6 (by decide) ?_
  refine lv_iadd hx hb d_Fd_init_8 ?_
  refine wv_top (w := nI (281)) (by decide) ?_
  refine lv_iconst (v := nI (1)) hx hb d_Fd_init_9 (by decide) ?_
  refine lv_isub hx hb d_Fd_init_10 ?_
  refine wv_top (w := nI (280)) (by decide) ?_
  refine lv_bipush (v := nI (26)) hx hb d_Fd_init_11 (by decide) ?_
  refine lv_idiv hx hb d_Fd_init_13 (by decide) ?_
  refine wv_top (w := nI (10)) (by decide) ?_
  refine wv_adr2 hab ?_
  refine wv_putF hx hb h 19 (by decide) (fs := [.int 0, .int 0, .long 0, .long 0, .null]) hev hts (fun w hw => List.mem_cons_of_mem _ (fW_Fd w hw)) fY_Fd fK_Fd fN_Fd hown (ci := 1) (C := "NonceBox$Field") (T := fT_Fd) (N := 5) rfl 0 (by decide) (hts _ (List.mem_cons_of_mem _ kf_Fd_9)) rfl rfl (hini rfl) rfl (v := .int (nI (10))) rfl rfl (Nat.le_of_ble_eq_true rfl) d_Fd_init_14 (fun H locs h => ?_)
  have h : wT G A 20 ad (va_up ev 19 (eO 1 [.int (nI (10)), .int 0, .long 0, .long 0, .null])) s H locs := h
  obtain ⟨ev1, o1⟩ : ∃ z, z = va_up ev 19 (eO 1 [.int (nI (10)), .int 0, .long 0, .long 0, .null]) := ⟨_, rfl⟩
  rw [← o1] at h
  have u1_19 : ev1 19 = eO 1 [.int (nI (10)), .int 0, .long 0, .long 0, .null] := by rw [o1, va_up_self]
  refine lv_aload_n hx hb d_Fd_init_17 rfl (lv_at hl 0 rfl) ?_
  refine lv_iload_n hx hb d_Fd_init_18 rfl (lv_at hl 1 rfl) ?_
  refine lv_bipush (v := nI (26)) hx hb d_Fd_init_19 (by decide) ?_
  refine lv_aload_n hx hb d_Fd_init_21 rfl (lv_at hl 0 rfl) ?_
  refine wv_adr1 hab ?_
  refine wv_getf hx hb h 19 (by decide) (fs := [.int (nI (10)), .int 0, .long 0, .long 0, .null]) u1_19 hts (fun w hw => List.mem_cons_of_mem _ (fW_Fd w hw)) hown (ci := 1) (C := "NonceBox$Field") (T := fT_Fd) (N := 5) rfl 0 (by decide) (hts _ (List.mem_cons_of_mem _ kf_Fd_9)) rfl (v := .int (nI (10))) rfl d_Fd_init_22 ?_
  refine lv_iconst (v := nI (1)) hx hb d_Fd_init_25 (by decide) ?_
  refine lv_isub hx hb d_Fd_init_26 ?_
  refine wv_top (w := nI (9)) (by decide) ?_
  refine lv_imul hx hb d_Fd_init_27 ?_
  refine wv_top (w := nI (234)) (by decide) ?_
  refine lv_isub hx hb d_Fd_init_28 ?_
  refine wv_top (w := nI (21)) (by decide) ?_
  refine wv_adr2 hab ?_
  refine wv_putF hx hb h 19 (by decide) (fs := [.int (nI (10)), .int 0, .long 0, .long 0, .null]) u1_19 hts (fun w hw => List.mem_cons_of_mem _ (fW_Fd w hw)) fY_Fd fK_Fd fN_Fd hown (ci := 1) (C := "NonceBox$Field") (T := fT_Fd) (N := 5) rfl 1 (by decide) (hts _ (List.mem_cons_of_mem _ kf_Fd_13)) rfl rfl (hini rfl) rfl (v := .int (nI (21))) rfl rfl (Nat.le_of_ble_eq_true rfl) d_Fd_init_29 (fun H locs h => ?_)
  have h : wT G A 20 ad (va_up ev1 19 (eO 1 [.int (nI (10)), .int (nI (21)), .long 0, .long 0, .null])) s H locs := h
  obtain ⟨ev2, o2⟩ : ∃ z, z = va_up ev1 19 (eO 1 [.int (nI (10)), .int (nI (21)), .long 0, .long 0, .null]) := ⟨_, rfl⟩
  rw [← o2] at h
  have u2_19 : ev2 19 = eO 1 [.int (nI (10)), .int (nI (21)), .long 0, .long 0, .null] := by rw [o2, va_up_self]
  refine lv_aload_n hx hb d_Fd_init_32 rfl (lv_at hl 0 rfl) ?_
  refine lv_lload_n hx hb d_Fd_init_33 rfl (lv_at hl 2 rfl) ?_
  refine wv_adr2 hab ?_
  refine wv_putF hx hb h 19 (by decide) (fs := [.int (nI (10)), .int (nI (21)), .long 0, .long 0, .null]) u2_19 hts (fun w hw => List.mem_cons_of_mem _ (fW_Fd w hw)) fY_Fd fK_Fd fN_Fd hown (ci := 1) (C := "NonceBox$Field") (T := fT_Fd) (N := 5) rfl 2 (by decide) (hts _ (List.mem_cons_of_mem _ kf_Fd_16)) rfl rfl (hini rfl) rfl (v := .long (19)) rfl rfl (Nat.le_of_ble_eq_true rfl) d_Fd_init_34 (fun H locs h => ?_)
  have h : wT G A 20 ad (va_up ev2 19 (eO 1 [.int (nI (10)), .int (nI (21)), .long (19), .long 0, .null])) s H locs := h
  obtain ⟨ev3, o3⟩ : ∃ z, z = va_up ev2 19 (eO 1 [.int (nI (10)), .int (nI (21)), .long (19), .long 0, .null]) := ⟨_, rfl⟩
  rw [← o3] at h
  have u3_19 : ev3 19 = eO 1 [.int (nI (10)), .int (nI (21)), .long (19), .long 0, .null] := by rw [o3, va_up_self]
  refine lv_aload_n hx hb d_Fd_init_37 rfl (lv_at hl 0 rfl) ?_
  refine lv_lload_n hx hb d_Fd_init_38 rfl (lv_at hl 2 rfl) ?_
  refine lv_bipush (v := nI (26)) hx hb d_Fd_init_39 (by decide) ?_
  refine lv_aload_n hx hb d_Fd_init_41 rfl (lv_at hl 0 rfl) ?_
  refine wv_adr1 hab ?_
  refine wv_getf hx hb h 19 (by decide) (fs := [.int (nI (10)), .int (nI (21)), .long (19), .long 0, .null]) u3_19 hts (fun w hw => List.mem_cons_of_mem _ (fW_Fd w hw)) hown (ci := 1) (C := "NonceBox$Field") (T := fT_Fd) (N := 5) rfl 1 (by decide) (hts _ (List.mem_cons_of_mem _ kf_Fd_13)) rfl (v := .int (nI (21))) rfl d_Fd_init_42 ?_
  refine lv_isub hx hb d_Fd_init_45 ?_
  refine wv_top (w := nI (5)) (by decide) ?_
  refine lv_lshl (v := sal 19 5) hx hb d_Fd_init_46 rfl ?_
  refine wv_topl (w := 608) (by decide) ?_
  refine wv_adr2 hab ?_
  refine wv_putF hx hb h 19 (by decide) (fs := [.int (nI (10)), .int (nI (21)), .long (19), .long 0, .null]) u3_19 hts (fun w hw => List.mem_cons_of_mem _ (fW_Fd w hw)) fY_Fd fK_Fd fN_Fd hown (ci := 1) (C := "NonceBox$Field") (T := fT_Fd) (N := 5) rfl 3 (by decide) (hts _ (List.mem_cons_of_mem _ kf_Fd_20)) rfl rfl (hini rfl) rfl (v := .long (608)) rfl rfl (Nat.le_of_ble_eq_true rfl) d_Fd_init_47 (fun H locs h => ?_)
  have h : wT G A 20 ad (va_up ev3 19 (eO 1 [.int (nI (10)), .int (nI (21)), .long (19), .long (608), .null])) s H locs := h
  obtain ⟨ev4, o4⟩ : ∃ z, z = va_up ev3 19 (eO 1 [.int (nI (10)), .int (nI (21)), .long (19), .long (608), .null]) := ⟨_, rfl⟩
  rw [← o4] at h
  have u4_19 : ev4 19 = eO 1 [.int (nI (10)), .int (nI (21)), .long (19), .long (608), .null] := by rw [o4, va_up_self]
  refine lv_aload_n hx hb d_Fd_init_50 rfl (lv_at hl 0 rfl) ?_
  refine lv_iconst (v := nI (2)) hx hb d_Fd_init_51 (by decide) ?_
  refine lv_aload_n hx hb d_Fd_init_52 rfl (lv_at hl 0 rfl) ?_
  refine wv_adr1 hab ?_
  refine wv_getf hx hb h 19 (by decide) (fs := [.int (nI (10)), .int (nI (21)), .long (19), .long (608), .null]) u4_19 hts (fun w hw => List.mem_cons_of_mem _ (fW_Fd w hw)) hown (ci := 1) (C := "NonceBox$Field") (T := fT_Fd) (N := 5) rfl 0 (by decide) (hts _ (List.mem_cons_of_mem _ kf_Fd_9)) rfl (v := .int (nI (10))) rfl d_Fd_init_53 ?_
  refine lv_imul hx hb d_Fd_init_56 ?_
  refine wv_top (w := nI (20)) (by decide) ?_
  refine wv_newJ hx hb (hts _ (List.mem_cons_of_mem _ ka_long)) h (N := 20) rfl (by decide) (Nat.le_of_ble_eq_true rfl) (Nat.le_of_ble_eq_true rfl) d_Fd_init_57 (fun q20 H h => ?_)
  obtain ⟨ev5, o5⟩ : ∃ z, z = va_up ev4 20 (eJ G 20 (fun _ => 0)) := ⟨_, rfl⟩
  rw [← o5] at h
  have u5_19 : ev5 19 = eO 1 [.int (nI (10)), .int (nI (21)), .long (19), .long (608), .null] := by rw [o5, va_up_ne _ _ (by decide)]; exact u4_19
  have u5_20 : ev5 20 = eJ G 20 (fun _ => 0) := by rw [o5, va_up_self]
  obtain ⟨ad5, ha5⟩ : ∃ z, z = va_up ad 20 q20 := ⟨_, rfl⟩
  rw [← ha5] at h
  have a5_19 : ad5 19 = b := by rw [ha5, va_up_ne _ _ (by decide)]; exact hab
  have a5_20 : ad5 20 = q20 := by rw [ha5, va_up_self]
  refine wv_adr2 a5_19 ?_
  refine wv_putF hx hb h 19 (by decide) (fs := [.int (nI (10)), .int (nI (21)), .long (19), .long (608), .null]) u5_19 hts (fun w hw => List.mem_cons_of_mem _ (fW_Fd w hw)) fY_Fd fK_Fd fN_Fd hown (ci := 1) (C := "NonceBox$Field") (T := fT_Fd) (N := 5) rfl 4 (by decide) (hts _ (List.mem_cons_of_mem _ kf_Fd_23)) rfl rfl (hini rfl) rfl (v := .ref (q20)) rfl rfl (Nat.le_of_ble_eq_true rfl) d_Fd_init_59 (fun H locs h => ?_)
  have h : wT G A 21 ad5 (va_up ev5 19 (eO 1 [.int (nI (10)), .int (nI (21)), .long (19), .long (608), .ref (q20)])) s H locs := h
  obtain ⟨ev6, o6⟩ : ∃ z, z = va_up ev5 19 (eO 1 [.int (nI (10)), .int (nI (21)), .long (19), .long (608), .ref (q20)]) := ⟨_, rfl⟩
  rw [← o6] at h
  have u6_20 : ev6 20 = eJ G 20 (fun _ => 0) := by rw [o6, va_up_ne _ _ (by decide)]; exact u5_20
  have u6_19 : ev6 19 = eO 1 [.int (nI (10)), .int (nI (21)), .long (19), .long (608), .ref (q20)] := by rw [o6, va_up_self]
  exact wv_nret hx hb hr hlocks h d_Fd_init_62 ⟨rfl, rfl, (fun k hk => by rw [ha5, va_up_ne _ _ (by omega)]), (fun k hk => by rw [o6, va_up_ne _ _ (by omega), o5, va_up_ne _ _ (by omega), o4, va_up_ne _ _ (by omega), o3, va_up_ne _ _ (by omega), o2, va_up_ne _ _ (by omega), o1, va_up_ne _ _ (by omega)]), by rw [a5_20]; exact u6_19, u6_20⟩
theorem d_Md_init_0 : decode c_Md_init 0 = .ok (.aload_n 0, 1) := by decide +kernel
theorem d_Md_init_1 : decode c_Md_init 1 = .ok (.invokespecial 1, 3) := by decide +kernel
theorem d_Md_init_4 : decode c_Md_init 4 = .ok (.aload_n 0, 1) := by decide +kernel
theorem d_Md_init_5 : decode c_Md_init 5 = .ok (.sipush 312, 3) := by decide +kernel
theorem d_Md_init_8 : decode c_Md_init 8 = .ok (.newarray .int, 2) := by decide +kernel
theorem d_Md_init_10 : decode c_Md_init 10 = .ok (.putfield 7, 3) := by decide +kernel
theorem d_Md_init_13 : decode c_Md_init 13 = .ok (.aload_n 0, 1) := by decide +kernel
theorem d_Md_init_14 : decode c_Md_init 14 = .ok (.bipush 32, 2) := by decide +kernel
theorem d_Md_init_16 : decode c_Md_init 16 = .ok (.newarray .int, 2) := by decide +kernel
theorem d_Md_init_18 : decode c_Md_init 18 = .ok (.putfield 13, 3) := by decide +kernel
theorem d_Md_init_21 : decode c_Md_init 21 = .ok (.aload_n 0, 1) := by decide +kernel
theorem d_Md_init_22 : decode c_Md_init 22 = .ok (.bipush 16, 2) := by decide +kernel
theorem d_Md_init_24 : decode c_Md_init 24 = .ok (.newarray .int, 2) := by decide +kernel
theorem d_Md_init_26 : decode c_Md_init 26 = .ok (.putfield 16, 3) := by decide +kernel
theorem d_Md_init_29 : decode c_Md_init 29 = .ok (.aload_n 0, 1) := by decide +kernel
theorem d_Md_init_30 : decode c_Md_init 30 = .ok (.bipush 16, 2) := by decide +kernel
theorem d_Md_init_32 : decode c_Md_init 32 = .ok (.newarray .int, 2) := by decide +kernel
theorem d_Md_init_34 : decode c_Md_init 34 = .ok (.putfield 19, 3) := by decide +kernel
theorem d_Md_init_37 : decode c_Md_init 37 = .ok (.aload_n 0, 1) := by decide +kernel
theorem d_Md_init_38 : decode c_Md_init 38 = .ok (.bipush 16, 2) := by decide +kernel
theorem d_Md_init_40 : decode c_Md_init 40 = .ok (.newarray .int, 2) := by decide +kernel
theorem d_Md_init_42 : decode c_Md_init 42 = .ok (.putfield 22, 3) := by decide +kernel
theorem d_Md_init_45 : decode c_Md_init 45 = .ok (.aload_n 0, 1) := by decide +kernel
theorem d_Md_init_46 : decode c_Md_init 46 = .ok (.sipush 128, 3) := by decide +kernel
theorem d_Md_init_49 : decode c_Md_init 49 = .ok (.newarray .int, 2) := by decide +kernel
theorem d_Md_init_51 : decode c_Md_init 51 = .ok (.putfield 25, 3) := by decide +kernel
theorem d_Md_init_54 : decode c_Md_init 54 = .ok (.aload_n 0, 1) := by decide +kernel
theorem d_Md_init_55 : decode c_Md_init 55 = .ok (.sipush 160, 3) := by decide +kernel
theorem d_Md_init_58 : decode c_Md_init 58 = .ok (.newarray .long, 2) := by decide +kernel
theorem d_Md_init_60 : decode c_Md_init 60 = .ok (.putfield 28, 3) := by decide +kernel
theorem d_Md_init_63 : decode c_Md_init 63 = .ok (.aload_n 0, 1) := by decide +kernel
theorem d_Md_init_64 : decode c_Md_init 64 = .ok (.bipush 20, 2) := by decide +kernel
theorem d_Md_init_66 : decode c_Md_init 66 = .ok (.newarray .long, 2) := by decide +kernel
theorem d_Md_init_68 : decode c_Md_init 68 = .ok (.putfield 32, 3) := by decide +kernel
theorem d_Md_init_71 : decode c_Md_init 71 = .ok (.aload_n 0, 1) := by decide +kernel
theorem d_Md_init_72 : decode c_Md_init 72 = .ok (.iconst 5, 1) := by decide +kernel
theorem d_Md_init_73 : decode c_Md_init 73 = .ok (.newarray .long, 2) := by decide +kernel
theorem d_Md_init_75 : decode c_Md_init 75 = .ok (.putfield 35, 3) := by decide +kernel
theorem d_Md_init_78 : decode c_Md_init 78 = .ok (.aload_n 0, 1) := by decide +kernel
theorem d_Md_init_79 : decode c_Md_init 79 = .ok (.iconst 5, 1) := by decide +kernel
theorem d_Md_init_80 : decode c_Md_init 80 = .ok (.newarray .long, 2) := by decide +kernel
theorem d_Md_init_82 : decode c_Md_init 82 = .ok (.putfield 38, 3) := by decide +kernel
theorem d_Md_init_85 : decode c_Md_init 85 = .ok (.aload_n 0, 1) := by decide +kernel
theorem d_Md_init_86 : decode c_Md_init 86 = .ok (.iconst 5, 1) := by decide +kernel
theorem d_Md_init_87 : decode c_Md_init 87 = .ok (.newarray .long, 2) := by decide +kernel
theorem d_Md_init_89 : decode c_Md_init 89 = .ok (.putfield 41, 3) := by decide +kernel
theorem d_Md_init_92 : decode c_Md_init 92 = .ok (.aload_n 0, 1) := by decide +kernel
theorem d_Md_init_93 : decode c_Md_init 93 = .ok (.bipush 16, 2) := by decide +kernel
theorem d_Md_init_95 : decode c_Md_init 95 = .ok (.newarray .int, 2) := by decide +kernel
theorem d_Md_init_97 : decode c_Md_init 97 = .ok (.putfield 44, 3) := by decide +kernel
theorem d_Md_init_100 : decode c_Md_init 100 = .ok (.aload_n 0, 1) := by decide +kernel
theorem d_Md_init_101 : decode c_Md_init 101 = .ok (.bipush 112, 2) := by decide +kernel
theorem d_Md_init_103 : decode c_Md_init 103 = .ok (.newarray .int, 2) := by decide +kernel
theorem d_Md_init_105 : decode c_Md_init 105 = .ok (.putfield 47, 3) := by decide +kernel
theorem d_Md_init_108 : decode c_Md_init 108 = .ok (.return_, 1) := by decide +kernel
set_option maxRecDepth 100000 in
set_option maxHeartbeats 4000000 in
/-- NonceBoxModel -/
theorem n_Md (l : Launch) (G : wG) (A : Nat → Prop) (ad : Nat → Nat) (ev : Nat → va_E) (b : Nat) (hab : ad 37 = b) (hev : ev 37 = eO 5 [.null, .int 0, .int 0, .int 0, .null, .null, .null, .null, .null, .null, .null, .null, .null, .null, .null, .null]) : wN l y_Md_init w_Md_init ({ frames := 3, cells := 13, slots := 843, locals := 100 }) G A 38 ad ev [.ref (b)] 13 843 (fun ov n' ad' ev' => ov = none ∧ n' = 51 ∧ (∀ k, k ≤ 37 → ad' k = ad k) ∧ (∀ k, k < 37 → ev' k = ev k) ∧ ev' 37 = eO 5 [.ref (ad' 38), .int 0, .int 0, .int 0, .ref (ad' 39), .ref (ad' 40), .ref (ad' 41), .ref (ad' 42), .ref (ad' 43), .ref (ad' 44), .ref (ad' 45), .ref (ad' 46), .ref (ad' 47), .ref (ad' 48), .ref (ad' 49), .ref (ad' 50)] ∧ ev' 38 = eI G 312 (fun _ => 0) ∧ ev' 39 = eI G 32 (fun _ => 0) ∧ ev' 40 = eI G 16 (fun _ => 0) ∧ ev' 41 = eI G 16 (fun _ => 0) ∧ ev' 42 = eI G 16 (fun _ => 0) ∧ ev' 43 = eI G 128 (fun _ => 0) ∧ ev' 44 = eJ G 160 (fun _ => 0) ∧ ev' 45 = eJ G 20 (fun _ => 0) ∧ ev' 46 = eJ G 5 (fun _ => 0) ∧ ev' 47 = eJ G 5 (fun _ => 0) ∧ ev' 48 = eJ G 5 (fun _ => 0) ∧ ev' 49 = eI G 16 (fun _ => 0) ∧ ev' 50 = eI G 112 (fun _ => 0)) := by
  refine wv_ofW (cc := c_Md_init) (maxL := 1) (ret := none) (by decide) rfl (Nat.le_of_ble_eq_true rfl) ?_
  intro p e s m below meth c ls hx hb hr hml hts hown hlocks hini h hl
  have hl : lv_has ls 1 [(0, .ref (b))] := hl
  refine lv_aload_n hx hb d_Md_init_0 rfl (lv_at hl 0 rfl) ?_
  refine wv_obj hx hb hown hts (List.mem_cons_of_mem _ kl_Md_1) (List.mem_cons_of_mem _ km_Ob_init) (List.mem_cons_of_mem _ kc_Ob_init) (by rw [hml]; exact hl.1) d_Md_init_1 (Nat.le_of_ble_eq_true rfl) (Nat.le_of_ble_eq_true rfl) ?_
  refine lv_aload_n hx hb d_Md_init_4 rfl (lv_at hl 0 rfl) ?_
  refine lv_sipush (v := nI (312)) hx hb d_Md_init_5 (by decide) ?_
  refine wv_newI hx hb (hts _ (List.mem_cons_of_mem _ ka_int)) h (N := 312) rfl (by decide) (Nat.le_of_ble_eq_true rfl) (Nat.le_of_ble_eq_true rfl) d_Md_init_8 (fun q38 H h => ?_)
  obtain ⟨ev1, o1⟩ : ∃ z, z = va_up ev 38 (eI G 312 (fun _ => 0)) := ⟨_, rfl⟩
  rw [← o1] at h
  have u1_37 : ev1 37 = eO 5 [.null, .int 0, .int 0, .int 0, .null, .null, .null, .null, .null, .null, .null, .null, .null, .null, .null, .null] := by rw [o1, va_up_ne _ _ (by decide)]; exact hev
  have u1_38 : ev1 38 = eI G 312 (fun _ => 0) := by rw [o1, va_up_self]
  obtain ⟨ad1, ha1⟩ : ∃ z, z = va_up ad 38 q38 := ⟨_, rfl⟩
  rw [← ha1] at h
  have a1_37 : ad1 37 = b := by rw [ha1, va_up_ne _ _ (by decide)]; exact hab
  have a1_38 : ad1 38 = q38 := by rw [ha1, va_up_self]
  refine wv_adr2 a1_37 ?_
  refine wv_putF hx hb h 37 (by decide) (fs := [.null, .int 0, .int 0, .int 0, .null, .null, .null, .null, .null, .null, .null, .null, .null, .null, .null, .null]) u1_37 hts (fun w hw => List.mem_cons_of_mem _ (fW_Md w hw)) fY_Md fK_Md fN_Md hown (ci := 5) (C := "NonceBoxModel") (T := fT_Md) (N := 16) rfl 0 (by decide) (hts _ (List.mem_cons_of_mem _ kf_Md_7)) rfl rfl (hini rfl) rfl (v := .ref (q38)) rfl rfl (Nat.le_of_ble_eq_true rfl) d_Md_init_10 (fun H locs h => ?_)
  have h : wT G A 39 ad1 (va_up ev1 37 (eO 5 [.ref (q38), .int 0, .int 0, .int 0, .null, .null, .null, .null, .null, .null, .null, .null, .null, .null, .null, .null])) s H locs := h
  obtain ⟨ev2, o2⟩ : ∃ z, z = va_up ev1 37 (eO 5 [.ref (q38), .int 0, .int 0, .int 0, .null, .null, .null, .null, .null, .null, .null, .null, .null, .null, .null, .null]) := ⟨_, rfl⟩
  rw [← o2] at h
  have u2_38 : ev2 38 = eI G 312 (fun _ => 0) := by rw [o2, va_up_ne _ _ (by decide)]; exact u1_38
  have u2_37 : ev2 37 = eO 5 [.ref (q38), .int 0, .int 0, .int 0, .null, .null, .null, .null, .null, .null, .null, .null, .null, .null, .null, .null] := by rw [o2, va_up_self]
  refine lv_aload_n hx hb d_Md_init_13 rfl (lv_at hl 0 rfl) ?_
  refine lv_bipush (v := nI (32)) hx hb d_Md_init_14 (by decide) ?_
  refine wv_newI hx hb (hts _ (List.mem_cons_of_mem _ ka_int)) h (N := 32) rfl (by decide) (Nat.le_of_ble_eq_true rfl) (Nat.le_of_ble_eq_true rfl) d_Md_init_16 (fun q39 H h => ?_)
  obtain ⟨ev3, o3⟩ : ∃ z, z = va_up ev2 39 (eI G 32 (fun _ => 0)) := ⟨_, rfl⟩
  rw [← o3] at h
  have u3_37 : ev3 37 = eO 5 [.ref (q38), .int 0, .int 0, .int 0, .null, .null, .null, .null, .null, .null, .null, .null, .null, .null, .null, .null] := by rw [o3, va_up_ne _ _ (by decide)]; exact u2_37
  have u3_38 : ev3 38 = eI G 312 (fun _ => 0) := by rw [o3, va_up_ne _ _ (by decide)]; exact u2_38
  have u3_39 : ev3 39 = eI G 32 (fun _ => 0) := by rw [o3, va_up_self]
  obtain ⟨ad3, ha3⟩ : ∃ z, z = va_up ad1 39 q39 := ⟨_, rfl⟩
  rw [← ha3] at h
  have a3_37 : ad3 37 = b := by rw [ha3, va_up_ne _ _ (by decide)]; exact a1_37
  have a3_38 : ad3 38 = q38 := by rw [ha3, va_up_ne _ _ (by decide)]; exact a1_38
  have a3_39 : ad3 39 = q39 := by rw [ha3, va_up_self]
  refine wv_adr2 a3_37 ?_
  refine wv_putF hx hb h 37 (by decide) (fs := [.ref (q38), .int 0, .int 0, .int 0, .null, .null, .null, .null, .null, .null, .null, .null, .null, .null, .null, .null]) u3_37 hts (fun w hw => List.mem_cons_of_mem _ (fW_Md w hw)) fY_Md fK_Md fN_Md hown (ci := 5) (C := "NonceBoxModel") (T := fT_Md) (N := 16) rfl 4 (by decide) (hts _ (List.mem_cons_of_mem _ kf_Md_13)) rfl rfl (hini rfl) rfl (v := .ref (q39)) rfl rfl (Nat.le_of_ble_eq_true rfl) d_Md_init_18 (fun H locs h => ?_)
  have h : wT G A 40 ad3 (va_up ev3 37 (eO 5 [.ref (q38), .int 0, .int 0, .int 0, .ref (q39), .null, .null, .null, .null, .null, .null, .null, .null, .null, .null, .null])) s H locs := h
  obtain ⟨ev4, o4⟩ : ∃ z, z = va_up ev3 37 (eO 5 [.ref (q38), .int 0, .int 0, .int 0, .ref (q39), .null, .null, .null, .null, .null, .null, .null, .null, .null, .null, .null]) := ⟨_, rfl⟩
  rw [← o4] at h
  have u4_38 : ev4 38 = eI G 312 (fun _ => 0) := by rw [o4, va_up_ne _ _ (by decide)]; exact u3_38
  have u4_39 : ev4 39 = eI G 32 (fun _ => 0) := by rw [o4, va_up_ne _ _ (by decide)]; exact u3_39
  have u4_37 : ev4 37 = eO 5 [.ref (q38), .int 0, .int 0, .int 0, .ref (q39), .null, .null, .null, .null, .null, .null, .null, .null, .null, .null, .null] := by rw [o4, va_up_self]
  refine lv_aload_n hx hb d_Md_init_21 rfl (lv_at hl 0 rfl) ?_
  refine lv_bipush (v := nI (16)) hx hb d_Md_init_22 (by decide) ?_
  refine wv_newI hx hb (hts _ (List.mem_cons_of_mem _ ka_int)) h (N := 16) rfl (by decide) (Nat.le_of_ble_eq_true rfl) (Nat.le_of_ble_eq_true rfl) d_Md_init_24 (fun q40 H h => ?_)
  obtain ⟨ev5, o5⟩ : ∃ z, z = va_up ev4 40 (eI G 16 (fun _ => 0)) := ⟨_, rfl⟩
  rw [← o5] at h
  have u5_37 : ev5 37 = eO 5 [.ref (q38), .int 0, .int 0, .int 0, .ref (q39), .null, .null, .null, .null, .null, .null, .null, .null, .null, .null, .null] := by rw [o5, va_up_ne _ _ (by decide)]; exact u4_37
  have u5_38 : ev5 38 = eI G 312 (fun _ => 0) := by rw [o5, va_up_ne _ _ (by decide)]; exact u4_38
  have u5_39 : ev5 39 = eI G 32 (fun _ => 0) := by rw [o5, va_up_ne _ _ (by decide)]; exact u4_39
  have u5_40 : ev5 40 = eI G 16 (fun _ => 0) := by rw [o5, va_up_self]
  obtain ⟨ad5, ha5⟩ : ∃ z, z = va_up ad3 40 q40 := ⟨_, rfl⟩
  rw [← ha5] at h
  have a5_37 : ad5 37 = b := by rw [ha5, va_up_ne _ _ (by decide)]; exact a3_37
  have a5_38 : ad5 38 = q38 := by rw [ha5, va_up_ne _ _ (by decide)]; exact a3_38
  have a5_39 : ad5 39 = q39 := by rw [ha5, va_up_ne _ _ (by decide)]; exact a3_39
  have a5_40 : ad5 40 = q40 := by rw [ha5, va_up_self]
  refine wv_adr2 a5_37 ?_
  refine wv_putF hx hb h 37 (by decide) (fs := [.ref (q38), .int 0, .int 0, .int 0, .ref (q39), .null, .null, .null, .null, .null, .null, .null, .null, .null, .null, .null]) u5_37 hts (fun w hw => List.mem_cons_of_mem _ (fW_Md w hw)) fY_Md fK_Md fN_Md hown (ci := 5) (C := "NonceBoxModel") (T := fT_Md) (N := 16) rfl 5 (by decide) (hts _ (List.mem_cons_of_mem _ kf_Md_16)) rfl rfl (hini rfl) rfl (v := .ref (q40)) rfl rfl (Nat.le_of_ble_eq_true rfl) d_Md_init_26 (fun H locs h => ?_)
  have h : wT G A 41 ad5 (va_up ev5 37 (eO 5 [.ref (q38), .int 0, .int 0, .int 0, .ref (q39), .ref (q40), .null, .null, .null, .null, .null, .null, .null, .null, .null, .null])) s H locs := h
  obtain ⟨ev6, o6⟩ : ∃ z, z = va_up ev5 37 (eO 5 [.ref (q38), .int 0, .int 0, .int 0, .ref (q39), .ref (q40), .null, .null, .null, .null, .null, .null, .null, .null, .null, .null]) := ⟨_, rfl⟩
  rw [← o6] at h
  have u6_38 : ev6 38 = eI G 312 (fun _ => 0) := by rw [o6, va_up_ne _ _ (by decide)]; exact u5_38
  have u6_39 : ev6 39 = eI G 32 (fun _ => 0) := by rw [o6, va_up_ne _ _ (by decide)]; exact u5_39
  have u6_40 : ev6 40 = eI G 16 (fun _ => 0) := by rw [o6, va_up_ne _ _ (by decide)]; exact u5_40
  have u6_37 : ev6 37 = eO 5 [.ref (q38), .int 0, .int 0, .int 0, .ref (q39), .ref (q40), .null, .null, .null, .null, .null, .null, .null, .null, .null, .null] := by rw [o6, va_up_self]
  refine lv_aload_n hx hb d_Md_init_29 rfl (lv_at hl 0 rfl) ?_
  refine lv_bipush (v := nI (16)) hx hb d_Md_init_30 (by decide) ?_
  refine wv_newI hx hb (hts _ (List.mem_cons_of_mem _ ka_int)) h (N := 16) rfl (by decide) (Nat.le_of_ble_eq_true rfl) (Nat.le_of_ble_eq_true rfl) d_Md_init_32 (fun q41 H h => ?_)
  obtain ⟨ev7, o7⟩ : ∃ z, z = va_up ev6 41 (eI G 16 (fun _ => 0)) := ⟨_, rfl⟩
  rw [← o7] at h
  have u7_37 : ev7 37 = eO 5 [.ref (q38), .int 0, .int 0, .int 0, .ref (q39), .ref (q40), .null, .null, .null, .null, .null, .null, .null, .null, .null, .null] := by rw [o7, va_up_ne _ _ (by decide)]; exact u6_37
  have u7_38 : ev7 38 = eI G 312 (fun _ => 0) := by rw [o7, va_up_ne _ _ (by decide)]; exact u6_38
  have u7_39 : ev7 39 = eI G 32 (fun _ => 0) := by rw [o7, va_up_ne _ _ (by decide)]; exact u6_39
  have u7_40 : ev7 40 = eI G 16 (fun _ => 0) := by rw [o7, va_up_ne _ _ (by decide)]; exact u6_40
  have u7_41 : ev7 41 = eI G 16 (fun _ => 0) := by rw [o7, va_up_self]
  obtain ⟨ad7, ha7⟩ : ∃ z, z = va_up ad5 41 q41 := ⟨_, rfl⟩
  rw [← ha7] at h
  have a7_37 : ad7 37 = b := by rw [ha7, va_up_ne _ _ (by decide)]; exact a5_37
  have a7_38 : ad7 38 = q38 := by rw [ha7, va_up_ne _ _ (by decide)]; exact a5_38
  have a7_39 : ad7 39 = q39 := by rw [ha7, va_up_ne _ _ (by decide)]; exact a5_39
  have a7_40 : ad7 40 = q40 := by rw [ha7, va_up_ne _ _ (by decide)]; exact a5_40
  have a7_41 : ad7 41 = q41 := by rw [ha7, va_up_self]
  refine wv_adr2 a7_37 ?_
  refine wv_putF hx hb h 37 (by decide) (fs := [.ref (q38), .int 0, .int 0, .int 0, .ref (q39), .ref (q40), .null, .null, .null, .null, .null, .null, .null, .null, .null, .null]) u7_37 hts (fun w hw => List.mem_cons_of_mem _ (fW_Md w hw)) fY_Md fK_Md fN_Md hown (ci := 5) (C := "NonceBoxModel") (T := fT_Md) (N := 16) rfl 6 (by decide) (hts _ (List.mem_cons_of_mem _ kf_Md_19)) rfl rfl (hini rfl) rfl (v := .ref (q41)) rfl rfl (Nat.le_of_ble_eq_true rfl) d_Md_init_34 (fun H locs h => ?_)
  have h : wT G A 42 ad7 (va_up ev7 37 (eO 5 [.ref (q38), .int 0, .int 0, .int 0, .ref (q39), .ref (q40), .ref (q41), .null, .null, .null, .null, .null, .null, .null, .null, .null])) s H locs := h
  obtain ⟨ev8, o8⟩ : ∃ z, z = va_up ev7 37 (eO 5 [.ref (q38), .int 0, .int 0, .int 0, .ref (q39), .ref (q40), .ref (q41), .null, .null, .null, .null, .null, .null, .null, .null, .null]) := ⟨_, rfl⟩
  rw [← o8] at h
  have u8_38 : ev8 38 = eI G 312 (fun _ => 0) := by rw [o8, va_up_ne _ _ (by decide)]; exact u7_38
  have u8_39 : ev8 39 = eI G 32 (fun _ => 0) := by rw [o8, va_up_ne _ _ (by decide)]; exact u7_39
  have u8_40 : ev8 40 = eI G 16 (fun _ => 0) := by rw [o8, va_up_ne _ _ (by decide)]; exact u7_40
  have u8_41 : ev8 41 = eI G 16 (fun _ => 0) := by rw [o8, va_up_ne _ _ (by decide)]; exact u7_41
  have u8_37 : ev8 37 = eO 5 [.ref (q38), .int 0, .int 0, .int 0, .ref (q39), .ref (q40), .ref (q41), .null, .null, .null, .null, .null, .null, .null, .null, .null] := by rw [o8, va_up_self]
  refine lv_aload_n hx hb d_Md_init_37 rfl (lv_at hl 0 rfl) ?_
  refine lv_bipush (v := nI (16)) hx hb d_Md_init_38 (by decide) ?_
  refine wv_newI hx hb (hts _ (List.mem_cons_of_mem _ ka_int)) h (N := 16) rfl (by decide) (Nat.le_of_ble_eq_true rfl) (Nat.le_of_ble_eq_true rfl) d_Md_init_40 (fun q42 H h => ?_)
  obtain ⟨ev9, o9⟩ : ∃ z, z = va_up ev8 42 (eI G 16 (fun _ => 0)) := ⟨_, rfl⟩
  rw [← o9] at h
  have u9_37 : ev9 37 = eO 5 [.ref (q38), .int 0, .int 0, .int 0, .ref (q39), .ref (q40), .ref (q41), .null, .null, .null, .null, .null, .null, .null, .null, .null] := by rw [o9, va_up_ne _ _ (by decide)]; exact u8_37
  have u9_38 : ev9 38 = eI G 312 (fun _ => 0) := by rw [o9, va_up_ne _ _ (by decide)]; exact u8_38
  have u9_39 : ev9 39 = eI G 32 (fun _ => 0) := by rw [o9, va_up_ne _ _ (by decide)]; exact u8_39
  have u9_40 : ev9 40 = eI G 16 (fun _ => 0) := by rw [o9, va_up_ne _ _ (by decide)]; exact u8_40
  have u9_41 : ev9 41 = eI G 16 (fun _ => 0) := by rw [o9, va_up_ne _ _ (by decide)]; exact u8_41
  have u9_42 : ev9 42 = eI G 16 (fun _ => 0) := by rw [o9, va_up_self]
  obtain ⟨ad9, ha9⟩ : ∃ z, z = va_up ad7 42 q42 := ⟨_, rfl⟩
  rw [← ha9] at h
  have a9_37 : ad9 37 = b := by rw [ha9, va_up_ne _ _ (by decide)]; exact a7_37
  have a9_38 : ad9 38 = q38 := by rw [ha9, va_up_ne _ _ (by decide)]; exact a7_38
  have a9_39 : ad9 39 = q39 := by rw [ha9, va_up_ne _ _ (by decide)]; exact a7_39
  have a9_40 : ad9 40 = q40 := by rw [ha9, va_up_ne _ _ (by decide)]; exact a7_40
  have a9_41 : ad9 41 = q41 := by rw [ha9, va_up_ne _ _ (by decide)]; exact a7_41
  have a9_42 : ad9 42 = q42 := by rw [ha9, va_up_self]
  refine wv_adr2 a9_37 ?_
  refine wv_putF hx hb h 37 (by decide) (fs := [.ref (q38), .int 0, .int 0, .int 0, .ref (q39), .ref (q40), .ref (q41), .null, .null, .null, .null, .null, .null, .null, .null, .null]) u9_37 hts (fun w hw => List.mem_cons_of_mem _ (fW_Md w hw)) fY_Md fK_Md fN_Md hown (ci := 5) (C := "NonceBoxModel") (T := fT_Md) (N := 16) rfl 7 (by decide) (hts _ (List.mem_cons_of_mem _ kf_Md_22)) rfl rfl (hini rfl) rfl (v := .ref (q42)) rfl rfl (Nat.le_of_ble_eq_true rfl) d_Md_init_42 (fun H locs h => ?_)
  have h : wT G A 43 ad9 (va_up ev9 37 (eO 5 [.ref (q38), .int 0, .int 0, .int 0, .ref (q39), .ref (q40), .ref (q41), .ref (q42), .null, .null, .null, .null, .null, .null, .null, .null])) s H locs := h
  obtain ⟨ev10, o10⟩ : ∃ z, z = va_up ev9 37 (eO 5 [.ref (q38), .int 0, .int 0, .int 0, .ref (q39), .ref (q40), .ref (q41), .ref (q42), .null, .null, .null, .null, .null, .null, .null, .null]) := ⟨_, rfl⟩
  rw [← o10] at h
  have u10_38 : ev10 38 = eI G 312 (fun _ => 0) := by rw [o10, va_up_ne _ _ (by decide)]; exact u9_38
  have u10_39 : ev10 39 = eI G 32 (fun _ => 0) := by rw [o10, va_up_ne _ _ (by decide)]; exact u9_39
  have u10_40 : ev10 40 = eI G 16 (fun _ => 0) := by rw [o10, va_up_ne _ _ (by decide)]; exact u9_40
  have u10_41 : ev10 41 = eI G 16 (fun _ => 0) := by rw [o10, va_up_ne _ _ (by decide)]; exact u9_41
  have u10_42 : ev10 42 = eI G 16 (fun _ => 0) := by rw [o10, va_up_ne _ _ (by decide)]; exact u9_42
  have u10_37 : ev10 37 = eO 5 [.ref (q38), .int 0, .int 0, .int 0, .ref (q39), .ref (q40), .ref (q41), .ref (q42), .null, .null, .null, .null, .null, .null, .null, .null] := by rw [o10, va_up_self]
  refine lv_aload_n hx hb d_Md_init_45 rfl (lv_at hl 0 rfl) ?_
  refine lv_sipush (v := nI (128)) hx hb d_Md_init_46 (by decide) ?_
  refine wv_newI hx hb (hts _ (List.mem_cons_of_mem _ ka_int)) h (N := 128) rfl (by decide) (Nat.le_of_ble_eq_true rfl) (Nat.le_of_ble_eq_true rfl) d_Md_init_49 (fun q43 H h => ?_)
  obtain ⟨ev11, o11⟩ : ∃ z, z = va_up ev10 43 (eI G 128 (fun _ => 0)) := ⟨_, rfl⟩
  rw [← o11] at h
  have u11_37 : ev11 37 = eO 5 [.ref (q38), .int 0, .int 0, .int 0, .ref (q39), .ref (q40), .ref (q41), .ref (q42), .null, .null, .null, .null, .null, .null, .null, .null] := by rw [o11, va_up_ne _ _ (by decide)]; exact u10_37
  have u11_38 : ev11 38 = eI G 312 (fun _ => 0) := by rw [o11, va_up_ne _ _ (by decide)]; exact u10_38
  have u11_39 : ev11 39 = eI G 32 (fun _ => 0) := by rw [o11, va_up_ne _ _ (by decide)]; exact u10_39
  have u11_40 : ev11 40 = eI G 16 (fun _ => 0) := by rw [o11, va_up_ne _ _ (by decide)]; exact u10_40
  have u11_41 : ev11 41 = eI G 16 (fun _ => 0) := by rw [o11, va_up_ne _ _ (by decide)]; exact u10_41
  have u11_42 : ev11 42 = eI G 16 (fun _ => 0) := by rw [o11, va_up_ne _ _ (by decide)]; exact u10_42
  have u11_43 : ev11 43 = eI G 128 (fun _ => 0) := by rw [o11, va_up_self]
  obtain ⟨ad11, ha11⟩ : ∃ z, z = va_up ad9 43 q43 := ⟨_, rfl⟩
  rw [← ha11] at h
  have a11_37 : ad11 37 = b := by rw [ha11, va_up_ne _ _ (by decide)]; exact a9_37
  have a11_38 : ad11 38 = q38 := by rw [ha11, va_up_ne _ _ (by decide)]; exact a9_38
  have a11_39 : ad11 39 = q39 := by rw [ha11, va_up_ne _ _ (by decide)]; exact a9_39
  have a11_40 : ad11 40 = q40 := by rw [ha11, va_up_ne _ _ (by decide)]; exact a9_40
  have a11_41 : ad11 41 = q41 := by rw [ha11, va_up_ne _ _ (by decide)]; exact a9_41
  have a11_42 : ad11 42 = q42 := by rw [ha11, va_up_ne _ _ (by decide)]; exact a9_42
  have a11_43 : ad11 43 = q43 := by rw [ha11, va_up_self]
  refine wv_adr2 a11_37 ?_
  refine wv_putF hx hb h 37 (by decide) (fs := [.ref (q38), .int 0, .int 0, .int 0, .ref (q39), .ref (q40), .ref (q41), .ref (q42), .null, .null, .null, .null, .null, .null, .null, .null]) u11_37 hts (fun w hw => List.mem_cons_of_mem _ (fW_Md w hw)) fY_Md fK_Md fN_Md hown (ci := 5) (C := "NonceBoxModel") (T := fT_Md) (N := 16) rfl 8 (by decide) (hts _ (List.mem_cons_of_mem _ kf_Md_25)) rfl rfl (hini rfl) rfl (v := .ref (q43)) rfl rfl (Nat.le_of_ble_eq_true rfl) d_Md_init_51 (fun H locs h => ?_)
  have h : wT G A 44 ad11 (va_up ev11 37 (eO 5 [.ref (q38), .int 0, .int 0, .int 0, .ref (q39), .ref (q40), .ref (q41), .ref (q42), .ref (q43), .null, .null, .null, .null, .null, .null, .null])) s H locs := h
  obtain ⟨ev12, o12⟩ : ∃ z, z = va_up ev11 37 (eO 5 [.ref (q38), .int 0, .int 0, .int 0, .ref (q39), .ref (q40), .ref (q41), .ref (q42), .ref (q43), .null, .null, .null, .null, .null, .null, .null]) := ⟨_, rfl⟩
  rw [← o12] at h
  have u12_38 : ev12 38 = eI G 312 (fun _ => 0) := by rw [o12, va_up_ne _ _ (by decide)]; exact u11_38
  have u12_39 : ev12 39 = eI G 32 (fun _ => 0) := by rw [o12, va_up_ne _ _ (by decide)]; exact u11_39
  have u12_40 : ev12 40 = eI G 16 (fun _ => 0) := by rw [o12, va_up_ne _ _ (by decide)]; exact u11_40
  have u12_41 : ev12 41 = eI G 16 (fun _ => 0) := by rw [o12, va_up_ne _ _ (by decide)]; exact u11_41
  have u12_42 : ev12 42 = eI G 16 (fun _ => 0) := by rw [o12, va_up_ne _ _ (by decide)]; exact u11_42
  have u12_43 : ev12 43 = eI G 128 (fun _ => 0) := by rw [o12, va_up_ne _ _ (by decide)]; exact u11_43
  have u12_37 : ev12 37 = eO 5 [.ref (q38), .int 0, .int 0, .int 0, .ref (q39), .ref (q40), .ref (q41), .ref (q42), .ref (q43), .null, .null, .null, .null, .null, .null, .null] := by rw [o12, va_up_self]
  refine lv_aload_n hx hb d_Md_init_54 rfl (lv_at hl 0 rfl) ?_
  refine lv_sipush (v := nI (160)) hx hb d_Md_init_55 (by decide) ?_
  refine wv_newJ hx hb (hts _ (List.mem_cons_of_mem _ ka_long)) h (N := 160) rfl (by decide) (Nat.le_of_ble_eq_true rfl) (Nat.le_of_ble_eq_true rfl) d_Md_init_58 (fun q44 H h => ?_)
  obtain ⟨ev13, o13⟩ : ∃ z, z = va_up ev12 44 (eJ G 160 (fun _ => 0)) := ⟨_, rfl⟩
  rw [← o13] at h
  have u13_37 : ev13 37 = eO 5 [.ref (q38), .int 0, .int 0, .int 0, .ref (q39), .ref (q40), .ref (q41), .ref (q42), .ref (q43), .null, .null, .null, .null, .null, .null, .null] := by rw [o13, va_up_ne _ _ (by decide)]; exact u12_37
  have u13_38 : ev13 38 = eI G 312 (fun _ => 0) := by rw [o13, va_up_ne _ _ (by decide)]; exact u12_38
  have u13_39 : ev13 39 = eI G 32 (fun _ => 0) := by rw [o13, va_up_ne _ _ (by decide)]; exact u12_39
  have u13_40 : ev13 40 = eI G 16 (fun _ => 0) := by rw [o13, va_up_ne _ _ (by decide)]; exact u12_40
  have u13_41 : ev13 41 = eI G 16 (fun _ => 0) := by rw [o13, va_up_ne _ _ (by decide)]; exact u12_41
  have u13_42 : ev13 42 = eI G 16 (fun _ => 0) := by rw [o13, va_up_ne _ _ (by decide)]; exact u12_42
  have u13_43 : ev13 43 = eI G 128 (fun _ => 0) := by rw [o13, va_up_ne _ _ (by decide)]; exact u12_43
  have u13_44 : ev13 44 = eJ G 160 (fun _ => 0) := by rw [o13, va_up_self]
  obtain ⟨ad13, ha13⟩ : ∃ z, z = va_up ad11 44 q44 := ⟨_, rfl⟩
  rw [← ha13] at h
  have a13_37 : ad13 37 = b := by rw [ha13, va_up_ne _ _ (by decide)]; exact a11_37
  have a13_38 : ad13 38 = q38 := by rw [ha13, va_up_ne _ _ (by decide)]; exact a11_38
  have a13_39 : ad13 39 = q39 := by rw [ha13, va_up_ne _ _ (by decide)]; exact a11_39
  have a13_40 : ad13 40 = q40 := by rw [ha13, va_up_ne _ _ (by decide)]; exact a11_40
  have a13_41 : ad13 41 = q41 := by rw [ha13, va_up_ne _ _ (by decide)]; exact a11_41
  have a13_42 : ad13 42 = q42 := by rw [ha13, va_up_ne _ _ (by decide)]; exact a11_42
  have a13_43 : ad13 43 = q43 := by rw [ha13, va_up_ne _ _ (by decide)]; exact a11_43
  have a13_44 : ad13 44 = q44 := by rw [ha13, va_up_self]
  refine wv_adr2 a13_37 ?_
  refine wv_putF hx hb h 37 (by decide) (fs := [.ref (q38), .int 0, .int 0, .int 0, .ref (q39), .ref (q40), .ref (q41), .ref (q42), .ref (q43), .null, .null, .null, .null, .null, .null, .null]) u13_37 hts (fun w hw => List.mem_cons_of_mem _ (fW_Md w hw)) fY_Md fK_Md fN_Md hown (ci := 5) (C := "NonceBoxModel") (T := fT_Md) (N := 16) rfl 9 (by decide) (hts _ (List.mem_cons_of_mem _ kf_Md_28)) rfl rfl (hini rfl) rfl (v := .ref (q44)) rfl rfl (Nat.le_of_ble_eq_true rfl) d_Md_init_60 (fun H locs h => ?_)
  have h : wT G A 45 ad13 (va_up ev13 37 (eO 5 [.ref (q38), .int 0, .int 0, .int 0, .ref (q39), .ref (q40), .ref (q41), .ref (q42), .ref (q43), .ref (q44), .null, .null, .null, .null, .null, .null])) s H locs := h
  obtain ⟨ev14, o14⟩ : ∃ z, z = va_up ev13 37 (eO 5 [.ref (q38), .int 0, .int 0, .int 0, .ref (q39), .ref (q40), .ref (q41), .ref (q42), .ref (q43), .ref (q44), .null, .null, .null, .null, .null, .null]) := ⟨_, rfl⟩
  rw [← o14] at h
  have u14_38 : ev14 38 = eI G 312 (fun _ => 0) := by rw [o14, va_up_ne _ _ (by decide)]; exact u13_38
  have u14_39 : ev14 39 = eI G 32 (fun _ => 0) := by rw [o14, va_up_ne _ _ (by decide)]; exact u13_39
  have u14_40 : ev14 40 = eI G 16 (fun _ => 0) := by rw [o14, va_up_ne _ _ (by decide)]; exact u13_40
  have u14_41 : ev14 41 = eI G 16 (fun _ => 0) := by rw [o14, va_up_ne _ _ (by decide)]; exact u13_41
  have u14_42 : ev14 42 = eI G 16 (fun _ => 0) := by rw [o14, va_up_ne _ _ (by decide)]; exact u13_42
  have u14_43 : ev14 43 = eI G 128 (fun _ => 0) := by rw [o14, va_up_ne _ _ (by decide)]; exact u13_43
  have u14_44 : ev14 44 = eJ G 160 (fun _ => 0) := by rw [o14, va_up_ne _ _ (by decide)]; exact u13_44
  have u14_37 : ev14 37 = eO 5 [.ref (q38), .int 0, .int 0, .int 0, .ref (q39), .ref (q40), .ref (q41), .ref (q42), .ref (q43), .ref (q44), .null, .null, .null, .null, .null, .null] := by rw [o14, va_up_self]
  refine lv_aload_n hx hb d_Md_init_63 rfl (lv_at hl 0 rfl) ?_
  refine lv_bipush (v := nI (20)) hx hb d_Md_init_64 (by decide) ?_
  refine wv_newJ hx hb (hts _ (List.mem_cons_of_mem _ ka_long)) h (N := 20) rfl (by decide) (Nat.le_of_ble_eq_true rfl) (Nat.le_of_ble_eq_true rfl) d_Md_init_66 (fun q45 H h => ?_)
  obtain ⟨ev15, o15⟩ : ∃ z, z = va_up ev14 45 (eJ G 20 (fun _ => 0)) := ⟨_, rfl⟩
  rw [← o15] at h
  have u15_37 : ev15 37 = eO 5 [.ref (q38), .int 0, .int 0, .int 0, .ref (q39), .ref (q40), .ref (q41), .ref (q42), .ref (q43), .ref (q44), .null, .null, .null, .null, .null, .null] := by rw [o15, va_up_ne _ _ (by decide)]; exact u14_37
  have u15_38 : ev15 38 = eI G 312 (fun _ => 0) := by rw [o15, va_up_ne _ _ (by decide)]; exact u14_38
  have u15_39 : ev15 39 = eI G 32 (fun _ => 0) := by rw [o15, va_up_ne _ _ (by decide)]; exact u14_39
  have u15_40 : ev15 40 = eI G 16 (fun _ => 0) := by rw [o15, va_up_ne _ _ (by decide)]; exact u14_40
  have u15_41 : ev15 41 = eI G 16 (fun _ => 0) := by rw [o15, va_up_ne _ _ (by decide)]; exact u14_41
  have u15_42 : ev15 42 = eI G 16 (fun _ => 0) := by rw [o15, va_up_ne _ _ (by decide)]; exact u14_42
  have u15_43 : ev15 43 = eI G 128 (fun _ => 0) := by rw [o15, va_up_ne _ _ (by decide)]; exact u14_43
  have u15_44 : ev15 44 = eJ G 160 (fun _ => 0) := by rw [o15, va_up_ne _ _ (by decide)]; exact u14_44
  have u15_45 : ev15 45 = eJ G 20 (fun _ => 0) := by rw [o15, va_up_self]
  obtain ⟨ad15, ha15⟩ : ∃ z, z = va_up ad13 45 q45 := ⟨_, rfl⟩
  rw [← ha15] at h
  have a15_37 : ad15 37 = b := by rw [ha15, va_up_ne _ _ (by decide)]; exact a13_37
  have a15_38 : ad15 38 = q38 := by rw [ha15, va_up_ne _ _ (by decide)]; exact a13_38
  have a15_39 : ad15 39 = q39 := by rw [ha15, va_up_ne _ _ (by decide)]; exact a13_39
  have a15_40 : ad15 40 = q40 := by rw [ha15, va_up_ne _ _ (by decide)]; exact a13_40
  have a15_41 : ad15 41 = q41 := by rw [ha15, va_up_ne _ _ (by decide)]; exact a13_41
  have a15_42 : ad15 42 = q42 := by rw [ha15, va_up_ne _ _ (by decide)]; exact a13_42
  have a15_43 : ad15 43 = q43 := by rw [ha15, va_up_ne _ _ (by decide)]; exact a13_43
  have a15_44 : ad15 44 = q44 := by rw [ha15, va_up_ne _ _ (by decide)]; exact a13_44
  have a15_45 : ad15 45 = q45 := by rw [ha15, va_up_self]
  refine wv_adr2 a15_37 ?_
  refine wv_putF hx hb h 37 (by decide) (fs := [.ref (q38), .int 0, .int 0, .int 0, .ref (q39), .ref (q40), .ref (q41), .ref (q42), .ref (q43), .ref (q44), .null, .null, .null, .null, .null, .null]) u15_37 hts (fun w hw => List.mem_cons_of_mem _ (fW_Md w hw)) fY_Md fK_Md fN_Md hown (ci := 5) (C := "NonceBoxModel") (T := fT_Md) (N := 16) rfl 10 (by decide) (hts _ (List.mem_cons_of_mem _ kf_Md_32)) rfl rfl (hini rfl) rfl (v := .ref (q45)) rfl rfl (Nat.le_of_ble_eq_true rfl) d_Md_init_68 (fun H locs h => ?_)
  have h : wT G A 46 ad15 (va_up ev15 37 (eO 5 [.ref (q38), .int 0, .int 0, .int 0, .ref (q39), .ref (q40), .ref (q41), .ref (q42), .ref (q43), .ref (q44), .ref (q45), .null, .null, .null, .null, .null])) s H locs := h
  obtain ⟨ev16, o16⟩ : ∃ z, z = va_up ev15 37 (eO 5 [.ref (q38), .int 0, .int 0, .int 0, .ref (q39), .ref (q40), .ref (q41), .ref (q42), .ref (q43), .ref (q44), .ref (q45), .null, .null, .null, .null, .null]) := ⟨_, rfl⟩
  rw [← o16] at h
  have u16_38 : ev16 38 = eI G 312 (fun _ => 0) := by rw [o16, va_up_ne _ _ (by decide)]; exact u15_38
  have u16_39 : ev16 39 = eI G 32 (fun _ => 0) := by rw [o16, va_up_ne _ _ (by decide)]; exact u15_39
  have u16_40 : ev16 40 = eI G 16 (fun _ => 0) := by rw [o16, va_up_ne _ _ (by decide)]; exact u15_40
  have u16_41 : ev16 41 = eI G 16 (fun _ => 0) := by rw [o16, va_up_ne _ _ (by decide)]; exact u15_41
  have u16_42 : ev16 42 = eI G 16 (fun _ => 0) := by rw [o16, va_up_ne _ _ (by decide)]; exact u15_42
  have u16_43 : ev16 43 = eI G 128 (fun _ => 0) := by rw [o16, va_up_ne _ _ (by decide)]; exact u15_43
  have u16_44 : ev16 44 = eJ G 160 (fun _ => 0) := by rw [o16, va_up_ne _ _ (by decide)]; exact u15_44
  have u16_45 : ev16 45 = eJ G 20 (fun _ => 0) := by rw [o16, va_up_ne _ _ (by decide)]; exact u15_45
  have u16_37 : ev16 37 = eO 5 [.ref (q38), .int 0, .int 0, .int 0, .ref (q39), .ref (q40), .ref (q41), .ref (q42), .ref (q43), .ref (q44), .ref (q45), .null, .null, .null, .null, .null] := by rw [o16, va_up_self]
  refine lv_aload_n hx hb d_Md_init_71 rfl (lv_at hl 0 rfl) ?_
  refine lv_iconst (v := nI (5)) hx hb d_Md_init_72 (by decide) ?_
  refine wv_newJ hx hb (hts _ (List.mem_cons_of_mem _ ka_long)) h (N := 5) rfl (by decide) (Nat.le_of_ble_eq_true rfl) (Nat.le_of_ble_eq_true rfl) d_Md_init_73 (fun q46 H h => ?_)
  obtain ⟨ev17, o17⟩ : ∃ z, z = va_up ev16 46 (eJ G 5 (fun _ => 0)) := ⟨_, rfl⟩
  rw [← o17] at h
  have u17_37 : ev17 37 = eO 5 [.ref (q38), .int 0, .int 0, .int 0, .ref (q39), .ref (q40), .ref (q41), .ref (q42), .ref (q43), .ref (q44), .ref (q45), .null, .null, .null, .null, .null] := by rw [o17, va_up_ne _ _ (by decide)]; exact u16_37
  have u17_38 : ev17 38 = eI G 312 (fun _ => 0) := by rw [o17, va_up_ne _ _ (by decide)]; exact u16_38
  have u17_39 : ev17 39 = eI G 32 (fun _ => 0) := by rw [o17, va_up_ne _ _ (by decide)]; exact u16_39
  have u17_40 : ev17 40 = eI G 16 (fun _ => 0) := by rw [o17, va_up_ne _ _ (by decide)]; exact u16_40
  have u17_41 : ev17 41 = eI G 16 (fun _ => 0) := by rw [o17, va_up_ne _ _ (by decide)]; exact u16_41
  have u17_42 : ev17 42 = eI G 16 (fun _ => 0) := by rw [o17, va_up_ne _ _ (by decide)]; exact u16_42
  have u17_43 : ev17 43 = eI G 128 (fun _ => 0) := by rw [o17, va_up_ne _ _ (by decide)]; exact u16_43
  have u17_44 : ev17 44 = eJ G 160 (fun _ => 0) := by rw [o17, va_up_ne _ _ (by decide)]; exact u16_44
  have u17_45 : ev17 45 = eJ G 20 (fun _ => 0) := by rw [o17, va_up_ne _ _ (by decide)]; exact u16_45
  have u17_46 : ev17 46 = eJ G 5 (fun _ => 0) := by rw [o17, va_up_self]
  obtain ⟨ad17, ha17⟩ : ∃ z, z = va_up ad15 46 q46 := ⟨_, rfl⟩
  rw [← ha17] at h
  have a17_37 : ad17 37 = b := by rw [ha17, va_up_ne _ _ (by decide)]; exact a15_37
  have a17_38 : ad17 38 = q38 := by rw [ha17, va_up_ne _ _ (by decide)]; exact a15_38
  have a17_39 : ad17 39 = q39 := by rw [ha17, va_up_ne _ _ (by decide)]; exact a15_39
  have a17_40 : ad17 40 = q40 := by rw [ha17, va_up_ne _ _ (by decide)]; exact a15_40
  have a17_41 : ad17 41 = q41 := by rw [ha17, va_up_ne _ _ (by decide)]; exact a15_41
  have a17_42 : ad17 42 = q42 := by rw [ha17, va_up_ne _ _ (by decide)]; exact a15_42
  have a17_43 : ad17 43 = q43 := by rw [ha17, va_up_ne _ _ (by decide)]; exact a15_43
  have a17_44 : ad17 44 = q44 := by rw [ha17, va_up_ne _ _ (by decide)]; exact a15_44
  have a17_45 : ad17 45 = q45 := by rw [ha17, va_up_ne _ _ (by decide)]; exact a15_45
  have a17_46 : ad17 46 = q46 := by rw [ha17, va_up_self]
  refine wv_adr2 a17_37 ?_
  refine wv_putF hx hb h 37 (by decide) (fs := [.ref (q38), .int 0, .int 0, .int 0, .ref (q39), .ref (q40), .ref (q41), .ref (q42), .ref (q43), .ref (q44), .ref (q45), .null, .null, .null, .null, .null]) u17_37 hts (fun w hw => List.mem_cons_of_mem _ (fW_Md w hw)) fY_Md fK_Md fN_Md hown (ci := 5) (C := "NonceBoxModel") (T := fT_Md) (N := 16) rfl 11 (by decide) (hts _ (List.mem_cons_of_mem _ kf_Md_35)) rfl rfl (hini rfl) rfl (v := .ref (q46)) rfl rfl (Nat.le_of_ble_eq_true rfl) d_Md_init_75 (fun H locs h => ?_)
  have h : wT G A 47 ad17 (va_up ev17 37 (eO 5 [.ref (q38), .int 0, .int 0, .int 0, .ref (q39), .ref (q40), .ref (q41), .ref (q42), .ref (q43), .ref (q44), .ref (q45), .ref (q46), .null, .null, .null, .null])) s H locs := h
  obtain ⟨ev18, o18⟩ : ∃ z, z = va_up ev17 37 (eO 5 [.ref (q38), .int 0, .int 0, .int 0, .ref (q39), .ref (q40), .ref (q41), .ref (q42), .ref (q43), .ref (q44), .ref (q45), .ref (q46), .null, .null, .null, .null]) := ⟨_, rfl⟩
  rw [← o18] at h
  have u18_38 : ev18 38 = eI G 312 (fun _ => 0) := by rw [o18, va_up_ne _ _ (by decide)]; exact u17_38
  have u18_39 : ev18 39 = eI G 32 (fun _ => 0) := by rw [o18, va_up_ne _ _ (by decide)]; exact u17_39
  have u18_40 : ev18 40 = eI G 16 (fun _ => 0) := by rw [o18, va_up_ne _ _ (by decide)]; exact u17_40
  have u18_41 : ev18 41 = eI G 16 (fun _ => 0) := by rw [o18, va_up_ne _ _ (by decide)]; exact u17_41
  have u18_42 : ev18 42 = eI G 16 (fun _ => 0) := by rw [o18, va_up_ne _ _ (by decide)]; exact u17_42
  have u18_43 : ev18 43 = eI G 128 (fun _ => 0) := by rw [o18, va_up_ne _ _ (by decide)]; exact u17_43
  have u18_44 : ev18 44 = eJ G 160 (fun _ => 0) := by rw [o18, va_up_ne _ _ (by decide)]; exact u17_44
  have u18_45 : ev18 45 = eJ G 20 (fun _ => 0) := by rw [o18, va_up_ne _ _ (by decide)]; exact u17_45
  have u18_46 : ev18 46 = eJ G 5 (fun _ => 0) := by rw [o18, va_up_ne _ _ (by decide)]; exact u17_46
  have u18_37 : ev18 37 = eO 5 [.ref (q38), .int 0, .int 0, .int 0, .ref (q39), .ref (q40), .ref (q41), .ref (q42), .ref (q43), .ref (q44), .ref (q45), .ref (q46), .null, .null, .null, .null] := by rw [o18, va_up_self]
  refine lv_aload_n hx hb d_Md_init_78 rfl (lv_at hl 0 rfl) ?_
  refine lv_iconst (v := nI (5)) hx hb d_Md_init_79 (by decide) ?_
  refine wv_newJ hx hb (hts _ (List.mem_cons_of_mem _ ka_long)) h (N := 5) rfl (by decide) (Nat.le_of_ble_eq_true rfl) (Nat.le_of_ble_eq_true rfl) d_Md_init_80 (fun q47 H h => ?_)
  obtain ⟨ev19, o19⟩ : ∃ z, z = va_up ev18 47 (eJ G 5 (fun _ => 0)) := ⟨_, rfl⟩
  rw [← o19] at h
  have u19_37 : ev19 37 = eO 5 [.ref (q38), .int 0, .int 0, .int 0, .ref (q39), .ref (q40), .ref (q41), .ref (q42), .ref (q43), .ref (q44), .ref (q45), .ref (q46), .null, .null, .null, .null] := by rw [o19, va_up_ne _ _ (by decide)]; exact u18_37
  have u19_38 : ev19 38 = eI G 312 (fun _ => 0) := by rw [o19, va_up_ne _ _ (by decide)]; exact u18_38
  have u19_39 : ev19 39 = eI G 32 (fun _ => 0) := by rw [o19, va_up_ne _ _ (by decide)]; exact u18_39
  have u19_40 : ev19 40 = eI G 16 (fun _ => 0) := by rw [o19, va_up_ne _ _ (by decide)]; exact u18_40
  have u19_41 : ev19 41 = eI G 16 (fun _ => 0) := by rw [o19, va_up_ne _ _ (by decide)]; exact u18_41
  have u19_42 : ev19 42 = eI G 16 (fun _ => 0) := by rw [o19, va_up_ne _ _ (by decide)]; exact u18_42
  have u19_43 : ev19 43 = eI G 128 (fun _ => 0) := by rw [o19, va_up_ne _ _ (by decide)]; exact u18_43
  have u19_44 : ev19 44 = eJ G 160 (fun _ => 0) := by rw [o19, va_up_ne _ _ (by decide)]; exact u18_44
  have u19_45 : ev19 45 = eJ G 20 (fun _ => 0) := by rw [o19, va_up_ne _ _ (by decide)]; exact u18_45
  have u19_46 : ev19 46 = eJ G 5 (fun _ => 0) := by rw [o19, va_up_ne _ _ (by decide)]; exact u18_46
  have u19_47 : ev19 47 = eJ G 5 (fun _ => 0) := by rw [o19, va_up_self]
  obtain ⟨ad19, ha19⟩ : ∃ z, z = va_up ad17 47 q47 := ⟨_, rfl⟩
  rw [← ha19] at h
  have a19_37 : ad19 37 = b := by rw [ha19, va_up_ne _ _ (by decide)]; exact a17_37
  have a19_38 : ad19 38 = q38 := by rw [ha19, va_up_ne _ _ (by decide)]; exact a17_38
  have a19_39 : ad19 39 = q39 := by rw [ha19, va_up_ne _ _ (by decide)]; exact a17_39
  have a19_40 : ad19 40 = q40 := by rw [ha19, va_up_ne _ _ (by decide)]; exact a17_40
  have a19_41 : ad19 41 = q41 := by rw [ha19, va_up_ne _ _ (by decide)]; exact a17_41
  have a19_42 : ad19 42 = q42 := by rw [ha19, va_up_ne _ _ (by decide)]; exact a17_42
  have a19_43 : ad19 43 = q43 := by rw [ha19, va_up_ne _ _ (by decide)]; exact a17_43
  have a19_44 : ad19 44 = q44 := by rw [ha19, va_up_ne _ _ (by decide)]; exact a17_44
  have a19_45 : ad19 45 = q45 := by rw [ha19, va_up_ne _ _ (by decide)]; exact a17_45
  have a19_46 : ad19 46 = q46 := by rw [ha19, va_up_ne _ _ (by decide)]; exact a17_46
  have a19_47 : ad19 47 = q47 := by rw [ha19, va_up_self]
  refine wv_adr2 a19_37 ?_
  refine wv_putF hx hb h 37 (by decide) (fs := [.ref (q38), .int 0, .int 0, .int 0, .ref (q39), .ref (q40), .ref (q41), .ref (q42), .ref (q43), .ref (q44), .ref (q45), .ref (q46), .null, .null, .null, .null]) u19_37 hts (fun w hw => List.mem_cons_of_mem _ (fW_Md w hw)) fY_Md fK_Md fN_Md hown (ci := 5) (C := "NonceBoxModel") (T := fT_Md) (N := 16) rfl 12 (by decide) (hts _ (List.mem_cons_of_mem _ kf_Md_38)) rfl rfl (hini rfl) rfl (v := .ref (q47)) rfl rfl (Nat.le_of_ble_eq_true rfl) d_Md_init_82 (fun H locs h => ?_)
  have h : wT G A 48 ad19 (va_up ev19 37 (eO 5 [.ref (q38), .int 0, .int 0, .int 0, .ref (q39), .ref (q40), .ref (q41), .ref (q42), .ref (q43), .ref (q44), .ref (q45), .ref (q46), .ref (q47), .null, .null, .null])) s H locs := h
  obtain ⟨ev20, o20⟩ : ∃ z, z = va_up ev19 37 (eO 5 [.ref (q38), .int 0, .int 0, .int 0, .ref (q39), .ref (q40), .ref (q41), .ref (q42), .ref (q43), .ref (q44), .ref (q45), .ref (q46), .ref (q47), .null, .null, .null]) := ⟨_, rfl⟩
  rw [← o20] at h
  have u20_38 : ev20 38 = eI G 312 (fun _ => 0) := by rw [o20, va_up_ne _ _ (by decide)]; exact u19_38
  have u20_39 : ev20 39 = eI G 32 (fun _ => 0) := by rw [o20, va_up_ne _ _ (by decide)]; exact u19_39
  have u20_40 : ev20 40 = eI G 16 (fun _ => 0) := by rw [o20, va_up_ne _ _ (by decide)]; exact u19_40
  have u20_41 : ev20 41 = eI G 16 (fun _ => 0) := by rw [o20, va_up_ne _ _ (by decide)]; exact u19_41
  have u20_42 : ev20 42 = eI G 16 (fun _ => 0) := by rw [o20, va_up_ne _ _ (by decide)]; exact u19_42
  have u20_43 : ev20 43 = eI G 128 (fun _ => 0) := by rw [o20, va_up_ne _ _ (by decide)]; exact u19_43
  have u20_44 : ev20 44 = eJ G 160 (fun _ => 0) := by rw [o20, va_up_ne _ _ (by decide)]; exact u19_44
  have u20_45 : ev20 45 = eJ G 20 (fun _ => 0) := by rw [o20, va_up_ne _ _ (by decide)]; exact u19_45
  have u20_46 : ev20 46 = eJ G 5 (fun _ => 0) := by rw [o20, va_up_ne _ _ (by decide)]; exact u19_46
  have u20_47 : ev20 47 = eJ G 5 (fun _ => 0) := by rw [o20, va_up_ne _ _ (by decide)]; exact u19_47
  have u20_37 : ev20 37 = eO 5 [.ref (q38), .int 0, .int 0, .int 0, .ref (q39), .ref (q40), .ref (q41), .ref (q42), .ref (q43), .ref (q44), .ref (q45), .ref (q46), .ref (q47), .null, .null, .null] := by rw [o20, va_up_self]
  refine lv_aload_n hx hb d_Md_init_85 rfl (lv_at hl 0 rfl) ?_
  refine lv_iconst (v := nI (5)) hx hb d_Md_init_86 (by decide) ?_
  refine wv_newJ hx hb (hts _ (List.mem_cons_of_mem _ ka_long)) h (N := 5) rfl (by decide) (Nat.le_of_ble_eq_true rfl) (Nat.le_of_ble_eq_true rfl) d_Md_init_87 (fun q48 H h => ?_)
  obtain ⟨ev21, o21⟩ : ∃ z, z = va_up ev20 48 (eJ G 5 (fun _ => 0)) := ⟨_, rfl⟩
  rw [← o21] at h
  have u21_37 : ev21 37 = eO 5 [.ref (q38), .int 0, .int 0, .int 0, .ref (q39), .ref (q40), .ref (q41), .ref (q42), .ref (q43), .ref (q44), .ref (q45), .ref (q46), .ref (q47), .null, .null, .null] := by rw [o21, va_up_ne _ _ (by decide)]; exact u20_37
  have u21_38 : ev21 38 = eI G 312 (fun _ => 0) := by rw [o21, va_up_ne _ _ (by decide)]; exact u20_38
  have u21_39 : ev21 39 = eI G 32 (fun _ => 0) := by rw [o21, va_up_ne _ _ (by decide)]; exact u20_39
  have u21_40 : ev21 40 = eI G 16 (fun _ => 0) := by rw [o21, va_up_ne _ _ (by decide)]; exact u20_40
  have u21_41 : ev21 41 = eI G 16 (fun _ => 0) := by rw [o21, va_up_ne _ _ (by decide)]; exact u20_41
  have u21_42 : ev21 42 = eI G 16 (fun _ => 0) := by rw [o21, va_up_ne _ _ (by decide)]; exact u20_42
  have u21_43 : ev21 43 = eI G 128 (fun _ => 0) := by rw [o21, va_up_ne _ _ (by decide)]; exact u20_43
  have u21_44 : ev21 44 = eJ G 160 (fun _ => 0) := by rw [o21, va_up_ne _ _ (by decide)]; exact u20_44
  have u21_45 : ev21 45 = eJ G 20 (fun _ => 0) := by rw [o21, va_up_ne _ _ (by decide)]; exact u20_45
  have u21_46 : ev21 46 = eJ G 5 (fun _ => 0) := by rw [o21, va_up_ne _ _ (by decide)]; exact u20_46
  have u21_47 : ev21 47 = eJ G 5 (fun _ => 0) := by rw [o21, va_up_ne _ _ (by decide)]; exact u20_47
  have u21_48 : ev21 48 = eJ G 5 (fun _ => 0) := by rw [o21, va_up_self]
  obtain ⟨ad21, ha21⟩ : ∃ z, z = va_up ad19 48 q48 := ⟨_, rfl⟩
  rw [← ha21] at h
  have a21_37 : ad21 37 = b := by rw [ha21, va_up_ne _ _ (by decide)]; exact a19_37
  have a21_38 : ad21 38 = q38 := by rw [ha21, va_up_ne _ _ (by decide)]; exact a19_38
  have a21_39 : ad21 39 = q39 := by rw [ha21, va_up_ne _ _ (by decide)]; exact a19_39
  have a21_40 : ad21 40 = q40 := by rw [ha21, va_up_ne _ _ (by decide)]; exact a19_40
  have a21_41 : ad21 41 = q41 := by rw [ha21, va_up_ne _ _ (by decide)]; exact a19_41
  have a21_42 : ad21 42 = q42 := by rw [ha21, va_up_ne _ _ (by decide)]; exact a19_42
  have a21_43 : ad21 43 = q43 := by rw [ha21, va_up_ne _ _ (by decide)]; exact a19_43
  have a21_44 : ad21 44 = q44 := by rw [ha21, va_up_ne _ _ (by decide)]; exact a19_44
  have a21_45 : ad21 45 = q45 := by rw [ha21, va_up_ne _ _ (by decide)]; exact a19_45
  have a21_46 : ad21 46 = q46 := by rw [ha21, va_up_ne _ _ (by decide)]; exact a19_46
  have a21_47 : ad21 47 = q47 := by rw [ha21, va_up_ne _ _ (by decide)]; exact a19_47
  have a21_48 : ad21 48 = q48 := by rw [ha21, va_up_self]
  refine wv_adr2 a21_37 ?_
  refine wv_putF hx hb h 37 (by decide) (fs := [.ref (q38), .int 0, .int 0, .int 0, .ref (q39), .ref (q40), .ref (q41), .ref (q42), .ref (q43), .ref (q44), .ref (q45), .ref (q46), .ref (q47), .null, .null, .null]) u21_37 hts (fun w hw => List.mem_cons_of_mem _ (fW_Md w hw)) fY_Md fK_Md fN_Md hown (ci := 5) (C := "NonceBoxModel") (T := fT_Md) (N := 16) rfl 13 (by decide) (hts _ (List.mem_cons_of_mem _ kf_Md_41)) rfl rfl (hini rfl) rfl (v := .ref (q48)) rfl rfl (Nat.le_of_ble_eq_true rfl) d_Md_init_89 (fun H locs h => ?_)
  have h : wT G A 49 ad21 (va_up ev21 37 (eO 5 [.ref (q38), .int 0, .int 0, .int 0, .ref (q39), .ref (q40), .ref (q41), .ref (q42), .ref (q43), .ref (q44), .ref (q45), .ref (q46), .ref (q47), .ref (q48), .null, .null])) s H locs := h
  obtain ⟨ev22, o22⟩ : ∃ z, z = va_up ev21 37 (eO 5 [.ref (q38), .int 0, .int 0, .int 0, .ref (q39), .ref (q40), .ref (q41), .ref (q42), .ref (q43), .ref (q44), .ref (q45), .ref (q46), .ref (q47), .ref (q48), .null, .null]) := ⟨_, rfl⟩
  rw [← o22] at h
  have u22_38 : ev22 38 = eI G 312 (fun _ => 0) := by rw [o22, va_up_ne _ _ (by decide)]; exact u21_38
  have u22_39 : ev22 39 = eI G 32 (fun _ => 0) := by rw [o22, va_up_ne _ _ (by decide)]; exact u21_39
  have u22_40 : ev22 40 = eI G 16 (fun _ => 0) := by rw [o22, va_up_ne _ _ (by decide)]; exact u21_40
  have u22_41 : ev22 41 = eI G 16 (fun _ => 0) := by rw [o22, va_up_ne _ _ (by decide)]; exact u21_41
  have u22_42 : ev22 42 = eI G 16 (fun _ => 0) := by rw [o22, va_up_ne _ _ (by decide)]; exact u21_42
  have u22_43 : ev22 43 = eI G 128 (fun _ => 0) := by rw [o22, va_up_ne _ _ (by decide)]; exact u21_43
  have u22_44 : ev22 44 = eJ G 160 (fun _ => 0) := by rw [o22, va_up_ne _ _ (by decide)]; exact u21_44
  have u22_45 : ev22 45 = eJ G 20 (fun _ => 0) := by rw [o22, va_up_ne _ _ (by decide)]; exact u21_45
  have u22_46 : ev22 46 = eJ G 5 (fun _ => 0) := by rw [o22, va_up_ne _ _ (by decide)]; exact u21_46
  have u22_47 : ev22 47 = eJ G 5 (fun _ => 0) := by rw [o22, va_up_ne _ _ (by decide)]; exact u21_47
  have u22_48 : ev22 48 = eJ G 5 (fun _ => 0) := by rw [o22, va_up_ne _ _ (by decide)]; exact u21_48
  have u22_37 : ev22 37 = eO 5 [.ref (q38), .int 0, .int 0, .int 0, .ref (q39), .ref (q40), .ref (q41), .ref (q42), .ref (q43), .ref (q44), .ref (q45), .ref (q46), .ref (q47), .ref (q48), .null, .null] := by rw [o22, va_up_self]
  refine lv_aload_n hx hb d_Md_init_92 rfl (lv_at hl 0 rfl) ?_
  refine lv_bipush (v := nI (16)) hx hb d_Md_init_93 (by decide) ?_
  refine wv_newI hx hb (hts _ (List.mem_cons_of_mem _ ka_int)) h (N := 16) rfl (by decide) (Nat.le_of_ble_eq_true rfl) (Nat.le_of_ble_eq_true rfl) d_Md_init_95 (fun q49 H h => ?_)
  obtain ⟨ev23, o23⟩ : ∃ z, z = va_up ev22 49 (eI G 16 (fun _ => 0)) := ⟨_, rfl⟩
  rw [← o23] at h
  have u23_37 : ev23 37 = eO 5 [.ref (q38), .int 0, .int 0, .int 0, .ref (q39), .ref (q40), .ref (q41), .ref (q42), .ref (q43), .ref (q44), .ref (q45), .ref (q46), .ref (q47), .ref (q48), .null, .null] := by rw [o23, va_up_ne _ _ (by decide)]; exact u22_37
  have u23_38 : ev23 38 = eI G 312 (fun _ => 0) := by rw [o23, va_up_ne _ _ (by decide)]; exact u22_38
  have u23_39 : ev23 39 = eI G 32 (fun _ => 0) := by rw [o23, va_up_ne _ _ (by decide)]; exact u22_39
  have u23_40 : ev23 40 = eI G 16 (fun _ => 0) := by rw [o23, va_up_ne _ _ (by decide)]; exact u22_40
  have u23_41 : ev23 41 = eI G 16 (fun _ => 0) := by rw [o23, va_up_ne _ _ (by decide)]; exact u22_41
  have u23_42 : ev23 42 = eI G 16 (fun _ => 0) := by rw [o23, va_up_ne _ _ (by decide)]; exact u22_42
  have u23_43 : ev23 43 = eI G 128 (fun _ => 0) := by rw [o23, va_up_ne _ _ (by decide)]; exact u22_43
  have u23_44 : ev23 44 = eJ G 160 (fun _ => 0) := by rw [o23, va_up_ne _ _ (by decide)]; exact u22_44
  have u23_45 : ev23 45 = eJ G 20 (fun _ => 0) := by rw [o23, va_up_ne _ _ (by decide)]; exact u22_45
  have u23_46 : ev23 46 = eJ G 5 (fun _ => 0) := by rw [o23, va_up_ne _ _ (by decide)]; exact u22_46
  have u23_47 : ev23 47 = eJ G 5 (fun _ => 0) := by rw [o23, va_up_ne _ _ (by decide)]; exact u22_47
  have u23_48 : ev23 48 = eJ G 5 (fun _ => 0) := by rw [o23, va_up_ne _ _ (by decide)]; exact u22_48
  have u23_49 : ev23 49 = eI G 16 (fun _ => 0) := by rw [o23, va_up_self]
  obtain ⟨ad23, ha23⟩ : ∃ z, z = va_up ad21 49 q49 := ⟨_, rfl⟩
  rw [← ha23] at h
  have a23_37 : ad23 37 = b := by rw [ha23, va_up_ne _ _ (by decide)]; exact a21_37
  have a23_38 : ad23 38 = q38 := by rw [ha23, va_up_ne _ _ (by decide)]; exact a21_38
  have a23_39 : ad23 39 = q39 := by rw [ha23, va_up_ne _ _ (by decide)]; exact a21_39
  have a23_40 : ad23 40 = q40 := by rw [ha23, va_up_ne _ _ (by decide)]; exact a21_40
  have a23_41 : ad23 41 = q41 := by rw [ha23, va_up_ne _ _ (by decide)]; exact a21_41
  have a23_42 : ad23 42 = q42 := by rw [ha23, va_up_ne _ _ (by decide)]; exact a21_42
  have a23_43 : ad23 43 = q43 := by rw [ha23, va_up_ne _ _ (by decide)]; exact a21_43
  have a23_44 : ad23 44 = q44 := by rw [ha23, va_up_ne _ _ (by decide)]; exact a21_44
  have a23_45 : ad23 45 = q45 := by rw [ha23, va_up_ne _ _ (by decide)]; exact a21_45
  have a23_46 : ad23 46 = q46 := by rw [ha23, va_up_ne _ _ (by decide)]; exact a21_46
  have a23_47 : ad23 47 = q47 := by rw [ha23, va_up_ne _ _ (by decide)]; exact a21_47
  have a23_48 : ad23 48 = q48 := by rw [ha23, va_up_ne _ _ (by decide)]; exact a21_48
  have a23_49 : ad23 49 = q49 := by rw [ha23, va_up_self]
  refine wv_adr2 a23_37 ?_
  refine wv_putF hx hb h 37 (by decide) (fs := [.ref (q38), .int 0, .int 0, .int 0, .ref (q39), .ref (q40), .ref (q41), .ref (q42), .ref (q43), .ref (q44), .ref (q45), .ref (q46), .ref (q47), .ref (q48), .null, .null]) u23_37 hts (fun w hw => List.mem_cons_of_mem _ (fW_Md w hw)) fY_Md fK_Md fN_Md hown (ci := 5) (C := "NonceBoxModel") (T := fT_Md) (N := 16) rfl 14 (by decide) (hts _ (List.mem_cons_of_mem _ kf_Md_44)) rfl rfl (hini rfl) rfl (v := .ref (q49)) rfl rfl (Nat.le_of_ble_eq_true rfl) d_Md_init_97 (fun H locs h => ?_)
  have h : wT G A 50 ad23 (va_up ev23 37 (eO 5 [.ref (q38), .int 0, .int 0, .int 0, .ref (q39), .ref (q40), .ref (q41), .ref (q42), .ref (q43), .ref (q44), .ref (q45), .ref (q46), .ref (q47), .ref (q48), .ref (q49), .null])) s H locs := h
  obtain ⟨ev24, o24⟩ : ∃ z, z = va_up ev23 37 (eO 5 [.ref (q38), .int 0, .int 0, .int 0, .ref (q39), .ref (q40), .ref (q41), .ref (q42), .ref (q43), .ref (q44), .ref (q45), .ref (q46), .ref (q47), .ref (q48), .ref (q49), .null]) := ⟨_, rfl⟩
  rw [← o24] at h
  have u24_38 : ev24 38 = eI G 312 (fun _ => 0) := by rw [o24, va_up_ne _ _ (by decide)]; exact u23_38
  have u24_39 : ev24 39 = eI G 32 (fun _ => 0) := by rw [o24, va_up_ne _ _ (by decide)]; exact u23_39
  have u24_40 : ev24 40 = eI G 16 (fun _ => 0) := by rw [o24, va_up_ne _ _ (by decide)]; exact u23_40
  have u24_41 : ev24 41 = eI G 16 (fun _ => 0) := by rw [o24, va_up_ne _ _ (by decide)]; exact u23_41
  have u24_42 : ev24 42 = eI G 16 (fun _ => 0) := by rw [o24, va_up_ne _ _ (by decide)]; exact u23_42
  have u24_43 : ev24 43 = eI G 128 (fun _ => 0) := by rw [o24, va_up_ne _ _ (by decide)]; exact u23_43
  have u24_44 : ev24 44 = eJ G 160 (fun _ => 0) := by rw [o24, va_up_ne _ _ (by decide)]; exact u23_44
  have u24_45 : ev24 45 = eJ G 20 (fun _ => 0) := by rw [o24, va_up_ne _ _ (by decide)]; exact u23_45
  have u24_46 : ev24 46 = eJ G 5 (fun _ => 0) := by rw [o24, va_up_ne _ _ (by decide)]; exact u23_46
  have u24_47 : ev24 47 = eJ G 5 (fun _ => 0) := by rw [o24, va_up_ne _ _ (by decide)]; exact u23_47
  have u24_48 : ev24 48 = eJ G 5 (fun _ => 0) := by rw [o24, va_up_ne _ _ (by decide)]; exact u23_48
  have u24_49 : ev24 49 = eI G 16 (fun _ => 0) := by rw [o24, va_up_ne _ _ (by decide)]; exact u23_49
  have u24_37 : ev24 37 = eO 5 [.ref (q38), .int 0, .int 0, .int 0, .ref (q39), .ref (q40), .ref (q41), .ref (q42), .ref (q43), .ref (q44), .ref (q45), .ref (q46), .ref (q47), .ref (q48), .ref (q49), .null] := by rw [o24, va_up_self]
  refine lv_aload_n hx hb d_Md_init_100 rfl (lv_at hl 0 rfl) ?_
  refine lv_bipush (v := nI (112)) hx hb d_Md_init_101 (by decide) ?_
  refine wv_newI hx hb (hts _ (List.mem_cons_of_mem _ ka_int)) h (N := 112) rfl (by decide) (Nat.le_of_ble_eq_true rfl) (Nat.le_of_ble_eq_true rfl) d_Md_init_103 (fun q50 H h => ?_)
  obtain ⟨ev25, o25⟩ : ∃ z, z = va_up ev24 50 (eI G 112 (fun _ => 0)) := ⟨_, rfl⟩
  rw [← o25] at h
  have u25_37 : ev25 37 = eO 5 [.ref (q38), .int 0, .int 0, .int 0, .ref (q39), .ref (q40), .ref (q41), .ref (q42), .ref (q43), .ref (q44), .ref (q45), .ref (q46), .ref (q47), .ref (q48), .ref (q49), .null] := by rw [o25, va_up_ne _ _ (by decide)]; exact u24_37
  have u25_38 : ev25 38 = eI G 312 (fun _ => 0) := by rw [o25, va_up_ne _ _ (by decide)]; exact u24_38
  have u25_39 : ev25 39 = eI G 32 (fun _ => 0) := by rw [o25, va_up_ne _ _ (by decide)]; exact u24_39
  have u25_40 : ev25 40 = eI G 16 (fun _ => 0) := by rw [o25, va_up_ne _ _ (by decide)]; exact u24_40
  have u25_41 : ev25 41 = eI G 16 (fun _ => 0) := by rw [o25, va_up_ne _ _ (by decide)]; exact u24_41
  have u25_42 : ev25 42 = eI G 16 (fun _ => 0) := by rw [o25, va_up_ne _ _ (by decide)]; exact u24_42
  have u25_43 : ev25 43 = eI G 128 (fun _ => 0) := by rw [o25, va_up_ne _ _ (by decide)]; exact u24_43
  have u25_44 : ev25 44 = eJ G 160 (fun _ => 0) := by rw [o25, va_up_ne _ _ (by decide)]; exact u24_44
  have u25_45 : ev25 45 = eJ G 20 (fun _ => 0) := by rw [o25, va_up_ne _ _ (by decide)]; exact u24_45
  have u25_46 : ev25 46 = eJ G 5 (fun _ => 0) := by rw [o25, va_up_ne _ _ (by decide)]; exact u24_46
  have u25_47 : ev25 47 = eJ G 5 (fun _ => 0) := by rw [o25, va_up_ne _ _ (by decide)]; exact u24_47
  have u25_48 : ev25 48 = eJ G 5 (fun _ => 0) := by rw [o25, va_up_ne _ _ (by decide)]; exact u24_48
  have u25_49 : ev25 49 = eI G 16 (fun _ => 0) := by rw [o25, va_up_ne _ _ (by decide)]; exact u24_49
  have u25_50 : ev25 50 = eI G 112 (fun _ => 0) := by rw [o25, va_up_self]
  obtain ⟨ad25, ha25⟩ : ∃ z, z = va_up ad23 50 q50 := ⟨_, rfl⟩
  rw [← ha25] at h
  have a25_37 : ad25 37 = b := by rw [ha25, va_up_ne _ _ (by decide)]; exact a23_37
  have a25_38 : ad25 38 = q38 := by rw [ha25, va_up_ne _ _ (by decide)]; exact a23_38
  have a25_39 : ad25 39 = q39 := by rw [ha25, va_up_ne _ _ (by decide)]; exact a23_39
  have a25_40 : ad25 40 = q40 := by rw [ha25, va_up_ne _ _ (by decide)]; exact a23_40
  have a25_41 : ad25 41 = q41 := by rw [ha25, va_up_ne _ _ (by decide)]; exact a23_41
  have a25_42 : ad25 42 = q42 := by rw [ha25, va_up_ne _ _ (by decide)]; exact a23_42
  have a25_43 : ad25 43 = q43 := by rw [ha25, va_up_ne _ _ (by decide)]; exact a23_43
  have a25_44 : ad25 44 = q44 := by rw [ha25, va_up_ne _ _ (by decide)]; exact a23_44
  have a25_45 : ad25 45 = q45 := by rw [ha25, va_up_ne _ _ (by decide)]; exact a23_45
  have a25_46 : ad25 46 = q46 := by rw [ha25, va_up_ne _ _ (by decide)]; exact a23_46
  have a25_47 : ad25 47 = q47 := by rw [ha25, va_up_ne _ _ (by decide)]; exact a23_47
  have a25_48 : ad25 48 = q48 := by rw [ha25, va_up_ne _ _ (by decide)]; exact a23_48
  have a25_49 : ad25 49 = q49 := by rw [ha25, va_up_ne _ _ (by decide)]; exact a23_49
  have a25_50 : ad25 50 = q50 := by rw [ha25, va_up_self]
  refine wv_adr2 a25_37 ?_
  refine wv_putF hx hb h 37 (by decide) (fs := [.ref (q38), .int 0, .int 0, .int 0, .ref (q39), .ref (q40), .ref (q41), .ref (q42), .ref (q43), .ref (q44), .ref (q45), .ref (q46), .ref (q47), .ref (q48), .ref (q49), .null]) u25_37 hts (fun w hw => List.mem_cons_of_mem _ (fW_Md w hw)) fY_Md fK_Md fN_Md hown (ci := 5) (C := "NonceBoxModel") (T := fT_Md) (N := 16) rfl 15 (by decide) (hts _ (List.mem_cons_of_mem _ kf_Md_47)) rfl rfl (hini rfl) rfl (v := .ref (q50)) rfl rfl (Nat.le_of_ble_eq_true rfl) d_Md_init_105 (fun H locs h => ?_)
  have h : wT G A 51 ad25 (va_up ev25 37 (eO 5 [.ref (q38), .int 0, .int 0, .int 0, .ref (q39), .ref (q40), .ref (q41), .ref (q42), .ref (q43), .ref (q44), .ref (q45), .ref (q46), .ref (q47), .ref (q48), .ref (q49), .ref (q50)])) s H locs := h
  obtain ⟨ev26, o26⟩ : ∃ z, z = va_up ev25 37 (eO 5 [.ref (q38), .int 0, .int 0, .int 0, .ref (q39), .ref (q40), .ref (q41), .ref (q42), .ref (q43), .ref (q44), .ref (q45), .ref (q46), .ref (q47), .ref (q48), .ref (q49), .ref (q50)]) := ⟨_, rfl⟩
  rw [← o26] at h
  have u26_38 : ev26 38 = eI G 312 (fun _ => 0) := by rw [o26, va_up_ne _ _ (by decide)]; exact u25_38
  have u26_39 : ev26 39 = eI G 32 (fun _ => 0) := by rw [o26, va_up_ne _ _ (by decide)]; exact u25_39
  have u26_40 : ev26 40 = eI G 16 (fun _ => 0) := by rw [o26, va_up_ne _ _ (by decide)]; exact u25_40
  have u26_41 : ev26 41 = eI G 16 (fun _ => 0) := by rw [o26, va_up_ne _ _ (by decide)]; exact u25_41
  have u26_42 : ev26 42 = eI G 16 (fun _ => 0) := by rw [o26, va_up_ne _ _ (by decide)]; exact u25_42
  have u26_43 : ev26 43 = eI G 128 (fun _ => 0) := by rw [o26, va_up_ne _ _ (by decide)]; exact u25_43
  have u26_44 : ev26 44 = eJ G 160 (fun _ => 0) := by rw [o26, va_up_ne _ _ (by decide)]; exact u25_44
  have u26_45 : ev26 45 = eJ G 20 (fun _ => 0) := by rw [o26, va_up_ne _ _ (by decide)]; exact u25_45
  have u26_46 : ev26 46 = eJ G 5 (fun _ => 0) := by rw [o26, va_up_ne _ _ (by decide)]; exact u25_46
  have u26_47 : ev26 47 = eJ G 5 (fun _ => 0) := by rw [o26, va_up_ne _ _ (by decide)]; exact u25_47
  have u26_48 : ev26 48 = eJ G 5 (fun _ => 0) := by rw [o26, va_up_ne _ _ (by decide)]; exact u25_48
  have u26_49 : ev26 49 = eI G 16 (fun _ => 0) := by rw [o26, va_up_ne _ _ (by decide)]; exact u25_49
  have u26_50 : ev26 50 = eI G 112 (fun _ => 0) := by rw [o26, va_up_ne _ _ (by decide)]; exact u25_50
  have u26_37 : ev26 37 = eO 5 [.ref (q38), .int 0, .int 0, .int 0, .ref (q39), .ref (q40), .ref (q41), .ref (q42), .ref (q43), .ref (q44), .ref (q45), .ref (q46), .ref (q47), .ref (q48), .ref (q49), .ref (q50)] := by rw [o26, va_up_self]
  exact wv_nret hx hb hr hlocks h d_Md_init_108 ⟨rfl, rfl, (fun k hk => by rw [ha25, va_up_ne _ _ (by omega), ha23, va_up_ne _ _ (by omega), ha21, va_up_ne _ _ (by omega), ha19, va_up_ne _ _ (by omega), ha17, va_up_ne _ _ (by omega), ha15, va_up_ne _ _ (by omega), ha13, va_up_ne _ _ (by omega), ha11, va_up_ne _ _ (by omega), ha9, va_up_ne _ _ (by omega), ha7, va_up_ne _ _ (by omega), ha5, va_up_ne _ _ (by omega), ha3, va_up_ne _ _ (by omega), ha1, va_up_ne _ _ (by omega)]), (fun k hk => by rw [o26, va_up_ne _ _ (by omega), o25, va_up_ne _ _ (by omega), o24, va_up_ne _ _ (by omega), o23, va_up_ne _ _ (by omega), o22, va_up_ne _ _ (by omega), o21, va_up_ne _ _ (by omega), o20, va_up_ne _ _ (by omega), o19, va_up_ne _ _ (by omega), o18, va_up_ne _ _ (by omega), o17, va_up_ne _ _ (by omega), o16, va_up_ne _ _ (by omega), o15, va_up_ne _ _ (by omega), o14, va_up_ne _ _ (by omega), o13, va_up_ne _ _ (by omega), o12, va_up_ne _ _ (by omega), o11, va_up_ne _ _ (by omega), o10, va_up_ne _ _ (by omega), o9, va_up_ne _ _ (by omega), o8, va_up_ne _ _ (by omega), o7, va_up_ne _ _ (by omega), o6, va_up_ne _ _ (by omega), o5, va_up_ne _ _ (by omega), o4, va_up_ne _ _ (by omega), o3, va_up_ne _ _ (by omega), o2, va_up_ne _ _ (by omega), o1, va_up_ne _ _ (by omega)]), by rw [a25_38, a25_39, a25_40, a25_41, a25_42, a25_43, a25_44, a25_45, a25_46, a25_47, a25_48, a25_49, a25_50]; exact u26_37, u26_38, u26_39, u26_40, u26_41, u26_42, u26_43, u26_44, u26_45, u26_46, u26_47, u26_48, u26_49, u26_50⟩
