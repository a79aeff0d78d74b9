theorem d_Mx_quarter_0 : decode c_Mx_quarter 0 = .ok (.aload_n 0, 1) := by decide +kernel
theorem d_Mx_quarter_1 : decode c_Mx_quarter 1 = .ok (.getfield 15, 3) := by decide +kernel
theorem d_Mx_quarter_4 : decode c_Mx_quarter 4 = .ok (.iload_n 2, 1) := by decide +kernel
theorem d_Mx_quarter_5 : decode c_Mx_quarter 5 = .ok (.dup2, 1) := by decide +kernel
theorem d_Mx_quarter_6 : decode c_Mx_quarter 6 = .ok (.iaload, 1) := by decide +kernel
theorem d_Mx_quarter_7 : decode c_Mx_quarter 7 = .ok (.aload_n 0, 1) := by decide +kernel
theorem d_Mx_quarter_8 : decode c_Mx_quarter 8 = .ok (.getfield 15, 3) := by decide +kernel
theorem d_Mx_quarter_11 : decode c_Mx_quarter 11 = .ok (.iload_n 1, 1) := by decide +kernel
theorem d_Mx_quarter_12 : decode c_Mx_quarter 12 = .ok (.iaload, 1) := by decide +kernel
theorem d_Mx_quarter_13 : decode c_Mx_quarter 13 = .ok (.aload_n 0, 1) := by decide +kernel
theorem d_Mx_quarter_14 : decode c_Mx_quarter 14 = .ok (.getfield 15, 3) := by decide +kernel
theorem d_Mx_quarter_17 : decode c_Mx_quarter 17 = .ok (.iload 4, 2) := by decide +kernel
theorem d_Mx_quarter_19 : decode c_Mx_quarter 19 = .ok (.iaload, 1) := by decide +kernel
theorem d_Mx_quarter_20 : decode c_Mx_quarter 20 = .ok (.iadd, 1) := by decide +kernel
theorem d_Mx_quarter_21 : decode c_Mx_quarter 21 = .ok (.bipush 7, 2) := by decide +kernel
theorem d_Mx_quarter_23 : decode c_Mx_quarter 23 = .ok (.invokestatic 65, 3) := by decide +kernel
theorem d_Mx_quarter_26 : decode c_Mx_quarter 26 = .ok (.ixor, 1) := by decide +kernel
theorem d_Mx_quarter_27 : decode c_Mx_quarter 27 = .ok (.iastore, 1) := by decide +kernel
theorem d_Mx_quarter_28 : decode c_Mx_quarter 28 = .ok (.aload_n 0, 1) := by decide +kernel
theorem d_Mx_quarter_29 : decode c_Mx_quarter 29 = .ok (.getfield 15, 3) := by decide +kernel
theorem d_Mx_quarter_32 : decode c_Mx_quarter 32 = .ok (.iload_n 3, 1) := by decide +kernel
theorem d_Mx_quarter_33 : decode c_Mx_quarter 33 = .ok (.dup2, 1) := by decide +kernel
theorem d_Mx_quarter_34 : decode c_Mx_quarter 34 = .ok (.iaload, 1) := by decide +kernel
theorem d_Mx_quarter_35 : decode c_Mx_quarter 35 = .ok (.aload_n 0, 1) := by decide +kernel
theorem d_Mx_quarter_36 : decode c_Mx_quarter 36 = .ok (.getfield 15, 3) := by decide +kernel
theorem d_Mx_quarter_39 : decode c_Mx_quarter 39 = .ok (.iload_n 2, 1) := by decide +kernel
theorem d_Mx_quarter_40 : decode c_Mx_quarter 40 = .ok (.iaload, 1) := by decide +kernel
theorem d_Mx_quarter_41 : decode c_Mx_quarter 41 = .ok (.aload_n 0, 1) := by decide +kernel
theorem d_Mx_quarter_42 : decode c_Mx_quarter 42 = .ok (.getfield 15, 3) := by decide +kernel
theorem d_Mx_quarter_45 : decode c_Mx_quarter 45 = .ok (.iload_n 1, 1) := by decide +kernel
theorem d_Mx_quarter_46 : decode c_Mx_quarter 46 = .ok (.iaload, 1) := by decide +kernel
theorem d_Mx_quarter_47 : decode c_Mx_quarter 47 = .ok (.iadd, 1) := by decide +kernel
theorem d_Mx_quarter_48 : decode c_Mx_quarter 48 = .ok (.bipush 9, 2) := by decide +kernel
theorem d_Mx_quarter_50 : decode c_Mx_quarter 50 = .ok (.invokestatic 65, 3) := by decide +kernel
theorem d_Mx_quarter_53 : decode c_Mx_quarter 53 = .ok (.ixor, 1) := by decide +kernel
theorem d_Mx_quarter_54 : decode c_Mx_quarter 54 = .ok (.iastore, 1) := by decide +kernel
theorem d_Mx_quarter_55 : decode c_Mx_quarter 55 = .ok (.aload_n 0, 1) := by decide +kernel
theorem d_Mx_quarter_56 : decode c_Mx_quarter 56 = .ok (.getfield 15, 3) := by decide +kernel
theorem d_Mx_quarter_59 : decode c_Mx_quarter 59 = .ok (.iload 4, 2) := by decide +kernel
theorem d_Mx_quarter_61 : decode c_Mx_quarter 61 = .ok (.dup2, 1) := by decide +kernel
theorem d_Mx_quarter_62 : decode c_Mx_quarter 62 = .ok (.iaload, 1) := by decide +kernel
theorem d_Mx_quarter_63 : decode c_Mx_quarter 63 = .ok (.aload_n 0, 1) := by decide +kernel
theorem d_Mx_quarter_64 : decode c_Mx_quarter 64 = .ok (.getfield 15, 3) := by decide +kernel
theorem d_Mx_quarter_67 : decode c_Mx_quarter 67 = .ok (.iload_n 3, 1) := by decide +kernel
theorem d_Mx_quarter_68 : decode c_Mx_quarter 68 = .ok (.iaload, 1) := by decide +kernel
theorem d_Mx_quarter_69 : decode c_Mx_quarter 69 = .ok (.aload_n 0, 1) := by decide +kernel
theorem d_Mx_quarter_70 : decode c_Mx_quarter 70 = .ok (.getfield 15, 3) := by decide +kernel
theorem d_Mx_quarter_73 : decode c_Mx_quarter 73 = .ok (.iload_n 2, 1) := by decide +kernel
theorem d_Mx_quarter_74 : decode c_Mx_quarter 74 = .ok (.iaload, 1) := by decide +kernel
theorem d_Mx_quarter_75 : decode c_Mx_quarter 75 = .ok (.iadd, 1) := by decide +kernel
theorem d_Mx_quarter_76 : decode c_Mx_quarter 76 = .ok (.bipush 13, 2) := by decide +kernel
theorem d_Mx_quarter_78 : decode c_Mx_quarter 78 = .ok (.invokestatic 65, 3) := by decide +kernel
theorem d_Mx_quarter_81 : decode c_Mx_quarter 81 = .ok (.ixor, 1) := by decide +kernel
theorem d_Mx_quarter_82 : decode c_Mx_quarter 82 = .ok (.iastore, 1) := by decide +kernel
theorem d_Mx_quarter_83 : decode c_Mx_quarter 83 = .ok (.aload_n 0, 1) := by decide +kernel
theorem d_Mx_quarter_84 : decode c_Mx_quarter 84 = .ok (.getfield 15, 3) := by decide +kernel
theorem d_Mx_quarter_87 : decode c_Mx_quarter 87 = .ok (.iload_n 1, 1) := by decide +kernel
theorem d_Mx_quarter_88 : decode c_Mx_quarter 88 = .ok (.dup2, 1) := by decide +kernel
theorem d_Mx_quarter_89 : decode c_Mx_quarter 89 = .ok (.iaload, 1) := by decide +kernel
theorem d_Mx_quarter_90 : decode c_Mx_quarter 90 = .ok (.aload_n 0, 1) := by decide +kernel
theorem d_Mx_quarter_91 : decode c_Mx_quarter 91 = .ok (.getfield 15, 3) := by decide +kernel
theorem d_Mx_quarter_94 : decode c_Mx_quarter 94 = .ok (.iload 4, 2) := by decide +kernel
theorem d_Mx_quarter_96 : decode c_Mx_quarter 96 = .ok (.iaload, 1) := by decide +kernel
theorem d_Mx_quarter_97 : decode c_Mx_quarter 97 = .ok (.aload_n 0, 1) := by decide +kernel
theorem d_Mx_quarter_98 : decode c_Mx_quarter 98 = .ok (.getfield 15, 3) := by decide +kernel
theorem d_Mx_quarter_101 : decode c_Mx_quarter 101 = .ok (.iload_n 3, 1) := by decide +kernel
theorem d_Mx_quarter_102 : decode c_Mx_quarter 102 = .ok (.iaload, 1) := by decide +kernel
theorem d_Mx_quarter_103 : decode c_Mx_quarter 103 = .ok (.iadd, 1) := by decide +kernel
theorem d_Mx_quarter_104 : decode c_Mx_quarter 104 = .ok (.bipush 18, 2) := by decide +kernel
theorem d_Mx_quarter_106 : decode c_Mx_quarter 106 = .ok (.invokestatic 65, 3) := by decide +kernel
theorem d_Mx_quarter_109 : decode c_Mx_quarter 109 = .ok (.ixor, 1) := by decide +kernel
theorem d_Mx_quarter_110 : decode c_Mx_quarter 110 = .ok (.iastore, 1) := by decide +kernel
theorem d_Mx_quarter_111 : decode c_Mx_quarter 111 = .ok (.return_, 1) := by decide +kernel
set_option maxRecDepth 100000 in
set_option maxHeartbeats 4000000 in
/-- QUARTER -/
theorem m_Mx_quarter (l : Launch) (G : wG) (A : Nat → Prop) (ad : Nat → Nat) (ev : Nat → va_E) (i0 i1 i2 i3 : Nat) (ha0 : i0 < 16) (ha1 : i1 < 16) (ha2 : i2 < 16) (ha3 : i3 < 16) (f : Nat → Int32) (h6 : ev 6 = eO 2 [.ref (ad 7), .ref (ad 8), .ref (ad 9), .ref (ad 10), .ref (ad 11)]) (h8 : ev 8 = eI G 16 f) : wM l y_Mx_quarter w_Mx_quarter ({ frames := 3, cells := 0, slots := 0, locals := 100 }) G A 52 ad ev [.ref (ad 6), .int (nI (i0)), .int (nI (i1)), .int (nI (i2)), .int (nI (i3))] (fun ov ev' => ov = none ∧ ev' = va_up ev 8 (eI G 16 (qtr i0 i1 i2 i3 f))) := by
  refine wv_ofW (cc := c_Mx_quarter) (maxL := 5) (ret := none) (by decide) rfl (Nat.le_of_ble_eq_true rfl) ?_
  intro p e s m below meth c ls hx hb hr hml hts hown hlocks hini h hl
  have hl : lv_has ls 5 [(0, .ref (ad 6)), (1, .int (nI (i0))), (2, .int (nI (i1))), (3, .int (nI (i2))), (4, .int (nI (i3)))] := hl
  obtain ⟨f1, ef1⟩ : ∃ z, z = va_up f i1 (f i1 ^^^ rot (f i0 + f i3) (nI 7)) := ⟨_, rfl⟩
  obtain ⟨f2, ef2⟩ : ∃ z, z = va_up f1 i2 (f1 i2 ^^^ rot (f1 i1 + f1 i0) (nI 9)) := ⟨_, rfl⟩
  obtain ⟨f3, ef3⟩ : ∃ z, z = va_up f2 i3 (f2 i3 ^^^ rot (f2 i2 + f2 i1) (nI 13)) := ⟨_, rfl⟩
  refine lv_aload_n hx hb d_Mx_quarter_0 rfl (lv_at hl 0 rfl) ?_
  refine wv_getf hx hb h 6 (by decide) (fs := [.ref (ad 7), .ref (ad 8), .ref (ad 9), .ref (ad 10), .ref (ad 11)]) h6 hts (fun w hw => List.mem_cons_of_mem _ (fW_Mx w hw)) hown (ci := 2) (C := "NonceBox$Mixer") (T := fT_Mx) (N := 5) rfl 1 (by decide) (hts _ (List.mem_cons_of_mem _ kf_Mx_15)) rfl (v := .ref (ad 8)) rfl d_Mx_quarter_1 ?_
  refine lv_iload_n hx hb d_Mx_quarter_4 rfl (lv_at hl 2 rfl) ?_
  refine lv_dup2_11 hx hb d_Mx_quarter_5 rfl rfl ?_
  refine wv_iald hx hb h 8 (by decide) (f := f) h8 (k := i1) rfl (by omega) (by decide) d_Mx_quarter_6 ?_
  refine lv_aload_n hx hb d_Mx_quarter_7 rfl (lv_at hl 0 rfl) ?_
  refine wv_getf hx hb h 6 (by decide) (fs := [.ref (ad 7), .ref (ad 8), .ref (ad 9), .ref (ad 10), .ref (ad 11)]) h6 hts (fun w hw => List.mem_cons_of_mem _ (fW_Mx w hw)) hown (ci := 2) (C := "NonceBox$Mixer") (T := fT_Mx) (N := 5) rfl 1 (by decide) (hts _ (List.mem_cons_of_mem _ kf_Mx_15)) rfl (v := .ref (ad 8)) rfl d_Mx_quarter_8 ?_
  refine lv_iload_n hx hb d_Mx_quarter_11 rfl (lv_at hl 1 rfl) ?_
  refine wv_iald hx hb h 8 (by decide) (f := f) h8 (k := i0) rfl (by omega) (by decide) d_Mx_quarter_12 ?_
  refine lv_aload_n hx hb d_Mx_quarter_13 rfl (lv_at hl 0 rfl) ?_
  refine wv_getf hx hb h 6 (by decide) (fs := [.ref (ad 7), .ref (ad 8), .ref (ad 9), .ref (ad 10), .ref (ad 11)]) h6 hts (fun w hw => List.mem_cons_of_mem _ (fW_Mx w hw)) hown (ci := 2) (C := "NonceBox$Mixer") (T := fT_Mx) (N := 5) rfl 1 (by decide) (hts _ (List.mem_cons_of_mem _ kf_Mx_15)) rfl (v := .ref (ad 8)) rfl d_Mx_quarter_14 ?_
  refine lv_iload hx hb d_Mx_quarter_17 (lv_at hl 4 rfl) ?_
  refine wv_iald hx hb h 8 (by decide) (f := f) h8 (k := i3) rfl (by omega) (by decide) d_Mx_quarter_19 ?_
  refine lv_iadd hx hb d_Mx_quarter_20 ?_
  refine lv_bipush (v := nI (7)) hx hb d_Mx_quarter_21 (by decide) ?_
  refine wv_Sx (As := [.int ((f i0) + (f i3)), .int (nI (7))]) (rest := [.int (f i1), .int (nI (i1)), .ref (ad 8)]) (k := 2) ⟨hx, hb, hml, hown, hts⟩ h (m_Mx_rotated l G A ad ev _ _) kc_Mx_rotated kl_Mx_65 ks_Mx_rotated ki_Mx (by decide +kernel) ⟨rfl, rfl, Nat.le_of_ble_eq_true rfl, Nat.le_of_ble_eq_true rfl⟩ hl.1 rfl rfl (Nat.le_of_ble_eq_true rfl) ⟨Nat.le_refl _, Nat.le_refl _⟩ d_Mx_quarter_23 ?_
  intro ov ev1 H locs hp h
  rw [hp.1]
  refine W.eq (g2 := F0 m 26 ls [.int (rot (f i0 + f i3) (nI 7)), .int (f i1), .int (nI (i1)), .ref (ad 8)]) rfl ?_
  rw [hp.2] at h
  refine lv_ixor hx hb d_Mx_quarter_26 ?_
  refine wv_iast hx hb h 8 (by decide) (f := f) h8 (k := i1) rfl (by omega) (by decide) d_Mx_quarter_27 (fun H locs h => ?_)
  obtain ⟨ev1, o1⟩ : ∃ z, z = va_up ev 8 (eI G 16 (va_up f i1 ((f i1) ^^^ (rot (f i0 + f i3) (nI 7))))) := ⟨_, rfl⟩
  rw [← o1] at h
  have t1_8 : ev1 8 = eI G 16 (va_up f i1 ((f i1) ^^^ (rot (f i0 + f i3) (nI 7)))) := by rw [o1, va_up_self]
  have t1_6 := (show ev1 6 = ev 6 by rw [o1, va_up_ne _ _ (by decide)]).trans h6
  rw [← ef1] at o1 t1_8
  refine lv_aload_n hx hb d_Mx_quarter_28 rfl (lv_at hl 0 rfl) ?_
  refine wv_getf hx hb h 6 (by decide) (fs := [.ref (ad 7), .ref (ad 8), .ref (ad 9), .ref (ad 10), .ref (ad 11)]) t1_6 hts (fun w hw => List.mem_cons_of_mem _ (fW_Mx w hw)) hown (ci := 2) (C := "NonceBox$Mixer") (T := fT_Mx) (N := 5) rfl 1 (by decide) (hts _ (List.mem_cons_of_mem _ kf_Mx_15)) rfl (v := .ref (ad 8)) rfl d_Mx_quarter_29 ?_
  refine lv_iload_n hx hb d_Mx_quarter_32 rfl (lv_at hl 3 rfl) ?_
  refine lv_dup2_11 hx hb d_Mx_quarter_33 rfl rfl ?_
  refine wv_iald hx hb h 8 (by decide) (f := f1) t1_8 (k := i2) rfl (by omega) (by decide) d_Mx_quarter_34 ?_
  refine lv_aload_n hx hb d_Mx_quarter_35 rfl (lv_at hl 0 rfl) ?_
  refine wv_getf hx hb h 6 (by decide) (fs := [.ref (ad 7), .ref (ad 8), .ref (ad 9), .ref (ad 10), .ref (ad 11)]) t1_6 hts (fun w hw => List.mem_cons_of_mem _ (fW_Mx w hw)) hown (ci := 2) (C := "NonceBox$Mixer") (T := fT_Mx) (N := 5) rfl 1 (by decide) (hts _ (List.mem_cons_of_mem _ kf_Mx_15)) rfl (v := .ref (ad 8)) rfl d_Mx_quarter_36 ?_
  refine lv_iload_n hx hb d_Mx_quarter_39 rfl (lv_at hl 2 rfl) ?_
  refine wv_iald hx hb h 8 (by decide) (f := f1) t1_8 (k := i1) rfl (by omega) (by decide) d_Mx_quarter_40 ?_
  refine lv_aload_n hx hb d_Mx_quarter_41 rfl (lv_at hl 0 rfl) ?_
  refine wv_getf hx hb h 6 (by decide) (fs := [.ref (ad 7), .ref (ad 8), .ref (ad 9), .ref (ad 10), .ref (ad 11)]) t1_6 hts (fun w hw => List.mem_cons_of_mem _ (fW_Mx w hw)) hown (ci := 2) (C := "NonceBox$Mixer") (T := fT_Mx) (N := 5) rfl 1 (by decide) (hts _ (List.mem_cons_of_mem _ kf_Mx_15)) rfl (v := .ref (ad 8)) rfl d_Mx_quarter_42 ?_
  refine lv_iload_n hx hb d_Mx_quarter_45 rfl (lv_at hl 1 rfl) ?_
  refine wv_iald hx hb h 8 (by decide) (f := f1) t1_8 (k := i0) rfl (by omega) (by decide) d_Mx_quarter_46 ?_
  refine lv_iadd hx hb d_Mx_quarter_47 ?_
  refine lv_bipush (v := nI (9)) hx hb d_Mx_quarter_48 (by decide) ?_
  refine wv_Sx (As := [.int ((f1 i1) + (f1 i0)), .int (nI (9))]) (rest := [.int (f1 i2), .int (nI (i2)), .ref (ad 8)]) (k := 2) ⟨hx, hb, hml, hown, hts⟩ h (m_Mx_rotated l G A ad ev1 _ _) kc_Mx_rotated kl_Mx_65 ks_Mx_rotated ki_Mx (by decide +kernel) ⟨rfl, rfl, Nat.le_of_ble_eq_true rfl, Nat.le_of_ble_eq_true rfl⟩ hl.1 rfl rfl (Nat.le_of_ble_eq_true rfl) ⟨Nat.le_refl _, Nat.le_refl _⟩ d_Mx_quarter_50 ?_
  intro ov ev2 H locs hp h
  rw [hp.1]
  refine W.eq (g2 := F0 m 53 ls [.int (rot (f1 i1 + f1 i0) (nI 9)), .int (f1 i2), .int (nI (i2)), .ref (ad 8)]) rfl ?_
  rw [hp.2] at h
  refine lv_ixor hx hb d_Mx_quarter_53 ?_
  refine wv_iast hx hb h 8 (by decide) (f := f1) t1_8 (k := i2) rfl (by omega) (by decide) d_Mx_quarter_54 (fun H locs h => ?_)
  obtain ⟨ev2, o2⟩ : ∃ z, z = va_up ev1 8 (eI G 16 (va_up f1 i2 ((f1 i2) ^^^ (rot (f1 i1 + f1 i0) (nI 9))))) := ⟨_, rfl⟩
  rw [← o2] at h
  have t2_8 : ev2 8 = eI G 16 (va_up f1 i2 ((f1 i2) ^^^ (rot (f1 i1 + f1 i0) (nI 9)))) := by rw [o2, va_up_self]
  have t2_6 := (show ev2 6 = ev1 6 by rw [o2, va_up_ne _ _ (by decide)]).trans t1_6
  rw [← ef2] at o2 t2_8
  refine lv_aload_n hx hb d_Mx_quarter_55 rfl (lv_at hl 0 rfl) ?_
  refine wv_getf hx hb h 6 (by decide) (fs := [.ref (ad 7), .ref (ad 8), .ref (ad 9), .ref (ad 10), .ref (ad 11)]) t2_6 hts (fun w hw => List.mem_cons_of_mem _ (fW_Mx w hw)) hown (ci := 2) (C := "NonceBox$Mixer") (T := fT_Mx) (N := 5) rfl 1 (by decide) (hts _ (List.mem_cons_of_mem _ kf_Mx_15)) rfl (v := .ref (ad 8)) rfl d_Mx_quarter_56 ?_
  refine lv_iload hx hb d_Mx_quarter_59 (lv_at hl 4 rfl) ?_
  refine lv_dup2_11 hx hb d_Mx_quarter_61 rfl rfl ?_
  refine wv_iald hx hb h 8 (by decide) (f := f2) t2_8 (k := i3) rfl (by omega) (by decide) d_Mx_quarter_62 ?_
  refine lv_aload_n hx hb d_Mx_quarter_63 rfl (lv_at hl 0 rfl) ?_
  refine wv_getf hx hb h 6 (by decide) (fs := [.ref (ad 7), .ref (ad 8), .ref (ad 9), .ref (ad 10), .ref (ad 11)]) t2_6 hts (fun w hw => List.mem_cons_of_mem _ (fW_Mx w hw)) hown (ci := 2) (C := "NonceBox$Mixer") (T := fT_Mx) (N := 5) rfl 1 (by decide) (hts _ (List.mem_cons_of_mem _ kf_Mx_15)) rfl (v := .ref (ad 8)) rfl d_Mx_quarter_64 ?_
  refine lv_iload_n hx hb d_Mx_quarter_67 rfl (lv_at hl 3 rfl) ?_
  refine wv_iald hx hb h 8 (by decide) (f := f2) t2_8 (k := i2) rfl (by omega) (by decide) d_Mx_quarter_68 ?_
  refine lv_aload_n hx hb d_Mx_quarter_69 rfl (lv_at hl 0 rfl) ?_
  refine wv_getf hx hb h 6 (by decide) (fs := [.ref (ad 7), .ref (ad 8), .ref (ad 9), .ref (ad 10), .ref (ad 11)]) t2_6 hts (fun w hw => List.mem_cons_of_mem _ (fW_Mx w hw)) hown (ci := 2) (C := "NonceBox$Mixer") (T := fT_Mx) (N := 5) rfl 1 (by decide) (hts _ (List.mem_cons_of_mem _ kf_Mx_15)) rfl (v := .ref (ad 8)) rfl d_Mx_quarter_70 ?_
  refine lv_iload_n hx hb d_Mx_quarter_73 rfl (lv_at hl 2 rfl) ?_
  refine wv_iald hx hb h 8 (by decide) (f := f2) t2_8 (k := i1) rfl (by omega) (by decide) d_Mx_quarter_74 ?_
  refine lv_iadd hx hb d_Mx_quarter_75 ?_
  refine lv_bipush (v := nI (13)) hx hb d_Mx_quarter_76 (by decide) ?_
  refine wv_Sx (As := [.int ((f2 i2) + (f2 i1)), .int (nI (13))]) (rest := [.int (f2 i3), .int (nI (i3)), .ref (ad 8)]) (k := 2) ⟨hx, hb, hml, hown, hts⟩ h (m_Mx_rotated l G A ad ev2 _ _) kc_Mx_rotated kl_Mx_65 ks_Mx_rotated ki_Mx (by decide +kernel) ⟨rfl, rfl, Nat.le_of_ble_eq_true rfl, Nat.le_of_ble_eq_true rfl⟩ hl.1 rfl rfl (Nat.le_of_ble_eq_true rfl) ⟨Nat.le_refl _, Nat.le_refl _⟩ d_Mx_quarter_78 ?_
  intro ov ev3 H locs hp h
  rw [hp.1]
  refine W.eq (g2 := F0 m 81 ls [.int (rot (f2 i2 + f2 i1) (nI 13)), .int (f2 i3), .int (nI (i3)), .ref (ad 8)]) rfl ?_
  rw [hp.2] at h
  refine lv_ixor hx hb d_Mx_quarter_81 ?_
  refine wv_iast hx hb h 8 (by decide) (f := f2) t2_8 (k := i3) rfl (by omega) (by decide) d_Mx_quarter_82 (fun H locs h => ?_)
  obtain ⟨ev3, o3⟩ : ∃ z, z = va_up ev2 8 (eI G 16 (va_up f2 i3 ((f2 i3) ^^^ (rot (f2 i2 + f2 i1) (nI 13))))) := ⟨_, rfl⟩
  rw [← o3] at h
  have t3_8 : ev3 8 = eI G 16 (va_up f2 i3 ((f2 i3) ^^^ (rot (f2 i2 + f2 i1) (nI 13)))) := by rw [o3, va_up_self]
  have t3_6 := (show ev3 6 = ev2 6 by rw [o3, va_up_ne _ _ (by decide)]).trans t2_6
  rw [← ef3] at o3 t3_8
  refine lv_aload_n hx hb d_Mx_quarter_83 rfl (lv_at hl 0 rfl) ?_
  refine wv_getf hx hb h 6 (by decide) (fs := [.ref (ad 7), .ref (ad 8), .ref (ad 9), .ref (ad 10), .ref (ad 11)]) t3_6 hts (fun w hw => List.mem_cons_of_mem _ (fW_Mx w hw)) hown (ci := 2) (C := "NonceBox$Mixer") (T := fT_Mx) (N := 5) rfl 1 (by decide) (hts _ (List.mem_cons_of_mem _ kf_Mx_15)) rfl (v := .ref (ad 8)) rfl d_Mx_quarter_84 ?_
  refine lv_iload_n hx hb d_Mx_quarter_87 rfl (lv_at hl 1 rfl) ?_
  refine lv_dup2_11 hx hb d_Mx_quarter_88 rfl rfl ?_
  refine wv_iald hx hb h 8 (by decide) (f := f3) t3_8 (k := i0) rfl (by omega) (by decide) d_Mx_quarter_89 ?_
  refine lv_aload_n hx hb d_Mx_quarter_90 rfl (lv_at hl 0 rfl) ?_
  refine wv_getf hx hb h 6 (by decide) (fs := [.ref (ad 7), .ref (ad 8), .ref (ad 9), .ref (ad 10), .ref (ad 11)]) t3_6 hts (fun w hw => List.mem_cons_of_mem _ (fW_Mx w hw)) hown (ci := 2) (C := "NonceBox$Mixer") (T := fT_Mx) (N := 5) rfl 1 (by decide) (hts _ (List.mem_cons_of_mem _ kf_Mx_15)) rfl (v := .ref (ad 8)) rfl d_Mx_quarter_91 ?_
  refine lv_iload hx hb d_Mx_quarter_94 (lv_at hl 4 rfl) ?_
  refine wv_iald hx hb h 8 (by decide) (f := f3) t3_8 (k := i3) rfl (by omega) (by decide) d_Mx_quarter_96 ?_
  refine lv_aload_n hx hb d_Mx_quarter_97 rfl (lv_at hl 0 rfl) ?_
  refine wv_getf hx hb h 6 (by decide) (fs := [.ref (ad 7), .ref (ad 8), .ref (ad 9), .ref (ad 10), .ref (ad 11)]) t3_6 hts (fun w hw => List.mem_cons_of_mem _ (fW_Mx w hw)) hown (ci := 2) (C := "NonceBox$Mixer") (T := fT_Mx) (N := 5) rfl 1 (by decide) (hts _ (List.mem_cons_of_mem _ kf_Mx_15)) rfl (v := .ref (ad 8)) rfl d_Mx_quarter_98 ?_
  refine lv_iload_n hx hb d_Mx_quarter_101 rfl (lv_at hl 3 rfl) ?_
  refine wv_iald hx hb h 8 (by decide) (f := f3) t3_8 (k := i2) rfl (by omega) (by decide) d_Mx_quarter_102 ?_
  refine lv_iadd hx hb d_Mx_quarter_103 ?_
  refine lv_bipush (v := nI (18)) hx hb d_Mx_quarter_104 (by decide) ?_
  refine wv_Sx (As := [.int ((f3 i3) + (f3 i2)), .int (nI (18))]) (rest := [.int (f3 i0), .int (nI (i0)), .ref (ad 8)]) (k := 2) ⟨hx, hb, hml, hown, hts⟩ h (m_Mx_rotated l G A ad ev3 _ _) kc_Mx_rotated kl_Mx_65 ks_Mx_rotated ki_Mx (by decide +kernel) ⟨rfl, rfl, Nat.le_of_ble_eq_true rfl, Nat.le_of_ble_eq_true rfl⟩ hl.1 rfl rfl (Nat.le_of_ble_eq_true rfl) ⟨Nat.le_refl _, Nat.le_refl _⟩ d_Mx_quarter_106 ?_
  intro ov ev4 H locs hp h
  rw [hp.1]
  refine W.eq (g2 := F0 m 109 ls [.int (rot (f3 i3 + f3 i2) (nI 18)), .int (f3 i0), .int (nI (i0)), .ref (ad 8)]) rfl ?_
  rw [hp.2] at h
  refine lv_ixor hx hb d_Mx_quarter_109 ?_
  refine wv_iast hx hb h 8 (by decide) (f := f3) t3_8 (k := i0) rfl (by omega) (by decide) d_Mx_quarter_110 (fun H locs h => ?_)
  obtain ⟨ev4, o4⟩ : ∃ z, z = va_up ev3 8 (eI G 16 (va_up f3 i0 ((f3 i0) ^^^ (rot (f3 i3 + f3 i2) (nI 18))))) := ⟨_, rfl⟩
  rw [← o4] at h
  have t4_8 : ev4 8 = eI G 16 (va_up f3 i0 ((f3 i0) ^^^ (rot (f3 i3 + f3 i2) (nI 18)))) := by rw [o4, va_up_self]
  have t4_6 := (show ev4 6 = ev3 6 by rw [o4, va_up_ne _ _ (by decide)]).trans t3_6
  refine wv_vret hx hb hr hlocks h d_Mx_quarter_111 ⟨rfl, ?_⟩
  rw [o4, o3, o2, o1, va_up2, va_up2, va_up2, ef3, ef2, ef1]
  rfl
theorem d_Mx_turnRounds_0 : decode c_Mx_turnRounds 0 = .ok (.iconst 0, 1) := by decide +kernel
theorem d_Mx_turnRounds_1 : decode c_Mx_turnRounds 1 = .ok (.istore_n 1, 1) := by decide +kernel
theorem d_Mx_turnRounds_2 : decode c_Mx_turnRounds 2 = .ok (.iload_n 1, 1) := by decide +kernel
theorem d_Mx_turnRounds_3 : decode c_Mx_turnRounds 3 = .ok (.bipush 10, 2) := by decide +kernel
theorem d_Mx_turnRounds_5 : decode c_Mx_turnRounds 5 = .ok (.if_icmp .ge 93, 3) := by decide +kernel
theorem d_Mx_turnRounds_8 : decode c_Mx_turnRounds 8 = .ok (.aload_n 0, 1) := by decide +kernel
theorem d_Mx_turnRounds_9 : decode c_Mx_turnRounds 9 = .ok (.iconst 0, 1) := by decide +kernel
theorem d_Mx_turnRounds_10 : decode c_Mx_turnRounds 10 = .ok (.iconst 4, 1) := by decide +kernel
theorem d_Mx_turnRounds_11 : decode c_Mx_turnRounds 11 = .ok (.bipush 8, 2) := by decide +kernel
theorem d_Mx_turnRounds_13 : decode c_Mx_turnRounds 13 = .ok (.bipush 12, 2) := by decide +kernel
theorem d_Mx_turnRounds_15 : decode c_Mx_turnRounds 15 = .ok (.invokevirtual 61, 3) := by decide +kernel
theorem d_Mx_turnRounds_18 : decode c_Mx_turnRounds 18 = .ok (.aload_n 0, 1) := by decide +kernel
theorem d_Mx_turnRounds_19 : decode c_Mx_turnRounds 19 = .ok (.iconst 5, 1) := by decide +kernel
theorem d_Mx_turnRounds_20 : decode c_Mx_turnRounds 20 = .ok (.bipush 9, 2) := by decide +kernel
theorem d_Mx_turnRounds_22 : decode c_Mx_turnRounds 22 = .ok (.bipush 13, 2) := by decide +kernel
theorem d_Mx_turnRounds_24 : decode c_Mx_turnRounds 24 = .ok (.iconst 1, 1) := by decide +kernel
theorem d_Mx_turnRounds_25 : decode c_Mx_turnRounds 25 = .ok (.invokevirtual 61, 3) := by decide +kernel
theorem d_Mx_turnRounds_28 : decode c_Mx_turnRounds 28 = .ok (.aload_n 0, 1) := by decide +kernel
theorem d_Mx_turnRounds_29 : decode c_Mx_turnRounds 29 = .ok (.bipush 10, 2) := by decide +kernel
theorem d_Mx_turnRounds_31 : decode c_Mx_turnRounds 31 = .ok (.bipush 14, 2) := by decide +kernel
theorem d_Mx_turnRounds_33 : decode c_Mx_turnRounds 33 = .ok (.iconst 2, 1) := by decide +kernel
theorem d_Mx_turnRounds_34 : decode c_Mx_turnRounds 34 = .ok (.bipush 6, 2) := by decide +kernel
theorem d_Mx_turnRounds_36 : decode c_Mx_turnRounds 36 = .ok (.invokevirtual 61, 3) := by decide +kernel
theorem d_Mx_turnRounds_39 : decode c_Mx_turnRounds 39 = .ok (.aload_n 0, 1) := by decide +kernel
theorem d_Mx_turnRounds_40 : decode c_Mx_turnRounds 40 = .ok (.bipush 15, 2) := by decide +kernel
theorem d_Mx_turnRounds_42 : decode c_Mx_turnRounds 42 = .ok (.iconst 3, 1) := by decide +kernel
theorem d_Mx_turnRounds_43 : decode c_Mx_turnRounds 43 = .ok (.bipush 7, 2) := by decide +kernel
theorem d_Mx_turnRounds_45 : decode c_Mx_turnRounds 45 = .ok (.bipush 11, 2) := by decide +kernel
theorem d_Mx_turnRounds_47 : decode c_Mx_turnRounds 47 = .ok (.invokevirtual 61, 3) := by decide +kernel
theorem d_Mx_turnRounds_50 : decode c_Mx_turnRounds 50 = .ok (.aload_n 0, 1) := by decide +kernel
theorem d_Mx_turnRounds_51 : decode c_Mx_turnRounds 51 = .ok (.iconst 0, 1) := by decide +kernel
theorem d_Mx_turnRounds_52 : decode c_Mx_turnRounds 52 = .ok (.iconst 1, 1) := by decide +kernel
theorem d_Mx_turnRounds_53 : decode c_Mx_turnRounds 53 = .ok (.iconst 2, 1) := by decide +kernel
theorem d_Mx_turnRounds_54 : decode c_Mx_turnRounds 54 = .ok (.iconst 3, 1) := by decide +kernel
theorem d_Mx_turnRounds_55 : decode c_Mx_turnRounds 55 = .ok (.invokevirtual 61, 3) := by decide +kernel
theorem d_Mx_turnRounds_58 : decode c_Mx_turnRounds 58 = .ok (.aload_n 0, 1) := by decide +kernel
theorem d_Mx_turnRounds_59 : decode c_Mx_turnRounds 59 = .ok (.iconst 5, 1) := by decide +kernel
theorem d_Mx_turnRounds_60 : decode c_Mx_turnRounds 60 = .ok (.bipush 6, 2) := by decide +kernel
theorem d_Mx_turnRounds_62 : decode c_Mx_turnRounds 62 = .ok (.bipush 7, 2) := by decide +kernel
theorem d_Mx_turnRounds_64 : decode c_Mx_turnRounds 64 = .ok (.iconst 4, 1) := by decide +kernel
theorem d_Mx_turnRounds_65 : decode c_Mx_turnRounds 65 = .ok (.invokevirtual 61, 3) := by decide +kernel
theorem d_Mx_turnRounds_68 : decode c_Mx_turnRounds 68 = .ok (.aload_n 0, 1) := by decide +kernel
theorem d_Mx_turnRounds_69 : decode c_Mx_turnRounds 69 = .ok (.bipush 10, 2) := by decide +kernel
theorem d_Mx_turnRounds_71 : decode c_Mx_turnRounds 71 = .ok (.bipush 11, 2) := by decide +kernel
theorem d_Mx_turnRounds_73 : decode c_Mx_turnRounds 73 = .ok (.bipush 8, 2) := by decide +kernel
theorem d_Mx_turnRounds_75 : decode c_Mx_turnRounds 75 = .ok (.bipush 9, 2) := by decide +kernel
theorem d_Mx_turnRounds_77 : decode c_Mx_turnRounds 77 = .ok (.invokevirtual 61, 3) := by decide +kernel
theorem d_Mx_turnRounds_80 : decode c_Mx_turnRounds 80 = .ok (.aload_n 0, 1) := by decide +kernel
theorem d_Mx_turnRounds_81 : decode c_Mx_turnRounds 81 = .ok (.bipush 15, 2) := by decide +kernel
theorem d_Mx_turnRounds_83 : decode c_Mx_turnRounds 83 = .ok (.bipush 12, 2) := by decide +kernel
theorem d_Mx_turnRounds_85 : decode c_Mx_turnRounds 85 = .ok (.bipush 13, 2) := by decide +kernel
theorem d_Mx_turnRounds_87 : decode c_Mx_turnRounds 87 = .ok (.bipush 14, 2) := by decide +kernel
theorem d_Mx_turnRounds_89 : decode c_Mx_turnRounds 89 = .ok (.invokevirtual 61, 3) := by decide +kernel
theorem d_Mx_turnRounds_92 : decode c_Mx_turnRounds 92 = .ok (.iinc 1 1, 3) := by decide +kernel
theorem d_Mx_turnRounds_95 : decode c_Mx_turnRounds 95 = .ok (.goto (-93), 3) := by decide +kernel
theorem d_Mx_turnRounds_98 : decode c_Mx_turnRounds 98 = .ok (.return_, 1) := by decide +kernel
set_option maxRecDepth 100000 in
set_option maxHeartbeats 4000000 in
/-- ten times the eight QUARTERs -/
theorem m_Mx_turnRounds (l : Launch) (G : wG) (A : Nat → Prop) (ad : Nat → Nat) (ev : Nat → va_E) (f : Nat → Int32) (h6 : ev 6 = eO 2 [.ref (ad 7), .ref (ad 8), .ref (ad 9), .ref (ad 10), .ref (ad 11)]) (h8 : ev 8 = eI G 16 f) : wM l y_Mx_turnRounds w_Mx_turnRounds ({ frames := 6, cells := 0, slots := 0, locals := 200 }) G A 52 ad ev [.ref (ad 6)] (fun ov ev' => ov = none ∧ ev' = va_up ev 8 (eI G 16 (rnds 10 f))) := by
  refine wv_ofW (cc := c_Mx_turnRounds) (maxL := 2) (ret := none) (by decide) rfl (Nat.le_of_ble_eq_true rfl) ?_
  intro p e s m below meth c ls hx hb hr hml hts hown hlocks hini h hl
  have hl : lv_has ls 2 [(0, .ref (ad 6))] := hl
  refine lv_iconst (v := nI (0)) hx hb d_Mx_turnRounds_0 (by decide) ?_
  refine lv_istore_n (lv' := [(1, .int (nI (0))), (0, .ref (ad 6))]) hx hb d_Mx_turnRounds_1 rfl hl (by decide) rfl (fun ls hl => ?_)
  have loop1 : ∀ (d k : Nat), k + d = 10 →  ∀ (ev1 : Nat → va_E) (H : Heap) (locs : List Loc) (ls : Array Slot), ev1 = (va_up ev 8 (eI G 16 (rnds k f))) → wT G A 52 ad ev1 s H locs → lv_has ls 2 [(1, .int (nI (k))), (0, .ref (ad 6))] → W p l e ({ frames := 6, cells := 0, slots := 0, locals := 200 }) s m ([.ref (ad 6)] : List Value).toArray below meth c H locs 0 0 (MQ below (wQc G A 52 ad (fun ov ev' => ov = none ∧ ev' = va_up ev 8 (eI G 16 (rnds 10 f)))) ([.ref (ad 6)] : List Value).toArray s 0 0 A) (F0 m 2 ls []) := by
    intro d
    induction d with
    | zero =>
      intro k hk_k  ev1 H locs ls  o1 h hl
      have t1_8 : ev1 8 = eI G 16 (rnds k f) := by rw [o1, va_up_self]
      have t1_6 := (show ev1 6 = ev 6 by rw [o1, va_up_ne _ _ (by decide)]).trans h6
      refine lv_iload_n hx hb d_Mx_turnRounds_2 rfl (lv_at hl 0 rfl) ?_
      refine lv_bipush (v := nI (10)) hx hb d_Mx_turnRounds_3 (by decide) ?_
      refine lv_icmp_ge (tgt := 98) hx hb d_Mx_turnRounds_5 (by decide) (fun _ => ?_) (fun hc => absurd ((nI_leI (by omega) (by omega)).mpr (by omega)) hc)
      refine wv_vret hx hb hr hlocks h d_Mx_turnRounds_98 ⟨rfl, ?_⟩
      rw [o1, show k = 10 by omega]
    | succ d ih =>
      intro k hk_k  ev1 H locs ls  o1 h hl
      have t1_8 : ev1 8 = eI G 16 (rnds k f) := by rw [o1, va_up_self]
      have t1_6 := (show ev1 6 = ev 6 by rw [o1, va_up_ne _ _ (by decide)]).trans h6
      refine lv_iload_n hx hb d_Mx_turnRounds_2 rfl (lv_at hl 0 rfl) ?_
      refine lv_bipush (v := nI (10)) hx hb d_Mx_turnRounds_3 (by decide) ?_
      refine lv_icmp_ge (tgt := 98) hx hb d_Mx_turnRounds_5 (by decide) (fun hc => absurd ((nI_leI (by omega) (by omega)).mp hc) (by omega)) (fun _ => ?_)
      refine lv_aload_n hx hb d_Mx_turnRounds_8 rfl (lv_at hl 1 rfl) ?_
      refine lv_iconst (v := nI (0)) hx hb d_Mx_turnRounds_9 (by decide) ?_
      refine lv_iconst (v := nI (4)) hx hb d_Mx_turnRounds_10 (by decide) ?_
      refine lv_bipush (v := nI (8)) hx hb d_Mx_turnRounds_11 (by decide) ?_
      refine lv_bipush (v := nI (12)) hx hb d_Mx_turnRounds_13 (by decide) ?_
      refine wv_V (As := [.int (nI (0)), .int (nI (4)), .int (nI (8)), .int (nI (12))]) (rest := []) (k := 4) ⟨hx, hb, hml, hown, hts⟩ h 6 (by decide) (C := "NonceBox$Mixer") t1_6 rfl (m_Mx_quarter l G A ad ev1 0 4 8 12 (by decide) (by decide) (by decide) (by decide) (rnds k f) t1_6 t1_8) kc_Mx_quarter kl_Mx_61 km_Mx_quarter kv_Mx_quarter ki_Mx (by decide +kernel) ⟨rfl, rfl, Nat.le_of_ble_eq_true rfl, Nat.le_of_ble_eq_true rfl⟩ hl.1 rfl rfl (Nat.le_of_ble_eq_true rfl) ⟨Nat.le_refl _, Nat.le_refl _⟩ d_Mx_turnRounds_15 ?_
      intro ov ev2 H locs hp h
      rw [hp.1]
      refine W.eq (g2 := F0 m 18 ls []) rfl ?_
      have o2 := hp.2
      have t2_8 : ev2 8 = eI G 16 (qtr 0 4 8 12 (rnds k f)) := by rw [o2, va_up_self]
      have t2_6 := (show ev2 6 = ev1 6 by rw [o2, va_up_ne _ _ (by decide)]).trans t1_6
      refine lv_aload_n hx hb d_Mx_turnRounds_18 rfl (lv_at hl 1 rfl) ?_
      refine lv_iconst (v := nI (5)) hx hb d_Mx_turnRounds_19 (by decide) ?_
      refine lv_bipush (v := nI (9)) hx hb d_Mx_turnRounds_20 (by decide) ?_
      refine lv_bipush (v := nI (13)) hx hb d_Mx_turnRounds_22 (by decide) ?_
      refine lv_iconst (v := nI (1)) hx hb d_Mx_turnRounds_24 (by decide) ?_
      refine wv_V (As := [.int (nI (5)), .int (nI (9)), .int (nI (13)), .int (nI (1))]) (rest := []) (k := 4) ⟨hx, hb, hml, hown, hts⟩ h 6 (by decide) (C := "NonceBox$Mixer") t2_6 rfl (m_Mx_quarter l G A ad ev2 5 9 13 1 (by decide) (by decide) (by decide) (by decide) (qtr 0 4 8 12 (rnds k f)) t2_6 t2_8) kc_Mx_quarter kl_Mx_61 km_Mx_quarter kv_Mx_quarter ki_Mx (by decide +kernel) ⟨rfl, rfl, Nat.le_of_ble_eq_true rfl, Nat.le_of_ble_eq_true rfl⟩ hl.1 rfl rfl (Nat.le_of_ble_eq_true rfl) ⟨Nat.le_refl _, Nat.le_refl _⟩ d_Mx_turnRounds_25 ?_
      intro ov ev3 H locs hp h
      rw [hp.1]
      refine W.eq (g2 := F0 m 28 ls []) rfl ?_
      have o3 := hp.2
      have t3_8 : ev3 8 = eI G 16 (qtr 5 9 13 1 (qtr 0 4 8 12 (rnds k f))) := by rw [o3, va_up_self]
      have t3_6 := (show ev3 6 = ev2 6 by rw [o3, va_up_ne _ _ (by decide)]).trans t2_6
      refine lv_aload_n hx hb d_Mx_turnRounds_28 rfl (lv_at hl 1 rfl) ?_
      refine lv_bipush (v := nI (10)) hx hb d_Mx_turnRounds_29 (by decide) ?_
      refine lv_bipush (v := nI (14)) hx hb d_Mx_turnRounds_31 (by decide) ?_
      refine lv_iconst (v := nI (2)) hx hb d_Mx_turnRounds_33 (by decide) ?_
      refine lv_bipush (v := nI (6)) hx hb d_Mx_turnRounds_34 (by decide) ?_
      refine wv_V (As := [.int (nI (10)), .int (nI (14)), .int (nI (2)), .int (nI (6))]) (rest := []) (k := 4) ⟨hx, hb, hml, hown, hts⟩ h 6 (by decide) (C := "NonceBox$Mixer") t3_6 rfl (m_Mx_quarter l G A ad ev3 10 14 2 6 (by decide) (by decide) (by decide) (by decide) (qtr 5 9 13 1 (qtr 0 4 8 12 (rnds k f))) t3_6 t3_8) kc_Mx_quarter kl_Mx_61 km_Mx_quarter kv_Mx_quarter ki_Mx (by decide +kernel) ⟨rfl, rfl, Nat.le_of_ble_eq_true rfl, Nat.le_of_ble_eq_true rfl⟩ hl.1 rfl rfl (Nat.le_of_ble_eq_true rfl) ⟨Nat.le_refl _, Nat.le_refl _⟩ d_Mx_turnRounds_36 ?_
      intro ov ev4 H locs hp h
      rw [hp.1]
      refine W.eq (g2 := F0 m 39 ls []) rfl ?_
      have o4 := hp.2
      have t4_8 : ev4 8 = eI G 16 (qtr 10 14 2 6 (qtr 5 9 13 1 (qtr 0 4 8 12 (rnds k f)))) := by rw [o4, va_up_self]
      have t4_6 := (show ev4 6 = ev3 6 by rw [o4, va_up_ne _ _ (by decide)]).trans t3_6
      refine lv_aload_n hx hb d_Mx_turnRounds_39 rfl (lv_at hl 1 rfl) ?_
      refine lv_bipush (v := nI (15)) hx hb d_Mx_turnRounds_40 (by decide) ?_
      refine lv_iconst (v := nI (3)) hx hb d_Mx_turnRounds_42 (by decide) ?_
      refine lv_bipush (v := nI (7)) hx hb d_Mx_turnRounds_43 (by decide) ?_
      refine lv_bipush (v := nI (11)) hx hb d_Mx_turnRounds_45 (by decide) ?_
      refine wv_V (As := [.int (nI (15)), .int (nI (3)), .int (nI (7)), .int (nI (11))]) (rest := []) (k := 4) ⟨hx, hb, hml, hown, hts⟩ h 6 (by decide) (C := "NonceBox$Mixer") t4_6 rfl (m_Mx_quarter l G A ad ev4 15 3 7 11 (by decide) (by decide) (by decide) (by decide) (qtr 10 14 2 6 (qtr 5 9 13 1 (qtr 0 4 8 12 (rnds k f)))) t4_6 t4_8) kc_Mx_quarter kl_Mx_61 km_Mx_quarter kv_Mx_quarter ki_Mx (by decide +kernel) ⟨rfl, rfl, Nat.le_of_ble_eq_true rfl, Nat.le_of_ble_eq_true rfl⟩ hl.1 rfl rfl (Nat.le_of_ble_eq_true rfl) ⟨Nat.le_refl _, Nat.le_refl _⟩ d_Mx_turnRounds_47 ?_
      intro ov ev5 H locs hp h
      rw [hp.1]
      refine W.eq (g2 := F0 m 50 ls []) rfl ?_
      have o5 := hp.2
      have t5_8 : ev5 8 = eI G 16 (qtr 15 3 7 11 (qtr 10 14 2 6 (qtr 5 9 13 1 (qtr 0 4 8 12 (rnds k f))))) := by rw [o5, va_up_self]
      have t5_6 := (show ev5 6 = ev4 6 by rw [o5, va_up_ne _ _ (by decide)]).trans t4_6
      refine lv_aload_n hx hb d_Mx_turnRounds_50 rfl (lv_at hl 1 rfl) ?_
      refine lv_iconst (v := nI (0)) hx hb d_Mx_turnRounds_51 (by decide) ?_
      refine lv_iconst (v := nI (1)) hx hb d_Mx_turnRounds_52 (by decide) ?_
      refine lv_iconst (v := nI (2)) hx hb d_Mx_turnRounds_53 (by decide) ?_
      refine lv_iconst (v := nI (3)) hx hb d_Mx_turnRounds_54 (by decide) ?_
      refine wv_V (As := [.int (nI (0)), .int (nI (1)), .int (nI (2)), .int (nI (3))]) (rest := []) (k := 4) ⟨hx, hb, hml, hown, hts⟩ h 6 (by decide) (C := "NonceBox$Mixer") t5_6 rfl (m_Mx_quarter l G A ad ev5 0 1 2 3 (by decide) (by decide) (by decide) (by decide) (qtr 15 3 7 11 (qtr 10 14 2 6 (qtr 5 9 13 1 (qtr 0 4 8 12 (rnds k f))))) t5_6 t5_8) kc_Mx_quarter kl_Mx_61 km_Mx_quarter kv_Mx_quarter ki_Mx (by decide +kernel) ⟨rfl, rfl, Nat.le_of_ble_eq_true rfl, Nat.le_of_ble_eq_true rfl⟩ hl.1 rfl rfl (Nat.le_of_ble_eq_true rfl) ⟨Nat.le_refl _, Nat.le_refl _⟩ d_Mx_turnRounds_55 ?_
      intro ov ev6 H locs hp h
      rw [hp.1]
      refine W.eq (g2 := F0 m 58 ls []) rfl ?_
      have o6 := hp.2
      have t6_8 : ev6 8 = eI G 16 (qtr 0 1 2 3 (qtr 15 3 7 11 (qtr 10 14 2 6 (qtr 5 9 13 1 (qtr 0 4 8 12 (rnds k f)))))) := by rw [o6, va_up_self]
      have t6_6 := (show ev6 6 = ev5 6 by rw [o6, va_up_ne _ _ (by decide)]).trans t5_6
      refine lv_aload_n hx hb d_Mx_turnRounds_58 rfl (lv_at hl 1 rfl) ?_
      refine lv_iconst (v := nI (5)) hx hb d_Mx_turnRounds_59 (by decide) ?_
      refine lv_bipush (v := nI (6)) hx hb d_Mx_turnRounds_60 (by decide) ?_
      refine lv_bipush (v := nI (7)) hx hb d_Mx_turnRounds_62 (by decide) ?_
      refine lv_iconst (v := nI (4)) hx hb d_Mx_turnRounds_64 (by decide) ?_
      refine wv_V (As := [.int (nI (5)), .int (nI (6)), .int (nI (7)), .int (nI (4))]) (rest := []) (k := 4) ⟨hx, hb, hml, hown, hts⟩ h 6 (by decide) (C := "NonceBox$Mixer") t6_6 rfl (m_Mx_quarter l G A ad ev6 5 6 7 4 (by decide) (by decide) (by decide) (by decide) (qtr 0 1 2 3 (qtr 15 3 7 11 (qtr 10 14 2 6 (qtr 5 9 13 1 (qtr 0 4 8 12 (rnds k f)))))) t6_6 t6_8) kc_Mx_quarter kl_Mx_61 km_Mx_quarter kv_Mx_quarter ki_Mx (by decide +kernel) ⟨rfl, rfl, Nat.le_of_ble_eq_true rfl, Nat.le_of_ble_eq_true rfl⟩ hl.1 rfl rfl (Nat.le_of_ble_eq_true rfl) ⟨Nat.le_refl _, Nat.le_refl _⟩ d_Mx_turnRounds_65 ?_
      intro ov ev7 H locs hp h
      rw [hp.1]
      refine W.eq (g2 := F0 m 68 ls []) rfl ?_
      have o7 := hp.2
      have t7_8 : ev7 8 = eI G 16 (qtr 5 6 7 4 (qtr 0 1 2 3 (qtr 15 3 7 11 (qtr 10 14 2 6 (qtr 5 9 13 1 (qtr 0 4 8 12 (rnds k f))))))) := by rw [o7, va_up_self]
      have t7_6 := (show ev7 6 = ev6 6 by rw [o7, va_up_ne _ _ (by decide)]).trans t6_6
      refine lv_aload_n hx hb d_Mx_turnRounds_68 rfl (lv_at hl 1 rfl) ?_
      refine lv_bipush (v := nI (10)) hx hb d_Mx_turnRounds_69 (by decide) ?_
      refine lv_bipush (v := nI (11)) hx hb d_Mx_turnRounds_71 (by decide) ?_
      refine lv_bipush (v := nI (8)) hx hb d_Mx_turnRounds_73 (by decide) ?_
      refine lv_bipush (v := nI (9)) hx hb d_Mx_turnRounds_75 (by decide) ?_
      refine wv_V (As := [.int (nI (10)), .int (nI (11)), .int (nI (8)), .int (nI (9))]) (rest := []) (k := 4) ⟨hx, hb, hml, hown, hts⟩ h 6 (by decide) (C := "NonceBox$Mixer") t7_6 rfl (m_Mx_quarter l G A ad ev7 10 11 8 9 (by decide) (by decide) (by decide) (by decide) (qtr 5 6 7 4 (qtr 0 1 2 3 (qtr 15 3 7 11 (qtr 10 14 2 6 (qtr 5 9 13 1 (qtr 0 4 8 12 (rnds k f))))))) t7_6 t7_8) kc_Mx_quarter kl_Mx_61 km_Mx_quarter kv_Mx_quarter ki_Mx (by decide +kernel) ⟨rfl, rfl, Nat.le_of_ble_eq_true rfl, Nat.le_of_ble_eq_true rfl⟩ hl.1 rfl rfl (Nat.le_of_ble_eq_true rfl) ⟨Nat.le_refl _, Nat.le_refl _⟩ d_Mx_turnRounds_77 ?_
      intro ov ev8 H locs hp h
      rw [hp.1]
      refine W.eq (g2 := F0 m 80 ls []) rfl ?_
      have o8 := hp.2
      have t8_8 : ev8 8 = eI G 16 (qtr 10 11 8 9 (qtr 5 6 7 4 (qtr 0 1 2 3 (qtr 15 3 7 11 (qtr 10 14 2 6 (qtr 5 9 13 1 (qtr 0 4 8 12 (rnds k f)))))))) := by rw [o8, va_up_self]
      have t8_6 := (show ev8 6 = ev7 6 by rw [o8, va_up_ne _ _ (by decide)]).trans t7_6
      refine lv_aload_n hx hb d_Mx_turnRounds_80 rfl (lv_at hl 1 rfl) ?_
      refine lv_bipush (v := nI (15)) hx hb d_Mx_turnRounds_81 (by decide) ?_
      refine lv_bipush (v := nI (12)) hx hb d_Mx_turnRounds_83 (by decide) ?_
      refine lv_bipush (v := nI (13)) hx hb d_Mx_turnRounds_85 (by decide) ?_
      refine lv_bipush (v := nI (14)) hx hb d_Mx_turnRounds_87 (by decide) ?_
      refine wv_V (As := [.int (nI (15)), .int (nI (12)), .int (nI (13)), .int (nI (14))]) (rest := []) (k := 4) ⟨hx, hb, hml, hown, hts⟩ h 6 (by decide) (C := "NonceBox$Mixer") t8_6 rfl (m_Mx_quarter l G A ad ev8 15 12 13 14 (by decide) (by decide) (by decide) (by decide) (qtr 10 11 8 9 (qtr 5 6 7 4 (qtr 0 1 2 3 (qtr 15 3 7 11 (qtr 10 14 2 6 (qtr 5 9 13 1 (qtr 0 4 8 12 (rnds k f)))))))) t8_6 t8_8) kc_Mx_quarter kl_Mx_61 km_Mx_quarter kv_Mx_quarter ki_Mx (by decide +kernel) ⟨rfl, rfl, Nat.le_of_ble_eq_true rfl, Nat.le_of_ble_eq_true rfl⟩ hl.1 rfl rfl (Nat.le_of_ble_eq_true rfl) ⟨Nat.le_refl _, Nat.le_refl _⟩ d_Mx_turnRounds_89 ?_
      intro ov ev9 H locs hp h
      rw [hp.1]
      refine W.eq (g2 := F0 m 92 ls []) rfl ?_
      have o9 := hp.2
      have t9_8 : ev9 8 = eI G 16 (qtr 15 12 13 14 (qtr 10 11 8 9 (qtr 5 6 7 4 (qtr 0 1 2 3 (qtr 15 3 7 11 (qtr 10 14 2 6 (qtr 5 9 13 1 (qtr 0 4 8 12 (rnds k f))))))))) := by rw [o9, va_up_self]
      have t9_6 := (show ev9 6 = ev8 6 by rw [o9, va_up_ne _ _ (by decide)]).trans t8_6
      refine lv_iinc (v := nI (k + 1)) (lv' := [(1, .int (nI (k + 1))), (0, .ref (ad 6))]) hx hb d_Mx_turnRounds_92 hl (k := 0) rfl (nI_add _ _) (by decide) rfl (fun ls hl => ?_)
      refine lv_goto (tgt := 2) hx hb d_Mx_turnRounds_95 (by decide) ?_
      refine ih (k + 1) (by omega) ev9 H locs ls ?_ h (lv_sub hl [0, 1] rfl)
      rw [o9, o8, o7, o6, o5, o4, o3, o2, o1, va_up2, va_up2, va_up2, va_up2, va_up2, va_up2, va_up2, va_up2]
      rfl
  exact loop1 10 0 rfl ev s.heap [] ls (va_upi _ _ h8).symm h (lv_sub hl [0, 1] rfl)
theorem d_Mx_layOut_0 : decode c_Mx_layOut 0 = .ok (.aload_n 0, 1) := by decide +kernel
theorem d_Mx_layOut_1 : decode c_Mx_layOut 1 = .ok (.getfield 11, 3) := by decide +kernel
theorem d_Mx_layOut_4 : decode c_Mx_layOut 4 = .ok (.iconst 0, 1) := by decide +kernel
theorem d_Mx_layOut_5 : decode c_Mx_layOut 5 = .ok (.ldc 53, 2) := by decide +kernel
theorem d_Mx_layOut_7 : decode c_Mx_layOut 7 = .ok (.iastore, 1) := by decide +kernel
theorem d_Mx_layOut_8 : decode c_Mx_layOut 8 = .ok (.aload_n 0, 1) := by decide +kernel
theorem d_Mx_layOut_9 : decode c_Mx_layOut 9 = .ok (.getfield 11, 3) := by decide +kernel
theorem d_Mx_layOut_12 : decode c_Mx_layOut 12 = .ok (.iconst 5, 1) := by decide +kernel
theorem d_Mx_layOut_13 : decode c_Mx_layOut 13 = .ok (.ldc 54, 2) := by decide +kernel
theorem d_Mx_layOut_15 : decode c_Mx_layOut 15 = .ok (.iastore, 1) := by decide +kernel
theorem d_Mx_layOut_16 : decode c_Mx_layOut 16 = .ok (.aload_n 0, 1) := by decide +kernel
theorem d_Mx_layOut_17 : decode c_Mx_layOut 17 = .ok (.getfield 11, 3) := by decide +kernel
theorem d_Mx_layOut_20 : decode c_Mx_layOut 20 = .ok (.bipush 10, 2) := by decide +kernel
theorem d_Mx_layOut_22 : decode c_Mx_layOut 22 = .ok (.ldc 55, 2) := by decide +kernel
theorem d_Mx_layOut_24 : decode c_Mx_layOut 24 = .ok (.iastore, 1) := by decide +kernel
theorem d_Mx_layOut_25 : decode c_Mx_layOut 25 = .ok (.aload_n 0, 1) := by decide +kernel
theorem d_Mx_layOut_26 : decode c_Mx_layOut 26 = .ok (.getfield 11, 3) := by decide +kernel
theorem d_Mx_layOut_29 : decode c_Mx_layOut 29 = .ok (.bipush 15, 2) := by decide +kernel
theorem d_Mx_layOut_31 : decode c_Mx_layOut 31 = .ok (.ldc 56, 2) := by decide +kernel
theorem d_Mx_layOut_33 : decode c_Mx_layOut 33 = .ok (.iastore, 1) := by decide +kernel
theorem d_Mx_layOut_34 : decode c_Mx_layOut 34 = .ok (.iconst 0, 1) := by decide +kernel
theorem d_Mx_layOut_35 : decode c_Mx_layOut 35 = .ok (.istore_n 3, 1) := by decide +kernel
theorem d_Mx_layOut_36 : decode c_Mx_layOut 36 = .ok (.iload_n 3, 1) := by decide +kernel
theorem d_Mx_layOut_37 : decode c_Mx_layOut 37 = .ok (.iconst 4, 1) := by decide +kernel
theorem d_Mx_layOut_38 : decode c_Mx_layOut 38 = .ok (.if_icmp .ge 59, 3) := by decide +kernel
theorem d_Mx_layOut_41 : decode c_Mx_layOut 41 = .ok (.aload_n 0, 1) := by decide +kernel
theorem d_Mx_layOut_42 : decode c_Mx_layOut 42 = .ok (.getfield 11, 3) := by decide +kernel
theorem d_Mx_layOut_45 : decode c_Mx_layOut 45 = .ok (.iconst 1, 1) := by decide +kernel
theorem d_Mx_layOut_46 : decode c_Mx_layOut 46 = .ok (.iload_n 3, 1) := by decide +kernel
theorem d_Mx_layOut_47 : decode c_Mx_layOut 47 = .ok (.iadd, 1) := by decide +kernel
theorem d_Mx_layOut_48 : decode c_Mx_layOut 48 = .ok (.aload_n 1, 1) := by decide +kernel
theorem d_Mx_layOut_49 : decode c_Mx_layOut 49 = .ok (.iconst 4, 1) := by decide +kernel
theorem d_Mx_layOut_50 : decode c_Mx_layOut 50 = .ok (.iload_n 3, 1) := by decide +kernel
theorem d_Mx_layOut_51 : decode c_Mx_layOut 51 = .ok (.imul, 1) := by decide +kernel
theorem d_Mx_layOut_52 : decode c_Mx_layOut 52 = .ok (.invokestatic 57, 3) := by decide +kernel
theorem d_Mx_layOut_55 : decode c_Mx_layOut 55 = .ok (.iastore, 1) := by decide +kernel
theorem d_Mx_layOut_56 : decode c_Mx_layOut 56 = .ok (.aload_n 0, 1) := by decide +kernel
theorem d_Mx_layOut_57 : decode c_Mx_layOut 57 = .ok (.getfield 11, 3) := by decide +kernel
theorem d_Mx_layOut_60 : decode c_Mx_layOut 60 = .ok (.bipush 6, 2) := by decide +kernel
theorem d_Mx_layOut_62 : decode c_Mx_layOut 62 = .ok (.iload_n 3, 1) := by decide +kernel
theorem d_Mx_layOut_63 : decode c_Mx_layOut 63 = .ok (.iadd, 1) := by decide +kernel
theorem d_Mx_layOut_64 : decode c_Mx_layOut 64 = .ok (.aload_n 2, 1) := by decide +kernel
theorem d_Mx_layOut_65 : decode c_Mx_layOut 65 = .ok (.iconst 4, 1) := by decide +kernel
theorem d_Mx_layOut_66 : decode c_Mx_layOut 66 = .ok (.iload_n 3, 1) := by decide +kernel
theorem d_Mx_layOut_67 : decode c_Mx_layOut 67 = .ok (.imul, 1) := by decide +kernel
theorem d_Mx_layOut_68 : decode c_Mx_layOut 68 = .ok (.invokestatic 57, 3) := by decide +kernel
theorem d_Mx_layOut_71 : decode c_Mx_layOut 71 = .ok (.iastore, 1) := by decide +kernel
theorem d_Mx_layOut_72 : decode c_Mx_layOut 72 = .ok (.aload_n 0, 1) := by decide +kernel
theorem d_Mx_layOut_73 : decode c_Mx_layOut 73 = .ok (.getfield 11, 3) := by decide +kernel
theorem d_Mx_layOut_76 : decode c_Mx_layOut 76 = .ok (.bipush 11, 2) := by decide +kernel
theorem d_Mx_layOut_78 : decode c_Mx_layOut 78 = .ok (.iload_n 3, 1) := by decide +kernel
theorem d_Mx_layOut_79 : decode c_Mx_layOut 79 = .ok (.iadd, 1) := by decide +kernel
theorem d_Mx_layOut_80 : decode c_Mx_layOut 80 = .ok (.aload_n 1, 1) := by decide +kernel
theorem d_Mx_layOut_81 : decode c_Mx_layOut 81 = .ok (.bipush 16, 2) := by decide +kernel
theorem d_Mx_layOut_83 : decode c_Mx_layOut 83 = .ok (.iconst 4, 1) := by decide +kernel
theorem d_Mx_layOut_84 : decode c_Mx_layOut 84 = .ok (.iload_n 3, 1) := by decide +kernel
theorem d_Mx_layOut_85 : decode c_Mx_layOut 85 = .ok (.imul, 1) := by decide +kernel
theorem d_Mx_layOut_86 : decode c_Mx_layOut 86 = .ok (.iadd, 1) := by decide +kernel
theorem d_Mx_layOut_87 : decode c_Mx_layOut 87 = .ok (.invokestatic 57, 3) := by decide +kernel
theorem d_Mx_layOut_90 : decode c_Mx_layOut 90 = .ok (.iastore, 1) := by decide +kernel
theorem d_Mx_layOut_91 : decode c_Mx_layOut 91 = .ok (.iinc 3 1, 3) := by decide +kernel
theorem d_Mx_layOut_94 : decode c_Mx_layOut 94 = .ok (.goto (-58), 3) := by decide +kernel
theorem d_Mx_layOut_97 : decode c_Mx_layOut 97 = .ok (.aload_n 0, 1) := by decide +kernel
theorem d_Mx_layOut_98 : decode c_Mx_layOut 98 = .ok (.getfield 11, 3) := by decide +kernel
theorem d_Mx_layOut_101 : decode c_Mx_layOut 101 = .ok (.iconst 0, 1) := by decide +kernel
theorem d_Mx_layOut_102 : decode c_Mx_layOut 102 = .ok (.aload_n 0, 1) := by decide +kernel
theorem d_Mx_layOut_103 : decode c_Mx_layOut 103 = .ok (.getfield 15, 3) := by decide +kernel
theorem d_Mx_layOut_106 : decode c_Mx_layOut 106 = .ok (.iconst 0, 1) := by decide +kernel
theorem d_Mx_layOut_107 : decode c_Mx_layOut 107 = .ok (.bipush 16, 2) := by decide +kernel
theorem d_Mx_layOut_109 : decode c_Mx_layOut 109 = .ok (.invokestatic 43, 3) := by decide +kernel
theorem d_Mx_layOut_112 : decode c_Mx_layOut 112 = .ok (.return_, 1) := by decide +kernel
set_option maxRecDepth 100000 in
set_option maxHeartbeats 4000000 in
/-- LAID OUT -/
theorem m_Mx_layOut (l : Launch) (G : wG) (A : Nat → Prop) (ad : Nat → Nat) (ev : Nat → va_E) (qk qx Nk Nx : Nat) (K X : Nat → Nat) (f g : Nat → Int32) (hqk : qk < 52) (hqx : qx < 52) (h6 : ev 6 = eO 2 [.ref (ad 7), .ref (ad 8), .ref (ad 9), .ref (ad 10), .ref (ad 11)]) (h7 : ev 7 = eI G 16 f) (h8 : ev 8 = eI G 16 g) (hk : ev qk = eB G Nk (bs K)) (hx' : ev qx = eB G Nx (bs X)) (k7 : qk ≠ 7) (x7 : qx ≠ 7) (hK : ∀ j, K j < 256) (hX : ∀ j, X j < 256) (nk : 32 ≤ Nk) (nx : 16 ≤ Nx) (nk2 : Nk < 2 ^ 31) (nx2 : Nx < 2 ^ 31) : wM l y_Mx_layOut w_Mx_layOut ({ frames := 3, cells := 0, slots := 0, locals := 100 }) G A 52 ad ev [.ref (ad 6), .ref (ad qk), .ref (ad qx)] (fun ov ev' => ov = none ∧ ev' = va_up (va_up ev 7 (eI G 16 (LAY K X))) 8 (eI G 16 (LAY K X))) := by
  refine wv_ofW (cc := c_Mx_layOut) (maxL := 4) (ret := none) (by decide) rfl (Nat.le_of_ble_eq_true rfl) ?_
  intro p e s m below meth c ls hx hb hr hml hts hown hlocks hini h hl
  have hl : lv_has ls 4 [(0, .ref (ad 6)), (1, .ref (ad qk)), (2, .ref (ad qx))] := hl
  refine lv_aload_n hx hb d_Mx_layOut_0 rfl (lv_at hl 0 rfl) ?_
  refine wv_getf hx hb h 6 (by decide) (fs := [.ref (ad 7), .ref (ad 8), .ref (ad 9), .ref (ad 10), .ref (ad 11)]) h6 hts (fun w hw => List.mem_cons_of_mem _ (fW_Mx w hw)) hown (ci := 2) (C := "NonceBox$Mixer") (T := fT_Mx) (N := 5) rfl 0 (by decide) (hts _ (List.mem_cons_of_mem _ kf_Mx_11)) rfl (v := .ref (ad 7)) rfl d_Mx_layOut_1 ?_
  refine lv_iconst (v := nI (0)) hx hb d_Mx_layOut_4 (by decide) ?_
  refine lv_ldc (v := 1634760805) hx hb hown (hts _ (List.mem_cons_of_mem _ ko_Mx_53)) d_Mx_layOut_5 ?_
  refine wv_iast hx hb h 7 (by decide) (f := f) h7 (k := 0) rfl (by decide) (by decide) d_Mx_layOut_7 (fun H locs h => ?_)
  obtain ⟨ev1, o1⟩ : ∃ z, z = va_up ev 7 (eI G 16 (va_up f 0 1634760805)) := ⟨_, rfl⟩
  rw [← o1] at h
  have t1_7 : ev1 7 = eI G 16 (va_up f 0 1634760805) := by rw [o1, va_up_self]
  have t1_8 := (show ev1 8 = ev 8 by rw [o1, va_up_ne _ _ (by decide)]).trans h8
  have t1_qk := (show ev1 qk = ev qk by rw [o1, va_up_ne _ _ k7]).trans hk
  have t1_qx := (show ev1 qx = ev qx by rw [o1, va_up_ne _ _ x7]).trans hx'
  have t1_6 := (show ev1 6 = ev 6 by rw [o1, va_up_ne _ _ (by decide)]).trans h6
  refine lv_aload_n hx hb d_Mx_layOut_8 rfl (lv_at hl 0 rfl) ?_
  refine wv_getf hx hb h 6 (by decide) (fs := [.ref (ad 7), .ref (ad 8), .ref (ad 9), .ref (ad 10), .ref (ad 11)]) t1_6 hts (fun w hw => List.mem_cons_of_mem _ (fW_Mx w hw)) hown (ci := 2) (C := "NonceBox$Mixer") (T := fT_Mx) (N := 5) rfl 0 (by decide) (hts _ (List.mem_cons_of_mem _ kf_Mx_11)) rfl (v := .ref (ad 7)) rfl d_Mx_layOut_9 ?_
  refine lv_iconst (v := nI (5)) hx hb d_Mx_layOut_12 (by decide) ?_
  refine lv_ldc (v := 857760878) hx hb hown (hts _ (List.mem_cons_of_mem _ ko_Mx_54)) d_Mx_layOut_13 ?_
  refine wv_iast hx hb h 7 (by decide) (f := (va_up f 0 1634760805)) t1_7 (k := 5) rfl (by decide) (by decide) d_Mx_layOut_15 (fun H locs h => ?_)
  obtain ⟨ev2, o2⟩ : ∃ z, z = va_up ev1 7 (eI G 16 (va_up ((va_up f 0 1634760805)) 5 857760878)) := ⟨_, rfl⟩
  rw [← o2] at h
  have t2_7 : ev2 7 = eI G 16 (va_up ((va_up f 0 1634760805)) 5 857760878) := by rw [o2, va_up_self]
  have t2_8 := (show ev2 8 = ev1 8 by rw [o2, va_up_ne _ _ (by decide)]).trans t1_8
  have t2_qk := (show ev2 qk = ev1 qk by rw [o2, va_up_ne _ _ k7]).trans t1_qk
  have t2_qx := (show ev2 qx = ev1 qx by rw [o2, va_up_ne _ _ x7]).trans t1_qx
  have t2_6 := (show ev2 6 = ev1 6 by rw [o2, va_up_ne _ _ (by decide)]).trans t1_6
  refine lv_aload_n hx hb d_Mx_layOut_16 rfl (lv_at hl 0 rfl) ?_
  refine wv_getf hx hb h 6 (by decide) (fs := [.ref (ad 7), .ref (ad 8), .ref (ad 9), .ref (ad 10), .ref (ad 11)]) t2_6 hts (fun w hw => List.mem_cons_of_mem _ (fW_Mx w hw)) hown (ci := 2) (C := "NonceBox$Mixer") (T := fT_Mx) (N := 5) rfl 0 (by decide) (hts _ (List.mem_cons_of_mem _ kf_Mx_11)) rfl (v := .ref (ad 7)) rfl d_Mx_layOut_17 ?_
  refine lv_bipush (v := nI (10)) hx hb d_Mx_layOut_20 (by decide) ?_
  refine lv_ldc (v := 2036477234) hx hb hown (hts _ (List.mem_cons_of_mem _ ko_Mx_55)) d_Mx_layOut_22 ?_
  refine wv_iast hx hb h 7 (by decide) (f := (va_up ((va_up f 0 1634760805)) 5 857760878)) t2_7 (k := 10) rfl (by decide) (by decide) d_Mx_layOut_24 (fun H locs h => ?_)
  obtain ⟨ev3, o3⟩ : ∃ z, z = va_up ev2 7 (eI G 16 (va_up ((va_up ((va_up f 0 1634760805)) 5 857760878)) 10 2036477234)) := ⟨_, rfl⟩
  rw [← o3] at h
  have t3_7 : ev3 7 = eI G 16 (va_up ((va_up ((va_up f 0 1634760805)) 5 857760878)) 10 2036477234) := by rw [o3, va_up_self]
  have t3_8 := (show ev3 8 = ev2 8 by rw [o3, va_up_ne _ _ (by decide)]).trans t2_8
  have t3_qk := (show ev3 qk = ev2 qk by rw [o3, va_up_ne _ _ k7]).trans t2_qk
  have t3_qx := (show ev3 qx = ev2 qx by rw [o3, va_up_ne _ _ x7]).trans t2_qx
  have t3_6 := (show ev3 6 = ev2 6 by rw [o3, va_up_ne _ _ (by decide)]).trans t2_6
  refine lv_aload_n hx hb d_Mx_layOut_25 rfl (lv_at hl 0 rfl) ?_
  refine wv_getf hx hb h 6 (by decide) (fs := [.ref (ad 7), .ref (ad 8), .ref (ad 9), .ref (ad 10), .ref (ad 11)]) t3_6 hts (fun w hw => List.mem_cons_of_mem _ (fW_Mx w hw)) hown (ci := 2) (C := "NonceBox$Mixer") (T := fT_Mx) (N := 5) rfl 0 (by decide) (hts _ (List.mem_cons_of_mem _ kf_Mx_11)) rfl (v := .ref (ad 7)) rfl d_Mx_layOut_26 ?_
  refine lv_bipush (v := nI (15)) hx hb d_Mx_layOut_29 (by decide) ?_
  refine lv_ldc (v := 1797285236) hx hb hown (hts _ (List.mem_cons_of_mem _ ko_Mx_56)) d_Mx_layOut_31 ?_
  refine wv_iast hx hb h 7 (by decide) (f := (va_up ((va_up ((va_up f 0 1634760805)) 5 857760878)) 10 2036477234)) t3_7 (k := 15) rfl (by decide) (by decide) d_Mx_layOut_33 (fun H locs h => ?_)
  obtain ⟨ev4, o4⟩ : ∃ z, z = va_up ev3 7 (eI G 16 (va_up ((va_up ((va_up ((va_up f 0 1634760805)) 5 857760878)) 10 2036477234)) 15 1797285236)) := ⟨_, rfl⟩
  rw [← o4] at h
  have t4_7 : ev4 7 = eI G 16 (va_up ((va_up ((va_up ((va_up f 0 1634760805)) 5 857760878)) 10 2036477234)) 15 1797285236) := by rw [o4, va_up_self]
  have t4_8 := (show ev4 8 = ev3 8 by rw [o4, va_up_ne _ _ (by decide)]).trans t3_8
  have t4_qk := (show ev4 qk = ev3 qk by rw [o4, va_up_ne _ _ k7]).trans t3_qk
  have t4_qx := (show ev4 qx = ev3 qx by rw [o4, va_up_ne _ _ x7]).trans t3_qx
  have t4_6 := (show ev4 6 = ev3 6 by rw [o4, va_up_ne _ _ (by decide)]).trans t3_6
  refine lv_iconst (v := nI (0)) hx hb d_Mx_layOut_34 (by decide) ?_
  refine lv_istore_n (lv' := [(3, .int (nI (0))), (0, .ref (ad 6)), (1, .ref (ad qk)), (2, .ref (ad qx))]) hx hb d_Mx_layOut_35 rfl hl (by decide) rfl (fun ls hl => ?_)
  obtain ⟨f0, ef0⟩ : ∃ z, z = (va_up (va_up (va_up (va_up f 0 1634760805) 5 857760878) 10 2036477234) 15 1797285236) := ⟨_, rfl⟩
  have o4' : ev4 = va_up ev 7 (eI G 16 f0) := by rw [o4, o3, o2, o1, va_up2, va_up2, va_up2, ef0]
  have t4' : ev4 7 = eI G 16 f0 := by rw [o4', va_up_self]
  have loop5 : ∀ (d k : Nat), k + d = 4 →  ∀ (ev5 : Nat → va_E) (H : Heap) (locs : List Loc) (ls : Array Slot), ev5 = (va_up ev4 7 (eI G 16 (layL K X f0 k))) → wT G A 52 ad ev5 s H locs → lv_has ls 4 [(3, .int (nI (k))), (0, .ref (ad 6)), (1, .ref (ad qk)), (2, .ref (ad qx))] → W p l e ({ frames := 3, cells := 0, slots := 0, locals := 100 }) s m ([.ref (ad 6), .ref (ad qk), .ref (ad qx)] : List Value).toArray below meth c H locs 0 0 (MQ below (wQc G A 52 ad (fun ov ev' => ov = none ∧ ev' = va_up (va_up ev 7 (eI G 16 (LAY K X))) 8 (eI G 16 (LAY K X)))) ([.ref (ad 6), .ref (ad qk), .ref (ad qx)] : List Value).toArray s 0 0 A) (F0 m 36 ls []) := by
    intro d
    induction d with
    | zero =>
      intro k hk_k  ev5 H locs ls  o5 h hl
      have t5_7 : ev5 7 = eI G 16 (layL K X f0 k) := by rw [o5, va_up_self]
      have t5_8 := (show ev5 8 = ev4 8 by rw [o5, va_up_ne _ _ (by decide)]).trans t4_8
      have t5_qk := (show ev5 qk = ev4 qk by rw [o5, va_up_ne _ _ k7]).trans t4_qk
      have t5_qx := (show ev5 qx = ev4 qx by rw [o5, va_up_ne _ _ x7]).trans t4_qx
      have t5_6 := (show ev5 6 = ev4 6 by rw [o5, va_up_ne _ _ (by decide)]).trans t4_6
      refine lv_iload_n hx hb d_Mx_layOut_36 rfl (lv_at hl 0 rfl) ?_
      refine lv_iconst (v := nI (4)) hx hb d_Mx_layOut_37 (by decide) ?_
      refine lv_icmp_ge (tgt := 97) hx hb d_Mx_layOut_38 (by decide) (fun _ => ?_) (fun hc => absurd ((nI_leI (by omega) (by omega)).mpr (by omega)) hc)
      refine lv_aload_n hx hb d_Mx_layOut_97 rfl (lv_at hl 1 rfl) ?_
      refine wv_getf hx hb h 6 (by decide) (fs := [.ref (ad 7), .ref (ad 8), .ref (ad 9), .ref (ad 10), .ref (ad 11)]) t5_6 hts (fun w hw => List.mem_cons_of_mem _ (fW_Mx w hw)) hown (ci := 2) (C := "NonceBox$Mixer") (T := fT_Mx) (N := 5) rfl 0 (by decide) (hts _ (List.mem_cons_of_mem _ kf_Mx_11)) rfl (v := .ref (ad 7)) rfl d_Mx_layOut_98 ?_
      refine lv_iconst (v := nI (0)) hx hb d_Mx_layOut_101 (by decide) ?_
      refine lv_aload_n hx hb d_Mx_layOut_102 rfl (lv_at hl 1 rfl) ?_
      refine wv_getf hx hb h 6 (by decide) (fs := [.ref (ad 7), .ref (ad 8), .ref (ad 9), .ref (ad 10), .ref (ad 11)]) t5_6 hts (fun w hw => List.mem_cons_of_mem _ (fW_Mx w hw)) hown (ci := 2) (C := "NonceBox$Mixer") (T := fT_Mx) (N := 5) rfl 1 (by decide) (hts _ (List.mem_cons_of_mem _ kf_Mx_15)) rfl (v := .ref (ad 8)) rfl d_Mx_layOut_103 ?_
      refine lv_iconst (v := nI (0)) hx hb d_Mx_layOut_106 (by decide) ?_
      refine lv_bipush (v := nI (16)) hx hb d_Mx_layOut_107 (by decide) ?_
      refine wv_copyi hx hb (hml.trans hl.1.symm) h hown (hts _ (List.mem_cons_of_mem _ kl_Mx_43)) (hts _ (List.mem_cons_of_mem _ kn_Sy_arraycopy)) (hts _ (List.mem_cons_of_mem _ ks_Sy_arraycopy)) (hts _ (List.mem_cons_of_mem _ ki_Sy)) 7 8 (by decide) (by decide) (f := (layL K X f0 k)) (g := g) t5_7 t5_8 (a := 0) (b := 0) (d := 16) rfl rfl rfl (by omega) (by omega) (by decide) (by decide) (by decide) (by decide) d_Mx_layOut_109 (fun H locs h => ?_)
      obtain ⟨ev6, o6⟩ : ∃ z, z = va_up ev5 8 (eI G 16 (va_cpy (layL K X f0 k) g 0 0 16)) := ⟨_, rfl⟩
      rw [← o6] at h
      have t6_8 : ev6 8 = eI G 16 (va_cpy (layL K X f0 k) g 0 0 16) := by rw [o6, va_up_self]
      have t6_7 := (show ev6 7 = ev5 7 by rw [o6, va_up_ne _ _ (by decide)]).trans t5_7
      have t6_6 := (show ev6 6 = ev5 6 by rw [o6, va_up_ne _ _ (by decide)]).trans t5_6
      have h := wT_eqI (g := (LAY K X)) h 8 (by decide) t6_8 (fun j hj => by rw [pk_cpy_in (Nat.zero_le _) (by omega), Nat.zero_add, Nat.sub_zero, show k = 4 by omega, ef0]; exact layL_4 K X f j hj)
      obtain ⟨ev7, o7⟩ : ∃ z, z = va_up ev6 8 (eI G 16 (LAY K X)) := ⟨_, rfl⟩
      rw [← o7] at h
      have t7_8 : ev7 8 = eI G 16 (LAY K X) := by rw [o7, va_up_self]
      have t7_7 := (show ev7 7 = ev6 7 by rw [o7, va_up_ne _ _ (by decide)]).trans t6_7
      have t7_6 := (show ev7 6 = ev6 6 by rw [o7, va_up_ne _ _ (by decide)]).trans t6_6
      have h := wT_eqI (g := (LAY K X)) h 7 (by decide) t7_7 (fun j hj => by rw [show k = 4 by omega, ef0]; exact layL_4 K X f j hj)
      obtain ⟨ev8, o8⟩ : ∃ z, z = va_up ev7 7 (eI G 16 (LAY K X)) := ⟨_, rfl⟩
      rw [← o8] at h
      have t8_7 : ev8 7 = eI G 16 (LAY K X) := by rw [o8, va_up_self]
      have t8_8 := (show ev8 8 = ev7 8 by rw [o8, va_up_ne _ _ (by decide)]).trans t7_8
      have t8_6 := (show ev8 6 = ev7 6 by rw [o8, va_up_ne _ _ (by decide)]).trans t7_6
      refine wv_vret hx hb hr hlocks h d_Mx_layOut_112 ⟨rfl, ?_⟩
      rw [o8, o7, o6, va_up2, o5, va_upc _ _ _ (show (8 : Nat) ≠ 7 by decide), va_up2, o4', va_up2]
    | succ d ih =>
      intro k hk_k  ev5 H locs ls  o5 h hl
      have t5_7 : ev5 7 = eI G 16 (layL K X f0 k) := by rw [o5, va_up_self]
      have t5_8 := (show ev5 8 = ev4 8 by rw [o5, va_up_ne _ _ (by decide)]).trans t4_8
      have t5_qk := (show ev5 qk = ev4 qk by rw [o5, va_up_ne _ _ k7]).trans t4_qk
      have t5_qx := (show ev5 qx = ev4 qx by rw [o5, va_up_ne _ _ x7]).trans t4_qx
      have t5_6 := (show ev5 6 = ev4 6 by rw [o5, va_up_ne _ _ (by decide)]).trans t4_6
      refine lv_iload_n hx hb d_Mx_layOut_36 rfl (lv_at hl 0 rfl) ?_
      refine lv_iconst (v := nI (4)) hx hb d_Mx_layOut_37 (by decide) ?_
      refine lv_icmp_ge (tgt := 97) hx hb d_Mx_layOut_38 (by decide) (fun hc => absurd ((nI_leI (by omega) (by omega)).mp hc) (by omega)) (fun _ => ?_)
      refine lv_aload_n hx hb d_Mx_layOut_41 rfl (lv_at hl 1 rfl) ?_
      refine wv_getf hx hb h 6 (by decide) (fs := [.ref (ad 7), .ref (ad 8), .ref (ad 9), .ref (ad 10), .ref (ad 11)]) t5_6 hts (fun w hw => List.mem_cons_of_mem _ (fW_Mx w hw)) hown (ci := 2) (C := "NonceBox$Mixer") (T := fT_Mx) (N := 5) rfl 0 (by decide) (hts _ (List.mem_cons_of_mem _ kf_Mx_11)) rfl (v := .ref (ad 7)) rfl d_Mx_layOut_42 ?_
      refine lv_iconst (v := nI (1)) hx hb d_Mx_layOut_45 (by decide) ?_
      refine lv_iload_n hx hb d_Mx_layOut_46 rfl (lv_at hl 0 rfl) ?_
      refine lv_iadd hx hb d_Mx_layOut_47 ?_
      refine wv_top (nI_add _ _) ?_
      refine lv_aload_n hx hb d_Mx_layOut_48 rfl (lv_at hl 2 rfl) ?_
      refine lv_iconst (v := nI (4)) hx hb d_Mx_layOut_49 (by decide) ?_
      refine lv_iload_n hx hb d_Mx_layOut_50 rfl (lv_at hl 0 rfl) ?_
      refine lv_imul hx hb d_Mx_layOut_51 ?_
      refine wv_top (pk_mul _ _) ?_
      refine wv_Sx (As := [.ref (ad qk), .int (nI (4 * k))]) (rest := [.int (nI (1 + k)), .ref (ad 7)]) (k := 2) ⟨hx, hb, hml, hown, hts⟩ h (m_Mx_readWord l G A ad ev5 qk Nk (4 * k) K hqk t5_qk hK (by omega) nk2) kc_Mx_readWord kl_Mx_57 ks_Mx_readWord ki_Mx (by decide +kernel) ⟨rfl, rfl, Nat.le_of_ble_eq_true rfl, Nat.le_of_ble_eq_true rfl⟩ hl.1 rfl rfl (Nat.le_of_ble_eq_true rfl) ⟨Nat.le_refl _, Nat.le_refl _⟩ d_Mx_layOut_52 ?_
      intro ov ev6 H locs hp h
      rw [hp.1]
      refine W.eq (g2 := F0 m 55 ls [.int (wordN K (4 * k)), .int (nI (1 + k)), .ref (ad 7)]) rfl ?_
      rw [hp.2] at h
      refine wv_iast hx hb h 7 (by decide) (f := (layL K X f0 k)) t5_7 (k := 1 + k) rfl (by omega) (by decide) d_Mx_layOut_55 (fun H locs h => ?_)
      obtain ⟨ev6, o6⟩ : ∃ z, z = va_up ev5 7 (eI G 16 (va_up ((layL K X f0 k)) (1 + k) (wordN K (4 * k)))) := ⟨_, rfl⟩
      rw [← o6] at h
      have t6_7 : ev6 7 = eI G 16 (va_up ((layL K X f0 k)) (1 + k) (wordN K (4 * k))) := by rw [o6, va_up_self]
      have t6_8 := (show ev6 8 = ev5 8 by rw [o6, va_up_ne _ _ (by decide)]).trans t5_8
      have t6_qk := (show ev6 qk = ev5 qk by rw [o6, va_up_ne _ _ k7]).trans t5_qk
      have t6_qx := (show ev6 qx = ev5 qx by rw [o6, va_up_ne _ _ x7]).trans t5_qx
      have t6_6 := (show ev6 6 = ev5 6 by rw [o6, va_up_ne _ _ (by decide)]).trans t5_6
      refine lv_aload_n hx hb d_Mx_layOut_56 rfl (lv_at hl 1 rfl) ?_
      refine wv_getf hx hb h 6 (by decide) (fs := [.ref (ad 7), .ref (ad 8), .ref (ad 9), .ref (ad 10), .ref (ad 11)]) t6_6 hts (fun w hw => List.mem_cons_of_mem _ (fW_Mx w hw)) hown (ci := 2) (C := "NonceBox$Mixer") (T := fT_Mx) (N := 5) rfl 0 (by decide) (hts _ (List.mem_cons_of_mem _ kf_Mx_11)) rfl (v := .ref (ad 7)) rfl d_Mx_layOut_57 ?_
      refine lv_bipush (v := nI (6)) hx hb d_Mx_layOut_60 (by decide) ?_
      refine lv_iload_n hx hb d_Mx_layOut_62 rfl (lv_at hl 0 rfl) ?_
      refine lv_iadd hx hb d_Mx_layOut_63 ?_
      refine wv_top (nI_add _ _) ?_
      refine lv_aload_n hx hb d_Mx_layOut_64 rfl (lv_at hl 3 rfl) ?_
      refine lv_iconst (v := nI (4)) hx hb d_Mx_layOut_65 (by decide) ?_
      refine lv_iload_n hx hb d_Mx_layOut_66 rfl (lv_at hl 0 rfl) ?_
      refine lv_imul hx hb d_Mx_layOut_67 ?_
      refine wv_top (pk_mul _ _) ?_
      refine wv_Sx (As := [.ref (ad qx), .int (nI (4 * k))]) (rest := [.int (nI (6 + k)), .ref (ad 7)]) (k := 2) ⟨hx, hb, hml, hown, hts⟩ h (m_Mx_readWord l G A ad ev6 qx Nx (4 * k) X hqx t6_qx hX (by omega) nx2) kc_Mx_readWord kl_Mx_57 ks_Mx_readWord ki_Mx (by decide +kernel) ⟨rfl, rfl, Nat.le_of_ble_eq_true rfl, Nat.le_of_ble_eq_true rfl⟩ hl.1 rfl rfl (Nat.le_of_ble_eq_true rfl) ⟨Nat.le_refl _, Nat.le_refl _⟩ d_Mx_layOut_68 ?_
      intro ov ev7 H locs hp h
      rw [hp.1]
      refine W.eq (g2 := F0 m 71 ls [.int (wordN X (4 * k)), .int (nI (6 + k)), .ref (ad 7)]) rfl ?_
      rw [hp.2] at h
      refine wv_iast hx hb h 7 (by decide) (f := (va_up ((layL K X f0 k)) (1 + k) (wordN K (4 * k)))) t6_7 (k := 6 + k) rfl (by omega) (by decide) d_Mx_layOut_71 (fun H locs h => ?_)
      obtain ⟨ev7, o7⟩ : ∃ z, z = va_up ev6 7 (eI G 16 (va_up ((va_up ((layL K X f0 k)) (1 + k) (wordN K (4 * k)))) (6 + k) (wordN X (4 * k)))) := ⟨_, rfl⟩
      rw [← o7] at h
      have t7_7 : ev7 7 = eI G 16 (va_up ((va_up ((layL K X f0 k)) (1 + k) (wordN K (4 * k)))) (6 + k) (wordN X (4 * k))) := by rw [o7, va_up_self]
      have t7_8 := (show ev7 8 = ev6 8 by rw [o7, va_up_ne _ _ (by decide)]).trans t6_8
      have t7_qk := (show ev7 qk = ev6 qk by rw [o7, va_up_ne _ _ k7]).trans t6_qk
      have t7_qx := (show ev7 qx = ev6 qx by rw [o7, va_up_ne _ _ x7]).trans t6_qx
      have t7_6 := (show ev7 6 = ev6 6 by rw [o7, va_up_ne _ _ (by decide)]).trans t6_6
      refine lv_aload_n hx hb d_Mx_layOut_72 rfl (lv_at hl 1 rfl) ?_
      refine wv_getf hx hb h 6 (by decide) (fs := [.ref (ad 7), .ref (ad 8), .ref (ad 9), .ref (ad 10), .ref (ad 11)]) t7_6 hts (fun w hw => List.mem_cons_of_mem _ (fW_Mx w hw)) hown (ci := 2) (C := "NonceBox$Mixer") (T := fT_Mx) (N := 5) rfl 0 (by decide) (hts _ (List.mem_cons_of_mem _ kf_Mx_11)) rfl (v := .ref (ad 7)) rfl d_Mx_layOut_73 ?_
      refine lv_bipush (v := nI (11)) hx hb d_Mx_layOut_76 (by decide) ?_
      refine lv_iload_n hx hb d_Mx_layOut_78 rfl (lv_at hl 0 rfl) ?_
      refine lv_iadd hx hb d_Mx_layOut_79 ?_
      refine wv_top (nI_add _ _) ?_
      refine lv_aload_n hx hb d_Mx_layOut_80 rfl (lv_at hl 2 rfl) ?_
      refine lv_bipush (v := nI (16)) hx hb d_Mx_layOut_81 (by decide) ?_
      refine lv_iconst (v := nI (4)) hx hb d_Mx_layOut_83 (by decide) ?_
      refine lv_iload_n hx hb d_Mx_layOut_84 rfl (lv_at hl 0 rfl) ?_
      refine lv_imul hx hb d_Mx_layOut_85 ?_
      refine wv_top (pk_mul _ _) ?_
      refine lv_iadd hx hb d_Mx_layOut_86 ?_
      refine wv_top (nI_add _ _) ?_
      refine wv_Sx (As := [.ref (ad qk), .int (nI (16 + (4 * k)))]) (rest := [.int (nI (11 + k)), .ref (ad 7)]) (k := 2) ⟨hx, hb, hml, hown, hts⟩ h (m_Mx_readWord l G A ad ev7 qk Nk (16 + 4 * k) K hqk t7_qk hK (by omega) nk2) kc_Mx_readWord kl_Mx_57 ks_Mx_readWord ki_Mx (by decide +kernel) ⟨rfl, rfl, Nat.le_of_ble_eq_true rfl, Nat.le_of_ble_eq_true rfl⟩ hl.1 rfl rfl (Nat.le_of_ble_eq_true rfl) ⟨Nat.le_refl _, Nat.le_refl _⟩ d_Mx_layOut_87 ?_
      intro ov ev8 H locs hp h
      rw [hp.1]
      refine W.eq (g2 := F0 m 90 ls [.int (wordN K (16 + 4 * k)), .int (nI (11 + k)), .ref (ad 7)]) rfl ?_
      rw [hp.2] at h
      refine wv_iast hx hb h 7 (by decide) (f := (va_up ((va_up ((layL K X f0 k)) (1 + k) (wordN K (4 * k)))) (6 + k) (wordN X (4 * k)))) t7_7 (k := 11 + k) rfl (by omega) (by decide) d_Mx_layOut_90 (fun H locs h => ?_)
      obtain ⟨ev8, o8⟩ : ∃ z, z = va_up ev7 7 (eI G 16 (va_up ((va_up ((va_up ((layL K X f0 k)) (1 + k) (wordN K (4 * k)))) (6 + k) (wordN X (4 * k)))) (11 + k) (wordN K (16 + 4 * k)))) := ⟨_, rfl⟩
      rw [← o8] at h
      have t8_7 : ev8 7 = eI G 16 (va_up ((va_up ((va_up ((layL K X f0 k)) (1 + k) (wordN K (4 * k)))) (6 + k) (wordN X (4 * k)))) (11 + k) (wordN K (16 + 4 * k))) := by rw [o8, va_up_self]
      have t8_8 := (show ev8 8 = ev7 8 by rw [o8, va_up_ne _ _ (by decide)]).trans t7_8
      have t8_qk := (show ev8 qk = ev7 qk by rw [o8, va_up_ne _ _ k7]).trans t7_qk
      have t8_qx := (show ev8 qx = ev7 qx by rw [o8, va_up_ne _ _ x7]).trans t7_qx
      have t8_6 := (show ev8 6 = ev7 6 by rw [o8, va_up_ne _ _ (by decide)]).trans t7_6
      refine lv_iinc (v := nI (k + 1)) (lv' := [(3, .int (nI (k + 1))), (0, .ref (ad 6)), (1, .ref (ad qk)), (2, .ref (ad qx))]) hx hb d_Mx_layOut_91 hl (k := 0) rfl (nI_add _ _) (by decide) rfl (fun ls hl => ?_)
      refine lv_goto (tgt := 36) hx hb d_Mx_layOut_94 (by decide) ?_
      refine ih (k + 1) (by omega) ev8 H locs ls ?_ h (lv_sub hl [0, 1, 2, 3] rfl)
      rw [o8, o7, o6, o5, va_up2, va_up2, va_up2]
      rfl
  exact loop5 4 0 rfl ev4 H locs ls (va_upi _ _ t4').symm h (lv_sub hl [0, 1, 2, 3] rfl)
