theorem d_Cv_multipleInto_0 : decode c_Cv_multipleInto 0 = .ok (.aload_n 0, 1) := by decide +kernel
theorem d_Cv_multipleInto_1 : decode c_Cv_multipleInto 1 = .ok (.aload_n 2, 1) := by decide +kernel
theorem d_Cv_multipleInto_2 : decode c_Cv_multipleInto 2 = .ok (.invokevirtual 67, 3) := by decide +kernel
theorem d_Cv_multipleInto_5 : decode c_Cv_multipleInto 5 = .ok (.aload_n 0, 1) := by decide +kernel
theorem d_Cv_multipleInto_6 : decode c_Cv_multipleInto 6 = .ok (.aload_n 1, 1) := by decide +kernel
theorem d_Cv_multipleInto_7 : decode c_Cv_multipleInto 7 = .ok (.invokevirtual 71, 3) := by decide +kernel
theorem d_Cv_multipleInto_10 : decode c_Cv_multipleInto 10 = .ok (.sipush 254, 3) := by decide +kernel
theorem d_Cv_multipleInto_13 : decode c_Cv_multipleInto 13 = .ok (.istore 4, 2) := by decide +kernel
theorem d_Cv_multipleInto_15 : decode c_Cv_multipleInto 15 = .ok (.iload 4, 2) := by decide +kernel
theorem d_Cv_multipleInto_17 : decode c_Cv_multipleInto 17 = .ok (.ifCond .lt 74, 3) := by decide +kernel
theorem d_Cv_multipleInto_20 : decode c_Cv_multipleInto 20 = .ok (.aload_n 0, 1) := by decide +kernel
theorem d_Cv_multipleInto_21 : decode c_Cv_multipleInto 21 = .ok (.getfield 22, 3) := by decide +kernel
theorem d_Cv_multipleInto_24 : decode c_Cv_multipleInto 24 = .ok (.iload 4, 2) := by decide +kernel
theorem d_Cv_multipleInto_26 : decode c_Cv_multipleInto 26 = .ok (.bipush 8, 2) := by decide +kernel
theorem d_Cv_multipleInto_28 : decode c_Cv_multipleInto 28 = .ok (.idiv, 1) := by decide +kernel
theorem d_Cv_multipleInto_29 : decode c_Cv_multipleInto 29 = .ok (.baload, 1) := by decide +kernel
theorem d_Cv_multipleInto_30 : decode c_Cv_multipleInto 30 = .ok (.iload 4, 2) := by decide +kernel
theorem d_Cv_multipleInto_32 : decode c_Cv_multipleInto 32 = .ok (.bipush 8, 2) := by decide +kernel
theorem d_Cv_multipleInto_34 : decode c_Cv_multipleInto 34 = .ok (.irem, 1) := by decide +kernel
theorem d_Cv_multipleInto_35 : decode c_Cv_multipleInto 35 = .ok (.ishr, 1) := by decide +kernel
theorem d_Cv_multipleInto_36 : decode c_Cv_multipleInto 36 = .ok (.iconst 1, 1) := by decide +kernel
theorem d_Cv_multipleInto_37 : decode c_Cv_multipleInto 37 = .ok (.iand, 1) := by decide +kernel
theorem d_Cv_multipleInto_38 : decode c_Cv_multipleInto 38 = .ok (.iconst 1, 1) := by decide +kernel
theorem d_Cv_multipleInto_39 : decode c_Cv_multipleInto 39 = .ok (.if_icmp .ne 26, 3) := by decide +kernel
theorem d_Cv_multipleInto_42 : decode c_Cv_multipleInto 42 = .ok (.aload_n 0, 1) := by decide +kernel
theorem d_Cv_multipleInto_43 : decode c_Cv_multipleInto 43 = .ok (.aload_n 0, 1) := by decide +kernel
theorem d_Cv_multipleInto_44 : decode c_Cv_multipleInto 44 = .ok (.getfield 37, 3) := by decide +kernel
theorem d_Cv_multipleInto_47 : decode c_Cv_multipleInto 47 = .ok (.aload_n 0, 1) := by decide +kernel
theorem d_Cv_multipleInto_48 : decode c_Cv_multipleInto 48 = .ok (.getfield 40, 3) := by decide +kernel
theorem d_Cv_multipleInto_51 : decode c_Cv_multipleInto 51 = .ok (.aload_n 0, 1) := by decide +kernel
theorem d_Cv_multipleInto_52 : decode c_Cv_multipleInto 52 = .ok (.getfield 30, 3) := by decide +kernel
theorem d_Cv_multipleInto_55 : decode c_Cv_multipleInto 55 = .ok (.aload_n 0, 1) := by decide +kernel
theorem d_Cv_multipleInto_56 : decode c_Cv_multipleInto 56 = .ok (.getfield 34, 3) := by decide +kernel
theorem d_Cv_multipleInto_59 : decode c_Cv_multipleInto 59 = .ok (.invokevirtual 74, 3) := by decide +kernel
theorem d_Cv_multipleInto_62 : decode c_Cv_multipleInto 62 = .ok (.goto 23, 3) := by decide +kernel
theorem d_Cv_multipleInto_65 : decode c_Cv_multipleInto 65 = .ok (.aload_n 0, 1) := by decide +kernel
theorem d_Cv_multipleInto_66 : decode c_Cv_multipleInto 66 = .ok (.aload_n 0, 1) := by decide +kernel
theorem d_Cv_multipleInto_67 : decode c_Cv_multipleInto 67 = .ok (.getfield 30, 3) := by decide +kernel
theorem d_Cv_multipleInto_70 : decode c_Cv_multipleInto 70 = .ok (.aload_n 0, 1) := by decide +kernel
theorem d_Cv_multipleInto_71 : decode c_Cv_multipleInto 71 = .ok (.getfield 34, 3) := by decide +kernel
theorem d_Cv_multipleInto_74 : decode c_Cv_multipleInto 74 = .ok (.aload_n 0, 1) := by decide +kernel
theorem d_Cv_multipleInto_75 : decode c_Cv_multipleInto 75 = .ok (.getfield 37, 3) := by decide +kernel
theorem d_Cv_multipleInto_78 : decode c_Cv_multipleInto 78 = .ok (.aload_n 0, 1) := by decide +kernel
theorem d_Cv_multipleInto_79 : decode c_Cv_multipleInto 79 = .ok (.getfield 40, 3) := by decide +kernel
theorem d_Cv_multipleInto_82 : decode c_Cv_multipleInto 82 = .ok (.invokevirtual 74, 3) := by decide +kernel
theorem d_Cv_multipleInto_85 : decode c_Cv_multipleInto 85 = .ok (.iinc 4 (-1), 3) := by decide +kernel
theorem d_Cv_multipleInto_88 : decode c_Cv_multipleInto 88 = .ok (.goto (-73), 3) := by decide +kernel
theorem d_Cv_multipleInto_91 : decode c_Cv_multipleInto 91 = .ok (.aload_n 0, 1) := by decide +kernel
theorem d_Cv_multipleInto_92 : decode c_Cv_multipleInto 92 = .ok (.aload_n 0, 1) := by decide +kernel
theorem d_Cv_multipleInto_93 : decode c_Cv_multipleInto 93 = .ok (.getfield 34, 3) := by decide +kernel
theorem d_Cv_multipleInto_96 : decode c_Cv_multipleInto 96 = .ok (.aload_n 0, 1) := by decide +kernel
theorem d_Cv_multipleInto_97 : decode c_Cv_multipleInto 97 = .ok (.getfield 46, 3) := by decide +kernel
theorem d_Cv_multipleInto_100 : decode c_Cv_multipleInto 100 = .ok (.invokevirtual 78, 3) := by decide +kernel
theorem d_Cv_multipleInto_103 : decode c_Cv_multipleInto 103 = .ok (.aload_n 0, 1) := by decide +kernel
theorem d_Cv_multipleInto_104 : decode c_Cv_multipleInto 104 = .ok (.getfield 16, 3) := by decide +kernel
theorem d_Cv_multipleInto_107 : decode c_Cv_multipleInto 107 = .ok (.aload_n 0, 1) := by decide +kernel
theorem d_Cv_multipleInto_108 : decode c_Cv_multipleInto 108 = .ok (.getfield 30, 3) := by decide +kernel
theorem d_Cv_multipleInto_111 : decode c_Cv_multipleInto 111 = .ok (.aload_n 0, 1) := by decide +kernel
theorem d_Cv_multipleInto_112 : decode c_Cv_multipleInto 112 = .ok (.getfield 46, 3) := by decide +kernel
theorem d_Cv_multipleInto_115 : decode c_Cv_multipleInto 115 = .ok (.aload_n 0, 1) := by decide +kernel
theorem d_Cv_multipleInto_116 : decode c_Cv_multipleInto 116 = .ok (.getfield 46, 3) := by decide +kernel
theorem d_Cv_multipleInto_119 : decode c_Cv_multipleInto 119 = .ok (.invokevirtual 82, 3) := by decide +kernel
theorem d_Cv_multipleInto_122 : decode c_Cv_multipleInto 122 = .ok (.aload_n 0, 1) := by decide +kernel
theorem d_Cv_multipleInto_123 : decode c_Cv_multipleInto 123 = .ok (.getfield 16, 3) := by decide +kernel
theorem d_Cv_multipleInto_126 : decode c_Cv_multipleInto 126 = .ok (.aload_n 0, 1) := by decide +kernel
theorem d_Cv_multipleInto_127 : decode c_Cv_multipleInto 127 = .ok (.getfield 46, 3) := by decide +kernel
theorem d_Cv_multipleInto_130 : decode c_Cv_multipleInto 130 = .ok (.invokevirtual 86, 3) := by decide +kernel
theorem d_Cv_multipleInto_133 : decode c_Cv_multipleInto 133 = .ok (.aload_n 0, 1) := by decide +kernel
theorem d_Cv_multipleInto_134 : decode c_Cv_multipleInto 134 = .ok (.getfield 16, 3) := by decide +kernel
theorem d_Cv_multipleInto_137 : decode c_Cv_multipleInto 137 = .ok (.aload_n 0, 1) := by decide +kernel
theorem d_Cv_multipleInto_138 : decode c_Cv_multipleInto 138 = .ok (.getfield 46, 3) := by decide +kernel
theorem d_Cv_multipleInto_141 : decode c_Cv_multipleInto 141 = .ok (.aload_n 3, 1) := by decide +kernel
theorem d_Cv_multipleInto_142 : decode c_Cv_multipleInto 142 = .ok (.bipush 32, 2) := by decide +kernel
theorem d_Cv_multipleInto_144 : decode c_Cv_multipleInto 144 = .ok (.invokevirtual 90, 3) := by decide +kernel
theorem d_Cv_multipleInto_147 : decode c_Cv_multipleInto 147 = .ok (.return_, 1) := by decide +kernel
set_option maxRecDepth 100000 in
set_option maxHeartbeats 4000000 in
/-- MULTIPLE -/
theorem m_Cv_multipleInto (l : Launch) (G : wG) (A : Nat → Prop) (ad : Nat → Nat) (ev : Nat → va_E) (qt Nt : Nat) (K X T BY : Nat → Nat) (r20 r22 r23 r24 r25 r26 r27 r28 r29 r30 r31 r32 r33 : Row) (h18 : ev 18 = eO 0 [.ref (ad 19), .ref (ad 21), .ref (ad 22), .ref (ad 23), .ref (ad 24), .ref (ad 25), .ref (ad 26), .ref (ad 27), .ref (ad 28), .ref (ad 29), .ref (ad 30), .ref (ad 31), .ref (ad 32), .ref (ad 33)]) (h19 : ev 19 = eO 1 [.int (nI 10), .int (nI 21), .long 19, .long 608, .ref (ad 20)]) (hqt : qt < 52) (h1 : ev 1 = eB G 32 (bs K)) (h3 : ev 3 = eB G 32 (bs X)) (ht : ev qt = eB G Nt (bs T)) (hK : ∀ j, K j < 256) (hX : ∀ j, X j < 256) (nt : 32 ≤ Nt) (nt2 : Nt < 2 ^ 30) (tq : 33 < qt) (h20 : ev 20 = eJ G 20 r20) (h21 : ev 21 = eB G 32 (bs BY)) (h22 : ev 22 = eJ G 10 r22) (h23 : ev 23 = eJ G 10 r23) (h24 : ev 24 = eJ G 10 r24) (h25 : ev 25 = eJ G 10 r25) (h26 : ev 26 = eJ G 10 r26) (h27 : ev 27 = eJ G 10 r27) (h28 : ev 28 = eJ G 10 r28) (h29 : ev 29 = eJ G 10 r29) (h30 : ev 30 = eJ G 10 r30) (h31 : ev 31 = eJ G 10 r31) (h32 : ev 32 = eJ G 10 r32) (h33 : ev 33 = eJ G 10 r33) : wM l y_Cv_multipleInto w_Cv_multipleInto ({ frames := 18, cells := 0, slots := 0, locals := 600 }) G A 52 ad ev [.ref (ad 18), .ref (ad 1), .ref (ad 3), .ref (ad qt)] (fun ov ev' => ∃ (Wd s22 s23 s24 s25 s26 s27 s28 s29 s30 s31 s32 s33 : Row), ov = none ∧ ev' = (va_up (va_up (va_up (va_up (va_up (va_up (va_up (va_up (va_up (va_up (va_up (va_up (va_up (va_up (va_up ev 20 (eJ G 20 Wd)) 21 (eB G 32 (bs (KEYB K)))) 22 (eJ G 10 s22)) 23 (eJ G 10 s23)) 24 (eJ G 10 s24)) 25 (eJ G 10 s25)) 26 (eJ G 10 s26)) 27 (eJ G 10 s27)) 28 (eJ G 10 s28)) 29 (eJ G 10 s29)) 30 (eJ G 10 s30)) 31 (eJ G 10 s31)) 32 (eJ G 10 s32)) 33 (eJ G 10 s33)) qt (eB G Nt (bs (fil 0 32 (MULB K X) T))))) := by
  refine wv_ofW (cc := c_Cv_multipleInto) (maxL := 5) (ret := none) (by decide) rfl (Nat.le_of_ble_eq_true rfl) ?_
  intro p e s m below meth c ls hx hb hr hml hts hown hlocks hini h hl
  have hl : lv_has ls 5 [(0, .ref (ad 18)), (1, .ref (ad 1)), (2, .ref (ad 3)), (3, .ref (ad qt))] := hl
  refine lv_aload_n hx hb d_Cv_multipleInto_0 rfl (lv_at hl 0 rfl) ?_
  refine lv_aload_n hx hb d_Cv_multipleInto_1 rfl (lv_at hl 2 rfl) ?_
  refine wv_V (As := [.ref (ad 3)]) (rest := []) (k := 1) ⟨hx, hb, hml, hown, hts⟩ h 18 (by decide) (C := "NonceBox$Curve") h18 rfl (m_Cv_begin l G A ad ev 3 32 X BY r22 r23 r24 r25 r26 h18 h19 (by decide) h3 hX h21 h22 h23 h24 h25 h26 (by decide) (by decide) (by decide)) kc_Cv_begin kl_Cv_67 km_Cv_begin kv_Cv_begin ki_Cv (by decide +kernel) ⟨rfl, rfl, Nat.le_of_ble_eq_true rfl, Nat.le_of_ble_eq_true rfl⟩ hl.1 rfl rfl (Nat.le_of_ble_eq_true rfl) ⟨Nat.le_refl _, Nat.le_refl _⟩ d_Cv_multipleInto_2 ?_
  intro ov ev1 H locs hp h
  rw [hp.1]
  refine W.eq (g2 := F0 m 5 ls []) rfl ?_
  have o1 : ev1 = (va_up (va_up (va_up (va_up (va_up (va_up ev 21 (eB G 32 (bs (PNTB X)))) 26 (eJ G 10 (uRow X))) 22 (eJ G 10 (rowV 1))) 23 (eJ G 10 (rowV 0))) 24 (eJ G 10 (uRow X))) 25 (eJ G 10 (rowV 1))) := hp.2
  have t1_21 : ev1 21 = eB G 32 (bs (PNTB X)) := by rw [o1, va_up_ne _ _ (by decide), va_up_ne _ _ (by decide), va_up_ne _ _ (by decide), va_up_ne _ _ (by decide), va_up_ne _ _ (by decide), va_up_self]
  have t1_26 : ev1 26 = eJ G 10 (uRow X) := by rw [o1, va_up_ne _ _ (by decide), va_up_ne _ _ (by decide), va_up_ne _ _ (by decide), va_up_ne _ _ (by decide), va_up_self]
  have t1_22 : ev1 22 = eJ G 10 (rowV 1) := by rw [o1, va_up_ne _ _ (by decide), va_up_ne _ _ (by decide), va_up_ne _ _ (by decide), va_up_self]
  have t1_23 : ev1 23 = eJ G 10 (rowV 0) := by rw [o1, va_up_ne _ _ (by decide), va_up_ne _ _ (by decide), va_up_self]
  have t1_24 : ev1 24 = eJ G 10 (uRow X) := by rw [o1, va_up_ne _ _ (by decide), va_up_self]
  have t1_25 : ev1 25 = eJ G 10 (rowV 1) := by rw [o1, va_up_self]
  have t1_1 := (show ev1 1 = ev 1 by rw [o1, va_up_ne _ _ (by decide), va_up_ne _ _ (by decide), va_up_ne _ _ (by decide), va_up_ne _ _ (by decide), va_up_ne _ _ (by decide), va_up_ne _ _ (by decide)]).trans h1
  have t1_3 := (show ev1 3 = ev 3 by rw [o1, va_up_ne _ _ (by decide), va_up_ne _ _ (by decide), va_up_ne _ _ (by decide), va_up_ne _ _ (by decide), va_up_ne _ _ (by decide), va_up_ne _ _ (by decide)]).trans h3
  have t1_qt := (show ev1 qt = ev qt by rw [o1, va_up_ne _ _ (by omega), va_up_ne _ _ (by omega), va_up_ne _ _ (by omega), va_up_ne _ _ (by omega), va_up_ne _ _ (by omega), va_up_ne _ _ (by omega)]).trans ht
  have t1_20 := (show ev1 20 = ev 20 by rw [o1, va_up_ne _ _ (by decide), va_up_ne _ _ (by decide), va_up_ne _ _ (by decide), va_up_ne _ _ (by decide), va_up_ne _ _ (by decide), va_up_ne _ _ (by decide)]).trans h20
  have t1_27 := (show ev1 27 = ev 27 by rw [o1, va_up_ne _ _ (by decide), va_up_ne _ _ (by decide), va_up_ne _ _ (by decide), va_up_ne _ _ (by decide), va_up_ne _ _ (by decide), va_up_ne _ _ (by decide)]).trans h27
  have t1_28 := (show ev1 28 = ev 28 by rw [o1, va_up_ne _ _ (by decide), va_up_ne _ _ (by decide), va_up_ne _ _ (by decide), va_up_ne _ _ (by decide), va_up_ne _ _ (by decide), va_up_ne _ _ (by decide)]).trans h28
  have t1_29 := (show ev1 29 = ev 29 by rw [o1, va_up_ne _ _ (by decide), va_up_ne _ _ (by decide), va_up_ne _ _ (by decide), va_up_ne _ _ (by decide), va_up_ne _ _ (by decide), va_up_ne _ _ (by decide)]).trans h29
  have t1_30 := (show ev1 30 = ev 30 by rw [o1, va_up_ne _ _ (by decide), va_up_ne _ _ (by decide), va_up_ne _ _ (by decide), va_up_ne _ _ (by decide), va_up_ne _ _ (by decide), va_up_ne _ _ (by decide)]).trans h30
  have t1_31 := (show ev1 31 = ev 31 by rw [o1, va_up_ne _ _ (by decide), va_up_ne _ _ (by decide), va_up_ne _ _ (by decide), va_up_ne _ _ (by decide), va_up_ne _ _ (by decide), va_up_ne _ _ (by decide)]).trans h31
  have t1_32 := (show ev1 32 = ev 32 by rw [o1, va_up_ne _ _ (by decide), va_up_ne _ _ (by decide), va_up_ne _ _ (by decide), va_up_ne _ _ (by decide), va_up_ne _ _ (by decide), va_up_ne _ _ (by decide)]).trans h32
  have t1_33 := (show ev1 33 = ev 33 by rw [o1, va_up_ne _ _ (by decide), va_up_ne _ _ (by decide), va_up_ne _ _ (by decide), va_up_ne _ _ (by decide), va_up_ne _ _ (by decide), va_up_ne _ _ (by decide)]).trans h33
  have t1_18 := (show ev1 18 = ev 18 by rw [o1, va_up_ne _ _ (by decide), va_up_ne _ _ (by decide), va_up_ne _ _ (by decide), va_up_ne _ _ (by decide), va_up_ne _ _ (by decide), va_up_ne _ _ (by decide)]).trans h18
  have t1_19 := (show ev1 19 = ev 19 by rw [o1, va_up_ne _ _ (by decide), va_up_ne _ _ (by decide), va_up_ne _ _ (by decide), va_up_ne _ _ (by decide), va_up_ne _ _ (by decide), va_up_ne _ _ (by decide)]).trans h19
  refine lv_aload_n hx hb d_Cv_multipleInto_5 rfl (lv_at hl 0 rfl) ?_
  refine lv_aload_n hx hb d_Cv_multipleInto_6 rfl (lv_at hl 1 rfl) ?_
  refine wv_V (As := [.ref (ad 1)]) (rest := []) (k := 1) ⟨hx, hb, hml, hown, hts⟩ h 18 (by decide) (C := "NonceBox$Curve") t1_18 rfl (m_Cv_readKey l G A ad ev1 1 32 K (PNTB X) t1_18 (by decide) t1_1 hK t1_21 (by decide) (by decide) (by decide)) kc_Cv_readKey kl_Cv_71 km_Cv_readKey kv_Cv_readKey ki_Cv (by decide +kernel) ⟨rfl, rfl, Nat.le_of_ble_eq_true rfl, Nat.le_of_ble_eq_true rfl⟩ hl.1 rfl rfl (Nat.le_of_ble_eq_true rfl) ⟨Nat.le_refl _, Nat.le_refl _⟩ d_Cv_multipleInto_7 ?_
  intro ov ev2 H locs hp h
  rw [hp.1]
  refine W.eq (g2 := F0 m 10 ls []) rfl ?_
  have o2 : ev2 = (va_up ev1 21 (eB G 32 (bs (KEYB K)))) := hp.2
  have t2_21 : ev2 21 = eB G 32 (bs (KEYB K)) := by rw [o2, va_up_self]
  have t2_1 := (show ev2 1 = ev1 1 by rw [o2, va_up_ne _ _ (by decide)]).trans t1_1
  have t2_3 := (show ev2 3 = ev1 3 by rw [o2, va_up_ne _ _ (by decide)]).trans t1_3
  have t2_qt := (show ev2 qt = ev1 qt by rw [o2, va_up_ne _ _ (by omega)]).trans t1_qt
  have t2_20 := (show ev2 20 = ev1 20 by rw [o2, va_up_ne _ _ (by decide)]).trans t1_20
  have t2_22 := (show ev2 22 = ev1 22 by rw [o2, va_up_ne _ _ (by decide)]).trans t1_22
  have t2_23 := (show ev2 23 = ev1 23 by rw [o2, va_up_ne _ _ (by decide)]).trans t1_23
  have t2_24 := (show ev2 24 = ev1 24 by rw [o2, va_up_ne _ _ (by decide)]).trans t1_24
  have t2_25 := (show ev2 25 = ev1 25 by rw [o2, va_up_ne _ _ (by decide)]).trans t1_25
  have t2_26 := (show ev2 26 = ev1 26 by rw [o2, va_up_ne _ _ (by decide)]).trans t1_26
  have t2_27 := (show ev2 27 = ev1 27 by rw [o2, va_up_ne _ _ (by decide)]).trans t1_27
  have t2_28 := (show ev2 28 = ev1 28 by rw [o2, va_up_ne _ _ (by decide)]).trans t1_28
  have t2_29 := (show ev2 29 = ev1 29 by rw [o2, va_up_ne _ _ (by decide)]).trans t1_29
  have t2_30 := (show ev2 30 = ev1 30 by rw [o2, va_up_ne _ _ (by decide)]).trans t1_30
  have t2_31 := (show ev2 31 = ev1 31 by rw [o2, va_up_ne _ _ (by decide)]).trans t1_31
  have t2_32 := (show ev2 32 = ev1 32 by rw [o2, va_up_ne _ _ (by decide)]).trans t1_32
  have t2_33 := (show ev2 33 = ev1 33 by rw [o2, va_up_ne _ _ (by decide)]).trans t1_33
  have t2_18 := (show ev2 18 = ev1 18 by rw [o2, va_up_ne _ _ (by decide)]).trans t1_18
  have t2_19 := (show ev2 19 = ev1 19 by rw [o2, va_up_ne _ _ (by decide)]).trans t1_19
  refine lv_sipush (v := nI (254)) hx hb d_Cv_multipleInto_10 (by decide) ?_
  refine lv_istore (lv' := [(4, .int (nI (254))), (0, .ref (ad 18)), (1, .ref (ad 1)), (2, .ref (ad 3)), (3, .ref (ad qt))]) hx hb d_Cv_multipleInto_13 hl (by decide) rfl (fun ls hl => ?_)
  rw [show nI 254 = dn 255 from rfl] at hl
  have loop3 : ∀ (d k : Nat), k + d = 255 → ∀ (Wd s27 s28 s29 s30 s31 s32 s33 : Row),  ∀ (ev3 : Nat → va_E) (H : Heap) (locs : List Loc) (ls : Array Slot), ev3 = (va_up (va_up (va_up (va_up (va_up (va_up (va_up (va_up (va_up (va_up (va_up (va_up ev2 20 (eJ G 20 Wd)) 27 (eJ G 10 s27)) 28 (eJ G 10 s28)) 29 (eJ G 10 s29)) 30 (eJ G 10 s30)) 31 (eJ G 10 s31)) 32 (eJ G 10 s32)) 33 (eJ G 10 s33)) 22 (eJ G 10 (lad (uRow X) (KEYB K) k).1)) 23 (eJ G 10 (lad (uRow X) (KEYB K) k).2.1)) 24 (eJ G 10 (lad (uRow X) (KEYB K) k).2.2.1)) 25 (eJ G 10 (lad (uRow X) (KEYB K) k).2.2.2)) → wT G A 52 ad ev3 s H locs → lv_has ls 5 [(4, .int (dn d)), (0, .ref (ad 18)), (1, .ref (ad 1)), (2, .ref (ad 3)), (3, .ref (ad qt))] → W p l e ({ frames := 18, cells := 0, slots := 0, locals := 600 }) s m ([.ref (ad 18), .ref (ad 1), .ref (ad 3), .ref (ad qt)] : List Value).toArray below meth c H locs 0 0 (MQ below (wQc G A 52 ad (fun ov ev' => ∃ (Wd s22 s23 s24 s25 s26 s27 s28 s29 s30 s31 s32 s33 : Row), ov = none ∧ ev' = (va_up (va_up (va_up (va_up (va_up (va_up (va_up (va_up (va_up (va_up (va_up (va_up (va_up (va_up (va_up ev 20 (eJ G 20 Wd)) 21 (eB G 32 (bs (KEYB K)))) 22 (eJ G 10 s22)) 23 (eJ G 10 s23)) 24 (eJ G 10 s24)) 25 (eJ G 10 s25)) 26 (eJ G 10 s26)) 27 (eJ G 10 s27)) 28 (eJ G 10 s28)) 29 (eJ G 10 s29)) 30 (eJ G 10 s30)) 31 (eJ G 10 s31)) 32 (eJ G 10 s32)) 33 (eJ G 10 s33)) qt (eB G Nt (bs (fil 0 32 (MULB K X) T)))))) ([.ref (ad 18), .ref (ad 1), .ref (ad 3), .ref (ad qt)] : List Value).toArray s 0 0 A) (F0 m 15 ls []) := by
    intro d
    induction d with
    | zero =>
      intro k hk_k Wd s27 s28 s29 s30 s31 s32 s33 ev3 H locs ls  o3 h hl
      have hl : lv_has ls 5 [(4, .int ((-1 : Int32))), (0, .ref (ad 18)), (1, .ref (ad 1)), (2, .ref (ad 3)), (3, .ref (ad qt))] := hl
      have t3_20 : ev3 20 = eJ G 20 Wd := by rw [o3, va_up_ne _ _ (by decide), va_up_ne _ _ (by decide), va_up_ne _ _ (by decide), va_up_ne _ _ (by decide), va_up_ne _ _ (by decide), va_up_ne _ _ (by decide), va_up_ne _ _ (by decide), va_up_ne _ _ (by decide), va_up_ne _ _ (by decide), va_up_ne _ _ (by decide), va_up_ne _ _ (by decide), va_up_self]
      have t3_27 : ev3 27 = eJ G 10 s27 := by rw [o3, va_up_ne _ _ (by decide), va_up_ne _ _ (by decide), va_up_ne _ _ (by decide), va_up_ne _ _ (by decide), va_up_ne _ _ (by decide), va_up_ne _ _ (by decide), va_up_ne _ _ (by decide), va_up_ne _ _ (by decide), va_up_ne _ _ (by decide), va_up_ne _ _ (by decide), va_up_self]
      have t3_28 : ev3 28 = eJ G 10 s28 := by rw [o3, va_up_ne _ _ (by decide), va_up_ne _ _ (by decide), va_up_ne _ _ (by decide), va_up_ne _ _ (by decide), va_up_ne _ _ (by decide), va_up_ne _ _ (by decide), va_up_ne _ _ (by decide), va_up_ne _ _ (by decide), va_up_ne _ _ (by decide), va_up_self]
      have t3_29 : ev3 29 = eJ G 10 s29 := by rw [o3, va_up_ne _ _ (by decide), va_up_ne _ _ (by decide), va_up_ne _ _ (by decide), va_up_ne _ _ (by decide), va_up_ne _ _ (by decide), va_up_ne _ _ (by decide), va_up_ne _ _ (by decide), va_up_ne _ _ (by decide), va_up_self]
      have t3_30 : ev3 30 = eJ G 10 s30 := by rw [o3, va_up_ne _ _ (by decide), va_up_ne _ _ (by decide), va_up_ne _ _ (by decide), va_up_ne _ _ (by decide), va_up_ne _ _ (by decide), va_up_ne _ _ (by decide), va_up_ne _ _ (by decide), va_up_self]
      have t3_31 : ev3 31 = eJ G 10 s31 := by rw [o3, va_up_ne _ _ (by decide), va_up_ne _ _ (by decide), va_up_ne _ _ (by decide), va_up_ne _ _ (by decide), va_up_ne _ _ (by decide), va_up_ne _ _ (by decide), va_up_self]
      have t3_32 : ev3 32 = eJ G 10 s32 := by rw [o3, va_up_ne _ _ (by decide), va_up_ne _ _ (by decide), va_up_ne _ _ (by decide), va_up_ne _ _ (by decide), va_up_ne _ _ (by decide), va_up_self]
      have t3_33 : ev3 33 = eJ G 10 s33 := by rw [o3, va_up_ne _ _ (by decide), va_up_ne _ _ (by decide), va_up_ne _ _ (by decide), va_up_ne _ _ (by decide), va_up_self]
      have t3_22 : ev3 22 = eJ G 10 (lad (uRow X) (KEYB K) k).1 := by rw [o3, va_up_ne _ _ (by decide), va_up_ne _ _ (by decide), va_up_ne _ _ (by decide), va_up_self]
      have t3_23 : ev3 23 = eJ G 10 (lad (uRow X) (KEYB K) k).2.1 := by rw [o3, va_up_ne _ _ (by decide), va_up_ne _ _ (by decide), va_up_self]
      have t3_24 : ev3 24 = eJ G 10 (lad (uRow X) (KEYB K) k).2.2.1 := by rw [o3, va_up_ne _ _ (by decide), va_up_self]
      have t3_25 : ev3 25 = eJ G 10 (lad (uRow X) (KEYB K) k).2.2.2 := by rw [o3, va_up_self]
      have t3_1 := (show ev3 1 = ev2 1 by rw [o3, va_up_ne _ _ (by decide), va_up_ne _ _ (by decide), va_up_ne _ _ (by decide), va_up_ne _ _ (by decide), va_up_ne _ _ (by decide), va_up_ne _ _ (by decide), va_up_ne _ _ (by decide), va_up_ne _ _ (by decide), va_up_ne _ _ (by decide), va_up_ne _ _ (by decide), va_up_ne _ _ (by decide), va_up_ne _ _ (by decide)]).trans t2_1
      have t3_3 := (show ev3 3 = ev2 3 by rw [o3, va_up_ne _ _ (by decide), va_up_ne _ _ (by decide), va_up_ne _ _ (by decide), va_up_ne _ _ (by decide), va_up_ne _ _ (by decide), va_up_ne _ _ (by decide), va_up_ne _ _ (by decide), va_up_ne _ _ (by decide), va_up_ne _ _ (by decide), va_up_ne _ _ (by decide), va_up_ne _ _ (by decide), va_up_ne _ _ (by decide)]).trans t2_3
      have t3_qt := (show ev3 qt = ev2 qt by rw [o3, va_up_ne _ _ (by omega), va_up_ne _ _ (by omega), va_up_ne _ _ (by omega), va_up_ne _ _ (by omega), va_up_ne _ _ (by omega), va_up_ne _ _ (by omega), va_up_ne _ _ (by omega), va_up_ne _ _ (by omega), va_up_ne _ _ (by omega), va_up_ne _ _ (by omega), va_up_ne _ _ (by omega), va_up_ne _ _ (by omega)]).trans t2_qt
      have t3_21 := (show ev3 21 = ev2 21 by rw [o3, va_up_ne _ _ (by decide), va_up_ne _ _ (by decide), va_up_ne _ _ (by decide), va_up_ne _ _ (by decide), va_up_ne _ _ (by decide), va_up_ne _ _ (by decide), va_up_ne _ _ (by decide), va_up_ne _ _ (by decide), va_up_ne _ _ (by decide), va_up_ne _ _ (by decide), va_up_ne _ _ (by decide), va_up_ne _ _ (by decide)]).trans t2_21
      have t3_26 := (show ev3 26 = ev2 26 by rw [o3, va_up_ne _ _ (by decide), va_up_ne _ _ (by decide), va_up_ne _ _ (by decide), va_up_ne _ _ (by decide), va_up_ne _ _ (by decide), va_up_ne _ _ (by decide), va_up_ne _ _ (by decide), va_up_ne _ _ (by decide), va_up_ne _ _ (by decide), va_up_ne _ _ (by decide), va_up_ne _ _ (by decide), va_up_ne _ _ (by decide)]).trans t2_26
      have t3_18 := (show ev3 18 = ev2 18 by rw [o3, va_up_ne _ _ (by decide), va_up_ne _ _ (by decide), va_up_ne _ _ (by decide), va_up_ne _ _ (by decide), va_up_ne _ _ (by decide), va_up_ne _ _ (by decide), va_up_ne _ _ (by decide), va_up_ne _ _ (by decide), va_up_ne _ _ (by decide), va_up_ne _ _ (by decide), va_up_ne _ _ (by decide), va_up_ne _ _ (by decide)]).trans t2_18
      have t3_19 := (show ev3 19 = ev2 19 by rw [o3, va_up_ne _ _ (by decide), va_up_ne _ _ (by decide), va_up_ne _ _ (by decide), va_up_ne _ _ (by decide), va_up_ne _ _ (by decide), va_up_ne _ _ (by decide), va_up_ne _ _ (by decide), va_up_ne _ _ (by decide), va_up_ne _ _ (by decide), va_up_ne _ _ (by decide), va_up_ne _ _ (by decide), va_up_ne _ _ (by decide)]).trans t2_19
      refine lv_iload hx hb d_Cv_multipleInto_15 (lv_at hl 0 rfl) ?_
      refine lv_if_lt (tgt := 91) hx hb d_Cv_multipleInto_17 (by decide) (fun _ => ?_) (fun hc => absurd (by decide) hc)
      obtain rfl : k = 255 := by omega
      refine lv_aload_n hx hb d_Cv_multipleInto_91 rfl (lv_at hl 1 rfl) ?_
      refine lv_aload_n hx hb d_Cv_multipleInto_92 rfl (lv_at hl 1 rfl) ?_
      refine wv_getf hx hb h 18 (by decide) (fs := [.ref (ad 19), .ref (ad 21), .ref (ad 22), .ref (ad 23), .ref (ad 24), .ref (ad 25), .ref (ad 26), .ref (ad 27), .ref (ad 28), .ref (ad 29), .ref (ad 30), .ref (ad 31), .ref (ad 32), .ref (ad 33)]) t3_18 hts (fun w hw => List.mem_cons_of_mem _ (fW_Cv w hw)) hown (ci := 0) (C := "NonceBox$Curve") (T := fT_Cv) (N := 14) rfl 3 (by decide) (hts _ (List.mem_cons_of_mem _ kf_Cv_34)) rfl (v := .ref (ad 23)) rfl d_Cv_multipleInto_93 ?_
      refine lv_aload_n hx hb d_Cv_multipleInto_96 rfl (lv_at hl 1 rfl) ?_
      refine wv_getf hx hb h 18 (by decide) (fs := [.ref (ad 19), .ref (ad 21), .ref (ad 22), .ref (ad 23), .ref (ad 24), .ref (ad 25), .ref (ad 26), .ref (ad 27), .ref (ad 28), .ref (ad 29), .ref (ad 30), .ref (ad 31), .ref (ad 32), .ref (ad 33)]) t3_18 hts (fun w hw => List.mem_cons_of_mem _ (fW_Cv w hw)) hown (ci := 0) (C := "NonceBox$Curve") (T := fT_Cv) (N := 14) rfl 7 (by decide) (hts _ (List.mem_cons_of_mem _ kf_Cv_46)) rfl (v := .ref (ad 27)) rfl d_Cv_multipleInto_97 ?_
      refine wv_V (As := [.ref (ad 23), .ref (ad 27)]) (rest := []) (k := 2) ⟨hx, hb, hml, hown, hts⟩ h 18 (by decide) (C := "NonceBox$Curve") t3_18 rfl (m_Cv_invert l G A ad ev3 (lad (uRow X) (KEYB K) 255).2.1 s27 Wd t3_18 t3_19 t3_20 t3_23 t3_27) kc_Cv_invert kl_Cv_78 km_Cv_invert kv_Cv_invert ki_Cv (by decide +kernel) ⟨rfl, rfl, Nat.le_of_ble_eq_true rfl, Nat.le_of_ble_eq_true rfl⟩ hl.1 rfl rfl (Nat.le_of_ble_eq_true rfl) ⟨Nat.le_refl _, Nat.le_refl _⟩ d_Cv_multipleInto_100 ?_
      intro ov ev4 H locs hp h
      obtain ⟨W2, hp⟩ := hp
      rw [hp.1]
      refine W.eq (g2 := F0 m 103 ls []) rfl ?_
      have o4 : ev4 = (va_up (va_up ev3 20 (eJ G 20 W2)) 27 (eJ G 10 (ivS (lad (uRow X) (KEYB K) 255).2.1 254))) := hp.2
      have t4_20 : ev4 20 = eJ G 20 W2 := by rw [o4, va_up_ne _ _ (by decide), va_up_self]
      have t4_27 : ev4 27 = eJ G 10 (ivS (lad (uRow X) (KEYB K) 255).2.1 254) := by rw [o4, va_up_self]
      have t4_1 := (show ev4 1 = ev3 1 by rw [o4, va_up_ne _ _ (by decide), va_up_ne _ _ (by decide)]).trans t3_1
      have t4_3 := (show ev4 3 = ev3 3 by rw [o4, va_up_ne _ _ (by decide), va_up_ne _ _ (by decide)]).trans t3_3
      have t4_qt := (show ev4 qt = ev3 qt by rw [o4, va_up_ne _ _ (by omega), va_up_ne _ _ (by omega)]).trans t3_qt
      have t4_21 := (show ev4 21 = ev3 21 by rw [o4, va_up_ne _ _ (by decide), va_up_ne _ _ (by decide)]).trans t3_21
      have t4_22 := (show ev4 22 = ev3 22 by rw [o4, va_up_ne _ _ (by decide), va_up_ne _ _ (by decide)]).trans t3_22
      have t4_23 := (show ev4 23 = ev3 23 by rw [o4, va_up_ne _ _ (by decide), va_up_ne _ _ (by decide)]).trans t3_23
      have t4_24 := (show ev4 24 = ev3 24 by rw [o4, va_up_ne _ _ (by decide), va_up_ne _ _ (by decide)]).trans t3_24
      have t4_25 := (show ev4 25 = ev3 25 by rw [o4, va_up_ne _ _ (by decide), va_up_ne _ _ (by decide)]).trans t3_25
      have t4_26 := (show ev4 26 = ev3 26 by rw [o4, va_up_ne _ _ (by decide), va_up_ne _ _ (by decide)]).trans t3_26
      have t4_28 := (show ev4 28 = ev3 28 by rw [o4, va_up_ne _ _ (by decide), va_up_ne _ _ (by decide)]).trans t3_28
      have t4_29 := (show ev4 29 = ev3 29 by rw [o4, va_up_ne _ _ (by decide), va_up_ne _ _ (by decide)]).trans t3_29
      have t4_30 := (show ev4 30 = ev3 30 by rw [o4, va_up_ne _ _ (by decide), va_up_ne _ _ (by decide)]).trans t3_30
      have t4_31 := (show ev4 31 = ev3 31 by rw [o4, va_up_ne _ _ (by decide), va_up_ne _ _ (by decide)]).trans t3_31
      have t4_32 := (show ev4 32 = ev3 32 by rw [o4, va_up_ne _ _ (by decide), va_up_ne _ _ (by decide)]).trans t3_32
      have t4_33 := (show ev4 33 = ev3 33 by rw [o4, va_up_ne _ _ (by decide), va_up_ne _ _ (by decide)]).trans t3_33
      have t4_18 := (show ev4 18 = ev3 18 by rw [o4, va_up_ne _ _ (by decide), va_up_ne _ _ (by decide)]).trans t3_18
      have t4_19 := (show ev4 19 = ev3 19 by rw [o4, va_up_ne _ _ (by decide), va_up_ne _ _ (by decide)]).trans t3_19
      refine lv_aload_n hx hb d_Cv_multipleInto_103 rfl (lv_at hl 1 rfl) ?_
      refine wv_getf hx hb h 18 (by decide) (fs := [.ref (ad 19), .ref (ad 21), .ref (ad 22), .ref (ad 23), .ref (ad 24), .ref (ad 25), .ref (ad 26), .ref (ad 27), .ref (ad 28), .ref (ad 29), .ref (ad 30), .ref (ad 31), .ref (ad 32), .ref (ad 33)]) t4_18 hts (fun w hw => List.mem_cons_of_mem _ (fW_Cv w hw)) hown (ci := 0) (C := "NonceBox$Curve") (T := fT_Cv) (N := 14) rfl 0 (by decide) (hts _ (List.mem_cons_of_mem _ kf_Cv_16)) rfl (v := .ref (ad 19)) rfl d_Cv_multipleInto_104 ?_
      refine lv_aload_n hx hb d_Cv_multipleInto_107 rfl (lv_at hl 1 rfl) ?_
      refine wv_getf hx hb h 18 (by decide) (fs := [.ref (ad 19), .ref (ad 21), .ref (ad 22), .ref (ad 23), .ref (ad 24), .ref (ad 25), .ref (ad 26), .ref (ad 27), .ref (ad 28), .ref (ad 29), .ref (ad 30), .ref (ad 31), .ref (ad 32), .ref (ad 33)]) t4_18 hts (fun w hw => List.mem_cons_of_mem _ (fW_Cv w hw)) hown (ci := 0) (C := "NonceBox$Curve") (T := fT_Cv) (N := 14) rfl 2 (by decide) (hts _ (List.mem_cons_of_mem _ kf_Cv_30)) rfl (v := .ref (ad 22)) rfl d_Cv_multipleInto_108 ?_
      refine lv_aload_n hx hb d_Cv_multipleInto_111 rfl (lv_at hl 1 rfl) ?_
      refine wv_getf hx hb h 18 (by decide) (fs := [.ref (ad 19), .ref (ad 21), .ref (ad 22), .ref (ad 23), .ref (ad 24), .ref (ad 25), .ref (ad 26), .ref (ad 27), .ref (ad 28), .ref (ad 29), .ref (ad 30), .ref (ad 31), .ref (ad 32), .ref (ad 33)]) t4_18 hts (fun w hw => List.mem_cons_of_mem _ (fW_Cv w hw)) hown (ci := 0) (C := "NonceBox$Curve") (T := fT_Cv) (N := 14) rfl 7 (by decide) (hts _ (List.mem_cons_of_mem _ kf_Cv_46)) rfl (v := .ref (ad 27)) rfl d_Cv_multipleInto_112 ?_
      refine lv_aload_n hx hb d_Cv_multipleInto_115 rfl (lv_at hl 1 rfl) ?_
      refine wv_getf hx hb h 18 (by decide) (fs := [.ref (ad 19), .ref (ad 21), .ref (ad 22), .ref (ad 23), .ref (ad 24), .ref (ad 25), .ref (ad 26), .ref (ad 27), .ref (ad 28), .ref (ad 29), .ref (ad 30), .ref (ad 31), .ref (ad 32), .ref (ad 33)]) t4_18 hts (fun w hw => List.mem_cons_of_mem _ (fW_Cv w hw)) hown (ci := 0) (C := "NonceBox$Curve") (T := fT_Cv) (N := 14) rfl 7 (by decide) (hts _ (List.mem_cons_of_mem _ kf_Cv_46)) rfl (v := .ref (ad 27)) rfl d_Cv_multipleInto_116 ?_
      refine wv_V (As := [.ref (ad 22), .ref (ad 27), .ref (ad 27)]) (rest := []) (k := 3) ⟨hx, hb, hml, hown, hts⟩ h 19 (by decide) (C := "NonceBox$Field") t4_19 rfl (m_Fd_times l G A ad ev4 19 20 10 21 19 608 (by decide) t4_19 (by decide) (by decide) 22 27 27 (lad (uRow X) (KEYB K) 255).1 (ivS (lad (uRow X) (KEYB K) 255).2.1 254) (ivS (lad (uRow X) (KEYB K) 255).2.1 254) W2 (by decide) (by decide) (by decide) (by decide) t4_22 t4_27 t4_27 t4_20 (by decide) (by decide) (by decide) (by decide) (by decide)) kc_Fd_times kl_Cv_82 km_Fd_times kv_Fd_times ki_Fd (by decide +kernel) ⟨rfl, rfl, Nat.le_of_ble_eq_true rfl, Nat.le_of_ble_eq_true rfl⟩ hl.1 rfl rfl (Nat.le_of_ble_eq_true rfl) ⟨Nat.le_refl _, Nat.le_refl _⟩ d_Cv_multipleInto_119 ?_
      intro ov ev5 H locs hp h
      rw [hp.1]
      refine W.eq (g2 := F0 m 122 ls []) rfl ?_
      have o5 : ev5 = (va_up (va_up ev4 20 (eJ G 20 (wdC (lad (uRow X) (KEYB K) 255).1 (ivS (lad (uRow X) (KEYB K) 255).2.1 254) 10))) 27 (eJ G 10 (tm (lad (uRow X) (KEYB K) 255).1 (ivS (lad (uRow X) (KEYB K) 255).2.1 254)))) := hp.2
      have t5_20 : ev5 20 = eJ G 20 (wdC (lad (uRow X) (KEYB K) 255).1 (ivS (lad (uRow X) (KEYB K) 255).2.1 254) 10) := by rw [o5, va_up_ne _ _ (by decide), va_up_self]
      have t5_27 : ev5 27 = eJ G 10 (tm (lad (uRow X) (KEYB K) 255).1 (ivS (lad (uRow X) (KEYB K) 255).2.1 254)) := by rw [o5, va_up_self]
      have t5_1 := (show ev5 1 = ev4 1 by rw [o5, va_up_ne _ _ (by decide), va_up_ne _ _ (by decide)]).trans t4_1
      have t5_3 := (show ev5 3 = ev4 3 by rw [o5, va_up_ne _ _ (by decide), va_up_ne _ _ (by decide)]).trans t4_3
      have t5_qt := (show ev5 qt = ev4 qt by rw [o5, va_up_ne _ _ (by omega), va_up_ne _ _ (by omega)]).trans t4_qt
      have t5_21 := (show ev5 21 = ev4 21 by rw [o5, va_up_ne _ _ (by decide), va_up_ne _ _ (by decide)]).trans t4_21
      have t5_22 := (show ev5 22 = ev4 22 by rw [o5, va_up_ne _ _ (by decide), va_up_ne _ _ (by decide)]).trans t4_22
      have t5_23 := (show ev5 23 = ev4 23 by rw [o5, va_up_ne _ _ (by decide), va_up_ne _ _ (by decide)]).trans t4_23
      have t5_24 := (show ev5 24 = ev4 24 by rw [o5, va_up_ne _ _ (by decide), va_up_ne _ _ (by decide)]).trans t4_24
      have t5_25 := (show ev5 25 = ev4 25 by rw [o5, va_up_ne _ _ (by decide), va_up_ne _ _ (by decide)]).trans t4_25
      have t5_26 := (show ev5 26 = ev4 26 by rw [o5, va_up_ne _ _ (by decide), va_up_ne _ _ (by decide)]).trans t4_26
      have t5_28 := (show ev5 28 = ev4 28 by rw [o5, va_up_ne _ _ (by decide), va_up_ne _ _ (by decide)]).trans t4_28
      have t5_29 := (show ev5 29 = ev4 29 by rw [o5, va_up_ne _ _ (by decide), va_up_ne _ _ (by decide)]).trans t4_29
      have t5_30 := (show ev5 30 = ev4 30 by rw [o5, va_up_ne _ _ (by decide), va_up_ne _ _ (by decide)]).trans t4_30
      have t5_31 := (show ev5 31 = ev4 31 by rw [o5, va_up_ne _ _ (by decide), va_up_ne _ _ (by decide)]).trans t4_31
      have t5_32 := (show ev5 32 = ev4 32 by rw [o5, va_up_ne _ _ (by decide), va_up_ne _ _ (by decide)]).trans t4_32
      have t5_33 := (show ev5 33 = ev4 33 by rw [o5, va_up_ne _ _ (by decide), va_up_ne _ _ (by decide)]).trans t4_33
      have t5_18 := (show ev5 18 = ev4 18 by rw [o5, va_up_ne _ _ (by decide), va_up_ne _ _ (by decide)]).trans t4_18
      have t5_19 := (show ev5 19 = ev4 19 by rw [o5, va_up_ne _ _ (by decide), va_up_ne _ _ (by decide)]).trans t4_19
      refine lv_aload_n hx hb d_Cv_multipleInto_122 rfl (lv_at hl 1 rfl) ?_
      refine wv_getf hx hb h 18 (by decide) (fs := [.ref (ad 19), .ref (ad 21), .ref (ad 22), .ref (ad 23), .ref (ad 24), .ref (ad 25), .ref (ad 26), .ref (ad 27), .ref (ad 28), .ref (ad 29), .ref (ad 30), .ref (ad 31), .ref (ad 32), .ref (ad 33)]) t5_18 hts (fun w hw => List.mem_cons_of_mem _ (fW_Cv w hw)) hown (ci := 0) (C := "NonceBox$Curve") (T := fT_Cv) (N := 14) rfl 0 (by decide) (hts _ (List.mem_cons_of_mem _ kf_Cv_16)) rfl (v := .ref (ad 19)) rfl d_Cv_multipleInto_123 ?_
      refine lv_aload_n hx hb d_Cv_multipleInto_126 rfl (lv_at hl 1 rfl) ?_
      refine wv_getf hx hb h 18 (by decide) (fs := [.ref (ad 19), .ref (ad 21), .ref (ad 22), .ref (ad 23), .ref (ad 24), .ref (ad 25), .ref (ad 26), .ref (ad 27), .ref (ad 28), .ref (ad 29), .ref (ad 30), .ref (ad 31), .ref (ad 32), .ref (ad 33)]) t5_18 hts (fun w hw => List.mem_cons_of_mem _ (fW_Cv w hw)) hown (ci := 0) (C := "NonceBox$Curve") (T := fT_Cv) (N := 14) rfl 7 (by decide) (hts _ (List.mem_cons_of_mem _ kf_Cv_46)) rfl (v := .ref (ad 27)) rfl d_Cv_multipleInto_127 ?_
      refine wv_V (As := [.ref (ad 27)]) (rest := []) (k := 1) ⟨hx, hb, hml, hown, hts⟩ h 19 (by decide) (C := "NonceBox$Field") t5_19 rfl (m_Fd_settle l G A ad ev5 19 20 10 21 19 608 (by decide) t5_19 (by decide) (by decide) 27 (tm (lad (uRow X) (KEYB K) 255).1 (ivS (lad (uRow X) (KEYB K) 255).2.1 254)) (by decide) t5_27 (by decide)) kc_Fd_settle kl_Cv_86 km_Fd_settle kv_Fd_settle ki_Fd (by decide +kernel) ⟨rfl, rfl, Nat.le_of_ble_eq_true rfl, Nat.le_of_ble_eq_true rfl⟩ hl.1 rfl rfl (Nat.le_of_ble_eq_true rfl) ⟨Nat.le_refl _, Nat.le_refl _⟩ d_Cv_multipleInto_130 ?_
      intro ov ev6 H locs hp h
      rw [hp.1]
      refine W.eq (g2 := F0 m 133 ls []) rfl ?_
      have o6 : ev6 = (va_up ev5 27 (eJ G 10 (mulRow K X))) := hp.2
      have t6_27 : ev6 27 = eJ G 10 (mulRow K X) := by rw [o6, va_up_self]
      have t6_1 := (show ev6 1 = ev5 1 by rw [o6, va_up_ne _ _ (by decide)]).trans t5_1
      have t6_3 := (show ev6 3 = ev5 3 by rw [o6, va_up_ne _ _ (by decide)]).trans t5_3
      have t6_qt := (show ev6 qt = ev5 qt by rw [o6, va_up_ne _ _ (by omega)]).trans t5_qt
      have t6_20 := (show ev6 20 = ev5 20 by rw [o6, va_up_ne _ _ (by decide)]).trans t5_20
      have t6_21 := (show ev6 21 = ev5 21 by rw [o6, va_up_ne _ _ (by decide)]).trans t5_21
      have t6_22 := (show ev6 22 = ev5 22 by rw [o6, va_up_ne _ _ (by decide)]).trans t5_22
      have t6_23 := (show ev6 23 = ev5 23 by rw [o6, va_up_ne _ _ (by decide)]).trans t5_23
      have t6_24 := (show ev6 24 = ev5 24 by rw [o6, va_up_ne _ _ (by decide)]).trans t5_24
      have t6_25 := (show ev6 25 = ev5 25 by rw [o6, va_up_ne _ _ (by decide)]).trans t5_25
      have t6_26 := (show ev6 26 = ev5 26 by rw [o6, va_up_ne _ _ (by decide)]).trans t5_26
      have t6_28 := (show ev6 28 = ev5 28 by rw [o6, va_up_ne _ _ (by decide)]).trans t5_28
      have t6_29 := (show ev6 29 = ev5 29 by rw [o6, va_up_ne _ _ (by decide)]).trans t5_29
      have t6_30 := (show ev6 30 = ev5 30 by rw [o6, va_up_ne _ _ (by decide)]).trans t5_30
      have t6_31 := (show ev6 31 = ev5 31 by rw [o6, va_up_ne _ _ (by decide)]).trans t5_31
      have t6_32 := (show ev6 32 = ev5 32 by rw [o6, va_up_ne _ _ (by decide)]).trans t5_32
      have t6_33 := (show ev6 33 = ev5 33 by rw [o6, va_up_ne _ _ (by decide)]).trans t5_33
      have t6_18 := (show ev6 18 = ev5 18 by rw [o6, va_up_ne _ _ (by decide)]).trans t5_18
      have t6_19 := (show ev6 19 = ev5 19 by rw [o6, va_up_ne _ _ (by decide)]).trans t5_19
      refine lv_aload_n hx hb d_Cv_multipleInto_133 rfl (lv_at hl 1 rfl) ?_
      refine wv_getf hx hb h 18 (by decide) (fs := [.ref (ad 19), .ref (ad 21), .ref (ad 22), .ref (ad 23), .ref (ad 24), .ref (ad 25), .ref (ad 26), .ref (ad 27), .ref (ad 28), .ref (ad 29), .ref (ad 30), .ref (ad 31), .ref (ad 32), .ref (ad 33)]) t6_18 hts (fun w hw => List.mem_cons_of_mem _ (fW_Cv w hw)) hown (ci := 0) (C := "NonceBox$Curve") (T := fT_Cv) (N := 14) rfl 0 (by decide) (hts _ (List.mem_cons_of_mem _ kf_Cv_16)) rfl (v := .ref (ad 19)) rfl d_Cv_multipleInto_134 ?_
      refine lv_aload_n hx hb d_Cv_multipleInto_137 rfl (lv_at hl 1 rfl) ?_
      refine wv_getf hx hb h 18 (by decide) (fs := [.ref (ad 19), .ref (ad 21), .ref (ad 22), .ref (ad 23), .ref (ad 24), .ref (ad 25), .ref (ad 26), .ref (ad 27), .ref (ad 28), .ref (ad 29), .ref (ad 30), .ref (ad 31), .ref (ad 32), .ref (ad 33)]) t6_18 hts (fun w hw => List.mem_cons_of_mem _ (fW_Cv w hw)) hown (ci := 0) (C := "NonceBox$Curve") (T := fT_Cv) (N := 14) rfl 7 (by decide) (hts _ (List.mem_cons_of_mem _ kf_Cv_46)) rfl (v := .ref (ad 27)) rfl d_Cv_multipleInto_138 ?_
      refine lv_aload_n hx hb d_Cv_multipleInto_141 rfl (lv_at hl 4 rfl) ?_
      refine lv_bipush (v := nI (32)) hx hb d_Cv_multipleInto_142 (by decide) ?_
      refine wv_V (As := [.ref (ad 27), .ref (ad qt), .int (nI (32))]) (rest := []) (k := 3) ⟨hx, hb, hml, hown, hts⟩ h 19 (by decide) (C := "NonceBox$Field") t6_19 rfl (m_Fd_writeBytes l G A ad ev6 19 20 10 21 19 608 (by decide) t6_19 (by decide) (by decide) 27 qt Nt 32 (mulRow K X) T (by decide) hqt t6_27 t6_qt (by omega) (by omega) (by decide) nt nt2) kc_Fd_writeBytes kl_Cv_90 km_Fd_writeBytes kv_Fd_writeBytes ki_Fd (by decide +kernel) ⟨rfl, rfl, Nat.le_of_ble_eq_true rfl, Nat.le_of_ble_eq_true rfl⟩ hl.1 rfl rfl (Nat.le_of_ble_eq_true rfl) ⟨Nat.le_refl _, Nat.le_refl _⟩ d_Cv_multipleInto_144 ?_
      intro ov ev7 H locs hp h
      rw [hp.1]
      refine W.eq (g2 := F0 m 147 ls []) rfl ?_
      have o7 : ev7 = (va_up ev6 qt (eB G Nt (bs (fil 0 32 (MULB K X) T)))) := hp.2
      have t7_qt : ev7 qt = eB G Nt (bs (fil 0 32 (MULB K X) T)) := by rw [o7, va_up_self]
      have t7_1 := (show ev7 1 = ev6 1 by rw [o7, va_up_ne _ _ (by omega)]).trans t6_1
      have t7_3 := (show ev7 3 = ev6 3 by rw [o7, va_up_ne _ _ (by omega)]).trans t6_3
      have t7_20 := (show ev7 20 = ev6 20 by rw [o7, va_up_ne _ _ (by omega)]).trans t6_20
      have t7_21 := (show ev7 21 = ev6 21 by rw [o7, va_up_ne _ _ (by omega)]).trans t6_21
      have t7_22 := (show ev7 22 = ev6 22 by rw [o7, va_up_ne _ _ (by omega)]).trans t6_22
      have t7_23 := (show ev7 23 = ev6 23 by rw [o7, va_up_ne _ _ (by omega)]).trans t6_23
      have t7_24 := (show ev7 24 = ev6 24 by rw [o7, va_up_ne _ _ (by omega)]).trans t6_24
      have t7_25 := (show ev7 25 = ev6 25 by rw [o7, va_up_ne _ _ (by omega)]).trans t6_25
      have t7_26 := (show ev7 26 = ev6 26 by rw [o7, va_up_ne _ _ (by omega)]).trans t6_26
      have t7_27 := (show ev7 27 = ev6 27 by rw [o7, va_up_ne _ _ (by omega)]).trans t6_27
      have t7_28 := (show ev7 28 = ev6 28 by rw [o7, va_up_ne _ _ (by omega)]).trans t6_28
      have t7_29 := (show ev7 29 = ev6 29 by rw [o7, va_up_ne _ _ (by omega)]).trans t6_29
      have t7_30 := (show ev7 30 = ev6 30 by rw [o7, va_up_ne _ _ (by omega)]).trans t6_30
      have t7_31 := (show ev7 31 = ev6 31 by rw [o7, va_up_ne _ _ (by omega)]).trans t6_31
      have t7_32 := (show ev7 32 = ev6 32 by rw [o7, va_up_ne _ _ (by omega)]).trans t6_32
      have t7_33 := (show ev7 33 = ev6 33 by rw [o7, va_up_ne _ _ (by omega)]).trans t6_33
      have t7_18 := (show ev7 18 = ev6 18 by rw [o7, va_up_ne _ _ (by omega)]).trans t6_18
      have t7_19 := (show ev7 19 = ev6 19 by rw [o7, va_up_ne _ _ (by omega)]).trans t6_19
      refine wv_vret hx hb hr hlocks h d_Cv_multipleInto_147 ⟨(wdC (lad (uRow X) (KEYB K) 255).1 (ivS (lad (uRow X) (KEYB K) 255).2.1 254) 10), (lad (uRow X) (KEYB K) 255).1, (lad (uRow X) (KEYB K) 255).2.1, (lad (uRow X) (KEYB K) 255).2.2.1, (lad (uRow X) (KEYB K) 255).2.2.2, (uRow X), (mulRow K X), s28, s29, s30, s31, s32, s33, rfl, ?_⟩
      funext j
      by_cases c0 : j = 20
      · rw [c0, t7_20, va_up_ne _ _ (by omega), va_up_ne _ _ (by decide), va_up_ne _ _ (by decide), va_up_ne _ _ (by decide), va_up_ne _ _ (by decide), va_up_ne _ _ (by decide), va_up_ne _ _ (by decide), va_up_ne _ _ (by decide), va_up_ne _ _ (by decide), va_up_ne _ _ (by decide), va_up_ne _ _ (by decide), va_up_ne _ _ (by decide), va_up_ne _ _ (by decide), va_up_ne _ _ (by decide), va_up_self]
      by_cases c1 : j = 21
      · rw [c1, t7_21, va_up_ne _ _ (by omega), va_up_ne _ _ (by decide), va_up_ne _ _ (by decide), va_up_ne _ _ (by decide), va_up_ne _ _ (by decide), va_up_ne _ _ (by decide), va_up_ne _ _ (by decide), va_up_ne _ _ (by decide), va_up_ne _ _ (by decide), va_up_ne _ _ (by decide), va_up_ne _ _ (by decide), va_up_ne _ _ (by decide), va_up_ne _ _ (by decide), va_up_self]
      by_cases c2 : j = 22
      · rw [c2, t7_22, va_up_ne _ _ (by omega), va_up_ne _ _ (by decide), va_up_ne _ _ (by decide), va_up_ne _ _ (by decide), va_up_ne _ _ (by decide), va_up_ne _ _ (by decide), va_up_ne _ _ (by decide), va_up_ne _ _ (by decide), va_up_ne _ _ (by decide), va_up_ne _ _ (by decide), va_up_ne _ _ (by decide), va_up_ne _ _ (by decide), va_up_self]
      by_cases c3 : j = 23
      · rw [c3, t7_23, va_up_ne _ _ (by omega), va_up_ne _ _ (by decide), va_up_ne _ _ (by decide), va_up_ne _ _ (by decide), va_up_ne _ _ (by decide), va_up_ne _ _ (by decide), va_up_ne _ _ (by decide), va_up_ne _ _ (by decide), va_up_ne _ _ (by decide), va_up_ne _ _ (by decide), va_up_ne _ _ (by decide), va_up_self]
      by_cases c4 : j = 24
      · rw [c4, t7_24, va_up_ne _ _ (by omega), va_up_ne _ _ (by decide), va_up_ne _ _ (by decide), va_up_ne _ _ (by decide), va_up_ne _ _ (by decide), va_up_ne _ _ (by decide), va_up_ne _ _ (by decide), va_up_ne _ _ (by decide), va_up_ne _ _ (by decide), va_up_ne _ _ (by decide), va_up_self]
      by_cases c5 : j = 25
      · rw [c5, t7_25, va_up_ne _ _ (by omega), va_up_ne _ _ (by decide), va_up_ne _ _ (by decide), va_up_ne _ _ (by decide), va_up_ne _ _ (by decide), va_up_ne _ _ (by decide), va_up_ne _ _ (by decide), va_up_ne _ _ (by decide), va_up_ne _ _ (by decide), va_up_self]
      by_cases c6 : j = 26
      · rw [c6, t7_26, va_up_ne _ _ (by omega), va_up_ne _ _ (by decide), va_up_ne _ _ (by decide), va_up_ne _ _ (by decide), va_up_ne _ _ (by decide), va_up_ne _ _ (by decide), va_up_ne _ _ (by decide), va_up_ne _ _ (by decide), va_up_self]
      by_cases c7 : j = 27
      · rw [c7, t7_27, va_up_ne _ _ (by omega), va_up_ne _ _ (by decide), va_up_ne _ _ (by decide), va_up_ne _ _ (by decide), va_up_ne _ _ (by decide), va_up_ne _ _ (by decide), va_up_ne _ _ (by decide), va_up_self]
      by_cases c8 : j = 28
      · rw [c8, t7_28, va_up_ne _ _ (by omega), va_up_ne _ _ (by decide), va_up_ne _ _ (by decide), va_up_ne _ _ (by decide), va_up_ne _ _ (by decide), va_up_ne _ _ (by decide), va_up_self]
      by_cases c9 : j = 29
      · rw [c9, t7_29, va_up_ne _ _ (by omega), va_up_ne _ _ (by decide), va_up_ne _ _ (by decide), va_up_ne _ _ (by decide), va_up_ne _ _ (by decide), va_up_self]
      by_cases c10 : j = 30
      · rw [c10, t7_30, va_up_ne _ _ (by omega), va_up_ne _ _ (by decide), va_up_ne _ _ (by decide), va_up_ne _ _ (by decide), va_up_self]
      by_cases c11 : j = 31
      · rw [c11, t7_31, va_up_ne _ _ (by omega), va_up_ne _ _ (by decide), va_up_ne _ _ (by decide), va_up_self]
      by_cases c12 : j = 32
      · rw [c12, t7_32, va_up_ne _ _ (by omega), va_up_ne _ _ (by decide), va_up_self]
      by_cases c13 : j = 33
      · rw [c13, t7_33, va_up_ne _ _ (by omega), va_up_self]
      by_cases c14 : j = qt
      · rw [c14, t7_qt, va_up_self]
      rw [va_up_ne _ _ c14, va_up_ne _ _ c13, va_up_ne _ _ c12, va_up_ne _ _ c11, va_up_ne _ _ c10, va_up_ne _ _ c9, va_up_ne _ _ c8, va_up_ne _ _ c7, va_up_ne _ _ c6, va_up_ne _ _ c5, va_up_ne _ _ c4, va_up_ne _ _ c3, va_up_ne _ _ c2, va_up_ne _ _ c1, va_up_ne _ _ c0]
      rw [o7, va_up_ne _ _ c14, o6, va_up_ne _ _ c7, o5, va_up_ne _ _ c7, va_up_ne _ _ c0, o4, va_up_ne _ _ c7, va_up_ne _ _ c0, o3, va_up_ne _ _ c5, va_up_ne _ _ c4, va_up_ne _ _ c3, va_up_ne _ _ c2, va_up_ne _ _ c13, va_up_ne _ _ c12, va_up_ne _ _ c11, va_up_ne _ _ c10, va_up_ne _ _ c9, va_up_ne _ _ c8, va_up_ne _ _ c7, va_up_ne _ _ c0, o2, va_up_ne _ _ c1, o1, va_up_ne _ _ c5, va_up_ne _ _ c4, va_up_ne _ _ c3, va_up_ne _ _ c2, va_up_ne _ _ c6, va_up_ne _ _ c1]
    | succ d ih =>
      intro k hk_k Wd s27 s28 s29 s30 s31 s32 s33 ev3 H locs ls  o3 h hl
      have hl : lv_has ls 5 [(4, .int (nI (d))), (0, .ref (ad 18)), (1, .ref (ad 1)), (2, .ref (ad 3)), (3, .ref (ad qt))] := hl
      have t3_20 : ev3 20 = eJ G 20 Wd := by rw [o3, va_up_ne _ _ (by decide), va_up_ne _ _ (by decide), va_up_ne _ _ (by decide), va_up_ne _ _ (by decide), va_up_ne _ _ (by decide), va_up_ne _ _ (by decide), va_up_ne _ _ (by decide), va_up_ne _ _ (by decide), va_up_ne _ _ (by decide), va_up_ne _ _ (by decide), va_up_ne _ _ (by decide), va_up_self]
      have t3_27 : ev3 27 = eJ G 10 s27 := by rw [o3, va_up_ne _ _ (by decide), va_up_ne _ _ (by decide), va_up_ne _ _ (by decide), va_up_ne _ _ (by decide), va_up_ne _ _ (by decide), va_up_ne _ _ (by decide), va_up_ne _ _ (by decide), va_up_ne _ _ (by decide), va_up_ne _ _ (by decide), va_up_ne _ _ (by decide), va_up_self]
      have t3_28 : ev3 28 = eJ G 10 s28 := by rw [o3, va_up_ne _ _ (by decide), va_up_ne _ _ (by decide), va_up_ne _ _ (by decide), va_up_ne _ _ (by decide), va_up_ne _ _ (by decide), va_up_ne _ _ (by decide), va_up_ne _ _ (by decide), va_up_ne _ _ (by decide), va_up_ne _ _ (by decide), va_up_self]
      have t3_29 : ev3 29 = eJ G 10 s29 := by rw [o3, va_up_ne _ _ (by decide), va_up_ne _ _ (by decide), va_up_ne _ _ (by decide), va_up_ne _ _ (by decide), va_up_ne _ _ (by decide), va_up_ne _ _ (by decide), va_up_ne _ _ (by decide), va_up_ne _ _ (by decide), va_up_self]
      have t3_30 : ev3 30 = eJ G 10 s30 := by rw [o3, va_up_ne _ _ (by decide), va_up_ne _ _ (by decide), va_up_ne _ _ (by decide), va_up_ne _ _ (by decide), va_up_ne _ _ (by decide), va_up_ne _ _ (by decide), va_up_ne _ _ (by decide), va_up_self]
      have t3_31 : ev3 31 = eJ G 10 s31 := by rw [o3, va_up_ne _ _ (by decide), va_up_ne _ _ (by decide), va_up_ne _ _ (by decide), va_up_ne _ _ (by decide), va_up_ne _ _ (by decide), va_up_ne _ _ (by decide), va_up_self]
      have t3_32 : ev3 32 = eJ G 10 s32 := by rw [o3, va_up_ne _ _ (by decide), va_up_ne _ _ (by decide), va_up_ne _ _ (by decide), va_up_ne _ _ (by decide), va_up_ne _ _ (by decide), va_up_self]
      have t3_33 : ev3 33 = eJ G 10 s33 := by rw [o3, va_up_ne _ _ (by decide), va_up_ne _ _ (by decide), va_up_ne _ _ (by decide), va_up_ne _ _ (by decide), va_up_self]
      have t3_22 : ev3 22 = eJ G 10 (lad (uRow X) (KEYB K) k).1 := by rw [o3, va_up_ne _ _ (by decide), va_up_ne _ _ (by decide), va_up_ne _ _ (by decide), va_up_self]
      have t3_23 : ev3 23 = eJ G 10 (lad (uRow X) (KEYB K) k).2.1 := by rw [o3, va_up_ne _ _ (by decide), va_up_ne _ _ (by decide), va_up_self]
      have t3_24 : ev3 24 = eJ G 10 (lad (uRow X) (KEYB K) k).2.2.1 := by rw [o3, va_up_ne _ _ (by decide), va_up_self]
      have t3_25 : ev3 25 = eJ G 10 (lad (uRow X) (KEYB K) k).2.2.2 := by rw [o3, va_up_self]
      have t3_1 := (show ev3 1 = ev2 1 by rw [o3, va_up_ne _ _ (by decide), va_up_ne _ _ (by decide), va_up_ne _ _ (by decide), va_up_ne _ _ (by decide), va_up_ne _ _ (by decide), va_up_ne _ _ (by decide), va_up_ne _ _ (by decide), va_up_ne _ _ (by decide), va_up_ne _ _ (by decide), va_up_ne _ _ (by decide), va_up_ne _ _ (by decide), va_up_ne _ _ (by decide)]).trans t2_1
      have t3_3 := (show ev3 3 = ev2 3 by rw [o3, va_up_ne _ _ (by decide), va_up_ne _ _ (by decide), va_up_ne _ _ (by decide), va_up_ne _ _ (by decide), va_up_ne _ _ (by decide), va_up_ne _ _ (by decide), va_up_ne _ _ (by decide), va_up_ne _ _ (by decide), va_up_ne _ _ (by decide), va_up_ne _ _ (by decide), va_up_ne _ _ (by decide), va_up_ne _ _ (by decide)]).trans t2_3
      have t3_qt := (show ev3 qt = ev2 qt by rw [o3, va_up_ne _ _ (by omega), va_up_ne _ _ (by omega), va_up_ne _ _ (by omega), va_up_ne _ _ (by omega), va_up_ne _ _ (by omega), va_up_ne _ _ (by omega), va_up_ne _ _ (by omega), va_up_ne _ _ (by omega), va_up_ne _ _ (by omega), va_up_ne _ _ (by omega), va_up_ne _ _ (by omega), va_up_ne _ _ (by omega)]).trans t2_qt
      have t3_21 := (show ev3 21 = ev2 21 by rw [o3, va_up_ne _ _ (by decide), va_up_ne _ _ (by decide), va_up_ne _ _ (by decide), va_up_ne _ _ (by decide), va_up_ne _ _ (by decide), va_up_ne _ _ (by decide), va_up_ne _ _ (by decide), va_up_ne _ _ (by decide), va_up_ne _ _ (by decide), va_up_ne _ _ (by decide), va_up_ne _ _ (by decide), va_up_ne _ _ (by decide)]).trans t2_21
      have t3_26 := (show ev3 26 = ev2 26 by rw [o3, va_up_ne _ _ (by decide), va_up_ne _ _ (by decide), va_up_ne _ _ (by decide), va_up_ne _ _ (by decide), va_up_ne _ _ (by decide), va_up_ne _ _ (by decide), va_up_ne _ _ (by decide), va_up_ne _ _ (by decide), va_up_ne _ _ (by decide), va_up_ne _ _ (by decide), va_up_ne _ _ (by decide), va_up_ne _ _ (by decide)]).trans t2_26
      have t3_18 := (show ev3 18 = ev2 18 by rw [o3, va_up_ne _ _ (by decide), va_up_ne _ _ (by decide), va_up_ne _ _ (by decide), va_up_ne _ _ (by decide), va_up_ne _ _ (by decide), va_up_ne _ _ (by decide), va_up_ne _ _ (by decide), va_up_ne _ _ (by decide), va_up_ne _ _ (by decide), va_up_ne _ _ (by decide), va_up_ne _ _ (by decide), va_up_ne _ _ (by decide)]).trans t2_18
      have t3_19 := (show ev3 19 = ev2 19 by rw [o3, va_up_ne _ _ (by decide), va_up_ne _ _ (by decide), va_up_ne _ _ (by decide), va_up_ne _ _ (by decide), va_up_ne _ _ (by decide), va_up_ne _ _ (by decide), va_up_ne _ _ (by decide), va_up_ne _ _ (by decide), va_up_ne _ _ (by decide), va_up_ne _ _ (by decide), va_up_ne _ _ (by decide), va_up_ne _ _ (by decide)]).trans t2_19
      refine lv_iload hx hb d_Cv_multipleInto_15 (lv_at hl 0 rfl) ?_
      refine lv_if_lt (tgt := 91) hx hb d_Cv_multipleInto_17 (by decide) (fun hc => absurd hc (nI_pos (by omega))) (fun _ => ?_)
      refine lv_aload_n hx hb d_Cv_multipleInto_20 rfl (lv_at hl 1 rfl) ?_
      refine wv_getf hx hb h 18 (by decide) (fs := [.ref (ad 19), .ref (ad 21), .ref (ad 22), .ref (ad 23), .ref (ad 24), .ref (ad 25), .ref (ad 26), .ref (ad 27), .ref (ad 28), .ref (ad 29), .ref (ad 30), .ref (ad 31), .ref (ad 32), .ref (ad 33)]) t3_18 hts (fun w hw => List.mem_cons_of_mem _ (fW_Cv w hw)) hown (ci := 0) (C := "NonceBox$Curve") (T := fT_Cv) (N := 14) rfl 1 (by decide) (hts _ (List.mem_cons_of_mem _ kf_Cv_22)) rfl (v := .ref (ad 21)) rfl d_Cv_multipleInto_21 ?_
      refine lv_iload hx hb d_Cv_multipleInto_24 (lv_at hl 0 rfl) ?_
      refine lv_bipush (v := nI (8)) hx hb d_Cv_multipleInto_26 (by decide) ?_
      refine lv_idiv hx hb d_Cv_multipleInto_28 (by decide) ?_
      refine wv_top (pk_div (by omega) (by omega) (by omega)) ?_
      refine wv_bald hx hb h 21 (by decide) (f := (bs (KEYB K))) t3_21 (k := d / 8) rfl (by omega) (by decide) d_Cv_multipleInto_29 ?_
      refine lv_iload hx hb d_Cv_multipleInto_30 (lv_at hl 0 rfl) ?_
      refine lv_bipush (v := nI (8)) hx hb d_Cv_multipleInto_32 (by decide) ?_
      refine lv_irem hx hb d_Cv_multipleInto_34 (by decide) ?_
      refine wv_top (pk_rem (by omega) (by omega) (by omega)) ?_
      refine lv_ishr hx hb d_Cv_multipleInto_35 ?_
      refine lv_iconst (v := (1 : Int32)) hx hb d_Cv_multipleInto_36 (by decide) ?_
      refine lv_iand hx hb d_Cv_multipleInto_37 ?_
      refine wv_top (sb_bit _ (KEYB_lt hK _) _ (by omega)) ?_
      refine lv_iconst (v := nI (1)) hx hb d_Cv_multipleInto_38 (by decide) ?_
      refine lv_icmp_ne (tgt := 65) hx hb d_Cv_multipleInto_39 (by decide) (fun hc => ?_) (fun hc => ?_)
      · have hc : ¬ bitN (KEYB K) (254 - k) = 1 := fun q => hc (by rw [show d = 254 - k by omega]; exact congrArg nI q)
        refine lv_aload_n hx hb d_Cv_multipleInto_65 rfl (lv_at hl 1 rfl) ?_
        refine lv_aload_n hx hb d_Cv_multipleInto_66 rfl (lv_at hl 1 rfl) ?_
        refine wv_getf hx hb h 18 (by decide) (fs := [.ref (ad 19), .ref (ad 21), .ref (ad 22), .ref (ad 23), .ref (ad 24), .ref (ad 25), .ref (ad 26), .ref (ad 27), .ref (ad 28), .ref (ad 29), .ref (ad 30), .ref (ad 31), .ref (ad 32), .ref (ad 33)]) t3_18 hts (fun w hw => List.mem_cons_of_mem _ (fW_Cv w hw)) hown (ci := 0) (C := "NonceBox$Curve") (T := fT_Cv) (N := 14) rfl 2 (by decide) (hts _ (List.mem_cons_of_mem _ kf_Cv_30)) rfl (v := .ref (ad 22)) rfl d_Cv_multipleInto_67 ?_
        refine lv_aload_n hx hb d_Cv_multipleInto_70 rfl (lv_at hl 1 rfl) ?_
        refine wv_getf hx hb h 18 (by decide) (fs := [.ref (ad 19), .ref (ad 21), .ref (ad 22), .ref (ad 23), .ref (ad 24), .ref (ad 25), .ref (ad 26), .ref (ad 27), .ref (ad 28), .ref (ad 29), .ref (ad 30), .ref (ad 31), .ref (ad 32), .ref (ad 33)]) t3_18 hts (fun w hw => List.mem_cons_of_mem _ (fW_Cv w hw)) hown (ci := 0) (C := "NonceBox$Curve") (T := fT_Cv) (N := 14) rfl 3 (by decide) (hts _ (List.mem_cons_of_mem _ kf_Cv_34)) rfl (v := .ref (ad 23)) rfl d_Cv_multipleInto_71 ?_
        refine lv_aload_n hx hb d_Cv_multipleInto_74 rfl (lv_at hl 1 rfl) ?_
        refine wv_getf hx hb h 18 (by decide) (fs := [.ref (ad 19), .ref (ad 21), .ref (ad 22), .ref (ad 23), .ref (ad 24), .ref (ad 25), .ref (ad 26), .ref (ad 27), .ref (ad 28), .ref (ad 29), .ref (ad 30), .ref (ad 31), .ref (ad 32), .ref (ad 33)]) t3_18 hts (fun w hw => List.mem_cons_of_mem _ (fW_Cv w hw)) hown (ci := 0) (C := "NonceBox$Curve") (T := fT_Cv) (N := 14) rfl 4 (by decide) (hts _ (List.mem_cons_of_mem _ kf_Cv_37)) rfl (v := .ref (ad 24)) rfl d_Cv_multipleInto_75 ?_
        refine lv_aload_n hx hb d_Cv_multipleInto_78 rfl (lv_at hl 1 rfl) ?_
        refine wv_getf hx hb h 18 (by decide) (fs := [.ref (ad 19), .ref (ad 21), .ref (ad 22), .ref (ad 23), .ref (ad 24), .ref (ad 25), .ref (ad 26), .ref (ad 27), .ref (ad 28), .ref (ad 29), .ref (ad 30), .ref (ad 31), .ref (ad 32), .ref (ad 33)]) t3_18 hts (fun w hw => List.mem_cons_of_mem _ (fW_Cv w hw)) hown (ci := 0) (C := "NonceBox$Curve") (T := fT_Cv) (N := 14) rfl 5 (by decide) (hts _ (List.mem_cons_of_mem _ kf_Cv_40)) rfl (v := .ref (ad 25)) rfl d_Cv_multipleInto_79 ?_
        refine wv_V (As := [.ref (ad 22), .ref (ad 23), .ref (ad 24), .ref (ad 25)]) (rest := []) (k := 4) ⟨hx, hb, hml, hown, hts⟩ h 18 (by decide) (C := "NonceBox$Curve") t3_18 rfl (m_Cv_step l G A ad ev3 (lad (uRow X) (KEYB K) k).1 (lad (uRow X) (KEYB K) k).2.1 (lad (uRow X) (KEYB K) k).2.2.1 (lad (uRow X) (KEYB K) k).2.2.2 (uRow X) Wd s27 s28 s29 s30 s31 s32 s33 t3_18 t3_19 t3_22 t3_23 t3_24 t3_25 t3_26 t3_20 t3_27 t3_28 t3_29 t3_30 t3_31 t3_32 t3_33) kc_Cv_step kl_Cv_74 km_Cv_step kv_Cv_step ki_Cv (by decide +kernel) ⟨rfl, rfl, Nat.le_of_ble_eq_true rfl, Nat.le_of_ble_eq_true rfl⟩ hl.1 rfl rfl (Nat.le_of_ble_eq_true rfl) ⟨Nat.le_refl _, Nat.le_refl _⟩ d_Cv_multipleInto_82 ?_
        intro ov ev4 H locs hp h
        obtain ⟨W2, u27, u28, u29, u30, u31, u32, u33, hp⟩ := hp
        rw [hp.1]
        refine W.eq (g2 := F0 m 85 ls []) rfl ?_
        have o4 : ev4 = (va_up (va_up (va_up (va_up (va_up (va_up (va_up (va_up (va_up (va_up (va_up (va_up ev3 20 (eJ G 20 W2)) 27 (eJ G 10 u27)) 28 (eJ G 10 u28)) 29 (eJ G 10 u29)) 30 (eJ G 10 u30)) 31 (eJ G 10 u31)) 32 (eJ G 10 u32)) 33 (eJ G 10 u33)) 22 (eJ G 10 (stA (lad (uRow X) (KEYB K) k).1 (lad (uRow X) (KEYB K) k).2.1))) 23 (eJ G 10 (stB (lad (uRow X) (KEYB K) k).1 (lad (uRow X) (KEYB K) k).2.1))) 24 (eJ G 10 (stC (lad (uRow X) (KEYB K) k).1 (lad (uRow X) (KEYB K) k).2.1 (lad (uRow X) (KEYB K) k).2.2.1 (lad (uRow X) (KEYB K) k).2.2.2))) 25 (eJ G 10 (stD (uRow X) (lad (uRow X) (KEYB K) k).1 (lad (uRow X) (KEYB K) k).2.1 (lad (uRow X) (KEYB K) k).2.2.1 (lad (uRow X) (KEYB K) k).2.2.2))) := hp.2
        have t4_20 : ev4 20 = eJ G 20 W2 := by rw [o4, va_up_ne _ _ (by decide), va_up_ne _ _ (by decide), va_up_ne _ _ (by decide), va_up_ne _ _ (by decide), va_up_ne _ _ (by decide), va_up_ne _ _ (by decide), va_up_ne _ _ (by decide), va_up_ne _ _ (by decide), va_up_ne _ _ (by decide), va_up_ne _ _ (by decide), va_up_ne _ _ (by decide), va_up_self]
        have t4_27 : ev4 27 = eJ G 10 u27 := by rw [o4, va_up_ne _ _ (by decide), va_up_ne _ _ (by decide), va_up_ne _ _ (by decide), va_up_ne _ _ (by decide), va_up_ne _ _ (by decide), va_up_ne _ _ (by decide), va_up_ne _ _ (by decide), va_up_ne _ _ (by decide), va_up_ne _ _ (by decide), va_up_ne _ _ (by decide), va_up_self]
        have t4_28 : ev4 28 = eJ G 10 u28 := by rw [o4, va_up_ne _ _ (by decide), va_up_ne _ _ (by decide), va_up_ne _ _ (by decide), va_up_ne _ _ (by decide), va_up_ne _ _ (by decide), va_up_ne _ _ (by decide), va_up_ne _ _ (by decide), va_up_ne _ _ (by decide), va_up_ne _ _ (by decide), va_up_self]
        have t4_29 : ev4 29 = eJ G 10 u29 := by rw [o4, va_up_ne _ _ (by decide), va_up_ne _ _ (by decide), va_up_ne _ _ (by decide), va_up_ne _ _ (by decide), va_up_ne _ _ (by decide), va_up_ne _ _ (by decide), va_up_ne _ _ (by decide), va_up_ne _ _ (by decide), va_up_self]
        have t4_30 : ev4 30 = eJ G 10 u30 := by rw [o4, va_up_ne _ _ (by decide), va_up_ne _ _ (by decide), va_up_ne _ _ (by decide), va_up_ne _ _ (by decide), va_up_ne _ _ (by decide), va_up_ne _ _ (by decide), va_up_ne _ _ (by decide), va_up_self]
        have t4_31 : ev4 31 = eJ G 10 u31 := by rw [o4, va_up_ne _ _ (by decide), va_up_ne _ _ (by decide), va_up_ne _ _ (by decide), va_up_ne _ _ (by decide), va_up_ne _ _ (by decide), va_up_ne _ _ (by decide), va_up_self]
        have t4_32 : ev4 32 = eJ G 10 u32 := by rw [o4, va_up_ne _ _ (by decide), va_up_ne _ _ (by decide), va_up_ne _ _ (by decide), va_up_ne _ _ (by decide), va_up_ne _ _ (by decide), va_up_self]
        have t4_33 : ev4 33 = eJ G 10 u33 := by rw [o4, va_up_ne _ _ (by decide), va_up_ne _ _ (by decide), va_up_ne _ _ (by decide), va_up_ne _ _ (by decide), va_up_self]
        have t4_22 : ev4 22 = eJ G 10 (stA (lad (uRow X) (KEYB K) k).1 (lad (uRow X) (KEYB K) k).2.1) := by rw [o4, va_up_ne _ _ (by decide), va_up_ne _ _ (by decide), va_up_ne _ _ (by decide), va_up_self]
        have t4_23 : ev4 23 = eJ G 10 (stB (lad (uRow X) (KEYB K) k).1 (lad (uRow X) (KEYB K) k).2.1) := by rw [o4, va_up_ne _ _ (by decide), va_up_ne _ _ (by decide), va_up_self]
        have t4_24 : ev4 24 = eJ G 10 (stC (lad (uRow X) (KEYB K) k).1 (lad (uRow X) (KEYB K) k).2.1 (lad (uRow X) (KEYB K) k).2.2.1 (lad (uRow X) (KEYB K) k).2.2.2) := by rw [o4, va_up_ne _ _ (by decide), va_up_self]
        have t4_25 : ev4 25 = eJ G 10 (stD (uRow X) (lad (uRow X) (KEYB K) k).1 (lad (uRow X) (KEYB K) k).2.1 (lad (uRow X) (KEYB K) k).2.2.1 (lad (uRow X) (KEYB K) k).2.2.2) := by rw [o4, va_up_self]
        have t4_1 := (show ev4 1 = ev3 1 by rw [o4, va_up_ne _ _ (by decide), va_up_ne _ _ (by decide), va_up_ne _ _ (by decide), va_up_ne _ _ (by decide), va_up_ne _ _ (by decide), va_up_ne _ _ (by decide), va_up_ne _ _ (by decide), va_up_ne _ _ (by decide), va_up_ne _ _ (by decide), va_up_ne _ _ (by decide), va_up_ne _ _ (by decide), va_up_ne _ _ (by decide)]).trans t3_1
        have t4_3 := (show ev4 3 = ev3 3 by rw [o4, va_up_ne _ _ (by decide), va_up_ne _ _ (by decide), va_up_ne _ _ (by decide), va_up_ne _ _ (by decide), va_up_ne _ _ (by decide), va_up_ne _ _ (by decide), va_up_ne _ _ (by decide), va_up_ne _ _ (by decide), va_up_ne _ _ (by decide), va_up_ne _ _ (by decide), va_up_ne _ _ (by decide), va_up_ne _ _ (by decide)]).trans t3_3
        have t4_qt := (show ev4 qt = ev3 qt by rw [o4, va_up_ne _ _ (by omega), va_up_ne _ _ (by omega), va_up_ne _ _ (by omega), va_up_ne _ _ (by omega), va_up_ne _ _ (by omega), va_up_ne _ _ (by omega), va_up_ne _ _ (by omega), va_up_ne _ _ (by omega), va_up_ne _ _ (by omega), va_up_ne _ _ (by omega), va_up_ne _ _ (by omega), va_up_ne _ _ (by omega)]).trans t3_qt
        have t4_21 := (show ev4 21 = ev3 21 by rw [o4, va_up_ne _ _ (by decide), va_up_ne _ _ (by decide), va_up_ne _ _ (by decide), va_up_ne _ _ (by decide), va_up_ne _ _ (by decide), va_up_ne _ _ (by decide), va_up_ne _ _ (by decide), va_up_ne _ _ (by decide), va_up_ne _ _ (by decide), va_up_ne _ _ (by decide), va_up_ne _ _ (by decide), va_up_ne _ _ (by decide)]).trans t3_21
        have t4_26 := (show ev4 26 = ev3 26 by rw [o4, va_up_ne _ _ (by decide), va_up_ne _ _ (by decide), va_up_ne _ _ (by decide), va_up_ne _ _ (by decide), va_up_ne _ _ (by decide), va_up_ne _ _ (by decide), va_up_ne _ _ (by decide), va_up_ne _ _ (by decide), va_up_ne _ _ (by decide), va_up_ne _ _ (by decide), va_up_ne _ _ (by decide), va_up_ne _ _ (by decide)]).trans t3_26
        have t4_18 := (show ev4 18 = ev3 18 by rw [o4, va_up_ne _ _ (by decide), va_up_ne _ _ (by decide), va_up_ne _ _ (by decide), va_up_ne _ _ (by decide), va_up_ne _ _ (by decide), va_up_ne _ _ (by decide), va_up_ne _ _ (by decide), va_up_ne _ _ (by decide), va_up_ne _ _ (by decide), va_up_ne _ _ (by decide), va_up_ne _ _ (by decide), va_up_ne _ _ (by decide)]).trans t3_18
        have t4_19 := (show ev4 19 = ev3 19 by rw [o4, va_up_ne _ _ (by decide), va_up_ne _ _ (by decide), va_up_ne _ _ (by decide), va_up_ne _ _ (by decide), va_up_ne _ _ (by decide), va_up_ne _ _ (by decide), va_up_ne _ _ (by decide), va_up_ne _ _ (by decide), va_up_ne _ _ (by decide), va_up_ne _ _ (by decide), va_up_ne _ _ (by decide), va_up_ne _ _ (by decide)]).trans t3_19
        refine lv_iinc (v := dn d) (lv' := [(4, .int (dn d)), (0, .ref (ad 18)), (1, .ref (ad 1)), (2, .ref (ad 3)), (3, .ref (ad qt))]) hx hb d_Cv_multipleInto_85 hl (k := 0) rfl (dn_dec d) (by decide) rfl (fun ls hl => ?_)
        refine lv_goto (tgt := 15) hx hb d_Cv_multipleInto_88 (by decide) ?_
        have el : (lad (uRow X) (KEYB K) (k + 1)) = ((stA (lad (uRow X) (KEYB K) k).1 (lad (uRow X) (KEYB K) k).2.1), (stB (lad (uRow X) (KEYB K) k).1 (lad (uRow X) (KEYB K) k).2.1), (stC (lad (uRow X) (KEYB K) k).1 (lad (uRow X) (KEYB K) k).2.1 (lad (uRow X) (KEYB K) k).2.2.1 (lad (uRow X) (KEYB K) k).2.2.2), (stD (uRow X) (lad (uRow X) (KEYB K) k).1 (lad (uRow X) (KEYB K) k).2.1 (lad (uRow X) (KEYB K) k).2.2.1 (lad (uRow X) (KEYB K) k).2.2.2)) := if_neg hc
        refine ih (k + 1) (by omega) W2 u27 u28 u29 u30 u31 u32 u33 ev4 H locs ls ?_ h (lv_sub hl [0, 1, 2, 3, 4] rfl)
        rw [el]
        rw [o4, o3]
        funext j
        by_cases c0 : j = 20
        · subst c0; simp [va_up]
        by_cases c1 : j = 27
        · subst c1; simp [va_up]
        by_cases c2 : j = 28
        · subst c2; simp [va_up]
        by_cases c3 : j = 29
        · subst c3; simp [va_up]
        by_cases c4 : j = 30
        · subst c4; simp [va_up]
        by_cases c5 : j = 31
        · subst c5; simp [va_up]
        by_cases c6 : j = 32
        · subst c6; simp [va_up]
        by_cases c7 : j = 33
        · subst c7; simp [va_up]
        by_cases c8 : j = 22
        · subst c8; simp [va_up]
        by_cases c9 : j = 23
        · subst c9; simp [va_up]
        by_cases c10 : j = 24
        · subst c10; simp [va_up]
        by_cases c11 : j = 25
        · subst c11; simp [va_up]
        simp only [va_up, c0, c1, c2, c3, c4, c5, c6, c7, c8, c9, c10, c11, if_false]
      · have hc : bitN (KEYB K) (254 - k) = 1 := by
          rw [show d = 254 - k by omega] at hc
          exact (nI_eq (Nat.lt_of_lt_of_le (Nat.mod_lt _ (by decide)) (by decide)) (by omega)).mp hc
        refine lv_aload_n hx hb d_Cv_multipleInto_42 rfl (lv_at hl 1 rfl) ?_
        refine lv_aload_n hx hb d_Cv_multipleInto_43 rfl (lv_at hl 1 rfl) ?_
        refine wv_getf hx hb h 18 (by decide) (fs := [.ref (ad 19), .ref (ad 21), .ref (ad 22), .ref (ad 23), .ref (ad 24), .ref (ad 25), .ref (ad 26), .ref (ad 27), .ref (ad 28), .ref (ad 29), .ref (ad 30), .ref (ad 31), .ref (ad 32), .ref (ad 33)]) t3_18 hts (fun w hw => List.mem_cons_of_mem _ (fW_Cv w hw)) hown (ci := 0) (C := "NonceBox$Curve") (T := fT_Cv) (N := 14) rfl 4 (by decide) (hts _ (List.mem_cons_of_mem _ kf_Cv_37)) rfl (v := .ref (ad 24)) rfl d_Cv_multipleInto_44 ?_
        refine lv_aload_n hx hb d_Cv_multipleInto_47 rfl (lv_at hl 1 rfl) ?_
        refine wv_getf hx hb h 18 (by decide) (fs := [.ref (ad 19), .ref (ad 21), .ref (ad 22), .ref (ad 23), .ref (ad 24), .ref (ad 25), .ref (ad 26), .ref (ad 27), .ref (ad 28), .ref (ad 29), .ref (ad 30), .ref (ad 31), .ref (ad 32), .ref (ad 33)]) t3_18 hts (fun w hw => List.mem_cons_of_mem _ (fW_Cv w hw)) hown (ci := 0) (C := "NonceBox$Curve") (T := fT_Cv) (N := 14) rfl 5 (by decide) (hts _ (List.mem_cons_of_mem _ kf_Cv_40)) rfl (v := .ref (ad 25)) rfl d_Cv_multipleInto_48 ?_
        refine lv_aload_n hx hb d_Cv_multipleInto_51 rfl (lv_at hl 1 rfl) ?_
        refine wv_getf hx hb h 18 (by decide) (fs := [.ref (ad 19), .ref (ad 21), .ref (ad 22), .ref (ad 23), .ref (ad 24), .ref (ad 25), .ref (ad 26), .ref (ad 27), .ref (ad 28), .ref (ad 29), .ref (ad 30), .ref (ad 31), .ref (ad 32), .ref (ad 33)]) t3_18 hts (fun w hw => List.mem_cons_of_mem _ (fW_Cv w hw)) hown (ci := 0) (C := "NonceBox$Curve") (T := fT_Cv) (N := 14) rfl 2 (by decide) (hts _ (List.mem_cons_of_mem _ kf_Cv_30)) rfl (v := .ref (ad 22)) rfl d_Cv_multipleInto_52 ?_
        refine lv_aload_n hx hb d_Cv_multipleInto_55 rfl (lv_at hl 1 rfl) ?_
        refine wv_getf hx hb h 18 (by decide) (fs := [.ref (ad 19), .ref (ad 21), .ref (ad 22), .ref (ad 23), .ref (ad 24), .ref (ad 25), .ref (ad 26), .ref (ad 27), .ref (ad 28), .ref (ad 29), .ref (ad 30), .ref (ad 31), .ref (ad 32), .ref (ad 33)]) t3_18 hts (fun w hw => List.mem_cons_of_mem _ (fW_Cv w hw)) hown (ci := 0) (C := "NonceBox$Curve") (T := fT_Cv) (N := 14) rfl 3 (by decide) (hts _ (List.mem_cons_of_mem _ kf_Cv_34)) rfl (v := .ref (ad 23)) rfl d_Cv_multipleInto_56 ?_
        refine wv_V (As := [.ref (ad 24), .ref (ad 25), .ref (ad 22), .ref (ad 23)]) (rest := []) (k := 4) ⟨hx, hb, hml, hown, hts⟩ h 18 (by decide) (C := "NonceBox$Curve") t3_18 rfl (m_Cv_step2 l G A ad ev3 (lad (uRow X) (KEYB K) k).2.2.1 (lad (uRow X) (KEYB K) k).2.2.2 (lad (uRow X) (KEYB K) k).1 (lad (uRow X) (KEYB K) k).2.1 (uRow X) Wd s27 s28 s29 s30 s31 s32 s33 t3_18 t3_19 t3_24 t3_25 t3_22 t3_23 t3_26 t3_20 t3_27 t3_28 t3_29 t3_30 t3_31 t3_32 t3_33) kc_Cv_step kl_Cv_74 km_Cv_step kv_Cv_step ki_Cv (by decide +kernel) ⟨rfl, rfl, Nat.le_of_ble_eq_true rfl, Nat.le_of_ble_eq_true rfl⟩ hl.1 rfl rfl (Nat.le_of_ble_eq_true rfl) ⟨Nat.le_refl _, Nat.le_refl _⟩ d_Cv_multipleInto_59 ?_
        intro ov ev4 H locs hp h
        obtain ⟨W2, u27, u28, u29, u30, u31, u32, u33, hp⟩ := hp
        rw [hp.1]
        refine W.eq (g2 := F0 m 62 ls []) rfl ?_
        have o4 : ev4 = (va_up (va_up (va_up (va_up (va_up (va_up (va_up (va_up (va_up (va_up (va_up (va_up ev3 20 (eJ G 20 W2)) 27 (eJ G 10 u27)) 28 (eJ G 10 u28)) 29 (eJ G 10 u29)) 30 (eJ G 10 u30)) 31 (eJ G 10 u31)) 32 (eJ G 10 u32)) 33 (eJ G 10 u33)) 24 (eJ G 10 (stA (lad (uRow X) (KEYB K) k).2.2.1 (lad (uRow X) (KEYB K) k).2.2.2))) 25 (eJ G 10 (stB (lad (uRow X) (KEYB K) k).2.2.1 (lad (uRow X) (KEYB K) k).2.2.2))) 22 (eJ G 10 (stC (lad (uRow X) (KEYB K) k).2.2.1 (lad (uRow X) (KEYB K) k).2.2.2 (lad (uRow X) (KEYB K) k).1 (lad (uRow X) (KEYB K) k).2.1))) 23 (eJ G 10 (stD (uRow X) (lad (uRow X) (KEYB K) k).2.2.1 (lad (uRow X) (KEYB K) k).2.2.2 (lad (uRow X) (KEYB K) k).1 (lad (uRow X) (KEYB K) k).2.1))) := hp.2
        have t4_20 : ev4 20 = eJ G 20 W2 := by rw [o4, va_up_ne _ _ (by decide), va_up_ne _ _ (by decide), va_up_ne _ _ (by decide), va_up_ne _ _ (by decide), va_up_ne _ _ (by decide), va_up_ne _ _ (by decide), va_up_ne _ _ (by decide), va_up_ne _ _ (by decide), va_up_ne _ _ (by decide), va_up_ne _ _ (by decide), va_up_ne _ _ (by decide), va_up_self]
        have t4_27 : ev4 27 = eJ G 10 u27 := by rw [o4, va_up_ne _ _ (by decide), va_up_ne _ _ (by decide), va_up_ne _ _ (by decide), va_up_ne _ _ (by decide), va_up_ne _ _ (by decide), va_up_ne _ _ (by decide), va_up_ne _ _ (by decide), va_up_ne _ _ (by decide), va_up_ne _ _ (by decide), va_up_ne _ _ (by decide), va_up_self]
        have t4_28 : ev4 28 = eJ G 10 u28 := by rw [o4, va_up_ne _ _ (by decide), va_up_ne _ _ (by decide), va_up_ne _ _ (by decide), va_up_ne _ _ (by decide), va_up_ne _ _ (by decide), va_up_ne _ _ (by decide), va_up_ne _ _ (by decide), va_up_ne _ _ (by decide), va_up_ne _ _ (by decide), va_up_self]
        have t4_29 : ev4 29 = eJ G 10 u29 := by rw [o4, va_up_ne _ _ (by decide), va_up_ne _ _ (by decide), va_up_ne _ _ (by decide), va_up_ne _ _ (by decide), va_up_ne _ _ (by decide), va_up_ne _ _ (by decide), va_up_ne _ _ (by decide), va_up_ne _ _ (by decide), va_up_self]
        have t4_30 : ev4 30 = eJ G 10 u30 := by rw [o4, va_up_ne _ _ (by decide), va_up_ne _ _ (by decide), va_up_ne _ _ (by decide), va_up_ne _ _ (by decide), va_up_ne _ _ (by decide), va_up_ne _ _ (by decide), va_up_ne _ _ (by decide), va_up_self]
        have t4_31 : ev4 31 = eJ G 10 u31 := by rw [o4, va_up_ne _ _ (by decide), va_up_ne _ _ (by decide), va_up_ne _ _ (by decide), va_up_ne _ _ (by decide), va_up_ne _ _ (by decide), va_up_ne _ _ (by decide), va_up_self]
        have t4_32 : ev4 32 = eJ G 10 u32 := by rw [o4, va_up_ne _ _ (by decide), va_up_ne _ _ (by decide), va_up_ne _ _ (by decide), va_up_ne _ _ (by decide), va_up_ne _ _ (by decide), va_up_self]
        have t4_33 : ev4 33 = eJ G 10 u33 := by rw [o4, va_up_ne _ _ (by decide), va_up_ne _ _ (by decide), va_up_ne _ _ (by decide), va_up_ne _ _ (by decide), va_up_self]
        have t4_24 : ev4 24 = eJ G 10 (stA (lad (uRow X) (KEYB K) k).2.2.1 (lad (uRow X) (KEYB K) k).2.2.2) := by rw [o4, va_up_ne _ _ (by decide), va_up_ne _ _ (by decide), va_up_ne _ _ (by decide), va_up_self]
        have t4_25 : ev4 25 = eJ G 10 (stB (lad (uRow X) (KEYB K) k).2.2.1 (lad (uRow X) (KEYB K) k).2.2.2) := by rw [o4, va_up_ne _ _ (by decide), va_up_ne _ _ (by decide), va_up_self]
        have t4_22 : ev4 22 = eJ G 10 (stC (lad (uRow X) (KEYB K) k).2.2.1 (lad (uRow X) (KEYB K) k).2.2.2 (lad (uRow X) (KEYB K) k).1 (lad (uRow X) (KEYB K) k).2.1) := by rw [o4, va_up_ne _ _ (by decide), va_up_self]
        have t4_23 : ev4 23 = eJ G 10 (stD (uRow X) (lad (uRow X) (KEYB K) k).2.2.1 (lad (uRow X) (KEYB K) k).2.2.2 (lad (uRow X) (KEYB K) k).1 (lad (uRow X) (KEYB K) k).2.1) := by rw [o4, va_up_self]
        have t4_1 := (show ev4 1 = ev3 1 by rw [o4, va_up_ne _ _ (by decide), va_up_ne _ _ (by decide), va_up_ne _ _ (by decide), va_up_ne _ _ (by decide), va_up_ne _ _ (by decide), va_up_ne _ _ (by decide), va_up_ne _ _ (by decide), va_up_ne _ _ (by decide), va_up_ne _ _ (by decide), va_up_ne _ _ (by decide), va_up_ne _ _ (by decide), va_up_ne _ _ (by decide)]).trans t3_1
        have t4_3 := (show ev4 3 = ev3 3 by rw [o4, va_up_ne _ _ (by decide), va_up_ne _ _ (by decide), va_up_ne _ _ (by decide), va_up_ne _ _ (by decide), va_up_ne _ _ (by decide), va_up_ne _ _ (by decide), va_up_ne _ _ (by decide), va_up_ne _ _ (by decide), va_up_ne _ _ (by decide), va_up_ne _ _ (by decide), va_up_ne _ _ (by decide), va_up_ne _ _ (by decide)]).trans t3_3
        have t4_qt := (show ev4 qt = ev3 qt by rw [o4, va_up_ne _ _ (by omega), va_up_ne _ _ (by omega), va_up_ne _ _ (by omega), va_up_ne _ _ (by omega), va_up_ne _ _ (by omega), va_up_ne _ _ (by omega), va_up_ne _ _ (by omega), va_up_ne _ _ (by omega), va_up_ne _ _ (by omega), va_up_ne _ _ (by omega), va_up_ne _ _ (by omega), va_up_ne _ _ (by omega)]).trans t3_qt
        have t4_21 := (show ev4 21 = ev3 21 by rw [o4, va_up_ne _ _ (by decide), va_up_ne _ _ (by decide), va_up_ne _ _ (by decide), va_up_ne _ _ (by decide), va_up_ne _ _ (by decide), va_up_ne _ _ (by decide), va_up_ne _ _ (by decide), va_up_ne _ _ (by decide), va_up_ne _ _ (by decide), va_up_ne _ _ (by decide), va_up_ne _ _ (by decide), va_up_ne _ _ (by decide)]).trans t3_21
        have t4_26 := (show ev4 26 = ev3 26 by rw [o4, va_up_ne _ _ (by decide), va_up_ne _ _ (by decide), va_up_ne _ _ (by decide), va_up_ne _ _ (by decide), va_up_ne _ _ (by decide), va_up_ne _ _ (by decide), va_up_ne _ _ (by decide), va_up_ne _ _ (by decide), va_up_ne _ _ (by decide), va_up_ne _ _ (by decide), va_up_ne _ _ (by decide), va_up_ne _ _ (by decide)]).trans t3_26
        have t4_18 := (show ev4 18 = ev3 18 by rw [o4, va_up_ne _ _ (by decide), va_up_ne _ _ (by decide), va_up_ne _ _ (by decide), va_up_ne _ _ (by decide), va_up_ne _ _ (by decide), va_up_ne _ _ (by decide), va_up_ne _ _ (by decide), va_up_ne _ _ (by decide), va_up_ne _ _ (by decide), va_up_ne _ _ (by decide), va_up_ne _ _ (by decide), va_up_ne _ _ (by decide)]).trans t3_18
        have t4_19 := (show ev4 19 = ev3 19 by rw [o4, va_up_ne _ _ (by decide), va_up_ne _ _ (by decide), va_up_ne _ _ (by decide), va_up_ne _ _ (by decide), va_up_ne _ _ (by decide), va_up_ne _ _ (by decide), va_up_ne _ _ (by decide), va_up_ne _ _ (by decide), va_up_ne _ _ (by decide), va_up_ne _ _ (by decide), va_up_ne _ _ (by decide), va_up_ne _ _ (by decide)]).trans t3_19
        refine lv_goto (tgt := 85) hx hb d_Cv_multipleInto_62 (by decide) ?_
        refine lv_iinc (v := dn d) (lv' := [(4, .int (dn d)), (0, .ref (ad 18)), (1, .ref (ad 1)), (2, .ref (ad 3)), (3, .ref (ad qt))]) hx hb d_Cv_multipleInto_85 hl (k := 0) rfl (dn_dec d) (by decide) rfl (fun ls hl => ?_)
        refine lv_goto (tgt := 15) hx hb d_Cv_multipleInto_88 (by decide) ?_
        have el : (lad (uRow X) (KEYB K) (k + 1)) = ((stC (lad (uRow X) (KEYB K) k).2.2.1 (lad (uRow X) (KEYB K) k).2.2.2 (lad (uRow X) (KEYB K) k).1 (lad (uRow X) (KEYB K) k).2.1), (stD (uRow X) (lad (uRow X) (KEYB K) k).2.2.1 (lad (uRow X) (KEYB K) k).2.2.2 (lad (uRow X) (KEYB K) k).1 (lad (uRow X) (KEYB K) k).2.1), (stA (lad (uRow X) (KEYB K) k).2.2.1 (lad (uRow X) (KEYB K) k).2.2.2), (stB (lad (uRow X) (KEYB K) k).2.2.1 (lad (uRow X) (KEYB K) k).2.2.2)) := if_pos hc
        refine ih (k + 1) (by omega) W2 u27 u28 u29 u30 u31 u32 u33 ev4 H locs ls ?_ h (lv_sub hl [0, 1, 2, 3, 4] rfl)
        rw [el]
        rw [o4, o3]
        funext j
        by_cases c0 : j = 20
        · subst c0; simp [va_up]
        by_cases c1 : j = 27
        · subst c1; simp [va_up]
        by_cases c2 : j = 28
        · subst c2; simp [va_up]
        by_cases c3 : j = 29
        · subst c3; simp [va_up]
        by_cases c4 : j = 30
        · subst c4; simp [va_up]
        by_cases c5 : j = 31
        · subst c5; simp [va_up]
        by_cases c6 : j = 32
        · subst c6; simp [va_up]
        by_cases c7 : j = 33
        · subst c7; simp [va_up]
        by_cases c8 : j = 22
        · subst c8; simp [va_up]
        by_cases c9 : j = 23
        · subst c9; simp [va_up]
        by_cases c10 : j = 24
        · subst c10; simp [va_up]
        by_cases c11 : j = 25
        · subst c11; simp [va_up]
        simp only [va_up, c0, c1, c2, c3, c4, c5, c6, c7, c8, c9, c10, c11, if_false]
  refine loop3 255 0 rfl r20 r27 r28 r29 r30 r31 r32 r33 ev2 H locs ls ?_ h (lv_sub hl [0, 1, 2, 3, 4] rfl)
  rw [va_upi _ 20 t2_20, va_upi _ 27 t2_27, va_upi _ 28 t2_28, va_upi _ 29 t2_29, va_upi _ 30 t2_30, va_upi _ 31 t2_31, va_upi _ 32 t2_32, va_upi _ 33 t2_33]
  exact (by rw [show (lad (uRow X) (KEYB K) 0) = (rowV 1, rowV 0, uRow X, rowV 1) from rfl, va_upi _ 22 t2_22, va_upi _ 23 t2_23, va_upi _ 24 t2_24, va_upi _ 25 t2_25])
