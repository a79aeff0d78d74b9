theorem d_Cv_step_0 : decode c_Cv_step 0 = .ok (.aload_n 0, 1) := by decide +kernel
theorem d_Cv_step_1 : decode c_Cv_step 1 = .ok (.getfield 16, 3) := by decide +kernel
theorem d_Cv_step_4 : decode c_Cv_step 4 = .ok (.aload_n 1, 1) := by decide +kernel
theorem d_Cv_step_5 : decode c_Cv_step 5 = .ok (.aload_n 2, 1) := by decide +kernel
theorem d_Cv_step_6 : decode c_Cv_step 6 = .ok (.aload_n 0, 1) := by decide +kernel
theorem d_Cv_step_7 : decode c_Cv_step 7 = .ok (.getfield 46, 3) := by decide +kernel
theorem d_Cv_step_10 : decode c_Cv_step 10 = .ok (.invokevirtual 111, 3) := by decide +kernel
theorem d_Cv_step_13 : decode c_Cv_step 13 = .ok (.aload_n 0, 1) := by decide +kernel
theorem d_Cv_step_14 : decode c_Cv_step 14 = .ok (.getfield 16, 3) := by decide +kernel
theorem d_Cv_step_17 : decode c_Cv_step 17 = .ok (.aload_n 1, 1) := by decide +kernel
theorem d_Cv_step_18 : decode c_Cv_step 18 = .ok (.aload_n 2, 1) := by decide +kernel
theorem d_Cv_step_19 : decode c_Cv_step 19 = .ok (.aload_n 0, 1) := by decide +kernel
theorem d_Cv_step_20 : decode c_Cv_step 20 = .ok (.getfield 49, 3) := by decide +kernel
theorem d_Cv_step_23 : decode c_Cv_step 23 = .ok (.invokevirtual 114, 3) := by decide +kernel
theorem d_Cv_step_26 : decode c_Cv_step 26 = .ok (.aload_n 0, 1) := by decide +kernel
theorem d_Cv_step_27 : decode c_Cv_step 27 = .ok (.getfield 16, 3) := by decide +kernel
theorem d_Cv_step_30 : decode c_Cv_step 30 = .ok (.aload_n 3, 1) := by decide +kernel
theorem d_Cv_step_31 : decode c_Cv_step 31 = .ok (.aload 4, 2) := by decide +kernel
theorem d_Cv_step_33 : decode c_Cv_step 33 = .ok (.aload_n 0, 1) := by decide +kernel
theorem d_Cv_step_34 : decode c_Cv_step 34 = .ok (.getfield 52, 3) := by decide +kernel
theorem d_Cv_step_37 : decode c_Cv_step 37 = .ok (.invokevirtual 111, 3) := by decide +kernel
theorem d_Cv_step_40 : decode c_Cv_step 40 = .ok (.aload_n 0, 1) := by decide +kernel
theorem d_Cv_step_41 : decode c_Cv_step 41 = .ok (.getfield 16, 3) := by decide +kernel
theorem d_Cv_step_44 : decode c_Cv_step 44 = .ok (.aload_n 0, 1) := by decide +kernel
theorem d_Cv_step_45 : decode c_Cv_step 45 = .ok (.getfield 52, 3) := by decide +kernel
theorem d_Cv_step_48 : decode c_Cv_step 48 = .ok (.aload_n 0, 1) := by decide +kernel
theorem d_Cv_step_49 : decode c_Cv_step 49 = .ok (.getfield 49, 3) := by decide +kernel
theorem d_Cv_step_52 : decode c_Cv_step 52 = .ok (.aload_n 0, 1) := by decide +kernel
theorem d_Cv_step_53 : decode c_Cv_step 53 = .ok (.getfield 52, 3) := by decide +kernel
theorem d_Cv_step_56 : decode c_Cv_step 56 = .ok (.invokevirtual 82, 3) := by decide +kernel
theorem d_Cv_step_59 : decode c_Cv_step 59 = .ok (.aload_n 0, 1) := by decide +kernel
theorem d_Cv_step_60 : decode c_Cv_step 60 = .ok (.getfield 16, 3) := by decide +kernel
theorem d_Cv_step_63 : decode c_Cv_step 63 = .ok (.aload_n 3, 1) := by decide +kernel
theorem d_Cv_step_64 : decode c_Cv_step 64 = .ok (.aload 4, 2) := by decide +kernel
theorem d_Cv_step_66 : decode c_Cv_step 66 = .ok (.aload_n 0, 1) := by decide +kernel
theorem d_Cv_step_67 : decode c_Cv_step 67 = .ok (.getfield 55, 3) := by decide +kernel
theorem d_Cv_step_70 : decode c_Cv_step 70 = .ok (.invokevirtual 114, 3) := by decide +kernel
theorem d_Cv_step_73 : decode c_Cv_step 73 = .ok (.aload_n 0, 1) := by decide +kernel
theorem d_Cv_step_74 : decode c_Cv_step 74 = .ok (.getfield 16, 3) := by decide +kernel
theorem d_Cv_step_77 : decode c_Cv_step 77 = .ok (.aload_n 0, 1) := by decide +kernel
theorem d_Cv_step_78 : decode c_Cv_step 78 = .ok (.getfield 55, 3) := by decide +kernel
theorem d_Cv_step_81 : decode c_Cv_step 81 = .ok (.aload_n 0, 1) := by decide +kernel
theorem d_Cv_step_82 : decode c_Cv_step 82 = .ok (.getfield 46, 3) := by decide +kernel
theorem d_Cv_step_85 : decode c_Cv_step 85 = .ok (.aload_n 0, 1) := by decide +kernel
theorem d_Cv_step_86 : decode c_Cv_step 86 = .ok (.getfield 55, 3) := by decide +kernel
theorem d_Cv_step_89 : decode c_Cv_step 89 = .ok (.invokevirtual 82, 3) := by decide +kernel
theorem d_Cv_step_92 : decode c_Cv_step 92 = .ok (.aload_n 0, 1) := by decide +kernel
theorem d_Cv_step_93 : decode c_Cv_step 93 = .ok (.getfield 16, 3) := by decide +kernel
theorem d_Cv_step_96 : decode c_Cv_step 96 = .ok (.aload_n 0, 1) := by decide +kernel
theorem d_Cv_step_97 : decode c_Cv_step 97 = .ok (.getfield 46, 3) := by decide +kernel
theorem d_Cv_step_100 : decode c_Cv_step 100 = .ok (.aload_n 0, 1) := by decide +kernel
theorem d_Cv_step_101 : decode c_Cv_step 101 = .ok (.getfield 46, 3) := by decide +kernel
theorem d_Cv_step_104 : decode c_Cv_step 104 = .ok (.aload_n 0, 1) := by decide +kernel
theorem d_Cv_step_105 : decode c_Cv_step 105 = .ok (.getfield 58, 3) := by decide +kernel
theorem d_Cv_step_108 : decode c_Cv_step 108 = .ok (.invokevirtual 82, 3) := by decide +kernel
theorem d_Cv_step_111 : decode c_Cv_step 111 = .ok (.aload_n 0, 1) := by decide +kernel
theorem d_Cv_step_112 : decode c_Cv_step 112 = .ok (.getfield 16, 3) := by decide +kernel
theorem d_Cv_step_115 : decode c_Cv_step 115 = .ok (.aload_n 0, 1) := by decide +kernel
theorem d_Cv_step_116 : decode c_Cv_step 116 = .ok (.getfield 49, 3) := by decide +kernel
theorem d_Cv_step_119 : decode c_Cv_step 119 = .ok (.aload_n 0, 1) := by decide +kernel
theorem d_Cv_step_120 : decode c_Cv_step 120 = .ok (.getfield 49, 3) := by decide +kernel
theorem d_Cv_step_123 : decode c_Cv_step 123 = .ok (.aload_n 0, 1) := by decide +kernel
theorem d_Cv_step_124 : decode c_Cv_step 124 = .ok (.getfield 61, 3) := by decide +kernel
theorem d_Cv_step_127 : decode c_Cv_step 127 = .ok (.invokevirtual 82, 3) := by decide +kernel
theorem d_Cv_step_130 : decode c_Cv_step 130 = .ok (.aload_n 0, 1) := by decide +kernel
theorem d_Cv_step_131 : decode c_Cv_step 131 = .ok (.getfield 16, 3) := by decide +kernel
theorem d_Cv_step_134 : decode c_Cv_step 134 = .ok (.aload_n 0, 1) := by decide +kernel
theorem d_Cv_step_135 : decode c_Cv_step 135 = .ok (.getfield 58, 3) := by decide +kernel
theorem d_Cv_step_138 : decode c_Cv_step 138 = .ok (.aload_n 0, 1) := by decide +kernel
theorem d_Cv_step_139 : decode c_Cv_step 139 = .ok (.getfield 61, 3) := by decide +kernel
theorem d_Cv_step_142 : decode c_Cv_step 142 = .ok (.aload_n 0, 1) := by decide +kernel
theorem d_Cv_step_143 : decode c_Cv_step 143 = .ok (.getfield 64, 3) := by decide +kernel
theorem d_Cv_step_146 : decode c_Cv_step 146 = .ok (.invokevirtual 114, 3) := by decide +kernel
theorem d_Cv_step_149 : decode c_Cv_step 149 = .ok (.aload_n 0, 1) := by decide +kernel
theorem d_Cv_step_150 : decode c_Cv_step 150 = .ok (.getfield 16, 3) := by decide +kernel
theorem d_Cv_step_153 : decode c_Cv_step 153 = .ok (.aload_n 0, 1) := by decide +kernel
theorem d_Cv_step_154 : decode c_Cv_step 154 = .ok (.getfield 52, 3) := by decide +kernel
theorem d_Cv_step_157 : decode c_Cv_step 157 = .ok (.aload_n 0, 1) := by decide +kernel
theorem d_Cv_step_158 : decode c_Cv_step 158 = .ok (.getfield 55, 3) := by decide +kernel
theorem d_Cv_step_161 : decode c_Cv_step 161 = .ok (.aload_n 3, 1) := by decide +kernel
theorem d_Cv_step_162 : decode c_Cv_step 162 = .ok (.invokevirtual 111, 3) := by decide +kernel
theorem d_Cv_step_165 : decode c_Cv_step 165 = .ok (.aload_n 0, 1) := by decide +kernel
theorem d_Cv_step_166 : decode c_Cv_step 166 = .ok (.getfield 16, 3) := by decide +kernel
theorem d_Cv_step_169 : decode c_Cv_step 169 = .ok (.aload_n 3, 1) := by decide +kernel
theorem d_Cv_step_170 : decode c_Cv_step 170 = .ok (.aload_n 3, 1) := by decide +kernel
theorem d_Cv_step_171 : decode c_Cv_step 171 = .ok (.aload_n 3, 1) := by decide +kernel
theorem d_Cv_step_172 : decode c_Cv_step 172 = .ok (.invokevirtual 82, 3) := by decide +kernel
theorem d_Cv_step_175 : decode c_Cv_step 175 = .ok (.aload_n 0, 1) := by decide +kernel
theorem d_Cv_step_176 : decode c_Cv_step 176 = .ok (.getfield 16, 3) := by decide +kernel
theorem d_Cv_step_179 : decode c_Cv_step 179 = .ok (.aload_n 0, 1) := by decide +kernel
theorem d_Cv_step_180 : decode c_Cv_step 180 = .ok (.getfield 52, 3) := by decide +kernel
theorem d_Cv_step_183 : decode c_Cv_step 183 = .ok (.aload_n 0, 1) := by decide +kernel
theorem d_Cv_step_184 : decode c_Cv_step 184 = .ok (.getfield 55, 3) := by decide +kernel
theorem d_Cv_step_187 : decode c_Cv_step 187 = .ok (.aload 4, 2) := by decide +kernel
theorem d_Cv_step_189 : decode c_Cv_step 189 = .ok (.invokevirtual 114, 3) := by decide +kernel
theorem d_Cv_step_192 : decode c_Cv_step 192 = .ok (.aload_n 0, 1) := by decide +kernel
theorem d_Cv_step_193 : decode c_Cv_step 193 = .ok (.getfield 16, 3) := by decide +kernel
theorem d_Cv_step_196 : decode c_Cv_step 196 = .ok (.aload 4, 2) := by decide +kernel
theorem d_Cv_step_198 : decode c_Cv_step 198 = .ok (.aload 4, 2) := by decide +kernel
theorem d_Cv_step_200 : decode c_Cv_step 200 = .ok (.aload 4, 2) := by decide +kernel
theorem d_Cv_step_202 : decode c_Cv_step 202 = .ok (.invokevirtual 82, 3) := by decide +kernel
theorem d_Cv_step_205 : decode c_Cv_step 205 = .ok (.aload_n 0, 1) := by decide +kernel
theorem d_Cv_step_206 : decode c_Cv_step 206 = .ok (.getfield 16, 3) := by decide +kernel
theorem d_Cv_step_209 : decode c_Cv_step 209 = .ok (.aload_n 0, 1) := by decide +kernel
theorem d_Cv_step_210 : decode c_Cv_step 210 = .ok (.getfield 43, 3) := by decide +kernel
theorem d_Cv_step_213 : decode c_Cv_step 213 = .ok (.aload 4, 2) := by decide +kernel
theorem d_Cv_step_215 : decode c_Cv_step 215 = .ok (.aload 4, 2) := by decide +kernel
theorem d_Cv_step_217 : decode c_Cv_step 217 = .ok (.invokevirtual 82, 3) := by decide +kernel
theorem d_Cv_step_220 : decode c_Cv_step 220 = .ok (.aload_n 0, 1) := by decide +kernel
theorem d_Cv_step_221 : decode c_Cv_step 221 = .ok (.getfield 16, 3) := by decide +kernel
theorem d_Cv_step_224 : decode c_Cv_step 224 = .ok (.aload_n 0, 1) := by decide +kernel
theorem d_Cv_step_225 : decode c_Cv_step 225 = .ok (.getfield 58, 3) := by decide +kernel
theorem d_Cv_step_228 : decode c_Cv_step 228 = .ok (.aload_n 0, 1) := by decide +kernel
theorem d_Cv_step_229 : decode c_Cv_step 229 = .ok (.getfield 61, 3) := by decide +kernel
theorem d_Cv_step_232 : decode c_Cv_step 232 = .ok (.aload_n 1, 1) := by decide +kernel
theorem d_Cv_step_233 : decode c_Cv_step 233 = .ok (.invokevirtual 82, 3) := by decide +kernel
theorem d_Cv_step_236 : decode c_Cv_step 236 = .ok (.aload_n 0, 1) := by decide +kernel
theorem d_Cv_step_237 : decode c_Cv_step 237 = .ok (.getfield 16, 3) := by decide +kernel
theorem d_Cv_step_240 : decode c_Cv_step 240 = .ok (.aload_n 0, 1) := by decide +kernel
theorem d_Cv_step_241 : decode c_Cv_step 241 = .ok (.getfield 64, 3) := by decide +kernel
theorem d_Cv_step_244 : decode c_Cv_step 244 = .ok (.ldc 117, 2) := by decide +kernel
theorem d_Cv_step_246 : decode c_Cv_step 246 = .ok (.aload_n 2, 1) := by decide +kernel
theorem d_Cv_step_247 : decode c_Cv_step 247 = .ok (.invokevirtual 118, 3) := by decide +kernel
theorem d_Cv_step_250 : decode c_Cv_step 250 = .ok (.aload_n 0, 1) := by decide +kernel
theorem d_Cv_step_251 : decode c_Cv_step 251 = .ok (.getfield 16, 3) := by decide +kernel
theorem d_Cv_step_254 : decode c_Cv_step 254 = .ok (.aload_n 0, 1) := by decide +kernel
theorem d_Cv_step_255 : decode c_Cv_step 255 = .ok (.getfield 58, 3) := by decide +kernel
theorem d_Cv_step_258 : decode c_Cv_step 258 = .ok (.aload_n 2, 1) := by decide +kernel
theorem d_Cv_step_259 : decode c_Cv_step 259 = .ok (.aload_n 2, 1) := by decide +kernel
theorem d_Cv_step_260 : decode c_Cv_step 260 = .ok (.invokevirtual 111, 3) := by decide +kernel
theorem d_Cv_step_263 : decode c_Cv_step 263 = .ok (.aload_n 0, 1) := by decide +kernel
theorem d_Cv_step_264 : decode c_Cv_step 264 = .ok (.getfield 16, 3) := by decide +kernel
theorem d_Cv_step_267 : decode c_Cv_step 267 = .ok (.aload_n 0, 1) := by decide +kernel
theorem d_Cv_step_268 : decode c_Cv_step 268 = .ok (.getfield 64, 3) := by decide +kernel
theorem d_Cv_step_271 : decode c_Cv_step 271 = .ok (.aload_n 2, 1) := by decide +kernel
theorem d_Cv_step_272 : decode c_Cv_step 272 = .ok (.aload_n 2, 1) := by decide +kernel
theorem d_Cv_step_273 : decode c_Cv_step 273 = .ok (.invokevirtual 82, 3) := by decide +kernel
theorem d_Cv_step_276 : decode c_Cv_step 276 = .ok (.return_, 1) := by decide +kernel
set_option maxRecDepth 100000 in
set_option maxHeartbeats 4000000 in
/-- STEP, the rows 22 23 24 25 -/
theorem m_Cv_step (l : Launch) (G : wG) (A : Nat → Prop) (ad : Nat → Nat) (ev : Nat → va_E) (Ra Rb Rc Rd U zW zE zF zG zH zQ zR zT : Nat → Int64) (h18 : ev 18 = eO 0 [.ref (ad 19), .ref (ad 21), .ref (ad 22), .ref (ad 23), .ref (ad 24), .ref (ad 25), .ref (ad 26), .ref (ad 27), .ref (ad 28), .ref (ad 29), .ref (ad 30), .ref (ad 31), .ref (ad 32), .ref (ad 33)]) (h19 : ev 19 = eO 1 [.int (nI 10), .int (nI 21), .long 19, .long 608, .ref (ad 20)]) (ha : ev 22 = eJ G 10 Ra) (hb' : ev 23 = eJ G 10 Rb) (hc : ev 24 = eJ G 10 Rc) (hd : ev 25 = eJ G 10 Rd) (hu : ev 26 = eJ G 10 U) (h20 : ev 20 = eJ G 20 zW) (h27 : ev 27 = eJ G 10 zE) (h28 : ev 28 = eJ G 10 zF) (h29 : ev 29 = eJ G 10 zG) (h30 : ev 30 = eJ G 10 zH) (h31 : ev 31 = eJ G 10 zQ) (h32 : ev 32 = eJ G 10 zR) (h33 : ev 33 = eJ G 10 zT) : wM l y_Cv_step w_Cv_step ({ frames := 12, cells := 0, slots := 0, locals := 400 }) G A 52 ad ev [.ref (ad 18), .ref (ad 22), .ref (ad 23), .ref (ad 24), .ref (ad 25)] (fun ov ev' => ∃ (W E1 F1 G1 H1 Q1 R1 T1 : Nat → Int64), ov = none ∧ ev' = (va_up (va_up (va_up (va_up (va_up (va_up (va_up (va_up (va_up (va_up (va_up (va_up ev 20 (eJ G 20 W)) 27 (eJ G 10 E1)) 28 (eJ G 10 F1)) 29 (eJ G 10 G1)) 30 (eJ G 10 H1)) 31 (eJ G 10 Q1)) 32 (eJ G 10 R1)) 33 (eJ G 10 T1)) 22 (eJ G 10 (stA Ra Rb))) 23 (eJ G 10 (stB Ra Rb))) 24 (eJ G 10 (stC Ra Rb Rc Rd))) 25 (eJ G 10 (stD U Ra Rb Rc Rd)))) := by
  refine wv_ofW (cc := c_Cv_step) (maxL := 5) (ret := none) (by decide) rfl (Nat.le_of_ble_eq_true rfl) ?_
  intro p e s m below meth c ls hx hb hr hml hts hown hlocks hini h hl
  have hl : lv_has ls 5 [(0, .ref (ad 18)), (1, .ref (ad 22)), (2, .ref (ad 23)), (3, .ref (ad 24)), (4, .ref (ad 25))] := hl
  refine lv_aload_n hx hb d_Cv_step_0 rfl (lv_at hl 0 rfl) ?_
  refine wv_getf hx hb h 18 (by decide) (fs := [.ref (ad 19), .ref (ad 21), .ref (ad 22), .ref (ad 23), .ref (ad 24), .ref (ad 25), .ref (ad 26), .ref (ad 27), .ref (ad 28), .ref (ad 29), .ref (ad 30), .ref (ad 31), .ref (ad 32), .ref (ad 33)]) h18 hts (fun w hw => List.mem_cons_of_mem _ (fW_Cv w hw)) hown (ci := 0) (C := "NonceBox$Curve") (T := fT_Cv) (N := 14) rfl 0 (by decide) (hts _ (List.mem_cons_of_mem _ kf_Cv_16)) rfl (v := .ref (ad 19)) rfl d_Cv_step_1 ?_
  refine lv_aload_n hx hb d_Cv_step_4 rfl (lv_at hl 1 rfl) ?_
  refine lv_aload_n hx hb d_Cv_step_5 rfl (lv_at hl 2 rfl) ?_
  refine lv_aload_n hx hb d_Cv_step_6 rfl (lv_at hl 0 rfl) ?_
  refine wv_getf hx hb h 18 (by decide) (fs := [.ref (ad 19), .ref (ad 21), .ref (ad 22), .ref (ad 23), .ref (ad 24), .ref (ad 25), .ref (ad 26), .ref (ad 27), .ref (ad 28), .ref (ad 29), .ref (ad 30), .ref (ad 31), .ref (ad 32), .ref (ad 33)]) h18 hts (fun w hw => List.mem_cons_of_mem _ (fW_Cv w hw)) hown (ci := 0) (C := "NonceBox$Curve") (T := fT_Cv) (N := 14) rfl 7 (by decide) (hts _ (List.mem_cons_of_mem _ kf_Cv_46)) rfl (v := .ref (ad 27)) rfl d_Cv_step_7 ?_
  refine wv_V (As := [.ref (ad 22), .ref (ad 23), .ref (ad 27)]) (rest := []) (k := 3) ⟨hx, hb, hml, hown, hts⟩ h 19 (by decide) (C := "NonceBox$Field") h19 rfl (m_Fd_plus l G A ad ev 19 20 10 21 19 608 (by decide) h19 (by decide) (by decide) 22 23 27 Ra Rb zE (by decide) (by decide) (by decide) ha hb' h27 (by decide)) kc_Fd_plus kl_Cv_111 km_Fd_plus kv_Fd_plus ki_Fd (by decide +kernel) ⟨rfl, rfl, Nat.le_of_ble_eq_true rfl, Nat.le_of_ble_eq_true rfl⟩ hl.1 rfl rfl (Nat.le_of_ble_eq_true rfl) ⟨Nat.le_refl _, Nat.le_refl _⟩ d_Cv_step_10 ?_
  intro ov ev1 H locs hp h
  rw [hp.1]
  refine W.eq (g2 := F0 m 13 ls []) rfl ?_
  have o1 : ev1 = (va_up ev 27 (eJ G 10 (pl Ra Rb))) := hp.2
  have t1_27 : ev1 27 = eJ G 10 (pl Ra Rb) := by rw [o1, va_up_self]
  have t1_22 := (show ev1 22 = ev 22 by rw [o1, va_up_ne _ _ (by decide)]).trans ha
  have t1_23 := (show ev1 23 = ev 23 by rw [o1, va_up_ne _ _ (by decide)]).trans hb'
  have t1_24 := (show ev1 24 = ev 24 by rw [o1, va_up_ne _ _ (by decide)]).trans hc
  have t1_25 := (show ev1 25 = ev 25 by rw [o1, va_up_ne _ _ (by decide)]).trans hd
  have t1_26 := (show ev1 26 = ev 26 by rw [o1, va_up_ne _ _ (by decide)]).trans hu
  have t1_28 := (show ev1 28 = ev 28 by rw [o1, va_up_ne _ _ (by decide)]).trans h28
  have t1_29 := (show ev1 29 = ev 29 by rw [o1, va_up_ne _ _ (by decide)]).trans h29
  have t1_30 := (show ev1 30 = ev 30 by rw [o1, va_up_ne _ _ (by decide)]).trans h30
  have t1_31 := (show ev1 31 = ev 31 by rw [o1, va_up_ne _ _ (by decide)]).trans h31
  have t1_32 := (show ev1 32 = ev 32 by rw [o1, va_up_ne _ _ (by decide)]).trans h32
  have t1_33 := (show ev1 33 = ev 33 by rw [o1, va_up_ne _ _ (by decide)]).trans h33
  have t1_20 := (show ev1 20 = ev 20 by rw [o1, va_up_ne _ _ (by decide)]).trans h20
  have t1_18 := (show ev1 18 = ev 18 by rw [o1, va_up_ne _ _ (by decide)]).trans h18
  have t1_19 := (show ev1 19 = ev 19 by rw [o1, va_up_ne _ _ (by decide)]).trans h19
  refine lv_aload_n hx hb d_Cv_step_13 rfl (lv_at hl 0 rfl) ?_
  refine wv_getf hx hb h 18 (by decide) (fs := [.ref (ad 19), .ref (ad 21), .ref (ad 22), .ref (ad 23), .ref (ad 24), .ref (ad 25), .ref (ad 26), .ref (ad 27), .ref (ad 28), .ref (ad 29), .ref (ad 30), .ref (ad 31), .ref (ad 32), .ref (ad 33)]) t1_18 hts (fun w hw => List.mem_cons_of_mem _ (fW_Cv w hw)) hown (ci := 0) (C := "NonceBox$Curve") (T := fT_Cv) (N := 14) rfl 0 (by decide) (hts _ (List.mem_cons_of_mem _ kf_Cv_16)) rfl (v := .ref (ad 19)) rfl d_Cv_step_14 ?_
  refine lv_aload_n hx hb d_Cv_step_17 rfl (lv_at hl 1 rfl) ?_
  refine lv_aload_n hx hb d_Cv_step_18 rfl (lv_at hl 2 rfl) ?_
  refine lv_aload_n hx hb d_Cv_step_19 rfl (lv_at hl 0 rfl) ?_
  refine wv_getf hx hb h 18 (by decide) (fs := [.ref (ad 19), .ref (ad 21), .ref (ad 22), .ref (ad 23), .ref (ad 24), .ref (ad 25), .ref (ad 26), .ref (ad 27), .ref (ad 28), .ref (ad 29), .ref (ad 30), .ref (ad 31), .ref (ad 32), .ref (ad 33)]) t1_18 hts (fun w hw => List.mem_cons_of_mem _ (fW_Cv w hw)) hown (ci := 0) (C := "NonceBox$Curve") (T := fT_Cv) (N := 14) rfl 8 (by decide) (hts _ (List.mem_cons_of_mem _ kf_Cv_49)) rfl (v := .ref (ad 28)) rfl d_Cv_step_20 ?_
  refine wv_V (As := [.ref (ad 22), .ref (ad 23), .ref (ad 28)]) (rest := []) (k := 3) ⟨hx, hb, hml, hown, hts⟩ h 19 (by decide) (C := "NonceBox$Field") t1_19 rfl (m_Fd_minus l G A ad ev1 19 20 10 21 19 608 (by decide) t1_19 (by decide) (by decide) 22 23 28 Ra Rb zF (by decide) (by decide) (by decide) t1_22 t1_23 t1_28 (by decide)) kc_Fd_minus kl_Cv_114 km_Fd_minus kv_Fd_minus ki_Fd (by decide +kernel) ⟨rfl, rfl, Nat.le_of_ble_eq_true rfl, Nat.le_of_ble_eq_true rfl⟩ hl.1 rfl rfl (Nat.le_of_ble_eq_true rfl) ⟨Nat.le_refl _, Nat.le_refl _⟩ d_Cv_step_23 ?_
  intro ov ev2 H locs hp h
  rw [hp.1]
  refine W.eq (g2 := F0 m 26 ls []) rfl ?_
  have o2 : ev2 = (va_up ev1 28 (eJ G 10 (mi Ra Rb))) := hp.2
  have t2_28 : ev2 28 = eJ G 10 (mi Ra Rb) := by rw [o2, va_up_self]
  have t2_22 := (show ev2 22 = ev1 22 by rw [o2, va_up_ne _ _ (by decide)]).trans t1_22
  have t2_23 := (show ev2 23 = ev1 23 by rw [o2, va_up_ne _ _ (by decide)]).trans t1_23
  have t2_24 := (show ev2 24 = ev1 24 by rw [o2, va_up_ne _ _ (by decide)]).trans t1_24
  have t2_25 := (show ev2 25 = ev1 25 by rw [o2, va_up_ne _ _ (by decide)]).trans t1_25
  have t2_26 := (show ev2 26 = ev1 26 by rw [o2, va_up_ne _ _ (by decide)]).trans t1_26
  have t2_27 := (show ev2 27 = ev1 27 by rw [o2, va_up_ne _ _ (by decide)]).trans t1_27
  have t2_29 := (show ev2 29 = ev1 29 by rw [o2, va_up_ne _ _ (by decide)]).trans t1_29
  have t2_30 := (show ev2 30 = ev1 30 by rw [o2, va_up_ne _ _ (by decide)]).trans t1_30
  have t2_31 := (show ev2 31 = ev1 31 by rw [o2, va_up_ne _ _ (by decide)]).trans t1_31
  have t2_32 := (show ev2 32 = ev1 32 by rw [o2, va_up_ne _ _ (by decide)]).trans t1_32
  have t2_33 := (show ev2 33 = ev1 33 by rw [o2, va_up_ne _ _ (by decide)]).trans t1_33
  have t2_20 := (show ev2 20 = ev1 20 by rw [o2, va_up_ne _ _ (by decide)]).trans t1_20
  have t2_18 := (show ev2 18 = ev1 18 by rw [o2, va_up_ne _ _ (by decide)]).trans t1_18
  have t2_19 := (show ev2 19 = ev1 19 by rw [o2, va_up_ne _ _ (by decide)]).trans t1_19
  refine lv_aload_n hx hb d_Cv_step_26 rfl (lv_at hl 0 rfl) ?_
  refine wv_getf hx hb h 18 (by decide) (fs := [.ref (ad 19), .ref (ad 21), .ref (ad 22), .ref (ad 23), .ref (ad 24), .ref (ad 25), .ref (ad 26), .ref (ad 27), .ref (ad 28), .ref (ad 29), .ref (ad 30), .ref (ad 31), .ref (ad 32), .ref (ad 33)]) t2_18 hts (fun w hw => List.mem_cons_of_mem _ (fW_Cv w hw)) hown (ci := 0) (C := "NonceBox$Curve") (T := fT_Cv) (N := 14) rfl 0 (by decide) (hts _ (List.mem_cons_of_mem _ kf_Cv_16)) rfl (v := .ref (ad 19)) rfl d_Cv_step_27 ?_
  refine lv_aload_n hx hb d_Cv_step_30 rfl (lv_at hl 3 rfl) ?_
  refine lv_aload hx hb d_Cv_step_31 (lv_at hl 4 rfl) ?_
  refine lv_aload_n hx hb d_Cv_step_33 rfl (lv_at hl 0 rfl) ?_
  refine wv_getf hx hb h 18 (by decide) (fs := [.ref (ad 19), .ref (ad 21), .ref (ad 22), .ref (ad 23), .ref (ad 24), .ref (ad 25), .ref (ad 26), .ref (ad 27), .ref (ad 28), .ref (ad 29), .ref (ad 30), .ref (ad 31), .ref (ad 32), .ref (ad 33)]) t2_18 hts (fun w hw => List.mem_cons_of_mem _ (fW_Cv w hw)) hown (ci := 0) (C := "NonceBox$Curve") (T := fT_Cv) (N := 14) rfl 9 (by decide) (hts _ (List.mem_cons_of_mem _ kf_Cv_52)) rfl (v := .ref (ad 29)) rfl d_Cv_step_34 ?_
  refine wv_V (As := [.ref (ad 24), .ref (ad 25), .ref (ad 29)]) (rest := []) (k := 3) ⟨hx, hb, hml, hown, hts⟩ h 19 (by decide) (C := "NonceBox$Field") t2_19 rfl (m_Fd_plus l G A ad ev2 19 20 10 21 19 608 (by decide) t2_19 (by decide) (by decide) 24 25 29 Rc Rd zG (by decide) (by decide) (by decide) t2_24 t2_25 t2_29 (by decide)) kc_Fd_plus kl_Cv_111 km_Fd_plus kv_Fd_plus ki_Fd (by decide +kernel) ⟨rfl, rfl, Nat.le_of_ble_eq_true rfl, Nat.le_of_ble_eq_true rfl⟩ hl.1 rfl rfl (Nat.le_of_ble_eq_true rfl) ⟨Nat.le_refl _, Nat.le_refl _⟩ d_Cv_step_37 ?_
  intro ov ev3 H locs hp h
  rw [hp.1]
  refine W.eq (g2 := F0 m 40 ls []) rfl ?_
  have o3 : ev3 = (va_up ev2 29 (eJ G 10 (pl Rc Rd))) := hp.2
  have t3_29 : ev3 29 = eJ G 10 (pl Rc Rd) := by rw [o3, va_up_self]
  have t3_22 := (show ev3 22 = ev2 22 by rw [o3, va_up_ne _ _ (by decide)]).trans t2_22
  have t3_23 := (show ev3 23 = ev2 23 by rw [o3, va_up_ne _ _ (by decide)]).trans t2_23
  have t3_24 := (show ev3 24 = ev2 24 by rw [o3, va_up_ne _ _ (by decide)]).trans t2_24
  have t3_25 := (show ev3 25 = ev2 25 by rw [o3, va_up_ne _ _ (by decide)]).trans t2_25
  have t3_26 := (show ev3 26 = ev2 26 by rw [o3, va_up_ne _ _ (by decide)]).trans t2_26
  have t3_27 := (show ev3 27 = ev2 27 by rw [o3, va_up_ne _ _ (by decide)]).trans t2_27
  have t3_28 := (show ev3 28 = ev2 28 by rw [o3, va_up_ne _ _ (by decide)]).trans t2_28
  have t3_30 := (show ev3 30 = ev2 30 by rw [o3, va_up_ne _ _ (by decide)]).trans t2_30
  have t3_31 := (show ev3 31 = ev2 31 by rw [o3, va_up_ne _ _ (by decide)]).trans t2_31
  have t3_32 := (show ev3 32 = ev2 32 by rw [o3, va_up_ne _ _ (by decide)]).trans t2_32
  have t3_33 := (show ev3 33 = ev2 33 by rw [o3, va_up_ne _ _ (by decide)]).trans t2_33
  have t3_20 := (show ev3 20 = ev2 20 by rw [o3, va_up_ne _ _ (by decide)]).trans t2_20
  have t3_18 := (show ev3 18 = ev2 18 by rw [o3, va_up_ne _ _ (by decide)]).trans t2_18
  have t3_19 := (show ev3 19 = ev2 19 by rw [o3, va_up_ne _ _ (by decide)]).trans t2_19
  refine lv_aload_n hx hb d_Cv_step_40 rfl (lv_at hl 0 rfl) ?_
  refine wv_getf hx hb h 18 (by decide) (fs := [.ref (ad 19), .ref (ad 21), .ref (ad 22), .ref (ad 23), .ref (ad 24), .ref (ad 25), .ref (ad 26), .ref (ad 27), .ref (ad 28), .ref (ad 29), .ref (ad 30), .ref (ad 31), .ref (ad 32), .ref (ad 33)]) t3_18 hts (fun w hw => List.mem_cons_of_mem _ (fW_Cv w hw)) hown (ci := 0) (C := "NonceBox$Curve") (T := fT_Cv) (N := 14) rfl 0 (by decide) (hts _ (List.mem_cons_of_mem _ kf_Cv_16)) rfl (v := .ref (ad 19)) rfl d_Cv_step_41 ?_
  refine lv_aload_n hx hb d_Cv_step_44 rfl (lv_at hl 0 rfl) ?_
  refine wv_getf hx hb h 18 (by decide) (fs := [.ref (ad 19), .ref (ad 21), .ref (ad 22), .ref (ad 23), .ref (ad 24), .ref (ad 25), .ref (ad 26), .ref (ad 27), .ref (ad 28), .ref (ad 29), .ref (ad 30), .ref (ad 31), .ref (ad 32), .ref (ad 33)]) t3_18 hts (fun w hw => List.mem_cons_of_mem _ (fW_Cv w hw)) hown (ci := 0) (C := "NonceBox$Curve") (T := fT_Cv) (N := 14) rfl 9 (by decide) (hts _ (List.mem_cons_of_mem _ kf_Cv_52)) rfl (v := .ref (ad 29)) rfl d_Cv_step_45 ?_
  refine lv_aload_n hx hb d_Cv_step_48 rfl (lv_at hl 0 rfl) ?_
  refine wv_getf hx hb h 18 (by decide) (fs := [.ref (ad 19), .ref (ad 21), .ref (ad 22), .ref (ad 23), .ref (ad 24), .ref (ad 25), .ref (ad 26), .ref (ad 27), .ref (ad 28), .ref (ad 29), .ref (ad 30), .ref (ad 31), .ref (ad 32), .ref (ad 33)]) t3_18 hts (fun w hw => List.mem_cons_of_mem _ (fW_Cv w hw)) hown (ci := 0) (C := "NonceBox$Curve") (T := fT_Cv) (N := 14) rfl 8 (by decide) (hts _ (List.mem_cons_of_mem _ kf_Cv_49)) rfl (v := .ref (ad 28)) rfl d_Cv_step_49 ?_
  refine lv_aload_n hx hb d_Cv_step_52 rfl (lv_at hl 0 rfl) ?_
  refine wv_getf hx hb h 18 (by decide) (fs := [.ref (ad 19), .ref (ad 21), .ref (ad 22), .ref (ad 23), .ref (ad 24), .ref (ad 25), .ref (ad 26), .ref (ad 27), .ref (ad 28), .ref (ad 29), .ref (ad 30), .ref (ad 31), .ref (ad 32), .ref (ad 33)]) t3_18 hts (fun w hw => List.mem_cons_of_mem _ (fW_Cv w hw)) hown (ci := 0) (C := "NonceBox$Curve") (T := fT_Cv) (N := 14) rfl 9 (by decide) (hts _ (List.mem_cons_of_mem _ kf_Cv_52)) rfl (v := .ref (ad 29)) rfl d_Cv_step_53 ?_
  refine wv_V (As := [.ref (ad 29), .ref (ad 28), .ref (ad 29)]) (rest := []) (k := 3) ⟨hx, hb, hml, hown, hts⟩ h 19 (by decide) (C := "NonceBox$Field") t3_19 rfl (m_Fd_times l G A ad ev3 19 20 10 21 19 608 (by decide) t3_19 (by decide) (by decide) 29 28 29 (pl Rc Rd) (mi Ra Rb) (pl Rc Rd) zW (by decide) (by decide) (by decide) (by decide) t3_29 t3_28 t3_29 t3_20 (by decide) (by decide) (by decide) (by decide) (by decide)) kc_Fd_times kl_Cv_82 km_Fd_times kv_Fd_times ki_Fd (by decide +kernel) ⟨rfl, rfl, Nat.le_of_ble_eq_true rfl, Nat.le_of_ble_eq_true rfl⟩ hl.1 rfl rfl (Nat.le_of_ble_eq_true rfl) ⟨Nat.le_refl _, Nat.le_refl _⟩ d_Cv_step_56 ?_
  intro ov ev4 H locs hp h
  rw [hp.1]
  refine W.eq (g2 := F0 m 59 ls []) rfl ?_
  have o4 : ev4 = (va_up (va_up ev3 20 (eJ G 20 (wdC (pl Rc Rd) (mi Ra Rb) 10))) 29 (eJ G 10 (stG Ra Rb Rc Rd))) := hp.2
  have t4_20 : ev4 20 = eJ G 20 (wdC (pl Rc Rd) (mi Ra Rb) 10) := by rw [o4, va_up_ne _ _ (by decide), va_up_self]
  have t4_29 : ev4 29 = eJ G 10 (stG Ra Rb Rc Rd) := by rw [o4, va_up_self]
  have t4_22 := (show ev4 22 = ev3 22 by rw [o4, va_up_ne _ _ (by decide), va_up_ne _ _ (by decide)]).trans t3_22
  have t4_23 := (show ev4 23 = ev3 23 by rw [o4, va_up_ne _ _ (by decide), va_up_ne _ _ (by decide)]).trans t3_23
  have t4_24 := (show ev4 24 = ev3 24 by rw [o4, va_up_ne _ _ (by decide), va_up_ne _ _ (by decide)]).trans t3_24
  have t4_25 := (show ev4 25 = ev3 25 by rw [o4, va_up_ne _ _ (by decide), va_up_ne _ _ (by decide)]).trans t3_25
  have t4_26 := (show ev4 26 = ev3 26 by rw [o4, va_up_ne _ _ (by decide), va_up_ne _ _ (by decide)]).trans t3_26
  have t4_27 := (show ev4 27 = ev3 27 by rw [o4, va_up_ne _ _ (by decide), va_up_ne _ _ (by decide)]).trans t3_27
  have t4_28 := (show ev4 28 = ev3 28 by rw [o4, va_up_ne _ _ (by decide), va_up_ne _ _ (by decide)]).trans t3_28
  have t4_30 := (show ev4 30 = ev3 30 by rw [o4, va_up_ne _ _ (by decide), va_up_ne _ _ (by decide)]).trans t3_30
  have t4_31 := (show ev4 31 = ev3 31 by rw [o4, va_up_ne _ _ (by decide), va_up_ne _ _ (by decide)]).trans t3_31
  have t4_32 := (show ev4 32 = ev3 32 by rw [o4, va_up_ne _ _ (by decide), va_up_ne _ _ (by decide)]).trans t3_32
  have t4_33 := (show ev4 33 = ev3 33 by rw [o4, va_up_ne _ _ (by decide), va_up_ne _ _ (by decide)]).trans t3_33
  have t4_18 := (show ev4 18 = ev3 18 by rw [o4, va_up_ne _ _ (by decide), va_up_ne _ _ (by decide)]).trans t3_18
  have t4_19 := (show ev4 19 = ev3 19 by rw [o4, va_up_ne _ _ (by decide), va_up_ne _ _ (by decide)]).trans t3_19
  refine lv_aload_n hx hb d_Cv_step_59 rfl (lv_at hl 0 rfl) ?_
  refine wv_getf hx hb h 18 (by decide) (fs := [.ref (ad 19), .ref (ad 21), .ref (ad 22), .ref (ad 23), .ref (ad 24), .ref (ad 25), .ref (ad 26), .ref (ad 27), .ref (ad 28), .ref (ad 29), .ref (ad 30), .ref (ad 31), .ref (ad 32), .ref (ad 33)]) t4_18 hts (fun w hw => List.mem_cons_of_mem _ (fW_Cv w hw)) hown (ci := 0) (C := "NonceBox$Curve") (T := fT_Cv) (N := 14) rfl 0 (by decide) (hts _ (List.mem_cons_of_mem _ kf_Cv_16)) rfl (v := .ref (ad 19)) rfl d_Cv_step_60 ?_
  refine lv_aload_n hx hb d_Cv_step_63 rfl (lv_at hl 3 rfl) ?_
  refine lv_aload hx hb d_Cv_step_64 (lv_at hl 4 rfl) ?_
  refine lv_aload_n hx hb d_Cv_step_66 rfl (lv_at hl 0 rfl) ?_
  refine wv_getf hx hb h 18 (by decide) (fs := [.ref (ad 19), .ref (ad 21), .ref (ad 22), .ref (ad 23), .ref (ad 24), .ref (ad 25), .ref (ad 26), .ref (ad 27), .ref (ad 28), .ref (ad 29), .ref (ad 30), .ref (ad 31), .ref (ad 32), .ref (ad 33)]) t4_18 hts (fun w hw => List.mem_cons_of_mem _ (fW_Cv w hw)) hown (ci := 0) (C := "NonceBox$Curve") (T := fT_Cv) (N := 14) rfl 10 (by decide) (hts _ (List.mem_cons_of_mem _ kf_Cv_55)) rfl (v := .ref (ad 30)) rfl d_Cv_step_67 ?_
  refine wv_V (As := [.ref (ad 24), .ref (ad 25), .ref (ad 30)]) (rest := []) (k := 3) ⟨hx, hb, hml, hown, hts⟩ h 19 (by decide) (C := "NonceBox$Field") t4_19 rfl (m_Fd_minus l G A ad ev4 19 20 10 21 19 608 (by decide) t4_19 (by decide) (by decide) 24 25 30 Rc Rd zH (by decide) (by decide) (by decide) t4_24 t4_25 t4_30 (by decide)) kc_Fd_minus kl_Cv_114 km_Fd_minus kv_Fd_minus ki_Fd (by decide +kernel) ⟨rfl, rfl, Nat.le_of_ble_eq_true rfl, Nat.le_of_ble_eq_true rfl⟩ hl.1 rfl rfl (Nat.le_of_ble_eq_true rfl) ⟨Nat.le_refl _, Nat.le_refl _⟩ d_Cv_step_70 ?_
  intro ov ev5 H locs hp h
  rw [hp.1]
  refine W.eq (g2 := F0 m 73 ls []) rfl ?_
  have o5 : ev5 = (va_up ev4 30 (eJ G 10 (mi Rc Rd))) := hp.2
  have t5_30 : ev5 30 = eJ G 10 (mi Rc Rd) := by rw [o5, va_up_self]
  have t5_22 := (show ev5 22 = ev4 22 by rw [o5, va_up_ne _ _ (by decide)]).trans t4_22
  have t5_23 := (show ev5 23 = ev4 23 by rw [o5, va_up_ne _ _ (by decide)]).trans t4_23
  have t5_24 := (show ev5 24 = ev4 24 by rw [o5, va_up_ne _ _ (by decide)]).trans t4_24
  have t5_25 := (show ev5 25 = ev4 25 by rw [o5, va_up_ne _ _ (by decide)]).trans t4_25
  have t5_26 := (show ev5 26 = ev4 26 by rw [o5, va_up_ne _ _ (by decide)]).trans t4_26
  have t5_27 := (show ev5 27 = ev4 27 by rw [o5, va_up_ne _ _ (by decide)]).trans t4_27
  have t5_28 := (show ev5 28 = ev4 28 by rw [o5, va_up_ne _ _ (by decide)]).trans t4_28
  have t5_29 := (show ev5 29 = ev4 29 by rw [o5, va_up_ne _ _ (by decide)]).trans t4_29
  have t5_31 := (show ev5 31 = ev4 31 by rw [o5, va_up_ne _ _ (by decide)]).trans t4_31
  have t5_32 := (show ev5 32 = ev4 32 by rw [o5, va_up_ne _ _ (by decide)]).trans t4_32
  have t5_33 := (show ev5 33 = ev4 33 by rw [o5, va_up_ne _ _ (by decide)]).trans t4_33
  have t5_20 := (show ev5 20 = ev4 20 by rw [o5, va_up_ne _ _ (by decide)]).trans t4_20
  have t5_18 := (show ev5 18 = ev4 18 by rw [o5, va_up_ne _ _ (by decide)]).trans t4_18
  have t5_19 := (show ev5 19 = ev4 19 by rw [o5, va_up_ne _ _ (by decide)]).trans t4_19
  refine lv_aload_n hx hb d_Cv_step_73 rfl (lv_at hl 0 rfl) ?_
  refine wv_getf hx hb h 18 (by decide) (fs := [.ref (ad 19), .ref (ad 21), .ref (ad 22), .ref (ad 23), .ref (ad 24), .ref (ad 25), .ref (ad 26), .ref (ad 27), .ref (ad 28), .ref (ad 29), .ref (ad 30), .ref (ad 31), .ref (ad 32), .ref (ad 33)]) t5_18 hts (fun w hw => List.mem_cons_of_mem _ (fW_Cv w hw)) hown (ci := 0) (C := "NonceBox$Curve") (T := fT_Cv) (N := 14) rfl 0 (by decide) (hts _ (List.mem_cons_of_mem _ kf_Cv_16)) rfl (v := .ref (ad 19)) rfl d_Cv_step_74 ?_
  refine lv_aload_n hx hb d_Cv_step_77 rfl (lv_at hl 0 rfl) ?_
  refine wv_getf hx hb h 18 (by decide) (fs := [.ref (ad 19), .ref (ad 21), .ref (ad 22), .ref (ad 23), .ref (ad 24), .ref (ad 25), .ref (ad 26), .ref (ad 27), .ref (ad 28), .ref (ad 29), .ref (ad 30), .ref (ad 31), .ref (ad 32), .ref (ad 33)]) t5_18 hts (fun w hw => List.mem_cons_of_mem _ (fW_Cv w hw)) hown (ci := 0) (C := "NonceBox$Curve") (T := fT_Cv) (N := 14) rfl 10 (by decide) (hts _ (List.mem_cons_of_mem _ kf_Cv_55)) rfl (v := .ref (ad 30)) rfl d_Cv_step_78 ?_
  refine lv_aload_n hx hb d_Cv_step_81 rfl (lv_at hl 0 rfl) ?_
  refine wv_getf hx hb h 18 (by decide) (fs := [.ref (ad 19), .ref (ad 21), .ref (ad 22), .ref (ad 23), .ref (ad 24), .ref (ad 25), .ref (ad 26), .ref (ad 27), .ref (ad 28), .ref (ad 29), .ref (ad 30), .ref (ad 31), .ref (ad 32), .ref (ad 33)]) t5_18 hts (fun w hw => List.mem_cons_of_mem _ (fW_Cv w hw)) hown (ci := 0) (C := "NonceBox$Curve") (T := fT_Cv) (N := 14) rfl 7 (by decide) (hts _ (List.mem_cons_of_mem _ kf_Cv_46)) rfl (v := .ref (ad 27)) rfl d_Cv_step_82 ?_
  refine lv_aload_n hx hb d_Cv_step_85 rfl (lv_at hl 0 rfl) ?_
  refine wv_getf hx hb h 18 (by decide) (fs := [.ref (ad 19), .ref (ad 21), .ref (ad 22), .ref (ad 23), .ref (ad 24), .ref (ad 25), .ref (ad 26), .ref (ad 27), .ref (ad 28), .ref (ad 29), .ref (ad 30), .ref (ad 31), .ref (ad 32), .ref (ad 33)]) t5_18 hts (fun w hw => List.mem_cons_of_mem _ (fW_Cv w hw)) hown (ci := 0) (C := "NonceBox$Curve") (T := fT_Cv) (N := 14) rfl 10 (by decide) (hts _ (List.mem_cons_of_mem _ kf_Cv_55)) rfl (v := .ref (ad 30)) rfl d_Cv_step_86 ?_
  refine wv_V (As := [.ref (ad 30), .ref (ad 27), .ref (ad 30)]) (rest := []) (k := 3) ⟨hx, hb, hml, hown, hts⟩ h 19 (by decide) (C := "NonceBox$Field") t5_19 rfl (m_Fd_times l G A ad ev5 19 20 10 21 19 608 (by decide) t5_19 (by decide) (by decide) 30 27 30 (mi Rc Rd) (pl Ra Rb) (mi Rc Rd) (wdC (pl Rc Rd) (mi Ra Rb) 10) (by decide) (by decide) (by decide) (by decide) t5_30 t5_27 t5_30 t5_20 (by decide) (by decide) (by decide) (by decide) (by decide)) kc_Fd_times kl_Cv_82 km_Fd_times kv_Fd_times ki_Fd (by decide +kernel) ⟨rfl, rfl, Nat.le_of_ble_eq_true rfl, Nat.le_of_ble_eq_true rfl⟩ hl.1 rfl rfl (Nat.le_of_ble_eq_true rfl) ⟨Nat.le_refl _, Nat.le_refl _⟩ d_Cv_step_89 ?_
  intro ov ev6 H locs hp h
  rw [hp.1]
  refine W.eq (g2 := F0 m 92 ls []) rfl ?_
  have o6 : ev6 = (va_up (va_up ev5 20 (eJ G 20 (wdC (mi Rc Rd) (pl Ra Rb) 10))) 30 (eJ G 10 (stH Ra Rb Rc Rd))) := hp.2
  have t6_20 : ev6 20 = eJ G 20 (wdC (mi Rc Rd) (pl Ra Rb) 10) := by rw [o6, va_up_ne _ _ (by decide), va_up_self]
  have t6_30 : ev6 30 = eJ G 10 (stH Ra Rb Rc Rd) := by rw [o6, va_up_self]
  have t6_22 := (show ev6 22 = ev5 22 by rw [o6, va_up_ne _ _ (by decide), va_up_ne _ _ (by decide)]).trans t5_22
  have t6_23 := (show ev6 23 = ev5 23 by rw [o6, va_up_ne _ _ (by decide), va_up_ne _ _ (by decide)]).trans t5_23
  have t6_24 := (show ev6 24 = ev5 24 by rw [o6, va_up_ne _ _ (by decide), va_up_ne _ _ (by decide)]).trans t5_24
  have t6_25 := (show ev6 25 = ev5 25 by rw [o6, va_up_ne _ _ (by decide), va_up_ne _ _ (by decide)]).trans t5_25
  have t6_26 := (show ev6 26 = ev5 26 by rw [o6, va_up_ne _ _ (by decide), va_up_ne _ _ (by decide)]).trans t5_26
  have t6_27 := (show ev6 27 = ev5 27 by rw [o6, va_up_ne _ _ (by decide), va_up_ne _ _ (by decide)]).trans t5_27
  have t6_28 := (show ev6 28 = ev5 28 by rw [o6, va_up_ne _ _ (by decide), va_up_ne _ _ (by decide)]).trans t5_28
  have t6_29 := (show ev6 29 = ev5 29 by rw [o6, va_up_ne _ _ (by decide), va_up_ne _ _ (by decide)]).trans t5_29
  have t6_31 := (show ev6 31 = ev5 31 by rw [o6, va_up_ne _ _ (by decide), va_up_ne _ _ (by decide)]).trans t5_31
  have t6_32 := (show ev6 32 = ev5 32 by rw [o6, va_up_ne _ _ (by decide), va_up_ne _ _ (by decide)]).trans t5_32
  have t6_33 := (show ev6 33 = ev5 33 by rw [o6, va_up_ne _ _ (by decide), va_up_ne _ _ (by decide)]).trans t5_33
  have t6_18 := (show ev6 18 = ev5 18 by rw [o6, va_up_ne _ _ (by decide), va_up_ne _ _ (by decide)]).trans t5_18
  have t6_19 := (show ev6 19 = ev5 19 by rw [o6, va_up_ne _ _ (by decide), va_up_ne _ _ (by decide)]).trans t5_19
  refine lv_aload_n hx hb d_Cv_step_92 rfl (lv_at hl 0 rfl) ?_
  refine wv_getf hx hb h 18 (by decide) (fs := [.ref (ad 19), .ref (ad 21), .ref (ad 22), .ref (ad 23), .ref (ad 24), .ref (ad 25), .ref (ad 26), .ref (ad 27), .ref (ad 28), .ref (ad 29), .ref (ad 30), .ref (ad 31), .ref (ad 32), .ref (ad 33)]) t6_18 hts (fun w hw => List.mem_cons_of_mem _ (fW_Cv w hw)) hown (ci := 0) (C := "NonceBox$Curve") (T := fT_Cv) (N := 14) rfl 0 (by decide) (hts _ (List.mem_cons_of_mem _ kf_Cv_16)) rfl (v := .ref (ad 19)) rfl d_Cv_step_93 ?_
  refine lv_aload_n hx hb d_Cv_step_96 rfl (lv_at hl 0 rfl) ?_
  refine wv_getf hx hb h 18 (by decide) (fs := [.ref (ad 19), .ref (ad 21), .ref (ad 22), .ref (ad 23), .ref (ad 24), .ref (ad 25), .ref (ad 26), .ref (ad 27), .ref (ad 28), .ref (ad 29), .ref (ad 30), .ref (ad 31), .ref (ad 32), .ref (ad 33)]) t6_18 hts (fun w hw => List.mem_cons_of_mem _ (fW_Cv w hw)) hown (ci := 0) (C := "NonceBox$Curve") (T := fT_Cv) (N := 14) rfl 7 (by decide) (hts _ (List.mem_cons_of_mem _ kf_Cv_46)) rfl (v := .ref (ad 27)) rfl d_Cv_step_97 ?_
  refine lv_aload_n hx hb d_Cv_step_100 rfl (lv_at hl 0 rfl) ?_
  refine wv_getf hx hb h 18 (by decide) (fs := [.ref (ad 19), .ref (ad 21), .ref (ad 22), .ref (ad 23), .ref (ad 24), .ref (ad 25), .ref (ad 26), .ref (ad 27), .ref (ad 28), .ref (ad 29), .ref (ad 30), .ref (ad 31), .ref (ad 32), .ref (ad 33)]) t6_18 hts (fun w hw => List.mem_cons_of_mem _ (fW_Cv w hw)) hown (ci := 0) (C := "NonceBox$Curve") (T := fT_Cv) (N := 14) rfl 7 (by decide) (hts _ (List.mem_cons_of_mem _ kf_Cv_46)) rfl (v := .ref (ad 27)) rfl d_Cv_step_101 ?_
  refine lv_aload_n hx hb d_Cv_step_104 rfl (lv_at hl 0 rfl) ?_
  refine wv_getf hx hb h 18 (by decide) (fs := [.ref (ad 19), .ref (ad 21), .ref (ad 22), .ref (ad 23), .ref (ad 24), .ref (ad 25), .ref (ad 26), .ref (ad 27), .ref (ad 28), .ref (ad 29), .ref (ad 30), .ref (ad 31), .ref (ad 32), .ref (ad 33)]) t6_18 hts (fun w hw => List.mem_cons_of_mem _ (fW_Cv w hw)) hown (ci := 0) (C := "NonceBox$Curve") (T := fT_Cv) (N := 14) rfl 11 (by decide) (hts _ (List.mem_cons_of_mem _ kf_Cv_58)) rfl (v := .ref (ad 31)) rfl d_Cv_step_105 ?_
  refine wv_V (As := [.ref (ad 27), .ref (ad 27), .ref (ad 31)]) (rest := []) (k := 3) ⟨hx, hb, hml, hown, hts⟩ h 19 (by decide) (C := "NonceBox$Field") t6_19 rfl (m_Fd_times l G A ad ev6 19 20 10 21 19 608 (by decide) t6_19 (by decide) (by decide) 27 27 31 (pl Ra Rb) (pl Ra Rb) zQ (wdC (mi Rc Rd) (pl Ra Rb) 10) (by decide) (by decide) (by decide) (by decide) t6_27 t6_27 t6_31 t6_20 (by decide) (by decide) (by decide) (by decide) (by decide)) kc_Fd_times kl_Cv_82 km_Fd_times kv_Fd_times ki_Fd (by decide +kernel) ⟨rfl, rfl, Nat.le_of_ble_eq_true rfl, Nat.le_of_ble_eq_true rfl⟩ hl.1 rfl rfl (Nat.le_of_ble_eq_true rfl) ⟨Nat.le_refl _, Nat.le_refl _⟩ d_Cv_step_108 ?_
  intro ov ev7 H locs hp h
  rw [hp.1]
  refine W.eq (g2 := F0 m 111 ls []) rfl ?_
  have o7 : ev7 = (va_up (va_up ev6 20 (eJ G 20 (wdC (pl Ra Rb) (pl Ra Rb) 10))) 31 (eJ G 10 (stQ Ra Rb))) := hp.2
  have t7_20 : ev7 20 = eJ G 20 (wdC (pl Ra Rb) (pl Ra Rb) 10) := by rw [o7, va_up_ne _ _ (by decide), va_up_self]
  have t7_31 : ev7 31 = eJ G 10 (stQ Ra Rb) := by rw [o7, va_up_self]
  have t7_22 := (show ev7 22 = ev6 22 by rw [o7, va_up_ne _ _ (by decide), va_up_ne _ _ (by decide)]).trans t6_22
  have t7_23 := (show ev7 23 = ev6 23 by rw [o7, va_up_ne _ _ (by decide), va_up_ne _ _ (by decide)]).trans t6_23
  have t7_24 := (show ev7 24 = ev6 24 by rw [o7, va_up_ne _ _ (by decide), va_up_ne _ _ (by decide)]).trans t6_24
  have t7_25 := (show ev7 25 = ev6 25 by rw [o7, va_up_ne _ _ (by decide), va_up_ne _ _ (by decide)]).trans t6_25
  have t7_26 := (show ev7 26 = ev6 26 by rw [o7, va_up_ne _ _ (by decide), va_up_ne _ _ (by decide)]).trans t6_26
  have t7_27 := (show ev7 27 = ev6 27 by rw [o7, va_up_ne _ _ (by decide), va_up_ne _ _ (by decide)]).trans t6_27
  have t7_28 := (show ev7 28 = ev6 28 by rw [o7, va_up_ne _ _ (by decide), va_up_ne _ _ (by decide)]).trans t6_28
  have t7_29 := (show ev7 29 = ev6 29 by rw [o7, va_up_ne _ _ (by decide), va_up_ne _ _ (by decide)]).trans t6_29
  have t7_30 := (show ev7 30 = ev6 30 by rw [o7, va_up_ne _ _ (by decide), va_up_ne _ _ (by decide)]).trans t6_30
  have t7_32 := (show ev7 32 = ev6 32 by rw [o7, va_up_ne _ _ (by decide), va_up_ne _ _ (by decide)]).trans t6_32
  have t7_33 := (show ev7 33 = ev6 33 by rw [o7, va_up_ne _ _ (by decide), va_up_ne _ _ (by decide)]).trans t6_33
  have t7_18 := (show ev7 18 = ev6 18 by rw [o7, va_up_ne _ _ (by decide), va_up_ne _ _ (by decide)]).trans t6_18
  have t7_19 := (show ev7 19 = ev6 19 by rw [o7, va_up_ne _ _ (by decide), va_up_ne _ _ (by decide)]).trans t6_19
  refine lv_aload_n hx hb d_Cv_step_111 rfl (lv_at hl 0 rfl) ?_
  refine wv_getf hx hb h 18 (by decide) (fs := [.ref (ad 19), .ref (ad 21), .ref (ad 22), .ref (ad 23), .ref (ad 24), .ref (ad 25), .ref (ad 26), .ref (ad 27), .ref (ad 28), .ref (ad 29), .ref (ad 30), .ref (ad 31), .ref (ad 32), .ref (ad 33)]) t7_18 hts (fun w hw => List.mem_cons_of_mem _ (fW_Cv w hw)) hown (ci := 0) (C := "NonceBox$Curve") (T := fT_Cv) (N := 14) rfl 0 (by decide) (hts _ (List.mem_cons_of_mem _ kf_Cv_16)) rfl (v := .ref (ad 19)) rfl d_Cv_step_112 ?_
  refine lv_aload_n hx hb d_Cv_step_115 rfl (lv_at hl 0 rfl) ?_
  refine wv_getf hx hb h 18 (by decide) (fs := [.ref (ad 19), .ref (ad 21), .ref (ad 22), .ref (ad 23), .ref (ad 24), .ref (ad 25), .ref (ad 26), .ref (ad 27), .ref (ad 28), .ref (ad 29), .ref (ad 30), .ref (ad 31), .ref (ad 32), .ref (ad 33)]) t7_18 hts (fun w hw => List.mem_cons_of_mem _ (fW_Cv w hw)) hown (ci := 0) (C := "NonceBox$Curve") (T := fT_Cv) (N := 14) rfl 8 (by decide) (hts _ (List.mem_cons_of_mem _ kf_Cv_49)) rfl (v := .ref (ad 28)) rfl d_Cv_step_116 ?_
  refine lv_aload_n hx hb d_Cv_step_119 rfl (lv_at hl 0 rfl) ?_
  refine wv_getf hx hb h 18 (by decide) (fs := [.ref (ad 19), .ref (ad 21), .ref (ad 22), .ref (ad 23), .ref (ad 24), .ref (ad 25), .ref (ad 26), .ref (ad 27), .ref (ad 28), .ref (ad 29), .ref (ad 30), .ref (ad 31), .ref (ad 32), .ref (ad 33)]) t7_18 hts (fun w hw => List.mem_cons_of_mem _ (fW_Cv w hw)) hown (ci := 0) (C := "NonceBox$Curve") (T := fT_Cv) (N := 14) rfl 8 (by decide) (hts _ (List.mem_cons_of_mem _ kf_Cv_49)) rfl (v := .ref (ad 28)) rfl d_Cv_step_120 ?_
  refine lv_aload_n hx hb d_Cv_step_123 rfl (lv_at hl 0 rfl) ?_
  refine wv_getf hx hb h 18 (by decide) (fs := [.ref (ad 19), .ref (ad 21), .ref (ad 22), .ref (ad 23), .ref (ad 24), .ref (ad 25), .ref (ad 26), .ref (ad 27), .ref (ad 28), .ref (ad 29), .ref (ad 30), .ref (ad 31), .ref (ad 32), .ref (ad 33)]) t7_18 hts (fun w hw => List.mem_cons_of_mem _ (fW_Cv w hw)) hown (ci := 0) (C := "NonceBox$Curve") (T := fT_Cv) (N := 14) rfl 12 (by decide) (hts _ (List.mem_cons_of_mem _ kf_Cv_61)) rfl (v := .ref (ad 32)) rfl d_Cv_step_124 ?_
  refine wv_V (As := [.ref (ad 28), .ref (ad 28), .ref (ad 32)]) (rest := []) (k := 3) ⟨hx, hb, hml, hown, hts⟩ h 19 (by decide) (C := "NonceBox$Field") t7_19 rfl (m_Fd_times l G A ad ev7 19 20 10 21 19 608 (by decide) t7_19 (by decide) (by decide) 28 28 32 (mi Ra Rb) (mi Ra Rb) zR (wdC (pl Ra Rb) (pl Ra Rb) 10) (by decide) (by decide) (by decide) (by decide) t7_28 t7_28 t7_32 t7_20 (by decide) (by decide) (by decide) (by decide) (by decide)) kc_Fd_times kl_Cv_82 km_Fd_times kv_Fd_times ki_Fd (by decide +kernel) ⟨rfl, rfl, Nat.le_of_ble_eq_true rfl, Nat.le_of_ble_eq_true rfl⟩ hl.1 rfl rfl (Nat.le_of_ble_eq_true rfl) ⟨Nat.le_refl _, Nat.le_refl _⟩ d_Cv_step_127 ?_
  intro ov ev8 H locs hp h
  rw [hp.1]
  refine W.eq (g2 := F0 m 130 ls []) rfl ?_
  have o8 : ev8 = (va_up (va_up ev7 20 (eJ G 20 (wdC (mi Ra Rb) (mi Ra Rb) 10))) 32 (eJ G 10 (stR Ra Rb))) := hp.2
  have t8_20 : ev8 20 = eJ G 20 (wdC (mi Ra Rb) (mi Ra Rb) 10) := by rw [o8, va_up_ne _ _ (by decide), va_up_self]
  have t8_32 : ev8 32 = eJ G 10 (stR Ra Rb) := by rw [o8, va_up_self]
  have t8_22 := (show ev8 22 = ev7 22 by rw [o8, va_up_ne _ _ (by decide), va_up_ne _ _ (by decide)]).trans t7_22
  have t8_23 := (show ev8 23 = ev7 23 by rw [o8, va_up_ne _ _ (by decide), va_up_ne _ _ (by decide)]).trans t7_23
  have t8_24 := (show ev8 24 = ev7 24 by rw [o8, va_up_ne _ _ (by decide), va_up_ne _ _ (by decide)]).trans t7_24
  have t8_25 := (show ev8 25 = ev7 25 by rw [o8, va_up_ne _ _ (by decide), va_up_ne _ _ (by decide)]).trans t7_25
  have t8_26 := (show ev8 26 = ev7 26 by rw [o8, va_up_ne _ _ (by decide), va_up_ne _ _ (by decide)]).trans t7_26
  have t8_27 := (show ev8 27 = ev7 27 by rw [o8, va_up_ne _ _ (by decide), va_up_ne _ _ (by decide)]).trans t7_27
  have t8_28 := (show ev8 28 = ev7 28 by rw [o8, va_up_ne _ _ (by decide), va_up_ne _ _ (by decide)]).trans t7_28
  have t8_29 := (show ev8 29 = ev7 29 by rw [o8, va_up_ne _ _ (by decide), va_up_ne _ _ (by decide)]).trans t7_29
  have t8_30 := (show ev8 30 = ev7 30 by rw [o8, va_up_ne _ _ (by decide), va_up_ne _ _ (by decide)]).trans t7_30
  have t8_31 := (show ev8 31 = ev7 31 by rw [o8, va_up_ne _ _ (by decide), va_up_ne _ _ (by decide)]).trans t7_31
  have t8_33 := (show ev8 33 = ev7 33 by rw [o8, va_up_ne _ _ (by decide), va_up_ne _ _ (by decide)]).trans t7_33
  have t8_18 := (show ev8 18 = ev7 18 by rw [o8, va_up_ne _ _ (by decide), va_up_ne _ _ (by decide)]).trans t7_18
  have t8_19 := (show ev8 19 = ev7 19 by rw [o8, va_up_ne _ _ (by decide), va_up_ne _ _ (by decide)]).trans t7_19
  refine lv_aload_n hx hb d_Cv_step_130 rfl (lv_at hl 0 rfl) ?_
  refine wv_getf hx hb h 18 (by decide) (fs := [.ref (ad 19), .ref (ad 21), .ref (ad 22), .ref (ad 23), .ref (ad 24), .ref (ad 25), .ref (ad 26), .ref (ad 27), .ref (ad 28), .ref (ad 29), .ref (ad 30), .ref (ad 31), .ref (ad 32), .ref (ad 33)]) t8_18 hts (fun w hw => List.mem_cons_of_mem _ (fW_Cv w hw)) hown (ci := 0) (C := "NonceBox$Curve") (T := fT_Cv) (N := 14) rfl 0 (by decide) (hts _ (List.mem_cons_of_mem _ kf_Cv_16)) rfl (v := .ref (ad 19)) rfl d_Cv_step_131 ?_
  refine lv_aload_n hx hb d_Cv_step_134 rfl (lv_at hl 0 rfl) ?_
  refine wv_getf hx hb h 18 (by decide) (fs := [.ref (ad 19), .ref (ad 21), .ref (ad 22), .ref (ad 23), .ref (ad 24), .ref (ad 25), .ref (ad 26), .ref (ad 27), .ref (ad 28), .ref (ad 29), .ref (ad 30), .ref (ad 31), .ref (ad 32), .ref (ad 33)]) t8_18 hts (fun w hw => List.mem_cons_of_mem _ (fW_Cv w hw)) hown (ci := 0) (C := "NonceBox$Curve") (T := fT_Cv) (N := 14) rfl 11 (by decide) (hts _ (List.mem_cons_of_mem _ kf_Cv_58)) rfl (v := .ref (ad 31)) rfl d_Cv_step_135 ?_
  refine lv_aload_n hx hb d_Cv_step_138 rfl (lv_at hl 0 rfl) ?_
  refine wv_getf hx hb h 18 (by decide) (fs := [.ref (ad 19), .ref (ad 21), .ref (ad 22), .ref (ad 23), .ref (ad 24), .ref (ad 25), .ref (ad 26), .ref (ad 27), .ref (ad 28), .ref (ad 29), .ref (ad 30), .ref (ad 31), .ref (ad 32), .ref (ad 33)]) t8_18 hts (fun w hw => List.mem_cons_of_mem _ (fW_Cv w hw)) hown (ci := 0) (C := "NonceBox$Curve") (T := fT_Cv) (N := 14) rfl 12 (by decide) (hts _ (List.mem_cons_of_mem _ kf_Cv_61)) rfl (v := .ref (ad 32)) rfl d_Cv_step_139 ?_
  refine lv_aload_n hx hb d_Cv_step_142 rfl (lv_at hl 0 rfl) ?_
  refine wv_getf hx hb h 18 (by decide) (fs := [.ref (ad 19), .ref (ad 21), .ref (ad 22), .ref (ad 23), .ref (ad 24), .ref (ad 25), .ref (ad 26), .ref (ad 27), .ref (ad 28), .ref (ad 29), .ref (ad 30), .ref (ad 31), .ref (ad 32), .ref (ad 33)]) t8_18 hts (fun w hw => List.mem_cons_of_mem _ (fW_Cv w hw)) hown (ci := 0) (C := "NonceBox$Curve") (T := fT_Cv) (N := 14) rfl 13 (by decide) (hts _ (List.mem_cons_of_mem _ kf_Cv_64)) rfl (v := .ref (ad 33)) rfl d_Cv_step_143 ?_
  refine wv_V (As := [.ref (ad 31), .ref (ad 32), .ref (ad 33)]) (rest := []) (k := 3) ⟨hx, hb, hml, hown, hts⟩ h 19 (by decide) (C := "NonceBox$Field") t8_19 rfl (m_Fd_minus l G A ad ev8 19 20 10 21 19 608 (by decide) t8_19 (by decide) (by decide) 31 32 33 (stQ Ra Rb) (stR Ra Rb) zT (by decide) (by decide) (by decide) t8_31 t8_32 t8_33 (by decide)) kc_Fd_minus kl_Cv_114 km_Fd_minus kv_Fd_minus ki_Fd (by decide +kernel) ⟨rfl, rfl, Nat.le_of_ble_eq_true rfl, Nat.le_of_ble_eq_true rfl⟩ hl.1 rfl rfl (Nat.le_of_ble_eq_true rfl) ⟨Nat.le_refl _, Nat.le_refl _⟩ d_Cv_step_146 ?_
  intro ov ev9 H locs hp h
  rw [hp.1]
  refine W.eq (g2 := F0 m 149 ls []) rfl ?_
  have o9 : ev9 = (va_up ev8 33 (eJ G 10 (stT Ra Rb))) := hp.2
  have t9_33 : ev9 33 = eJ G 10 (stT Ra Rb) := by rw [o9, va_up_self]
  have t9_22 := (show ev9 22 = ev8 22 by rw [o9, va_up_ne _ _ (by decide)]).trans t8_22
  have t9_23 := (show ev9 23 = ev8 23 by rw [o9, va_up_ne _ _ (by decide)]).trans t8_23
  have t9_24 := (show ev9 24 = ev8 24 by rw [o9, va_up_ne _ _ (by decide)]).trans t8_24
  have t9_25 := (show ev9 25 = ev8 25 by rw [o9, va_up_ne _ _ (by decide)]).trans t8_25
  have t9_26 := (show ev9 26 = ev8 26 by rw [o9, va_up_ne _ _ (by decide)]).trans t8_26
  have t9_27 := (show ev9 27 = ev8 27 by rw [o9, va_up_ne _ _ (by decide)]).trans t8_27
  have t9_28 := (show ev9 28 = ev8 28 by rw [o9, va_up_ne _ _ (by decide)]).trans t8_28
  have t9_29 := (show ev9 29 = ev8 29 by rw [o9, va_up_ne _ _ (by decide)]).trans t8_29
  have t9_30 := (show ev9 30 = ev8 30 by rw [o9, va_up_ne _ _ (by decide)]).trans t8_30
  have t9_31 := (show ev9 31 = ev8 31 by rw [o9, va_up_ne _ _ (by decide)]).trans t8_31
  have t9_32 := (show ev9 32 = ev8 32 by rw [o9, va_up_ne _ _ (by decide)]).trans t8_32
  have t9_20 := (show ev9 20 = ev8 20 by rw [o9, va_up_ne _ _ (by decide)]).trans t8_20
  have t9_18 := (show ev9 18 = ev8 18 by rw [o9, va_up_ne _ _ (by decide)]).trans t8_18
  have t9_19 := (show ev9 19 = ev8 19 by rw [o9, va_up_ne _ _ (by decide)]).trans t8_19
  refine lv_aload_n hx hb d_Cv_step_149 rfl (lv_at hl 0 rfl) ?_
  refine wv_getf hx hb h 18 (by decide) (fs := [.ref (ad 19), .ref (ad 21), .ref (ad 22), .ref (ad 23), .ref (ad 24), .ref (ad 25), .ref (ad 26), .ref (ad 27), .ref (ad 28), .ref (ad 29), .ref (ad 30), .ref (ad 31), .ref (ad 32), .ref (ad 33)]) t9_18 hts (fun w hw => List.mem_cons_of_mem _ (fW_Cv w hw)) hown (ci := 0) (C := "NonceBox$Curve") (T := fT_Cv) (N := 14) rfl 0 (by decide) (hts _ (List.mem_cons_of_mem _ kf_Cv_16)) rfl (v := .ref (ad 19)) rfl d_Cv_step_150 ?_
  refine lv_aload_n hx hb d_Cv_step_153 rfl (lv_at hl 0 rfl) ?_
  refine wv_getf hx hb h 18 (by decide) (fs := [.ref (ad 19), .ref (ad 21), .ref (ad 22), .ref (ad 23), .ref (ad 24), .ref (ad 25), .ref (ad 26), .ref (ad 27), .ref (ad 28), .ref (ad 29), .ref (ad 30), .ref (ad 31), .ref (ad 32), .ref (ad 33)]) t9_18 hts (fun w hw => List.mem_cons_of_mem _ (fW_Cv w hw)) hown (ci := 0) (C := "NonceBox$Curve") (T := fT_Cv) (N := 14) rfl 9 (by decide) (hts _ (List.mem_cons_of_mem _ kf_Cv_52)) rfl (v := .ref (ad 29)) rfl d_Cv_step_154 ?_
  refine lv_aload_n hx hb d_Cv_step_157 rfl (lv_at hl 0 rfl) ?_
  refine wv_getf hx hb h 18 (by decide) (fs := [.ref (ad 19), .ref (ad 21), .ref (ad 22), .ref (ad 23), .ref (ad 24), .ref (ad 25), .ref (ad 26), .ref (ad 27), .ref (ad 28), .ref (ad 29), .ref (ad 30), .ref (ad 31), .ref (ad 32), .ref (ad 33)]) t9_18 hts (fun w hw => List.mem_cons_of_mem _ (fW_Cv w hw)) hown (ci := 0) (C := "NonceBox$Curve") (T := fT_Cv) (N := 14) rfl 10 (by decide) (hts _ (List.mem_cons_of_mem _ kf_Cv_55)) rfl (v := .ref (ad 30)) rfl d_Cv_step_158 ?_
  refine lv_aload_n hx hb d_Cv_step_161 rfl (lv_at hl 3 rfl) ?_
  refine wv_V (As := [.ref (ad 29), .ref (ad 30), .ref (ad 24)]) (rest := []) (k := 3) ⟨hx, hb, hml, hown, hts⟩ h 19 (by decide) (C := "NonceBox$Field") t9_19 rfl (m_Fd_plus l G A ad ev9 19 20 10 21 19 608 (by decide) t9_19 (by decide) (by decide) 29 30 24 (stG Ra Rb Rc Rd) (stH Ra Rb Rc Rd) Rc (by decide) (by decide) (by decide) t9_29 t9_30 t9_24 (by decide)) kc_Fd_plus kl_Cv_111 km_Fd_plus kv_Fd_plus ki_Fd (by decide +kernel) ⟨rfl, rfl, Nat.le_of_ble_eq_true rfl, Nat.le_of_ble_eq_true rfl⟩ hl.1 rfl rfl (Nat.le_of_ble_eq_true rfl) ⟨Nat.le_refl _, Nat.le_refl _⟩ d_Cv_step_162 ?_
  intro ov ev10 H locs hp h
  rw [hp.1]
  refine W.eq (g2 := F0 m 165 ls []) rfl ?_
  have o10 : ev10 = (va_up ev9 24 (eJ G 10 (pl (stG Ra Rb Rc Rd) (stH Ra Rb Rc Rd)))) := hp.2
  have t10_24 : ev10 24 = eJ G 10 (pl (stG Ra Rb Rc Rd) (stH Ra Rb Rc Rd)) := by rw [o10, va_up_self]
  have t10_22 := (show ev10 22 = ev9 22 by rw [o10, va_up_ne _ _ (by decide)]).trans t9_22
  have t10_23 := (show ev10 23 = ev9 23 by rw [o10, va_up_ne _ _ (by decide)]).trans t9_23
  have t10_25 := (show ev10 25 = ev9 25 by rw [o10, va_up_ne _ _ (by decide)]).trans t9_25
  have t10_26 := (show ev10 26 = ev9 26 by rw [o10, va_up_ne _ _ (by decide)]).trans t9_26
  have t10_27 := (show ev10 27 = ev9 27 by rw [o10, va_up_ne _ _ (by decide)]).trans t9_27
  have t10_28 := (show ev10 28 = ev9 28 by rw [o10, va_up_ne _ _ (by decide)]).trans t9_28
  have t10_29 := (show ev10 29 = ev9 29 by rw [o10, va_up_ne _ _ (by decide)]).trans t9_29
  have t10_30 := (show ev10 30 = ev9 30 by rw [o10, va_up_ne _ _ (by decide)]).trans t9_30
  have t10_31 := (show ev10 31 = ev9 31 by rw [o10, va_up_ne _ _ (by decide)]).trans t9_31
  have t10_32 := (show ev10 32 = ev9 32 by rw [o10, va_up_ne _ _ (by decide)]).trans t9_32
  have t10_33 := (show ev10 33 = ev9 33 by rw [o10, va_up_ne _ _ (by decide)]).trans t9_33
  have t10_20 := (show ev10 20 = ev9 20 by rw [o10, va_up_ne _ _ (by decide)]).trans t9_20
  have t10_18 := (show ev10 18 = ev9 18 by rw [o10, va_up_ne _ _ (by decide)]).trans t9_18
  have t10_19 := (show ev10 19 = ev9 19 by rw [o10, va_up_ne _ _ (by decide)]).trans t9_19
  refine lv_aload_n hx hb d_Cv_step_165 rfl (lv_at hl 0 rfl) ?_
  refine wv_getf hx hb h 18 (by decide) (fs := [.ref (ad 19), .ref (ad 21), .ref (ad 22), .ref (ad 23), .ref (ad 24), .ref (ad 25), .ref (ad 26), .ref (ad 27), .ref (ad 28), .ref (ad 29), .ref (ad 30), .ref (ad 31), .ref (ad 32), .ref (ad 33)]) t10_18 hts (fun w hw => List.mem_cons_of_mem _ (fW_Cv w hw)) hown (ci := 0) (C := "NonceBox$Curve") (T := fT_Cv) (N := 14) rfl 0 (by decide) (hts _ (List.mem_cons_of_mem _ kf_Cv_16)) rfl (v := .ref (ad 19)) rfl d_Cv_step_166 ?_
  refine lv_aload_n hx hb d_Cv_step_169 rfl (lv_at hl 3 rfl) ?_
  refine lv_aload_n hx hb d_Cv_step_170 rfl (lv_at hl 3 rfl) ?_
  refine lv_aload_n hx hb d_Cv_step_171 rfl (lv_at hl 3 rfl) ?_
  refine wv_V (As := [.ref (ad 24), .ref (ad 24), .ref (ad 24)]) (rest := []) (k := 3) ⟨hx, hb, hml, hown, hts⟩ h 19 (by decide) (C := "NonceBox$Field") t10_19 rfl (m_Fd_times l G A ad ev10 19 20 10 21 19 608 (by decide) t10_19 (by decide) (by decide) 24 24 24 (pl (stG Ra Rb Rc Rd) (stH Ra Rb Rc Rd)) (pl (stG Ra Rb Rc Rd) (stH Ra Rb Rc Rd)) (pl (stG Ra Rb Rc Rd) (stH Ra Rb Rc Rd)) (wdC (mi Ra Rb) (mi Ra Rb) 10) (by decide) (by decide) (by decide) (by decide) t10_24 t10_24 t10_24 t10_20 (by decide) (by decide) (by decide) (by decide) (by decide)) kc_Fd_times kl_Cv_82 km_Fd_times kv_Fd_times ki_Fd (by decide +kernel) ⟨rfl, rfl, Nat.le_of_ble_eq_true rfl, Nat.le_of_ble_eq_true rfl⟩ hl.1 rfl rfl (Nat.le_of_ble_eq_true rfl) ⟨Nat.le_refl _, Nat.le_refl _⟩ d_Cv_step_172 ?_
  intro ov ev11 H locs hp h
  rw [hp.1]
  refine W.eq (g2 := F0 m 175 ls []) rfl ?_
  have o11 : ev11 = (va_up (va_up ev10 20 (eJ G 20 (wdC (pl (stG Ra Rb Rc Rd) (stH Ra Rb Rc Rd)) (pl (stG Ra Rb Rc Rd) (stH Ra Rb Rc Rd)) 10))) 24 (eJ G 10 (stC Ra Rb Rc Rd))) := hp.2
  have t11_20 : ev11 20 = eJ G 20 (wdC (pl (stG Ra Rb Rc Rd) (stH Ra Rb Rc Rd)) (pl (stG Ra Rb Rc Rd) (stH Ra Rb Rc Rd)) 10) := by rw [o11, va_up_ne _ _ (by decide), va_up_self]
  have t11_24 : ev11 24 = eJ G 10 (stC Ra Rb Rc Rd) := by rw [o11, va_up_self]
  have t11_22 := (show ev11 22 = ev10 22 by rw [o11, va_up_ne _ _ (by decide), va_up_ne _ _ (by decide)]).trans t10_22
  have t11_23 := (show ev11 23 = ev10 23 by rw [o11, va_up_ne _ _ (by decide), va_up_ne _ _ (by decide)]).trans t10_23
  have t11_25 := (show ev11 25 = ev10 25 by rw [o11, va_up_ne _ _ (by decide), va_up_ne _ _ (by decide)]).trans t10_25
  have t11_26 := (show ev11 26 = ev10 26 by rw [o11, va_up_ne _ _ (by decide), va_up_ne _ _ (by decide)]).trans t10_26
  have t11_27 := (show ev11 27 = ev10 27 by rw [o11, va_up_ne _ _ (by decide), va_up_ne _ _ (by decide)]).trans t10_27
  have t11_28 := (show ev11 28 = ev10 28 by rw [o11, va_up_ne _ _ (by decide), va_up_ne _ _ (by decide)]).trans t10_28
  have t11_29 := (show ev11 29 = ev10 29 by rw [o11, va_up_ne _ _ (by decide), va_up_ne _ _ (by decide)]).trans t10_29
  have t11_30 := (show ev11 30 = ev10 30 by rw [o11, va_up_ne _ _ (by decide), va_up_ne _ _ (by decide)]).trans t10_30
  have t11_31 := (show ev11 31 = ev10 31 by rw [o11, va_up_ne _ _ (by decide), va_up_ne _ _ (by decide)]).trans t10_31
  have t11_32 := (show ev11 32 = ev10 32 by rw [o11, va_up_ne _ _ (by decide), va_up_ne _ _ (by decide)]).trans t10_32
  have t11_33 := (show ev11 33 = ev10 33 by rw [o11, va_up_ne _ _ (by decide), va_up_ne _ _ (by decide)]).trans t10_33
  have t11_18 := (show ev11 18 = ev10 18 by rw [o11, va_up_ne _ _ (by decide), va_up_ne _ _ (by decide)]).trans t10_18
  have t11_19 := (show ev11 19 = ev10 19 by rw [o11, va_up_ne _ _ (by decide), va_up_ne _ _ (by decide)]).trans t10_19
  refine lv_aload_n hx hb d_Cv_step_175 rfl (lv_at hl 0 rfl) ?_
  refine wv_getf hx hb h 18 (by decide) (fs := [.ref (ad 19), .ref (ad 21), .ref (ad 22), .ref (ad 23), .ref (ad 24), .ref (ad 25), .ref (ad 26), .ref (ad 27), .ref (ad 28), .ref (ad 29), .ref (ad 30), .ref (ad 31), .ref (ad 32), .ref (ad 33)]) t11_18 hts (fun w hw => List.mem_cons_of_mem _ (fW_Cv w hw)) hown (ci := 0) (C := "NonceBox$Curve") (T := fT_Cv) (N := 14) rfl 0 (by decide) (hts _ (List.mem_cons_of_mem _ kf_Cv_16)) rfl (v := .ref (ad 19)) rfl d_Cv_step_176 ?_
  refine lv_aload_n hx hb d_Cv_step_179 rfl (lv_at hl 0 rfl) ?_
  refine wv_getf hx hb h 18 (by decide) (fs := [.ref (ad 19), .ref (ad 21), .ref (ad 22), .ref (ad 23), .ref (ad 24), .ref (ad 25), .ref (ad 26), .ref (ad 27), .ref (ad 28), .ref (ad 29), .ref (ad 30), .ref (ad 31), .ref (ad 32), .ref (ad 33)]) t11_18 hts (fun w hw => List.mem_cons_of_mem _ (fW_Cv w hw)) hown (ci := 0) (C := "NonceBox$Curve") (T := fT_Cv) (N := 14) rfl 9 (by decide) (hts _ (List.mem_cons_of_mem _ kf_Cv_52)) rfl (v := .ref (ad 29)) rfl d_Cv_step_180 ?_
  refine lv_aload_n hx hb d_Cv_step_183 rfl (lv_at hl 0 rfl) ?_
  refine wv_getf hx hb h 18 (by decide) (fs := [.ref (ad 19), .ref (ad 21), .ref (ad 22), .ref (ad 23), .ref (ad 24), .ref (ad 25), .ref (ad 26), .ref (ad 27), .ref (ad 28), .ref (ad 29), .ref (ad 30), .ref (ad 31), .ref (ad 32), .ref (ad 33)]) t11_18 hts (fun w hw => List.mem_cons_of_mem _ (fW_Cv w hw)) hown (ci := 0) (C := "NonceBox$Curve") (T := fT_Cv) (N := 14) rfl 10 (by decide) (hts _ (List.mem_cons_of_mem _ kf_Cv_55)) rfl (v := .ref (ad 30)) rfl d_Cv_step_184 ?_
  refine lv_aload hx hb d_Cv_step_187 (lv_at hl 4 rfl) ?_
  refine wv_V (As := [.ref (ad 29), .ref (ad 30), .ref (ad 25)]) (rest := []) (k := 3) ⟨hx, hb, hml, hown, hts⟩ h 19 (by decide) (C := "NonceBox$Field") t11_19 rfl (m_Fd_minus l G A ad ev11 19 20 10 21 19 608 (by decide) t11_19 (by decide) (by decide) 29 30 25 (stG Ra Rb Rc Rd) (stH Ra Rb Rc Rd) Rd (by decide) (by decide) (by decide) t11_29 t11_30 t11_25 (by decide)) kc_Fd_minus kl_Cv_114 km_Fd_minus kv_Fd_minus ki_Fd (by decide +kernel) ⟨rfl, rfl, Nat.le_of_ble_eq_true rfl, Nat.le_of_ble_eq_true rfl⟩ hl.1 rfl rfl (Nat.le_of_ble_eq_true rfl) ⟨Nat.le_refl _, Nat.le_refl _⟩ d_Cv_step_189 ?_
  intro ov ev12 H locs hp h
  rw [hp.1]
  refine W.eq (g2 := F0 m 192 ls []) rfl ?_
  have o12 : ev12 = (va_up ev11 25 (eJ G 10 (mi (stG Ra Rb Rc Rd) (stH Ra Rb Rc Rd)))) := hp.2
  have t12_25 : ev12 25 = eJ G 10 (mi (stG Ra Rb Rc Rd) (stH Ra Rb Rc Rd)) := by rw [o12, va_up_self]
  have t12_22 := (show ev12 22 = ev11 22 by rw [o12, va_up_ne _ _ (by decide)]).trans t11_22
  have t12_23 := (show ev12 23 = ev11 23 by rw [o12, va_up_ne _ _ (by decide)]).trans t11_23
  have t12_24 := (show ev12 24 = ev11 24 by rw [o12, va_up_ne _ _ (by decide)]).trans t11_24
  have t12_26 := (show ev12 26 = ev11 26 by rw [o12, va_up_ne _ _ (by decide)]).trans t11_26
  have t12_27 := (show ev12 27 = ev11 27 by rw [o12, va_up_ne _ _ (by decide)]).trans t11_27
  have t12_28 := (show ev12 28 = ev11 28 by rw [o12, va_up_ne _ _ (by decide)]).trans t11_28
  have t12_29 := (show ev12 29 = ev11 29 by rw [o12, va_up_ne _ _ (by decide)]).trans t11_29
  have t12_30 := (show ev12 30 = ev11 30 by rw [o12, va_up_ne _ _ (by decide)]).trans t11_30
  have t12_31 := (show ev12 31 = ev11 31 by rw [o12, va_up_ne _ _ (by decide)]).trans t11_31
  have t12_32 := (show ev12 32 = ev11 32 by rw [o12, va_up_ne _ _ (by decide)]).trans t11_32
  have t12_33 := (show ev12 33 = ev11 33 by rw [o12, va_up_ne _ _ (by decide)]).trans t11_33
  have t12_20 := (show ev12 20 = ev11 20 by rw [o12, va_up_ne _ _ (by decide)]).trans t11_20
  have t12_18 := (show ev12 18 = ev11 18 by rw [o12, va_up_ne _ _ (by decide)]).trans t11_18
  have t12_19 := (show ev12 19 = ev11 19 by rw [o12, va_up_ne _ _ (by decide)]).trans t11_19
  refine lv_aload_n hx hb d_Cv_step_192 rfl (lv_at hl 0 rfl) ?_
  refine wv_getf hx hb h 18 (by decide) (fs := [.ref (ad 19), .ref (ad 21), .ref (ad 22), .ref (ad 23), .ref (ad 24), .ref (ad 25), .ref (ad 26), .ref (ad 27), .ref (ad 28), .ref (ad 29), .ref (ad 30), .ref (ad 31), .ref (ad 32), .ref (ad 33)]) t12_18 hts (fun w hw => List.mem_cons_of_mem _ (fW_Cv w hw)) hown (ci := 0) (C := "NonceBox$Curve") (T := fT_Cv) (N := 14) rfl 0 (by decide) (hts _ (List.mem_cons_of_mem _ kf_Cv_16)) rfl (v := .ref (ad 19)) rfl d_Cv_step_193 ?_
  refine lv_aload hx hb d_Cv_step_196 (lv_at hl 4 rfl) ?_
  refine lv_aload hx hb d_Cv_step_198 (lv_at hl 4 rfl) ?_
  refine lv_aload hx hb d_Cv_step_200 (lv_at hl 4 rfl) ?_
  refine wv_V (As := [.ref (ad 25), .ref (ad 25), .ref (ad 25)]) (rest := []) (k := 3) ⟨hx, hb, hml, hown, hts⟩ h 19 (by decide) (C := "NonceBox$Field") t12_19 rfl (m_Fd_times l G A ad ev12 19 20 10 21 19 608 (by decide) t12_19 (by decide) (by decide) 25 25 25 (mi (stG Ra Rb Rc Rd) (stH Ra Rb Rc Rd)) (mi (stG Ra Rb Rc Rd) (stH Ra Rb Rc Rd)) (mi (stG Ra Rb Rc Rd) (stH Ra Rb Rc Rd)) (wdC (pl (stG Ra Rb Rc Rd) (stH Ra Rb Rc Rd)) (pl (stG Ra Rb Rc Rd) (stH Ra Rb Rc Rd)) 10) (by decide) (by decide) (by decide) (by decide) t12_25 t12_25 t12_25 t12_20 (by decide) (by decide) (by decide) (by decide) (by decide)) kc_Fd_times kl_Cv_82 km_Fd_times kv_Fd_times ki_Fd (by decide +kernel) ⟨rfl, rfl, Nat.le_of_ble_eq_true rfl, Nat.le_of_ble_eq_true rfl⟩ hl.1 rfl rfl (Nat.le_of_ble_eq_true rfl) ⟨Nat.le_refl _, Nat.le_refl _⟩ d_Cv_step_202 ?_
  intro ov ev13 H locs hp h
  rw [hp.1]
  refine W.eq (g2 := F0 m 205 ls []) rfl ?_
  have o13 : ev13 = (va_up (va_up ev12 20 (eJ G 20 (wdC (mi (stG Ra Rb Rc Rd) (stH Ra Rb Rc Rd)) (mi (stG Ra Rb Rc Rd) (stH Ra Rb Rc Rd)) 10))) 25 (eJ G 10 (tm (mi (stG Ra Rb Rc Rd) (stH Ra Rb Rc Rd)) (mi (stG Ra Rb Rc Rd) (stH Ra Rb Rc Rd))))) := hp.2
  have t13_20 : ev13 20 = eJ G 20 (wdC (mi (stG Ra Rb Rc Rd) (stH Ra Rb Rc Rd)) (mi (stG Ra Rb Rc Rd) (stH Ra Rb Rc Rd)) 10) := by rw [o13, va_up_ne _ _ (by decide), va_up_self]
  have t13_25 : ev13 25 = eJ G 10 (tm (mi (stG Ra Rb Rc Rd) (stH Ra Rb Rc Rd)) (mi (stG Ra Rb Rc Rd) (stH Ra Rb Rc Rd))) := by rw [o13, va_up_self]
  have t13_22 := (show ev13 22 = ev12 22 by rw [o13, va_up_ne _ _ (by decide), va_up_ne _ _ (by decide)]).trans t12_22
  have t13_23 := (show ev13 23 = ev12 23 by rw [o13, va_up_ne _ _ (by decide), va_up_ne _ _ (by decide)]).trans t12_23
  have t13_24 := (show ev13 24 = ev12 24 by rw [o13, va_up_ne _ _ (by decide), va_up_ne _ _ (by decide)]).trans t12_24
  have t13_26 := (show ev13 26 = ev12 26 by rw [o13, va_up_ne _ _ (by decide), va_up_ne _ _ (by decide)]).trans t12_26
  have t13_27 := (show ev13 27 = ev12 27 by rw [o13, va_up_ne _ _ (by decide), va_up_ne _ _ (by decide)]).trans t12_27
  have t13_28 := (show ev13 28 = ev12 28 by rw [o13, va_up_ne _ _ (by decide), va_up_ne _ _ (by decide)]).trans t12_28
  have t13_29 := (show ev13 29 = ev12 29 by rw [o13, va_up_ne _ _ (by decide), va_up_ne _ _ (by decide)]).trans t12_29
  have t13_30 := (show ev13 30 = ev12 30 by rw [o13, va_up_ne _ _ (by decide), va_up_ne _ _ (by decide)]).trans t12_30
  have t13_31 := (show ev13 31 = ev12 31 by rw [o13, va_up_ne _ _ (by decide), va_up_ne _ _ (by decide)]).trans t12_31
  have t13_32 := (show ev13 32 = ev12 32 by rw [o13, va_up_ne _ _ (by decide), va_up_ne _ _ (by decide)]).trans t12_32
  have t13_33 := (show ev13 33 = ev12 33 by rw [o13, va_up_ne _ _ (by decide), va_up_ne _ _ (by decide)]).trans t12_33
  have t13_18 := (show ev13 18 = ev12 18 by rw [o13, va_up_ne _ _ (by decide), va_up_ne _ _ (by decide)]).trans t12_18
  have t13_19 := (show ev13 19 = ev12 19 by rw [o13, va_up_ne _ _ (by decide), va_up_ne _ _ (by decide)]).trans t12_19
  refine lv_aload_n hx hb d_Cv_step_205 rfl (lv_at hl 0 rfl) ?_
  refine wv_getf hx hb h 18 (by decide) (fs := [.ref (ad 19), .ref (ad 21), .ref (ad 22), .ref (ad 23), .ref (ad 24), .ref (ad 25), .ref (ad 26), .ref (ad 27), .ref (ad 28), .ref (ad 29), .ref (ad 30), .ref (ad 31), .ref (ad 32), .ref (ad 33)]) t13_18 hts (fun w hw => List.mem_cons_of_mem _ (fW_Cv w hw)) hown (ci := 0) (C := "NonceBox$Curve") (T := fT_Cv) (N := 14) rfl 0 (by decide) (hts _ (List.mem_cons_of_mem _ kf_Cv_16)) rfl (v := .ref (ad 19)) rfl d_Cv_step_206 ?_
  refine lv_aload_n hx hb d_Cv_step_209 rfl (lv_at hl 0 rfl) ?_
  refine wv_getf hx hb h 18 (by decide) (fs := [.ref (ad 19), .ref (ad 21), .ref (ad 22), .ref (ad 23), .ref (ad 24), .ref (ad 25), .ref (ad 26), .ref (ad 27), .ref (ad 28), .ref (ad 29), .ref (ad 30), .ref (ad 31), .ref (ad 32), .ref (ad 33)]) t13_18 hts (fun w hw => List.mem_cons_of_mem _ (fW_Cv w hw)) hown (ci := 0) (C := "NonceBox$Curve") (T := fT_Cv) (N := 14) rfl 6 (by decide) (hts _ (List.mem_cons_of_mem _ kf_Cv_43)) rfl (v := .ref (ad 26)) rfl d_Cv_step_210 ?_
  refine lv_aload hx hb d_Cv_step_213 (lv_at hl 4 rfl) ?_
  refine lv_aload hx hb d_Cv_step_215 (lv_at hl 4 rfl) ?_
  refine wv_V (As := [.ref (ad 26), .ref (ad 25), .ref (ad 25)]) (rest := []) (k := 3) ⟨hx, hb, hml, hown, hts⟩ h 19 (by decide) (C := "NonceBox$Field") t13_19 rfl (m_Fd_times l G A ad ev13 19 20 10 21 19 608 (by decide) t13_19 (by decide) (by decide) 26 25 25 U (tm (mi (stG Ra Rb Rc Rd) (stH Ra Rb Rc Rd)) (mi (stG Ra Rb Rc Rd) (stH Ra Rb Rc Rd))) (tm (mi (stG Ra Rb Rc Rd) (stH Ra Rb Rc Rd)) (mi (stG Ra Rb Rc Rd) (stH Ra Rb Rc Rd))) (wdC (mi (stG Ra Rb Rc Rd) (stH Ra Rb Rc Rd)) (mi (stG Ra Rb Rc Rd) (stH Ra Rb Rc Rd)) 10) (by decide) (by decide) (by decide) (by decide) t13_26 t13_25 t13_25 t13_20 (by decide) (by decide) (by decide) (by decide) (by decide)) kc_Fd_times kl_Cv_82 km_Fd_times kv_Fd_times ki_Fd (by decide +kernel) ⟨rfl, rfl, Nat.le_of_ble_eq_true rfl, Nat.le_of_ble_eq_true rfl⟩ hl.1 rfl rfl (Nat.le_of_ble_eq_true rfl) ⟨Nat.le_refl _, Nat.le_refl _⟩ d_Cv_step_217 ?_
  intro ov ev14 H locs hp h
  rw [hp.1]
  refine W.eq (g2 := F0 m 220 ls []) rfl ?_
  have o14 : ev14 = (va_up (va_up ev13 20 (eJ G 20 (wdC U (tm (mi (stG Ra Rb Rc Rd) (stH Ra Rb Rc Rd)) (mi (stG Ra Rb Rc Rd) (stH Ra Rb Rc Rd))) 10))) 25 (eJ G 10 (stD U Ra Rb Rc Rd))) := hp.2
  have t14_20 : ev14 20 = eJ G 20 (wdC U (tm (mi (stG Ra Rb Rc Rd) (stH Ra Rb Rc Rd)) (mi (stG Ra Rb Rc Rd) (stH Ra Rb Rc Rd))) 10) := by rw [o14, va_up_ne _ _ (by decide), va_up_self]
  have t14_25 : ev14 25 = eJ G 10 (stD U Ra Rb Rc Rd) := by rw [o14, va_up_self]
  have t14_22 := (show ev14 22 = ev13 22 by rw [o14, va_up_ne _ _ (by decide), va_up_ne _ _ (by decide)]).trans t13_22
  have t14_23 := (show ev14 23 = ev13 23 by rw [o14, va_up_ne _ _ (by decide), va_up_ne _ _ (by decide)]).trans t13_23
  have t14_24 := (show ev14 24 = ev13 24 by rw [o14, va_up_ne _ _ (by decide), va_up_ne _ _ (by decide)]).trans t13_24
  have t14_26 := (show ev14 26 = ev13 26 by rw [o14, va_up_ne _ _ (by decide), va_up_ne _ _ (by decide)]).trans t13_26
  have t14_27 := (show ev14 27 = ev13 27 by rw [o14, va_up_ne _ _ (by decide), va_up_ne _ _ (by decide)]).trans t13_27
  have t14_28 := (show ev14 28 = ev13 28 by rw [o14, va_up_ne _ _ (by decide), va_up_ne _ _ (by decide)]).trans t13_28
  have t14_29 := (show ev14 29 = ev13 29 by rw [o14, va_up_ne _ _ (by decide), va_up_ne _ _ (by decide)]).trans t13_29
  have t14_30 := (show ev14 30 = ev13 30 by rw [o14, va_up_ne _ _ (by decide), va_up_ne _ _ (by decide)]).trans t13_30
  have t14_31 := (show ev14 31 = ev13 31 by rw [o14, va_up_ne _ _ (by decide), va_up_ne _ _ (by decide)]).trans t13_31
  have t14_32 := (show ev14 32 = ev13 32 by rw [o14, va_up_ne _ _ (by decide), va_up_ne _ _ (by decide)]).trans t13_32
  have t14_33 := (show ev14 33 = ev13 33 by rw [o14, va_up_ne _ _ (by decide), va_up_ne _ _ (by decide)]).trans t13_33
  have t14_18 := (show ev14 18 = ev13 18 by rw [o14, va_up_ne _ _ (by decide), va_up_ne _ _ (by decide)]).trans t13_18
  have t14_19 := (show ev14 19 = ev13 19 by rw [o14, va_up_ne _ _ (by decide), va_up_ne _ _ (by decide)]).trans t13_19
  refine lv_aload_n hx hb d_Cv_step_220 rfl (lv_at hl 0 rfl) ?_
  refine wv_getf hx hb h 18 (by decide) (fs := [.ref (ad 19), .ref (ad 21), .ref (ad 22), .ref (ad 23), .ref (ad 24), .ref (ad 25), .ref (ad 26), .ref (ad 27), .ref (ad 28), .ref (ad 29), .ref (ad 30), .ref (ad 31), .ref (ad 32), .ref (ad 33)]) t14_18 hts (fun w hw => List.mem_cons_of_mem _ (fW_Cv w hw)) hown (ci := 0) (C := "NonceBox$Curve") (T := fT_Cv) (N := 14) rfl 0 (by decide) (hts _ (List.mem_cons_of_mem _ kf_Cv_16)) rfl (v := .ref (ad 19)) rfl d_Cv_step_221 ?_
  refine lv_aload_n hx hb d_Cv_step_224 rfl (lv_at hl 0 rfl) ?_
  refine wv_getf hx hb h 18 (by decide) (fs := [.ref (ad 19), .ref (ad 21), .ref (ad 22), .ref (ad 23), .ref (ad 24), .ref (ad 25), .ref (ad 26), .ref (ad 27), .ref (ad 28), .ref (ad 29), .ref (ad 30), .ref (ad 31), .ref (ad 32), .ref (ad 33)]) t14_18 hts (fun w hw => List.mem_cons_of_mem _ (fW_Cv w hw)) hown (ci := 0) (C := "NonceBox$Curve") (T := fT_Cv) (N := 14) rfl 11 (by decide) (hts _ (List.mem_cons_of_mem _ kf_Cv_58)) rfl (v := .ref (ad 31)) rfl d_Cv_step_225 ?_
  refine lv_aload_n hx hb d_Cv_step_228 rfl (lv_at hl 0 rfl) ?_
  refine wv_getf hx hb h 18 (by decide) (fs := [.ref (ad 19), .ref (ad 21), .ref (ad 22), .ref (ad 23), .ref (ad 24), .ref (ad 25), .ref (ad 26), .ref (ad 27), .ref (ad 28), .ref (ad 29), .ref (ad 30), .ref (ad 31), .ref (ad 32), .ref (ad 33)]) t14_18 hts (fun w hw => List.mem_cons_of_mem _ (fW_Cv w hw)) hown (ci := 0) (C := "NonceBox$Curve") (T := fT_Cv) (N := 14) rfl 12 (by decide) (hts _ (List.mem_cons_of_mem _ kf_Cv_61)) rfl (v := .ref (ad 32)) rfl d_Cv_step_229 ?_
  refine lv_aload_n hx hb d_Cv_step_232 rfl (lv_at hl 1 rfl) ?_
  refine wv_V (As := [.ref (ad 31), .ref (ad 32), .ref (ad 22)]) (rest := []) (k := 3) ⟨hx, hb, hml, hown, hts⟩ h 19 (by decide) (C := "NonceBox$Field") t14_19 rfl (m_Fd_times l G A ad ev14 19 20 10 21 19 608 (by decide) t14_19 (by decide) (by decide) 31 32 22 (stQ Ra Rb) (stR Ra Rb) Ra (wdC U (tm (mi (stG Ra Rb Rc Rd) (stH Ra Rb Rc Rd)) (mi (stG Ra Rb Rc Rd) (stH Ra Rb Rc Rd))) 10) (by decide) (by decide) (by decide) (by decide) t14_31 t14_32 t14_22 t14_20 (by decide) (by decide) (by decide) (by decide) (by decide)) kc_Fd_times kl_Cv_82 km_Fd_times kv_Fd_times ki_Fd (by decide +kernel) ⟨rfl, rfl, Nat.le_of_ble_eq_true rfl, Nat.le_of_ble_eq_true rfl⟩ hl.1 rfl rfl (Nat.le_of_ble_eq_true rfl) ⟨Nat.le_refl _, Nat.le_refl _⟩ d_Cv_step_233 ?_
  intro ov ev15 H locs hp h
  rw [hp.1]
  refine W.eq (g2 := F0 m 236 ls []) rfl ?_
  have o15 : ev15 = (va_up (va_up ev14 20 (eJ G 20 (wdC (stQ Ra Rb) (stR Ra Rb) 10))) 22 (eJ G 10 (stA Ra Rb))) := hp.2
  have t15_20 : ev15 20 = eJ G 20 (wdC (stQ Ra Rb) (stR Ra Rb) 10) := by rw [o15, va_up_ne _ _ (by decide), va_up_self]
  have t15_22 : ev15 22 = eJ G 10 (stA Ra Rb) := by rw [o15, va_up_self]
  have t15_23 := (show ev15 23 = ev14 23 by rw [o15, va_up_ne _ _ (by decide), va_up_ne _ _ (by decide)]).trans t14_23
  have t15_24 := (show ev15 24 = ev14 24 by rw [o15, va_up_ne _ _ (by decide), va_up_ne _ _ (by decide)]).trans t14_24
  have t15_25 := (show ev15 25 = ev14 25 by rw [o15, va_up_ne _ _ (by decide), va_up_ne _ _ (by decide)]).trans t14_25
  have t15_26 := (show ev15 26 = ev14 26 by rw [o15, va_up_ne _ _ (by decide), va_up_ne _ _ (by decide)]).trans t14_26
  have t15_27 := (show ev15 27 = ev14 27 by rw [o15, va_up_ne _ _ (by decide), va_up_ne _ _ (by decide)]).trans t14_27
  have t15_28 := (show ev15 28 = ev14 28 by rw [o15, va_up_ne _ _ (by decide), va_up_ne _ _ (by decide)]).trans t14_28
  have t15_29 := (show ev15 29 = ev14 29 by rw [o15, va_up_ne _ _ (by decide), va_up_ne _ _ (by decide)]).trans t14_29
  have t15_30 := (show ev15 30 = ev14 30 by rw [o15, va_up_ne _ _ (by decide), va_up_ne _ _ (by decide)]).trans t14_30
  have t15_31 := (show ev15 31 = ev14 31 by rw [o15, va_up_ne _ _ (by decide), va_up_ne _ _ (by decide)]).trans t14_31
  have t15_32 := (show ev15 32 = ev14 32 by rw [o15, va_up_ne _ _ (by decide), va_up_ne _ _ (by decide)]).trans t14_32
  have t15_33 := (show ev15 33 = ev14 33 by rw [o15, va_up_ne _ _ (by decide), va_up_ne _ _ (by decide)]).trans t14_33
  have t15_18 := (show ev15 18 = ev14 18 by rw [o15, va_up_ne _ _ (by decide), va_up_ne _ _ (by decide)]).trans t14_18
  have t15_19 := (show ev15 19 = ev14 19 by rw [o15, va_up_ne _ _ (by decide), va_up_ne _ _ (by decide)]).trans t14_19
  refine lv_aload_n hx hb d_Cv_step_236 rfl (lv_at hl 0 rfl) ?_
  refine wv_getf hx hb h 18 (by decide) (fs := [.ref (ad 19), .ref (ad 21), .ref (ad 22), .ref (ad 23), .ref (ad 24), .ref (ad 25), .ref (ad 26), .ref (ad 27), .ref (ad 28), .ref (ad 29), .ref (ad 30), .ref (ad 31), .ref (ad 32), .ref (ad 33)]) t15_18 hts (fun w hw => List.mem_cons_of_mem _ (fW_Cv w hw)) hown (ci := 0) (C := "NonceBox$Curve") (T := fT_Cv) (N := 14) rfl 0 (by decide) (hts _ (List.mem_cons_of_mem _ kf_Cv_16)) rfl (v := .ref (ad 19)) rfl d_Cv_step_237 ?_
  refine lv_aload_n hx hb d_Cv_step_240 rfl (lv_at hl 0 rfl) ?_
  refine wv_getf hx hb h 18 (by decide) (fs := [.ref (ad 19), .ref (ad 21), .ref (ad 22), .ref (ad 23), .ref (ad 24), .ref (ad 25), .ref (ad 26), .ref (ad 27), .ref (ad 28), .ref (ad 29), .ref (ad 30), .ref (ad 31), .ref (ad 32), .ref (ad 33)]) t15_18 hts (fun w hw => List.mem_cons_of_mem _ (fW_Cv w hw)) hown (ci := 0) (C := "NonceBox$Curve") (T := fT_Cv) (N := 14) rfl 13 (by decide) (hts _ (List.mem_cons_of_mem _ kf_Cv_64)) rfl (v := .ref (ad 33)) rfl d_Cv_step_241 ?_
  refine lv_ldc (v := 121665) hx hb hown (hts _ (List.mem_cons_of_mem _ ko_Cv_117)) d_Cv_step_244 ?_
  refine lv_aload_n hx hb d_Cv_step_246 rfl (lv_at hl 2 rfl) ?_
  refine wv_V (As := [.ref (ad 33), .int (121665), .ref (ad 23)]) (rest := []) (k := 3) ⟨hx, hb, hml, hown, hts⟩ h 19 (by decide) (C := "NonceBox$Field") t15_19 rfl (m_Fd_scale l G A ad ev15 19 20 10 21 19 608 (by decide) t15_19 (by decide) (by decide) 33 23 121665 (stT Ra Rb) Rb (by decide) (by decide) t15_33 t15_23 (by decide)) kc_Fd_scale kl_Cv_118 km_Fd_scale kv_Fd_scale ki_Fd (by decide +kernel) ⟨rfl, rfl, Nat.le_of_ble_eq_true rfl, Nat.le_of_ble_eq_true rfl⟩ hl.1 rfl rfl (Nat.le_of_ble_eq_true rfl) ⟨Nat.le_refl _, Nat.le_refl _⟩ d_Cv_step_247 ?_
  intro ov ev16 H locs hp h
  rw [hp.1]
  refine W.eq (g2 := F0 m 250 ls []) rfl ?_
  have o16 : ev16 = (va_up ev15 23 (eJ G 10 (sc (stT Ra Rb)))) := hp.2
  have t16_23 : ev16 23 = eJ G 10 (sc (stT Ra Rb)) := by rw [o16, va_up_self]
  have t16_22 := (show ev16 22 = ev15 22 by rw [o16, va_up_ne _ _ (by decide)]).trans t15_22
  have t16_24 := (show ev16 24 = ev15 24 by rw [o16, va_up_ne _ _ (by decide)]).trans t15_24
  have t16_25 := (show ev16 25 = ev15 25 by rw [o16, va_up_ne _ _ (by decide)]).trans t15_25
  have t16_26 := (show ev16 26 = ev15 26 by rw [o16, va_up_ne _ _ (by decide)]).trans t15_26
  have t16_27 := (show ev16 27 = ev15 27 by rw [o16, va_up_ne _ _ (by decide)]).trans t15_27
  have t16_28 := (show ev16 28 = ev15 28 by rw [o16, va_up_ne _ _ (by decide)]).trans t15_28
  have t16_29 := (show ev16 29 = ev15 29 by rw [o16, va_up_ne _ _ (by decide)]).trans t15_29
  have t16_30 := (show ev16 30 = ev15 30 by rw [o16, va_up_ne _ _ (by decide)]).trans t15_30
  have t16_31 := (show ev16 31 = ev15 31 by rw [o16, va_up_ne _ _ (by decide)]).trans t15_31
  have t16_32 := (show ev16 32 = ev15 32 by rw [o16, va_up_ne _ _ (by decide)]).trans t15_32
  have t16_33 := (show ev16 33 = ev15 33 by rw [o16, va_up_ne _ _ (by decide)]).trans t15_33
  have t16_20 := (show ev16 20 = ev15 20 by rw [o16, va_up_ne _ _ (by decide)]).trans t15_20
  have t16_18 := (show ev16 18 = ev15 18 by rw [o16, va_up_ne _ _ (by decide)]).trans t15_18
  have t16_19 := (show ev16 19 = ev15 19 by rw [o16, va_up_ne _ _ (by decide)]).trans t15_19
  refine lv_aload_n hx hb d_Cv_step_250 rfl (lv_at hl 0 rfl) ?_
  refine wv_getf hx hb h 18 (by decide) (fs := [.ref (ad 19), .ref (ad 21), .ref (ad 22), .ref (ad 23), .ref (ad 24), .ref (ad 25), .ref (ad 26), .ref (ad 27), .ref (ad 28), .ref (ad 29), .ref (ad 30), .ref (ad 31), .ref (ad 32), .ref (ad 33)]) t16_18 hts (fun w hw => List.mem_cons_of_mem _ (fW_Cv w hw)) hown (ci := 0) (C := "NonceBox$Curve") (T := fT_Cv) (N := 14) rfl 0 (by decide) (hts _ (List.mem_cons_of_mem _ kf_Cv_16)) rfl (v := .ref (ad 19)) rfl d_Cv_step_251 ?_
  refine lv_aload_n hx hb d_Cv_step_254 rfl (lv_at hl 0 rfl) ?_
  refine wv_getf hx hb h 18 (by decide) (fs := [.ref (ad 19), .ref (ad 21), .ref (ad 22), .ref (ad 23), .ref (ad 24), .ref (ad 25), .ref (ad 26), .ref (ad 27), .ref (ad 28), .ref (ad 29), .ref (ad 30), .ref (ad 31), .ref (ad 32), .ref (ad 33)]) t16_18 hts (fun w hw => List.mem_cons_of_mem _ (fW_Cv w hw)) hown (ci := 0) (C := "NonceBox$Curve") (T := fT_Cv) (N := 14) rfl 11 (by decide) (hts _ (List.mem_cons_of_mem _ kf_Cv_58)) rfl (v := .ref (ad 31)) rfl d_Cv_step_255 ?_
  refine lv_aload_n hx hb d_Cv_step_258 rfl (lv_at hl 2 rfl) ?_
  refine lv_aload_n hx hb d_Cv_step_259 rfl (lv_at hl 2 rfl) ?_
  refine wv_V (As := [.ref (ad 31), .ref (ad 23), .ref (ad 23)]) (rest := []) (k := 3) ⟨hx, hb, hml, hown, hts⟩ h 19 (by decide) (C := "NonceBox$Field") t16_19 rfl (m_Fd_plus l G A ad ev16 19 20 10 21 19 608 (by decide) t16_19 (by decide) (by decide) 31 23 23 (stQ Ra Rb) (sc (stT Ra Rb)) (sc (stT Ra Rb)) (by decide) (by decide) (by decide) t16_31 t16_23 t16_23 (by decide)) kc_Fd_plus kl_Cv_111 km_Fd_plus kv_Fd_plus ki_Fd (by decide +kernel) ⟨rfl, rfl, Nat.le_of_ble_eq_true rfl, Nat.le_of_ble_eq_true rfl⟩ hl.1 rfl rfl (Nat.le_of_ble_eq_true rfl) ⟨Nat.le_refl _, Nat.le_refl _⟩ d_Cv_step_260 ?_
  intro ov ev17 H locs hp h
  rw [hp.1]
  refine W.eq (g2 := F0 m 263 ls []) rfl ?_
  have o17 : ev17 = (va_up ev16 23 (eJ G 10 (pl (stQ Ra Rb) (sc (stT Ra Rb))))) := hp.2
  have t17_23 : ev17 23 = eJ G 10 (pl (stQ Ra Rb) (sc (stT Ra Rb))) := by rw [o17, va_up_self]
  have t17_22 := (show ev17 22 = ev16 22 by rw [o17, va_up_ne _ _ (by decide)]).trans t16_22
  have t17_24 := (show ev17 24 = ev16 24 by rw [o17, va_up_ne _ _ (by decide)]).trans t16_24
  have t17_25 := (show ev17 25 = ev16 25 by rw [o17, va_up_ne _ _ (by decide)]).trans t16_25
  have t17_26 := (show ev17 26 = ev16 26 by rw [o17, va_up_ne _ _ (by decide)]).trans t16_26
  have t17_27 := (show ev17 27 = ev16 27 by rw [o17, va_up_ne _ _ (by decide)]).trans t16_27
  have t17_28 := (show ev17 28 = ev16 28 by rw [o17, va_up_ne _ _ (by decide)]).trans t16_28
  have t17_29 := (show ev17 29 = ev16 29 by rw [o17, va_up_ne _ _ (by decide)]).trans t16_29
  have t17_30 := (show ev17 30 = ev16 30 by rw [o17, va_up_ne _ _ (by decide)]).trans t16_30
  have t17_31 := (show ev17 31 = ev16 31 by rw [o17, va_up_ne _ _ (by decide)]).trans t16_31
  have t17_32 := (show ev17 32 = ev16 32 by rw [o17, va_up_ne _ _ (by decide)]).trans t16_32
  have t17_33 := (show ev17 33 = ev16 33 by rw [o17, va_up_ne _ _ (by decide)]).trans t16_33
  have t17_20 := (show ev17 20 = ev16 20 by rw [o17, va_up_ne _ _ (by decide)]).trans t16_20
  have t17_18 := (show ev17 18 = ev16 18 by rw [o17, va_up_ne _ _ (by decide)]).trans t16_18
  have t17_19 := (show ev17 19 = ev16 19 by rw [o17, va_up_ne _ _ (by decide)]).trans t16_19
  refine lv_aload_n hx hb d_Cv_step_263 rfl (lv_at hl 0 rfl) ?_
  refine wv_getf hx hb h 18 (by decide) (fs := [.ref (ad 19), .ref (ad 21), .ref (ad 22), .ref (ad 23), .ref (ad 24), .ref (ad 25), .ref (ad 26), .ref (ad 27), .ref (ad 28), .ref (ad 29), .ref (ad 30), .ref (ad 31), .ref (ad 32), .ref (ad 33)]) t17_18 hts (fun w hw => List.mem_cons_of_mem _ (fW_Cv w hw)) hown (ci := 0) (C := "NonceBox$Curve") (T := fT_Cv) (N := 14) rfl 0 (by decide) (hts _ (List.mem_cons_of_mem _ kf_Cv_16)) rfl (v := .ref (ad 19)) rfl d_Cv_step_264 ?_
  refine lv_aload_n hx hb d_Cv_step_267 rfl (lv_at hl 0 rfl) ?_
  refine wv_getf hx hb h 18 (by decide) (fs := [.ref (ad 19), .ref (ad 21), .ref (ad 22), .ref (ad 23), .ref (ad 24), .ref (ad 25), .ref (ad 26), .ref (ad 27), .ref (ad 28), .ref (ad 29), .ref (ad 30), .ref (ad 31), .ref (ad 32), .ref (ad 33)]) t17_18 hts (fun w hw => List.mem_cons_of_mem _ (fW_Cv w hw)) hown (ci := 0) (C := "NonceBox$Curve") (T := fT_Cv) (N := 14) rfl 13 (by decide) (hts _ (List.mem_cons_of_mem _ kf_Cv_64)) rfl (v := .ref (ad 33)) rfl d_Cv_step_268 ?_
  refine lv_aload_n hx hb d_Cv_step_271 rfl (lv_at hl 2 rfl) ?_
  refine lv_aload_n hx hb d_Cv_step_272 rfl (lv_at hl 2 rfl) ?_
  refine wv_V (As := [.ref (ad 33), .ref (ad 23), .ref (ad 23)]) (rest := []) (k := 3) ⟨hx, hb, hml, hown, hts⟩ h 19 (by decide) (C := "NonceBox$Field") t17_19 rfl (m_Fd_times l G A ad ev17 19 20 10 21 19 608 (by decide) t17_19 (by decide) (by decide) 33 23 23 (stT Ra Rb) (pl (stQ Ra Rb) (sc (stT Ra Rb))) (pl (stQ Ra Rb) (sc (stT Ra Rb))) (wdC (stQ Ra Rb) (stR Ra Rb) 10) (by decide) (by decide) (by decide) (by decide) t17_33 t17_23 t17_23 t17_20 (by decide) (by decide) (by decide) (by decide) (by decide)) kc_Fd_times kl_Cv_82 km_Fd_times kv_Fd_times ki_Fd (by decide +kernel) ⟨rfl, rfl, Nat.le_of_ble_eq_true rfl, Nat.le_of_ble_eq_true rfl⟩ hl.1 rfl rfl (Nat.le_of_ble_eq_true rfl) ⟨Nat.le_refl _, Nat.le_refl _⟩ d_Cv_step_273 ?_
  intro ov ev18 H locs hp h
  rw [hp.1]
  refine W.eq (g2 := F0 m 276 ls []) rfl ?_
  have o18 : ev18 = (va_up (va_up ev17 20 (eJ G 20 (wdC (stT Ra Rb) (pl (stQ Ra Rb) (sc (stT Ra Rb))) 10))) 23 (eJ G 10 (stB Ra Rb))) := hp.2
  have t18_20 : ev18 20 = eJ G 20 (wdC (stT Ra Rb) (pl (stQ Ra Rb) (sc (stT Ra Rb))) 10) := by rw [o18, va_up_ne _ _ (by decide), va_up_self]
  have t18_23 : ev18 23 = eJ G 10 (stB Ra Rb) := by rw [o18, va_up_self]
  have t18_22 := (show ev18 22 = ev17 22 by rw [o18, va_up_ne _ _ (by decide), va_up_ne _ _ (by decide)]).trans t17_22
  have t18_24 := (show ev18 24 = ev17 24 by rw [o18, va_up_ne _ _ (by decide), va_up_ne _ _ (by decide)]).trans t17_24
  have t18_25 := (show ev18 25 = ev17 25 by rw [o18, va_up_ne _ _ (by decide), va_up_ne _ _ (by decide)]).trans t17_25
  have t18_26 := (show ev18 26 = ev17 26 by rw [o18, va_up_ne _ _ (by decide), va_up_ne _ _ (by decide)]).trans t17_26
  have t18_27 := (show ev18 27 = ev17 27 by rw [o18, va_up_ne _ _ (by decide), va_up_ne _ _ (by decide)]).trans t17_27
  have t18_28 := (show ev18 28 = ev17 28 by rw [o18, va_up_ne _ _ (by decide), va_up_ne _ _ (by decide)]).trans t17_28
  have t18_29 := (show ev18 29 = ev17 29 by rw [o18, va_up_ne _ _ (by decide), va_up_ne _ _ (by decide)]).trans t17_29
  have t18_30 := (show ev18 30 = ev17 30 by rw [o18, va_up_ne _ _ (by decide), va_up_ne _ _ (by decide)]).trans t17_30
  have t18_31 := (show ev18 31 = ev17 31 by rw [o18, va_up_ne _ _ (by decide), va_up_ne _ _ (by decide)]).trans t17_31
  have t18_32 := (show ev18 32 = ev17 32 by rw [o18, va_up_ne _ _ (by decide), va_up_ne _ _ (by decide)]).trans t17_32
  have t18_33 := (show ev18 33 = ev17 33 by rw [o18, va_up_ne _ _ (by decide), va_up_ne _ _ (by decide)]).trans t17_33
  have t18_18 := (show ev18 18 = ev17 18 by rw [o18, va_up_ne _ _ (by decide), va_up_ne _ _ (by decide)]).trans t17_18
  have t18_19 := (show ev18 19 = ev17 19 by rw [o18, va_up_ne _ _ (by decide), va_up_ne _ _ (by decide)]).trans t17_19
  refine wv_vret hx hb hr hlocks h d_Cv_step_276 ⟨(wdC (stT Ra Rb) (pl (stQ Ra Rb) (sc (stT Ra Rb))) 10), (pl Ra Rb), (mi Ra Rb), (stG Ra Rb Rc Rd), (stH Ra Rb Rc Rd), (stQ Ra Rb), (stR Ra Rb), (stT Ra Rb), rfl, ?_⟩
  funext j
  by_cases c0 : j = 20
  · rw [c0, t18_20, va_up_ne _ _ (by decide), va_up_ne _ _ (by decide), va_up_ne _ _ (by decide), va_up_ne _ _ (by decide), va_up_ne _ _ (by decide), va_up_ne _ _ (by decide), va_up_ne _ _ (by decide), va_up_ne _ _ (by decide), va_up_ne _ _ (by decide), va_up_ne _ _ (by decide), va_up_ne _ _ (by decide), va_up_self]
  by_cases c1 : j = 27
  · rw [c1, t18_27, va_up_ne _ _ (by decide), va_up_ne _ _ (by decide), va_up_ne _ _ (by decide), va_up_ne _ _ (by decide), va_up_ne _ _ (by decide), va_up_ne _ _ (by decide), va_up_ne _ _ (by decide), va_up_ne _ _ (by decide), va_up_ne _ _ (by decide), va_up_ne _ _ (by decide), va_up_self]
  by_cases c2 : j = 28
  · rw [c2, t18_28, va_up_ne _ _ (by decide), va_up_ne _ _ (by decide), va_up_ne _ _ (by decide), va_up_ne _ _ (by decide), va_up_ne _ _ (by decide), va_up_ne _ _ (by decide), va_up_ne _ _ (by decide), va_up_ne _ _ (by decide), va_up_ne _ _ (by decide), va_up_self]
  by_cases c3 : j = 29
  · rw [c3, t18_29, va_up_ne _ _ (by decide), va_up_ne _ _ (by decide), va_up_ne _ _ (by decide), va_up_ne _ _ (by decide), va_up_ne _ _ (by decide), va_up_ne _ _ (by decide), va_up_ne _ _ (by decide), va_up_ne _ _ (by decide), va_up_self]
  by_cases c4 : j = 30
  · rw [c4, t18_30, va_up_ne _ _ (by decide), va_up_ne _ _ (by decide), va_up_ne _ _ (by decide), va_up_ne _ _ (by decide), va_up_ne _ _ (by decide), va_up_ne _ _ (by decide), va_up_ne _ _ (by decide), va_up_self]
  by_cases c5 : j = 31
  · rw [c5, t18_31, va_up_ne _ _ (by decide), va_up_ne _ _ (by decide), va_up_ne _ _ (by decide), va_up_ne _ _ (by decide), va_up_ne _ _ (by decide), va_up_ne _ _ (by decide), va_up_self]
  by_cases c6 : j = 32
  · rw [c6, t18_32, va_up_ne _ _ (by decide), va_up_ne _ _ (by decide), va_up_ne _ _ (by decide), va_up_ne _ _ (by decide), va_up_ne _ _ (by decide), va_up_self]
  by_cases c7 : j = 33
  · rw [c7, t18_33, va_up_ne _ _ (by decide), va_up_ne _ _ (by decide), va_up_ne _ _ (by decide), va_up_ne _ _ (by decide), va_up_self]
  by_cases c8 : j = 22
  · rw [c8, t18_22, va_up_ne _ _ (by decide), va_up_ne _ _ (by decide), va_up_ne _ _ (by decide), va_up_self]
  by_cases c9 : j = 23
  · rw [c9, t18_23, va_up_ne _ _ (by decide), va_up_ne _ _ (by decide), va_up_self]
  by_cases c10 : j = 24
  · rw [c10, t18_24, va_up_ne _ _ (by decide), va_up_self]
  by_cases c11 : j = 25
  · rw [c11, t18_25, va_up_self]
  rw [va_up_ne _ _ c11, va_up_ne _ _ c10, va_up_ne _ _ c9, va_up_ne _ _ c8, va_up_ne _ _ c7, va_up_ne _ _ c6, va_up_ne _ _ c5, va_up_ne _ _ c4, va_up_ne _ _ c3, va_up_ne _ _ c2, va_up_ne _ _ c1, va_up_ne _ _ c0]
  rw [o18, va_up_ne _ _ c9, va_up_ne _ _ c0, o17, va_up_ne _ _ c9, o16, va_up_ne _ _ c9, o15, va_up_ne _ _ c8, va_up_ne _ _ c0, o14, va_up_ne _ _ c11, va_up_ne _ _ c0, o13, va_up_ne _ _ c11, va_up_ne _ _ c0, o12, va_up_ne _ _ c11, o11, va_up_ne _ _ c10, va_up_ne _ _ c0, o10, va_up_ne _ _ c10, o9, va_up_ne _ _ c7, o8, va_up_ne _ _ c6, va_up_ne _ _ c0, o7, va_up_ne _ _ c5, va_up_ne _ _ c0, o6, va_up_ne _ _ c4, va_up_ne _ _ c0, o5, va_up_ne _ _ c4, o4, va_up_ne _ _ c3, va_up_ne _ _ c0, o3, va_up_ne _ _ c3, o2, va_up_ne _ _ c2, o1, va_up_ne _ _ c1]
set_option maxRecDepth 100000 in
set_option maxHeartbeats 4000000 in
/-- STEP, the rows 24 25 22 23 -/
theorem m_Cv_step2 (l : Launch) (G : wG) (A : Nat → Prop) (ad : Nat → Nat) (ev : Nat → va_E) (Ra Rb Rc Rd U zW zE zF zG zH zQ zR zT : Nat → Int64) (h18 : ev 18 = eO 0 [.ref (ad 19), .ref (ad 21), .ref (ad 22), .ref (ad 23), .ref (ad 24), .ref (ad 25), .ref (ad 26), .ref (ad 27), .ref (ad 28), .ref (ad 29), .ref (ad 30), .ref (ad 31), .ref (ad 32), .ref (ad 33)]) (h19 : ev 19 = eO 1 [.int (nI 10), .int (nI 21), .long 19, .long 608, .ref (ad 20)]) (ha : ev 24 = eJ G 10 Ra) (hb' : ev 25 = eJ G 10 Rb) (hc : ev 22 = eJ G 10 Rc) (hd : ev 23 = eJ G 10 Rd) (hu : ev 26 = eJ G 10 U) (h20 : ev 20 = eJ G 20 zW) (h27 : ev 27 = eJ G 10 zE) (h28 : ev 28 = eJ G 10 zF) (h29 : ev 29 = eJ G 10 zG) (h30 : ev 30 = eJ G 10 zH) (h31 : ev 31 = eJ G 10 zQ) (h32 : ev 32 = eJ G 10 zR) (h33 : ev 33 = eJ G 10 zT) : wM l y_Cv_step w_Cv_step ({ frames := 12, cells := 0, slots := 0, locals := 400 }) G A 52 ad ev [.ref (ad 18), .ref (ad 24), .ref (ad 25), .ref (ad 22), .ref (ad 23)] (fun ov ev' => ∃ (W E1 F1 G1 H1 Q1 R1 T1 : Nat → Int64), ov = none ∧ ev' = (va_up (va_up (va_up (va_up (va_up (va_up (va_up (va_up (va_up (va_up (va_up (va_up ev 20 (eJ G 20 W)) 27 (eJ G 10 E1)) 28 (eJ G 10 F1)) 29 (eJ G 10 G1)) 30 (eJ G 10 H1)) 31 (eJ G 10 Q1)) 32 (eJ G 10 R1)) 33 (eJ G 10 T1)) 24 (eJ G 10 (stA Ra Rb))) 25 (eJ G 10 (stB Ra Rb))) 22 (eJ G 10 (stC Ra Rb Rc Rd))) 23 (eJ G 10 (stD U Ra Rb Rc Rd)))) := by
  refine wv_ofW (cc := c_Cv_step) (maxL := 5) (ret := none) (by decide) rfl (Nat.le_of_ble_eq_true rfl) ?_
  intro p e s m below meth c ls hx hb hr hml hts hown hlocks hini h hl
  have hl : lv_has ls 5 [(0, .ref (ad 18)), (1, .ref (ad 24)), (2, .ref (ad 25)), (3, .ref (ad 22)), (4, .ref (ad 23))] := hl
  refine lv_aload_n hx hb d_Cv_step_0 rfl (lv_at hl 0 rfl) ?_
  refine wv_getf hx hb h 18 (by decide) (fs := [.ref (ad 19), .ref (ad 21), .ref (ad 22), .ref (ad 23), .ref (ad 24), .ref (ad 25), .ref (ad 26), .ref (ad 27), .ref (ad 28), .ref (ad 29), .ref (ad 30), .ref (ad 31), .ref (ad 32), .ref (ad 33)]) h18 hts (fun w hw => List.mem_cons_of_mem _ (fW_Cv w hw)) hown (ci := 0) (C := "NonceBox$Curve") (T := fT_Cv) (N := 14) rfl 0 (by decide) (hts _ (List.mem_cons_of_mem _ kf_Cv_16)) rfl (v := .ref (ad 19)) rfl d_Cv_step_1 ?_
  refine lv_aload_n hx hb d_Cv_step_4 rfl (lv_at hl 1 rfl) ?_
  refine lv_aload_n hx hb d_Cv_step_5 rfl (lv_at hl 2 rfl) ?_
  refine lv_aload_n hx hb d_Cv_step_6 rfl (lv_at hl 0 rfl) ?_
  refine wv_getf hx hb h 18 (by decide) (fs := [.ref (ad 19), .ref (ad 21), .ref (ad 22), .ref (ad 23), .ref (ad 24), .ref (ad 25), .ref (ad 26), .ref (ad 27), .ref (ad 28), .ref (ad 29), .ref (ad 30), .ref (ad 31), .ref (ad 32), .ref (ad 33)]) h18 hts (fun w hw => List.mem_cons_of_mem _ (fW_Cv w hw)) hown (ci := 0) (C := "NonceBox$Curve") (T := fT_Cv) (N := 14) rfl 7 (by decide) (hts _ (List.mem_cons_of_mem _ kf_Cv_46)) rfl (v := .ref (ad 27)) rfl d_Cv_step_7 ?_
  refine wv_V (As := [.ref (ad 24), .ref (ad 25), .ref (ad 27)]) (rest := []) (k := 3) ⟨hx, hb, hml, hown, hts⟩ h 19 (by decide) (C := "NonceBox$Field") h19 rfl (m_Fd_plus l G A ad ev 19 20 10 21 19 608 (by decide) h19 (by decide) (by decide) 24 25 27 Ra Rb zE (by decide) (by decide) (by decide) ha hb' h27 (by decide)) kc_Fd_plus kl_Cv_111 km_Fd_plus kv_Fd_plus ki_Fd (by decide +kernel) ⟨rfl, rfl, Nat.le_of_ble_eq_true rfl, Nat.le_of_ble_eq_true rfl⟩ hl.1 rfl rfl (Nat.le_of_ble_eq_true rfl) ⟨Nat.le_refl _, Nat.le_refl _⟩ d_Cv_step_10 ?_
  intro ov ev1 H locs hp h
  rw [hp.1]
  refine W.eq (g2 := F0 m 13 ls []) rfl ?_
  have o1 : ev1 = (va_up ev 27 (eJ G 10 (pl Ra Rb))) := hp.2
  have t1_27 : ev1 27 = eJ G 10 (pl Ra Rb) := by rw [o1, va_up_self]
  have t1_24 := (show ev1 24 = ev 24 by rw [o1, va_up_ne _ _ (by decide)]).trans ha
  have t1_25 := (show ev1 25 = ev 25 by rw [o1, va_up_ne _ _ (by decide)]).trans hb'
  have t1_22 := (show ev1 22 = ev 22 by rw [o1, va_up_ne _ _ (by decide)]).trans hc
  have t1_23 := (show ev1 23 = ev 23 by rw [o1, va_up_ne _ _ (by decide)]).trans hd
  have t1_26 := (show ev1 26 = ev 26 by rw [o1, va_up_ne _ _ (by decide)]).trans hu
  have t1_28 := (show ev1 28 = ev 28 by rw [o1, va_up_ne _ _ (by decide)]).trans h28
  have t1_29 := (show ev1 29 = ev 29 by rw [o1, va_up_ne _ _ (by decide)]).trans h29
  have t1_30 := (show ev1 30 = ev 30 by rw [o1, va_up_ne _ _ (by decide)]).trans h30
  have t1_31 := (show ev1 31 = ev 31 by rw [o1, va_up_ne _ _ (by decide)]).trans h31
  have t1_32 := (show ev1 32 = ev 32 by rw [o1, va_up_ne _ _ (by decide)]).trans h32
  have t1_33 := (show ev1 33 = ev 33 by rw [o1, va_up_ne _ _ (by decide)]).trans h33
  have t1_20 := (show ev1 20 = ev 20 by rw [o1, va_up_ne _ _ (by decide)]).trans h20
  have t1_18 := (show ev1 18 = ev 18 by rw [o1, va_up_ne _ _ (by decide)]).trans h18
  have t1_19 := (show ev1 19 = ev 19 by rw [o1, va_up_ne _ _ (by decide)]).trans h19
  refine lv_aload_n hx hb d_Cv_step_13 rfl (lv_at hl 0 rfl) ?_
  refine wv_getf hx hb h 18 (by decide) (fs := [.ref (ad 19), .ref (ad 21), .ref (ad 22), .ref (ad 23), .ref (ad 24), .ref (ad 25), .ref (ad 26), .ref (ad 27), .ref (ad 28), .ref (ad 29), .ref (ad 30), .ref (ad 31), .ref (ad 32), .ref (ad 33)]) t1_18 hts (fun w hw => List.mem_cons_of_mem _ (fW_Cv w hw)) hown (ci := 0) (C := "NonceBox$Curve") (T := fT_Cv) (N := 14) rfl 0 (by decide) (hts _ (List.mem_cons_of_mem _ kf_Cv_16)) rfl (v := .ref (ad 19)) rfl d_Cv_step_14 ?_
  refine lv_aload_n hx hb d_Cv_step_17 rfl (lv_at hl 1 rfl) ?_
  refine lv_aload_n hx hb d_Cv_step_18 rfl (lv_at hl 2 rfl) ?_
  refine lv_aload_n hx hb d_Cv_step_19 rfl (lv_at hl 0 rfl) ?_
  refine wv_getf hx hb h 18 (by decide) (fs := [.ref (ad 19), .ref (ad 21), .ref (ad 22), .ref (ad 23), .ref (ad 24), .ref (ad 25), .ref (ad 26), .ref (ad 27), .ref (ad 28), .ref (ad 29), .ref (ad 30), .ref (ad 31), .ref (ad 32), .ref (ad 33)]) t1_18 hts (fun w hw => List.mem_cons_of_mem _ (fW_Cv w hw)) hown (ci := 0) (C := "NonceBox$Curve") (T := fT_Cv) (N := 14) rfl 8 (by decide) (hts _ (List.mem_cons_of_mem _ kf_Cv_49)) rfl (v := .ref (ad 28)) rfl d_Cv_step_20 ?_
  refine wv_V (As := [.ref (ad 24), .ref (ad 25), .ref (ad 28)]) (rest := []) (k := 3) ⟨hx, hb, hml, hown, hts⟩ h 19 (by decide) (C := "NonceBox$Field") t1_19 rfl (m_Fd_minus l G A ad ev1 19 20 10 21 19 608 (by decide) t1_19 (by decide) (by decide) 24 25 28 Ra Rb zF (by decide) (by decide) (by decide) t1_24 t1_25 t1_28 (by decide)) kc_Fd_minus kl_Cv_114 km_Fd_minus kv_Fd_minus ki_Fd (by decide +kernel) ⟨rfl, rfl, Nat.le_of_ble_eq_true rfl, Nat.le_of_ble_eq_true rfl⟩ hl.1 rfl rfl (Nat.le_of_ble_eq_true rfl) ⟨Nat.le_refl _, Nat.le_refl _⟩ d_Cv_step_23 ?_
  intro ov ev2 H locs hp h
  rw [hp.1]
  refine W.eq (g2 := F0 m 26 ls []) rfl ?_
  have o2 : ev2 = (va_up ev1 28 (eJ G 10 (mi Ra Rb))) := hp.2
  have t2_28 : ev2 28 = eJ G 10 (mi Ra Rb) := by rw [o2, va_up_self]
  have t2_24 := (show ev2 24 = ev1 24 by rw [o2, va_up_ne _ _ (by decide)]).trans t1_24
  have t2_25 := (show ev2 25 = ev1 25 by rw [o2, va_up_ne _ _ (by decide)]).trans t1_25
  have t2_22 := (show ev2 22 = ev1 22 by rw [o2, va_up_ne _ _ (by decide)]).trans t1_22
  have t2_23 := (show ev2 23 = ev1 23 by rw [o2, va_up_ne _ _ (by decide)]).trans t1_23
  have t2_26 := (show ev2 26 = ev1 26 by rw [o2, va_up_ne _ _ (by decide)]).trans t1_26
  have t2_27 := (show ev2 27 = ev1 27 by rw [o2, va_up_ne _ _ (by decide)]).trans t1_27
  have t2_29 := (show ev2 29 = ev1 29 by rw [o2, va_up_ne _ _ (by decide)]).trans t1_29
  have t2_30 := (show ev2 30 = ev1 30 by rw [o2, va_up_ne _ _ (by decide)]).trans t1_30
  have t2_31 := (show ev2 31 = ev1 31 by rw [o2, va_up_ne _ _ (by decide)]).trans t1_31
  have t2_32 := (show ev2 32 = ev1 32 by rw [o2, va_up_ne _ _ (by decide)]).trans t1_32
  have t2_33 := (show ev2 33 = ev1 33 by rw [o2, va_up_ne _ _ (by decide)]).trans t1_33
  have t2_20 := (show ev2 20 = ev1 20 by rw [o2, va_up_ne _ _ (by decide)]).trans t1_20
  have t2_18 := (show ev2 18 = ev1 18 by rw [o2, va_up_ne _ _ (by decide)]).trans t1_18
  have t2_19 := (show ev2 19 = ev1 19 by rw [o2, va_up_ne _ _ (by decide)]).trans t1_19
  refine lv_aload_n hx hb d_Cv_step_26 rfl (lv_at hl 0 rfl) ?_
  refine wv_getf hx hb h 18 (by decide) (fs := [.ref (ad 19), .ref (ad 21), .ref (ad 22), .ref (ad 23), .ref (ad 24), .ref (ad 25), .ref (ad 26), .ref (ad 27), .ref (ad 28), .ref (ad 29), .ref (ad 30), .ref (ad 31), .ref (ad 32), .ref (ad 33)]) t2_18 hts (fun w hw => List.mem_cons_of_mem _ (fW_Cv w hw)) hown (ci := 0) (C := "NonceBox$Curve") (T := fT_Cv) (N := 14) rfl 0 (by decide) (hts _ (List.mem_cons_of_mem _ kf_Cv_16)) rfl (v := .ref (ad 19)) rfl d_Cv_step_27 ?_
  refine lv_aload_n hx hb d_Cv_step_30 rfl (lv_at hl 3 rfl) ?_
  refine lv_aload hx hb d_Cv_step_31 (lv_at hl 4 rfl) ?_
  refine lv_aload_n hx hb d_Cv_step_33 rfl (lv_at hl 0 rfl) ?_
  refine wv_getf hx hb h 18 (by decide) (fs := [.ref (ad 19), .ref (ad 21), .ref (ad 22), .ref (ad 23), .ref (ad 24), .ref (ad 25), .ref (ad 26), .ref (ad 27), .ref (ad 28), .ref (ad 29), .ref (ad 30), .ref (ad 31), .ref (ad 32), .ref (ad 33)]) t2_18 hts (fun w hw => List.mem_cons_of_mem _ (fW_Cv w hw)) hown (ci := 0) (C := "NonceBox$Curve") (T := fT_Cv) (N := 14) rfl 9 (by decide) (hts _ (List.mem_cons_of_mem _ kf_Cv_52)) rfl (v := .ref (ad 29)) rfl d_Cv_step_34 ?_
  refine wv_V (As := [.ref (ad 22), .ref (ad 23), .ref (ad 29)]) (rest := []) (k := 3) ⟨hx, hb, hml, hown, hts⟩ h 19 (by decide) (C := "NonceBox$Field") t2_19 rfl (m_Fd_plus l G A ad ev2 19 20 10 21 19 608 (by decide) t2_19 (by decide) (by decide) 22 23 29 Rc Rd zG (by decide) (by decide) (by decide) t2_22 t2_23 t2_29 (by decide)) kc_Fd_plus kl_Cv_111 km_Fd_plus kv_Fd_plus ki_Fd (by decide +kernel) ⟨rfl, rfl, Nat.le_of_ble_eq_true rfl, Nat.le_of_ble_eq_true rfl⟩ hl.1 rfl rfl (Nat.le_of_ble_eq_true rfl) ⟨Nat.le_refl _, Nat.le_refl _⟩ d_Cv_step_37 ?_
  intro ov ev3 H locs hp h
  rw [hp.1]
  refine W.eq (g2 := F0 m 40 ls []) rfl ?_
  have o3 : ev3 = (va_up ev2 29 (eJ G 10 (pl Rc Rd))) := hp.2
  have t3_29 : ev3 29 = eJ G 10 (pl Rc Rd) := by rw [o3, va_up_self]
  have t3_24 := (show ev3 24 = ev2 24 by rw [o3, va_up_ne _ _ (by decide)]).trans t2_24
  have t3_25 := (show ev3 25 = ev2 25 by rw [o3, va_up_ne _ _ (by decide)]).trans t2_25
  have t3_22 := (show ev3 22 = ev2 22 by rw [o3, va_up_ne _ _ (by decide)]).trans t2_22
  have t3_23 := (show ev3 23 = ev2 23 by rw [o3, va_up_ne _ _ (by decide)]).trans t2_23
  have t3_26 := (show ev3 26 = ev2 26 by rw [o3, va_up_ne _ _ (by decide)]).trans t2_26
  have t3_27 := (show ev3 27 = ev2 27 by rw [o3, va_up_ne _ _ (by decide)]).trans t2_27
  have t3_28 := (show ev3 28 = ev2 28 by rw [o3, va_up_ne _ _ (by decide)]).trans t2_28
  have t3_30 := (show ev3 30 = ev2 30 by rw [o3, va_up_ne _ _ (by decide)]).trans t2_30
  have t3_31 := (show ev3 31 = ev2 31 by rw [o3, va_up_ne _ _ (by decide)]).trans t2_31
  have t3_32 := (show ev3 32 = ev2 32 by rw [o3, va_up_ne _ _ (by decide)]).trans t2_32
  have t3_33 := (show ev3 33 = ev2 33 by rw [o3, va_up_ne _ _ (by decide)]).trans t2_33
  have t3_20 := (show ev3 20 = ev2 20 by rw [o3, va_up_ne _ _ (by decide)]).trans t2_20
  have t3_18 := (show ev3 18 = ev2 18 by rw [o3, va_up_ne _ _ (by decide)]).trans t2_18
  have t3_19 := (show ev3 19 = ev2 19 by rw [o3, va_up_ne _ _ (by decide)]).trans t2_19
  refine lv_aload_n hx hb d_Cv_step_40 rfl (lv_at hl 0 rfl) ?_
  refine wv_getf hx hb h 18 (by decide) (fs := [.ref (ad 19), .ref (ad 21), .ref (ad 22), .ref (ad 23), .ref (ad 24), .ref (ad 25), .ref (ad 26), .ref (ad 27), .ref (ad 28), .ref (ad 29), .ref (ad 30), .ref (ad 31), .ref (ad 32), .ref (ad 33)]) t3_18 hts (fun w hw => List.mem_cons_of_mem _ (fW_Cv w hw)) hown (ci := 0) (C := "NonceBox$Curve") (T := fT_Cv) (N := 14) rfl 0 (by decide) (hts _ (List.mem_cons_of_mem _ kf_Cv_16)) rfl (v := .ref (ad 19)) rfl d_Cv_step_41 ?_
  refine lv_aload_n hx hb d_Cv_step_44 rfl (lv_at hl 0 rfl) ?_
  refine wv_getf hx hb h 18 (by decide) (fs := [.ref (ad 19), .ref (ad 21), .ref (ad 22), .ref (ad 23), .ref (ad 24), .ref (ad 25), .ref (ad 26), .ref (ad 27), .ref (ad 28), .ref (ad 29), .ref (ad 30), .ref (ad 31), .ref (ad 32), .ref (ad 33)]) t3_18 hts (fun w hw => List.mem_cons_of_mem _ (fW_Cv w hw)) hown (ci := 0) (C := "NonceBox$Curve") (T := fT_Cv) (N := 14) rfl 9 (by decide) (hts _ (List.mem_cons_of_mem _ kf_Cv_52)) rfl (v := .ref (ad 29)) rfl d_Cv_step_45 ?_
  refine lv_aload_n hx hb d_Cv_step_48 rfl (lv_at hl 0 rfl) ?_
  refine wv_getf hx hb h 18 (by decide) (fs := [.ref (ad 19), .ref (ad 21), .ref (ad 22), .ref (ad 23), .ref (ad 24), .ref (ad 25), .ref (ad 26), .ref (ad 27), .ref (ad 28), .ref (ad 29), .ref (ad 30), .ref (ad 31), .ref (ad 32), .ref (ad 33)]) t3_18 hts (fun w hw => List.mem_cons_of_mem _ (fW_Cv w hw)) hown (ci := 0) (C := "NonceBox$Curve") (T := fT_Cv) (N := 14) rfl 8 (by decide) (hts _ (List.mem_cons_of_mem _ kf_Cv_49)) rfl (v := .ref (ad 28)) rfl d_Cv_step_49 ?_
  refine lv_aload_n hx hb d_Cv_step_52 rfl (lv_at hl 0 rfl) ?_
  refine wv_getf hx hb h 18 (by decide) (fs := [.ref (ad 19), .ref (ad 21), .ref (ad 22), .ref (ad 23), .ref (ad 24), .ref (ad 25), .ref (ad 26), .ref (ad 27), .ref (ad 28), .ref (ad 29), .ref (ad 30), .ref (ad 31), .ref (ad 32), .ref (ad 33)]) t3_18 hts (fun w hw => List.mem_cons_of_mem _ (fW_Cv w hw)) hown (ci := 0) (C := "NonceBox$Curve") (T := fT_Cv) (N := 14) rfl 9 (by decide) (hts _ (List.mem_cons_of_mem _ kf_Cv_52)) rfl (v := .ref (ad 29)) rfl d_Cv_step_53 ?_
  refine wv_V (As := [.ref (ad 29), .ref (ad 28), .ref (ad 29)]) (rest := []) (k := 3) ⟨hx, hb, hml, hown, hts⟩ h 19 (by decide) (C := "NonceBox$Field") t3_19 rfl (m_Fd_times l G A ad ev3 19 20 10 21 19 608 (by decide) t3_19 (by decide) (by decide) 29 28 29 (pl Rc Rd) (mi Ra Rb) (pl Rc Rd) zW (by decide) (by decide) (by decide) (by decide) t3_29 t3_28 t3_29 t3_20 (by decide) (by decide) (by decide) (by decide) (by decide)) kc_Fd_times kl_Cv_82 km_Fd_times kv_Fd_times ki_Fd (by decide +kernel) ⟨rfl, rfl, Nat.le_of_ble_eq_true rfl, Nat.le_of_ble_eq_true rfl⟩ hl.1 rfl rfl (Nat.le_of_ble_eq_true rfl) ⟨Nat.le_refl _, Nat.le_refl _⟩ d_Cv_step_56 ?_
  intro ov ev4 H locs hp h
  rw [hp.1]
  refine W.eq (g2 := F0 m 59 ls []) rfl ?_
  have o4 : ev4 = (va_up (va_up ev3 20 (eJ G 20 (wdC (pl Rc Rd) (mi Ra Rb) 10))) 29 (eJ G 10 (stG Ra Rb Rc Rd))) := hp.2
  have t4_20 : ev4 20 = eJ G 20 (wdC (pl Rc Rd) (mi Ra Rb) 10) := by rw [o4, va_up_ne _ _ (by decide), va_up_self]
  have t4_29 : ev4 29 = eJ G 10 (stG Ra Rb Rc Rd) := by rw [o4, va_up_self]
  have t4_24 := (show ev4 24 = ev3 24 by rw [o4, va_up_ne _ _ (by decide), va_up_ne _ _ (by decide)]).trans t3_24
  have t4_25 := (show ev4 25 = ev3 25 by rw [o4, va_up_ne _ _ (by decide), va_up_ne _ _ (by decide)]).trans t3_25
  have t4_22 := (show ev4 22 = ev3 22 by rw [o4, va_up_ne _ _ (by decide), va_up_ne _ _ (by decide)]).trans t3_22
  have t4_23 := (show ev4 23 = ev3 23 by rw [o4, va_up_ne _ _ (by decide), va_up_ne _ _ (by decide)]).trans t3_23
  have t4_26 := (show ev4 26 = ev3 26 by rw [o4, va_up_ne _ _ (by decide), va_up_ne _ _ (by decide)]).trans t3_26
  have t4_27 := (show ev4 27 = ev3 27 by rw [o4, va_up_ne _ _ (by decide), va_up_ne _ _ (by decide)]).trans t3_27
  have t4_28 := (show ev4 28 = ev3 28 by rw [o4, va_up_ne _ _ (by decide), va_up_ne _ _ (by decide)]).trans t3_28
  have t4_30 := (show ev4 30 = ev3 30 by rw [o4, va_up_ne _ _ (by decide), va_up_ne _ _ (by decide)]).trans t3_30
  have t4_31 := (show ev4 31 = ev3 31 by rw [o4, va_up_ne _ _ (by decide), va_up_ne _ _ (by decide)]).trans t3_31
  have t4_32 := (show ev4 32 = ev3 32 by rw [o4, va_up_ne _ _ (by decide), va_up_ne _ _ (by decide)]).trans t3_32
  have t4_33 := (show ev4 33 = ev3 33 by rw [o4, va_up_ne _ _ (by decide), va_up_ne _ _ (by decide)]).trans t3_33
  have t4_18 := (show ev4 18 = ev3 18 by rw [o4, va_up_ne _ _ (by decide), va_up_ne _ _ (by decide)]).trans t3_18
  have t4_19 := (show ev4 19 = ev3 19 by rw [o4, va_up_ne _ _ (by decide), va_up_ne _ _ (by decide)]).trans t3_19
  refine lv_aload_n hx hb d_Cv_step_59 rfl (lv_at hl 0 rfl) ?_
  refine wv_getf hx hb h 18 (by decide) (fs := [.ref (ad 19), .ref (ad 21), .ref (ad 22), .ref (ad 23), .ref (ad 24), .ref (ad 25), .ref (ad 26), .ref (ad 27), .ref (ad 28), .ref (ad 29), .ref (ad 30), .ref (ad 31), .ref (ad 32), .ref (ad 33)]) t4_18 hts (fun w hw => List.mem_cons_of_mem _ (fW_Cv w hw)) hown (ci := 0) (C := "NonceBox$Curve") (T := fT_Cv) (N := 14) rfl 0 (by decide) (hts _ (List.mem_cons_of_mem _ kf_Cv_16)) rfl (v := .ref (ad 19)) rfl d_Cv_step_60 ?_
  refine lv_aload_n hx hb d_Cv_step_63 rfl (lv_at hl 3 rfl) ?_
  refine lv_aload hx hb d_Cv_step_64 (lv_at hl 4 rfl) ?_
  refine lv_aload_n hx hb d_Cv_step_66 rfl (lv_at hl 0 rfl) ?_
  refine wv_getf hx hb h 18 (by decide) (fs := [.ref (ad 19), .ref (ad 21), .ref (ad 22), .ref (ad 23), .ref (ad 24), .ref (ad 25), .ref (ad 26), .ref (ad 27), .ref (ad 28), .ref (ad 29), .ref (ad 30), .ref (ad 31), .ref (ad 32), .ref (ad 33)]) t4_18 hts (fun w hw => List.mem_cons_of_mem _ (fW_Cv w hw)) hown (ci := 0) (C := "NonceBox$Curve") (T := fT_Cv) (N := 14) rfl 10 (by decide) (hts _ (List.mem_cons_of_mem _ kf_Cv_55)) rfl (v := .ref (ad 30)) rfl d_Cv_step_67 ?_
  refine wv_V (As := [.ref (ad 22), .ref (ad 23), .ref (ad 30)]) (rest := []) (k := 3) ⟨hx, hb, hml, hown, hts⟩ h 19 (by decide) (C := "NonceBox$Field") t4_19 rfl (m_Fd_minus l G A ad ev4 19 20 10 21 19 608 (by decide) t4_19 (by decide) (by decide) 22 23 30 Rc Rd zH (by decide) (by decide) (by decide) t4_22 t4_23 t4_30 (by decide)) kc_Fd_minus kl_Cv_114 km_Fd_minus kv_Fd_minus ki_Fd (by decide +kernel) ⟨rfl, rfl, Nat.le_of_ble_eq_true rfl, Nat.le_of_ble_eq_true rfl⟩ hl.1 rfl rfl (Nat.le_of_ble_eq_true rfl) ⟨Nat.le_refl _, Nat.le_refl _⟩ d_Cv_step_70 ?_
  intro ov ev5 H locs hp h
  rw [hp.1]
  refine W.eq (g2 := F0 m 73 ls []) rfl ?_
  have o5 : ev5 = (va_up ev4 30 (eJ G 10 (mi Rc Rd))) := hp.2
  have t5_30 : ev5 30 = eJ G 10 (mi Rc Rd) := by rw [o5, va_up_self]
  have t5_24 := (show ev5 24 = ev4 24 by rw [o5, va_up_ne _ _ (by decide)]).trans t4_24
  have t5_25 := (show ev5 25 = ev4 25 by rw [o5, va_up_ne _ _ (by decide)]).trans t4_25
  have t5_22 := (show ev5 22 = ev4 22 by rw [o5, va_up_ne _ _ (by decide)]).trans t4_22
  have t5_23 := (show ev5 23 = ev4 23 by rw [o5, va_up_ne _ _ (by decide)]).trans t4_23
  have t5_26 := (show ev5 26 = ev4 26 by rw [o5, va_up_ne _ _ (by decide)]).trans t4_26
  have t5_27 := (show ev5 27 = ev4 27 by rw [o5, va_up_ne _ _ (by decide)]).trans t4_27
  have t5_28 := (show ev5 28 = ev4 28 by rw [o5, va_up_ne _ _ (by decide)]).trans t4_28
  have t5_29 := (show ev5 29 = ev4 29 by rw [o5, va_up_ne _ _ (by decide)]).trans t4_29
  have t5_31 := (show ev5 31 = ev4 31 by rw [o5, va_up_ne _ _ (by decide)]).trans t4_31
  have t5_32 := (show ev5 32 = ev4 32 by rw [o5, va_up_ne _ _ (by decide)]).trans t4_32
  have t5_33 := (show ev5 33 = ev4 33 by rw [o5, va_up_ne _ _ (by decide)]).trans t4_33
  have t5_20 := (show ev5 20 = ev4 20 by rw [o5, va_up_ne _ _ (by decide)]).trans t4_20
  have t5_18 := (show ev5 18 = ev4 18 by rw [o5, va_up_ne _ _ (by decide)]).trans t4_18
  have t5_19 := (show ev5 19 = ev4 19 by rw [o5, va_up_ne _ _ (by decide)]).trans t4_19
  refine lv_aload_n hx hb d_Cv_step_73 rfl (lv_at hl 0 rfl) ?_
  refine wv_getf hx hb h 18 (by decide) (fs := [.ref (ad 19), .ref (ad 21), .ref (ad 22), .ref (ad 23), .ref (ad 24), .ref (ad 25), .ref (ad 26), .ref (ad 27), .ref (ad 28), .ref (ad 29), .ref (ad 30), .ref (ad 31), .ref (ad 32), .ref (ad 33)]) t5_18 hts (fun w hw => List.mem_cons_of_mem _ (fW_Cv w hw)) hown (ci := 0) (C := "NonceBox$Curve") (T := fT_Cv) (N := 14) rfl 0 (by decide) (hts _ (List.mem_cons_of_mem _ kf_Cv_16)) rfl (v := .ref (ad 19)) rfl d_Cv_step_74 ?_
  refine lv_aload_n hx hb d_Cv_step_77 rfl (lv_at hl 0 rfl) ?_
  refine wv_getf hx hb h 18 (by decide) (fs := [.ref (ad 19), .ref (ad 21), .ref (ad 22), .ref (ad 23), .ref (ad 24), .ref (ad 25), .ref (ad 26), .ref (ad 27), .ref (ad 28), .ref (ad 29), .ref (ad 30), .ref (ad 31), .ref (ad 32), .ref (ad 33)]) t5_18 hts (fun w hw => List.mem_cons_of_mem _ (fW_Cv w hw)) hown (ci := 0) (C := "NonceBox$Curve") (T := fT_Cv) (N := 14) rfl 10 (by decide) (hts _ (List.mem_cons_of_mem _ kf_Cv_55)) rfl (v := .ref (ad 30)) rfl d_Cv_step_78 ?_
  refine lv_aload_n hx hb d_Cv_step_81 rfl (lv_at hl 0 rfl) ?_
  refine wv_getf hx hb h 18 (by decide) (fs := [.ref (ad 19), .ref (ad 21), .ref (ad 22), .ref (ad 23), .ref (ad 24), .ref (ad 25), .ref (ad 26), .ref (ad 27), .ref (ad 28), .ref (ad 29), .ref (ad 30), .ref (ad 31), .ref (ad 32), .ref (ad 33)]) t5_18 hts (fun w hw => List.mem_cons_of_mem _ (fW_Cv w hw)) hown (ci := 0) (C := "NonceBox$Curve") (T := fT_Cv) (N := 14) rfl 7 (by decide) (hts _ (List.mem_cons_of_mem _ kf_Cv_46)) rfl (v := .ref (ad 27)) rfl d_Cv_step_82 ?_
  refine lv_aload_n hx hb d_Cv_step_85 rfl (lv_at hl 0 rfl) ?_
  refine wv_getf hx hb h 18 (by decide) (fs := [.ref (ad 19), .ref (ad 21), .ref (ad 22), .ref (ad 23), .ref (ad 24), .ref (ad 25), .ref (ad 26), .ref (ad 27), .ref (ad 28), .ref (ad 29), .ref (ad 30), .ref (ad 31), .ref (ad 32), .ref (ad 33)]) t5_18 hts (fun w hw => List.mem_cons_of_mem _ (fW_Cv w hw)) hown (ci := 0) (C := "NonceBox$Curve") (T := fT_Cv) (N := 14) rfl 10 (by decide) (hts _ (List.mem_cons_of_mem _ kf_Cv_55)) rfl (v := .ref (ad 30)) rfl d_Cv_step_86 ?_
  refine wv_V (As := [.ref (ad 30), .ref (ad 27), .ref (ad 30)]) (rest := []) (k := 3) ⟨hx, hb, hml, hown, hts⟩ h 19 (by decide) (C := "NonceBox$Field") t5_19 rfl (m_Fd_times l G A ad ev5 19 20 10 21 19 608 (by decide) t5_19 (by decide) (by decide) 30 27 30 (mi Rc Rd) (pl Ra Rb) (mi Rc Rd) (wdC (pl Rc Rd) (mi Ra Rb) 10) (by decide) (by decide) (by decide) (by decide) t5_30 t5_27 t5_30 t5_20 (by decide) (by decide) (by decide) (by decide) (by decide)) kc_Fd_times kl_Cv_82 km_Fd_times kv_Fd_times ki_Fd (by decide +kernel) ⟨rfl, rfl, Nat.le_of_ble_eq_true rfl, Nat.le_of_ble_eq_true rfl⟩ hl.1 rfl rfl (Nat.le_of_ble_eq_true rfl) ⟨Nat.le_refl _, Nat.le_refl _⟩ d_Cv_step_89 ?_
  intro ov ev6 H locs hp h
  rw [hp.1]
  refine W.eq (g2 := F0 m 92 ls []) rfl ?_
  have o6 : ev6 = (va_up (va_up ev5 20 (eJ G 20 (wdC (mi Rc Rd) (pl Ra Rb) 10))) 30 (eJ G 10 (stH Ra Rb Rc Rd))) := hp.2
  have t6_20 : ev6 20 = eJ G 20 (wdC (mi Rc Rd) (pl Ra Rb) 10) := by rw [o6, va_up_ne _ _ (by decide), va_up_self]
  have t6_30 : ev6 30 = eJ G 10 (stH Ra Rb Rc Rd) := by rw [o6, va_up_self]
  have t6_24 := (show ev6 24 = ev5 24 by rw [o6, va_up_ne _ _ (by decide), va_up_ne _ _ (by decide)]).trans t5_24
  have t6_25 := (show ev6 25 = ev5 25 by rw [o6, va_up_ne _ _ (by decide), va_up_ne _ _ (by decide)]).trans t5_25
  have t6_22 := (show ev6 22 = ev5 22 by rw [o6, va_up_ne _ _ (by decide), va_up_ne _ _ (by decide)]).trans t5_22
  have t6_23 := (show ev6 23 = ev5 23 by rw [o6, va_up_ne _ _ (by decide), va_up_ne _ _ (by decide)]).trans t5_23
  have t6_26 := (show ev6 26 = ev5 26 by rw [o6, va_up_ne _ _ (by decide), va_up_ne _ _ (by decide)]).trans t5_26
  have t6_27 := (show ev6 27 = ev5 27 by rw [o6, va_up_ne _ _ (by decide), va_up_ne _ _ (by decide)]).trans t5_27
  have t6_28 := (show ev6 28 = ev5 28 by rw [o6, va_up_ne _ _ (by decide), va_up_ne _ _ (by decide)]).trans t5_28
  have t6_29 := (show ev6 29 = ev5 29 by rw [o6, va_up_ne _ _ (by decide), va_up_ne _ _ (by decide)]).trans t5_29
  have t6_31 := (show ev6 31 = ev5 31 by rw [o6, va_up_ne _ _ (by decide), va_up_ne _ _ (by decide)]).trans t5_31
  have t6_32 := (show ev6 32 = ev5 32 by rw [o6, va_up_ne _ _ (by decide), va_up_ne _ _ (by decide)]).trans t5_32
  have t6_33 := (show ev6 33 = ev5 33 by rw [o6, va_up_ne _ _ (by decide), va_up_ne _ _ (by decide)]).trans t5_33
  have t6_18 := (show ev6 18 = ev5 18 by rw [o6, va_up_ne _ _ (by decide), va_up_ne _ _ (by decide)]).trans t5_18
  have t6_19 := (show ev6 19 = ev5 19 by rw [o6, va_up_ne _ _ (by decide), va_up_ne _ _ (by decide)]).trans t5_19
  refine lv_aload_n hx hb d_Cv_step_92 rfl (lv_at hl 0 rfl) ?_
  refine wv_getf hx hb h 18 (by decide) (fs := [.ref (ad 19), .ref (ad 21), .ref (ad 22), .ref (ad 23), .ref (ad 24), .ref (ad 25), .ref (ad 26), .ref (ad 27), .ref (ad 28), .ref (ad 29), .ref (ad 30), .ref (ad 31), .ref (ad 32), .ref (ad 33)]) t6_18 hts (fun w hw => List.mem_cons_of_mem _ (fW_Cv w hw)) hown (ci := 0) (C := "NonceBox$Curve") (T := fT_Cv) (N := 14) rfl 0 (by decide) (hts _ (List.mem_cons_of_mem _ kf_Cv_16)) rfl (v := .ref (ad 19)) rfl d_Cv_step_93 ?_
  refine lv_aload_n hx hb d_Cv_step_96 rfl (lv_at hl 0 rfl) ?_
  refine wv_getf hx hb h 18 (by decide) (fs := [.ref (ad 19), .ref (ad 21), .ref (ad 22), .ref (ad 23), .ref (ad 24), .ref (ad 25), .ref (ad 26), .ref (ad 27), .ref (ad 28), .ref (ad 29), .ref (ad 30), .ref (ad 31), .ref (ad 32), .ref (ad 33)]) t6_18 hts (fun w hw => List.mem_cons_of_mem _ (fW_Cv w hw)) hown (ci := 0) (C := "NonceBox$Curve") (T := fT_Cv) (N := 14) rfl 7 (by decide) (hts _ (List.mem_cons_of_mem _ kf_Cv_46)) rfl (v := .ref (ad 27)) rfl d_Cv_step_97 ?_
  refine lv_aload_n hx hb d_Cv_step_100 rfl (lv_at hl 0 rfl) ?_
  refine wv_getf hx hb h 18 (by decide) (fs := [.ref (ad 19), .ref (ad 21), .ref (ad 22), .ref (ad 23), .ref (ad 24), .ref (ad 25), .ref (ad 26), .ref (ad 27), .ref (ad 28), .ref (ad 29), .ref (ad 30), .ref (ad 31), .ref (ad 32), .ref (ad 33)]) t6_18 hts (fun w hw => List.mem_cons_of_mem _ (fW_Cv w hw)) hown (ci := 0) (C := "NonceBox$Curve") (T := fT_Cv) (N := 14) rfl 7 (by decide) (hts _ (List.mem_cons_of_mem _ kf_Cv_46)) rfl (v := .ref (ad 27)) rfl d_Cv_step_101 ?_
  refine lv_aload_n hx hb d_Cv_step_104 rfl (lv_at hl 0 rfl) ?_
  refine wv_getf hx hb h 18 (by decide) (fs := [.ref (ad 19), .ref (ad 21), .ref (ad 22), .ref (ad 23), .ref (ad 24), .ref (ad 25), .ref (ad 26), .ref (ad 27), .ref (ad 28), .ref (ad 29), .ref (ad 30), .ref (ad 31), .ref (ad 32), .ref (ad 33)]) t6_18 hts (fun w hw => List.mem_cons_of_mem _ (fW_Cv w hw)) hown (ci := 0) (C := "NonceBox$Curve") (T := fT_Cv) (N := 14) rfl 11 (by decide) (hts _ (List.mem_cons_of_mem _ kf_Cv_58)) rfl (v := .ref (ad 31)) rfl d_Cv_step_105 ?_
  refine wv_V (As := [.ref (ad 27), .ref (ad 27), .ref (ad 31)]) (rest := []) (k := 3) ⟨hx, hb, hml, hown, hts⟩ h 19 (by decide) (C := "NonceBox$Field") t6_19 rfl (m_Fd_times l G A ad ev6 19 20 10 21 19 608 (by decide) t6_19 (by decide) (by decide) 27 27 31 (pl Ra Rb) (pl Ra Rb) zQ (wdC (mi Rc Rd) (pl Ra Rb) 10) (by decide) (by decide) (by decide) (by decide) t6_27 t6_27 t6_31 t6_20 (by decide) (by decide) (by decide) (by decide) (by decide)) kc_Fd_times kl_Cv_82 km_Fd_times kv_Fd_times ki_Fd (by decide +kernel) ⟨rfl, rfl, Nat.le_of_ble_eq_true rfl, Nat.le_of_ble_eq_true rfl⟩ hl.1 rfl rfl (Nat.le_of_ble_eq_true rfl) ⟨Nat.le_refl _, Nat.le_refl _⟩ d_Cv_step_108 ?_
  intro ov ev7 H locs hp h
  rw [hp.1]
  refine W.eq (g2 := F0 m 111 ls []) rfl ?_
  have o7 : ev7 = (va_up (va_up ev6 20 (eJ G 20 (wdC (pl Ra Rb) (pl Ra Rb) 10))) 31 (eJ G 10 (stQ Ra Rb))) := hp.2
  have t7_20 : ev7 20 = eJ G 20 (wdC (pl Ra Rb) (pl Ra Rb) 10) := by rw [o7, va_up_ne _ _ (by decide), va_up_self]
  have t7_31 : ev7 31 = eJ G 10 (stQ Ra Rb) := by rw [o7, va_up_self]
  have t7_24 := (show ev7 24 = ev6 24 by rw [o7, va_up_ne _ _ (by decide), va_up_ne _ _ (by decide)]).trans t6_24
  have t7_25 := (show ev7 25 = ev6 25 by rw [o7, va_up_ne _ _ (by decide), va_up_ne _ _ (by decide)]).trans t6_25
  have t7_22 := (show ev7 22 = ev6 22 by rw [o7, va_up_ne _ _ (by decide), va_up_ne _ _ (by decide)]).trans t6_22
  have t7_23 := (show ev7 23 = ev6 23 by rw [o7, va_up_ne _ _ (by decide), va_up_ne _ _ (by decide)]).trans t6_23
  have t7_26 := (show ev7 26 = ev6 26 by rw [o7, va_up_ne _ _ (by decide), va_up_ne _ _ (by decide)]).trans t6_26
  have t7_27 := (show ev7 27 = ev6 27 by rw [o7, va_up_ne _ _ (by decide), va_up_ne _ _ (by decide)]).trans t6_27
  have t7_28 := (show ev7 28 = ev6 28 by rw [o7, va_up_ne _ _ (by decide), va_up_ne _ _ (by decide)]).trans t6_28
  have t7_29 := (show ev7 29 = ev6 29 by rw [o7, va_up_ne _ _ (by decide), va_up_ne _ _ (by decide)]).trans t6_29
  have t7_30 := (show ev7 30 = ev6 30 by rw [o7, va_up_ne _ _ (by decide), va_up_ne _ _ (by decide)]).trans t6_30
  have t7_32 := (show ev7 32 = ev6 32 by rw [o7, va_up_ne _ _ (by decide), va_up_ne _ _ (by decide)]).trans t6_32
  have t7_33 := (show ev7 33 = ev6 33 by rw [o7, va_up_ne _ _ (by decide), va_up_ne _ _ (by decide)]).trans t6_33
  have t7_18 := (show ev7 18 = ev6 18 by rw [o7, va_up_ne _ _ (by decide), va_up_ne _ _ (by decide)]).trans t6_18
  have t7_19 := (show ev7 19 = ev6 19 by rw [o7, va_up_ne _ _ (by decide), va_up_ne _ _ (by decide)]).trans t6_19
  refine lv_aload_n hx hb d_Cv_step_111 rfl (lv_at hl 0 rfl) ?_
  refine wv_getf hx hb h 18 (by decide) (fs := [.ref (ad 19), .ref (ad 21), .ref (ad 22), .ref (ad 23), .ref (ad 24), .ref (ad 25), .ref (ad 26), .ref (ad 27), .ref (ad 28), .ref (ad 29), .ref (ad 30), .ref (ad 31), .ref (ad 32), .ref (ad 33)]) t7_18 hts (fun w hw => List.mem_cons_of_mem _ (fW_Cv w hw)) hown (ci := 0) (C := "NonceBox$Curve") (T := fT_Cv) (N := 14) rfl 0 (by decide) (hts _ (List.mem_cons_of_mem _ kf_Cv_16)) rfl (v := .ref (ad 19)) rfl d_Cv_step_112 ?_
  refine lv_aload_n hx hb d_Cv_step_115 rfl (lv_at hl 0 rfl) ?_
  refine wv_getf hx hb h 18 (by decide) (fs := [.ref (ad 19), .ref (ad 21), .ref (ad 22), .ref (ad 23), .ref (ad 24), .ref (ad 25), .ref (ad 26), .ref (ad 27), .ref (ad 28), .ref (ad 29), .ref (ad 30), .ref (ad 31), .ref (ad 32), .ref (ad 33)]) t7_18 hts (fun w hw => List.mem_cons_of_mem _ (fW_Cv w hw)) hown (ci := 0) (C := "NonceBox$Curve") (T := fT_Cv) (N := 14) rfl 8 (by decide) (hts _ (List.mem_cons_of_mem _ kf_Cv_49)) rfl (v := .ref (ad 28)) rfl d_Cv_step_116 ?_
  refine lv_aload_n hx hb d_Cv_step_119 rfl (lv_at hl 0 rfl) ?_
  refine wv_getf hx hb h 18 (by decide) (fs := [.ref (ad 19), .ref (ad 21), .ref (ad 22), .ref (ad 23), .ref (ad 24), .ref (ad 25), .ref (ad 26), .ref (ad 27), .ref (ad 28), .ref (ad 29), .ref (ad 30), .ref (ad 31), .ref (ad 32), .ref (ad 33)]) t7_18 hts (fun w hw => List.mem_cons_of_mem _ (fW_Cv w hw)) hown (ci := 0) (C := "NonceBox$Curve") (T := fT_Cv) (N := 14) rfl 8 (by decide) (hts _ (List.mem_cons_of_mem _ kf_Cv_49)) rfl (v := .ref (ad 28)) rfl d_Cv_step_120 ?_
  refine lv_aload_n hx hb d_Cv_step_123 rfl (lv_at hl 0 rfl) ?_
  refine wv_getf hx hb h 18 (by decide) (fs := [.ref (ad 19), .ref (ad 21), .ref (ad 22), .ref (ad 23), .ref (ad 24), .ref (ad 25), .ref (ad 26), .ref (ad 27), .ref (ad 28), .ref (ad 29), .ref (ad 30), .ref (ad 31), .ref (ad 32), .ref (ad 33)]) t7_18 hts (fun w hw => List.mem_cons_of_mem _ (fW_Cv w hw)) hown (ci := 0) (C := "NonceBox$Curve") (T := fT_Cv) (N := 14) rfl 12 (by decide) (hts _ (List.mem_cons_of_mem _ kf_Cv_61)) rfl (v := .ref (ad 32)) rfl d_Cv_step_124 ?_
  refine wv_V (As := [.ref (ad 28), .ref (ad 28), .ref (ad 32)]) (rest := []) (k := 3) ⟨hx, hb, hml, hown, hts⟩ h 19 (by decide) (C := "NonceBox$Field") t7_19 rfl (m_Fd_times l G A ad ev7 19 20 10 21 19 608 (by decide) t7_19 (by decide) (by decide) 28 28 32 (mi Ra Rb) (mi Ra Rb) zR (wdC (pl Ra Rb) (pl Ra Rb) 10) (by decide) (by decide) (by decide) (by decide) t7_28 t7_28 t7_32 t7_20 (by decide) (by decide) (by decide) (by decide) (by decide)) kc_Fd_times kl_Cv_82 km_Fd_times kv_Fd_times ki_Fd (by decide +kernel) ⟨rfl, rfl, Nat.le_of_ble_eq_true rfl, Nat.le_of_ble_eq_true rfl⟩ hl.1 rfl rfl (Nat.le_of_ble_eq_true rfl) ⟨Nat.le_refl _, Nat.le_refl _⟩ d_Cv_step_127 ?_
  intro ov ev8 H locs hp h
  rw [hp.1]
  refine W.eq (g2 := F0 m 130 ls []) rfl ?_
  have o8 : ev8 = (va_up (va_up ev7 20 (eJ G 20 (wdC (mi Ra Rb) (mi Ra Rb) 10))) 32 (eJ G 10 (stR Ra Rb))) := hp.2
  have t8_20 : ev8 20 = eJ G 20 (wdC (mi Ra Rb) (mi Ra Rb) 10) := by rw [o8, va_up_ne _ _ (by decide), va_up_self]
  have t8_32 : ev8 32 = eJ G 10 (stR Ra Rb) := by rw [o8, va_up_self]
  have t8_24 := (show ev8 24 = ev7 24 by rw [o8, va_up_ne _ _ (by decide), va_up_ne _ _ (by decide)]).trans t7_24
  have t8_25 := (show ev8 25 = ev7 25 by rw [o8, va_up_ne _ _ (by decide), va_up_ne _ _ (by decide)]).trans t7_25
  have t8_22 := (show ev8 22 = ev7 22 by rw [o8, va_up_ne _ _ (by decide), va_up_ne _ _ (by decide)]).trans t7_22
  have t8_23 := (show ev8 23 = ev7 23 by rw [o8, va_up_ne _ _ (by decide), va_up_ne _ _ (by decide)]).trans t7_23
  have t8_26 := (show ev8 26 = ev7 26 by rw [o8, va_up_ne _ _ (by decide), va_up_ne _ _ (by decide)]).trans t7_26
  have t8_27 := (show ev8 27 = ev7 27 by rw [o8, va_up_ne _ _ (by decide), va_up_ne _ _ (by decide)]).trans t7_27
  have t8_28 := (show ev8 28 = ev7 28 by rw [o8, va_up_ne _ _ (by decide), va_up_ne _ _ (by decide)]).trans t7_28
  have t8_29 := (show ev8 29 = ev7 29 by rw [o8, va_up_ne _ _ (by decide), va_up_ne _ _ (by decide)]).trans t7_29
  have t8_30 := (show ev8 30 = ev7 30 by rw [o8, va_up_ne _ _ (by decide), va_up_ne _ _ (by decide)]).trans t7_30
  have t8_31 := (show ev8 31 = ev7 31 by rw [o8, va_up_ne _ _ (by decide), va_up_ne _ _ (by decide)]).trans t7_31
  have t8_33 := (show ev8 33 = ev7 33 by rw [o8, va_up_ne _ _ (by decide), va_up_ne _ _ (by decide)]).trans t7_33
  have t8_18 := (show ev8 18 = ev7 18 by rw [o8, va_up_ne _ _ (by decide), va_up_ne _ _ (by decide)]).trans t7_18
  have t8_19 := (show ev8 19 = ev7 19 by rw [o8, va_up_ne _ _ (by decide), va_up_ne _ _ (by decide)]).trans t7_19
  refine lv_aload_n hx hb d_Cv_step_130 rfl (lv_at hl 0 rfl) ?_
  refine wv_getf hx hb h 18 (by decide) (fs := [.ref (ad 19), .ref (ad 21), .ref (ad 22), .ref (ad 23), .ref (ad 24), .ref (ad 25), .ref (ad 26), .ref (ad 27), .ref (ad 28), .ref (ad 29), .ref (ad 30), .ref (ad 31), .ref (ad 32), .ref (ad 33)]) t8_18 hts (fun w hw => List.mem_cons_of_mem _ (fW_Cv w hw)) hown (ci := 0) (C := "NonceBox$Curve") (T := fT_Cv) (N := 14) rfl 0 (by decide) (hts _ (List.mem_cons_of_mem _ kf_Cv_16)) rfl (v := .ref (ad 19)) rfl d_Cv_step_131 ?_
  refine lv_aload_n hx hb d_Cv_step_134 rfl (lv_at hl 0 rfl) ?_
  refine wv_getf hx hb h 18 (by decide) (fs := [.ref (ad 19), .ref (ad 21), .ref (ad 22), .ref (ad 23), .ref (ad 24), .ref (ad 25), .ref (ad 26), .ref (ad 27), .ref (ad 28), .ref (ad 29), .ref (ad 30), .ref (ad 31), .ref (ad 32), .ref (ad 33)]) t8_18 hts (fun w hw => List.mem_cons_of_mem _ (fW_Cv w hw)) hown (ci := 0) (C := "NonceBox$Curve") (T := fT_Cv) (N := 14) rfl 11 (by decide) (hts _ (List.mem_cons_of_mem _ kf_Cv_58)) rfl (v := .ref (ad 31)) rfl d_Cv_step_135 ?_
  refine lv_aload_n hx hb d_Cv_step_138 rfl (lv_at hl 0 rfl) ?_
  refine wv_getf hx hb h 18 (by decide) (fs := [.ref (ad 19), .ref (ad 21), .ref (ad 22), .ref (ad 23), .ref (ad 24), .ref (ad 25), .ref (ad 26), .ref (ad 27), .ref (ad 28), .ref (ad 29), .ref (ad 30), .ref (ad 31), .ref (ad 32), .ref (ad 33)]) t8_18 hts (fun w hw => List.mem_cons_of_mem _ (fW_Cv w hw)) hown (ci := 0) (C := "NonceBox$Curve") (T := fT_Cv) (N := 14) rfl 12 (by decide) (hts _ (List.mem_cons_of_mem _ kf_Cv_61)) rfl (v := .ref (ad 32)) rfl d_Cv_step_139 ?_
  refine lv_aload_n hx hb d_Cv_step_142 rfl (lv_at hl 0 rfl) ?_
  refine wv_getf hx hb h 18 (by decide) (fs := [.ref (ad 19), .ref (ad 21), .ref (ad 22), .ref (ad 23), .ref (ad 24), .ref (ad 25), .ref (ad 26), .ref (ad 27), .ref (ad 28), .ref (ad 29), .ref (ad 30), .ref (ad 31), .ref (ad 32), .ref (ad 33)]) t8_18 hts (fun w hw => List.mem_cons_of_mem _ (fW_Cv w hw)) hown (ci := 0) (C := "NonceBox$Curve") (T := fT_Cv) (N := 14) rfl 13 (by decide) (hts _ (List.mem_cons_of_mem _ kf_Cv_64)) rfl (v := .ref (ad 33)) rfl d_Cv_step_143 ?_
  refine wv_V (As := [.ref (ad 31), .ref (ad 32), .ref (ad 33)]) (rest := []) (k := 3) ⟨hx, hb, hml, hown, hts⟩ h 19 (by decide) (C := "NonceBox$Field") t8_19 rfl (m_Fd_minus l G A ad ev8 19 20 10 21 19 608 (by decide) t8_19 (by decide) (by decide) 31 32 33 (stQ Ra Rb) (stR Ra Rb) zT (by decide) (by decide) (by decide) t8_31 t8_32 t8_33 (by decide)) kc_Fd_minus kl_Cv_114 km_Fd_minus kv_Fd_minus ki_Fd (by decide +kernel) ⟨rfl, rfl, Nat.le_of_ble_eq_true rfl, Nat.le_of_ble_eq_true rfl⟩ hl.1 rfl rfl (Nat.le_of_ble_eq_true rfl) ⟨Nat.le_refl _, Nat.le_refl _⟩ d_Cv_step_146 ?_
  intro ov ev9 H locs hp h
  rw [hp.1]
  refine W.eq (g2 := F0 m 149 ls []) rfl ?_
  have o9 : ev9 = (va_up ev8 33 (eJ G 10 (stT Ra Rb))) := hp.2
  have t9_33 : ev9 33 = eJ G 10 (stT Ra Rb) := by rw [o9, va_up_self]
  have t9_24 := (show ev9 24 = ev8 24 by rw [o9, va_up_ne _ _ (by decide)]).trans t8_24
  have t9_25 := (show ev9 25 = ev8 25 by rw [o9, va_up_ne _ _ (by decide)]).trans t8_25
  have t9_22 := (show ev9 22 = ev8 22 by rw [o9, va_up_ne _ _ (by decide)]).trans t8_22
  have t9_23 := (show ev9 23 = ev8 23 by rw [o9, va_up_ne _ _ (by decide)]).trans t8_23
  have t9_26 := (show ev9 26 = ev8 26 by rw [o9, va_up_ne _ _ (by decide)]).trans t8_26
  have t9_27 := (show ev9 27 = ev8 27 by rw [o9, va_up_ne _ _ (by decide)]).trans t8_27
  have t9_28 := (show ev9 28 = ev8 28 by rw [o9, va_up_ne _ _ (by decide)]).trans t8_28
  have t9_29 := (show ev9 29 = ev8 29 by rw [o9, va_up_ne _ _ (by decide)]).trans t8_29
  have t9_30 := (show ev9 30 = ev8 30 by rw [o9, va_up_ne _ _ (by decide)]).trans t8_30
  have t9_31 := (show ev9 31 = ev8 31 by rw [o9, va_up_ne _ _ (by decide)]).trans t8_31
  have t9_32 := (show ev9 32 = ev8 32 by rw [o9, va_up_ne _ _ (by decide)]).trans t8_32
  have t9_20 := (show ev9 20 = ev8 20 by rw [o9, va_up_ne _ _ (by decide)]).trans t8_20
  have t9_18 := (show ev9 18 = ev8 18 by rw [o9, va_up_ne _ _ (by decide)]).trans t8_18
  have t9_19 := (show ev9 19 = ev8 19 by rw [o9, va_up_ne _ _ (by decide)]).trans t8_19
  refine lv_aload_n hx hb d_Cv_step_149 rfl (lv_at hl 0 rfl) ?_
  refine wv_getf hx hb h 18 (by decide) (fs := [.ref (ad 19), .ref (ad 21), .ref (ad 22), .ref (ad 23), .ref (ad 24), .ref (ad 25), .ref (ad 26), .ref (ad 27), .ref (ad 28), .ref (ad 29), .ref (ad 30), .ref (ad 31), .ref (ad 32), .ref (ad 33)]) t9_18 hts (fun w hw => List.mem_cons_of_mem _ (fW_Cv w hw)) hown (ci := 0) (C := "NonceBox$Curve") (T := fT_Cv) (N := 14) rfl 0 (by decide) (hts _ (List.mem_cons_of_mem _ kf_Cv_16)) rfl (v := .ref (ad 19)) rfl d_Cv_step_150 ?_
  refine lv_aload_n hx hb d_Cv_step_153 rfl (lv_at hl 0 rfl) ?_
  refine wv_getf hx hb h 18 (by decide) (fs := [.ref (ad 19), .ref (ad 21), .ref (ad 22), .ref (ad 23), .ref (ad 24), .ref (ad 25), .ref (ad 26), .ref (ad 27), .ref (ad 28), .ref (ad 29), .ref (ad 30), .ref (ad 31), .ref (ad 32), .ref (ad 33)]) t9_18 hts (fun w hw => List.mem_cons_of_mem _ (fW_Cv w hw)) hown (ci := 0) (C := "NonceBox$Curve") (T := fT_Cv) (N := 14) rfl 9 (by decide) (hts _ (List.mem_cons_of_mem _ kf_Cv_52)) rfl (v := .ref (ad 29)) rfl d_Cv_step_154 ?_
  refine lv_aload_n hx hb d_Cv_step_157 rfl (lv_at hl 0 rfl) ?_
  refine wv_getf hx hb h 18 (by decide) (fs := [.ref (ad 19), .ref (ad 21), .ref (ad 22), .ref (ad 23), .ref (ad 24), .ref (ad 25), .ref (ad 26), .ref (ad 27), .ref (ad 28), .ref (ad 29), .ref (ad 30), .ref (ad 31), .ref (ad 32), .ref (ad 33)]) t9_18 hts (fun w hw => List.mem_cons_of_mem _ (fW_Cv w hw)) hown (ci := 0) (C := "NonceBox$Curve") (T := fT_Cv) (N := 14) rfl 10 (by decide) (hts _ (List.mem_cons_of_mem _ kf_Cv_55)) rfl (v := .ref (ad 30)) rfl d_Cv_step_158 ?_
  refine lv_aload_n hx hb d_Cv_step_161 rfl (lv_at hl 3 rfl) ?_
  refine wv_V (As := [.ref (ad 29), .ref (ad 30), .ref (ad 22)]) (rest := []) (k := 3) ⟨hx, hb, hml, hown, hts⟩ h 19 (by decide) (C := "NonceBox$Field") t9_19 rfl (m_Fd_plus l G A ad ev9 19 20 10 21 19 608 (by decide) t9_19 (by decide) (by decide) 29 30 22 (stG Ra Rb Rc Rd) (stH Ra Rb Rc Rd) Rc (by decide) (by decide) (by decide) t9_29 t9_30 t9_22 (by decide)) kc_Fd_plus kl_Cv_111 km_Fd_plus kv_Fd_plus ki_Fd (by decide +kernel) ⟨rfl, rfl, Nat.le_of_ble_eq_true rfl, Nat.le_of_ble_eq_true rfl⟩ hl.1 rfl rfl (Nat.le_of_ble_eq_true rfl) ⟨Nat.le_refl _, Nat.le_refl _⟩ d_Cv_step_162 ?_
  intro ov ev10 H locs hp h
  rw [hp.1]
  refine W.eq (g2 := F0 m 165 ls []) rfl ?_
  have o10 : ev10 = (va_up ev9 22 (eJ G 10 (pl (stG Ra Rb Rc Rd) (stH Ra Rb Rc Rd)))) := hp.2
  have t10_22 : ev10 22 = eJ G 10 (pl (stG Ra Rb Rc Rd) (stH Ra Rb Rc Rd)) := by rw [o10, va_up_self]
  have t10_24 := (show ev10 24 = ev9 24 by rw [o10, va_up_ne _ _ (by decide)]).trans t9_24
  have t10_25 := (show ev10 25 = ev9 25 by rw [o10, va_up_ne _ _ (by decide)]).trans t9_25
  have t10_23 := (show ev10 23 = ev9 23 by rw [o10, va_up_ne _ _ (by decide)]).trans t9_23
  have t10_26 := (show ev10 26 = ev9 26 by rw [o10, va_up_ne _ _ (by decide)]).trans t9_26
  have t10_27 := (show ev10 27 = ev9 27 by rw [o10, va_up_ne _ _ (by decide)]).trans t9_27
  have t10_28 := (show ev10 28 = ev9 28 by rw [o10, va_up_ne _ _ (by decide)]).trans t9_28
  have t10_29 := (show ev10 29 = ev9 29 by rw [o10, va_up_ne _ _ (by decide)]).trans t9_29
  have t10_30 := (show ev10 30 = ev9 30 by rw [o10, va_up_ne _ _ (by decide)]).trans t9_30
  have t10_31 := (show ev10 31 = ev9 31 by rw [o10, va_up_ne _ _ (by decide)]).trans t9_31
  have t10_32 := (show ev10 32 = ev9 32 by rw [o10, va_up_ne _ _ (by decide)]).trans t9_32
  have t10_33 := (show ev10 33 = ev9 33 by rw [o10, va_up_ne _ _ (by decide)]).trans t9_33
  have t10_20 := (show ev10 20 = ev9 20 by rw [o10, va_up_ne _ _ (by decide)]).trans t9_20
  have t10_18 := (show ev10 18 = ev9 18 by rw [o10, va_up_ne _ _ (by decide)]).trans t9_18
  have t10_19 := (show ev10 19 = ev9 19 by rw [o10, va_up_ne _ _ (by decide)]).trans t9_19
  refine lv_aload_n hx hb d_Cv_step_165 rfl (lv_at hl 0 rfl) ?_
  refine wv_getf hx hb h 18 (by decide) (fs := [.ref (ad 19), .ref (ad 21), .ref (ad 22), .ref (ad 23), .ref (ad 24), .ref (ad 25), .ref (ad 26), .ref (ad 27), .ref (ad 28), .ref (ad 29), .ref (ad 30), .ref (ad 31), .ref (ad 32), .ref (ad 33)]) t10_18 hts (fun w hw => List.mem_cons_of_mem _ (fW_Cv w hw)) hown (ci := 0) (C := "NonceBox$Curve") (T := fT_Cv) (N := 14) rfl 0 (by decide) (hts _ (List.mem_cons_of_mem _ kf_Cv_16)) rfl (v := .ref (ad 19)) rfl d_Cv_step_166 ?_
  refine lv_aload_n hx hb d_Cv_step_169 rfl (lv_at hl 3 rfl) ?_
  refine lv_aload_n hx hb d_Cv_step_170 rfl (lv_at hl 3 rfl) ?_
  refine lv_aload_n hx hb d_Cv_step_171 rfl (lv_at hl 3 rfl) ?_
  refine wv_V (As := [.ref (ad 22), .ref (ad 22), .ref (ad 22)]) (rest := []) (k := 3) ⟨hx, hb, hml, hown, hts⟩ h 19 (by decide) (C := "NonceBox$Field") t10_19 rfl (m_Fd_times l G A ad ev10 19 20 10 21 19 608 (by decide) t10_19 (by decide) (by decide) 22 22 22 (pl (stG Ra Rb Rc Rd) (stH Ra Rb Rc Rd)) (pl (stG Ra Rb Rc Rd) (stH Ra Rb Rc Rd)) (pl (stG Ra Rb Rc Rd) (stH Ra Rb Rc Rd)) (wdC (mi Ra Rb) (mi Ra Rb) 10) (by decide) (by decide) (by decide) (by decide) t10_22 t10_22 t10_22 t10_20 (by decide) (by decide) (by decide) (by decide) (by decide)) kc_Fd_times kl_Cv_82 km_Fd_times kv_Fd_times ki_Fd (by decide +kernel) ⟨rfl, rfl, Nat.le_of_ble_eq_true rfl, Nat.le_of_ble_eq_true rfl⟩ hl.1 rfl rfl (Nat.le_of_ble_eq_true rfl) ⟨Nat.le_refl _, Nat.le_refl _⟩ d_Cv_step_172 ?_
  intro ov ev11 H locs hp h
  rw [hp.1]
  refine W.eq (g2 := F0 m 175 ls []) rfl ?_
  have o11 : ev11 = (va_up (va_up ev10 20 (eJ G 20 (wdC (pl (stG Ra Rb Rc Rd) (stH Ra Rb Rc Rd)) (pl (stG Ra Rb Rc Rd) (stH Ra Rb Rc Rd)) 10))) 22 (eJ G 10 (stC Ra Rb Rc Rd))) := hp.2
  have t11_20 : ev11 20 = eJ G 20 (wdC (pl (stG Ra Rb Rc Rd) (stH Ra Rb Rc Rd)) (pl (stG Ra Rb Rc Rd) (stH Ra Rb Rc Rd)) 10) := by rw [o11, va_up_ne _ _ (by decide), va_up_self]
  have t11_22 : ev11 22 = eJ G 10 (stC Ra Rb Rc Rd) := by rw [o11, va_up_self]
  have t11_24 := (show ev11 24 = ev10 24 by rw [o11, va_up_ne _ _ (by decide), va_up_ne _ _ (by decide)]).trans t10_24
  have t11_25 := (show ev11 25 = ev10 25 by rw [o11, va_up_ne _ _ (by decide), va_up_ne _ _ (by decide)]).trans t10_25
  have t11_23 := (show ev11 23 = ev10 23 by rw [o11, va_up_ne _ _ (by decide), va_up_ne _ _ (by decide)]).trans t10_23
  have t11_26 := (show ev11 26 = ev10 26 by rw [o11, va_up_ne _ _ (by decide), va_up_ne _ _ (by decide)]).trans t10_26
  have t11_27 := (show ev11 27 = ev10 27 by rw [o11, va_up_ne _ _ (by decide), va_up_ne _ _ (by decide)]).trans t10_27
  have t11_28 := (show ev11 28 = ev10 28 by rw [o11, va_up_ne _ _ (by decide), va_up_ne _ _ (by decide)]).trans t10_28
  have t11_29 := (show ev11 29 = ev10 29 by rw [o11, va_up_ne _ _ (by decide), va_up_ne _ _ (by decide)]).trans t10_29
  have t11_30 := (show ev11 30 = ev10 30 by rw [o11, va_up_ne _ _ (by decide), va_up_ne _ _ (by decide)]).trans t10_30
  have t11_31 := (show ev11 31 = ev10 31 by rw [o11, va_up_ne _ _ (by decide), va_up_ne _ _ (by decide)]).trans t10_31
  have t11_32 := (show ev11 32 = ev10 32 by rw [o11, va_up_ne _ _ (by decide), va_up_ne _ _ (by decide)]).trans t10_32
  have t11_33 := (show ev11 33 = ev10 33 by rw [o11, va_up_ne _ _ (by decide), va_up_ne _ _ (by decide)]).trans t10_33
  have t11_18 := (show ev11 18 = ev10 18 by rw [o11, va_up_ne _ _ (by decide), va_up_ne _ _ (by decide)]).trans t10_18
  have t11_19 := (show ev11 19 = ev10 19 by rw [o11, va_up_ne _ _ (by decide), va_up_ne _ _ (by decide)]).trans t10_19
  refine lv_aload_n hx hb d_Cv_step_175 rfl (lv_at hl 0 rfl) ?_
  refine wv_getf hx hb h 18 (by decide) (fs := [.ref (ad 19), .ref (ad 21), .ref (ad 22), .ref (ad 23), .ref (ad 24), .ref (ad 25), .ref (ad 26), .ref (ad 27), .ref (ad 28), .ref (ad 29), .ref (ad 30), .ref (ad 31), .ref (ad 32), .ref (ad 33)]) t11_18 hts (fun w hw => List.mem_cons_of_mem _ (fW_Cv w hw)) hown (ci := 0) (C := "NonceBox$Curve") (T := fT_Cv) (N := 14) rfl 0 (by decide) (hts _ (List.mem_cons_of_mem _ kf_Cv_16)) rfl (v := .ref (ad 19)) rfl d_Cv_step_176 ?_
  refine lv_aload_n hx hb d_Cv_step_179 rfl (lv_at hl 0 rfl) ?_
  refine wv_getf hx hb h 18 (by decide) (fs := [.ref (ad 19), .ref (ad 21), .ref (ad 22), .ref (ad 23), .ref (ad 24), .ref (ad 25), .ref (ad 26), .ref (ad 27), .ref (ad 28), .ref (ad 29), .ref (ad 30), .ref (ad 31), .ref (ad 32), .ref (ad 33)]) t11_18 hts (fun w hw => List.mem_cons_of_mem _ (fW_Cv w hw)) hown (ci := 0) (C := "NonceBox$Curve") (T := fT_Cv) (N := 14) rfl 9 (by decide) (hts _ (List.mem_cons_of_mem _ kf_Cv_52)) rfl (v := .ref (ad 29)) rfl d_Cv_step_180 ?_
  refine lv_aload_n hx hb d_Cv_step_183 rfl (lv_at hl 0 rfl) ?_
  refine wv_getf hx hb h 18 (by decide) (fs := [.ref (ad 19), .ref (ad 21), .ref (ad 22), .ref (ad 23), .ref (ad 24), .ref (ad 25), .ref (ad 26), .ref (ad 27), .ref (ad 28), .ref (ad 29), .ref (ad 30), .ref (ad 31), .ref (ad 32), .ref (ad 33)]) t11_18 hts (fun w hw => List.mem_cons_of_mem _ (fW_Cv w hw)) hown (ci := 0) (C := "NonceBox$Curve") (T := fT_Cv) (N := 14) rfl 10 (by decide) (hts _ (List.mem_cons_of_mem _ kf_Cv_55)) rfl (v := .ref (ad 30)) rfl d_Cv_step_184 ?_
  refine lv_aload hx hb d_Cv_step_187 (lv_at hl 4 rfl) ?_
  refine wv_V (As := [.ref (ad 29), .ref (ad 30), .ref (ad 23)]) (rest := []) (k := 3) ⟨hx, hb, hml, hown, hts⟩ h 19 (by decide) (C := "NonceBox$Field") t11_19 rfl (m_Fd_minus l G A ad ev11 19 20 10 21 19 608 (by decide) t11_19 (by decide) (by decide) 29 30 23 (stG Ra Rb Rc Rd) (stH Ra Rb Rc Rd) Rd (by decide) (by decide) (by decide) t11_29 t11_30 t11_23 (by decide)) kc_Fd_minus kl_Cv_114 km_Fd_minus kv_Fd_minus ki_Fd (by decide +kernel) ⟨rfl, rfl, Nat.le_of_ble_eq_true rfl, Nat.le_of_ble_eq_true rfl⟩ hl.1 rfl rfl (Nat.le_of_ble_eq_true rfl) ⟨Nat.le_refl _, Nat.le_refl _⟩ d_Cv_step_189 ?_
  intro ov ev12 H locs hp h
  rw [hp.1]
  refine W.eq (g2 := F0 m 192 ls []) rfl ?_
  have o12 : ev12 = (va_up ev11 23 (eJ G 10 (mi (stG Ra Rb Rc Rd) (stH Ra Rb Rc Rd)))) := hp.2
  have t12_23 : ev12 23 = eJ G 10 (mi (stG Ra Rb Rc Rd) (stH Ra Rb Rc Rd)) := by rw [o12, va_up_self]
  have t12_24 := (show ev12 24 = ev11 24 by rw [o12, va_up_ne _ _ (by decide)]).trans t11_24
  have t12_25 := (show ev12 25 = ev11 25 by rw [o12, va_up_ne _ _ (by decide)]).trans t11_25
  have t12_22 := (show ev12 22 = ev11 22 by rw [o12, va_up_ne _ _ (by decide)]).trans t11_22
  have t12_26 := (show ev12 26 = ev11 26 by rw [o12, va_up_ne _ _ (by decide)]).trans t11_26
  have t12_27 := (show ev12 27 = ev11 27 by rw [o12, va_up_ne _ _ (by decide)]).trans t11_27
  have t12_28 := (show ev12 28 = ev11 28 by rw [o12, va_up_ne _ _ (by decide)]).trans t11_28
  have t12_29 := (show ev12 29 = ev11 29 by rw [o12, va_up_ne _ _ (by decide)]).trans t11_29
  have t12_30 := (show ev12 30 = ev11 30 by rw [o12, va_up_ne _ _ (by decide)]).trans t11_30
  have t12_31 := (show ev12 31 = ev11 31 by rw [o12, va_up_ne _ _ (by decide)]).trans t11_31
  have t12_32 := (show ev12 32 = ev11 32 by rw [o12, va_up_ne _ _ (by decide)]).trans t11_32
  have t12_33 := (show ev12 33 = ev11 33 by rw [o12, va_up_ne _ _ (by decide)]).trans t11_33
  have t12_20 := (show ev12 20 = ev11 20 by rw [o12, va_up_ne _ _ (by decide)]).trans t11_20
  have t12_18 := (show ev12 18 = ev11 18 by rw [o12, va_up_ne _ _ (by decide)]).trans t11_18
  have t12_19 := (show ev12 19 = ev11 19 by rw [o12, va_up_ne _ _ (by decide)]).trans t11_19
  refine lv_aload_n hx hb d_Cv_step_192 rfl (lv_at hl 0 rfl) ?_
  refine wv_getf hx hb h 18 (by decide) (fs := [.ref (ad 19), .ref (ad 21), .ref (ad 22), .ref (ad 23), .ref (ad 24), .ref (ad 25), .ref (ad 26), .ref (ad 27), .ref (ad 28), .ref (ad 29), .ref (ad 30), .ref (ad 31), .ref (ad 32), .ref (ad 33)]) t12_18 hts (fun w hw => List.mem_cons_of_mem _ (fW_Cv w hw)) hown (ci := 0) (C := "NonceBox$Curve") (T := fT_Cv) (N := 14) rfl 0 (by decide) (hts _ (List.mem_cons_of_mem _ kf_Cv_16)) rfl (v := .ref (ad 19)) rfl d_Cv_step_193 ?_
  refine lv_aload hx hb d_Cv_step_196 (lv_at hl 4 rfl) ?_
  refine lv_aload hx hb d_Cv_step_198 (lv_at hl 4 rfl) ?_
  refine lv_aload hx hb d_Cv_step_200 (lv_at hl 4 rfl) ?_
  refine wv_V (As := [.ref (ad 23), .ref (ad 23), .ref (ad 23)]) (rest := []) (k := 3) ⟨hx, hb, hml, hown, hts⟩ h 19 (by decide) (C := "NonceBox$Field") t12_19 rfl (m_Fd_times l G A ad ev12 19 20 10 21 19 608 (by decide) t12_19 (by decide) (by decide) 23 23 23 (mi (stG Ra Rb Rc Rd) (stH Ra Rb Rc Rd)) (mi (stG Ra Rb Rc Rd) (stH Ra Rb Rc Rd)) (mi (stG Ra Rb Rc Rd) (stH Ra Rb Rc Rd)) (wdC (pl (stG Ra Rb Rc Rd) (stH Ra Rb Rc Rd)) (pl (stG Ra Rb Rc Rd) (stH Ra Rb Rc Rd)) 10) (by decide) (by decide) (by decide) (by decide) t12_23 t12_23 t12_23 t12_20 (by decide) (by decide) (by decide) (by decide) (by decide)) kc_Fd_times kl_Cv_82 km_Fd_times kv_Fd_times ki_Fd (by decide +kernel) ⟨rfl, rfl, Nat.le_of_ble_eq_true rfl, Nat.le_of_ble_eq_true rfl⟩ hl.1 rfl rfl (Nat.le_of_ble_eq_true rfl) ⟨Nat.le_refl _, Nat.le_refl _⟩ d_Cv_step_202 ?_
  intro ov ev13 H locs hp h
  rw [hp.1]
  refine W.eq (g2 := F0 m 205 ls []) rfl ?_
  have o13 : ev13 = (va_up (va_up ev12 20 (eJ G 20 (wdC (mi (stG Ra Rb Rc Rd) (stH Ra Rb Rc Rd)) (mi (stG Ra Rb Rc Rd) (stH Ra Rb Rc Rd)) 10))) 23 (eJ G 10 (tm (mi (stG Ra Rb Rc Rd) (stH Ra Rb Rc Rd)) (mi (stG Ra Rb Rc Rd) (stH Ra Rb Rc Rd))))) := hp.2
  have t13_20 : ev13 20 = eJ G 20 (wdC (mi (stG Ra Rb Rc Rd) (stH Ra Rb Rc Rd)) (mi (stG Ra Rb Rc Rd) (stH Ra Rb Rc Rd)) 10) := by rw [o13, va_up_ne _ _ (by decide), va_up_self]
  have t13_23 : ev13 23 = eJ G 10 (tm (mi (stG Ra Rb Rc Rd) (stH Ra Rb Rc Rd)) (mi (stG Ra Rb Rc Rd) (stH Ra Rb Rc Rd))) := by rw [o13, va_up_self]
  have t13_24 := (show ev13 24 = ev12 24 by rw [o13, va_up_ne _ _ (by decide), va_up_ne _ _ (by decide)]).trans t12_24
  have t13_25 := (show ev13 25 = ev12 25 by rw [o13, va_up_ne _ _ (by decide), va_up_ne _ _ (by decide)]).trans t12_25
  have t13_22 := (show ev13 22 = ev12 22 by rw [o13, va_up_ne _ _ (by decide), va_up_ne _ _ (by decide)]).trans t12_22
  have t13_26 := (show ev13 26 = ev12 26 by rw [o13, va_up_ne _ _ (by decide), va_up_ne _ _ (by decide)]).trans t12_26
  have t13_27 := (show ev13 27 = ev12 27 by rw [o13, va_up_ne _ _ (by decide), va_up_ne _ _ (by decide)]).trans t12_27
  have t13_28 := (show ev13 28 = ev12 28 by rw [o13, va_up_ne _ _ (by decide), va_up_ne _ _ (by decide)]).trans t12_28
  have t13_29 := (show ev13 29 = ev12 29 by rw [o13, va_up_ne _ _ (by decide), va_up_ne _ _ (by decide)]).trans t12_29
  have t13_30 := (show ev13 30 = ev12 30 by rw [o13, va_up_ne _ _ (by decide), va_up_ne _ _ (by decide)]).trans t12_30
  have t13_31 := (show ev13 31 = ev12 31 by rw [o13, va_up_ne _ _ (by decide), va_up_ne _ _ (by decide)]).trans t12_31
  have t13_32 := (show ev13 32 = ev12 32 by rw [o13, va_up_ne _ _ (by decide), va_up_ne _ _ (by decide)]).trans t12_32
  have t13_33 := (show ev13 33 = ev12 33 by rw [o13, va_up_ne _ _ (by decide), va_up_ne _ _ (by decide)]).trans t12_33
  have t13_18 := (show ev13 18 = ev12 18 by rw [o13, va_up_ne _ _ (by decide), va_up_ne _ _ (by decide)]).trans t12_18
  have t13_19 := (show ev13 19 = ev12 19 by rw [o13, va_up_ne _ _ (by decide), va_up_ne _ _ (by decide)]).trans t12_19
  refine lv_aload_n hx hb d_Cv_step_205 rfl (lv_at hl 0 rfl) ?_
  refine wv_getf hx hb h 18 (by decide) (fs := [.ref (ad 19), .ref (ad 21), .ref (ad 22), .ref (ad 23), .ref (ad 24), .ref (ad 25), .ref (ad 26), .ref (ad 27), .ref (ad 28), .ref (ad 29), .ref (ad 30), .ref (ad 31), .ref (ad 32), .ref (ad 33)]) t13_18 hts (fun w hw => List.mem_cons_of_mem _ (fW_Cv w hw)) hown (ci := 0) (C := "NonceBox$Curve") (T := fT_Cv) (N := 14) rfl 0 (by decide) (hts _ (List.mem_cons_of_mem _ kf_Cv_16)) rfl (v := .ref (ad 19)) rfl d_Cv_step_206 ?_
  refine lv_aload_n hx hb d_Cv_step_209 rfl (lv_at hl 0 rfl) ?_
  refine wv_getf hx hb h 18 (by decide) (fs := [.ref (ad 19), .ref (ad 21), .ref (ad 22), .ref (ad 23), .ref (ad 24), .ref (ad 25), .ref (ad 26), .ref (ad 27), .ref (ad 28), .ref (ad 29), .ref (ad 30), .ref (ad 31), .ref (ad 32), .ref (ad 33)]) t13_18 hts (fun w hw => List.mem_cons_of_mem _ (fW_Cv w hw)) hown (ci := 0) (C := "NonceBox$Curve") (T := fT_Cv) (N := 14) rfl 6 (by decide) (hts _ (List.mem_cons_of_mem _ kf_Cv_43)) rfl (v := .ref (ad 26)) rfl d_Cv_step_210 ?_
  refine lv_aload hx hb d_Cv_step_213 (lv_at hl 4 rfl) ?_
  refine lv_aload hx hb d_Cv_step_215 (lv_at hl 4 rfl) ?_
  refine wv_V (As := [.ref (ad 26), .ref (ad 23), .ref (ad 23)]) (rest := []) (k := 3) ⟨hx, hb, hml, hown, hts⟩ h 19 (by decide) (C := "NonceBox$Field") t13_19 rfl (m_Fd_times l G A ad ev13 19 20 10 21 19 608 (by decide) t13_19 (by decide) (by decide) 26 23 23 U (tm (mi (stG Ra Rb Rc Rd) (stH Ra Rb Rc Rd)) (mi (stG Ra Rb Rc Rd) (stH Ra Rb Rc Rd))) (tm (mi (stG Ra Rb Rc Rd) (stH Ra Rb Rc Rd)) (mi (stG Ra Rb Rc Rd) (stH Ra Rb Rc Rd))) (wdC (mi (stG Ra Rb Rc Rd) (stH Ra Rb Rc Rd)) (mi (stG Ra Rb Rc Rd) (stH Ra Rb Rc Rd)) 10) (by decide) (by decide) (by decide) (by decide) t13_26 t13_23 t13_23 t13_20 (by decide) (by decide) (by decide) (by decide) (by decide)) kc_Fd_times kl_Cv_82 km_Fd_times kv_Fd_times ki_Fd (by decide +kernel) ⟨rfl, rfl, Nat.le_of_ble_eq_true rfl, Nat.le_of_ble_eq_true rfl⟩ hl.1 rfl rfl (Nat.le_of_ble_eq_true rfl) ⟨Nat.le_refl _, Nat.le_refl _⟩ d_Cv_step_217 ?_
  intro ov ev14 H locs hp h
  rw [hp.1]
  refine W.eq (g2 := F0 m 220 ls []) rfl ?_
  have o14 : ev14 = (va_up (va_up ev13 20 (eJ G 20 (wdC U (tm (mi (stG Ra Rb Rc Rd) (stH Ra Rb Rc Rd)) (mi (stG Ra Rb Rc Rd) (stH Ra Rb Rc Rd))) 10))) 23 (eJ G 10 (stD U Ra Rb Rc Rd))) := hp.2
  have t14_20 : ev14 20 = eJ G 20 (wdC U (tm (mi (stG Ra Rb Rc Rd) (stH Ra Rb Rc Rd)) (mi (stG Ra Rb Rc Rd) (stH Ra Rb Rc Rd))) 10) := by rw [o14, va_up_ne _ _ (by decide), va_up_self]
  have t14_23 : ev14 23 = eJ G 10 (stD U Ra Rb Rc Rd) := by rw [o14, va_up_self]
  have t14_24 := (show ev14 24 = ev13 24 by rw [o14, va_up_ne _ _ (by decide), va_up_ne _ _ (by decide)]).trans t13_24
  have t14_25 := (show ev14 25 = ev13 25 by rw [o14, va_up_ne _ _ (by decide), va_up_ne _ _ (by decide)]).trans t13_25
  have t14_22 := (show ev14 22 = ev13 22 by rw [o14, va_up_ne _ _ (by decide), va_up_ne _ _ (by decide)]).trans t13_22
  have t14_26 := (show ev14 26 = ev13 26 by rw [o14, va_up_ne _ _ (by decide), va_up_ne _ _ (by decide)]).trans t13_26
  have t14_27 := (show ev14 27 = ev13 27 by rw [o14, va_up_ne _ _ (by decide), va_up_ne _ _ (by decide)]).trans t13_27
  have t14_28 := (show ev14 28 = ev13 28 by rw [o14, va_up_ne _ _ (by decide), va_up_ne _ _ (by decide)]).trans t13_28
  have t14_29 := (show ev14 29 = ev13 29 by rw [o14, va_up_ne _ _ (by decide), va_up_ne _ _ (by decide)]).trans t13_29
  have t14_30 := (show ev14 30 = ev13 30 by rw [o14, va_up_ne _ _ (by decide), va_up_ne _ _ (by decide)]).trans t13_30
  have t14_31 := (show ev14 31 = ev13 31 by rw [o14, va_up_ne _ _ (by decide), va_up_ne _ _ (by decide)]).trans t13_31
  have t14_32 := (show ev14 32 = ev13 32 by rw [o14, va_up_ne _ _ (by decide), va_up_ne _ _ (by decide)]).trans t13_32
  have t14_33 := (show ev14 33 = ev13 33 by rw [o14, va_up_ne _ _ (by decide), va_up_ne _ _ (by decide)]).trans t13_33
  have t14_18 := (show ev14 18 = ev13 18 by rw [o14, va_up_ne _ _ (by decide), va_up_ne _ _ (by decide)]).trans t13_18
  have t14_19 := (show ev14 19 = ev13 19 by rw [o14, va_up_ne _ _ (by decide), va_up_ne _ _ (by decide)]).trans t13_19
  refine lv_aload_n hx hb d_Cv_step_220 rfl (lv_at hl 0 rfl) ?_
  refine wv_getf hx hb h 18 (by decide) (fs := [.ref (ad 19), .ref (ad 21), .ref (ad 22), .ref (ad 23), .ref (ad 24), .ref (ad 25), .ref (ad 26), .ref (ad 27), .ref (ad 28), .ref (ad 29), .ref (ad 30), .ref (ad 31), .ref (ad 32), .ref (ad 33)]) t14_18 hts (fun w hw => List.mem_cons_of_mem _ (fW_Cv w hw)) hown (ci := 0) (C := "NonceBox$Curve") (T := fT_Cv) (N := 14) rfl 0 (by decide) (hts _ (List.mem_cons_of_mem _ kf_Cv_16)) rfl (v := .ref (ad 19)) rfl d_Cv_step_221 ?_
  refine lv_aload_n hx hb d_Cv_step_224 rfl (lv_at hl 0 rfl) ?_
  refine wv_getf hx hb h 18 (by decide) (fs := [.ref (ad 19), .ref (ad 21), .ref (ad 22), .ref (ad 23), .ref (ad 24), .ref (ad 25), .ref (ad 26), .ref (ad 27), .ref (ad 28), .ref (ad 29), .ref (ad 30), .ref (ad 31), .ref (ad 32), .ref (ad 33)]) t14_18 hts (fun w hw => List.mem_cons_of_mem _ (fW_Cv w hw)) hown (ci := 0) (C := "NonceBox$Curve") (T := fT_Cv) (N := 14) rfl 11 (by decide) (hts _ (List.mem_cons_of_mem _ kf_Cv_58)) rfl (v := .ref (ad 31)) rfl d_Cv_step_225 ?_
  refine lv_aload_n hx hb d_Cv_step_228 rfl (lv_at hl 0 rfl) ?_
  refine wv_getf hx hb h 18 (by decide) (fs := [.ref (ad 19), .ref (ad 21), .ref (ad 22), .ref (ad 23), .ref (ad 24), .ref (ad 25), .ref (ad 26), .ref (ad 27), .ref (ad 28), .ref (ad 29), .ref (ad 30), .ref (ad 31), .ref (ad 32), .ref (ad 33)]) t14_18 hts (fun w hw => List.mem_cons_of_mem _ (fW_Cv w hw)) hown (ci := 0) (C := "NonceBox$Curve") (T := fT_Cv) (N := 14) rfl 12 (by decide) (hts _ (List.mem_cons_of_mem _ kf_Cv_61)) rfl (v := .ref (ad 32)) rfl d_Cv_step_229 ?_
  refine lv_aload_n hx hb d_Cv_step_232 rfl (lv_at hl 1 rfl) ?_
  refine wv_V (As := [.ref (ad 31), .ref (ad 32), .ref (ad 24)]) (rest := []) (k := 3) ⟨hx, hb, hml, hown, hts⟩ h 19 (by decide) (C := "NonceBox$Field") t14_19 rfl (m_Fd_times l G A ad ev14 19 20 10 21 19 608 (by decide) t14_19 (by decide) (by decide) 31 32 24 (stQ Ra Rb) (stR Ra Rb) Ra (wdC U (tm (mi (stG Ra Rb Rc Rd) (stH Ra Rb Rc Rd)) (mi (stG Ra Rb Rc Rd) (stH Ra Rb Rc Rd))) 10) (by decide) (by decide) (by decide) (by decide) t14_31 t14_32 t14_24 t14_20 (by decide) (by decide) (by decide) (by decide) (by decide)) kc_Fd_times kl_Cv_82 km_Fd_times kv_Fd_times ki_Fd (by decide +kernel) ⟨rfl, rfl, Nat.le_of_ble_eq_true rfl, Nat.le_of_ble_eq_true rfl⟩ hl.1 rfl rfl (Nat.le_of_ble_eq_true rfl) ⟨Nat.le_refl _, Nat.le_refl _⟩ d_Cv_step_233 ?_
  intro ov ev15 H locs hp h
  rw [hp.1]
  refine W.eq (g2 := F0 m 236 ls []) rfl ?_
  have o15 : ev15 = (va_up (va_up ev14 20 (eJ G 20 (wdC (stQ Ra Rb) (stR Ra Rb) 10))) 24 (eJ G 10 (stA Ra Rb))) := hp.2
  have t15_20 : ev15 20 = eJ G 20 (wdC (stQ Ra Rb) (stR Ra Rb) 10) := by rw [o15, va_up_ne _ _ (by decide), va_up_self]
  have t15_24 : ev15 24 = eJ G 10 (stA Ra Rb) := by rw [o15, va_up_self]
  have t15_25 := (show ev15 25 = ev14 25 by rw [o15, va_up_ne _ _ (by decide), va_up_ne _ _ (by decide)]).trans t14_25
  have t15_22 := (show ev15 22 = ev14 22 by rw [o15, va_up_ne _ _ (by decide), va_up_ne _ _ (by decide)]).trans t14_22
  have t15_23 := (show ev15 23 = ev14 23 by rw [o15, va_up_ne _ _ (by decide), va_up_ne _ _ (by decide)]).trans t14_23
  have t15_26 := (show ev15 26 = ev14 26 by rw [o15, va_up_ne _ _ (by decide), va_up_ne _ _ (by decide)]).trans t14_26
  have t15_27 := (show ev15 27 = ev14 27 by rw [o15, va_up_ne _ _ (by decide), va_up_ne _ _ (by decide)]).trans t14_27
  have t15_28 := (show ev15 28 = ev14 28 by rw [o15, va_up_ne _ _ (by decide), va_up_ne _ _ (by decide)]).trans t14_28
  have t15_29 := (show ev15 29 = ev14 29 by rw [o15, va_up_ne _ _ (by decide), va_up_ne _ _ (by decide)]).trans t14_29
  have t15_30 := (show ev15 30 = ev14 30 by rw [o15, va_up_ne _ _ (by decide), va_up_ne _ _ (by decide)]).trans t14_30
  have t15_31 := (show ev15 31 = ev14 31 by rw [o15, va_up_ne _ _ (by decide), va_up_ne _ _ (by decide)]).trans t14_31
  have t15_32 := (show ev15 32 = ev14 32 by rw [o15, va_up_ne _ _ (by decide), va_up_ne _ _ (by decide)]).trans t14_32
  have t15_33 := (show ev15 33 = ev14 33 by rw [o15, va_up_ne _ _ (by decide), va_up_ne _ _ (by decide)]).trans t14_33
  have t15_18 := (show ev15 18 = ev14 18 by rw [o15, va_up_ne _ _ (by decide), va_up_ne _ _ (by decide)]).trans t14_18
  have t15_19 := (show ev15 19 = ev14 19 by rw [o15, va_up_ne _ _ (by decide), va_up_ne _ _ (by decide)]).trans t14_19
  refine lv_aload_n hx hb d_Cv_step_236 rfl (lv_at hl 0 rfl) ?_
  refine wv_getf hx hb h 18 (by decide) (fs := [.ref (ad 19), .ref (ad 21), .ref (ad 22), .ref (ad 23), .ref (ad 24), .ref (ad 25), .ref (ad 26), .ref (ad 27), .ref (ad 28), .ref (ad 29), .ref (ad 30), .ref (ad 31), .ref (ad 32), .ref (ad 33)]) t15_18 hts (fun w hw => List.mem_cons_of_mem _ (fW_Cv w hw)) hown (ci := 0) (C := "NonceBox$Curve") (T := fT_Cv) (N := 14) rfl 0 (by decide) (hts _ (List.mem_cons_of_mem _ kf_Cv_16)) rfl (v := .ref (ad 19)) rfl d_Cv_step_237 ?_
  refine lv_aload_n hx hb d_Cv_step_240 rfl (lv_at hl 0 rfl) ?_
  refine wv_getf hx hb h 18 (by decide) (fs := [.ref (ad 19), .ref (ad 21), .ref (ad 22), .ref (ad 23), .ref (ad 24), .ref (ad 25), .ref (ad 26), .ref (ad 27), .ref (ad 28), .ref (ad 29), .ref (ad 30), .ref (ad 31), .ref (ad 32), .ref (ad 33)]) t15_18 hts (fun w hw => List.mem_cons_of_mem _ (fW_Cv w hw)) hown (ci := 0) (C := "NonceBox$Curve") (T := fT_Cv) (N := 14) rfl 13 (by decide) (hts _ (List.mem_cons_of_mem _ kf_Cv_64)) rfl (v := .ref (ad 33)) rfl d_Cv_step_241 ?_
  refine lv_ldc (v := 121665) hx hb hown (hts _ (List.mem_cons_of_mem _ ko_Cv_117)) d_Cv_step_244 ?_
  refine lv_aload_n hx hb d_Cv_step_246 rfl (lv_at hl 2 rfl) ?_
  refine wv_V (As := [.ref (ad 33), .int (121665), .ref (ad 25)]) (rest := []) (k := 3) ⟨hx, hb, hml, hown, hts⟩ h 19 (by decide) (C := "NonceBox$Field") t15_19 rfl (m_Fd_scale l G A ad ev15 19 20 10 21 19 608 (by decide) t15_19 (by decide) (by decide) 33 25 121665 (stT Ra Rb) Rb (by decide) (by decide) t15_33 t15_25 (by decide)) kc_Fd_scale kl_Cv_118 km_Fd_scale kv_Fd_scale ki_Fd (by decide +kernel) ⟨rfl, rfl, Nat.le_of_ble_eq_true rfl, Nat.le_of_ble_eq_true rfl⟩ hl.1 rfl rfl (Nat.le_of_ble_eq_true rfl) ⟨Nat.le_refl _, Nat.le_refl _⟩ d_Cv_step_247 ?_
  intro ov ev16 H locs hp h
  rw [hp.1]
  refine W.eq (g2 := F0 m 250 ls []) rfl ?_
  have o16 : ev16 = (va_up ev15 25 (eJ G 10 (sc (stT Ra Rb)))) := hp.2
  have t16_25 : ev16 25 = eJ G 10 (sc (stT Ra Rb)) := by rw [o16, va_up_self]
  have t16_24 := (show ev16 24 = ev15 24 by rw [o16, va_up_ne _ _ (by decide)]).trans t15_24
  have t16_22 := (show ev16 22 = ev15 22 by rw [o16, va_up_ne _ _ (by decide)]).trans t15_22
  have t16_23 := (show ev16 23 = ev15 23 by rw [o16, va_up_ne _ _ (by decide)]).trans t15_23
  have t16_26 := (show ev16 26 = ev15 26 by rw [o16, va_up_ne _ _ (by decide)]).trans t15_26
  have t16_27 := (show ev16 27 = ev15 27 by rw [o16, va_up_ne _ _ (by decide)]).trans t15_27
  have t16_28 := (show ev16 28 = ev15 28 by rw [o16, va_up_ne _ _ (by decide)]).trans t15_28
  have t16_29 := (show ev16 29 = ev15 29 by rw [o16, va_up_ne _ _ (by decide)]).trans t15_29
  have t16_30 := (show ev16 30 = ev15 30 by rw [o16, va_up_ne _ _ (by decide)]).trans t15_30
  have t16_31 := (show ev16 31 = ev15 31 by rw [o16, va_up_ne _ _ (by decide)]).trans t15_31
  have t16_32 := (show ev16 32 = ev15 32 by rw [o16, va_up_ne _ _ (by decide)]).trans t15_32
  have t16_33 := (show ev16 33 = ev15 33 by rw [o16, va_up_ne _ _ (by decide)]).trans t15_33
  have t16_20 := (show ev16 20 = ev15 20 by rw [o16, va_up_ne _ _ (by decide)]).trans t15_20
  have t16_18 := (show ev16 18 = ev15 18 by rw [o16, va_up_ne _ _ (by decide)]).trans t15_18
  have t16_19 := (show ev16 19 = ev15 19 by rw [o16, va_up_ne _ _ (by decide)]).trans t15_19
  refine lv_aload_n hx hb d_Cv_step_250 rfl (lv_at hl 0 rfl) ?_
  refine wv_getf hx hb h 18 (by decide) (fs := [.ref (ad 19), .ref (ad 21), .ref (ad 22), .ref (ad 23), .ref (ad 24), .ref (ad 25), .ref (ad 26), .ref (ad 27), .ref (ad 28), .ref (ad 29), .ref (ad 30), .ref (ad 31), .ref (ad 32), .ref (ad 33)]) t16_18 hts (fun w hw => List.mem_cons_of_mem _ (fW_Cv w hw)) hown (ci := 0) (C := "NonceBox$Curve") (T := fT_Cv) (N := 14) rfl 0 (by decide) (hts _ (List.mem_cons_of_mem _ kf_Cv_16)) rfl (v := .ref (ad 19)) rfl d_Cv_step_251 ?_
  refine lv_aload_n hx hb d_Cv_step_254 rfl (lv_at hl 0 rfl) ?_
  refine wv_getf hx hb h 18 (by decide) (fs := [.ref (ad 19), .ref (ad 21), .ref (ad 22), .ref (ad 23), .ref (ad 24), .ref (ad 25), .ref (ad 26), .ref (ad 27), .ref (ad 28), .ref (ad 29), .ref (ad 30), .ref (ad 31), .ref (ad 32), .ref (ad 33)]) t16_18 hts (fun w hw => List.mem_cons_of_mem _ (fW_Cv w hw)) hown (ci := 0) (C := "NonceBox$Curve") (T := fT_Cv) (N := 14) rfl 11 (by decide) (hts _ (List.mem_cons_of_mem _ kf_Cv_58)) rfl (v := .ref (ad 31)) rfl d_Cv_step_255 ?_
  refine lv_aload_n hx hb d_Cv_step_258 rfl (lv_at hl 2 rfl) ?_
  refine lv_aload_n hx hb d_Cv_step_259 rfl (lv_at hl 2 rfl) ?_
  refine wv_V (As := [.ref (ad 31), .ref (ad 25), .ref (ad 25)]) (rest := []) (k := 3) ⟨hx, hb, hml, hown, hts⟩ h 19 (by decide) (C := "NonceBox$Field") t16_19 rfl (m_Fd_plus l G A ad ev16 19 20 10 21 19 608 (by decide) t16_19 (by decide) (by decide) 31 25 25 (stQ Ra Rb) (sc (stT Ra Rb)) (sc (stT Ra Rb)) (by decide) (by decide) (by decide) t16_31 t16_25 t16_25 (by decide)) kc_Fd_plus kl_Cv_111 km_Fd_plus kv_Fd_plus ki_Fd (by decide +kernel) ⟨rfl, rfl, Nat.le_of_ble_eq_true rfl, Nat.le_of_ble_eq_true rfl⟩ hl.1 rfl rfl (Nat.le_of_ble_eq_true rfl) ⟨Nat.le_refl _, Nat.le_refl _⟩ d_Cv_step_260 ?_
  intro ov ev17 H locs hp h
  rw [hp.1]
  refine W.eq (g2 := F0 m 263 ls []) rfl ?_
  have o17 : ev17 = (va_up ev16 25 (eJ G 10 (pl (stQ Ra Rb) (sc (stT Ra Rb))))) := hp.2
  have t17_25 : ev17 25 = eJ G 10 (pl (stQ Ra Rb) (sc (stT Ra Rb))) := by rw [o17, va_up_self]
  have t17_24 := (show ev17 24 = ev16 24 by rw [o17, va_up_ne _ _ (by decide)]).trans t16_24
  have t17_22 := (show ev17 22 = ev16 22 by rw [o17, va_up_ne _ _ (by decide)]).trans t16_22
  have t17_23 := (show ev17 23 = ev16 23 by rw [o17, va_up_ne _ _ (by decide)]).trans t16_23
  have t17_26 := (show ev17 26 = ev16 26 by rw [o17, va_up_ne _ _ (by decide)]).trans t16_26
  have t17_27 := (show ev17 27 = ev16 27 by rw [o17, va_up_ne _ _ (by decide)]).trans t16_27
  have t17_28 := (show ev17 28 = ev16 28 by rw [o17, va_up_ne _ _ (by decide)]).trans t16_28
  have t17_29 := (show ev17 29 = ev16 29 by rw [o17, va_up_ne _ _ (by decide)]).trans t16_29
  have t17_30 := (show ev17 30 = ev16 30 by rw [o17, va_up_ne _ _ (by decide)]).trans t16_30
  have t17_31 := (show ev17 31 = ev16 31 by rw [o17, va_up_ne _ _ (by decide)]).trans t16_31
  have t17_32 := (show ev17 32 = ev16 32 by rw [o17, va_up_ne _ _ (by decide)]).trans t16_32
  have t17_33 := (show ev17 33 = ev16 33 by rw [o17, va_up_ne _ _ (by decide)]).trans t16_33
  have t17_20 := (show ev17 20 = ev16 20 by rw [o17, va_up_ne _ _ (by decide)]).trans t16_20
  have t17_18 := (show ev17 18 = ev16 18 by rw [o17, va_up_ne _ _ (by decide)]).trans t16_18
  have t17_19 := (show ev17 19 = ev16 19 by rw [o17, va_up_ne _ _ (by decide)]).trans t16_19
  refine lv_aload_n hx hb d_Cv_step_263 rfl (lv_at hl 0 rfl) ?_
  refine wv_getf hx hb h 18 (by decide) (fs := [.ref (ad 19), .ref (ad 21), .ref (ad 22), .ref (ad 23), .ref (ad 24), .ref (ad 25), .ref (ad 26), .ref (ad 27), .ref (ad 28), .ref (ad 29), .ref (ad 30), .ref (ad 31), .ref (ad 32), .ref (ad 33)]) t17_18 hts (fun w hw => List.mem_cons_of_mem _ (fW_Cv w hw)) hown (ci := 0) (C := "NonceBox$Curve") (T := fT_Cv) (N := 14) rfl 0 (by decide) (hts _ (List.mem_cons_of_mem _ kf_Cv_16)) rfl (v := .ref (ad 19)) rfl d_Cv_step_264 ?_
  refine lv_aload_n hx hb d_Cv_step_267 rfl (lv_at hl 0 rfl) ?_
  refine wv_getf hx hb h 18 (by decide) (fs := [.ref (ad 19), .ref (ad 21), .ref (ad 22), .ref (ad 23), .ref (ad 24), .ref (ad 25), .ref (ad 26), .ref (ad 27), .ref (ad 28), .ref (ad 29), .ref (ad 30), .ref (ad 31), .ref (ad 32), .ref (ad 33)]) t17_18 hts (fun w hw => List.mem_cons_of_mem _ (fW_Cv w hw)) hown (ci := 0) (C := "NonceBox$Curve") (T := fT_Cv) (N := 14) rfl 13 (by decide) (hts _ (List.mem_cons_of_mem _ kf_Cv_64)) rfl (v := .ref (ad 33)) rfl d_Cv_step_268 ?_
  refine lv_aload_n hx hb d_Cv_step_271 rfl (lv_at hl 2 rfl) ?_
  refine lv_aload_n hx hb d_Cv_step_272 rfl (lv_at hl 2 rfl) ?_
  refine wv_V (As := [.ref (ad 33), .ref (ad 25), .ref (ad 25)]) (rest := []) (k := 3) ⟨hx, hb, hml, hown, hts⟩ h 19 (by decide) (C := "NonceBox$Field") t17_19 rfl (m_Fd_times l G A ad ev17 19 20 10 21 19 608 (by decide) t17_19 (by decide) (by decide) 33 25 25 (stT Ra Rb) (pl (stQ Ra Rb) (sc (stT Ra Rb))) (pl (stQ Ra Rb) (sc (stT Ra Rb))) (wdC (stQ Ra Rb) (stR Ra Rb) 10) (by decide) (by decide) (by decide) (by decide) t17_33 t17_25 t17_25 t17_20 (by decide) (by decide) (by decide) (by decide) (by decide)) kc_Fd_times kl_Cv_82 km_Fd_times kv_Fd_times ki_Fd (by decide +kernel) ⟨rfl, rfl, Nat.le_of_ble_eq_true rfl, Nat.le_of_ble_eq_true rfl⟩ hl.1 rfl rfl (Nat.le_of_ble_eq_true rfl) ⟨Nat.le_refl _, Nat.le_refl _⟩ d_Cv_step_273 ?_
  intro ov ev18 H locs hp h
  rw [hp.1]
  refine W.eq (g2 := F0 m 276 ls []) rfl ?_
  have o18 : ev18 = (va_up (va_up ev17 20 (eJ G 20 (wdC (stT Ra Rb) (pl (stQ Ra Rb) (sc (stT Ra Rb))) 10))) 25 (eJ G 10 (stB Ra Rb))) := hp.2
  have t18_20 : ev18 20 = eJ G 20 (wdC (stT Ra Rb) (pl (stQ Ra Rb) (sc (stT Ra Rb))) 10) := by rw [o18, va_up_ne _ _ (by decide), va_up_self]
  have t18_25 : ev18 25 = eJ G 10 (stB Ra Rb) := by rw [o18, va_up_self]
  have t18_24 := (show ev18 24 = ev17 24 by rw [o18, va_up_ne _ _ (by decide), va_up_ne _ _ (by decide)]).trans t17_24
  have t18_22 := (show ev18 22 = ev17 22 by rw [o18, va_up_ne _ _ (by decide), va_up_ne _ _ (by decide)]).trans t17_22
  have t18_23 := (show ev18 23 = ev17 23 by rw [o18, va_up_ne _ _ (by decide), va_up_ne _ _ (by decide)]).trans t17_23
  have t18_26 := (show ev18 26 = ev17 26 by rw [o18, va_up_ne _ _ (by decide), va_up_ne _ _ (by decide)]).trans t17_26
  have t18_27 := (show ev18 27 = ev17 27 by rw [o18, va_up_ne _ _ (by decide), va_up_ne _ _ (by decide)]).trans t17_27
  have t18_28 := (show ev18 28 = ev17 28 by rw [o18, va_up_ne _ _ (by decide), va_up_ne _ _ (by decide)]).trans t17_28
  have t18_29 := (show ev18 29 = ev17 29 by rw [o18, va_up_ne _ _ (by decide), va_up_ne _ _ (by decide)]).trans t17_29
  have t18_30 := (show ev18 30 = ev17 30 by rw [o18, va_up_ne _ _ (by decide), va_up_ne _ _ (by decide)]).trans t17_30
  have t18_31 := (show ev18 31 = ev17 31 by rw [o18, va_up_ne _ _ (by decide), va_up_ne _ _ (by decide)]).trans t17_31
  have t18_32 := (show ev18 32 = ev17 32 by rw [o18, va_up_ne _ _ (by decide), va_up_ne _ _ (by decide)]).trans t17_32
  have t18_33 := (show ev18 33 = ev17 33 by rw [o18, va_up_ne _ _ (by decide), va_up_ne _ _ (by decide)]).trans t17_33
  have t18_18 := (show ev18 18 = ev17 18 by rw [o18, va_up_ne _ _ (by decide), va_up_ne _ _ (by decide)]).trans t17_18
  have t18_19 := (show ev18 19 = ev17 19 by rw [o18, va_up_ne _ _ (by decide), va_up_ne _ _ (by decide)]).trans t17_19
  refine wv_vret hx hb hr hlocks h d_Cv_step_276 ⟨(wdC (stT Ra Rb) (pl (stQ Ra Rb) (sc (stT Ra Rb))) 10), (pl Ra Rb), (mi Ra Rb), (stG Ra Rb Rc Rd), (stH Ra Rb Rc Rd), (stQ Ra Rb), (stR Ra Rb), (stT Ra Rb), rfl, ?_⟩
  funext j
  by_cases c0 : j = 20
  · rw [c0, t18_20, va_up_ne _ _ (by decide), va_up_ne _ _ (by decide), va_up_ne _ _ (by decide), va_up_ne _ _ (by decide), va_up_ne _ _ (by decide), va_up_ne _ _ (by decide), va_up_ne _ _ (by decide), va_up_ne _ _ (by decide), va_up_ne _ _ (by decide), va_up_ne _ _ (by decide), va_up_ne _ _ (by decide), va_up_self]
  by_cases c1 : j = 27
  · rw [c1, t18_27, va_up_ne _ _ (by decide), va_up_ne _ _ (by decide), va_up_ne _ _ (by decide), va_up_ne _ _ (by decide), va_up_ne _ _ (by decide), va_up_ne _ _ (by decide), va_up_ne _ _ (by decide), va_up_ne _ _ (by decide), va_up_ne _ _ (by decide), va_up_ne _ _ (by decide), va_up_self]
  by_cases c2 : j = 28
  · rw [c2, t18_28, va_up_ne _ _ (by decide), va_up_ne _ _ (by decide), va_up_ne _ _ (by decide), va_up_ne _ _ (by decide), va_up_ne _ _ (by decide), va_up_ne _ _ (by decide), va_up_ne _ _ (by decide), va_up_ne _ _ (by decide), va_up_ne _ _ (by decide), va_up_self]
  by_cases c3 : j = 29
  · rw [c3, t18_29, va_up_ne _ _ (by decide), va_up_ne _ _ (by decide), va_up_ne _ _ (by decide), va_up_ne _ _ (by decide), va_up_ne _ _ (by decide), va_up_ne _ _ (by decide), va_up_ne _ _ (by decide), va_up_ne _ _ (by decide), va_up_self]
  by_cases c4 : j = 30
  · rw [c4, t18_30, va_up_ne _ _ (by decide), va_up_ne _ _ (by decide), va_up_ne _ _ (by decide), va_up_ne _ _ (by decide), va_up_ne _ _ (by decide), va_up_ne _ _ (by decide), va_up_ne _ _ (by decide), va_up_self]
  by_cases c5 : j = 31
  · rw [c5, t18_31, va_up_ne _ _ (by decide), va_up_ne _ _ (by decide), va_up_ne _ _ (by decide), va_up_ne _ _ (by decide), va_up_ne _ _ (by decide), va_up_ne _ _ (by decide), va_up_self]
  by_cases c6 : j = 32
  · rw [c6, t18_32, va_up_ne _ _ (by decide), va_up_ne _ _ (by decide), va_up_ne _ _ (by decide), va_up_ne _ _ (by decide), va_up_ne _ _ (by decide), va_up_self]
  by_cases c7 : j = 33
  · rw [c7, t18_33, va_up_ne _ _ (by decide), va_up_ne _ _ (by decide), va_up_ne _ _ (by decide), va_up_ne _ _ (by decide), va_up_self]
  by_cases c8 : j = 24
  · rw [c8, t18_24, va_up_ne _ _ (by decide), va_up_ne _ _ (by decide), va_up_ne _ _ (by decide), va_up_self]
  by_cases c9 : j = 25
  · rw [c9, t18_25, va_up_ne _ _ (by decide), va_up_ne _ _ (by decide), va_up_self]
  by_cases c10 : j = 22
  · rw [c10, t18_22, va_up_ne _ _ (by decide), va_up_self]
  by_cases c11 : j = 23
  · rw [c11, t18_23, va_up_self]
  rw [va_up_ne _ _ c11, va_up_ne _ _ c10, va_up_ne _ _ c9, va_up_ne _ _ c8, va_up_ne _ _ c7, va_up_ne _ _ c6, va_up_ne _ _ c5, va_up_ne _ _ c4, va_up_ne _ _ c3, va_up_ne _ _ c2, va_up_ne _ _ c1, va_up_ne _ _ c0]
  rw [o18, va_up_ne _ _ c9, va_up_ne _ _ c0, o17, va_up_ne _ _ c9, o16, va_up_ne _ _ c9, o15, va_up_ne _ _ c8, va_up_ne _ _ c0, o14, va_up_ne _ _ c11, va_up_ne _ _ c0, o13, va_up_ne _ _ c11, va_up_ne _ _ c0, o12, va_up_ne _ _ c11, o11, va_up_ne _ _ c10, va_up_ne _ _ c0, o10, va_up_ne _ _ c10, o9, va_up_ne _ _ c7, o8, va_up_ne _ _ c6, va_up_ne _ _ c0, o7, va_up_ne _ _ c5, va_up_ne _ _ c0, o6, va_up_ne _ _ c4, va_up_ne _ _ c0, o5, va_up_ne _ _ c4, o4, va_up_ne _ _ c3, va_up_ne _ _ c0, o3, va_up_ne _ _ c3, o2, va_up_ne _ _ c2, o1, va_up_ne _ _ c1]
