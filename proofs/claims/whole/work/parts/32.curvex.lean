theorem d_Cv_invert_0 : decode c_Cv_invert 0 = .ok (.aload_n 0, 1) := by decide +kernel
theorem d_Cv_invert_1 : decode c_Cv_invert 1 = .ok (.getfield 16, 3) := by decide +kernel
theorem d_Cv_invert_4 : decode c_Cv_invert 4 = .ok (.aload_n 1, 1) := by decide +kernel
theorem d_Cv_invert_5 : decode c_Cv_invert 5 = .ok (.aload_n 2, 1) := by decide +kernel
theorem d_Cv_invert_6 : decode c_Cv_invert 6 = .ok (.invokevirtual 108, 3) := by decide +kernel
theorem d_Cv_invert_9 : decode c_Cv_invert 9 = .ok (.sipush 253, 3) := by decide +kernel
theorem d_Cv_invert_12 : decode c_Cv_invert 12 = .ok (.istore_n 3, 1) := by decide +kernel
theorem d_Cv_invert_13 : decode c_Cv_invert 13 = .ok (.iload_n 3, 1) := by decide +kernel
theorem d_Cv_invert_14 : decode c_Cv_invert 14 = .ok (.ifCond .lt 39, 3) := by decide +kernel
theorem d_Cv_invert_17 : decode c_Cv_invert 17 = .ok (.aload_n 0, 1) := by decide +kernel
theorem d_Cv_invert_18 : decode c_Cv_invert 18 = .ok (.getfield 16, 3) := by decide +kernel
theorem d_Cv_invert_21 : decode c_Cv_invert 21 = .ok (.aload_n 2, 1) := by decide +kernel
theorem d_Cv_invert_22 : decode c_Cv_invert 22 = .ok (.aload_n 2, 1) := by decide +kernel
theorem d_Cv_invert_23 : decode c_Cv_invert 23 = .ok (.aload_n 2, 1) := by decide +kernel
theorem d_Cv_invert_24 : decode c_Cv_invert 24 = .ok (.invokevirtual 82, 3) := by decide +kernel
theorem d_Cv_invert_27 : decode c_Cv_invert 27 = .ok (.iload_n 3, 1) := by decide +kernel
theorem d_Cv_invert_28 : decode c_Cv_invert 28 = .ok (.iconst 2, 1) := by decide +kernel
theorem d_Cv_invert_29 : decode c_Cv_invert 29 = .ok (.if_icmp .eq 18, 3) := by decide +kernel
theorem d_Cv_invert_32 : decode c_Cv_invert 32 = .ok (.iload_n 3, 1) := by decide +kernel
theorem d_Cv_invert_33 : decode c_Cv_invert 33 = .ok (.iconst 4, 1) := by decide +kernel
theorem d_Cv_invert_34 : decode c_Cv_invert 34 = .ok (.if_icmp .eq 13, 3) := by decide +kernel
theorem d_Cv_invert_37 : decode c_Cv_invert 37 = .ok (.aload_n 0, 1) := by decide +kernel
theorem d_Cv_invert_38 : decode c_Cv_invert 38 = .ok (.getfield 16, 3) := by decide +kernel
theorem d_Cv_invert_41 : decode c_Cv_invert 41 = .ok (.aload_n 2, 1) := by decide +kernel
theorem d_Cv_invert_42 : decode c_Cv_invert 42 = .ok (.aload_n 1, 1) := by decide +kernel
theorem d_Cv_invert_43 : decode c_Cv_invert 43 = .ok (.aload_n 2, 1) := by decide +kernel
theorem d_Cv_invert_44 : decode c_Cv_invert 44 = .ok (.invokevirtual 82, 3) := by decide +kernel
theorem d_Cv_invert_47 : decode c_Cv_invert 47 = .ok (.iinc 3 (-1), 3) := by decide +kernel
theorem d_Cv_invert_50 : decode c_Cv_invert 50 = .ok (.goto (-37), 3) := by decide +kernel
theorem d_Cv_invert_53 : decode c_Cv_invert 53 = .ok (.return_, 1) := by decide +kernel
set_option maxRecDepth 100000 in
set_option maxHeartbeats 4000000 in
/-- b^(p - 2) -/
theorem m_Cv_invert (l : Launch) (G : wG) (A : Nat → Prop) (ad : Nat → Nat) (ev : Nat → va_E) (X zE zW : Nat → Int64) (h18 : ev 18 = eO 0 [.ref (ad 19), .ref (ad 21), .ref (ad 22), .ref (ad 23), .ref (ad 24), .ref (ad 25), .ref (ad 26), .ref (ad 27), .ref (ad 28), .ref (ad 29), .ref (ad 30), .ref (ad 31), .ref (ad 32), .ref (ad 33)]) (h19 : ev 19 = eO 1 [.int (nI 10), .int (nI 21), .long 19, .long 608, .ref (ad 20)]) (h20 : ev 20 = eJ G 20 zW) (h23 : ev 23 = eJ G 10 X) (h27 : ev 27 = eJ G 10 zE) : wM l y_Cv_invert w_Cv_invert ({ frames := 12, cells := 0, slots := 0, locals := 400 }) G A 52 ad ev [.ref (ad 18), .ref (ad 23), .ref (ad 27)] (fun ov ev' => ∃ Wd : Nat → Int64, ov = none ∧ ev' = va_up (va_up ev 20 (eJ G 20 Wd)) 27 (eJ G 10 (ivS X 254))) := by
  refine wv_ofW (cc := c_Cv_invert) (maxL := 4) (ret := none) (by decide) rfl (Nat.le_of_ble_eq_true rfl) ?_
  intro p e s m below meth c ls hx hb hr hml hts hown hlocks hini h hl
  have hl : lv_has ls 4 [(0, .ref (ad 18)), (1, .ref (ad 23)), (2, .ref (ad 27))] := hl
  refine lv_aload_n hx hb d_Cv_invert_0 rfl (lv_at hl 0 rfl) ?_
  refine wv_getf hx hb h 18 (by decide) (fs := [.ref (ad 19), .ref (ad 21), .ref (ad 22), .ref (ad 23), .ref (ad 24), .ref (ad 25), .ref (ad 26), .ref (ad 27), .ref (ad 28), .ref (ad 29), .ref (ad 30), .ref (ad 31), .ref (ad 32), .ref (ad 33)]) h18 hts (fun w hw => List.mem_cons_of_mem _ (fW_Cv w hw)) hown (ci := 0) (C := "NonceBox$Curve") (T := fT_Cv) (N := 14) rfl 0 (by decide) (hts _ (List.mem_cons_of_mem _ kf_Cv_16)) rfl (v := .ref (ad 19)) rfl d_Cv_invert_1 ?_
  refine lv_aload_n hx hb d_Cv_invert_4 rfl (lv_at hl 1 rfl) ?_
  refine lv_aload_n hx hb d_Cv_invert_5 rfl (lv_at hl 2 rfl) ?_
  refine wv_V (As := [.ref (ad 23), .ref (ad 27)]) (rest := []) (k := 2) ⟨hx, hb, hml, hown, hts⟩ h 19 (by decide) (C := "NonceBox$Field") h19 rfl (m_Fd_copy l G A ad ev 19 20 10 21 19 608 (by decide) h19 (by decide) (by decide) 23 27 X zE (by decide) (by decide) h23 h27 (by decide) (by decide)) kc_Fd_copy kl_Cv_108 km_Fd_copy kv_Fd_copy ki_Fd (by decide +kernel) ⟨rfl, rfl, Nat.le_of_ble_eq_true rfl, Nat.le_of_ble_eq_true rfl⟩ hl.1 rfl rfl (Nat.le_of_ble_eq_true rfl) ⟨Nat.le_refl _, Nat.le_refl _⟩ d_Cv_invert_6 ?_
  intro ov ev1 H locs hp h
  rw [hp.1]
  refine W.eq (g2 := F0 m 9 ls []) rfl ?_
  have o1 : ev1 = (va_up ev 27 (eJ G 10 X)) := hp.2
  have t1_27 : ev1 27 = eJ G 10 X := by rw [o1, va_up_self]
  have t1_23 := (show ev1 23 = ev 23 by rw [o1, va_up_ne _ _ (by decide)]).trans h23
  have t1_20 := (show ev1 20 = ev 20 by rw [o1, va_up_ne _ _ (by decide)]).trans h20
  have t1_18 := (show ev1 18 = ev 18 by rw [o1, va_up_ne _ _ (by decide)]).trans h18
  have t1_19 := (show ev1 19 = ev 19 by rw [o1, va_up_ne _ _ (by decide)]).trans h19
  refine lv_sipush (v := nI (253)) hx hb d_Cv_invert_9 (by decide) ?_
  refine lv_istore_n (lv' := [(3, .int (nI (253))), (0, .ref (ad 18)), (1, .ref (ad 23)), (2, .ref (ad 27))]) hx hb d_Cv_invert_12 rfl hl (by decide) rfl (fun ls hl => ?_)
  rw [show nI 253 = dn 254 from rfl] at hl
  have loop2 : ∀ (d k : Nat), k + d = 254 → ∀ (Wd : Nat → Int64),  ∀ (ev2 : Nat → va_E) (H : Heap) (locs : List Loc) (ls : Array Slot), ev2 = (va_up (va_up ev1 20 (eJ G 20 Wd)) 27 (eJ G 10 (ivS X k))) → wT G A 52 ad ev2 s H locs → lv_has ls 4 [(3, .int (dn d)), (0, .ref (ad 18)), (1, .ref (ad 23)), (2, .ref (ad 27))] → W p l e ({ frames := 12, cells := 0, slots := 0, locals := 400 }) s m ([.ref (ad 18), .ref (ad 23), .ref (ad 27)] : List Value).toArray below meth c H locs 0 0 (MQ below (wQc G A 52 ad (fun ov ev' => ∃ Wd : Nat → Int64, ov = none ∧ ev' = va_up (va_up ev 20 (eJ G 20 Wd)) 27 (eJ G 10 (ivS X 254)))) ([.ref (ad 18), .ref (ad 23), .ref (ad 27)] : List Value).toArray s 0 0 A) (F0 m 13 ls []) := by
    intro d
    induction d with
    | zero =>
      intro k hk_k Wd ev2 H locs ls  o2 h hl
      have hl : lv_has ls 4 [(3, .int ((-1 : Int32))), (0, .ref (ad 18)), (1, .ref (ad 23)), (2, .ref (ad 27))] := hl
      have t2_20 : ev2 20 = eJ G 20 Wd := by rw [o2, va_up_ne _ _ (by decide), va_up_self]
      have t2_27 : ev2 27 = eJ G 10 (ivS X k) := by rw [o2, va_up_self]
      have t2_23 := (show ev2 23 = ev1 23 by rw [o2, va_up_ne _ _ (by decide), va_up_ne _ _ (by decide)]).trans t1_23
      have t2_18 := (show ev2 18 = ev1 18 by rw [o2, va_up_ne _ _ (by decide), va_up_ne _ _ (by decide)]).trans t1_18
      have t2_19 := (show ev2 19 = ev1 19 by rw [o2, va_up_ne _ _ (by decide), va_up_ne _ _ (by decide)]).trans t1_19
      refine lv_iload_n hx hb d_Cv_invert_13 rfl (lv_at hl 0 rfl) ?_
      refine lv_if_lt (tgt := 53) hx hb d_Cv_invert_14 (by decide) (fun _ => ?_) (fun hc => absurd (by decide) hc)
      refine wv_vret hx hb hr hlocks h d_Cv_invert_53 ⟨Wd, rfl, ?_⟩
      rw [o2, o1, show k = 254 by omega]
      funext j
      by_cases c0 : j = 20
      · subst c0; simp [va_up]
      by_cases c1 : j = 27
      · subst c1; simp [va_up]
      simp only [va_up, c0, c1, if_false]
    | succ d ih =>
      intro k hk_k Wd ev2 H locs ls  o2 h hl
      have hl : lv_has ls 4 [(3, .int (nI (d))), (0, .ref (ad 18)), (1, .ref (ad 23)), (2, .ref (ad 27))] := hl
      have t2_20 : ev2 20 = eJ G 20 Wd := by rw [o2, va_up_ne _ _ (by decide), va_up_self]
      have t2_27 : ev2 27 = eJ G 10 (ivS X k) := by rw [o2, va_up_self]
      have t2_23 := (show ev2 23 = ev1 23 by rw [o2, va_up_ne _ _ (by decide), va_up_ne _ _ (by decide)]).trans t1_23
      have t2_18 := (show ev2 18 = ev1 18 by rw [o2, va_up_ne _ _ (by decide), va_up_ne _ _ (by decide)]).trans t1_18
      have t2_19 := (show ev2 19 = ev1 19 by rw [o2, va_up_ne _ _ (by decide), va_up_ne _ _ (by decide)]).trans t1_19
      refine lv_iload_n hx hb d_Cv_invert_13 rfl (lv_at hl 0 rfl) ?_
      refine lv_if_lt (tgt := 53) hx hb d_Cv_invert_14 (by decide) (fun hc => absurd hc (nI_pos (by omega))) (fun _ => ?_)
      refine lv_aload_n hx hb d_Cv_invert_17 rfl (lv_at hl 1 rfl) ?_
      refine wv_getf hx hb h 18 (by decide) (fs := [.ref (ad 19), .ref (ad 21), .ref (ad 22), .ref (ad 23), .ref (ad 24), .ref (ad 25), .ref (ad 26), .ref (ad 27), .ref (ad 28), .ref (ad 29), .ref (ad 30), .ref (ad 31), .ref (ad 32), .ref (ad 33)]) t2_18 hts (fun w hw => List.mem_cons_of_mem _ (fW_Cv w hw)) hown (ci := 0) (C := "NonceBox$Curve") (T := fT_Cv) (N := 14) rfl 0 (by decide) (hts _ (List.mem_cons_of_mem _ kf_Cv_16)) rfl (v := .ref (ad 19)) rfl d_Cv_invert_18 ?_
      refine lv_aload_n hx hb d_Cv_invert_21 rfl (lv_at hl 3 rfl) ?_
      refine lv_aload_n hx hb d_Cv_invert_22 rfl (lv_at hl 3 rfl) ?_
      refine lv_aload_n hx hb d_Cv_invert_23 rfl (lv_at hl 3 rfl) ?_
      refine wv_V (As := [.ref (ad 27), .ref (ad 27), .ref (ad 27)]) (rest := []) (k := 3) ⟨hx, hb, hml, hown, hts⟩ h 19 (by decide) (C := "NonceBox$Field") t2_19 rfl (m_Fd_times l G A ad ev2 19 20 10 21 19 608 (by decide) t2_19 (by decide) (by decide) 27 27 27 (ivS X k) (ivS X k) (ivS X k) Wd (by decide) (by decide) (by decide) (by decide) t2_27 t2_27 t2_27 t2_20 (by decide) (by decide) (by decide) (by decide) (by decide)) kc_Fd_times kl_Cv_82 km_Fd_times kv_Fd_times ki_Fd (by decide +kernel) ⟨rfl, rfl, Nat.le_of_ble_eq_true rfl, Nat.le_of_ble_eq_true rfl⟩ hl.1 rfl rfl (Nat.le_of_ble_eq_true rfl) ⟨Nat.le_refl _, Nat.le_refl _⟩ d_Cv_invert_24 ?_
      intro ov ev3 H locs hp h
      rw [hp.1]
      refine W.eq (g2 := F0 m 27 ls []) rfl ?_
      have o3 : ev3 = (va_up (va_up ev2 20 (eJ G 20 (wdC (ivS X k) (ivS X k) 10))) 27 (eJ G 10 (tm (ivS X k) (ivS X k)))) := hp.2
      have t3_20 : ev3 20 = eJ G 20 (wdC (ivS X k) (ivS X k) 10) := by rw [o3, va_up_ne _ _ (by decide), va_up_self]
      have t3_27 : ev3 27 = eJ G 10 (tm (ivS X k) (ivS X k)) := by rw [o3, va_up_self]
      have t3_23 := (show ev3 23 = ev2 23 by rw [o3, va_up_ne _ _ (by decide), va_up_ne _ _ (by decide)]).trans t2_23
      have t3_18 := (show ev3 18 = ev2 18 by rw [o3, va_up_ne _ _ (by decide), va_up_ne _ _ (by decide)]).trans t2_18
      have t3_19 := (show ev3 19 = ev2 19 by rw [o3, va_up_ne _ _ (by decide), va_up_ne _ _ (by decide)]).trans t2_19
      refine lv_iload_n hx hb d_Cv_invert_27 rfl (lv_at hl 0 rfl) ?_
      refine lv_iconst (v := nI (2)) hx hb d_Cv_invert_28 (by decide) ?_
      refine lv_icmp_eq (tgt := 47) hx hb d_Cv_invert_29 (by decide) (fun hc => ?_) (fun hc => ?_)
      · have hc := (nI_eq (by omega) (by omega)).mp hc
        refine lv_iinc (v := dn d) (lv' := [(3, .int (dn d)), (0, .ref (ad 18)), (1, .ref (ad 23)), (2, .ref (ad 27))]) hx hb d_Cv_invert_47 hl (k := 0) rfl (dn_dec d) (by decide) rfl (fun ls hl => ?_)
        refine lv_goto (tgt := 13) hx hb d_Cv_invert_50 (by decide) ?_
        refine ih (k + 1) (by omega) (wdC (ivS X k) (ivS X k) 10) ev3 H locs ls ?_ h (lv_sub hl [0, 1, 2, 3] rfl)
        rw [show ivS X (k + 1) = (tm (ivS X k) (ivS X k)) from (if_pos (show 253 - k = 2 ∨ 253 - k = 4 by omega))]
        rw [o3, o2]
        funext j
        by_cases c0 : j = 20
        · subst c0; simp [va_up]
        by_cases c1 : j = 27
        · subst c1; simp [va_up]
        simp only [va_up, c0, c1, if_false]
      · have hc : ¬ d = 2 := fun q => hc ((nI_eq (by omega) (by omega)).mpr q)
        refine lv_iload_n hx hb d_Cv_invert_32 rfl (lv_at hl 0 rfl) ?_
        refine lv_iconst (v := nI (4)) hx hb d_Cv_invert_33 (by decide) ?_
        refine lv_icmp_eq (tgt := 47) hx hb d_Cv_invert_34 (by decide) (fun hc2 => ?_) (fun hc2 => ?_)
        · have hc2 := (nI_eq (by omega) (by omega)).mp hc2
          refine lv_iinc (v := dn d) (lv' := [(3, .int (dn d)), (0, .ref (ad 18)), (1, .ref (ad 23)), (2, .ref (ad 27))]) hx hb d_Cv_invert_47 hl (k := 0) rfl (dn_dec d) (by decide) rfl (fun ls hl => ?_)
          refine lv_goto (tgt := 13) hx hb d_Cv_invert_50 (by decide) ?_
          refine ih (k + 1) (by omega) (wdC (ivS X k) (ivS X k) 10) ev3 H locs ls ?_ h (lv_sub hl [0, 1, 2, 3] rfl)
          rw [show ivS X (k + 1) = (tm (ivS X k) (ivS X k)) from (if_pos (show 253 - k = 2 ∨ 253 - k = 4 by omega))]
          rw [o3, o2]
          funext j
          by_cases c0 : j = 20
          · subst c0; simp [va_up]
          by_cases c1 : j = 27
          · subst c1; simp [va_up]
          simp only [va_up, c0, c1, if_false]
        · have hc2 : ¬ d = 4 := fun q => hc2 ((nI_eq (by omega) (by omega)).mpr q)
          refine lv_aload_n hx hb d_Cv_invert_37 rfl (lv_at hl 1 rfl) ?_
          refine wv_getf hx hb h 18 (by decide) (fs := [.ref (ad 19), .ref (ad 21), .ref (ad 22), .ref (ad 23), .ref (ad 24), .ref (ad 25), .ref (ad 26), .ref (ad 27), .ref (ad 28), .ref (ad 29), .ref (ad 30), .ref (ad 31), .ref (ad 32), .ref (ad 33)]) t3_18 hts (fun w hw => List.mem_cons_of_mem _ (fW_Cv w hw)) hown (ci := 0) (C := "NonceBox$Curve") (T := fT_Cv) (N := 14) rfl 0 (by decide) (hts _ (List.mem_cons_of_mem _ kf_Cv_16)) rfl (v := .ref (ad 19)) rfl d_Cv_invert_38 ?_
          refine lv_aload_n hx hb d_Cv_invert_41 rfl (lv_at hl 3 rfl) ?_
          refine lv_aload_n hx hb d_Cv_invert_42 rfl (lv_at hl 2 rfl) ?_
          refine lv_aload_n hx hb d_Cv_invert_43 rfl (lv_at hl 3 rfl) ?_
          refine wv_V (As := [.ref (ad 27), .ref (ad 23), .ref (ad 27)]) (rest := []) (k := 3) ⟨hx, hb, hml, hown, hts⟩ h 19 (by decide) (C := "NonceBox$Field") t3_19 rfl (m_Fd_times l G A ad ev3 19 20 10 21 19 608 (by decide) t3_19 (by decide) (by decide) 27 23 27 (tm (ivS X k) (ivS X k)) X (tm (ivS X k) (ivS X k)) (wdC (ivS X k) (ivS X k) 10) (by decide) (by decide) (by decide) (by decide) t3_27 t3_23 t3_27 t3_20 (by decide) (by decide) (by decide) (by decide) (by decide)) kc_Fd_times kl_Cv_82 km_Fd_times kv_Fd_times ki_Fd (by decide +kernel) ⟨rfl, rfl, Nat.le_of_ble_eq_true rfl, Nat.le_of_ble_eq_true rfl⟩ hl.1 rfl rfl (Nat.le_of_ble_eq_true rfl) ⟨Nat.le_refl _, Nat.le_refl _⟩ d_Cv_invert_44 ?_
          intro ov ev4 H locs hp h
          rw [hp.1]
          refine W.eq (g2 := F0 m 47 ls []) rfl ?_
          have o4 : ev4 = (va_up (va_up ev3 20 (eJ G 20 (wdC (tm (ivS X k) (ivS X k)) X 10))) 27 (eJ G 10 (tm (tm (ivS X k) (ivS X k)) X))) := hp.2
          have t4_20 : ev4 20 = eJ G 20 (wdC (tm (ivS X k) (ivS X k)) X 10) := by rw [o4, va_up_ne _ _ (by decide), va_up_self]
          have t4_27 : ev4 27 = eJ G 10 (tm (tm (ivS X k) (ivS X k)) X) := by rw [o4, va_up_self]
          have t4_23 := (show ev4 23 = ev3 23 by rw [o4, va_up_ne _ _ (by decide), va_up_ne _ _ (by decide)]).trans t3_23
          have t4_18 := (show ev4 18 = ev3 18 by rw [o4, va_up_ne _ _ (by decide), va_up_ne _ _ (by decide)]).trans t3_18
          have t4_19 := (show ev4 19 = ev3 19 by rw [o4, va_up_ne _ _ (by decide), va_up_ne _ _ (by decide)]).trans t3_19
          refine lv_iinc (v := dn d) (lv' := [(3, .int (dn d)), (0, .ref (ad 18)), (1, .ref (ad 23)), (2, .ref (ad 27))]) hx hb d_Cv_invert_47 hl (k := 0) rfl (dn_dec d) (by decide) rfl (fun ls hl => ?_)
          refine lv_goto (tgt := 13) hx hb d_Cv_invert_50 (by decide) ?_
          refine ih (k + 1) (by omega) (wdC (tm (ivS X k) (ivS X k)) X 10) ev4 H locs ls ?_ h (lv_sub hl [0, 1, 2, 3] rfl)
          rw [show ivS X (k + 1) = (tm (tm (ivS X k) (ivS X k)) X) from (if_neg (show ¬ (253 - k = 2 ∨ 253 - k = 4) by omega))]
          rw [o4, o3, o2]
          funext j
          by_cases c0 : j = 20
          · subst c0; simp [va_up]
          by_cases c1 : j = 27
          · subst c1; simp [va_up]
          simp only [va_up, c0, c1, if_false]
  refine loop2 254 0 rfl zW ev1 H locs ls ?_ h (lv_sub hl [0, 1, 2, 3] rfl)
  rw [va_upi _ 20 t1_20]
  exact (va_upi _ 27 t1_27).symm
theorem d_Cv_readKey_0 : decode c_Cv_readKey 0 = .ok (.aload_n 1, 1) := by decide +kernel
theorem d_Cv_readKey_1 : decode c_Cv_readKey 1 = .ok (.iconst 0, 1) := by decide +kernel
theorem d_Cv_readKey_2 : decode c_Cv_readKey 2 = .ok (.aload_n 0, 1) := by decide +kernel
theorem d_Cv_readKey_3 : decode c_Cv_readKey 3 = .ok (.getfield 22, 3) := by decide +kernel
theorem d_Cv_readKey_6 : decode c_Cv_readKey 6 = .ok (.iconst 0, 1) := by decide +kernel
theorem d_Cv_readKey_7 : decode c_Cv_readKey 7 = .ok (.bipush 32, 2) := by decide +kernel
theorem d_Cv_readKey_9 : decode c_Cv_readKey 9 = .ok (.invokestatic 94, 3) := by decide +kernel
theorem d_Cv_readKey_12 : decode c_Cv_readKey 12 = .ok (.aload_n 0, 1) := by decide +kernel
theorem d_Cv_readKey_13 : decode c_Cv_readKey 13 = .ok (.getfield 22, 3) := by decide +kernel
theorem d_Cv_readKey_16 : decode c_Cv_readKey 16 = .ok (.iconst 0, 1) := by decide +kernel
theorem d_Cv_readKey_17 : decode c_Cv_readKey 17 = .ok (.dup2, 1) := by decide +kernel
theorem d_Cv_readKey_18 : decode c_Cv_readKey 18 = .ok (.baload, 1) := by decide +kernel
theorem d_Cv_readKey_19 : decode c_Cv_readKey 19 = .ok (.sipush 248, 3) := by decide +kernel
theorem d_Cv_readKey_22 : decode c_Cv_readKey 22 = .ok (.iand, 1) := by decide +kernel
theorem d_Cv_readKey_23 : decode c_Cv_readKey 23 = .ok (.i2b, 1) := by decide +kernel
theorem d_Cv_readKey_24 : decode c_Cv_readKey 24 = .ok (.bastore, 1) := by decide +kernel
theorem d_Cv_readKey_25 : decode c_Cv_readKey 25 = .ok (.aload_n 0, 1) := by decide +kernel
theorem d_Cv_readKey_26 : decode c_Cv_readKey 26 = .ok (.getfield 22, 3) := by decide +kernel
theorem d_Cv_readKey_29 : decode c_Cv_readKey 29 = .ok (.bipush 31, 2) := by decide +kernel
theorem d_Cv_readKey_31 : decode c_Cv_readKey 31 = .ok (.dup2, 1) := by decide +kernel
theorem d_Cv_readKey_32 : decode c_Cv_readKey 32 = .ok (.baload, 1) := by decide +kernel
theorem d_Cv_readKey_33 : decode c_Cv_readKey 33 = .ok (.bipush 127, 2) := by decide +kernel
theorem d_Cv_readKey_35 : decode c_Cv_readKey 35 = .ok (.iand, 1) := by decide +kernel
theorem d_Cv_readKey_36 : decode c_Cv_readKey 36 = .ok (.i2b, 1) := by decide +kernel
theorem d_Cv_readKey_37 : decode c_Cv_readKey 37 = .ok (.bastore, 1) := by decide +kernel
theorem d_Cv_readKey_38 : decode c_Cv_readKey 38 = .ok (.aload_n 0, 1) := by decide +kernel
theorem d_Cv_readKey_39 : decode c_Cv_readKey 39 = .ok (.getfield 22, 3) := by decide +kernel
theorem d_Cv_readKey_42 : decode c_Cv_readKey 42 = .ok (.bipush 31, 2) := by decide +kernel
theorem d_Cv_readKey_44 : decode c_Cv_readKey 44 = .ok (.dup2, 1) := by decide +kernel
theorem d_Cv_readKey_45 : decode c_Cv_readKey 45 = .ok (.baload, 1) := by decide +kernel
theorem d_Cv_readKey_46 : decode c_Cv_readKey 46 = .ok (.bipush 64, 2) := by decide +kernel
theorem d_Cv_readKey_48 : decode c_Cv_readKey 48 = .ok (.ior, 1) := by decide +kernel
theorem d_Cv_readKey_49 : decode c_Cv_readKey 49 = .ok (.i2b, 1) := by decide +kernel
theorem d_Cv_readKey_50 : decode c_Cv_readKey 50 = .ok (.bastore, 1) := by decide +kernel
theorem d_Cv_readKey_51 : decode c_Cv_readKey 51 = .ok (.return_, 1) := by decide +kernel
set_option maxRecDepth 100000 in
set_option maxHeartbeats 4000000 in
/-- the key as MULTIPLE takes it -/
theorem m_Cv_readKey (l : Launch) (G : wG) (A : Nat → Prop) (ad : Nat → Nat) (ev : Nat → va_E) (qk Nk : Nat) (K : Nat → Nat) (BY : Nat → Nat) (h18 : ev 18 = eO 0 [.ref (ad 19), .ref (ad 21), .ref (ad 22), .ref (ad 23), .ref (ad 24), .ref (ad 25), .ref (ad 26), .ref (ad 27), .ref (ad 28), .ref (ad 29), .ref (ad 30), .ref (ad 31), .ref (ad 32), .ref (ad 33)]) (hqk : qk < 52) (hk : ev qk = eB G Nk (bs K)) (hK : ∀ j, K j < 256) (h21 : ev 21 = eB G 32 (bs BY)) (nk : 32 ≤ Nk) (nk2 : Nk < 2 ^ 30) (k21 : qk ≠ 21) : wM l y_Cv_readKey w_Cv_readKey ({ frames := 3, cells := 0, slots := 0, locals := 100 }) G A 52 ad ev [.ref (ad 18), .ref (ad qk)] (fun ov ev' => ov = none ∧ ev' = va_up ev 21 (eB G 32 (bs (KEYB K)))) := by
  refine wv_ofW (cc := c_Cv_readKey) (maxL := 2) (ret := none) (by decide) rfl (Nat.le_of_ble_eq_true rfl) ?_
  intro p e s m below meth c ls hx hb hr hml hts hown hlocks hini h hl
  have hl : lv_has ls 2 [(0, .ref (ad 18)), (1, .ref (ad qk))] := hl
  refine lv_aload_n hx hb d_Cv_readKey_0 rfl (lv_at hl 1 rfl) ?_
  refine lv_iconst (v := nI (0)) hx hb d_Cv_readKey_1 (by decide) ?_
  refine lv_aload_n hx hb d_Cv_readKey_2 rfl (lv_at hl 0 rfl) ?_
  refine wv_getf hx hb h 18 (by decide) (fs := [.ref (ad 19), .ref (ad 21), .ref (ad 22), .ref (ad 23), .ref (ad 24), .ref (ad 25), .ref (ad 26), .ref (ad 27), .ref (ad 28), .ref (ad 29), .ref (ad 30), .ref (ad 31), .ref (ad 32), .ref (ad 33)]) h18 hts (fun w hw => List.mem_cons_of_mem _ (fW_Cv w hw)) hown (ci := 0) (C := "NonceBox$Curve") (T := fT_Cv) (N := 14) rfl 1 (by decide) (hts _ (List.mem_cons_of_mem _ kf_Cv_22)) rfl (v := .ref (ad 21)) rfl d_Cv_readKey_3 ?_
  refine lv_iconst (v := nI (0)) hx hb d_Cv_readKey_6 (by decide) ?_
  refine lv_bipush (v := nI (32)) hx hb d_Cv_readKey_7 (by decide) ?_
  refine wv_copyb hx hb (hml.trans hl.1.symm) h hown (hts _ (List.mem_cons_of_mem _ kl_Cv_94)) (hts _ (List.mem_cons_of_mem _ kn_Sy_arraycopy)) (hts _ (List.mem_cons_of_mem _ ks_Sy_arraycopy)) (hts _ (List.mem_cons_of_mem _ ki_Sy)) qk 21 hqk (by decide) (f := (bs K)) (g := (bs BY)) hk h21 (a := 0) (b := 0) (d := 32) rfl rfl rfl (by omega) (by omega) (by omega) (by decide) (fun i _ => bs_fit _ _) (by decide) (by decide) d_Cv_readKey_9 (fun H locs h => ?_)
  obtain ⟨ev1, o1⟩ : ∃ z, z = va_up ev 21 (eB G 32 (va_cpy (bs K) (bs BY) 0 0 32)) := ⟨_, rfl⟩
  rw [← o1] at h
  have t1_21 : ev1 21 = eB G 32 (va_cpy (bs K) (bs BY) 0 0 32) := by rw [o1, va_up_self]
  have t1_qk := (show ev1 qk = ev qk by rw [o1, va_up_ne _ _ k21]).trans hk
  have t1_18 := (show ev1 18 = ev 18 by rw [o1, va_up_ne _ _ (by decide)]).trans h18
  have h := wT_eqB (g := (bs K)) h 21 (by decide) t1_21 (fun j hj => by rw [pk_cpy_in (Nat.zero_le _) (by omega), Nat.zero_add, Nat.sub_zero])
  obtain ⟨ev2, o2⟩ : ∃ z, z = va_up ev1 21 (eB G 32 (bs K)) := ⟨_, rfl⟩
  rw [← o2] at h
  have t2_21 : ev2 21 = eB G 32 (bs K) := by rw [o2, va_up_self]
  have t2_qk := (show ev2 qk = ev1 qk by rw [o2, va_up_ne _ _ k21]).trans t1_qk
  have t2_18 := (show ev2 18 = ev1 18 by rw [o2, va_up_ne _ _ (by decide)]).trans t1_18
  refine lv_aload_n hx hb d_Cv_readKey_12 rfl (lv_at hl 0 rfl) ?_
  refine wv_getf hx hb h 18 (by decide) (fs := [.ref (ad 19), .ref (ad 21), .ref (ad 22), .ref (ad 23), .ref (ad 24), .ref (ad 25), .ref (ad 26), .ref (ad 27), .ref (ad 28), .ref (ad 29), .ref (ad 30), .ref (ad 31), .ref (ad 32), .ref (ad 33)]) t2_18 hts (fun w hw => List.mem_cons_of_mem _ (fW_Cv w hw)) hown (ci := 0) (C := "NonceBox$Curve") (T := fT_Cv) (N := 14) rfl 1 (by decide) (hts _ (List.mem_cons_of_mem _ kf_Cv_22)) rfl (v := .ref (ad 21)) rfl d_Cv_readKey_13 ?_
  refine lv_iconst (v := nI (0)) hx hb d_Cv_readKey_16 (by decide) ?_
  refine lv_dup2_11 hx hb d_Cv_readKey_17 rfl rfl ?_
  refine wv_bald hx hb h 21 (by decide) (f := (bs K)) t2_21 (k := 0) rfl (by decide) (by decide) d_Cv_readKey_18 ?_
  refine lv_sipush (v := (248 : Int32)) hx hb d_Cv_readKey_19 (by decide) ?_
  refine lv_iand hx hb d_Cv_readKey_22 ?_
  refine lv_i2b hx hb d_Cv_readKey_23 rfl ?_
  refine wv_bast hx hb h 21 (by decide) (f := (bs K)) t2_21 (k := 0) rfl (by decide) (by decide) d_Cv_readKey_24 (fun H locs h => ?_)
  obtain ⟨ev3, o3⟩ : ∃ z, z = va_up ev2 21 (eB G 32 (va_up ((bs K)) 0 (vp_nar .byte (((((bs K)) 0) &&& (248 : Int32)).toInt8.toInt32)))) := ⟨_, rfl⟩
  rw [← o3] at h
  have t3_21 : ev3 21 = eB G 32 (va_up ((bs K)) 0 (vp_nar .byte (((((bs K)) 0) &&& (248 : Int32)).toInt8.toInt32))) := by rw [o3, va_up_self]
  have t3_18 := (show ev3 18 = ev2 18 by rw [o3, va_up_ne _ _ (by decide)]).trans t2_18
  rw [bs_up K 0 (K 0 / 8 * 8) (show vp_nar .byte (bs K 0 &&& (248 : Int32)).toInt8.toInt32 = sb_b (K 0 / 8 * 8) from sb_m248 _ (hK 0))] at o3 t3_21
  refine lv_aload_n hx hb d_Cv_readKey_25 rfl (lv_at hl 0 rfl) ?_
  refine wv_getf hx hb h 18 (by decide) (fs := [.ref (ad 19), .ref (ad 21), .ref (ad 22), .ref (ad 23), .ref (ad 24), .ref (ad 25), .ref (ad 26), .ref (ad 27), .ref (ad 28), .ref (ad 29), .ref (ad 30), .ref (ad 31), .ref (ad 32), .ref (ad 33)]) t3_18 hts (fun w hw => List.mem_cons_of_mem _ (fW_Cv w hw)) hown (ci := 0) (C := "NonceBox$Curve") (T := fT_Cv) (N := 14) rfl 1 (by decide) (hts _ (List.mem_cons_of_mem _ kf_Cv_22)) rfl (v := .ref (ad 21)) rfl d_Cv_readKey_26 ?_
  refine lv_bipush (v := nI (31)) hx hb d_Cv_readKey_29 (by decide) ?_
  refine lv_dup2_11 hx hb d_Cv_readKey_31 rfl rfl ?_
  refine wv_bald hx hb h 21 (by decide) (f := (bs (va_up K 0 (K 0 / 8 * 8)))) t3_21 (k := 31) rfl (by decide) (by decide) d_Cv_readKey_32 ?_
  refine lv_bipush (v := (127 : Int32)) hx hb d_Cv_readKey_33 (by decide) ?_
  refine lv_iand hx hb d_Cv_readKey_35 ?_
  refine lv_i2b hx hb d_Cv_readKey_36 rfl ?_
  refine wv_bast hx hb h 21 (by decide) (f := (bs (va_up K 0 (K 0 / 8 * 8)))) t3_21 (k := 31) rfl (by decide) (by decide) d_Cv_readKey_37 (fun H locs h => ?_)
  obtain ⟨ev4, o4⟩ : ∃ z, z = va_up ev3 21 (eB G 32 (va_up ((bs (va_up K 0 (K 0 / 8 * 8)))) 31 (vp_nar .byte (((((bs (va_up K 0 (K 0 / 8 * 8)))) 31) &&& (127 : Int32)).toInt8.toInt32)))) := ⟨_, rfl⟩
  rw [← o4] at h
  have t4_21 : ev4 21 = eB G 32 (va_up ((bs (va_up K 0 (K 0 / 8 * 8)))) 31 (vp_nar .byte (((((bs (va_up K 0 (K 0 / 8 * 8)))) 31) &&& (127 : Int32)).toInt8.toInt32))) := by rw [o4, va_up_self]
  have t4_18 := (show ev4 18 = ev3 18 by rw [o4, va_up_ne _ _ (by decide)]).trans t3_18
  rw [bs_up (va_up K 0 (K 0 / 8 * 8)) 31 (K 31 % 128) (show vp_nar .byte (bs (va_up K 0 (K 0 / 8 * 8)) 31 &&& (127 : Int32)).toInt8.toInt32 = sb_b (K 31 % 128) from sb_m127 _ (hK 31))] at o4 t4_21
  refine lv_aload_n hx hb d_Cv_readKey_38 rfl (lv_at hl 0 rfl) ?_
  refine wv_getf hx hb h 18 (by decide) (fs := [.ref (ad 19), .ref (ad 21), .ref (ad 22), .ref (ad 23), .ref (ad 24), .ref (ad 25), .ref (ad 26), .ref (ad 27), .ref (ad 28), .ref (ad 29), .ref (ad 30), .ref (ad 31), .ref (ad 32), .ref (ad 33)]) t4_18 hts (fun w hw => List.mem_cons_of_mem _ (fW_Cv w hw)) hown (ci := 0) (C := "NonceBox$Curve") (T := fT_Cv) (N := 14) rfl 1 (by decide) (hts _ (List.mem_cons_of_mem _ kf_Cv_22)) rfl (v := .ref (ad 21)) rfl d_Cv_readKey_39 ?_
  refine lv_bipush (v := nI (31)) hx hb d_Cv_readKey_42 (by decide) ?_
  refine lv_dup2_11 hx hb d_Cv_readKey_44 rfl rfl ?_
  refine wv_bald hx hb h 21 (by decide) (f := (bs (va_up (va_up K 0 (K 0 / 8 * 8)) 31 (K 31 % 128)))) t4_21 (k := 31) rfl (by decide) (by decide) d_Cv_readKey_45 ?_
  refine lv_bipush (v := (64 : Int32)) hx hb d_Cv_readKey_46 (by decide) ?_
  refine lv_ior hx hb d_Cv_readKey_48 ?_
  refine lv_i2b hx hb d_Cv_readKey_49 rfl ?_
  refine wv_bast hx hb h 21 (by decide) (f := (bs (va_up (va_up K 0 (K 0 / 8 * 8)) 31 (K 31 % 128)))) t4_21 (k := 31) rfl (by decide) (by decide) d_Cv_readKey_50 (fun H locs h => ?_)
  obtain ⟨ev5, o5⟩ : ∃ z, z = va_up ev4 21 (eB G 32 (va_up ((bs (va_up (va_up K 0 (K 0 / 8 * 8)) 31 (K 31 % 128)))) 31 (vp_nar .byte (((((bs (va_up (va_up K 0 (K 0 / 8 * 8)) 31 (K 31 % 128)))) 31) ||| (64 : Int32)).toInt8.toInt32)))) := ⟨_, rfl⟩
  rw [← o5] at h
  have t5_21 : ev5 21 = eB G 32 (va_up ((bs (va_up (va_up K 0 (K 0 / 8 * 8)) 31 (K 31 % 128)))) 31 (vp_nar .byte (((((bs (va_up (va_up K 0 (K 0 / 8 * 8)) 31 (K 31 % 128)))) 31) ||| (64 : Int32)).toInt8.toInt32))) := by rw [o5, va_up_self]
  have t5_18 := (show ev5 18 = ev4 18 by rw [o5, va_up_ne _ _ (by decide)]).trans t4_18
  rw [bs_up (va_up (va_up K 0 (K 0 / 8 * 8)) 31 (K 31 % 128)) 31 (K 31 % 64 + 64) (show vp_nar .byte (bs (va_up (va_up K 0 (K 0 / 8 * 8)) 31 (K 31 % 128)) 31 ||| (64 : Int32)).toInt8.toInt32 = sb_b (K 31 % 64 + 64) from (sb_o64 (K 31 % 128) (by omega)).trans (by rw [show K 31 % 128 % 64 = K 31 % 64 by omega]))] at o5 t5_21
  refine wv_vret hx hb hr hlocks h d_Cv_readKey_51 ⟨rfl, ?_⟩
  rw [o5, o4, o3, o2, o1, va_up2, va_up2, va_up2, va_up2]
  congr 3
  funext j
  simp only [va_up, KEYB]
  by_cases c0 : j = 0
  · subst c0; simp
  by_cases c1 : j = 31
  · subst c1; simp
  simp only [c0, c1, if_false]
theorem d_Cv_begin_0 : decode c_Cv_begin 0 = .ok (.aload_n 1, 1) := by decide +kernel
theorem d_Cv_begin_1 : decode c_Cv_begin 1 = .ok (.iconst 0, 1) := by decide +kernel
theorem d_Cv_begin_2 : decode c_Cv_begin 2 = .ok (.aload_n 0, 1) := by decide +kernel
theorem d_Cv_begin_3 : decode c_Cv_begin 3 = .ok (.getfield 22, 3) := by decide +kernel
theorem d_Cv_begin_6 : decode c_Cv_begin 6 = .ok (.iconst 0, 1) := by decide +kernel
theorem d_Cv_begin_7 : decode c_Cv_begin 7 = .ok (.bipush 32, 2) := by decide +kernel
theorem d_Cv_begin_9 : decode c_Cv_begin 9 = .ok (.invokestatic 94, 3) := by decide +kernel
theorem d_Cv_begin_12 : decode c_Cv_begin 12 = .ok (.aload_n 0, 1) := by decide +kernel
theorem d_Cv_begin_13 : decode c_Cv_begin 13 = .ok (.getfield 22, 3) := by decide +kernel
theorem d_Cv_begin_16 : decode c_Cv_begin 16 = .ok (.bipush 31, 2) := by decide +kernel
theorem d_Cv_begin_18 : decode c_Cv_begin 18 = .ok (.dup2, 1) := by decide +kernel
theorem d_Cv_begin_19 : decode c_Cv_begin 19 = .ok (.baload, 1) := by decide +kernel
theorem d_Cv_begin_20 : decode c_Cv_begin 20 = .ok (.bipush 127, 2) := by decide +kernel
theorem d_Cv_begin_22 : decode c_Cv_begin 22 = .ok (.iand, 1) := by decide +kernel
theorem d_Cv_begin_23 : decode c_Cv_begin 23 = .ok (.i2b, 1) := by decide +kernel
theorem d_Cv_begin_24 : decode c_Cv_begin 24 = .ok (.bastore, 1) := by decide +kernel
theorem d_Cv_begin_25 : decode c_Cv_begin 25 = .ok (.aload_n 0, 1) := by decide +kernel
theorem d_Cv_begin_26 : decode c_Cv_begin 26 = .ok (.getfield 16, 3) := by decide +kernel
theorem d_Cv_begin_29 : decode c_Cv_begin 29 = .ok (.aload_n 0, 1) := by decide +kernel
theorem d_Cv_begin_30 : decode c_Cv_begin 30 = .ok (.getfield 43, 3) := by decide +kernel
theorem d_Cv_begin_33 : decode c_Cv_begin 33 = .ok (.iconst 0, 1) := by decide +kernel
theorem d_Cv_begin_34 : decode c_Cv_begin 34 = .ok (.invokevirtual 100, 3) := by decide +kernel
theorem d_Cv_begin_37 : decode c_Cv_begin 37 = .ok (.aload_n 0, 1) := by decide +kernel
theorem d_Cv_begin_38 : decode c_Cv_begin 38 = .ok (.getfield 16, 3) := by decide +kernel
theorem d_Cv_begin_41 : decode c_Cv_begin 41 = .ok (.aload_n 0, 1) := by decide +kernel
theorem d_Cv_begin_42 : decode c_Cv_begin 42 = .ok (.getfield 22, 3) := by decide +kernel
theorem d_Cv_begin_45 : decode c_Cv_begin 45 = .ok (.iconst 0, 1) := by decide +kernel
theorem d_Cv_begin_46 : decode c_Cv_begin 46 = .ok (.bipush 32, 2) := by decide +kernel
theorem d_Cv_begin_48 : decode c_Cv_begin 48 = .ok (.aload_n 0, 1) := by decide +kernel
theorem d_Cv_begin_49 : decode c_Cv_begin 49 = .ok (.getfield 43, 3) := by decide +kernel
theorem d_Cv_begin_52 : decode c_Cv_begin 52 = .ok (.invokevirtual 104, 3) := by decide +kernel
theorem d_Cv_begin_55 : decode c_Cv_begin 55 = .ok (.aload_n 0, 1) := by decide +kernel
theorem d_Cv_begin_56 : decode c_Cv_begin 56 = .ok (.getfield 16, 3) := by decide +kernel
theorem d_Cv_begin_59 : decode c_Cv_begin 59 = .ok (.aload_n 0, 1) := by decide +kernel
theorem d_Cv_begin_60 : decode c_Cv_begin 60 = .ok (.getfield 30, 3) := by decide +kernel
theorem d_Cv_begin_63 : decode c_Cv_begin 63 = .ok (.iconst 1, 1) := by decide +kernel
theorem d_Cv_begin_64 : decode c_Cv_begin 64 = .ok (.invokevirtual 100, 3) := by decide +kernel
theorem d_Cv_begin_67 : decode c_Cv_begin 67 = .ok (.aload_n 0, 1) := by decide +kernel
theorem d_Cv_begin_68 : decode c_Cv_begin 68 = .ok (.getfield 16, 3) := by decide +kernel
theorem d_Cv_begin_71 : decode c_Cv_begin 71 = .ok (.aload_n 0, 1) := by decide +kernel
theorem d_Cv_begin_72 : decode c_Cv_begin 72 = .ok (.getfield 34, 3) := by decide +kernel
theorem d_Cv_begin_75 : decode c_Cv_begin 75 = .ok (.iconst 0, 1) := by decide +kernel
theorem d_Cv_begin_76 : decode c_Cv_begin 76 = .ok (.invokevirtual 100, 3) := by decide +kernel
theorem d_Cv_begin_79 : decode c_Cv_begin 79 = .ok (.aload_n 0, 1) := by decide +kernel
theorem d_Cv_begin_80 : decode c_Cv_begin 80 = .ok (.getfield 16, 3) := by decide +kernel
theorem d_Cv_begin_83 : decode c_Cv_begin 83 = .ok (.aload_n 0, 1) := by decide +kernel
theorem d_Cv_begin_84 : decode c_Cv_begin 84 = .ok (.getfield 43, 3) := by decide +kernel
theorem d_Cv_begin_87 : decode c_Cv_begin 87 = .ok (.aload_n 0, 1) := by decide +kernel
theorem d_Cv_begin_88 : decode c_Cv_begin 88 = .ok (.getfield 37, 3) := by decide +kernel
theorem d_Cv_begin_91 : decode c_Cv_begin 91 = .ok (.invokevirtual 108, 3) := by decide +kernel
theorem d_Cv_begin_94 : decode c_Cv_begin 94 = .ok (.aload_n 0, 1) := by decide +kernel
theorem d_Cv_begin_95 : decode c_Cv_begin 95 = .ok (.getfield 16, 3) := by decide +kernel
theorem d_Cv_begin_98 : decode c_Cv_begin 98 = .ok (.aload_n 0, 1) := by decide +kernel
theorem d_Cv_begin_99 : decode c_Cv_begin 99 = .ok (.getfield 40, 3) := by decide +kernel
theorem d_Cv_begin_102 : decode c_Cv_begin 102 = .ok (.iconst 1, 1) := by decide +kernel
theorem d_Cv_begin_103 : decode c_Cv_begin 103 = .ok (.invokevirtual 100, 3) := by decide +kernel
theorem d_Cv_begin_106 : decode c_Cv_begin 106 = .ok (.return_, 1) := by decide +kernel
set_option maxRecDepth 100000 in
set_option maxHeartbeats 4000000 in
/-- the four rows at the start -/
theorem m_Cv_begin (l : Launch) (G : wG) (A : Nat → Prop) (ad : Nat → Nat) (ev : Nat → va_E) (qp Np : Nat) (X BY : Nat → Nat) (r22 r23 r24 r25 r26 : Row) (h18 : ev 18 = eO 0 [.ref (ad 19), .ref (ad 21), .ref (ad 22), .ref (ad 23), .ref (ad 24), .ref (ad 25), .ref (ad 26), .ref (ad 27), .ref (ad 28), .ref (ad 29), .ref (ad 30), .ref (ad 31), .ref (ad 32), .ref (ad 33)]) (h19 : ev 19 = eO 1 [.int (nI 10), .int (nI 21), .long 19, .long 608, .ref (ad 20)]) (hqp : qp < 52) (hp' : ev qp = eB G Np (bs X)) (hX : ∀ j, X j < 256) (h21 : ev 21 = eB G 32 (bs BY)) (h22 : ev 22 = eJ G 10 r22) (h23 : ev 23 = eJ G 10 r23) (h24 : ev 24 = eJ G 10 r24) (h25 : ev 25 = eJ G 10 r25) (h26 : ev 26 = eJ G 10 r26) (np : 32 ≤ Np) (np2 : Np < 2 ^ 30) (p21 : qp ≠ 21) : wM l y_Cv_begin w_Cv_begin ({ frames := 9, cells := 0, slots := 0, locals := 300 }) G A 52 ad ev [.ref (ad 18), .ref (ad qp)] (fun ov ev' => ov = none ∧ ev' = (va_up (va_up (va_up (va_up (va_up (va_up ev 21 (eB G 32 (bs (PNTB X)))) 26 (eJ G 10 (uRow X))) 22 (eJ G 10 (rowV 1))) 23 (eJ G 10 (rowV 0))) 24 (eJ G 10 (uRow X))) 25 (eJ G 10 (rowV 1)))) := by
  refine wv_ofW (cc := c_Cv_begin) (maxL := 2) (ret := none) (by decide) rfl (Nat.le_of_ble_eq_true rfl) ?_
  intro p e s m below meth c ls hx hb hr hml hts hown hlocks hini h hl
  have hl : lv_has ls 2 [(0, .ref (ad 18)), (1, .ref (ad qp))] := hl
  refine lv_aload_n hx hb d_Cv_begin_0 rfl (lv_at hl 1 rfl) ?_
  refine lv_iconst (v := nI (0)) hx hb d_Cv_begin_1 (by decide) ?_
  refine lv_aload_n hx hb d_Cv_begin_2 rfl (lv_at hl 0 rfl) ?_
  refine wv_getf hx hb h 18 (by decide) (fs := [.ref (ad 19), .ref (ad 21), .ref (ad 22), .ref (ad 23), .ref (ad 24), .ref (ad 25), .ref (ad 26), .ref (ad 27), .ref (ad 28), .ref (ad 29), .ref (ad 30), .ref (ad 31), .ref (ad 32), .ref (ad 33)]) h18 hts (fun w hw => List.mem_cons_of_mem _ (fW_Cv w hw)) hown (ci := 0) (C := "NonceBox$Curve") (T := fT_Cv) (N := 14) rfl 1 (by decide) (hts _ (List.mem_cons_of_mem _ kf_Cv_22)) rfl (v := .ref (ad 21)) rfl d_Cv_begin_3 ?_
  refine lv_iconst (v := nI (0)) hx hb d_Cv_begin_6 (by decide) ?_
  refine lv_bipush (v := nI (32)) hx hb d_Cv_begin_7 (by decide) ?_
  refine wv_copyb hx hb (hml.trans hl.1.symm) h hown (hts _ (List.mem_cons_of_mem _ kl_Cv_94)) (hts _ (List.mem_cons_of_mem _ kn_Sy_arraycopy)) (hts _ (List.mem_cons_of_mem _ ks_Sy_arraycopy)) (hts _ (List.mem_cons_of_mem _ ki_Sy)) qp 21 hqp (by decide) (f := (bs X)) (g := (bs BY)) hp' h21 (a := 0) (b := 0) (d := 32) rfl rfl rfl (by omega) (by omega) (by omega) (by decide) (fun i _ => bs_fit _ _) (by decide) (by decide) d_Cv_begin_9 (fun H locs h => ?_)
  obtain ⟨ev1, o1⟩ : ∃ z, z = va_up ev 21 (eB G 32 (va_cpy (bs X) (bs BY) 0 0 32)) := ⟨_, rfl⟩
  rw [← o1] at h
  have t1_21 : ev1 21 = eB G 32 (va_cpy (bs X) (bs BY) 0 0 32) := by rw [o1, va_up_self]
  have t1_qp := (show ev1 qp = ev qp by rw [o1, va_up_ne _ _ p21]).trans hp'
  have t1_22 := (show ev1 22 = ev 22 by rw [o1, va_up_ne _ _ (by decide)]).trans h22
  have t1_23 := (show ev1 23 = ev 23 by rw [o1, va_up_ne _ _ (by decide)]).trans h23
  have t1_24 := (show ev1 24 = ev 24 by rw [o1, va_up_ne _ _ (by decide)]).trans h24
  have t1_25 := (show ev1 25 = ev 25 by rw [o1, va_up_ne _ _ (by decide)]).trans h25
  have t1_26 := (show ev1 26 = ev 26 by rw [o1, va_up_ne _ _ (by decide)]).trans h26
  have t1_18 := (show ev1 18 = ev 18 by rw [o1, va_up_ne _ _ (by decide)]).trans h18
  have t1_19 := (show ev1 19 = ev 19 by rw [o1, va_up_ne _ _ (by decide)]).trans h19
  have h := wT_eqB (g := (bs X)) h 21 (by decide) t1_21 (fun j hj => by rw [pk_cpy_in (Nat.zero_le _) (by omega), Nat.zero_add, Nat.sub_zero])
  obtain ⟨ev2, o2⟩ : ∃ z, z = va_up ev1 21 (eB G 32 (bs X)) := ⟨_, rfl⟩
  rw [← o2] at h
  have t2_21 : ev2 21 = eB G 32 (bs X) := by rw [o2, va_up_self]
  have t2_qp := (show ev2 qp = ev1 qp by rw [o2, va_up_ne _ _ p21]).trans t1_qp
  have t2_22 := (show ev2 22 = ev1 22 by rw [o2, va_up_ne _ _ (by decide)]).trans t1_22
  have t2_23 := (show ev2 23 = ev1 23 by rw [o2, va_up_ne _ _ (by decide)]).trans t1_23
  have t2_24 := (show ev2 24 = ev1 24 by rw [o2, va_up_ne _ _ (by decide)]).trans t1_24
  have t2_25 := (show ev2 25 = ev1 25 by rw [o2, va_up_ne _ _ (by decide)]).trans t1_25
  have t2_26 := (show ev2 26 = ev1 26 by rw [o2, va_up_ne _ _ (by decide)]).trans t1_26
  have t2_18 := (show ev2 18 = ev1 18 by rw [o2, va_up_ne _ _ (by decide)]).trans t1_18
  have t2_19 := (show ev2 19 = ev1 19 by rw [o2, va_up_ne _ _ (by decide)]).trans t1_19
  refine lv_aload_n hx hb d_Cv_begin_12 rfl (lv_at hl 0 rfl) ?_
  refine wv_getf hx hb h 18 (by decide) (fs := [.ref (ad 19), .ref (ad 21), .ref (ad 22), .ref (ad 23), .ref (ad 24), .ref (ad 25), .ref (ad 26), .ref (ad 27), .ref (ad 28), .ref (ad 29), .ref (ad 30), .ref (ad 31), .ref (ad 32), .ref (ad 33)]) t2_18 hts (fun w hw => List.mem_cons_of_mem _ (fW_Cv w hw)) hown (ci := 0) (C := "NonceBox$Curve") (T := fT_Cv) (N := 14) rfl 1 (by decide) (hts _ (List.mem_cons_of_mem _ kf_Cv_22)) rfl (v := .ref (ad 21)) rfl d_Cv_begin_13 ?_
  refine lv_bipush (v := nI (31)) hx hb d_Cv_begin_16 (by decide) ?_
  refine lv_dup2_11 hx hb d_Cv_begin_18 rfl rfl ?_
  refine wv_bald hx hb h 21 (by decide) (f := (bs X)) t2_21 (k := 31) rfl (by decide) (by decide) d_Cv_begin_19 ?_
  refine lv_bipush (v := (127 : Int32)) hx hb d_Cv_begin_20 (by decide) ?_
  refine lv_iand hx hb d_Cv_begin_22 ?_
  refine lv_i2b hx hb d_Cv_begin_23 rfl ?_
  refine wv_bast hx hb h 21 (by decide) (f := (bs X)) t2_21 (k := 31) rfl (by decide) (by decide) d_Cv_begin_24 (fun H locs h => ?_)
  obtain ⟨ev3, o3⟩ : ∃ z, z = va_up ev2 21 (eB G 32 (va_up ((bs X)) 31 (vp_nar .byte (((((bs X)) 31) &&& (127 : Int32)).toInt8.toInt32)))) := ⟨_, rfl⟩
  rw [← o3] at h
  have t3_21 : ev3 21 = eB G 32 (va_up ((bs X)) 31 (vp_nar .byte (((((bs X)) 31) &&& (127 : Int32)).toInt8.toInt32))) := by rw [o3, va_up_self]
  have t3_22 := (show ev3 22 = ev2 22 by rw [o3, va_up_ne _ _ (by decide)]).trans t2_22
  have t3_23 := (show ev3 23 = ev2 23 by rw [o3, va_up_ne _ _ (by decide)]).trans t2_23
  have t3_24 := (show ev3 24 = ev2 24 by rw [o3, va_up_ne _ _ (by decide)]).trans t2_24
  have t3_25 := (show ev3 25 = ev2 25 by rw [o3, va_up_ne _ _ (by decide)]).trans t2_25
  have t3_26 := (show ev3 26 = ev2 26 by rw [o3, va_up_ne _ _ (by decide)]).trans t2_26
  have t3_18 := (show ev3 18 = ev2 18 by rw [o3, va_up_ne _ _ (by decide)]).trans t2_18
  have t3_19 := (show ev3 19 = ev2 19 by rw [o3, va_up_ne _ _ (by decide)]).trans t2_19
  rw [bs_up X 31 (X 31 % 128) (show vp_nar .byte (bs X 31 &&& (127 : Int32)).toInt8.toInt32 = sb_b (X 31 % 128) from sb_m127 _ (hX 31))] at o3 t3_21
  rw [show va_up X 31 (X 31 % 128) = PNTB X from by
      funext j
      unfold va_up PNTB
      by_cases c0 : j = 31
      · subst c0; simp
      · simp only [c0, if_false]] at o3 t3_21
  refine lv_aload_n hx hb d_Cv_begin_25 rfl (lv_at hl 0 rfl) ?_
  refine wv_getf hx hb h 18 (by decide) (fs := [.ref (ad 19), .ref (ad 21), .ref (ad 22), .ref (ad 23), .ref (ad 24), .ref (ad 25), .ref (ad 26), .ref (ad 27), .ref (ad 28), .ref (ad 29), .ref (ad 30), .ref (ad 31), .ref (ad 32), .ref (ad 33)]) t3_18 hts (fun w hw => List.mem_cons_of_mem _ (fW_Cv w hw)) hown (ci := 0) (C := "NonceBox$Curve") (T := fT_Cv) (N := 14) rfl 0 (by decide) (hts _ (List.mem_cons_of_mem _ kf_Cv_16)) rfl (v := .ref (ad 19)) rfl d_Cv_begin_26 ?_
  refine lv_aload_n hx hb d_Cv_begin_29 rfl (lv_at hl 0 rfl) ?_
  refine wv_getf hx hb h 18 (by decide) (fs := [.ref (ad 19), .ref (ad 21), .ref (ad 22), .ref (ad 23), .ref (ad 24), .ref (ad 25), .ref (ad 26), .ref (ad 27), .ref (ad 28), .ref (ad 29), .ref (ad 30), .ref (ad 31), .ref (ad 32), .ref (ad 33)]) t3_18 hts (fun w hw => List.mem_cons_of_mem _ (fW_Cv w hw)) hown (ci := 0) (C := "NonceBox$Curve") (T := fT_Cv) (N := 14) rfl 6 (by decide) (hts _ (List.mem_cons_of_mem _ kf_Cv_43)) rfl (v := .ref (ad 26)) rfl d_Cv_begin_30 ?_
  refine lv_iconst (v := nI (0)) hx hb d_Cv_begin_33 (by decide) ?_
  refine wv_V (As := [.ref (ad 26), .int (nI (0))]) (rest := []) (k := 2) ⟨hx, hb, hml, hown, hts⟩ h 19 (by decide) (C := "NonceBox$Field") t3_19 rfl (m_Fd_setTo l G A ad ev3 19 26 10 r26 (nI 0) (by decide) t3_26 (by decide) (by decide)) kc_Fd_setTo kl_Cv_100 km_Fd_setTo kv_Fd_setTo ki_Fd (by decide +kernel) ⟨rfl, rfl, Nat.le_of_ble_eq_true rfl, Nat.le_of_ble_eq_true rfl⟩ hl.1 rfl rfl (Nat.le_of_ble_eq_true rfl) ⟨Nat.le_refl _, Nat.le_refl _⟩ d_Cv_begin_34 ?_
  intro ov ev4 H locs hp h
  rw [hp.1]
  refine W.eq (g2 := F0 m 37 ls []) rfl ?_
  have o4 : ev4 = (va_up ev3 26 (eJ G 10 (rowV 0))) := hp.2
  have t4_26 : ev4 26 = eJ G 10 (rowV 0) := by rw [o4, va_up_self]
  have t4_21 := (show ev4 21 = ev3 21 by rw [o4, va_up_ne _ _ (by decide)]).trans t3_21
  have t4_22 := (show ev4 22 = ev3 22 by rw [o4, va_up_ne _ _ (by decide)]).trans t3_22
  have t4_23 := (show ev4 23 = ev3 23 by rw [o4, va_up_ne _ _ (by decide)]).trans t3_23
  have t4_24 := (show ev4 24 = ev3 24 by rw [o4, va_up_ne _ _ (by decide)]).trans t3_24
  have t4_25 := (show ev4 25 = ev3 25 by rw [o4, va_up_ne _ _ (by decide)]).trans t3_25
  have t4_18 := (show ev4 18 = ev3 18 by rw [o4, va_up_ne _ _ (by decide)]).trans t3_18
  have t4_19 := (show ev4 19 = ev3 19 by rw [o4, va_up_ne _ _ (by decide)]).trans t3_19
  refine lv_aload_n hx hb d_Cv_begin_37 rfl (lv_at hl 0 rfl) ?_
  refine wv_getf hx hb h 18 (by decide) (fs := [.ref (ad 19), .ref (ad 21), .ref (ad 22), .ref (ad 23), .ref (ad 24), .ref (ad 25), .ref (ad 26), .ref (ad 27), .ref (ad 28), .ref (ad 29), .ref (ad 30), .ref (ad 31), .ref (ad 32), .ref (ad 33)]) t4_18 hts (fun w hw => List.mem_cons_of_mem _ (fW_Cv w hw)) hown (ci := 0) (C := "NonceBox$Curve") (T := fT_Cv) (N := 14) rfl 0 (by decide) (hts _ (List.mem_cons_of_mem _ kf_Cv_16)) rfl (v := .ref (ad 19)) rfl d_Cv_begin_38 ?_
  refine lv_aload_n hx hb d_Cv_begin_41 rfl (lv_at hl 0 rfl) ?_
  refine wv_getf hx hb h 18 (by decide) (fs := [.ref (ad 19), .ref (ad 21), .ref (ad 22), .ref (ad 23), .ref (ad 24), .ref (ad 25), .ref (ad 26), .ref (ad 27), .ref (ad 28), .ref (ad 29), .ref (ad 30), .ref (ad 31), .ref (ad 32), .ref (ad 33)]) t4_18 hts (fun w hw => List.mem_cons_of_mem _ (fW_Cv w hw)) hown (ci := 0) (C := "NonceBox$Curve") (T := fT_Cv) (N := 14) rfl 1 (by decide) (hts _ (List.mem_cons_of_mem _ kf_Cv_22)) rfl (v := .ref (ad 21)) rfl d_Cv_begin_42 ?_
  refine lv_iconst (v := nI (0)) hx hb d_Cv_begin_45 (by decide) ?_
  refine lv_bipush (v := nI (32)) hx hb d_Cv_begin_46 (by decide) ?_
  refine lv_aload_n hx hb d_Cv_begin_48 rfl (lv_at hl 0 rfl) ?_
  refine wv_getf hx hb h 18 (by decide) (fs := [.ref (ad 19), .ref (ad 21), .ref (ad 22), .ref (ad 23), .ref (ad 24), .ref (ad 25), .ref (ad 26), .ref (ad 27), .ref (ad 28), .ref (ad 29), .ref (ad 30), .ref (ad 31), .ref (ad 32), .ref (ad 33)]) t4_18 hts (fun w hw => List.mem_cons_of_mem _ (fW_Cv w hw)) hown (ci := 0) (C := "NonceBox$Curve") (T := fT_Cv) (N := 14) rfl 6 (by decide) (hts _ (List.mem_cons_of_mem _ kf_Cv_43)) rfl (v := .ref (ad 26)) rfl d_Cv_begin_49 ?_
  refine wv_V (As := [.ref (ad 21), .int (nI (0)), .int (nI (32)), .ref (ad 26)]) (rest := []) (k := 4) ⟨hx, hb, hml, hown, hts⟩ h 19 (by decide) (C := "NonceBox$Field") t4_19 rfl (m_Fd_addBytes l G A ad ev4 19 0 _ (by decide) t4_19 21 26 10 32 0 32 (PNTB X) (rowV 0) (by decide) (by decide) t4_21 (PNTB_lt hX) t4_26 (by decide) (by decide) (by decide) (by decide) (by decide) (by decide) (by decide) (by decide)) kc_Fd_addBytes kl_Cv_104 km_Fd_addBytes kv_Fd_addBytes ki_Fd (by decide +kernel) ⟨rfl, rfl, Nat.le_of_ble_eq_true rfl, Nat.le_of_ble_eq_true rfl⟩ hl.1 rfl rfl (Nat.le_of_ble_eq_true rfl) ⟨Nat.le_refl _, Nat.le_refl _⟩ d_Cv_begin_52 ?_
  intro ov ev5 H locs hp h
  rw [hp.1]
  refine W.eq (g2 := F0 m 55 ls []) rfl ?_
  have o5 : ev5 = (va_up ev4 26 (eJ G 10 (uRow X))) := hp.2
  have t5_26 : ev5 26 = eJ G 10 (uRow X) := by rw [o5, va_up_self]
  have t5_21 := (show ev5 21 = ev4 21 by rw [o5, va_up_ne _ _ (by decide)]).trans t4_21
  have t5_22 := (show ev5 22 = ev4 22 by rw [o5, va_up_ne _ _ (by decide)]).trans t4_22
  have t5_23 := (show ev5 23 = ev4 23 by rw [o5, va_up_ne _ _ (by decide)]).trans t4_23
  have t5_24 := (show ev5 24 = ev4 24 by rw [o5, va_up_ne _ _ (by decide)]).trans t4_24
  have t5_25 := (show ev5 25 = ev4 25 by rw [o5, va_up_ne _ _ (by decide)]).trans t4_25
  have t5_18 := (show ev5 18 = ev4 18 by rw [o5, va_up_ne _ _ (by decide)]).trans t4_18
  have t5_19 := (show ev5 19 = ev4 19 by rw [o5, va_up_ne _ _ (by decide)]).trans t4_19
  refine lv_aload_n hx hb d_Cv_begin_55 rfl (lv_at hl 0 rfl) ?_
  refine wv_getf hx hb h 18 (by decide) (fs := [.ref (ad 19), .ref (ad 21), .ref (ad 22), .ref (ad 23), .ref (ad 24), .ref (ad 25), .ref (ad 26), .ref (ad 27), .ref (ad 28), .ref (ad 29), .ref (ad 30), .ref (ad 31), .ref (ad 32), .ref (ad 33)]) t5_18 hts (fun w hw => List.mem_cons_of_mem _ (fW_Cv w hw)) hown (ci := 0) (C := "NonceBox$Curve") (T := fT_Cv) (N := 14) rfl 0 (by decide) (hts _ (List.mem_cons_of_mem _ kf_Cv_16)) rfl (v := .ref (ad 19)) rfl d_Cv_begin_56 ?_
  refine lv_aload_n hx hb d_Cv_begin_59 rfl (lv_at hl 0 rfl) ?_
  refine wv_getf hx hb h 18 (by decide) (fs := [.ref (ad 19), .ref (ad 21), .ref (ad 22), .ref (ad 23), .ref (ad 24), .ref (ad 25), .ref (ad 26), .ref (ad 27), .ref (ad 28), .ref (ad 29), .ref (ad 30), .ref (ad 31), .ref (ad 32), .ref (ad 33)]) t5_18 hts (fun w hw => List.mem_cons_of_mem _ (fW_Cv w hw)) hown (ci := 0) (C := "NonceBox$Curve") (T := fT_Cv) (N := 14) rfl 2 (by decide) (hts _ (List.mem_cons_of_mem _ kf_Cv_30)) rfl (v := .ref (ad 22)) rfl d_Cv_begin_60 ?_
  refine lv_iconst (v := nI (1)) hx hb d_Cv_begin_63 (by decide) ?_
  refine wv_V (As := [.ref (ad 22), .int (nI (1))]) (rest := []) (k := 2) ⟨hx, hb, hml, hown, hts⟩ h 19 (by decide) (C := "NonceBox$Field") t5_19 rfl (m_Fd_setTo l G A ad ev5 19 22 10 r22 (nI 1) (by decide) t5_22 (by decide) (by decide)) kc_Fd_setTo kl_Cv_100 km_Fd_setTo kv_Fd_setTo ki_Fd (by decide +kernel) ⟨rfl, rfl, Nat.le_of_ble_eq_true rfl, Nat.le_of_ble_eq_true rfl⟩ hl.1 rfl rfl (Nat.le_of_ble_eq_true rfl) ⟨Nat.le_refl _, Nat.le_refl _⟩ d_Cv_begin_64 ?_
  intro ov ev6 H locs hp h
  rw [hp.1]
  refine W.eq (g2 := F0 m 67 ls []) rfl ?_
  have o6 : ev6 = (va_up ev5 22 (eJ G 10 (rowV 1))) := hp.2
  have t6_22 : ev6 22 = eJ G 10 (rowV 1) := by rw [o6, va_up_self]
  have t6_21 := (show ev6 21 = ev5 21 by rw [o6, va_up_ne _ _ (by decide)]).trans t5_21
  have t6_23 := (show ev6 23 = ev5 23 by rw [o6, va_up_ne _ _ (by decide)]).trans t5_23
  have t6_24 := (show ev6 24 = ev5 24 by rw [o6, va_up_ne _ _ (by decide)]).trans t5_24
  have t6_25 := (show ev6 25 = ev5 25 by rw [o6, va_up_ne _ _ (by decide)]).trans t5_25
  have t6_26 := (show ev6 26 = ev5 26 by rw [o6, va_up_ne _ _ (by decide)]).trans t5_26
  have t6_18 := (show ev6 18 = ev5 18 by rw [o6, va_up_ne _ _ (by decide)]).trans t5_18
  have t6_19 := (show ev6 19 = ev5 19 by rw [o6, va_up_ne _ _ (by decide)]).trans t5_19
  refine lv_aload_n hx hb d_Cv_begin_67 rfl (lv_at hl 0 rfl) ?_
  refine wv_getf hx hb h 18 (by decide) (fs := [.ref (ad 19), .ref (ad 21), .ref (ad 22), .ref (ad 23), .ref (ad 24), .ref (ad 25), .ref (ad 26), .ref (ad 27), .ref (ad 28), .ref (ad 29), .ref (ad 30), .ref (ad 31), .ref (ad 32), .ref (ad 33)]) t6_18 hts (fun w hw => List.mem_cons_of_mem _ (fW_Cv w hw)) hown (ci := 0) (C := "NonceBox$Curve") (T := fT_Cv) (N := 14) rfl 0 (by decide) (hts _ (List.mem_cons_of_mem _ kf_Cv_16)) rfl (v := .ref (ad 19)) rfl d_Cv_begin_68 ?_
  refine lv_aload_n hx hb d_Cv_begin_71 rfl (lv_at hl 0 rfl) ?_
  refine wv_getf hx hb h 18 (by decide) (fs := [.ref (ad 19), .ref (ad 21), .ref (ad 22), .ref (ad 23), .ref (ad 24), .ref (ad 25), .ref (ad 26), .ref (ad 27), .ref (ad 28), .ref (ad 29), .ref (ad 30), .ref (ad 31), .ref (ad 32), .ref (ad 33)]) t6_18 hts (fun w hw => List.mem_cons_of_mem _ (fW_Cv w hw)) hown (ci := 0) (C := "NonceBox$Curve") (T := fT_Cv) (N := 14) rfl 3 (by decide) (hts _ (List.mem_cons_of_mem _ kf_Cv_34)) rfl (v := .ref (ad 23)) rfl d_Cv_begin_72 ?_
  refine lv_iconst (v := nI (0)) hx hb d_Cv_begin_75 (by decide) ?_
  refine wv_V (As := [.ref (ad 23), .int (nI (0))]) (rest := []) (k := 2) ⟨hx, hb, hml, hown, hts⟩ h 19 (by decide) (C := "NonceBox$Field") t6_19 rfl (m_Fd_setTo l G A ad ev6 19 23 10 r23 (nI 0) (by decide) t6_23 (by decide) (by decide)) kc_Fd_setTo kl_Cv_100 km_Fd_setTo kv_Fd_setTo ki_Fd (by decide +kernel) ⟨rfl, rfl, Nat.le_of_ble_eq_true rfl, Nat.le_of_ble_eq_true rfl⟩ hl.1 rfl rfl (Nat.le_of_ble_eq_true rfl) ⟨Nat.le_refl _, Nat.le_refl _⟩ d_Cv_begin_76 ?_
  intro ov ev7 H locs hp h
  rw [hp.1]
  refine W.eq (g2 := F0 m 79 ls []) rfl ?_
  have o7 : ev7 = (va_up ev6 23 (eJ G 10 (rowV 0))) := hp.2
  have t7_23 : ev7 23 = eJ G 10 (rowV 0) := by rw [o7, va_up_self]
  have t7_21 := (show ev7 21 = ev6 21 by rw [o7, va_up_ne _ _ (by decide)]).trans t6_21
  have t7_22 := (show ev7 22 = ev6 22 by rw [o7, va_up_ne _ _ (by decide)]).trans t6_22
  have t7_24 := (show ev7 24 = ev6 24 by rw [o7, va_up_ne _ _ (by decide)]).trans t6_24
  have t7_25 := (show ev7 25 = ev6 25 by rw [o7, va_up_ne _ _ (by decide)]).trans t6_25
  have t7_26 := (show ev7 26 = ev6 26 by rw [o7, va_up_ne _ _ (by decide)]).trans t6_26
  have t7_18 := (show ev7 18 = ev6 18 by rw [o7, va_up_ne _ _ (by decide)]).trans t6_18
  have t7_19 := (show ev7 19 = ev6 19 by rw [o7, va_up_ne _ _ (by decide)]).trans t6_19
  refine lv_aload_n hx hb d_Cv_begin_79 rfl (lv_at hl 0 rfl) ?_
  refine wv_getf hx hb h 18 (by decide) (fs := [.ref (ad 19), .ref (ad 21), .ref (ad 22), .ref (ad 23), .ref (ad 24), .ref (ad 25), .ref (ad 26), .ref (ad 27), .ref (ad 28), .ref (ad 29), .ref (ad 30), .ref (ad 31), .ref (ad 32), .ref (ad 33)]) t7_18 hts (fun w hw => List.mem_cons_of_mem _ (fW_Cv w hw)) hown (ci := 0) (C := "NonceBox$Curve") (T := fT_Cv) (N := 14) rfl 0 (by decide) (hts _ (List.mem_cons_of_mem _ kf_Cv_16)) rfl (v := .ref (ad 19)) rfl d_Cv_begin_80 ?_
  refine lv_aload_n hx hb d_Cv_begin_83 rfl (lv_at hl 0 rfl) ?_
  refine wv_getf hx hb h 18 (by decide) (fs := [.ref (ad 19), .ref (ad 21), .ref (ad 22), .ref (ad 23), .ref (ad 24), .ref (ad 25), .ref (ad 26), .ref (ad 27), .ref (ad 28), .ref (ad 29), .ref (ad 30), .ref (ad 31), .ref (ad 32), .ref (ad 33)]) t7_18 hts (fun w hw => List.mem_cons_of_mem _ (fW_Cv w hw)) hown (ci := 0) (C := "NonceBox$Curve") (T := fT_Cv) (N := 14) rfl 6 (by decide) (hts _ (List.mem_cons_of_mem _ kf_Cv_43)) rfl (v := .ref (ad 26)) rfl d_Cv_begin_84 ?_
  refine lv_aload_n hx hb d_Cv_begin_87 rfl (lv_at hl 0 rfl) ?_
  refine wv_getf hx hb h 18 (by decide) (fs := [.ref (ad 19), .ref (ad 21), .ref (ad 22), .ref (ad 23), .ref (ad 24), .ref (ad 25), .ref (ad 26), .ref (ad 27), .ref (ad 28), .ref (ad 29), .ref (ad 30), .ref (ad 31), .ref (ad 32), .ref (ad 33)]) t7_18 hts (fun w hw => List.mem_cons_of_mem _ (fW_Cv w hw)) hown (ci := 0) (C := "NonceBox$Curve") (T := fT_Cv) (N := 14) rfl 4 (by decide) (hts _ (List.mem_cons_of_mem _ kf_Cv_37)) rfl (v := .ref (ad 24)) rfl d_Cv_begin_88 ?_
  refine wv_V (As := [.ref (ad 26), .ref (ad 24)]) (rest := []) (k := 2) ⟨hx, hb, hml, hown, hts⟩ h 19 (by decide) (C := "NonceBox$Field") t7_19 rfl (m_Fd_copy l G A ad ev7 19 20 10 21 19 608 (by decide) t7_19 (by decide) (by decide) 26 24 (uRow X) r24 (by decide) (by decide) t7_26 t7_24 (by decide) (by decide)) kc_Fd_copy kl_Cv_108 km_Fd_copy kv_Fd_copy ki_Fd (by decide +kernel) ⟨rfl, rfl, Nat.le_of_ble_eq_true rfl, Nat.le_of_ble_eq_true rfl⟩ hl.1 rfl rfl (Nat.le_of_ble_eq_true rfl) ⟨Nat.le_refl _, Nat.le_refl _⟩ d_Cv_begin_91 ?_
  intro ov ev8 H locs hp h
  rw [hp.1]
  refine W.eq (g2 := F0 m 94 ls []) rfl ?_
  have o8 : ev8 = (va_up ev7 24 (eJ G 10 (uRow X))) := hp.2
  have t8_24 : ev8 24 = eJ G 10 (uRow X) := by rw [o8, va_up_self]
  have t8_21 := (show ev8 21 = ev7 21 by rw [o8, va_up_ne _ _ (by decide)]).trans t7_21
  have t8_22 := (show ev8 22 = ev7 22 by rw [o8, va_up_ne _ _ (by decide)]).trans t7_22
  have t8_23 := (show ev8 23 = ev7 23 by rw [o8, va_up_ne _ _ (by decide)]).trans t7_23
  have t8_25 := (show ev8 25 = ev7 25 by rw [o8, va_up_ne _ _ (by decide)]).trans t7_25
  have t8_26 := (show ev8 26 = ev7 26 by rw [o8, va_up_ne _ _ (by decide)]).trans t7_26
  have t8_18 := (show ev8 18 = ev7 18 by rw [o8, va_up_ne _ _ (by decide)]).trans t7_18
  have t8_19 := (show ev8 19 = ev7 19 by rw [o8, va_up_ne _ _ (by decide)]).trans t7_19
  refine lv_aload_n hx hb d_Cv_begin_94 rfl (lv_at hl 0 rfl) ?_
  refine wv_getf hx hb h 18 (by decide) (fs := [.ref (ad 19), .ref (ad 21), .ref (ad 22), .ref (ad 23), .ref (ad 24), .ref (ad 25), .ref (ad 26), .ref (ad 27), .ref (ad 28), .ref (ad 29), .ref (ad 30), .ref (ad 31), .ref (ad 32), .ref (ad 33)]) t8_18 hts (fun w hw => List.mem_cons_of_mem _ (fW_Cv w hw)) hown (ci := 0) (C := "NonceBox$Curve") (T := fT_Cv) (N := 14) rfl 0 (by decide) (hts _ (List.mem_cons_of_mem _ kf_Cv_16)) rfl (v := .ref (ad 19)) rfl d_Cv_begin_95 ?_
  refine lv_aload_n hx hb d_Cv_begin_98 rfl (lv_at hl 0 rfl) ?_
  refine wv_getf hx hb h 18 (by decide) (fs := [.ref (ad 19), .ref (ad 21), .ref (ad 22), .ref (ad 23), .ref (ad 24), .ref (ad 25), .ref (ad 26), .ref (ad 27), .ref (ad 28), .ref (ad 29), .ref (ad 30), .ref (ad 31), .ref (ad 32), .ref (ad 33)]) t8_18 hts (fun w hw => List.mem_cons_of_mem _ (fW_Cv w hw)) hown (ci := 0) (C := "NonceBox$Curve") (T := fT_Cv) (N := 14) rfl 5 (by decide) (hts _ (List.mem_cons_of_mem _ kf_Cv_40)) rfl (v := .ref (ad 25)) rfl d_Cv_begin_99 ?_
  refine lv_iconst (v := nI (1)) hx hb d_Cv_begin_102 (by decide) ?_
  refine wv_V (As := [.ref (ad 25), .int (nI (1))]) (rest := []) (k := 2) ⟨hx, hb, hml, hown, hts⟩ h 19 (by decide) (C := "NonceBox$Field") t8_19 rfl (m_Fd_setTo l G A ad ev8 19 25 10 r25 (nI 1) (by decide) t8_25 (by decide) (by decide)) kc_Fd_setTo kl_Cv_100 km_Fd_setTo kv_Fd_setTo ki_Fd (by decide +kernel) ⟨rfl, rfl, Nat.le_of_ble_eq_true rfl, Nat.le_of_ble_eq_true rfl⟩ hl.1 rfl rfl (Nat.le_of_ble_eq_true rfl) ⟨Nat.le_refl _, Nat.le_refl _⟩ d_Cv_begin_103 ?_
  intro ov ev9 H locs hp h
  rw [hp.1]
  refine W.eq (g2 := F0 m 106 ls []) rfl ?_
  have o9 : ev9 = (va_up ev8 25 (eJ G 10 (rowV 1))) := hp.2
  have t9_25 : ev9 25 = eJ G 10 (rowV 1) := by rw [o9, va_up_self]
  have t9_21 := (show ev9 21 = ev8 21 by rw [o9, va_up_ne _ _ (by decide)]).trans t8_21
  have t9_22 := (show ev9 22 = ev8 22 by rw [o9, va_up_ne _ _ (by decide)]).trans t8_22
  have t9_23 := (show ev9 23 = ev8 23 by rw [o9, va_up_ne _ _ (by decide)]).trans t8_23
  have t9_24 := (show ev9 24 = ev8 24 by rw [o9, va_up_ne _ _ (by decide)]).trans t8_24
  have t9_26 := (show ev9 26 = ev8 26 by rw [o9, va_up_ne _ _ (by decide)]).trans t8_26
  have t9_18 := (show ev9 18 = ev8 18 by rw [o9, va_up_ne _ _ (by decide)]).trans t8_18
  have t9_19 := (show ev9 19 = ev8 19 by rw [o9, va_up_ne _ _ (by decide)]).trans t8_19
  refine wv_vret hx hb hr hlocks h d_Cv_begin_106 ⟨rfl, ?_⟩
  funext j
  by_cases c0 : j = 21
  · rw [c0, t9_21, va_up_ne _ _ (by decide), va_up_ne _ _ (by decide), va_up_ne _ _ (by decide), va_up_ne _ _ (by decide), va_up_ne _ _ (by decide), va_up_self]
  by_cases c1 : j = 26
  · rw [c1, t9_26, va_up_ne _ _ (by decide), va_up_ne _ _ (by decide), va_up_ne _ _ (by decide), va_up_ne _ _ (by decide), va_up_self]
  by_cases c2 : j = 22
  · rw [c2, t9_22, va_up_ne _ _ (by decide), va_up_ne _ _ (by decide), va_up_ne _ _ (by decide), va_up_self]
  by_cases c3 : j = 23
  · rw [c3, t9_23, va_up_ne _ _ (by decide), va_up_ne _ _ (by decide), va_up_self]
  by_cases c4 : j = 24
  · rw [c4, t9_24, va_up_ne _ _ (by decide), va_up_self]
  by_cases c5 : j = 25
  · rw [c5, t9_25, va_up_self]
  rw [va_up_ne _ _ c5, va_up_ne _ _ c4, va_up_ne _ _ c3, va_up_ne _ _ c2, va_up_ne _ _ c1, va_up_ne _ _ c0]
  rw [o9, va_up_ne _ _ c5, o8, va_up_ne _ _ c4, o7, va_up_ne _ _ c3, o6, va_up_ne _ _ c2, o5, va_up_ne _ _ c1, o4, va_up_ne _ _ c1, o3, va_up_ne _ _ c0, o2, va_up_ne _ _ c0, o1, va_up_ne _ _ c0]
