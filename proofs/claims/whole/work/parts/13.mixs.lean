theorem d_Mx_mixInto_0 : decode c_Mx_mixInto 0 = .ok (.aload_n 0, 1) := by decide +kernel
theorem d_Mx_mixInto_1 : decode c_Mx_mixInto 1 = .ok (.aload_n 1, 1) := by decide +kernel
theorem d_Mx_mixInto_2 : decode c_Mx_mixInto 2 = .ok (.aload_n 2, 1) := by decide +kernel
theorem d_Mx_mixInto_3 : decode c_Mx_mixInto 3 = .ok (.invokevirtual 28, 3) := by decide +kernel
theorem d_Mx_mixInto_6 : decode c_Mx_mixInto 6 = .ok (.aload_n 0, 1) := by decide +kernel
theorem d_Mx_mixInto_7 : decode c_Mx_mixInto 7 = .ok (.invokevirtual 32, 3) := by decide +kernel
theorem d_Mx_mixInto_10 : decode c_Mx_mixInto 10 = .ok (.iconst 0, 1) := by decide +kernel
theorem d_Mx_mixInto_11 : decode c_Mx_mixInto 11 = .ok (.istore 4, 2) := by decide +kernel
theorem d_Mx_mixInto_13 : decode c_Mx_mixInto 13 = .ok (.iload 4, 2) := by decide +kernel
theorem d_Mx_mixInto_15 : decode c_Mx_mixInto 15 = .ok (.iconst 4, 1) := by decide +kernel
theorem d_Mx_mixInto_16 : decode c_Mx_mixInto 16 = .ok (.if_icmp .ge 47, 3) := by decide +kernel
theorem d_Mx_mixInto_19 : decode c_Mx_mixInto 19 = .ok (.aload_n 0, 1) := by decide +kernel
theorem d_Mx_mixInto_20 : decode c_Mx_mixInto 20 = .ok (.getfield 15, 3) := by decide +kernel
theorem d_Mx_mixInto_23 : decode c_Mx_mixInto 23 = .ok (.iconst 5, 1) := by decide +kernel
theorem d_Mx_mixInto_24 : decode c_Mx_mixInto 24 = .ok (.iload 4, 2) := by decide +kernel
theorem d_Mx_mixInto_26 : decode c_Mx_mixInto 26 = .ok (.imul, 1) := by decide +kernel
theorem d_Mx_mixInto_27 : decode c_Mx_mixInto 27 = .ok (.iaload, 1) := by decide +kernel
theorem d_Mx_mixInto_28 : decode c_Mx_mixInto 28 = .ok (.aload_n 3, 1) := by decide +kernel
theorem d_Mx_mixInto_29 : decode c_Mx_mixInto 29 = .ok (.iconst 4, 1) := by decide +kernel
theorem d_Mx_mixInto_30 : decode c_Mx_mixInto 30 = .ok (.iload 4, 2) := by decide +kernel
theorem d_Mx_mixInto_32 : decode c_Mx_mixInto 32 = .ok (.imul, 1) := by decide +kernel
theorem d_Mx_mixInto_33 : decode c_Mx_mixInto 33 = .ok (.invokestatic 35, 3) := by decide +kernel
theorem d_Mx_mixInto_36 : decode c_Mx_mixInto 36 = .ok (.aload_n 0, 1) := by decide +kernel
theorem d_Mx_mixInto_37 : decode c_Mx_mixInto 37 = .ok (.getfield 15, 3) := by decide +kernel
theorem d_Mx_mixInto_40 : decode c_Mx_mixInto 40 = .ok (.bipush 6, 2) := by decide +kernel
theorem d_Mx_mixInto_42 : decode c_Mx_mixInto 42 = .ok (.iload 4, 2) := by decide +kernel
theorem d_Mx_mixInto_44 : decode c_Mx_mixInto 44 = .ok (.iadd, 1) := by decide +kernel
theorem d_Mx_mixInto_45 : decode c_Mx_mixInto 45 = .ok (.iaload, 1) := by decide +kernel
theorem d_Mx_mixInto_46 : decode c_Mx_mixInto 46 = .ok (.aload_n 3, 1) := by decide +kernel
theorem d_Mx_mixInto_47 : decode c_Mx_mixInto 47 = .ok (.bipush 16, 2) := by decide +kernel
theorem d_Mx_mixInto_49 : decode c_Mx_mixInto 49 = .ok (.iconst 4, 1) := by decide +kernel
theorem d_Mx_mixInto_50 : decode c_Mx_mixInto 50 = .ok (.iload 4, 2) := by decide +kernel
theorem d_Mx_mixInto_52 : decode c_Mx_mixInto 52 = .ok (.imul, 1) := by decide +kernel
theorem d_Mx_mixInto_53 : decode c_Mx_mixInto 53 = .ok (.iadd, 1) := by decide +kernel
theorem d_Mx_mixInto_54 : decode c_Mx_mixInto 54 = .ok (.invokestatic 35, 3) := by decide +kernel
theorem d_Mx_mixInto_57 : decode c_Mx_mixInto 57 = .ok (.iinc 4 1, 3) := by decide +kernel
theorem d_Mx_mixInto_60 : decode c_Mx_mixInto 60 = .ok (.goto (-47), 3) := by decide +kernel
theorem d_Mx_mixInto_63 : decode c_Mx_mixInto 63 = .ok (.return_, 1) := by decide +kernel
set_option maxRecDepth 100000 in
set_option maxHeartbeats 4000000 in
/-- MIX into the row at qt -/
theorem m_Mx_mixInto (l : Launch) (G : wG) (A : Nat → Prop) (ad : Nat → Nat) (ev : Nat → va_E) (qk qx qt Nk Nx Nt : Nat) (K X T : Nat → Nat) (f g : Nat → Int32) (hqk : qk < 52) (hqx : qx < 52) (hqt : qt < 52) (h6 : ev 6 = eO 2 [.ref (ad 7), .ref (ad 8), .ref (ad 9), .ref (ad 10), .ref (ad 11)]) (h7 : ev 7 = eI G 16 f) (h8 : ev 8 = eI G 16 g) (hk : ev qk = eB G Nk (bs K)) (hx' : ev qx = eB G Nx (bs X)) (ht : ev qt = eB G Nt (bs T)) (k7 : qk ≠ 7) (x7 : qx ≠ 7) (t6 : qt ≠ 6) (t7 : qt ≠ 7) (t8 : qt ≠ 8) (hK : ∀ j, K j < 256) (hX : ∀ j, X j < 256) (nk : 32 ≤ Nk) (nx : 16 ≤ Nx) (nt : 32 ≤ Nt) (nk2 : Nk < 2 ^ 31) (nx2 : Nx < 2 ^ 31) (nt2 : Nt < 2 ^ 31) : wM l y_Mx_mixInto w_Mx_mixInto ({ frames := 9, cells := 0, slots := 0, locals := 300 }) G A 52 ad ev [.ref (ad 6), .ref (ad qk), .ref (ad qx), .ref (ad qt)] (fun ov ev' => ov = none ∧ ev' = va_up (va_up (va_up ev 7 (eI G 16 (LAY K X))) 8 (eI G 16 (RND K X))) qt (eB G Nt (bs (fil 0 32 (MIXB K X) T)))) := by
  refine wv_ofW (cc := c_Mx_mixInto) (maxL := 5) (ret := none) (by decide) rfl (Nat.le_of_ble_eq_true rfl) ?_
  intro p e s m below meth c ls hx hb hr hml hts hown hlocks hini h hl
  have hl : lv_has ls 5 [(0, .ref (ad 6)), (1, .ref (ad qk)), (2, .ref (ad qx)), (3, .ref (ad qt))] := hl
  refine lv_aload_n hx hb d_Mx_mixInto_0 rfl (lv_at hl 0 rfl) ?_
  refine lv_aload_n hx hb d_Mx_mixInto_1 rfl (lv_at hl 1 rfl) ?_
  refine lv_aload_n hx hb d_Mx_mixInto_2 rfl (lv_at hl 2 rfl) ?_
  refine wv_V (As := [.ref (ad qk), .ref (ad qx)]) (rest := []) (k := 2) ⟨hx, hb, hml, hown, hts⟩ h 6 (by decide) (C := "NonceBox$Mixer") h6 rfl (m_Mx_layOut l G A ad ev qk qx Nk Nx K X f g hqk hqx h6 h7 h8 hk hx' k7 x7 hK hX nk nx nk2 nx2) kc_Mx_layOut kl_Mx_28 km_Mx_layOut kv_Mx_layOut ki_Mx (by decide +kernel) ⟨rfl, rfl, Nat.le_of_ble_eq_true rfl, Nat.le_of_ble_eq_true rfl⟩ hl.1 rfl rfl (Nat.le_of_ble_eq_true rfl) ⟨Nat.le_refl _, Nat.le_refl _⟩ d_Mx_mixInto_3 ?_
  intro ov ev1 H locs hp h
  rw [hp.1]
  refine W.eq (g2 := F0 m 6 ls []) rfl ?_
  have o1 : ev1 = (va_up (va_up ev 7 (eI G 16 (LAY K X))) 8 (eI G 16 (LAY K X))) := hp.2
  have t1_7 : ev1 7 = eI G 16 (LAY K X) := by rw [o1, va_up_ne _ _ (by decide), va_up_self]
  have t1_8 : ev1 8 = eI G 16 (LAY K X) := by rw [o1, va_up_self]
  have t1_qt := (show ev1 qt = ev qt by rw [o1, va_up_ne _ _ t8, va_up_ne _ _ t7]).trans ht
  have t1_6 := (show ev1 6 = ev 6 by rw [o1, va_up_ne _ _ (by decide), va_up_ne _ _ (by decide)]).trans h6
  refine lv_aload_n hx hb d_Mx_mixInto_6 rfl (lv_at hl 0 rfl) ?_
  refine wv_V (As := []) (rest := []) (k := 0) ⟨hx, hb, hml, hown, hts⟩ h 6 (by decide) (C := "NonceBox$Mixer") t1_6 rfl (m_Mx_turnRounds l G A ad ev1 (LAY K X) t1_6 t1_8) kc_Mx_turnRounds kl_Mx_32 km_Mx_turnRounds kv_Mx_turnRounds ki_Mx (by decide +kernel) ⟨rfl, rfl, Nat.le_of_ble_eq_true rfl, Nat.le_of_ble_eq_true rfl⟩ hl.1 rfl rfl (Nat.le_of_ble_eq_true rfl) ⟨Nat.le_refl _, Nat.le_refl _⟩ d_Mx_mixInto_7 ?_
  intro ov ev2 H locs hp h
  rw [hp.1]
  refine W.eq (g2 := F0 m 10 ls []) rfl ?_
  have o2 : ev2 = (va_up ev1 8 (eI G 16 (RND K X))) := hp.2
  have t2_8 : ev2 8 = eI G 16 (RND K X) := by rw [o2, va_up_self]
  have t2_7 := (show ev2 7 = ev1 7 by rw [o2, va_up_ne _ _ (by decide)]).trans t1_7
  have t2_qt := (show ev2 qt = ev1 qt by rw [o2, va_up_ne _ _ t8]).trans t1_qt
  have t2_6 := (show ev2 6 = ev1 6 by rw [o2, va_up_ne _ _ (by decide)]).trans t1_6
  refine lv_iconst (v := nI (0)) hx hb d_Mx_mixInto_10 (by decide) ?_
  refine lv_istore (lv' := [(4, .int (nI (0))), (0, .ref (ad 6)), (1, .ref (ad qk)), (2, .ref (ad qx)), (3, .ref (ad qt))]) hx hb d_Mx_mixInto_11 hl (by decide) rfl (fun ls hl => ?_)
  have loop3 : ∀ (d k : Nat), k + d = 4 →  ∀ (ev3 : Nat → va_E) (H : Heap) (locs : List Loc) (ls : Array Slot), ev3 = (va_up ev2 qt (eB G Nt (bs (mixP K X T k)))) → wT G A 52 ad ev3 s H locs → lv_has ls 5 [(4, .int (nI (k))), (0, .ref (ad 6)), (1, .ref (ad qk)), (2, .ref (ad qx)), (3, .ref (ad qt))] → W p l e ({ frames := 9, cells := 0, slots := 0, locals := 300 }) s m ([.ref (ad 6), .ref (ad qk), .ref (ad qx), .ref (ad qt)] : List Value).toArray below meth c H locs 0 0 (MQ below (wQc G A 52 ad (fun ov ev' => ov = none ∧ ev' = va_up (va_up (va_up ev 7 (eI G 16 (LAY K X))) 8 (eI G 16 (RND K X))) qt (eB G Nt (bs (fil 0 32 (MIXB K X) T))))) ([.ref (ad 6), .ref (ad qk), .ref (ad qx), .ref (ad qt)] : List Value).toArray s 0 0 A) (F0 m 13 ls []) := by
    intro d
    induction d with
    | zero =>
      intro k hk_k  ev3 H locs ls  o3 h hl
      have t3_qt : ev3 qt = eB G Nt (bs (mixP K X T k)) := by rw [o3, va_up_self]
      have t3_7 := (show ev3 7 = ev2 7 by rw [o3, va_up_ne _ _ (Ne.symm t7)]).trans t2_7
      have t3_8 := (show ev3 8 = ev2 8 by rw [o3, va_up_ne _ _ (Ne.symm t8)]).trans t2_8
      have t3_6 := (show ev3 6 = ev2 6 by rw [o3, va_up_ne _ _ (Ne.symm t6)]).trans t2_6
      refine lv_iload hx hb d_Mx_mixInto_13 (lv_at hl 0 rfl) ?_
      refine lv_iconst (v := nI (4)) hx hb d_Mx_mixInto_15 (by decide) ?_
      refine lv_icmp_ge (tgt := 63) hx hb d_Mx_mixInto_16 (by decide) (fun _ => ?_) (fun hc => absurd ((nI_leI (by omega) (by omega)).mpr (by omega)) hc)
      refine wv_vret hx hb hr hlocks h d_Mx_mixInto_63 ⟨rfl, ?_⟩
      rw [o3, o2, o1, va_up2, show k = 4 by omega, mixP_4]
    | succ d ih =>
      intro k hk_k  ev3 H locs ls  o3 h hl
      have t3_qt : ev3 qt = eB G Nt (bs (mixP K X T k)) := by rw [o3, va_up_self]
      have t3_7 := (show ev3 7 = ev2 7 by rw [o3, va_up_ne _ _ (Ne.symm t7)]).trans t2_7
      have t3_8 := (show ev3 8 = ev2 8 by rw [o3, va_up_ne _ _ (Ne.symm t8)]).trans t2_8
      have t3_6 := (show ev3 6 = ev2 6 by rw [o3, va_up_ne _ _ (Ne.symm t6)]).trans t2_6
      refine lv_iload hx hb d_Mx_mixInto_13 (lv_at hl 0 rfl) ?_
      refine lv_iconst (v := nI (4)) hx hb d_Mx_mixInto_15 (by decide) ?_
      refine lv_icmp_ge (tgt := 63) hx hb d_Mx_mixInto_16 (by decide) (fun hc => absurd ((nI_leI (by omega) (by omega)).mp hc) (by omega)) (fun _ => ?_)
      refine lv_aload_n hx hb d_Mx_mixInto_19 rfl (lv_at hl 1 rfl) ?_
      refine wv_getf hx hb h 6 (by decide) (fs := [.ref (ad 7), .ref (ad 8), .ref (ad 9), .ref (ad 10), .ref (ad 11)]) t3_6 hts (fun w hw => List.mem_cons_of_mem _ (fW_Mx w hw)) hown (ci := 2) (C := "NonceBox$Mixer") (T := fT_Mx) (N := 5) rfl 1 (by decide) (hts _ (List.mem_cons_of_mem _ kf_Mx_15)) rfl (v := .ref (ad 8)) rfl d_Mx_mixInto_20 ?_
      refine lv_iconst (v := nI (5)) hx hb d_Mx_mixInto_23 (by decide) ?_
      refine lv_iload hx hb d_Mx_mixInto_24 (lv_at hl 0 rfl) ?_
      refine lv_imul hx hb d_Mx_mixInto_26 ?_
      refine wv_top (pk_mul _ _) ?_
      refine wv_iald hx hb h 8 (by decide) (f := (RND K X)) t3_8 (k := 5 * k) rfl (by omega) (by decide) d_Mx_mixInto_27 ?_
      refine lv_aload_n hx hb d_Mx_mixInto_28 rfl (lv_at hl 4 rfl) ?_
      refine lv_iconst (v := nI (4)) hx hb d_Mx_mixInto_29 (by decide) ?_
      refine lv_iload hx hb d_Mx_mixInto_30 (lv_at hl 0 rfl) ?_
      refine lv_imul hx hb d_Mx_mixInto_32 ?_
      refine wv_top (pk_mul _ _) ?_
      refine wv_Sx (As := [.int (((RND K X)) (5 * k)), .ref (ad qt), .int (nI (4 * k))]) (rest := []) (k := 3) ⟨hx, hb, hml, hown, hts⟩ h (m_Mx_writeWord l G A ad ev3 (RND K X (5 * k)) qt Nt (4 * k) (mixP K X T k) hqt t3_qt (by omega) nt2) kc_Mx_writeWord kl_Mx_35 ks_Mx_writeWord ki_Mx (by decide +kernel) ⟨rfl, rfl, Nat.le_of_ble_eq_true rfl, Nat.le_of_ble_eq_true rfl⟩ hl.1 rfl rfl (Nat.le_of_ble_eq_true rfl) ⟨Nat.le_refl _, Nat.le_refl _⟩ d_Mx_mixInto_33 ?_
      intro ov ev4 H locs hp h
      rw [hp.1]
      refine W.eq (g2 := F0 m 36 ls []) rfl ?_
      have o4 : ev4 = (va_up ev3 qt (eB G Nt (bs (fil (4 * k) 4 (byN (RND K X (5 * k))) (mixP K X T k))))) := hp.2
      have t4_qt : ev4 qt = eB G Nt (bs (fil (4 * k) 4 (byN (RND K X (5 * k))) (mixP K X T k))) := by rw [o4, va_up_self]
      have t4_7 := (show ev4 7 = ev3 7 by rw [o4, va_up_ne _ _ (Ne.symm t7)]).trans t3_7
      have t4_8 := (show ev4 8 = ev3 8 by rw [o4, va_up_ne _ _ (Ne.symm t8)]).trans t3_8
      have t4_6 := (show ev4 6 = ev3 6 by rw [o4, va_up_ne _ _ (Ne.symm t6)]).trans t3_6
      refine lv_aload_n hx hb d_Mx_mixInto_36 rfl (lv_at hl 1 rfl) ?_
      refine wv_getf hx hb h 6 (by decide) (fs := [.ref (ad 7), .ref (ad 8), .ref (ad 9), .ref (ad 10), .ref (ad 11)]) t4_6 hts (fun w hw => List.mem_cons_of_mem _ (fW_Mx w hw)) hown (ci := 2) (C := "NonceBox$Mixer") (T := fT_Mx) (N := 5) rfl 1 (by decide) (hts _ (List.mem_cons_of_mem _ kf_Mx_15)) rfl (v := .ref (ad 8)) rfl d_Mx_mixInto_37 ?_
      refine lv_bipush (v := nI (6)) hx hb d_Mx_mixInto_40 (by decide) ?_
      refine lv_iload hx hb d_Mx_mixInto_42 (lv_at hl 0 rfl) ?_
      refine lv_iadd hx hb d_Mx_mixInto_44 ?_
      refine wv_top (nI_add _ _) ?_
      refine wv_iald hx hb h 8 (by decide) (f := (RND K X)) t4_8 (k := 6 + k) rfl (by omega) (by decide) d_Mx_mixInto_45 ?_
      refine lv_aload_n hx hb d_Mx_mixInto_46 rfl (lv_at hl 4 rfl) ?_
      refine lv_bipush (v := nI (16)) hx hb d_Mx_mixInto_47 (by decide) ?_
      refine lv_iconst (v := nI (4)) hx hb d_Mx_mixInto_49 (by decide) ?_
      refine lv_iload hx hb d_Mx_mixInto_50 (lv_at hl 0 rfl) ?_
      refine lv_imul hx hb d_Mx_mixInto_52 ?_
      refine wv_top (pk_mul _ _) ?_
      refine lv_iadd hx hb d_Mx_mixInto_53 ?_
      refine wv_top (nI_add _ _) ?_
      refine wv_Sx (As := [.int (((RND K X)) (6 + k)), .ref (ad qt), .int (nI (16 + (4 * k)))]) (rest := []) (k := 3) ⟨hx, hb, hml, hown, hts⟩ h (m_Mx_writeWord l G A ad ev4 (RND K X (6 + k)) qt Nt (16 + 4 * k) (fil (4 * k) 4 (byN (RND K X (5 * k))) (mixP K X T k)) hqt t4_qt (by omega) nt2) kc_Mx_writeWord kl_Mx_35 ks_Mx_writeWord ki_Mx (by decide +kernel) ⟨rfl, rfl, Nat.le_of_ble_eq_true rfl, Nat.le_of_ble_eq_true rfl⟩ hl.1 rfl rfl (Nat.le_of_ble_eq_true rfl) ⟨Nat.le_refl _, Nat.le_refl _⟩ d_Mx_mixInto_54 ?_
      intro ov ev5 H locs hp h
      rw [hp.1]
      refine W.eq (g2 := F0 m 57 ls []) rfl ?_
      have o5 : ev5 = (va_up ev4 qt (eB G Nt (bs (fil (16 + 4 * k) 4 (byN (RND K X (6 + k))) (fil (4 * k) 4 (byN (RND K X (5 * k))) (mixP K X T k)))))) := hp.2
      have t5_qt : ev5 qt = eB G Nt (bs (fil (16 + 4 * k) 4 (byN (RND K X (6 + k))) (fil (4 * k) 4 (byN (RND K X (5 * k))) (mixP K X T k)))) := by rw [o5, va_up_self]
      have t5_7 := (show ev5 7 = ev4 7 by rw [o5, va_up_ne _ _ (Ne.symm t7)]).trans t4_7
      have t5_8 := (show ev5 8 = ev4 8 by rw [o5, va_up_ne _ _ (Ne.symm t8)]).trans t4_8
      have t5_6 := (show ev5 6 = ev4 6 by rw [o5, va_up_ne _ _ (Ne.symm t6)]).trans t4_6
      refine lv_iinc (v := nI (k + 1)) (lv' := [(4, .int (nI (k + 1))), (0, .ref (ad 6)), (1, .ref (ad qk)), (2, .ref (ad qx)), (3, .ref (ad qt))]) hx hb d_Mx_mixInto_57 hl (k := 0) rfl (nI_add _ _) (by decide) rfl (fun ls hl => ?_)
      refine lv_goto (tgt := 13) hx hb d_Mx_mixInto_60 (by decide) ?_
      refine ih (k + 1) (by omega) ev5 H locs ls ?_ h (lv_sub hl [0, 1, 2, 3, 4] rfl)
      rw [o5, o4, o3, va_up2, va_up2, mixP_s K X T (by omega)]
  exact loop3 4 0 rfl ev2 H locs ls (by rw [mixP_0, va_upi _ _ t2_qt]) h (lv_sub hl [0, 1, 2, 3, 4] rfl)
theorem d_Mx_coreInto_0 : decode c_Mx_coreInto 0 = .ok (.aload_n 0, 1) := by decide +kernel
theorem d_Mx_coreInto_1 : decode c_Mx_coreInto 1 = .ok (.aload_n 0, 1) := by decide +kernel
theorem d_Mx_coreInto_2 : decode c_Mx_coreInto 2 = .ok (.getfield 18, 3) := by decide +kernel
theorem d_Mx_coreInto_5 : decode c_Mx_coreInto 5 = .ok (.aload_n 0, 1) := by decide +kernel
theorem d_Mx_coreInto_6 : decode c_Mx_coreInto 6 = .ok (.getfield 22, 3) := by decide +kernel
theorem d_Mx_coreInto_9 : decode c_Mx_coreInto 9 = .ok (.invokevirtual 28, 3) := by decide +kernel
theorem d_Mx_coreInto_12 : decode c_Mx_coreInto 12 = .ok (.aload_n 0, 1) := by decide +kernel
theorem d_Mx_coreInto_13 : decode c_Mx_coreInto 13 = .ok (.invokevirtual 32, 3) := by decide +kernel
theorem d_Mx_coreInto_16 : decode c_Mx_coreInto 16 = .ok (.iconst 0, 1) := by decide +kernel
theorem d_Mx_coreInto_17 : decode c_Mx_coreInto 17 = .ok (.istore_n 2, 1) := by decide +kernel
theorem d_Mx_coreInto_18 : decode c_Mx_coreInto 18 = .ok (.iload_n 2, 1) := by decide +kernel
theorem d_Mx_coreInto_19 : decode c_Mx_coreInto 19 = .ok (.bipush 16, 2) := by decide +kernel
theorem d_Mx_coreInto_21 : decode c_Mx_coreInto 21 = .ok (.if_icmp .ge 34, 3) := by decide +kernel
theorem d_Mx_coreInto_24 : decode c_Mx_coreInto 24 = .ok (.aload_n 0, 1) := by decide +kernel
theorem d_Mx_coreInto_25 : decode c_Mx_coreInto 25 = .ok (.getfield 15, 3) := by decide +kernel
theorem d_Mx_coreInto_28 : decode c_Mx_coreInto 28 = .ok (.iload_n 2, 1) := by decide +kernel
theorem d_Mx_coreInto_29 : decode c_Mx_coreInto 29 = .ok (.iaload, 1) := by decide +kernel
theorem d_Mx_coreInto_30 : decode c_Mx_coreInto 30 = .ok (.aload_n 0, 1) := by decide +kernel
theorem d_Mx_coreInto_31 : decode c_Mx_coreInto 31 = .ok (.getfield 11, 3) := by decide +kernel
theorem d_Mx_coreInto_34 : decode c_Mx_coreInto 34 = .ok (.iload_n 2, 1) := by decide +kernel
theorem d_Mx_coreInto_35 : decode c_Mx_coreInto 35 = .ok (.iaload, 1) := by decide +kernel
theorem d_Mx_coreInto_36 : decode c_Mx_coreInto 36 = .ok (.iadd, 1) := by decide +kernel
theorem d_Mx_coreInto_37 : decode c_Mx_coreInto 37 = .ok (.aload_n 0, 1) := by decide +kernel
theorem d_Mx_coreInto_38 : decode c_Mx_coreInto 38 = .ok (.getfield 25, 3) := by decide +kernel
theorem d_Mx_coreInto_41 : decode c_Mx_coreInto 41 = .ok (.iload_n 1, 1) := by decide +kernel
theorem d_Mx_coreInto_42 : decode c_Mx_coreInto 42 = .ok (.iconst 4, 1) := by decide +kernel
theorem d_Mx_coreInto_43 : decode c_Mx_coreInto 43 = .ok (.iload_n 2, 1) := by decide +kernel
theorem d_Mx_coreInto_44 : decode c_Mx_coreInto 44 = .ok (.imul, 1) := by decide +kernel
theorem d_Mx_coreInto_45 : decode c_Mx_coreInto 45 = .ok (.iadd, 1) := by decide +kernel
theorem d_Mx_coreInto_46 : decode c_Mx_coreInto 46 = .ok (.invokestatic 35, 3) := by decide +kernel
theorem d_Mx_coreInto_49 : decode c_Mx_coreInto 49 = .ok (.iinc 2 1, 3) := by decide +kernel
theorem d_Mx_coreInto_52 : decode c_Mx_coreInto 52 = .ok (.goto (-34), 3) := by decide +kernel
theorem d_Mx_coreInto_55 : decode c_Mx_coreInto 55 = .ok (.return_, 1) := by decide +kernel
set_option maxRecDepth 100000 in
set_option maxHeartbeats 4000000 in
/-- CORE into the stream -/
theorem m_Mx_coreInto (l : Launch) (G : wG) (A : Nat → Prop) (ad : Nat → Nat) (ev : Nat → va_E) (o : Nat) (K X S : Nat → Nat) (f g : Nat → Int32) (h6 : ev 6 = eO 2 [.ref (ad 7), .ref (ad 8), .ref (ad 9), .ref (ad 10), .ref (ad 11)]) (h7 : ev 7 = eI G 16 f) (h8 : ev 8 = eI G 16 g) (h9 : ev 9 = eB G 32 (bs K)) (h10 : ev 10 = eB G 16 (bs X)) (h11 : ev 11 = eB G 128 (bs S)) (hK : ∀ j, K j < 256) (hX : ∀ j, X j < 256) (ho : o + 64 ≤ 128) : wM l y_Mx_coreInto w_Mx_coreInto ({ frames := 9, cells := 0, slots := 0, locals := 300 }) G A 52 ad ev [.ref (ad 6), .int (nI (o))] (fun ov ev' => ov = none ∧ ev' = va_up (va_up (va_up ev 7 (eI G 16 (LAY K X))) 8 (eI G 16 (RND K X))) 11 (eB G 128 (bs (fil o 64 (COREB K X) S)))) := by
  refine wv_ofW (cc := c_Mx_coreInto) (maxL := 3) (ret := none) (by decide) rfl (Nat.le_of_ble_eq_true rfl) ?_
  intro p e s m below meth c ls hx hb hr hml hts hown hlocks hini h hl
  have hl : lv_has ls 3 [(0, .ref (ad 6)), (1, .int (nI (o)))] := hl
  refine lv_aload_n hx hb d_Mx_coreInto_0 rfl (lv_at hl 0 rfl) ?_
  refine lv_aload_n hx hb d_Mx_coreInto_1 rfl (lv_at hl 0 rfl) ?_
  refine wv_getf hx hb h 6 (by decide) (fs := [.ref (ad 7), .ref (ad 8), .ref (ad 9), .ref (ad 10), .ref (ad 11)]) h6 hts (fun w hw => List.mem_cons_of_mem _ (fW_Mx w hw)) hown (ci := 2) (C := "NonceBox$Mixer") (T := fT_Mx) (N := 5) rfl 2 (by decide) (hts _ (List.mem_cons_of_mem _ kf_Mx_18)) rfl (v := .ref (ad 9)) rfl d_Mx_coreInto_2 ?_
  refine lv_aload_n hx hb d_Mx_coreInto_5 rfl (lv_at hl 0 rfl) ?_
  refine wv_getf hx hb h 6 (by decide) (fs := [.ref (ad 7), .ref (ad 8), .ref (ad 9), .ref (ad 10), .ref (ad 11)]) h6 hts (fun w hw => List.mem_cons_of_mem _ (fW_Mx w hw)) hown (ci := 2) (C := "NonceBox$Mixer") (T := fT_Mx) (N := 5) rfl 3 (by decide) (hts _ (List.mem_cons_of_mem _ kf_Mx_22)) rfl (v := .ref (ad 10)) rfl d_Mx_coreInto_6 ?_
  refine wv_V (As := [.ref (ad 9), .ref (ad 10)]) (rest := []) (k := 2) ⟨hx, hb, hml, hown, hts⟩ h 6 (by decide) (C := "NonceBox$Mixer") h6 rfl (m_Mx_layOut l G A ad ev 9 10 32 16 K X f g (by decide) (by decide) h6 h7 h8 h9 h10 (by decide) (by decide) hK hX (by decide) (by decide) (by decide) (by decide)) kc_Mx_layOut kl_Mx_28 km_Mx_layOut kv_Mx_layOut ki_Mx (by decide +kernel) ⟨rfl, rfl, Nat.le_of_ble_eq_true rfl, Nat.le_of_ble_eq_true rfl⟩ hl.1 rfl rfl (Nat.le_of_ble_eq_true rfl) ⟨Nat.le_refl _, Nat.le_refl _⟩ d_Mx_coreInto_9 ?_
  intro ov ev1 H locs hp h
  rw [hp.1]
  refine W.eq (g2 := F0 m 12 ls []) rfl ?_
  have o1 : ev1 = (va_up (va_up ev 7 (eI G 16 (LAY K X))) 8 (eI G 16 (LAY K X))) := hp.2
  have t1_7 : ev1 7 = eI G 16 (LAY K X) := by rw [o1, va_up_ne _ _ (by decide), va_up_self]
  have t1_8 : ev1 8 = eI G 16 (LAY K X) := by rw [o1, va_up_self]
  have t1_9 := (show ev1 9 = ev 9 by rw [o1, va_up_ne _ _ (by decide), va_up_ne _ _ (by decide)]).trans h9
  have t1_10 := (show ev1 10 = ev 10 by rw [o1, va_up_ne _ _ (by decide), va_up_ne _ _ (by decide)]).trans h10
  have t1_11 := (show ev1 11 = ev 11 by rw [o1, va_up_ne _ _ (by decide), va_up_ne _ _ (by decide)]).trans h11
  have t1_6 := (show ev1 6 = ev 6 by rw [o1, va_up_ne _ _ (by decide), va_up_ne _ _ (by decide)]).trans h6
  refine lv_aload_n hx hb d_Mx_coreInto_12 rfl (lv_at hl 0 rfl) ?_
  refine wv_V (As := []) (rest := []) (k := 0) ⟨hx, hb, hml, hown, hts⟩ h 6 (by decide) (C := "NonceBox$Mixer") t1_6 rfl (m_Mx_turnRounds l G A ad ev1 (LAY K X) t1_6 t1_8) kc_Mx_turnRounds kl_Mx_32 km_Mx_turnRounds kv_Mx_turnRounds ki_Mx (by decide +kernel) ⟨rfl, rfl, Nat.le_of_ble_eq_true rfl, Nat.le_of_ble_eq_true rfl⟩ hl.1 rfl rfl (Nat.le_of_ble_eq_true rfl) ⟨Nat.le_refl _, Nat.le_refl _⟩ d_Mx_coreInto_13 ?_
  intro ov ev2 H locs hp h
  rw [hp.1]
  refine W.eq (g2 := F0 m 16 ls []) rfl ?_
  have o2 : ev2 = (va_up ev1 8 (eI G 16 (RND K X))) := hp.2
  have t2_8 : ev2 8 = eI G 16 (RND K X) := by rw [o2, va_up_self]
  have t2_7 := (show ev2 7 = ev1 7 by rw [o2, va_up_ne _ _ (by decide)]).trans t1_7
  have t2_9 := (show ev2 9 = ev1 9 by rw [o2, va_up_ne _ _ (by decide)]).trans t1_9
  have t2_10 := (show ev2 10 = ev1 10 by rw [o2, va_up_ne _ _ (by decide)]).trans t1_10
  have t2_11 := (show ev2 11 = ev1 11 by rw [o2, va_up_ne _ _ (by decide)]).trans t1_11
  have t2_6 := (show ev2 6 = ev1 6 by rw [o2, va_up_ne _ _ (by decide)]).trans t1_6
  refine lv_iconst (v := nI (0)) hx hb d_Mx_coreInto_16 (by decide) ?_
  refine lv_istore_n (lv' := [(2, .int (nI (0))), (0, .ref (ad 6)), (1, .int (nI (o)))]) hx hb d_Mx_coreInto_17 rfl hl (by decide) rfl (fun ls hl => ?_)
  have loop3 : ∀ (d k : Nat), k + d = 16 →  ∀ (ev3 : Nat → va_E) (H : Heap) (locs : List Loc) (ls : Array Slot), ev3 = (va_up ev2 11 (eB G 128 (bs (fil o (4 * k) (COREB K X) S)))) → wT G A 52 ad ev3 s H locs → lv_has ls 3 [(2, .int (nI (k))), (0, .ref (ad 6)), (1, .int (nI (o)))] → W p l e ({ frames := 9, cells := 0, slots := 0, locals := 300 }) s m ([.ref (ad 6), .int (nI (o))] : List Value).toArray below meth c H locs 0 0 (MQ below (wQc G A 52 ad (fun ov ev' => ov = none ∧ ev' = va_up (va_up (va_up ev 7 (eI G 16 (LAY K X))) 8 (eI G 16 (RND K X))) 11 (eB G 128 (bs (fil o 64 (COREB K X) S))))) ([.ref (ad 6), .int (nI (o))] : List Value).toArray s 0 0 A) (F0 m 18 ls []) := by
    intro d
    induction d with
    | zero =>
      intro k hk_k  ev3 H locs ls  o3 h hl
      have t3_11 : ev3 11 = eB G 128 (bs (fil o (4 * k) (COREB K X) S)) := by rw [o3, va_up_self]
      have t3_7 := (show ev3 7 = ev2 7 by rw [o3, va_up_ne _ _ (by decide)]).trans t2_7
      have t3_8 := (show ev3 8 = ev2 8 by rw [o3, va_up_ne _ _ (by decide)]).trans t2_8
      have t3_9 := (show ev3 9 = ev2 9 by rw [o3, va_up_ne _ _ (by decide)]).trans t2_9
      have t3_10 := (show ev3 10 = ev2 10 by rw [o3, va_up_ne _ _ (by decide)]).trans t2_10
      have t3_6 := (show ev3 6 = ev2 6 by rw [o3, va_up_ne _ _ (by decide)]).trans t2_6
      refine lv_iload_n hx hb d_Mx_coreInto_18 rfl (lv_at hl 0 rfl) ?_
      refine lv_bipush (v := nI (16)) hx hb d_Mx_coreInto_19 (by decide) ?_
      refine lv_icmp_ge (tgt := 55) hx hb d_Mx_coreInto_21 (by decide) (fun _ => ?_) (fun hc => absurd ((nI_leI (by omega) (by omega)).mpr (by omega)) hc)
      refine wv_vret hx hb hr hlocks h d_Mx_coreInto_55 ⟨rfl, ?_⟩
      rw [o3, o2, o1, va_up2, show k = 16 by omega]
    | succ d ih =>
      intro k hk_k  ev3 H locs ls  o3 h hl
      have t3_11 : ev3 11 = eB G 128 (bs (fil o (4 * k) (COREB K X) S)) := by rw [o3, va_up_self]
      have t3_7 := (show ev3 7 = ev2 7 by rw [o3, va_up_ne _ _ (by decide)]).trans t2_7
      have t3_8 := (show ev3 8 = ev2 8 by rw [o3, va_up_ne _ _ (by decide)]).trans t2_8
      have t3_9 := (show ev3 9 = ev2 9 by rw [o3, va_up_ne _ _ (by decide)]).trans t2_9
      have t3_10 := (show ev3 10 = ev2 10 by rw [o3, va_up_ne _ _ (by decide)]).trans t2_10
      have t3_6 := (show ev3 6 = ev2 6 by rw [o3, va_up_ne _ _ (by decide)]).trans t2_6
      refine lv_iload_n hx hb d_Mx_coreInto_18 rfl (lv_at hl 0 rfl) ?_
      refine lv_bipush (v := nI (16)) hx hb d_Mx_coreInto_19 (by decide) ?_
      refine lv_icmp_ge (tgt := 55) hx hb d_Mx_coreInto_21 (by decide) (fun hc => absurd ((nI_leI (by omega) (by omega)).mp hc) (by omega)) (fun _ => ?_)
      refine lv_aload_n hx hb d_Mx_coreInto_24 rfl (lv_at hl 1 rfl) ?_
      refine wv_getf hx hb h 6 (by decide) (fs := [.ref (ad 7), .ref (ad 8), .ref (ad 9), .ref (ad 10), .ref (ad 11)]) t3_6 hts (fun w hw => List.mem_cons_of_mem _ (fW_Mx w hw)) hown (ci := 2) (C := "NonceBox$Mixer") (T := fT_Mx) (N := 5) rfl 1 (by decide) (hts _ (List.mem_cons_of_mem _ kf_Mx_15)) rfl (v := .ref (ad 8)) rfl d_Mx_coreInto_25 ?_
      refine lv_iload_n hx hb d_Mx_coreInto_28 rfl (lv_at hl 0 rfl) ?_
      refine wv_iald hx hb h 8 (by decide) (f := (RND K X)) t3_8 (k := k) rfl (by omega) (by decide) d_Mx_coreInto_29 ?_
      refine lv_aload_n hx hb d_Mx_coreInto_30 rfl (lv_at hl 1 rfl) ?_
      refine wv_getf hx hb h 6 (by decide) (fs := [.ref (ad 7), .ref (ad 8), .ref (ad 9), .ref (ad 10), .ref (ad 11)]) t3_6 hts (fun w hw => List.mem_cons_of_mem _ (fW_Mx w hw)) hown (ci := 2) (C := "NonceBox$Mixer") (T := fT_Mx) (N := 5) rfl 0 (by decide) (hts _ (List.mem_cons_of_mem _ kf_Mx_11)) rfl (v := .ref (ad 7)) rfl d_Mx_coreInto_31 ?_
      refine lv_iload_n hx hb d_Mx_coreInto_34 rfl (lv_at hl 0 rfl) ?_
      refine wv_iald hx hb h 7 (by decide) (f := (LAY K X)) t3_7 (k := k) rfl (by omega) (by decide) d_Mx_coreInto_35 ?_
      refine lv_iadd hx hb d_Mx_coreInto_36 ?_
      refine lv_aload_n hx hb d_Mx_coreInto_37 rfl (lv_at hl 1 rfl) ?_
      refine wv_getf hx hb h 6 (by decide) (fs := [.ref (ad 7), .ref (ad 8), .ref (ad 9), .ref (ad 10), .ref (ad 11)]) t3_6 hts (fun w hw => List.mem_cons_of_mem _ (fW_Mx w hw)) hown (ci := 2) (C := "NonceBox$Mixer") (T := fT_Mx) (N := 5) rfl 4 (by decide) (hts _ (List.mem_cons_of_mem _ kf_Mx_25)) rfl (v := .ref (ad 11)) rfl d_Mx_coreInto_38 ?_
      refine lv_iload_n hx hb d_Mx_coreInto_41 rfl (lv_at hl 2 rfl) ?_
      refine lv_iconst (v := nI (4)) hx hb d_Mx_coreInto_42 (by decide) ?_
      refine lv_iload_n hx hb d_Mx_coreInto_43 rfl (lv_at hl 0 rfl) ?_
      refine lv_imul hx hb d_Mx_coreInto_44 ?_
      refine wv_top (pk_mul _ _) ?_
      refine lv_iadd hx hb d_Mx_coreInto_45 ?_
      refine wv_top (nI_add _ _) ?_
      refine wv_Sx (As := [.int ((((RND K X)) k) + (((LAY K X)) k)), .ref (ad 11), .int (nI (o + (4 * k)))]) (rest := []) (k := 3) ⟨hx, hb, hml, hown, hts⟩ h (m_Mx_writeWord l G A ad ev3 (RND K X k + LAY K X k) 11 128 (o + 4 * k) (fil o (4 * k) (COREB K X) S) (by decide) t3_11 (by omega) (by decide)) kc_Mx_writeWord kl_Mx_35 ks_Mx_writeWord ki_Mx (by decide +kernel) ⟨rfl, rfl, Nat.le_of_ble_eq_true rfl, Nat.le_of_ble_eq_true rfl⟩ hl.1 rfl rfl (Nat.le_of_ble_eq_true rfl) ⟨Nat.le_refl _, Nat.le_refl _⟩ d_Mx_coreInto_46 ?_
      intro ov ev4 H locs hp h
      rw [hp.1]
      refine W.eq (g2 := F0 m 49 ls []) rfl ?_
      have o4 : ev4 = (va_up ev3 11 (eB G 128 (bs (fil (o + 4 * k) 4 (byN (RND K X k + LAY K X k)) (fil o (4 * k) (COREB K X) S))))) := hp.2
      have t4_11 : ev4 11 = eB G 128 (bs (fil (o + 4 * k) 4 (byN (RND K X k + LAY K X k)) (fil o (4 * k) (COREB K X) S))) := by rw [o4, va_up_self]
      have t4_7 := (show ev4 7 = ev3 7 by rw [o4, va_up_ne _ _ (by decide)]).trans t3_7
      have t4_8 := (show ev4 8 = ev3 8 by rw [o4, va_up_ne _ _ (by decide)]).trans t3_8
      have t4_9 := (show ev4 9 = ev3 9 by rw [o4, va_up_ne _ _ (by decide)]).trans t3_9
      have t4_10 := (show ev4 10 = ev3 10 by rw [o4, va_up_ne _ _ (by decide)]).trans t3_10
      have t4_6 := (show ev4 6 = ev3 6 by rw [o4, va_up_ne _ _ (by decide)]).trans t3_6
      refine lv_iinc (v := nI (k + 1)) (lv' := [(2, .int (nI (k + 1))), (0, .ref (ad 6)), (1, .int (nI (o)))]) hx hb d_Mx_coreInto_49 hl (k := 0) rfl (nI_add _ _) (by decide) rfl (fun ls hl => ?_)
      refine lv_goto (tgt := 18) hx hb d_Mx_coreInto_52 (by decide) ?_
      refine ih (k + 1) (by omega) ev4 H locs ls ?_ h (lv_sub hl [0, 1, 2] rfl)
      rw [o4, o3, va_up2, core_s]
  exact loop3 16 0 rfl ev2 H locs ls (by rw [Nat.mul_zero, fil_0, va_upi _ _ t2_11]) h (lv_sub hl [0, 1, 2] rfl)
theorem plc_up (X : Nat → Nat) (v i : Nat) : va_up (PLC X v) 8 i = PLC X i := by
  funext j
  unfold va_up PLC
  by_cases h : j = 8
  · subst h
    simp
  · rw [if_neg h]
    by_cases h2 : j < 8
    · rw [if_pos h2, if_pos h2]
    · rw [if_neg h2, if_neg h2, if_neg h, if_neg h]
theorem plc_lt {X : Nat → Nat} (hX : ∀ j, X j < 256) {v : Nat} (hv : v < 256) (j : Nat) : PLC X v j < 256 := by
  unfold PLC
  by_cases h : j < 8
  · rw [if_pos h]; exact hX _
  · rw [if_neg h]
    by_cases h2 : j = 8
    · rw [if_pos h2]; exact hv
    · rw [if_neg h2]; decide
theorem str_s (K X S : Nat → Nat) (k : Nat) : fil (0 + 64 * k) 64 (COREB (MIXB K X) (PLC X k)) (fil 0 (64 * k) (STRB K X) S) = fil 0 (64 * (k + 1)) (STRB K X) S :=
  fil_app (fun b hb => by
    unfold STRB
    rw [show (64 * k + b) / 64 = k by omega, show (64 * k + b) % 64 = b by omega])
theorem nar_nI {k : Nat} : vp_nar .byte (nI k).toInt8.toInt32 = sb_b k := by rw [pk_vb]; rfl
theorem d_Mx_streamOf_0 : decode c_Mx_streamOf 0 = .ok (.aload_n 0, 1) := by decide +kernel
theorem d_Mx_streamOf_1 : decode c_Mx_streamOf 1 = .ok (.aload_n 1, 1) := by decide +kernel
theorem d_Mx_streamOf_2 : decode c_Mx_streamOf 2 = .ok (.aload_n 2, 1) := by decide +kernel
theorem d_Mx_streamOf_3 : decode c_Mx_streamOf 3 = .ok (.aload_n 0, 1) := by decide +kernel
theorem d_Mx_streamOf_4 : decode c_Mx_streamOf 4 = .ok (.getfield 18, 3) := by decide +kernel
theorem d_Mx_streamOf_7 : decode c_Mx_streamOf 7 = .ok (.invokevirtual 39, 3) := by decide +kernel
theorem d_Mx_streamOf_10 : decode c_Mx_streamOf 10 = .ok (.aload_n 2, 1) := by decide +kernel
theorem d_Mx_streamOf_11 : decode c_Mx_streamOf 11 = .ok (.bipush 16, 2) := by decide +kernel
theorem d_Mx_streamOf_13 : decode c_Mx_streamOf 13 = .ok (.aload_n 0, 1) := by decide +kernel
theorem d_Mx_streamOf_14 : decode c_Mx_streamOf 14 = .ok (.getfield 22, 3) := by decide +kernel
theorem d_Mx_streamOf_17 : decode c_Mx_streamOf 17 = .ok (.iconst 0, 1) := by decide +kernel
theorem d_Mx_streamOf_18 : decode c_Mx_streamOf 18 = .ok (.bipush 8, 2) := by decide +kernel
theorem d_Mx_streamOf_20 : decode c_Mx_streamOf 20 = .ok (.invokestatic 43, 3) := by decide +kernel
theorem d_Mx_streamOf_23 : decode c_Mx_streamOf 23 = .ok (.iconst 0, 1) := by decide +kernel
theorem d_Mx_streamOf_24 : decode c_Mx_streamOf 24 = .ok (.istore 4, 2) := by decide +kernel
theorem d_Mx_streamOf_26 : decode c_Mx_streamOf 26 = .ok (.iload 4, 2) := by decide +kernel
theorem d_Mx_streamOf_28 : decode c_Mx_streamOf 28 = .ok (.iconst 2, 1) := by decide +kernel
theorem d_Mx_streamOf_29 : decode c_Mx_streamOf 29 = .ok (.if_icmp .ge 37, 3) := by decide +kernel
theorem d_Mx_streamOf_32 : decode c_Mx_streamOf 32 = .ok (.iload 4, 2) := by decide +kernel
theorem d_Mx_streamOf_34 : decode c_Mx_streamOf 34 = .ok (.bipush 64, 2) := by decide +kernel
theorem d_Mx_streamOf_36 : decode c_Mx_streamOf 36 = .ok (.imul, 1) := by decide +kernel
theorem d_Mx_streamOf_37 : decode c_Mx_streamOf 37 = .ok (.iload_n 3, 1) := by decide +kernel
theorem d_Mx_streamOf_38 : decode c_Mx_streamOf 38 = .ok (.if_icmp .ge 28, 3) := by decide +kernel
theorem d_Mx_streamOf_41 : decode c_Mx_streamOf 41 = .ok (.aload_n 0, 1) := by decide +kernel
theorem d_Mx_streamOf_42 : decode c_Mx_streamOf 42 = .ok (.getfield 22, 3) := by decide +kernel
theorem d_Mx_streamOf_45 : decode c_Mx_streamOf 45 = .ok (.bipush 8, 2) := by decide +kernel
theorem d_Mx_streamOf_47 : decode c_Mx_streamOf 47 = .ok (.iload 4, 2) := by decide +kernel
theorem d_Mx_streamOf_49 : decode c_Mx_streamOf 49 = .ok (.i2b, 1) := by decide +kernel
theorem d_Mx_streamOf_50 : decode c_Mx_streamOf 50 = .ok (.bastore, 1) := by decide +kernel
theorem d_Mx_streamOf_51 : decode c_Mx_streamOf 51 = .ok (.aload_n 0, 1) := by decide +kernel
theorem d_Mx_streamOf_52 : decode c_Mx_streamOf 52 = .ok (.iload 4, 2) := by decide +kernel
theorem d_Mx_streamOf_54 : decode c_Mx_streamOf 54 = .ok (.bipush 64, 2) := by decide +kernel
theorem d_Mx_streamOf_56 : decode c_Mx_streamOf 56 = .ok (.imul, 1) := by decide +kernel
theorem d_Mx_streamOf_57 : decode c_Mx_streamOf 57 = .ok (.invokevirtual 49, 3) := by decide +kernel
theorem d_Mx_streamOf_60 : decode c_Mx_streamOf 60 = .ok (.iinc 4 1, 3) := by decide +kernel
theorem d_Mx_streamOf_63 : decode c_Mx_streamOf 63 = .ok (.goto (-37), 3) := by decide +kernel
theorem d_Mx_streamOf_66 : decode c_Mx_streamOf 66 = .ok (.aload_n 0, 1) := by decide +kernel
theorem d_Mx_streamOf_67 : decode c_Mx_streamOf 67 = .ok (.getfield 25, 3) := by decide +kernel
theorem d_Mx_streamOf_70 : decode c_Mx_streamOf 70 = .ok (.areturn, 1) := by decide +kernel
set_option maxRecDepth 100000 in
set_option maxHeartbeats 4000000 in
/-- THE STREAM, n bytes of it at least -/
theorem m_Mx_streamOf (l : Launch) (G : wG) (A : Nat → Prop) (ad : Nat → Nat) (ev : Nat → va_E) (qk qx Nk Nx n : Nat) (K X SK PP S : Nat → Nat) (f g : Nat → Int32) (hqk : qk < 52) (hqx : qx < 52) (h6 : ev 6 = eO 2 [.ref (ad 7), .ref (ad 8), .ref (ad 9), .ref (ad 10), .ref (ad 11)]) (h7 : ev 7 = eI G 16 f) (h8 : ev 8 = eI G 16 g) (h9 : ev 9 = eB G 32 (bs SK)) (h10 : ev 10 = eB G 16 (bs PP)) (h11 : ev 11 = eB G 128 (bs S)) (hk : ev qk = eB G Nk (bs K)) (hx' : ev qx = eB G Nx (bs X)) (k7 : qk ≠ 7) (x7 : qx < 6 ∨ 11 < qx) (hK : ∀ j, K j < 256) (hX : ∀ j, X j < 256) (hP : ∀ j, PP j < 256) (hP0 : ∀ j, 9 ≤ j → PP j = 0) (hS : ∀ j, S j < 256) (nk : 32 ≤ Nk) (nx : 24 ≤ Nx) (hn : n ≤ 128) (nk2 : Nk < 2 ^ 31) (nx2 : Nx < 2 ^ 31) : wM l y_Mx_streamOf w_Mx_streamOf ({ frames := 12, cells := 0, slots := 0, locals := 400 }) G A 52 ad ev [.ref (ad 6), .ref (ad qk), .ref (ad qx), .int (nI (n))] (fun ov ev' => ∃ (f7 f8 : Nat → Int32) (v : Nat) (S' : Nat → Nat), ov = some (.ref (ad 11)) ∧ ev' = va_up (va_up (va_up (va_up (va_up ev 7 (eI G 16 f7)) 8 (eI G 16 f8)) 9 (eB G 32 (bs (MIXB K X)))) 10 (eB G 16 (bs (PLC X v)))) 11 (eB G 128 (bs S')) ∧ v < 256 ∧ (∀ j, S' j < 256) ∧ ∀ j, j < n → S' j = STRB K X j) := by
  refine wv_ofW (cc := c_Mx_streamOf) (maxL := 5) (ret := (Option.some (FieldType.array FieldType.byte))) (by decide) rfl (Nat.le_of_ble_eq_true rfl) ?_
  intro p e s m below meth c ls hx hb hr hml hts hown hlocks hini h hl
  have hl : lv_has ls 5 [(0, .ref (ad 6)), (1, .ref (ad qk)), (2, .ref (ad qx)), (3, .int (nI (n)))] := hl
  refine lv_aload_n hx hb d_Mx_streamOf_0 rfl (lv_at hl 0 rfl) ?_
  refine lv_aload_n hx hb d_Mx_streamOf_1 rfl (lv_at hl 1 rfl) ?_
  refine lv_aload_n hx hb d_Mx_streamOf_2 rfl (lv_at hl 2 rfl) ?_
  refine lv_aload_n hx hb d_Mx_streamOf_3 rfl (lv_at hl 0 rfl) ?_
  refine wv_getf hx hb h 6 (by decide) (fs := [.ref (ad 7), .ref (ad 8), .ref (ad 9), .ref (ad 10), .ref (ad 11)]) h6 hts (fun w hw => List.mem_cons_of_mem _ (fW_Mx w hw)) hown (ci := 2) (C := "NonceBox$Mixer") (T := fT_Mx) (N := 5) rfl 2 (by decide) (hts _ (List.mem_cons_of_mem _ kf_Mx_18)) rfl (v := .ref (ad 9)) rfl d_Mx_streamOf_4 ?_
  refine wv_V (As := [.ref (ad qk), .ref (ad qx), .ref (ad 9)]) (rest := []) (k := 3) ⟨hx, hb, hml, hown, hts⟩ h 6 (by decide) (C := "NonceBox$Mixer") h6 rfl (m_Mx_mixInto l G A ad ev qk qx 9 Nk Nx 32 K X SK f g hqk hqx (by decide) h6 h7 h8 hk hx' h9 k7 (by omega) (by decide) (by decide) (by decide) hK hX nk (by omega) (by decide) nk2 nx2 (by decide)) kc_Mx_mixInto kl_Mx_39 km_Mx_mixInto kv_Mx_mixInto ki_Mx (by decide +kernel) ⟨rfl, rfl, Nat.le_of_ble_eq_true rfl, Nat.le_of_ble_eq_true rfl⟩ hl.1 rfl rfl (Nat.le_of_ble_eq_true rfl) ⟨Nat.le_refl _, Nat.le_refl _⟩ d_Mx_streamOf_7 ?_
  intro ov ev1 H locs hp h
  rw [hp.1]
  refine W.eq (g2 := F0 m 10 ls []) rfl ?_
  have o1 : ev1 = (va_up (va_up (va_up ev 7 (eI G 16 (LAY K X))) 8 (eI G 16 (RND K X))) 9 (eB G 32 (bs (fil 0 32 (MIXB K X) SK)))) := hp.2
  have t1_7 : ev1 7 = eI G 16 (LAY K X) := by rw [o1, va_up_ne _ _ (by decide), va_up_ne _ _ (by decide), va_up_self]
  have t1_8 : ev1 8 = eI G 16 (RND K X) := by rw [o1, va_up_ne _ _ (by decide), va_up_self]
  have t1_9 : ev1 9 = eB G 32 (bs (fil 0 32 (MIXB K X) SK)) := by rw [o1, va_up_self]
  have t1_10 := (show ev1 10 = ev 10 by rw [o1, va_up_ne _ _ (by decide), va_up_ne _ _ (by decide), va_up_ne _ _ (by decide)]).trans h10
  have t1_11 := (show ev1 11 = ev 11 by rw [o1, va_up_ne _ _ (by decide), va_up_ne _ _ (by decide), va_up_ne _ _ (by decide)]).trans h11
  have t1_qx := (show ev1 qx = ev qx by rw [o1, va_up_ne _ _ (by omega), va_up_ne _ _ (by omega), va_up_ne _ _ (by omega)]).trans hx'
  have t1_6 := (show ev1 6 = ev 6 by rw [o1, va_up_ne _ _ (by decide), va_up_ne _ _ (by decide), va_up_ne _ _ (by decide)]).trans h6
  have h := wT_eqB (g := (bs (MIXB K X))) h 9 (by decide) t1_9 (fun j hj => by unfold bs fil; rw [if_pos (by omega), Nat.sub_zero])
  obtain ⟨ev2, o2⟩ : ∃ z, z = va_up ev1 9 (eB G 32 (bs (MIXB K X))) := ⟨_, rfl⟩
  rw [← o2] at h
  have t2_9 : ev2 9 = eB G 32 (bs (MIXB K X)) := by rw [o2, va_up_self]
  have t2_7 := (show ev2 7 = ev1 7 by rw [o2, va_up_ne _ _ (by decide)]).trans t1_7
  have t2_8 := (show ev2 8 = ev1 8 by rw [o2, va_up_ne _ _ (by decide)]).trans t1_8
  have t2_10 := (show ev2 10 = ev1 10 by rw [o2, va_up_ne _ _ (by decide)]).trans t1_10
  have t2_11 := (show ev2 11 = ev1 11 by rw [o2, va_up_ne _ _ (by decide)]).trans t1_11
  have t2_qx := (show ev2 qx = ev1 qx by rw [o2, va_up_ne _ _ (by omega)]).trans t1_qx
  have t2_6 := (show ev2 6 = ev1 6 by rw [o2, va_up_ne _ _ (by decide)]).trans t1_6
  refine lv_aload_n hx hb d_Mx_streamOf_10 rfl (lv_at hl 2 rfl) ?_
  refine lv_bipush (v := nI (16)) hx hb d_Mx_streamOf_11 (by decide) ?_
  refine lv_aload_n hx hb d_Mx_streamOf_13 rfl (lv_at hl 0 rfl) ?_
  refine wv_getf hx hb h 6 (by decide) (fs := [.ref (ad 7), .ref (ad 8), .ref (ad 9), .ref (ad 10), .ref (ad 11)]) t2_6 hts (fun w hw => List.mem_cons_of_mem _ (fW_Mx w hw)) hown (ci := 2) (C := "NonceBox$Mixer") (T := fT_Mx) (N := 5) rfl 3 (by decide) (hts _ (List.mem_cons_of_mem _ kf_Mx_22)) rfl (v := .ref (ad 10)) rfl d_Mx_streamOf_14 ?_
  refine lv_iconst (v := nI (0)) hx hb d_Mx_streamOf_17 (by decide) ?_
  refine lv_bipush (v := nI (8)) hx hb d_Mx_streamOf_18 (by decide) ?_
  refine wv_copyb hx hb (hml.trans hl.1.symm) h hown (hts _ (List.mem_cons_of_mem _ kl_Mx_43)) (hts _ (List.mem_cons_of_mem _ kn_Sy_arraycopy)) (hts _ (List.mem_cons_of_mem _ ks_Sy_arraycopy)) (hts _ (List.mem_cons_of_mem _ ki_Sy)) qx 10 hqx (by decide) (f := (bs X)) (g := (bs PP)) t2_qx t2_10 (a := 16) (b := 0) (d := 8) rfl rfl rfl (by omega) (by omega) nx2 (by decide) (fun i _ => bs_fit _ _) (by decide) (by decide) d_Mx_streamOf_20 (fun H locs h => ?_)
  obtain ⟨ev3, o3⟩ : ∃ z, z = va_up ev2 10 (eB G 16 (va_cpy (bs X) (bs PP) 16 0 8)) := ⟨_, rfl⟩
  rw [← o3] at h
  have t3_10 : ev3 10 = eB G 16 (va_cpy (bs X) (bs PP) 16 0 8) := by rw [o3, va_up_self]
  have t3_7 := (show ev3 7 = ev2 7 by rw [o3, va_up_ne _ _ (by decide)]).trans t2_7
  have t3_8 := (show ev3 8 = ev2 8 by rw [o3, va_up_ne _ _ (by decide)]).trans t2_8
  have t3_9 := (show ev3 9 = ev2 9 by rw [o3, va_up_ne _ _ (by decide)]).trans t2_9
  have t3_11 := (show ev3 11 = ev2 11 by rw [o3, va_up_ne _ _ (by decide)]).trans t2_11
  have t3_qx := (show ev3 qx = ev2 qx by rw [o3, va_up_ne _ _ (by omega)]).trans t2_qx
  have t3_6 := (show ev3 6 = ev2 6 by rw [o3, va_up_ne _ _ (by decide)]).trans t2_6
  have h := wT_eqB (g := (bs (PLC X (PP 8)))) h 10 (by decide) t3_10 (fun j hj => by
      unfold va_cpy bs PLC
      by_cases c1 : j < 8
      · rw [if_pos (by omega), if_pos c1, Nat.sub_zero]
      · rw [if_neg (by omega), if_neg c1]
        by_cases c2 : j = 8
        · rw [if_pos c2, c2]
        · rw [if_neg c2, hP0 j (by omega)])
  obtain ⟨ev4, o4⟩ : ∃ z, z = va_up ev3 10 (eB G 16 (bs (PLC X (PP 8)))) := ⟨_, rfl⟩
  rw [← o4] at h
  have t4_10 : ev4 10 = eB G 16 (bs (PLC X (PP 8))) := by rw [o4, va_up_self]
  have t4_7 := (show ev4 7 = ev3 7 by rw [o4, va_up_ne _ _ (by decide)]).trans t3_7
  have t4_8 := (show ev4 8 = ev3 8 by rw [o4, va_up_ne _ _ (by decide)]).trans t3_8
  have t4_9 := (show ev4 9 = ev3 9 by rw [o4, va_up_ne _ _ (by decide)]).trans t3_9
  have t4_11 := (show ev4 11 = ev3 11 by rw [o4, va_up_ne _ _ (by decide)]).trans t3_11
  have t4_qx := (show ev4 qx = ev3 qx by rw [o4, va_up_ne _ _ (by omega)]).trans t3_qx
  have t4_6 := (show ev4 6 = ev3 6 by rw [o4, va_up_ne _ _ (by decide)]).trans t3_6
  refine lv_iconst (v := nI (0)) hx hb d_Mx_streamOf_23 (by decide) ?_
  refine lv_istore (lv' := [(4, .int (nI (0))), (0, .ref (ad 6)), (1, .ref (ad qk)), (2, .ref (ad qx)), (3, .int (nI (n)))]) hx hb d_Mx_streamOf_24 hl (by decide) rfl (fun ls hl => ?_)
  have loop5 : ∀ (d k : Nat), k + d = 2 → ∀ (v : Nat) (f7 f8 : Nat → Int32),  ∀ (ev5 : Nat → va_E) (H : Heap) (locs : List Loc) (ls : Array Slot), v < 256 → ev5 = (va_up (va_up (va_up (va_up ev4 7 (eI G 16 f7)) 8 (eI G 16 f8)) 10 (eB G 16 (bs (PLC X v)))) 11 (eB G 128 (bs (fil 0 (64 * k) (STRB K X) S)))) → wT G A 52 ad ev5 s H locs → lv_has ls 5 [(4, .int (nI (k))), (0, .ref (ad 6)), (1, .ref (ad qk)), (2, .ref (ad qx)), (3, .int (nI (n)))] → W p l e ({ frames := 12, cells := 0, slots := 0, locals := 400 }) s m ([.ref (ad 6), .ref (ad qk), .ref (ad qx), .int (nI (n))] : List Value).toArray below meth c H locs 0 0 (MQ below (wQc G A 52 ad (fun ov ev' => ∃ (f7 f8 : Nat → Int32) (v : Nat) (S' : Nat → Nat), ov = some (.ref (ad 11)) ∧ ev' = va_up (va_up (va_up (va_up (va_up ev 7 (eI G 16 f7)) 8 (eI G 16 f8)) 9 (eB G 32 (bs (MIXB K X)))) 10 (eB G 16 (bs (PLC X v)))) 11 (eB G 128 (bs S')) ∧ v < 256 ∧ (∀ j, S' j < 256) ∧ ∀ j, j < n → S' j = STRB K X j)) ([.ref (ad 6), .ref (ad qk), .ref (ad qx), .int (nI (n))] : List Value).toArray s 0 0 A) (F0 m 26 ls []) := by
    intro d
    induction d with
    | zero =>
      intro k hk_k v f7 f8 ev5 H locs ls hv o5 h hl
      have t5_7 : ev5 7 = eI G 16 f7 := by rw [o5, va_up_ne _ _ (by decide), va_up_ne _ _ (by decide), va_up_ne _ _ (by decide), va_up_self]
      have t5_8 : ev5 8 = eI G 16 f8 := by rw [o5, va_up_ne _ _ (by decide), va_up_ne _ _ (by decide), va_up_self]
      have t5_10 : ev5 10 = eB G 16 (bs (PLC X v)) := by rw [o5, va_up_ne _ _ (by decide), va_up_self]
      have t5_11 : ev5 11 = eB G 128 (bs (fil 0 (64 * k) (STRB K X) S)) := by rw [o5, va_up_self]
      have t5_9 := (show ev5 9 = ev4 9 by rw [o5, va_up_ne _ _ (by decide), va_up_ne _ _ (by decide), va_up_ne _ _ (by decide), va_up_ne _ _ (by decide)]).trans t4_9
      have t5_qx := (show ev5 qx = ev4 qx by rw [o5, va_up_ne _ _ (by omega), va_up_ne _ _ (by omega), va_up_ne _ _ (by omega), va_up_ne _ _ (by omega)]).trans t4_qx
      have t5_6 := (show ev5 6 = ev4 6 by rw [o5, va_up_ne _ _ (by decide), va_up_ne _ _ (by decide), va_up_ne _ _ (by decide), va_up_ne _ _ (by decide)]).trans t4_6
      refine lv_iload hx hb d_Mx_streamOf_26 (lv_at hl 0 rfl) ?_
      refine lv_iconst (v := nI (2)) hx hb d_Mx_streamOf_28 (by decide) ?_
      refine lv_icmp_ge (tgt := 66) hx hb d_Mx_streamOf_29 (by decide) (fun _ => ?_) (fun hc => absurd ((nI_leI (by omega) (by omega)).mpr (by omega)) hc)
      refine lv_aload_n hx hb d_Mx_streamOf_66 rfl (lv_at hl 1 rfl) ?_
      refine wv_getf hx hb h 6 (by decide) (fs := [.ref (ad 7), .ref (ad 8), .ref (ad 9), .ref (ad 10), .ref (ad 11)]) t5_6 hts (fun w hw => List.mem_cons_of_mem _ (fW_Mx w hw)) hown (ci := 2) (C := "NonceBox$Mixer") (T := fT_Mx) (N := 5) rfl 4 (by decide) (hts _ (List.mem_cons_of_mem _ kf_Mx_25)) rfl (v := .ref (ad 11)) rfl d_Mx_streamOf_67 ?_
      refine wv_aret (v := .ref (ad 11)) hx hb hr hlocks h d_Mx_streamOf_70 (Or.inr ⟨_, rfl⟩) (Or.inr ⟨_, rfl⟩) ⟨f7, f8, v, fil 0 (64 * k) (STRB K X) S, rfl, ?_, hv, fil_lt (STRB_lt K X) hS, fun j hj => by unfold fil; rw [if_pos (by omega), Nat.sub_zero]⟩
      rw [o5, o4, o3, o2, o1]
      funext j
      by_cases c0 : j = 7
      · subst c0; simp [va_up]
      by_cases c1 : j = 8
      · subst c1; simp [va_up]
      by_cases c2 : j = 9
      · subst c2; simp [va_up]
      by_cases c3 : j = 10
      · subst c3; simp [va_up]
      by_cases c4 : j = 11
      · subst c4; simp [va_up]
      simp only [va_up, c0, c1, c2, c3, c4, if_false]
    | succ d ih =>
      intro k hk_k v f7 f8 ev5 H locs ls hv o5 h hl
      have t5_7 : ev5 7 = eI G 16 f7 := by rw [o5, va_up_ne _ _ (by decide), va_up_ne _ _ (by decide), va_up_ne _ _ (by decide), va_up_self]
      have t5_8 : ev5 8 = eI G 16 f8 := by rw [o5, va_up_ne _ _ (by decide), va_up_ne _ _ (by decide), va_up_self]
      have t5_10 : ev5 10 = eB G 16 (bs (PLC X v)) := by rw [o5, va_up_ne _ _ (by decide), va_up_self]
      have t5_11 : ev5 11 = eB G 128 (bs (fil 0 (64 * k) (STRB K X) S)) := by rw [o5, va_up_self]
      have t5_9 := (show ev5 9 = ev4 9 by rw [o5, va_up_ne _ _ (by decide), va_up_ne _ _ (by decide), va_up_ne _ _ (by decide), va_up_ne _ _ (by decide)]).trans t4_9
      have t5_qx := (show ev5 qx = ev4 qx by rw [o5, va_up_ne _ _ (by omega), va_up_ne _ _ (by omega), va_up_ne _ _ (by omega), va_up_ne _ _ (by omega)]).trans t4_qx
      have t5_6 := (show ev5 6 = ev4 6 by rw [o5, va_up_ne _ _ (by decide), va_up_ne _ _ (by decide), va_up_ne _ _ (by decide), va_up_ne _ _ (by decide)]).trans t4_6
      refine lv_iload hx hb d_Mx_streamOf_26 (lv_at hl 0 rfl) ?_
      refine lv_iconst (v := nI (2)) hx hb d_Mx_streamOf_28 (by decide) ?_
      refine lv_icmp_ge (tgt := 66) hx hb d_Mx_streamOf_29 (by decide) (fun hc => absurd ((nI_leI (by omega) (by omega)).mp hc) (by omega)) (fun _ => ?_)
      refine lv_iload hx hb d_Mx_streamOf_32 (lv_at hl 0 rfl) ?_
      refine lv_bipush (v := nI (64)) hx hb d_Mx_streamOf_34 (by decide) ?_
      refine lv_imul hx hb d_Mx_streamOf_36 ?_
      refine wv_top (pk_mul _ _) ?_
      refine lv_iload_n hx hb d_Mx_streamOf_37 rfl (lv_at hl 4 rfl) ?_
      refine lv_icmp_ge (tgt := 66) hx hb d_Mx_streamOf_38 (by decide) (fun hc => ?_) (fun hc => ?_)
      · have hc := (nI_leI (by omega) (by omega)).mp hc
        refine lv_aload_n hx hb d_Mx_streamOf_66 rfl (lv_at hl 1 rfl) ?_
        refine wv_getf hx hb h 6 (by decide) (fs := [.ref (ad 7), .ref (ad 8), .ref (ad 9), .ref (ad 10), .ref (ad 11)]) t5_6 hts (fun w hw => List.mem_cons_of_mem _ (fW_Mx w hw)) hown (ci := 2) (C := "NonceBox$Mixer") (T := fT_Mx) (N := 5) rfl 4 (by decide) (hts _ (List.mem_cons_of_mem _ kf_Mx_25)) rfl (v := .ref (ad 11)) rfl d_Mx_streamOf_67 ?_
        refine wv_aret (v := .ref (ad 11)) hx hb hr hlocks h d_Mx_streamOf_70 (Or.inr ⟨_, rfl⟩) (Or.inr ⟨_, rfl⟩) ⟨f7, f8, v, fil 0 (64 * k) (STRB K X) S, rfl, ?_, hv, fil_lt (STRB_lt K X) hS, fun j hj => by unfold fil; rw [if_pos (by omega), Nat.sub_zero]⟩
        rw [o5, o4, o3, o2, o1]
        funext j
        by_cases c0 : j = 7
        · subst c0; simp [va_up]
        by_cases c1 : j = 8
        · subst c1; simp [va_up]
        by_cases c2 : j = 9
        · subst c2; simp [va_up]
        by_cases c3 : j = 10
        · subst c3; simp [va_up]
        by_cases c4 : j = 11
        · subst c4; simp [va_up]
        simp only [va_up, c0, c1, c2, c3, c4, if_false]
      · skip
        refine lv_aload_n hx hb d_Mx_streamOf_41 rfl (lv_at hl 1 rfl) ?_
        refine wv_getf hx hb h 6 (by decide) (fs := [.ref (ad 7), .ref (ad 8), .ref (ad 9), .ref (ad 10), .ref (ad 11)]) t5_6 hts (fun w hw => List.mem_cons_of_mem _ (fW_Mx w hw)) hown (ci := 2) (C := "NonceBox$Mixer") (T := fT_Mx) (N := 5) rfl 3 (by decide) (hts _ (List.mem_cons_of_mem _ kf_Mx_22)) rfl (v := .ref (ad 10)) rfl d_Mx_streamOf_42 ?_
        refine lv_bipush (v := nI (8)) hx hb d_Mx_streamOf_45 (by decide) ?_
        refine lv_iload hx hb d_Mx_streamOf_47 (lv_at hl 0 rfl) ?_
        refine lv_i2b hx hb d_Mx_streamOf_49 rfl ?_
        refine wv_bast hx hb h 10 (by decide) (f := (bs (PLC X v))) t5_10 (k := 8) rfl (by decide) (by decide) d_Mx_streamOf_50 (fun H locs h => ?_)
        obtain ⟨ev6, o6⟩ : ∃ z, z = va_up ev5 10 (eB G 16 (va_up ((bs (PLC X v))) 8 (vp_nar .byte ((nI (k)).toInt8.toInt32)))) := ⟨_, rfl⟩
        rw [← o6] at h
        have t6_10 : ev6 10 = eB G 16 (va_up ((bs (PLC X v))) 8 (vp_nar .byte ((nI (k)).toInt8.toInt32))) := by rw [o6, va_up_self]
        have t6_7 := (show ev6 7 = ev5 7 by rw [o6, va_up_ne _ _ (by decide)]).trans t5_7
        have t6_8 := (show ev6 8 = ev5 8 by rw [o6, va_up_ne _ _ (by decide)]).trans t5_8
        have t6_9 := (show ev6 9 = ev5 9 by rw [o6, va_up_ne _ _ (by decide)]).trans t5_9
        have t6_11 := (show ev6 11 = ev5 11 by rw [o6, va_up_ne _ _ (by decide)]).trans t5_11
        have t6_qx := (show ev6 qx = ev5 qx by rw [o6, va_up_ne _ _ (by omega)]).trans t5_qx
        have t6_6 := (show ev6 6 = ev5 6 by rw [o6, va_up_ne _ _ (by decide)]).trans t5_6
        rw [bs_up _ _ k nar_nI, plc_up] at o6 t6_10
        refine lv_aload_n hx hb d_Mx_streamOf_51 rfl (lv_at hl 1 rfl) ?_
        refine lv_iload hx hb d_Mx_streamOf_52 (lv_at hl 0 rfl) ?_
        refine lv_bipush (v := nI (64)) hx hb d_Mx_streamOf_54 (by decide) ?_
        refine lv_imul hx hb d_Mx_streamOf_56 ?_
        refine wv_top (pk_mul _ _) ?_
        refine wv_V (As := [.int (nI (k * 64))]) (rest := []) (k := 1) ⟨hx, hb, hml, hown, hts⟩ h 6 (by decide) (C := "NonceBox$Mixer") t6_6 rfl (m_Mx_coreInto l G A ad ev6 (k * 64) (MIXB K X) (PLC X k) (fil 0 (64 * k) (STRB K X) S) f7 f8 t6_6 t6_7 t6_8 t6_9 t6_10 t6_11 (MIXB_lt K X) (plc_lt hX (by omega)) (by omega)) kc_Mx_coreInto kl_Mx_49 km_Mx_coreInto kv_Mx_coreInto ki_Mx (by decide +kernel) ⟨rfl, rfl, Nat.le_of_ble_eq_true rfl, Nat.le_of_ble_eq_true rfl⟩ hl.1 rfl rfl (Nat.le_of_ble_eq_true rfl) ⟨Nat.le_refl _, Nat.le_refl _⟩ d_Mx_streamOf_57 ?_
        intro ov ev7 H locs hp h
        rw [hp.1]
        refine W.eq (g2 := F0 m 60 ls []) rfl ?_
        have o7 : ev7 = (va_up (va_up (va_up ev6 7 (eI G 16 (LAY (MIXB K X) (PLC X k)))) 8 (eI G 16 (RND (MIXB K X) (PLC X k)))) 11 (eB G 128 (bs (fil (k * 64) 64 (COREB (MIXB K X) (PLC X k)) (fil 0 (64 * k) (STRB K X) S))))) := hp.2
        have t7_7 : ev7 7 = eI G 16 (LAY (MIXB K X) (PLC X k)) := by rw [o7, va_up_ne _ _ (by decide), va_up_ne _ _ (by decide), va_up_self]
        have t7_8 : ev7 8 = eI G 16 (RND (MIXB K X) (PLC X k)) := by rw [o7, va_up_ne _ _ (by decide), va_up_self]
        have t7_11 : ev7 11 = eB G 128 (bs (fil (k * 64) 64 (COREB (MIXB K X) (PLC X k)) (fil 0 (64 * k) (STRB K X) S))) := by rw [o7, va_up_self]
        have t7_9 := (show ev7 9 = ev6 9 by rw [o7, va_up_ne _ _ (by decide), va_up_ne _ _ (by decide), va_up_ne _ _ (by decide)]).trans t6_9
        have t7_10 := (show ev7 10 = ev6 10 by rw [o7, va_up_ne _ _ (by decide), va_up_ne _ _ (by decide), va_up_ne _ _ (by decide)]).trans t6_10
        have t7_qx := (show ev7 qx = ev6 qx by rw [o7, va_up_ne _ _ (by omega), va_up_ne _ _ (by omega), va_up_ne _ _ (by omega)]).trans t6_qx
        have t7_6 := (show ev7 6 = ev6 6 by rw [o7, va_up_ne _ _ (by decide), va_up_ne _ _ (by decide), va_up_ne _ _ (by decide)]).trans t6_6
        refine lv_iinc (v := nI (k + 1)) (lv' := [(4, .int (nI (k + 1))), (0, .ref (ad 6)), (1, .ref (ad qk)), (2, .ref (ad qx)), (3, .int (nI (n)))]) hx hb d_Mx_streamOf_60 hl (k := 0) rfl (nI_add _ _) (by decide) rfl (fun ls hl => ?_)
        refine lv_goto (tgt := 26) hx hb d_Mx_streamOf_63 (by decide) ?_
        refine ih (k + 1) (by omega) k (LAY (MIXB K X) (PLC X k)) (RND (MIXB K X) (PLC X k)) ev7 H locs ls (by omega) ?_ h (lv_sub hl [0, 1, 2, 3, 4] rfl)
        rw [← str_s K X S k, Nat.zero_add]
        rw [Nat.mul_comm k 64] at o7
        rw [o7, o6, o5]
        funext j
        by_cases c0 : j = 7
        · subst c0; simp [va_up]
        by_cases c1 : j = 8
        · subst c1; simp [va_up]
        by_cases c2 : j = 10
        · subst c2; simp [va_up]
        by_cases c3 : j = 11
        · subst c3; simp [va_up]
        simp only [va_up, c0, c1, c2, c3, if_false]
  refine loop5 2 0 rfl (PP 8) (LAY K X) (RND K X) ev4 H locs ls (hP 8) ?_ h (lv_sub hl [0, 1, 2, 3, 4] rfl)
  rw [Nat.mul_zero, fil_0]
  rw [va_upi _ 7 t4_7, va_upi _ 8 t4_8, va_upi _ 10 t4_10, va_upi _ 11 t4_11]
