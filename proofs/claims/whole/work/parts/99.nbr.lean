theorem d_NB_seal_0 : decode c_NB_seal 0 = .ok (.aload_n 0, 1) := by decide +kernel
theorem d_NB_seal_1 : decode c_NB_seal 1 = .ok (.getfield 25, 3) := by decide +kernel
theorem d_NB_seal_4 : decode c_NB_seal 4 = .ok (.bipush 96, 2) := by decide +kernel
theorem d_NB_seal_6 : decode c_NB_seal 6 = .ok (.if_icmp .le 13, 3) := by decide +kernel
theorem d_NB_seal_9 : decode c_NB_seal 9 = .ok (.new 98, 3) := by decide +kernel
theorem d_NB_seal_12 : decode c_NB_seal 12 = .ok (.dup, 1) := by decide +kernel
theorem d_NB_seal_13 : decode c_NB_seal 13 = .ok (.ldc 100, 2) := by decide +kernel
theorem d_NB_seal_15 : decode c_NB_seal 15 = .ok (.invokespecial 102, 3) := by decide +kernel
theorem d_NB_seal_18 : decode c_NB_seal 18 = .ok (.athrow, 1) := by decide +kernel
theorem d_NB_seal_19 : decode c_NB_seal 19 = .ok (.aload_n 0, 1) := by decide +kernel
theorem d_NB_seal_20 : decode c_NB_seal 20 = .ok (.aload_n 0, 1) := by decide +kernel
theorem d_NB_seal_21 : decode c_NB_seal 21 = .ok (.getfield 9, 3) := by decide +kernel
theorem d_NB_seal_24 : decode c_NB_seal 24 = .ok (.invokevirtual 105, 3) := by decide +kernel
theorem d_NB_seal_27 : decode c_NB_seal 27 = .ok (.aload_n 0, 1) := by decide +kernel
theorem d_NB_seal_28 : decode c_NB_seal 28 = .ok (.getfield 29, 3) := by decide +kernel
theorem d_NB_seal_31 : decode c_NB_seal 31 = .ok (.ireturn, 1) := by decide +kernel
set_option maxRecDepth 100000 in
set_option maxHeartbeats 4000000 in
/-- seal -/
theorem r_NB_seal (l : Launch) (G : wG) (A : Nat → Prop) (ad : Nat → Nat) (ev : Nat → va_E) (Bf : Nat → Nat → Nat) (tl ol : Nat) (hNB : NB G ad ev Bf tl ol) (h96 : tl ≤ 96) : wM l y_NB_seal w_NB_seal ({ frames := 27, cells := 0, slots := 0, locals := 900 }) G A 52 ad ev [.ref (ad 0)] (fun ov ev' => ov = some (.int (nI (16 + tl))) ∧ NB G ad ev' (va_up Bf 4 (outF (16 + tl) (SEALB (Bf 0) (Bf 1) (Bf 3) tl))) tl (16 + tl) ∧ ∀ j, 37 ≤ j → ev' j = ev j) := by
  refine wv_ofW (cc := c_NB_seal) (maxL := 1) (ret := (Option.some FieldType.int)) (by decide) rfl (Nat.le_of_ble_eq_true rfl) ?_
  intro p e s m below meth c ls hx hb hr hml hts hown hlocks hini h hl
  have hl : lv_has ls 1 [(0, .ref (ad 0))] := hl
  have hNB0 := hNB
  obtain ⟨g0, g1, g2, g3, g4, g5, g6, ⟨x7, g7⟩, ⟨x8, g8⟩, ⟨x9, g9⟩, ⟨x10, b10, z10, g10⟩, ⟨x11, b11, g11⟩, g12, g13, ⟨x14, g14⟩, ⟨x15, g15⟩, ⟨x16, g16⟩, ⟨x17, g17⟩, g18, g19, ⟨x20, g20⟩, ⟨x21, g21⟩, ⟨x22, g22⟩, ⟨x23, g23⟩, ⟨x24, g24⟩, ⟨x25, g25⟩, ⟨x26, g26⟩, ⟨x27, g27⟩, ⟨x28, g28⟩, ⟨x29, g29⟩, ⟨x30, g30⟩, ⟨x31, g31⟩, ⟨x32, g32⟩, ⟨x33, g33⟩, ⟨x34, b34, g34⟩, g35, ⟨x36, b36, g36⟩, hB, htl, hol⟩ := hNB
  refine lv_aload_n hx hb d_NB_seal_0 rfl (lv_at hl 0 rfl) ?_
  refine wv_getf hx hb h 0 (by decide) (fs := [.ref (ad 1), .ref (ad 2), .ref (ad 3), .ref (ad 4), .ref (ad 5), .int (nI (tl)), .int (nI (ol)), .ref (ad 6), .ref (ad 12), .ref (ad 18), .ref (ad 34), .ref (ad 35), .ref (ad 36)]) g0 hts (fun w hw => List.mem_cons_of_mem _ (fW_NB w hw)) hown (ci := 4) (C := "NonceBox") (T := fT_NB) (N := 13) rfl 5 (by decide) (hts _ (List.mem_cons_of_mem _ kf_NB_25)) rfl (v := .int (nI (tl))) rfl d_NB_seal_1 ?_
  refine lv_bipush (v := nI (96)) hx hb d_NB_seal_4 (by decide) ?_
  refine lv_icmp_le (tgt := 19) hx hb d_NB_seal_6 (by decide) (fun _ => ?_) (fun hc => absurd ((nI_leI (by omega) (by omega)).mpr h96) hc)
  refine lv_aload_n hx hb d_NB_seal_19 rfl (lv_at hl 0 rfl) ?_
  refine lv_aload_n hx hb d_NB_seal_20 rfl (lv_at hl 0 rfl) ?_
  refine wv_getf hx hb h 0 (by decide) (fs := [.ref (ad 1), .ref (ad 2), .ref (ad 3), .ref (ad 4), .ref (ad 5), .int (nI (tl)), .int (nI (ol)), .ref (ad 6), .ref (ad 12), .ref (ad 18), .ref (ad 34), .ref (ad 35), .ref (ad 36)]) g0 hts (fun w hw => List.mem_cons_of_mem _ (fW_NB w hw)) hown (ci := 4) (C := "NonceBox") (T := fT_NB) (N := 13) rfl 0 (by decide) (hts _ (List.mem_cons_of_mem _ kf_NB_9)) rfl (v := .ref (ad 1)) rfl d_NB_seal_21 ?_
  refine wv_V (As := [.ref (ad 1)]) (rest := []) (k := 1) ⟨hx, hb, hml, hown, hts⟩ h 0 (by decide) (C := "NonceBox") g0 rfl (m_NB_sealBy l G A ad ev Bf tl ol hNB0 h96 1 (Bf 0) (Or.inl rfl) g1 (hB 0)) kc_NB_sealBy kl_NB_105 km_NB_sealBy kv_NB_sealBy ki_NB (by decide +kernel) ⟨rfl, rfl, Nat.le_of_ble_eq_true rfl, Nat.le_of_ble_eq_true rfl⟩ hl.1 rfl rfl (Nat.le_of_ble_eq_true rfl) ⟨Nat.le_refl _, Nat.le_refl _⟩ d_NB_seal_24 ?_
  intro ov ev9 H locs hp h
  obtain ⟨ho, hN9, hfr⟩ := hp
  rw [ho]
  refine W.eq (g2 := F0 m 27 ls []) rfl ?_
  have hN8 := hN9
  obtain ⟨k0, -⟩ := hN8
  refine lv_aload_n hx hb d_NB_seal_27 rfl (lv_at hl 0 rfl) ?_
  refine wv_getf hx hb h 0 (by decide) (fs := [.ref (ad 1), .ref (ad 2), .ref (ad 3), .ref (ad 4), .ref (ad 5), .int (nI (tl)), .int (nI ((16 + tl))), .ref (ad 6), .ref (ad 12), .ref (ad 18), .ref (ad 34), .ref (ad 35), .ref (ad 36)]) k0 hts (fun w hw => List.mem_cons_of_mem _ (fW_NB w hw)) hown (ci := 4) (C := "NonceBox") (T := fT_NB) (N := 13) rfl 6 (by decide) (hts _ (List.mem_cons_of_mem _ kf_NB_29)) rfl (v := .int (nI ((16 + tl)))) rfl d_NB_seal_28 ?_
  exact wv_iret hx hb hr hlocks h d_NB_seal_31 ⟨rfl, hN9, hfr⟩
