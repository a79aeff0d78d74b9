theorem d_NB_seal_0 : decode c_NB_seal 0 = .ok (.aload_n 0, 1) := by decide +kernel
theorem d_NB_seal_1 : decode c_NB_seal 1 = .ok (.getfield 25, 3) := by decide +kernel
theorem d_NB_seal_4 : decode c_NB_seal 4 = .ok (.bipush 96, 2) := by decide +kernel
theorem d_NB_seal_6 : decode c_NB_seal 6 = .ok (.if_icmp .le 13, 3) := by decide +kernel
theorem d_NB_seal_9 : decode c_NB_seal 9 = .ok (.new 98, 3) := by decide +kernel
theorem d_NB_seal_12 : decode c_NB_seal 12 = .ok (.dup, 1) := by decide +kernel
theorem d_NB_seal_13 : decode c_NB_seal 13 = .ok (.ldc 100, 2) := by decide +kernel
theorem d_NB_seal_15 : decode c_NB_seal 15 = .ok (.invokespecial 102, 3) := by decide +kernel
theorem d_NB_seal_18 : decode c_NB_seal 18 = .ok (.athrow, 1) := by decide +kernel
theorem d_NB_seal_19 : decode c_NB_seal 19 = .ok (.aload_n 0, 1) := by decide +kernel
theorem d_NB_seal_20 : decode c_NB_seal 20 = .ok (.aload_n 0, 1) := by decide +kernel
theorem d_NB_seal_21 : decode c_NB_seal 21 = .ok (.getfield 9, 3) := by decide +kernel
theorem d_NB_seal_24 : decode c_NB_seal 24 = .ok (.invokevirtual 105, 3) := by decide +kernel
theorem d_NB_seal_27 : decode c_NB_seal 27 = .ok (.aload_n 0, 1) := by decide +kernel
theorem d_NB_seal_28 : decode c_NB_seal 28 = .ok (.getfield 29, 3) := by decide +kernel
theorem d_NB_seal_31 : decode c_NB_seal 31 = .ok (.ireturn, 1) := by decide +kernel
set_option maxRecDepth 100000 in
set_option maxHeartbeats 4000000 in
/-- seal -/
theorem r_NB_seal (l : Launch) (G : wG) (A : Nat → Prop) (ad : Nat → Nat) (ev : Nat → va_E) (Bf : Nat → Nat → Nat) (tl ol : Nat) (hNB : NB G ad ev Bf tl ol) (h96 : tl ≤ 96) : wM l y_NB_seal w_NB_seal ({ frames := 27, cells := 0, slots := 0, locals := 900 }) G A 52 ad ev [.ref (ad 0)] (fun ov ev' => ov = some (.int (nI (16 + tl))) ∧ NB G ad ev' (va_up Bf 4 (outF (16 + tl) (SEALB (Bf 0) (Bf 1) (Bf 3) tl))) tl (16 + tl) ∧ ∀ j, 37 ≤ j → ev' j = ev j) := by
  refine wv_ofW (cc := c_NB_seal) (maxL := 1) (ret := (Option.some FieldType.int)) (by decide) rfl (Nat.le_of_ble_eq_true rfl) ?_
  intro p e s m below meth c ls hx hb hr hml hts hown hlocks hini h hl
  have hl : lv_has ls 1 [(0, .ref (ad 0))] := hl
  have hNB0 := hNB
  obtain ⟨g0, g1, g2, g3, g4, g5, g6, ⟨x7, g7⟩, ⟨x8, g8⟩, ⟨x9, g9⟩, ⟨x10, b10, z10, g10⟩, ⟨x11, b11, g11⟩, g12, g13, ⟨x14, g14⟩, ⟨x15, g15⟩, ⟨x16, g16⟩, ⟨x17, g17⟩, g18, g19, ⟨x20, g20⟩, ⟨x21, g21⟩, ⟨x22, g22⟩, ⟨x23, g23⟩, ⟨x24, g24⟩, ⟨x25, g25⟩, ⟨x26, g26⟩, ⟨x27, g27⟩, ⟨x28, g28⟩, ⟨x29, g29⟩, ⟨x30, g30⟩, ⟨x31, g31⟩, ⟨x32, g32⟩, ⟨x33, g33⟩, ⟨x34, b34, g34⟩, g35, ⟨x36, b36, g36⟩, hB, htl, hol⟩ := hNB
  refine lv_aload_n hx hb d_NB_seal_0 rfl (lv_at hl 0 rfl) ?_
  refine wv_getf hx hb h 0 (by decide) (fs := [.ref (ad 1), .ref (ad 2), .ref (ad 3), .ref (ad 4), .ref (ad 5), .int (nI (tl)), .int (nI (ol)), .ref (ad 6), .ref (ad 12), .ref (ad 18), .ref (ad 34), .ref (ad 35), .ref (ad 36)]) g0 hts (fun w hw => List.mem_cons_of_mem _ (fW_NB w hw)) hown (ci := 4) (C := "NonceBox") (T := fT_NB) (N := 13) rfl 5 (by decide) (hts _ (List.mem_cons_of_mem _ kf_NB_25)) rfl (v := .int (nI (tl))) rfl d_NB_seal_1 ?_
  refine lv_bipush (v := nI (96)) hx hb d_NB_seal_4 (by decide) ?_
  refine lv_icmp_le (tgt := 19) hx hb d_NB_seal_6 (by decide) (fun _ => ?_) (fun hc => absurd ((nI_leI (by omega) (by omega)).mpr h96) hc)
  refine lv_aload_n hx hb d_NB_seal_19 rfl (lv_at hl 0 rfl) ?_
  refine lv_aload_n hx hb d_NB_seal_20 rfl (lv_at hl 0 rfl) ?_
  refine wv_getf hx hb h 0 (by decide) (fs := [.ref (ad 1), .ref (ad 2), .ref (ad 3), .ref (ad 4), .ref (ad 5), .int (nI (tl)), .int (nI (ol)), .ref (ad 6), .ref (ad 12), .ref (ad 18), .ref (ad 34), .ref (ad 35), .ref (ad 36)]) g0 hts (fun w hw => List.mem_cons_of_mem _ (fW_NB w hw)) hown (ci := 4) (C := "NonceBox") (T := fT_NB) (N := 13) rfl 0 (by decide) (hts _ (List.mem_cons_of_mem _ kf_NB_9)) rfl (v := .ref (ad 1)) rfl d_NB_seal_21 ?_
  refine wv_V (As := [.ref (ad 1)]) (rest := []) (k := 1) ⟨hx, hb, hml, hown, hts⟩ h 0 (by decide) (C := "NonceBox") g0 rfl (m_NB_sealBy l G A ad ev Bf tl ol hNB0 h96 1 (Bf 0) (Or.inl rfl) g1 (hB 0)) kc_NB_sealBy kl_NB_105 km_NB_sealBy kv_NB_sealBy ki_NB (by decide +kernel) ⟨rfl, rfl, Nat.le_of_ble_eq_true rfl, Nat.le_of_ble_eq_true rfl⟩ hl.1 rfl rfl (Nat.le_of_ble_eq_true rfl) ⟨Nat.le_refl _, Nat.le_refl _⟩ d_NB_seal_24 ?_
  intro ov ev9 H locs hp h
  obtain ⟨ho, hN9, hfr⟩ := hp
  rw [ho]
  refine W.eq (g2 := F0 m 27 ls []) rfl ?_
  have hN8 := hN9
  obtain ⟨k0, -⟩ := hN8
  refine lv_aload_n hx hb d_NB_seal_27 rfl (lv_at hl 0 rfl) ?_
  refine wv_getf hx hb h 0 (by decide) (fs := [.ref (ad 1), .ref (ad 2), .ref (ad 3), .ref (ad 4), .ref (ad 5), .int (nI (tl)), .int (nI ((16 + tl))), .ref (ad 6), .ref (ad 12), .ref (ad 18), .ref (ad 34), .ref (ad 35), .ref (ad 36)]) k0 hts (fun w hw => List.mem_cons_of_mem _ (fW_NB w hw)) hown (ci := 4) (C := "NonceBox") (T := fT_NB) (N := 13) rfl 6 (by decide) (hts _ (List.mem_cons_of_mem _ kf_NB_29)) rfl (v := .int (nI ((16 + tl)))) rfl d_NB_seal_28 ?_
  exact wv_iret hx hb hr hlocks h d_NB_seal_31 ⟨rfl, hN9, hfr⟩
theorem d_NB_box_0 : decode c_NB_box 0 = .ok (.aload_n 0, 1) := by decide +kernel
theorem d_NB_box_1 : decode c_NB_box 1 = .ok (.getfield 25, 3) := by decide +kernel
theorem d_NB_box_4 : decode c_NB_box 4 = .ok (.bipush 96, 2) := by decide +kernel
theorem d_NB_box_6 : decode c_NB_box 6 = .ok (.if_icmp .le 13, 3) := by decide +kernel
theorem d_NB_box_9 : decode c_NB_box 9 = .ok (.new 98, 3) := by decide +kernel
theorem d_NB_box_12 : decode c_NB_box 12 = .ok (.dup, 1) := by decide +kernel
theorem d_NB_box_13 : decode c_NB_box 13 = .ok (.ldc 100, 2) := by decide +kernel
theorem d_NB_box_15 : decode c_NB_box 15 = .ok (.invokespecial 102, 3) := by decide +kernel
theorem d_NB_box_18 : decode c_NB_box 18 = .ok (.athrow, 1) := by decide +kernel
theorem d_NB_box_19 : decode c_NB_box 19 = .ok (.aload_n 0, 1) := by decide +kernel
theorem d_NB_box_20 : decode c_NB_box 20 = .ok (.invokevirtual 95, 3) := by decide +kernel
theorem d_NB_box_23 : decode c_NB_box 23 = .ok (.aload_n 0, 1) := by decide +kernel
theorem d_NB_box_24 : decode c_NB_box 24 = .ok (.aload_n 0, 1) := by decide +kernel
theorem d_NB_box_25 : decode c_NB_box 25 = .ok (.getfield 53, 3) := by decide +kernel
theorem d_NB_box_28 : decode c_NB_box 28 = .ok (.invokevirtual 105, 3) := by decide +kernel
theorem d_NB_box_31 : decode c_NB_box 31 = .ok (.aload_n 0, 1) := by decide +kernel
theorem d_NB_box_32 : decode c_NB_box 32 = .ok (.getfield 29, 3) := by decide +kernel
theorem d_NB_box_35 : decode c_NB_box 35 = .ok (.ireturn, 1) := by decide +kernel
set_option maxRecDepth 100000 in
set_option maxHeartbeats 4000000 in
/-- box -/
theorem r_NB_box (l : Launch) (G : wG) (A : Nat → Prop) (ad : Nat → Nat) (ev : Nat → va_E) (Bf : Nat → Nat → Nat) (tl ol : Nat) (hNB : NB G ad ev Bf tl ol) (h96 : tl ≤ 96) : wM l y_NB_box w_NB_box ({ frames := 27, cells := 0, slots := 0, locals := 900 }) G A 52 ad ev [.ref (ad 0)] (fun ov ev' => ov = some (.int (nI (16 + tl))) ∧ NB G ad ev' (va_up Bf 4 (outF (16 + tl) (SEALB (AGRB (Bf 0) (Bf 2)) (Bf 1) (Bf 3) tl))) tl (16 + tl) ∧ ∀ j, 37 ≤ j → ev' j = ev j) := by
  refine wv_ofW (cc := c_NB_box) (maxL := 1) (ret := (Option.some FieldType.int)) (by decide) rfl (Nat.le_of_ble_eq_true rfl) ?_
  intro p e s m below meth c ls hx hb hr hml hts hown hlocks hini h hl
  have hl : lv_has ls 1 [(0, .ref (ad 0))] := hl
  have hNB0 := hNB
  obtain ⟨g0, g1, g2, g3, g4, g5, g6, ⟨x7, g7⟩, ⟨x8, g8⟩, ⟨x9, g9⟩, ⟨x10, b10, z10, g10⟩, ⟨x11, b11, g11⟩, g12, g13, ⟨x14, g14⟩, ⟨x15, g15⟩, ⟨x16, g16⟩, ⟨x17, g17⟩, g18, g19, ⟨x20, g20⟩, ⟨x21, g21⟩, ⟨x22, g22⟩, ⟨x23, g23⟩, ⟨x24, g24⟩, ⟨x25, g25⟩, ⟨x26, g26⟩, ⟨x27, g27⟩, ⟨x28, g28⟩, ⟨x29, g29⟩, ⟨x30, g30⟩, ⟨x31, g31⟩, ⟨x32, g32⟩, ⟨x33, g33⟩, ⟨x34, b34, g34⟩, g35, ⟨x36, b36, g36⟩, hB, htl, hol⟩ := hNB
  refine lv_aload_n hx hb d_NB_box_0 rfl (lv_at hl 0 rfl) ?_
  refine wv_getf hx hb h 0 (by decide) (fs := [.ref (ad 1), .ref (ad 2), .ref (ad 3), .ref (ad 4), .ref (ad 5), .int (nI (tl)), .int (nI (ol)), .ref (ad 6), .ref (ad 12), .ref (ad 18), .ref (ad 34), .ref (ad 35), .ref (ad 36)]) g0 hts (fun w hw => List.mem_cons_of_mem _ (fW_NB w hw)) hown (ci := 4) (C := "NonceBox") (T := fT_NB) (N := 13) rfl 5 (by decide) (hts _ (List.mem_cons_of_mem _ kf_NB_25)) rfl (v := .int (nI (tl))) rfl d_NB_box_1 ?_
  refine lv_bipush (v := nI (96)) hx hb d_NB_box_4 (by decide) ?_
  refine lv_icmp_le (tgt := 19) hx hb d_NB_box_6 (by decide) (fun _ => ?_) (fun hc => absurd ((nI_leI (by omega) (by omega)).mpr h96) hc)
  refine lv_aload_n hx hb d_NB_box_19 rfl (lv_at hl 0 rfl) ?_
  refine wv_V (As := []) (rest := []) (k := 0) ⟨hx, hb, hml, hown, hts⟩ h 0 (by decide) (C := "NonceBox") g0 rfl (m_NB_findAgreedKey l G A ad ev Bf tl ol hNB0) kc_NB_findAgreedKey kl_NB_95 km_NB_findAgreedKey kv_NB_findAgreedKey ki_NB (by decide +kernel) ⟨rfl, rfl, Nat.le_of_ble_eq_true rfl, Nat.le_of_ble_eq_true rfl⟩ hl.1 rfl rfl (Nat.le_of_ble_eq_true rfl) ⟨Nat.le_refl _, Nat.le_refl _⟩ d_NB_box_20 ?_
  intro ov ev8 H locs hp h
  obtain ⟨ho, hN7, h34, hfr0⟩ := hp
  rw [ho]
  refine W.eq (g2 := F0 m 23 ls []) rfl ?_
  obtain ⟨j0, -⟩ := id hN7
  refine lv_aload_n hx hb d_NB_box_23 rfl (lv_at hl 0 rfl) ?_
  refine lv_aload_n hx hb d_NB_box_24 rfl (lv_at hl 0 rfl) ?_
  refine wv_getf hx hb h 0 (by decide) (fs := [.ref (ad 1), .ref (ad 2), .ref (ad 3), .ref (ad 4), .ref (ad 5), .int (nI (tl)), .int (nI (ol)), .ref (ad 6), .ref (ad 12), .ref (ad 18), .ref (ad 34), .ref (ad 35), .ref (ad 36)]) j0 hts (fun w hw => List.mem_cons_of_mem _ (fW_NB w hw)) hown (ci := 4) (C := "NonceBox") (T := fT_NB) (N := 13) rfl 10 (by decide) (hts _ (List.mem_cons_of_mem _ kf_NB_53)) rfl (v := .ref (ad 34)) rfl d_NB_box_25 ?_
  refine wv_V (As := [.ref (ad 34)]) (rest := []) (k := 1) ⟨hx, hb, hml, hown, hts⟩ h 0 (by decide) (C := "NonceBox") j0 rfl (m_NB_sealBy l G A ad ev8 Bf tl ol hN7 h96 34 (AGRB (Bf 0) (Bf 2)) (Or.inr rfl) h34 (AGRB_lt _ _)) kc_NB_sealBy kl_NB_105 km_NB_sealBy kv_NB_sealBy ki_NB (by decide +kernel) ⟨rfl, rfl, Nat.le_of_ble_eq_true rfl, Nat.le_of_ble_eq_true rfl⟩ hl.1 rfl rfl (Nat.le_of_ble_eq_true rfl) ⟨Nat.le_refl _, Nat.le_refl _⟩ d_NB_box_28 ?_
  intro ov ev9 H locs hp h
  obtain ⟨ho, hN9, hfr⟩ := hp
  rw [ho]
  refine W.eq (g2 := F0 m 31 ls []) rfl ?_
  have hN8 := hN9
  obtain ⟨k0, -⟩ := hN8
  refine lv_aload_n hx hb d_NB_box_31 rfl (lv_at hl 0 rfl) ?_
  refine wv_getf hx hb h 0 (by decide) (fs := [.ref (ad 1), .ref (ad 2), .ref (ad 3), .ref (ad 4), .ref (ad 5), .int (nI (tl)), .int (nI ((16 + tl))), .ref (ad 6), .ref (ad 12), .ref (ad 18), .ref (ad 34), .ref (ad 35), .ref (ad 36)]) k0 hts (fun w hw => List.mem_cons_of_mem _ (fW_NB w hw)) hown (ci := 4) (C := "NonceBox") (T := fT_NB) (N := 13) rfl 6 (by decide) (hts _ (List.mem_cons_of_mem _ kf_NB_29)) rfl (v := .int (nI ((16 + tl)))) rfl d_NB_box_32 ?_
  exact wv_iret hx hb hr hlocks h d_NB_box_35 ⟨rfl, hN9, fun j hj => (hfr j hj).trans (hfr0 j hj)⟩
theorem d_NB_open_0 : decode c_NB_open 0 = .ok (.aload_n 0, 1) := by decide +kernel
theorem d_NB_open_1 : decode c_NB_open 1 = .ok (.getfield 25, 3) := by decide +kernel
theorem d_NB_open_4 : decode c_NB_open 4 = .ok (.bipush 16, 2) := by decide +kernel
theorem d_NB_open_6 : decode c_NB_open 6 = .ok (.if_icmp .ge 13, 3) := by decide +kernel
theorem d_NB_open_9 : decode c_NB_open 9 = .ok (.new 98, 3) := by decide +kernel
theorem d_NB_open_12 : decode c_NB_open 12 = .ok (.dup, 1) := by decide +kernel
theorem d_NB_open_13 : decode c_NB_open 13 = .ok (.ldc 109, 2) := by decide +kernel
theorem d_NB_open_15 : decode c_NB_open 15 = .ok (.invokespecial 102, 3) := by decide +kernel
theorem d_NB_open_18 : decode c_NB_open 18 = .ok (.athrow, 1) := by decide +kernel
theorem d_NB_open_19 : decode c_NB_open 19 = .ok (.aload_n 0, 1) := by decide +kernel
theorem d_NB_open_20 : decode c_NB_open 20 = .ok (.aload_n 0, 1) := by decide +kernel
theorem d_NB_open_21 : decode c_NB_open 21 = .ok (.getfield 9, 3) := by decide +kernel
theorem d_NB_open_24 : decode c_NB_open 24 = .ok (.invokevirtual 111, 3) := by decide +kernel
theorem d_NB_open_27 : decode c_NB_open 27 = .ok (.ifCond .ne 13, 3) := by decide +kernel
theorem d_NB_open_30 : decode c_NB_open 30 = .ok (.new 115, 3) := by decide +kernel
theorem d_NB_open_33 : decode c_NB_open 33 = .ok (.dup, 1) := by decide +kernel
theorem d_NB_open_34 : decode c_NB_open 34 = .ok (.ldc 117, 2) := by decide +kernel
theorem d_NB_open_36 : decode c_NB_open 36 = .ok (.invokespecial 119, 3) := by decide +kernel
theorem d_NB_open_39 : decode c_NB_open 39 = .ok (.athrow, 1) := by decide +kernel
theorem d_NB_open_40 : decode c_NB_open 40 = .ok (.aload_n 0, 1) := by decide +kernel
theorem d_NB_open_41 : decode c_NB_open 41 = .ok (.getfield 29, 3) := by decide +kernel
theorem d_NB_open_44 : decode c_NB_open 44 = .ok (.ireturn, 1) := by decide +kernel
set_option maxRecDepth 100000 in
set_option maxHeartbeats 4000000 in
/-- open -/
theorem r_NB_open (l : Launch) (G : wG) (A : Nat → Prop) (ad : Nat → Nat) (ev : Nat → va_E) (Bf : Nat → Nat → Nat) (tl ol : Nat) (hNB : NB G ad ev Bf tl ol) (h16 : 16 ≤ tl) (hok : tagOK (Bf 0) (Bf 1) (Bf 3) (tl - 16)) : wM l y_NB_open w_NB_open ({ frames := 27, cells := 0, slots := 0, locals := 900 }) G A 52 ad ev [.ref (ad 0)] (fun ov ev' => ov = some (.int (nI (tl - 16))) ∧ NB G ad ev' (va_up Bf 4 (outF (tl - 16) (OPNB (Bf 0) (Bf 1) (Bf 3)))) tl (tl - 16) ∧ ∀ j, 37 ≤ j → ev' j = ev j) := by
  refine wv_ofW (cc := c_NB_open) (maxL := 1) (ret := (Option.some FieldType.int)) (by decide) rfl (Nat.le_of_ble_eq_true rfl) ?_
  intro p e s m below meth c ls hx hb hr hml hts hown hlocks hini h hl
  have hl : lv_has ls 1 [(0, .ref (ad 0))] := hl
  have hNB0 := hNB
  obtain ⟨g0, g1, g2, g3, g4, g5, g6, ⟨x7, g7⟩, ⟨x8, g8⟩, ⟨x9, g9⟩, ⟨x10, b10, z10, g10⟩, ⟨x11, b11, g11⟩, g12, g13, ⟨x14, g14⟩, ⟨x15, g15⟩, ⟨x16, g16⟩, ⟨x17, g17⟩, g18, g19, ⟨x20, g20⟩, ⟨x21, g21⟩, ⟨x22, g22⟩, ⟨x23, g23⟩, ⟨x24, g24⟩, ⟨x25, g25⟩, ⟨x26, g26⟩, ⟨x27, g27⟩, ⟨x28, g28⟩, ⟨x29, g29⟩, ⟨x30, g30⟩, ⟨x31, g31⟩, ⟨x32, g32⟩, ⟨x33, g33⟩, ⟨x34, b34, g34⟩, g35, ⟨x36, b36, g36⟩, hB, htl, hol⟩ := hNB
  refine lv_aload_n hx hb d_NB_open_0 rfl (lv_at hl 0 rfl) ?_
  refine wv_getf hx hb h 0 (by decide) (fs := [.ref (ad 1), .ref (ad 2), .ref (ad 3), .ref (ad 4), .ref (ad 5), .int (nI (tl)), .int (nI (ol)), .ref (ad 6), .ref (ad 12), .ref (ad 18), .ref (ad 34), .ref (ad 35), .ref (ad 36)]) g0 hts (fun w hw => List.mem_cons_of_mem _ (fW_NB w hw)) hown (ci := 4) (C := "NonceBox") (T := fT_NB) (N := 13) rfl 5 (by decide) (hts _ (List.mem_cons_of_mem _ kf_NB_25)) rfl (v := .int (nI (tl))) rfl d_NB_open_1 ?_
  refine lv_bipush (v := nI (16)) hx hb d_NB_open_4 (by decide) ?_
  refine lv_icmp_ge (tgt := 19) hx hb d_NB_open_6 (by decide) (fun _ => ?_) (fun hc => absurd ((nI_leI (by omega) (by omega)).mpr h16) hc)
  refine lv_aload_n hx hb d_NB_open_19 rfl (lv_at hl 0 rfl) ?_
  refine lv_aload_n hx hb d_NB_open_20 rfl (lv_at hl 0 rfl) ?_
  refine wv_getf hx hb h 0 (by decide) (fs := [.ref (ad 1), .ref (ad 2), .ref (ad 3), .ref (ad 4), .ref (ad 5), .int (nI (tl)), .int (nI (ol)), .ref (ad 6), .ref (ad 12), .ref (ad 18), .ref (ad 34), .ref (ad 35), .ref (ad 36)]) g0 hts (fun w hw => List.mem_cons_of_mem _ (fW_NB w hw)) hown (ci := 4) (C := "NonceBox") (T := fT_NB) (N := 13) rfl 0 (by decide) (hts _ (List.mem_cons_of_mem _ kf_NB_9)) rfl (v := .ref (ad 1)) rfl d_NB_open_21 ?_
  refine wv_V (As := [.ref (ad 1)]) (rest := []) (k := 1) ⟨hx, hb, hml, hown, hts⟩ h 0 (by decide) (C := "NonceBox") g0 rfl (m_NB_openBy l G A ad ev Bf tl ol hNB0 h16 1 (Bf 0) (Or.inl rfl) g1 (hB 0)) kc_NB_openBy kl_NB_111 km_NB_openBy kv_NB_openBy ki_NB (by decide +kernel) ⟨rfl, rfl, Nat.le_of_ble_eq_true rfl, Nat.le_of_ble_eq_true rfl⟩ hl.1 rfl rfl (Nat.le_of_ble_eq_true rfl) ⟨Nat.le_refl _, Nat.le_refl _⟩ d_NB_open_24 ?_
  intro ov ev9 H locs hp h
  obtain ⟨ans, B9, o9, ho, hq, hN9, hfr⟩ := hp
  rcases hq with ⟨rfl, -, rfl, rfl⟩ | ⟨-, hno, -⟩
  rotate_left
  · exact absurd hok hno
  rw [ho]
  refine W.eq (g2 := F0 m 27 ls [.int (nI 1)]) rfl ?_
  refine lv_if_ne (tgt := 40) hx hb d_NB_open_27 (by decide) (fun _ => ?_) (fun hc => absurd hc (by decide))
  have hN8 := hN9
  obtain ⟨k0, -⟩ := hN8
  refine lv_aload_n hx hb d_NB_open_40 rfl (lv_at hl 0 rfl) ?_
  refine wv_getf hx hb h 0 (by decide) (fs := [.ref (ad 1), .ref (ad 2), .ref (ad 3), .ref (ad 4), .ref (ad 5), .int (nI (tl)), .int (nI ((tl - 16))), .ref (ad 6), .ref (ad 12), .ref (ad 18), .ref (ad 34), .ref (ad 35), .ref (ad 36)]) k0 hts (fun w hw => List.mem_cons_of_mem _ (fW_NB w hw)) hown (ci := 4) (C := "NonceBox") (T := fT_NB) (N := 13) rfl 6 (by decide) (hts _ (List.mem_cons_of_mem _ kf_NB_29)) rfl (v := .int (nI ((tl - 16)))) rfl d_NB_open_41 ?_
  exact wv_iret hx hb hr hlocks h d_NB_open_44 ⟨rfl, hN9, hfr⟩
theorem d_NB_unbox_0 : decode c_NB_unbox 0 = .ok (.aload_n 0, 1) := by decide +kernel
theorem d_NB_unbox_1 : decode c_NB_unbox 1 = .ok (.getfield 25, 3) := by decide +kernel
theorem d_NB_unbox_4 : decode c_NB_unbox 4 = .ok (.bipush 16, 2) := by decide +kernel
theorem d_NB_unbox_6 : decode c_NB_unbox 6 = .ok (.if_icmp .ge 13, 3) := by decide +kernel
theorem d_NB_unbox_9 : decode c_NB_unbox 9 = .ok (.new 98, 3) := by decide +kernel
theorem d_NB_unbox_12 : decode c_NB_unbox 12 = .ok (.dup, 1) := by decide +kernel
theorem d_NB_unbox_13 : decode c_NB_unbox 13 = .ok (.ldc 109, 2) := by decide +kernel
theorem d_NB_unbox_15 : decode c_NB_unbox 15 = .ok (.invokespecial 102, 3) := by decide +kernel
theorem d_NB_unbox_18 : decode c_NB_unbox 18 = .ok (.athrow, 1) := by decide +kernel
theorem d_NB_unbox_19 : decode c_NB_unbox 19 = .ok (.aload_n 0, 1) := by decide +kernel
theorem d_NB_unbox_20 : decode c_NB_unbox 20 = .ok (.invokevirtual 95, 3) := by decide +kernel
theorem d_NB_unbox_23 : decode c_NB_unbox 23 = .ok (.aload_n 0, 1) := by decide +kernel
theorem d_NB_unbox_24 : decode c_NB_unbox 24 = .ok (.aload_n 0, 1) := by decide +kernel
theorem d_NB_unbox_25 : decode c_NB_unbox 25 = .ok (.getfield 53, 3) := by decide +kernel
theorem d_NB_unbox_28 : decode c_NB_unbox 28 = .ok (.invokevirtual 111, 3) := by decide +kernel
theorem d_NB_unbox_31 : decode c_NB_unbox 31 = .ok (.ifCond .ne 13, 3) := by decide +kernel
theorem d_NB_unbox_34 : decode c_NB_unbox 34 = .ok (.new 115, 3) := by decide +kernel
theorem d_NB_unbox_37 : decode c_NB_unbox 37 = .ok (.dup, 1) := by decide +kernel
theorem d_NB_unbox_38 : decode c_NB_unbox 38 = .ok (.ldc 117, 2) := by decide +kernel
theorem d_NB_unbox_40 : decode c_NB_unbox 40 = .ok (.invokespecial 119, 3) := by decide +kernel
theorem d_NB_unbox_43 : decode c_NB_unbox 43 = .ok (.athrow, 1) := by decide +kernel
theorem d_NB_unbox_44 : decode c_NB_unbox 44 = .ok (.aload_n 0, 1) := by decide +kernel
theorem d_NB_unbox_45 : decode c_NB_unbox 45 = .ok (.getfield 29, 3) := by decide +kernel
theorem d_NB_unbox_48 : decode c_NB_unbox 48 = .ok (.ireturn, 1) := by decide +kernel
set_option maxRecDepth 100000 in
set_option maxHeartbeats 4000000 in
/-- unbox -/
theorem r_NB_unbox (l : Launch) (G : wG) (A : Nat → Prop) (ad : Nat → Nat) (ev : Nat → va_E) (Bf : Nat → Nat → Nat) (tl ol : Nat) (hNB : NB G ad ev Bf tl ol) (h16 : 16 ≤ tl) (hok : tagOK (AGRB (Bf 0) (Bf 2)) (Bf 1) (Bf 3) (tl - 16)) : wM l y_NB_unbox w_NB_unbox ({ frames := 27, cells := 0, slots := 0, locals := 900 }) G A 52 ad ev [.ref (ad 0)] (fun ov ev' => ov = some (.int (nI (tl - 16))) ∧ NB G ad ev' (va_up Bf 4 (outF (tl - 16) (OPNB (AGRB (Bf 0) (Bf 2)) (Bf 1) (Bf 3)))) tl (tl - 16) ∧ ∀ j, 37 ≤ j → ev' j = ev j) := by
  refine wv_ofW (cc := c_NB_unbox) (maxL := 1) (ret := (Option.some FieldType.int)) (by decide) rfl (Nat.le_of_ble_eq_true rfl) ?_
  intro p e s m below meth c ls hx hb hr hml hts hown hlocks hini h hl
  have hl : lv_has ls 1 [(0, .ref (ad 0))] := hl
  have hNB0 := hNB
  obtain ⟨g0, g1, g2, g3, g4, g5, g6, ⟨x7, g7⟩, ⟨x8, g8⟩, ⟨x9, g9⟩, ⟨x10, b10, z10, g10⟩, ⟨x11, b11, g11⟩, g12, g13, ⟨x14, g14⟩, ⟨x15, g15⟩, ⟨x16, g16⟩, ⟨x17, g17⟩, g18, g19, ⟨x20, g20⟩, ⟨x21, g21⟩, ⟨x22, g22⟩, ⟨x23, g23⟩, ⟨x24, g24⟩, ⟨x25, g25⟩, ⟨x26, g26⟩, ⟨x27, g27⟩, ⟨x28, g28⟩, ⟨x29, g29⟩, ⟨x30, g30⟩, ⟨x31, g31⟩, ⟨x32, g32⟩, ⟨x33, g33⟩, ⟨x34, b34, g34⟩, g35, ⟨x36, b36, g36⟩, hB, htl, hol⟩ := hNB
  refine lv_aload_n hx hb d_NB_unbox_0 rfl (lv_at hl 0 rfl) ?_
  refine wv_getf hx hb h 0 (by decide) (fs := [.ref (ad 1), .ref (ad 2), .ref (ad 3), .ref (ad 4), .ref (ad 5), .int (nI (tl)), .int (nI (ol)), .ref (ad 6), .ref (ad 12), .ref (ad 18), .ref (ad 34), .ref (ad 35), .ref (ad 36)]) g0 hts (fun w hw => List.mem_cons_of_mem _ (fW_NB w hw)) hown (ci := 4) (C := "NonceBox") (T := fT_NB) (N := 13) rfl 5 (by decide) (hts _ (List.mem_cons_of_mem _ kf_NB_25)) rfl (v := .int (nI (tl))) rfl d_NB_unbox_1 ?_
  refine lv_bipush (v := nI (16)) hx hb d_NB_unbox_4 (by decide) ?_
  refine lv_icmp_ge (tgt := 19) hx hb d_NB_unbox_6 (by decide) (fun _ => ?_) (fun hc => absurd ((nI_leI (by omega) (by omega)).mpr h16) hc)
  refine lv_aload_n hx hb d_NB_unbox_19 rfl (lv_at hl 0 rfl) ?_
  refine wv_V (As := []) (rest := []) (k := 0) ⟨hx, hb, hml, hown, hts⟩ h 0 (by decide) (C := "NonceBox") g0 rfl (m_NB_findAgreedKey l G A ad ev Bf tl ol hNB0) kc_NB_findAgreedKey kl_NB_95 km_NB_findAgreedKey kv_NB_findAgreedKey ki_NB (by decide +kernel) ⟨rfl, rfl, Nat.le_of_ble_eq_true rfl, Nat.le_of_ble_eq_true rfl⟩ hl.1 rfl rfl (Nat.le_of_ble_eq_true rfl) ⟨Nat.le_refl _, Nat.le_refl _⟩ d_NB_unbox_20 ?_
  intro ov ev8 H locs hp h
  obtain ⟨ho, hN7, h34, hfr0⟩ := hp
  rw [ho]
  refine W.eq (g2 := F0 m 23 ls []) rfl ?_
  obtain ⟨j0, -⟩ := id hN7
  refine lv_aload_n hx hb d_NB_unbox_23 rfl (lv_at hl 0 rfl) ?_
  refine lv_aload_n hx hb d_NB_unbox_24 rfl (lv_at hl 0 rfl) ?_
  refine wv_getf hx hb h 0 (by decide) (fs := [.ref (ad 1), .ref (ad 2), .ref (ad 3), .ref (ad 4), .ref (ad 5), .int (nI (tl)), .int (nI (ol)), .ref (ad 6), .ref (ad 12), .ref (ad 18), .ref (ad 34), .ref (ad 35), .ref (ad 36)]) j0 hts (fun w hw => List.mem_cons_of_mem _ (fW_NB w hw)) hown (ci := 4) (C := "NonceBox") (T := fT_NB) (N := 13) rfl 10 (by decide) (hts _ (List.mem_cons_of_mem _ kf_NB_53)) rfl (v := .ref (ad 34)) rfl d_NB_unbox_25 ?_
  refine wv_V (As := [.ref (ad 34)]) (rest := []) (k := 1) ⟨hx, hb, hml, hown, hts⟩ h 0 (by decide) (C := "NonceBox") j0 rfl (m_NB_openBy l G A ad ev8 Bf tl ol hN7 h16 34 (AGRB (Bf 0) (Bf 2)) (Or.inr rfl) h34 (AGRB_lt _ _)) kc_NB_openBy kl_NB_111 km_NB_openBy kv_NB_openBy ki_NB (by decide +kernel) ⟨rfl, rfl, Nat.le_of_ble_eq_true rfl, Nat.le_of_ble_eq_true rfl⟩ hl.1 rfl rfl (Nat.le_of_ble_eq_true rfl) ⟨Nat.le_refl _, Nat.le_refl _⟩ d_NB_unbox_28 ?_
  intro ov ev9 H locs hp h
  obtain ⟨ans, B9, o9, ho, hq, hN9, hfr⟩ := hp
  rcases hq with ⟨rfl, -, rfl, rfl⟩ | ⟨-, hno, -⟩
  rotate_left
  · exact absurd hok hno
  rw [ho]
  refine W.eq (g2 := F0 m 31 ls [.int (nI 1)]) rfl ?_
  refine lv_if_ne (tgt := 44) hx hb d_NB_unbox_31 (by decide) (fun _ => ?_) (fun hc => absurd hc (by decide))
  have hN8 := hN9
  obtain ⟨k0, -⟩ := hN8
  refine lv_aload_n hx hb d_NB_unbox_44 rfl (lv_at hl 0 rfl) ?_
  refine wv_getf hx hb h 0 (by decide) (fs := [.ref (ad 1), .ref (ad 2), .ref (ad 3), .ref (ad 4), .ref (ad 5), .int (nI (tl)), .int (nI ((tl - 16))), .ref (ad 6), .ref (ad 12), .ref (ad 18), .ref (ad 34), .ref (ad 35), .ref (ad 36)]) k0 hts (fun w hw => List.mem_cons_of_mem _ (fW_NB w hw)) hown (ci := 4) (C := "NonceBox") (T := fT_NB) (N := 13) rfl 6 (by decide) (hts _ (List.mem_cons_of_mem _ kf_NB_29)) rfl (v := .int (nI ((tl - 16)))) rfl d_NB_unbox_45 ?_
  exact wv_iret hx hb hr hlocks h d_NB_unbox_48 ⟨rfl, hN9, fun j hj => (hfr j hj).trans (hfr0 j hj)⟩
