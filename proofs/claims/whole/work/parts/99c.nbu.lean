set_option maxRecDepth 100000 in
set_option maxHeartbeats 4000000 in
/-- t_NB_seal -/
theorem t_NB_seal (l : Launch) (s0 : State) (hTW : TW s0) (G : wG) (ad : Nat → Nat) (ev : Nat → va_E) (Bf : Nat → Nat → Nat) (tl ol : Nat) (hNB : NB G ad ev Bf tl ol) (hneg : ¬ tl ≤ 96) : MetT l y_NB_seal w_NB_seal ({ frames := 30, cells := 1, slots := 6, locals := 1000 }) (wPt s0 G 52 ad ev [.ref (ad 0)]) (wQt G (A0 s0) 52 ad "java/lang/IllegalArgumentException" (fun ev' => ev' = ev)) 1 6 (A0 s0) := by
  refine wv_ofT (cc := c_NB_seal) (maxL := 1) (ret := (Option.some FieldType.int)) (by decide) rfl (Nat.le_of_ble_eq_true rfl) ?_
  intro p e s m below meth c ls hx hb hml hts hown hlocks h hl hO htr hnx
  have hl : lv_has ls 1 [(0, .ref (ad 0))] := hl
  obtain ⟨g0, g1, g2, g3, g4, g5, g6, ⟨x7, g7⟩, ⟨x8, g8⟩, ⟨x9, g9⟩, ⟨x10, b10, z10, g10⟩, ⟨x11, b11, g11⟩, g12, g13, ⟨x14, g14⟩, ⟨x15, g15⟩, ⟨x16, g16⟩, ⟨x17, g17⟩, g18, g19, ⟨x20, g20⟩, ⟨x21, g21⟩, ⟨x22, g22⟩, ⟨x23, g23⟩, ⟨x24, g24⟩, ⟨x25, g25⟩, ⟨x26, g26⟩, ⟨x27, g27⟩, ⟨x28, g28⟩, ⟨x29, g29⟩, ⟨x30, g30⟩, ⟨x31, g31⟩, ⟨x32, g32⟩, ⟨x33, g33⟩, ⟨x34, b34, g34⟩, g35, ⟨x36, b36, g36⟩, hB, htl, hol⟩ := hNB
  refine lv_aload_n hx hb d_NB_seal_0 rfl (lv_at hl 0 rfl) ?_
  refine wv_getf hx hb h 0 (by decide) (fs := [.ref (ad 1), .ref (ad 2), .ref (ad 3), .ref (ad 4), .ref (ad 5), .int (nI (tl)), .int (nI (ol)), .ref (ad 6), .ref (ad 12), .ref (ad 18), .ref (ad 34), .ref (ad 35), .ref (ad 36)]) g0 hts (fun w hw => List.mem_cons_of_mem _ (fW_NB w hw)) hown (ci := 4) (C := "NonceBox") (T := fT_NB) (N := 13) rfl 5 (by decide) (hts _ (List.mem_cons_of_mem _ kf_NB_25)) rfl (v := .int (nI (tl))) rfl d_NB_seal_1 ?_
  refine lv_bipush (v := nI (96)) hx hb d_NB_seal_4 (by decide) ?_
  refine lv_icmp_le (tgt := 19) hx hb d_NB_seal_6 (by decide) (fun hc => absurd ((nI_leI (by omega) (by omega)).mp hc) hneg) (fun _ => ?_)
  obtain ⟨tx, qm, hst⟩ := hTW.2.2.1
  exact wv_throw hx hb htr hlocks hown (by rw [hml]; exact hl.1) hO hTW.1 (vk_R.warm hO.1 hst) (by decide) (by decide) (by decide) h ⟨by decide, by decide, by decide, by decide⟩ (fun x hx => hnx x hx _) d_NB_seal_9 d_NB_seal_12 d_NB_seal_13 d_NB_seal_15 d_NB_seal_18 rfl
set_option maxRecDepth 100000 in
set_option maxHeartbeats 4000000 in
/-- t_NB_box -/
theorem t_NB_box (l : Launch) (s0 : State) (hTW : TW s0) (G : wG) (ad : Nat → Nat) (ev : Nat → va_E) (Bf : Nat → Nat → Nat) (tl ol : Nat) (hNB : NB G ad ev Bf tl ol) (hneg : ¬ tl ≤ 96) : MetT l y_NB_box w_NB_box ({ frames := 30, cells := 1, slots := 6, locals := 1000 }) (wPt s0 G 52 ad ev [.ref (ad 0)]) (wQt G (A0 s0) 52 ad "java/lang/IllegalArgumentException" (fun ev' => ev' = ev)) 1 6 (A0 s0) := by
  refine wv_ofT (cc := c_NB_box) (maxL := 1) (ret := (Option.some FieldType.int)) (by decide) rfl (Nat.le_of_ble_eq_true rfl) ?_
  intro p e s m below meth c ls hx hb hml hts hown hlocks h hl hO htr hnx
  have hl : lv_has ls 1 [(0, .ref (ad 0))] := hl
  obtain ⟨g0, g1, g2, g3, g4, g5, g6, ⟨x7, g7⟩, ⟨x8, g8⟩, ⟨x9, g9⟩, ⟨x10, b10, z10, g10⟩, ⟨x11, b11, g11⟩, g12, g13, ⟨x14, g14⟩, ⟨x15, g15⟩, ⟨x16, g16⟩, ⟨x17, g17⟩, g18, g19, ⟨x20, g20⟩, ⟨x21, g21⟩, ⟨x22, g22⟩, ⟨x23, g23⟩, ⟨x24, g24⟩, ⟨x25, g25⟩, ⟨x26, g26⟩, ⟨x27, g27⟩, ⟨x28, g28⟩, ⟨x29, g29⟩, ⟨x30, g30⟩, ⟨x31, g31⟩, ⟨x32, g32⟩, ⟨x33, g33⟩, ⟨x34, b34, g34⟩, g35, ⟨x36, b36, g36⟩, hB, htl, hol⟩ := hNB
  refine lv_aload_n hx hb d_NB_box_0 rfl (lv_at hl 0 rfl) ?_
  refine wv_getf hx hb h 0 (by decide) (fs := [.ref (ad 1), .ref (ad 2), .ref (ad 3), .ref (ad 4), .ref (ad 5), .int (nI (tl)), .int (nI (ol)), .ref (ad 6), .ref (ad 12), .ref (ad 18), .ref (ad 34), .ref (ad 35), .ref (ad 36)]) g0 hts (fun w hw => List.mem_cons_of_mem _ (fW_NB w hw)) hown (ci := 4) (C := "NonceBox") (T := fT_NB) (N := 13) rfl 5 (by decide) (hts _ (List.mem_cons_of_mem _ kf_NB_25)) rfl (v := .int (nI (tl))) rfl d_NB_box_1 ?_
  refine lv_bipush (v := nI (96)) hx hb d_NB_box_4 (by decide) ?_
  refine lv_icmp_le (tgt := 19) hx hb d_NB_box_6 (by decide) (fun hc => absurd ((nI_leI (by omega) (by omega)).mp hc) hneg) (fun _ => ?_)
  obtain ⟨tx, qm, hst⟩ := hTW.2.2.1
  exact wv_throw hx hb htr hlocks hown (by rw [hml]; exact hl.1) hO hTW.1 (vk_R.warm hO.1 hst) (by decide) (by decide) (by decide) h ⟨by decide, by decide, by decide, by decide⟩ (fun x hx => hnx x hx _) d_NB_box_9 d_NB_box_12 d_NB_box_13 d_NB_box_15 d_NB_box_18 rfl
set_option maxRecDepth 100000 in
set_option maxHeartbeats 4000000 in
/-- t_NB_open -/
theorem t_NB_open (l : Launch) (s0 : State) (hTW : TW s0) (G : wG) (ad : Nat → Nat) (ev : Nat → va_E) (Bf : Nat → Nat → Nat) (tl ol : Nat) (hNB : NB G ad ev Bf tl ol) (hneg : ¬ 16 ≤ tl) : MetT l y_NB_open w_NB_open ({ frames := 30, cells := 1, slots := 6, locals := 1000 }) (wPt s0 G 52 ad ev [.ref (ad 0)]) (wQt G (A0 s0) 52 ad "java/lang/IllegalArgumentException" (fun ev' => ev' = ev)) 1 6 (A0 s0) := by
  refine wv_ofT (cc := c_NB_open) (maxL := 1) (ret := (Option.some FieldType.int)) (by decide) rfl (Nat.le_of_ble_eq_true rfl) ?_
  intro p e s m below meth c ls hx hb hml hts hown hlocks h hl hO htr hnx
  have hl : lv_has ls 1 [(0, .ref (ad 0))] := hl
  obtain ⟨g0, g1, g2, g3, g4, g5, g6, ⟨x7, g7⟩, ⟨x8, g8⟩, ⟨x9, g9⟩, ⟨x10, b10, z10, g10⟩, ⟨x11, b11, g11⟩, g12, g13, ⟨x14, g14⟩, ⟨x15, g15⟩, ⟨x16, g16⟩, ⟨x17, g17⟩, g18, g19, ⟨x20, g20⟩, ⟨x21, g21⟩, ⟨x22, g22⟩, ⟨x23, g23⟩, ⟨x24, g24⟩, ⟨x25, g25⟩, ⟨x26, g26⟩, ⟨x27, g27⟩, ⟨x28, g28⟩, ⟨x29, g29⟩, ⟨x30, g30⟩, ⟨x31, g31⟩, ⟨x32, g32⟩, ⟨x33, g33⟩, ⟨x34, b34, g34⟩, g35, ⟨x36, b36, g36⟩, hB, htl, hol⟩ := hNB
  refine lv_aload_n hx hb d_NB_open_0 rfl (lv_at hl 0 rfl) ?_
  refine wv_getf hx hb h 0 (by decide) (fs := [.ref (ad 1), .ref (ad 2), .ref (ad 3), .ref (ad 4), .ref (ad 5), .int (nI (tl)), .int (nI (ol)), .ref (ad 6), .ref (ad 12), .ref (ad 18), .ref (ad 34), .ref (ad 35), .ref (ad 36)]) g0 hts (fun w hw => List.mem_cons_of_mem _ (fW_NB w hw)) hown (ci := 4) (C := "NonceBox") (T := fT_NB) (N := 13) rfl 5 (by decide) (hts _ (List.mem_cons_of_mem _ kf_NB_25)) rfl (v := .int (nI (tl))) rfl d_NB_open_1 ?_
  refine lv_bipush (v := nI (16)) hx hb d_NB_open_4 (by decide) ?_
  refine lv_icmp_ge (tgt := 19) hx hb d_NB_open_6 (by decide) (fun hc => absurd ((nI_leI (by omega) (by omega)).mp hc) hneg) (fun _ => ?_)
  obtain ⟨tx, qm, hst⟩ := hTW.2.2.2.1
  exact wv_throw hx hb htr hlocks hown (by rw [hml]; exact hl.1) hO hTW.1 (vk_R.warm hO.1 hst) (by decide) (by decide) (by decide) h ⟨by decide, by decide, by decide, by decide⟩ (fun x hx => hnx x hx _) d_NB_open_9 d_NB_open_12 d_NB_open_13 d_NB_open_15 d_NB_open_18 rfl
set_option maxRecDepth 100000 in
set_option maxHeartbeats 4000000 in
/-- t_NB_unbox -/
theorem t_NB_unbox (l : Launch) (s0 : State) (hTW : TW s0) (G : wG) (ad : Nat → Nat) (ev : Nat → va_E) (Bf : Nat → Nat → Nat) (tl ol : Nat) (hNB : NB G ad ev Bf tl ol) (hneg : ¬ 16 ≤ tl) : MetT l y_NB_unbox w_NB_unbox ({ frames := 30, cells := 1, slots := 6, locals := 1000 }) (wPt s0 G 52 ad ev [.ref (ad 0)]) (wQt G (A0 s0) 52 ad "java/lang/IllegalArgumentException" (fun ev' => ev' = ev)) 1 6 (A0 s0) := by
  refine wv_ofT (cc := c_NB_unbox) (maxL := 1) (ret := (Option.some FieldType.int)) (by decide) rfl (Nat.le_of_ble_eq_true rfl) ?_
  intro p e s m below meth c ls hx hb hml hts hown hlocks h hl hO htr hnx
  have hl : lv_has ls 1 [(0, .ref (ad 0))] := hl
  obtain ⟨g0, g1, g2, g3, g4, g5, g6, ⟨x7, g7⟩, ⟨x8, g8⟩, ⟨x9, g9⟩, ⟨x10, b10, z10, g10⟩, ⟨x11, b11, g11⟩, g12, g13, ⟨x14, g14⟩, ⟨x15, g15⟩, ⟨x16, g16⟩, ⟨x17, g17⟩, g18, g19, ⟨x20, g20⟩, ⟨x21, g21⟩, ⟨x22, g22⟩, ⟨x23, g23⟩, ⟨x24, g24⟩, ⟨x25, g25⟩, ⟨x26, g26⟩, ⟨x27, g27⟩, ⟨x28, g28⟩, ⟨x29, g29⟩, ⟨x30, g30⟩, ⟨x31, g31⟩, ⟨x32, g32⟩, ⟨x33, g33⟩, ⟨x34, b34, g34⟩, g35, ⟨x36, b36, g36⟩, hB, htl, hol⟩ := hNB
  refine lv_aload_n hx hb d_NB_unbox_0 rfl (lv_at hl 0 rfl) ?_
  refine wv_getf hx hb h 0 (by decide) (fs := [.ref (ad 1), .ref (ad 2), .ref (ad 3), .ref (ad 4), .ref (ad 5), .int (nI (tl)), .int (nI (ol)), .ref (ad 6), .ref (ad 12), .ref (ad 18), .ref (ad 34), .ref (ad 35), .ref (ad 36)]) g0 hts (fun w hw => List.mem_cons_of_mem _ (fW_NB w hw)) hown (ci := 4) (C := "NonceBox") (T := fT_NB) (N := 13) rfl 5 (by decide) (hts _ (List.mem_cons_of_mem _ kf_NB_25)) rfl (v := .int (nI (tl))) rfl d_NB_unbox_1 ?_
  refine lv_bipush (v := nI (16)) hx hb d_NB_unbox_4 (by decide) ?_
  refine lv_icmp_ge (tgt := 19) hx hb d_NB_unbox_6 (by decide) (fun hc => absurd ((nI_leI (by omega) (by omega)).mp hc) hneg) (fun _ => ?_)
  obtain ⟨tx, qm, hst⟩ := hTW.2.2.2.1
  exact wv_throw hx hb htr hlocks hown (by rw [hml]; exact hl.1) hO hTW.1 (vk_R.warm hO.1 hst) (by decide) (by decide) (by decide) h ⟨by decide, by decide, by decide, by decide⟩ (fun x hx => hnx x hx _) d_NB_unbox_9 d_NB_unbox_12 d_NB_unbox_13 d_NB_unbox_15 d_NB_unbox_18 rfl
set_option maxRecDepth 100000 in
set_option maxHeartbeats 4000000 in
/-- open -/
theorem s_NB_open (l : Launch) (s0 : State) (hTW : TW s0) (G : wG) (ad : Nat → Nat) (ev : Nat → va_E) (Bf : Nat → Nat → Nat) (tl ol : Nat) (hNB : NB G ad ev Bf tl ol) (h16 : 16 ≤ tl) (hnok : ¬ tagOK (Bf 0) (Bf 1) (Bf 3) (tl - 16)) : MetT l y_NB_open w_NB_open ({ frames := 30, cells := 1, slots := 6, locals := 1000 }) (wPt s0 G 52 ad ev [.ref (ad 0)]) (wQt G (A0 s0) 52 ad "java/lang/IllegalStateException" (fun ev' => NB G ad ev' Bf tl ol ∧ ∀ j, 37 ≤ j → ev' j = ev j)) 1 6 (A0 s0) := by
  refine wv_ofT (cc := c_NB_open) (maxL := 1) (ret := (Option.some FieldType.int)) (by decide) rfl (Nat.le_of_ble_eq_true rfl) ?_
  intro p e s m below meth c ls hx hb hml hts hown hlocks h hl hO htr hnx
  have hl : lv_has ls 1 [(0, .ref (ad 0))] := hl
  have hNB0 := hNB
  obtain ⟨g0, g1, g2, g3, g4, g5, g6, ⟨x7, g7⟩, ⟨x8, g8⟩, ⟨x9, g9⟩, ⟨x10, b10, z10, g10⟩, ⟨x11, b11, g11⟩, g12, g13, ⟨x14, g14⟩, ⟨x15, g15⟩, ⟨x16, g16⟩, ⟨x17, g17⟩, g18, g19, ⟨x20, g20⟩, ⟨x21, g21⟩, ⟨x22, g22⟩, ⟨x23, g23⟩, ⟨x24, g24⟩, ⟨x25, g25⟩, ⟨x26, g26⟩, ⟨x27, g27⟩, ⟨x28, g28⟩, ⟨x29, g29⟩, ⟨x30, g30⟩, ⟨x31, g31⟩, ⟨x32, g32⟩, ⟨x33, g33⟩, ⟨x34, b34, g34⟩, g35, ⟨x36, b36, g36⟩, hB, htl, hol⟩ := hNB
  refine lv_aload_n hx hb d_NB_open_0 rfl (lv_at hl 0 rfl) ?_
  refine wv_getf hx hb h 0 (by decide) (fs := [.ref (ad 1), .ref (ad 2), .ref (ad 3), .ref (ad 4), .ref (ad 5), .int (nI (tl)), .int (nI (ol)), .ref (ad 6), .ref (ad 12), .ref (ad 18), .ref (ad 34), .ref (ad 35), .ref (ad 36)]) g0 hts (fun w hw => List.mem_cons_of_mem _ (fW_NB w hw)) hown (ci := 4) (C := "NonceBox") (T := fT_NB) (N := 13) rfl 5 (by decide) (hts _ (List.mem_cons_of_mem _ kf_NB_25)) rfl (v := .int (nI (tl))) rfl d_NB_open_1 ?_
  refine lv_bipush (v := nI (16)) hx hb d_NB_open_4 (by decide) ?_
  refine lv_icmp_ge (tgt := 19) hx hb d_NB_open_6 (by decide) (fun _ => ?_) (fun hc => absurd ((nI_leI (by omega) (by omega)).mpr h16) hc)
  refine lv_aload_n hx hb d_NB_open_19 rfl (lv_at hl 0 rfl) ?_
  refine lv_aload_n hx hb d_NB_open_20 rfl (lv_at hl 0 rfl) ?_
  refine wv_getf hx hb h 0 (by decide) (fs := [.ref (ad 1), .ref (ad 2), .ref (ad 3), .ref (ad 4), .ref (ad 5), .int (nI (tl)), .int (nI (ol)), .ref (ad 6), .ref (ad 12), .ref (ad 18), .ref (ad 34), .ref (ad 35), .ref (ad 36)]) g0 hts (fun w hw => List.mem_cons_of_mem _ (fW_NB w hw)) hown (ci := 4) (C := "NonceBox") (T := fT_NB) (N := 13) rfl 0 (by decide) (hts _ (List.mem_cons_of_mem _ kf_NB_9)) rfl (v := .ref (ad 1)) rfl d_NB_open_21 ?_
  refine wv_V (As := [.ref (ad 1)]) (rest := []) (k := 1) ⟨hx, hb, hml, hown, hts⟩ h 0 (by decide) (C := "NonceBox") g0 rfl (m_NB_openBy l G (A0 s0) ad ev Bf tl ol hNB0 h16 1 (Bf 0) (Or.inl rfl) g1 (hB 0)) kc_NB_openBy kl_NB_111 km_NB_openBy kv_NB_openBy ki_NB (by decide +kernel) ⟨rfl, rfl, Nat.le_of_ble_eq_true rfl, Nat.le_of_ble_eq_true rfl⟩ hl.1 rfl rfl (Nat.le_of_ble_eq_true rfl) ⟨Nat.zero_le _, Nat.zero_le _⟩ d_NB_open_24 ?_
  intro ov ev9 H locs hp h
  obtain ⟨ans, B9, o9, ho, hq, hN9, hfr⟩ := hp
  rcases hq with ⟨-, hok, -⟩ | ⟨rfl, -, rfl, rfl⟩
  · exact absurd hok hnok
  rw [ho]
  refine W.eq (g2 := F0 m 27 ls [.int (nI 0)]) rfl ?_
  refine lv_if_ne (tgt := 40) hx hb d_NB_open_27 (by decide) (fun hc => absurd rfl hc) (fun _ => ?_)
  obtain ⟨tx, qm, hst⟩ := hTW.2.2.2.2
  exact wv_throw hx hb htr hlocks hown (by rw [hml]; exact hl.1) hO hTW.2.1 (vk_R.warm hO.1 hst) (by decide) (by decide) (by decide) h ⟨by decide, by decide, by decide, by decide⟩ (fun x hx => hnx x hx _) d_NB_open_30 d_NB_open_33 d_NB_open_34 d_NB_open_36 d_NB_open_39 ⟨hN9, hfr⟩
set_option maxRecDepth 100000 in
set_option maxHeartbeats 4000000 in
/-- unbox -/
theorem s_NB_unbox (l : Launch) (s0 : State) (hTW : TW s0) (G : wG) (ad : Nat → Nat) (ev : Nat → va_E) (Bf : Nat → Nat → Nat) (tl ol : Nat) (hNB : NB G ad ev Bf tl ol) (h16 : 16 ≤ tl) (hnok : ¬ tagOK (AGRB (Bf 0) (Bf 2)) (Bf 1) (Bf 3) (tl - 16)) : MetT l y_NB_unbox w_NB_unbox ({ frames := 30, cells := 1, slots := 6, locals := 1000 }) (wPt s0 G 52 ad ev [.ref (ad 0)]) (wQt G (A0 s0) 52 ad "java/lang/IllegalStateException" (fun ev' => NB G ad ev' Bf tl ol ∧ ∀ j, 37 ≤ j → ev' j = ev j)) 1 6 (A0 s0) := by
  refine wv_ofT (cc := c_NB_unbox) (maxL := 1) (ret := (Option.some FieldType.int)) (by decide) rfl (Nat.le_of_ble_eq_true rfl) ?_
  intro p e s m below meth c ls hx hb hml hts hown hlocks h hl hO htr hnx
  have hl : lv_has ls 1 [(0, .ref (ad 0))] := hl
  have hNB0 := hNB
  obtain ⟨g0, g1, g2, g3, g4, g5, g6, ⟨x7, g7⟩, ⟨x8, g8⟩, ⟨x9, g9⟩, ⟨x10, b10, z10, g10⟩, ⟨x11, b11, g11⟩, g12, g13, ⟨x14, g14⟩, ⟨x15, g15⟩, ⟨x16, g16⟩, ⟨x17, g17⟩, g18, g19, ⟨x20, g20⟩, ⟨x21, g21⟩, ⟨x22, g22⟩, ⟨x23, g23⟩, ⟨x24, g24⟩, ⟨x25, g25⟩, ⟨x26, g26⟩, ⟨x27, g27⟩, ⟨x28, g28⟩, ⟨x29, g29⟩, ⟨x30, g30⟩, ⟨x31, g31⟩, ⟨x32, g32⟩, ⟨x33, g33⟩, ⟨x34, b34, g34⟩, g35, ⟨x36, b36, g36⟩, hB, htl, hol⟩ := hNB
  refine lv_aload_n hx hb d_NB_unbox_0 rfl (lv_at hl 0 rfl) ?_
  refine wv_getf hx hb h 0 (by decide) (fs := [.ref (ad 1), .ref (ad 2), .ref (ad 3), .ref (ad 4), .ref (ad 5), .int (nI (tl)), .int (nI (ol)), .ref (ad 6), .ref (ad 12), .ref (ad 18), .ref (ad 34), .ref (ad 35), .ref (ad 36)]) g0 hts (fun w hw => List.mem_cons_of_mem _ (fW_NB w hw)) hown (ci := 4) (C := "NonceBox") (T := fT_NB) (N := 13) rfl 5 (by decide) (hts _ (List.mem_cons_of_mem _ kf_NB_25)) rfl (v := .int (nI (tl))) rfl d_NB_unbox_1 ?_
  refine lv_bipush (v := nI (16)) hx hb d_NB_unbox_4 (by decide) ?_
  refine lv_icmp_ge (tgt := 19) hx hb d_NB_unbox_6 (by decide) (fun _ => ?_) (fun hc => absurd ((nI_leI (by omega) (by omega)).mpr h16) hc)
  refine lv_aload_n hx hb d_NB_unbox_19 rfl (lv_at hl 0 rfl) ?_
  refine wv_V (As := []) (rest := []) (k := 0) ⟨hx, hb, hml, hown, hts⟩ h 0 (by decide) (C := "NonceBox") g0 rfl (m_NB_findAgreedKey l G (A0 s0) ad ev Bf tl ol hNB0) kc_NB_findAgreedKey kl_NB_95 km_NB_findAgreedKey kv_NB_findAgreedKey ki_NB (by decide +kernel) ⟨rfl, rfl, Nat.le_of_ble_eq_true rfl, Nat.le_of_ble_eq_true rfl⟩ hl.1 rfl rfl (Nat.le_of_ble_eq_true rfl) ⟨Nat.zero_le _, Nat.zero_le _⟩ d_NB_unbox_20 ?_
  intro ov ev8 H locs hp h
  obtain ⟨ho, hN7, h34, hfr0⟩ := hp
  rw [ho]
  refine W.eq (g2 := F0 m 23 ls []) rfl ?_
  obtain ⟨j0, -⟩ := id hN7
  refine lv_aload_n hx hb d_NB_unbox_23 rfl (lv_at hl 0 rfl) ?_
  refine lv_aload_n hx hb d_NB_unbox_24 rfl (lv_at hl 0 rfl) ?_
  refine wv_getf hx hb h 0 (by decide) (fs := [.ref (ad 1), .ref (ad 2), .ref (ad 3), .ref (ad 4), .ref (ad 5), .int (nI (tl)), .int (nI (ol)), .ref (ad 6), .ref (ad 12), .ref (ad 18), .ref (ad 34), .ref (ad 35), .ref (ad 36)]) j0 hts (fun w hw => List.mem_cons_of_mem _ (fW_NB w hw)) hown (ci := 4) (C := "NonceBox") (T := fT_NB) (N := 13) rfl 10 (by decide) (hts _ (List.mem_cons_of_mem _ kf_NB_53)) rfl (v := .ref (ad 34)) rfl d_NB_unbox_25 ?_
  refine wv_V (As := [.ref (ad 34)]) (rest := []) (k := 1) ⟨hx, hb, hml, hown, hts⟩ h 0 (by decide) (C := "NonceBox") j0 rfl (m_NB_openBy l G (A0 s0) ad ev8 Bf tl ol hN7 h16 34 (AGRB (Bf 0) (Bf 2)) (Or.inr rfl) h34 (AGRB_lt _ _)) kc_NB_openBy kl_NB_111 km_NB_openBy kv_NB_openBy ki_NB (by decide +kernel) ⟨rfl, rfl, Nat.le_of_ble_eq_true rfl, Nat.le_of_ble_eq_true rfl⟩ hl.1 rfl rfl (Nat.le_of_ble_eq_true rfl) ⟨Nat.zero_le _, Nat.zero_le _⟩ d_NB_unbox_28 ?_
  intro ov ev9 H locs hp h
  obtain ⟨ans, B9, o9, ho, hq, hN9, hfr⟩ := hp
  rcases hq with ⟨-, hok, -⟩ | ⟨rfl, -, rfl, rfl⟩
  · exact absurd hok hnok
  rw [ho]
  refine W.eq (g2 := F0 m 31 ls [.int (nI 0)]) rfl ?_
  refine lv_if_ne (tgt := 44) hx hb d_NB_unbox_31 (by decide) (fun hc => absurd rfl hc) (fun _ => ?_)
  obtain ⟨tx, qm, hst⟩ := hTW.2.2.2.2
  exact wv_throw hx hb htr hlocks hown (by rw [hml]; exact hl.1) hO hTW.2.1 (vk_R.warm hO.1 hst) (by decide) (by decide) (by decide) h ⟨by decide, by decide, by decide, by decide⟩ (fun x hx => hnx x hx _) d_NB_unbox_34 d_NB_unbox_37 d_NB_unbox_38 d_NB_unbox_40 d_NB_unbox_43 ⟨hN9, fun j hj => (hfr j hj).trans (hfr0 j hj)⟩
