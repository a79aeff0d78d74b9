theorem d_Md_thrown_0 : decode c_Md_thrown 0 = .ok (.aload_n 0, 1) := by decide +kernel
theorem d_Md_thrown_1 : decode c_Md_thrown 1 = .ok (.getfield 50, 3) := by decide +kernel
theorem d_Md_thrown_4 : decode c_Md_thrown 4 = .ok (.ireturn, 1) := by decide +kernel
set_option maxRecDepth 100000 in
set_option maxHeartbeats 4000000 in
/-- thrown -/
theorem m_Md_thrown (l : Launch) (G : wG) (A : Nat → Prop) (ad : Nat → Nat) (ev : Nat → va_E) (tl ol cd : Nat) (h37 : ev 37 = eO 5 [.ref (ad 38), .int (nI tl), .int (nI ol), .int (nI cd), .ref (ad 39), .ref (ad 40), .ref (ad 41), .ref (ad 42), .ref (ad 43), .ref (ad 44), .ref (ad 45), .ref (ad 46), .ref (ad 47), .ref (ad 48), .ref (ad 49), .ref (ad 50)]) : wM l y_Md_thrown w_Md_thrown ({ frames := 0, cells := 0, slots := 0, locals := 0 }) G A 52 ad ev [.ref (ad 37)] (fun ov ev' => ov = some (.int (nI cd)) ∧ ev' = ev) := by
  refine wv_ofW (cc := c_Md_thrown) (maxL := 1) (ret := (Option.some FieldType.int)) (by decide) rfl (Nat.le_of_ble_eq_true rfl) ?_
  intro p e s m below meth c ls hx hb hr hml hts hown hlocks hini h hl
  have hl : lv_has ls 1 [(0, .ref (ad 37))] := hl
  refine lv_aload_n hx hb d_Md_thrown_0 rfl (lv_at hl 0 rfl) ?_
  refine wv_getf hx hb h 37 (by decide) (fs := [.ref (ad 38), .int (nI (tl)), .int (nI (ol)), .int (nI (cd)), .ref (ad 39), .ref (ad 40), .ref (ad 41), .ref (ad 42), .ref (ad 43), .ref (ad 44), .ref (ad 45), .ref (ad 46), .ref (ad 47), .ref (ad 48), .ref (ad 49), .ref (ad 50)]) h37 hts (fun w hw => List.mem_cons_of_mem _ (fW_Md w hw)) hown (ci := 5) (C := "NonceBoxModel") (T := fT_Md) (N := 16) rfl 3 (by decide) (hts _ (List.mem_cons_of_mem _ kf_Md_50)) rfl (v := .int (nI (cd))) rfl d_Md_thrown_1 ?_
  exact wv_iret hx hb hr hlocks h d_Md_thrown_4 ⟨rfl, rfl⟩
theorem d_Md_agreeKey_0 : decode c_Md_agreeKey 0 = .ok (.aload_n 0, 1) := by decide +kernel
theorem d_Md_agreeKey_1 : decode c_Md_agreeKey 1 = .ok (.invokevirtual 103, 3) := by decide +kernel
theorem d_Md_agreeKey_4 : decode c_Md_agreeKey 4 = .ok (.aload_n 0, 1) := by decide +kernel
theorem d_Md_agreeKey_5 : decode c_Md_agreeKey 5 = .ok (.invokevirtual 178, 3) := by decide +kernel
theorem d_Md_agreeKey_8 : decode c_Md_agreeKey 8 = .ok (.iconst 0, 1) := by decide +kernel
theorem d_Md_agreeKey_9 : decode c_Md_agreeKey 9 = .ok (.istore_n 1, 1) := by decide +kernel
theorem d_Md_agreeKey_10 : decode c_Md_agreeKey 10 = .ok (.iload_n 1, 1) := by decide +kernel
theorem d_Md_agreeKey_11 : decode c_Md_agreeKey 11 = .ok (.bipush 16, 2) := by decide +kernel
theorem d_Md_agreeKey_13 : decode c_Md_agreeKey 13 = .ok (.if_icmp .ge 16, 3) := by decide +kernel
theorem d_Md_agreeKey_16 : decode c_Md_agreeKey 16 = .ok (.aload_n 0, 1) := by decide +kernel
theorem d_Md_agreeKey_17 : decode c_Md_agreeKey 17 = .ok (.getfield 16, 3) := by decide +kernel
theorem d_Md_agreeKey_20 : decode c_Md_agreeKey 20 = .ok (.iload_n 1, 1) := by decide +kernel
theorem d_Md_agreeKey_21 : decode c_Md_agreeKey 21 = .ok (.iconst 0, 1) := by decide +kernel
theorem d_Md_agreeKey_22 : decode c_Md_agreeKey 22 = .ok (.iastore, 1) := by decide +kernel
theorem d_Md_agreeKey_23 : decode c_Md_agreeKey 23 = .ok (.iinc 1 1, 3) := by decide +kernel
theorem d_Md_agreeKey_26 : decode c_Md_agreeKey 26 = .ok (.goto (-16), 3) := by decide +kernel
theorem d_Md_agreeKey_29 : decode c_Md_agreeKey 29 = .ok (.aload_n 0, 1) := by decide +kernel
theorem d_Md_agreeKey_30 : decode c_Md_agreeKey 30 = .ok (.invokevirtual 96, 3) := by decide +kernel
theorem d_Md_agreeKey_33 : decode c_Md_agreeKey 33 = .ok (.return_, 1) := by decide +kernel
set_option maxRecDepth 100000 in
set_option maxHeartbeats 4000000 in
/-- AGREED -/
theorem m_Md_agreeKey (l : Launch) (G : wG) (A : Nat → Prop) (ad : Nat → Nat) (ev : Nat → va_E) (Bf : Nat → Nat → Nat) (tl ol : Nat) (hMD : MD G ad ev Bf tl ol 0) : wM l y_Md_agreeKey w_Md_agreeKey ({ frames := 15, cells := 0, slots := 0, locals := 500 }) G A 52 ad ev [.ref (ad 37)] (fun ov ev' => ov = none ∧ MD G ad ev' Bf tl ol 0 ∧ ev' 39 = eI G 32 (ns (AGRB (Bf 0) (Bf 2))) ∧ ∀ j, j < 37 ∨ 50 < j → ev' j = ev j) := by
  refine wv_ofW (cc := c_Md_agreeKey) (maxL := 2) (ret := none) (by decide) rfl (Nat.le_of_ble_eq_true rfl) ?_
  intro p e s m below meth c ls hx hb hr hml hts hown hlocks hini h hl
  have hl : lv_has ls 2 [(0, .ref (ad 37))] := hl
  obtain ⟨g37, ⟨FF, hFB, g38⟩, ⟨x39, g39⟩, ⟨x40, g40⟩, ⟨x41, g41⟩, ⟨x42, g42⟩, ⟨x43, g43⟩, ⟨x44, g44⟩, ⟨x45, g45⟩, ⟨x46, g46⟩, ⟨x47, g47⟩, ⟨x48, g48⟩, ⟨x49, g49⟩, ⟨x50, b50, g50⟩, hB, htl, hol⟩ := hMD
  refine lv_aload_n hx hb d_Md_agreeKey_0 rfl (lv_at hl 0 rfl) ?_
  refine wv_V (As := []) (rest := []) (k := 0) ⟨hx, hb, hml, hown, hts⟩ h 37 (by decide) (C := "NonceBoxModel") g37 rfl (m_Md_takeKey l G A ad ev FF (Bf 0) x39 tl ol 0 g37 g38 g39 (fun j hj => (congrArg FF (Nat.zero_add j)).symm.trans (hFB 0 (by decide) j hj))) kc_Md_takeKey kl_Md_103 km_Md_takeKey kv_Md_takeKey ki_Md (by decide +kernel) ⟨rfl, rfl, Nat.le_of_ble_eq_true rfl, Nat.le_of_ble_eq_true rfl⟩ hl.1 rfl rfl (Nat.le_of_ble_eq_true rfl) ⟨Nat.le_refl _, Nat.le_refl _⟩ d_Md_agreeKey_1 ?_
  intro ov ev1 H locs hp h
  rw [hp.1]
  refine W.eq (g2 := F0 m 4 ls []) rfl ?_
  have o1 : ev1 = (va_up ev 39 (eI G 32 (ns (Bf 0)))) := hp.2
  have t1_39 : ev1 39 = eI G 32 (ns (Bf 0)) := by rw [o1, va_up_self]
  have t1_38 := (show ev1 38 = ev 38 by rw [o1, va_up_ne _ _ (by decide)]).trans g38
  have t1_40 := (show ev1 40 = ev 40 by rw [o1, va_up_ne _ _ (by decide)]).trans g40
  have t1_41 := (show ev1 41 = ev 41 by rw [o1, va_up_ne _ _ (by decide)]).trans g41
  have t1_42 := (show ev1 42 = ev 42 by rw [o1, va_up_ne _ _ (by decide)]).trans g42
  have t1_43 := (show ev1 43 = ev 43 by rw [o1, va_up_ne _ _ (by decide)]).trans g43
  have t1_44 := (show ev1 44 = ev 44 by rw [o1, va_up_ne _ _ (by decide)]).trans g44
  have t1_45 := (show ev1 45 = ev 45 by rw [o1, va_up_ne _ _ (by decide)]).trans g45
  have t1_46 := (show ev1 46 = ev 46 by rw [o1, va_up_ne _ _ (by decide)]).trans g46
  have t1_47 := (show ev1 47 = ev 47 by rw [o1, va_up_ne _ _ (by decide)]).trans g47
  have t1_48 := (show ev1 48 = ev 48 by rw [o1, va_up_ne _ _ (by decide)]).trans g48
  have t1_49 := (show ev1 49 = ev 49 by rw [o1, va_up_ne _ _ (by decide)]).trans g49
  have t1_50 := (show ev1 50 = ev 50 by rw [o1, va_up_ne _ _ (by decide)]).trans g50
  have t1_37 := (show ev1 37 = ev 37 by rw [o1, va_up_ne _ _ (by decide)]).trans g37
  refine lv_aload_n hx hb d_Md_agreeKey_4 rfl (lv_at hl 0 rfl) ?_
  refine wv_V (As := []) (rest := []) (k := 0) ⟨hx, hb, hml, hown, hts⟩ h 37 (by decide) (C := "NonceBoxModel") t1_37 rfl (m_Md_multipleKey l G A ad ev1 (Bf 0) (Bf 2) FF x44 x45 tl ol 0 t1_37 t1_38 t1_39 t1_44 t1_45 (fun j hj => hFB 2 (by decide) j hj) (hB 0) (hB 2)) kc_Md_multipleKey kl_Md_178 km_Md_multipleKey kv_Md_multipleKey ki_Md (by decide +kernel) ⟨rfl, rfl, Nat.le_of_ble_eq_true rfl, Nat.le_of_ble_eq_true rfl⟩ hl.1 rfl rfl (Nat.le_of_ble_eq_true rfl) ⟨Nat.le_refl _, Nat.le_refl _⟩ d_Md_agreeKey_5 ?_
  intro ov ev2 H locs hp h
  obtain ⟨ho, w45, r44, hp⟩ := hp
  rw [ho]
  refine W.eq (g2 := F0 m 8 ls []) rfl ?_
  have o2 : ev2 = (va_up (va_up (va_up ev1 45 (eJ G 20 w45)) 44 (eJ G 160 r44)) 39 (eI G 32 (ns (MULM (Bf 0) (Bf 2))))) := hp
  have t2_45 : ev2 45 = eJ G 20 w45 := by rw [o2, va_up_ne _ _ (by decide), va_up_ne _ _ (by decide), va_up_self]
  have t2_44 : ev2 44 = eJ G 160 r44 := by rw [o2, va_up_ne _ _ (by decide), va_up_self]
  have t2_39 : ev2 39 = eI G 32 (ns (MULM (Bf 0) (Bf 2))) := by rw [o2, va_up_self]
  have t2_38 := (show ev2 38 = ev1 38 by rw [o2, va_up_ne _ _ (by decide), va_up_ne _ _ (by decide), va_up_ne _ _ (by decide)]).trans t1_38
  have t2_40 := (show ev2 40 = ev1 40 by rw [o2, va_up_ne _ _ (by decide), va_up_ne _ _ (by decide), va_up_ne _ _ (by decide)]).trans t1_40
  have t2_41 := (show ev2 41 = ev1 41 by rw [o2, va_up_ne _ _ (by decide), va_up_ne _ _ (by decide), va_up_ne _ _ (by decide)]).trans t1_41
  have t2_42 := (show ev2 42 = ev1 42 by rw [o2, va_up_ne _ _ (by decide), va_up_ne _ _ (by decide), va_up_ne _ _ (by decide)]).trans t1_42
  have t2_43 := (show ev2 43 = ev1 43 by rw [o2, va_up_ne _ _ (by decide), va_up_ne _ _ (by decide), va_up_ne _ _ (by decide)]).trans t1_43
  have t2_46 := (show ev2 46 = ev1 46 by rw [o2, va_up_ne _ _ (by decide), va_up_ne _ _ (by decide), va_up_ne _ _ (by decide)]).trans t1_46
  have t2_47 := (show ev2 47 = ev1 47 by rw [o2, va_up_ne _ _ (by decide), va_up_ne _ _ (by decide), va_up_ne _ _ (by decide)]).trans t1_47
  have t2_48 := (show ev2 48 = ev1 48 by rw [o2, va_up_ne _ _ (by decide), va_up_ne _ _ (by decide), va_up_ne _ _ (by decide)]).trans t1_48
  have t2_49 := (show ev2 49 = ev1 49 by rw [o2, va_up_ne _ _ (by decide), va_up_ne _ _ (by decide), va_up_ne _ _ (by decide)]).trans t1_49
  have t2_50 := (show ev2 50 = ev1 50 by rw [o2, va_up_ne _ _ (by decide), va_up_ne _ _ (by decide), va_up_ne _ _ (by decide)]).trans t1_50
  have t2_37 := (show ev2 37 = ev1 37 by rw [o2, va_up_ne _ _ (by decide), va_up_ne _ _ (by decide), va_up_ne _ _ (by decide)]).trans t1_37
  refine lv_iconst (v := nI (0)) hx hb d_Md_agreeKey_8 (by decide) ?_
  refine lv_istore_n (lv' := [(1, .int (nI (0))), (0, .ref (ad 37))]) hx hb d_Md_agreeKey_9 rfl hl (by decide) rfl (fun ls hl => ?_)
  have loop3 : ∀ (d k : Nat), k + d = 16 →  ∀ (ev3 : Nat → va_E) (H : Heap) (locs : List Loc) (ls : Array Slot), ev3 = (va_up ev2 40 (eI G 16 (ns (fil 0 k (fun _ => 0) x40)))) → wT G A 52 ad ev3 s H locs → lv_has ls 2 [(1, .int (nI (k))), (0, .ref (ad 37))] → W p l e ({ frames := 15, cells := 0, slots := 0, locals := 500 }) s m ([.ref (ad 37)] : List Value).toArray below meth c H locs 0 0 (MQ below (wQc G A 52 ad (fun ov ev' => ov = none ∧ MD G ad ev' Bf tl ol 0 ∧ ev' 39 = eI G 32 (ns (AGRB (Bf 0) (Bf 2))) ∧ ∀ j, j < 37 ∨ 50 < j → ev' j = ev j)) ([.ref (ad 37)] : List Value).toArray s 0 0 A) (F0 m 10 ls []) := by
    intro d
    induction d with
    | zero =>
      intro k hk_k  ev3 H locs ls  o3 h hl
      have t3_40 : ev3 40 = eI G 16 (ns (fil 0 k (fun _ => 0) x40)) := by rw [o3, va_up_self]
      have t3_38 := (show ev3 38 = ev2 38 by rw [o3, va_up_ne _ _ (by decide)]).trans t2_38
      have t3_39 := (show ev3 39 = ev2 39 by rw [o3, va_up_ne _ _ (by decide)]).trans t2_39
      have t3_41 := (show ev3 41 = ev2 41 by rw [o3, va_up_ne _ _ (by decide)]).trans t2_41
      have t3_42 := (show ev3 42 = ev2 42 by rw [o3, va_up_ne _ _ (by decide)]).trans t2_42
      have t3_43 := (show ev3 43 = ev2 43 by rw [o3, va_up_ne _ _ (by decide)]).trans t2_43
      have t3_44 := (show ev3 44 = ev2 44 by rw [o3, va_up_ne _ _ (by decide)]).trans t2_44
      have t3_45 := (show ev3 45 = ev2 45 by rw [o3, va_up_ne _ _ (by decide)]).trans t2_45
      have t3_46 := (show ev3 46 = ev2 46 by rw [o3, va_up_ne _ _ (by decide)]).trans t2_46
      have t3_47 := (show ev3 47 = ev2 47 by rw [o3, va_up_ne _ _ (by decide)]).trans t2_47
      have t3_48 := (show ev3 48 = ev2 48 by rw [o3, va_up_ne _ _ (by decide)]).trans t2_48
      have t3_49 := (show ev3 49 = ev2 49 by rw [o3, va_up_ne _ _ (by decide)]).trans t2_49
      have t3_50 := (show ev3 50 = ev2 50 by rw [o3, va_up_ne _ _ (by decide)]).trans t2_50
      have t3_37 := (show ev3 37 = ev2 37 by rw [o3, va_up_ne _ _ (by decide)]).trans t2_37
      refine lv_iload_n hx hb d_Md_agreeKey_10 rfl (lv_at hl 0 rfl) ?_
      refine lv_bipush (v := nI (16)) hx hb d_Md_agreeKey_11 (by decide) ?_
      refine lv_icmp_ge (tgt := 29) hx hb d_Md_agreeKey_13 (by decide) (fun _ => ?_) (fun hc => absurd ((nI_leI (by omega) (by omega)).mpr (by omega)) hc)
      have h := wT_eqI (g := (ns (fun _ => 0))) h 40 (by decide) t3_40 (fun j hj => by unfold ns fil; rw [if_pos (by omega)])
      obtain ⟨ev4, o4⟩ : ∃ z, z = va_up ev3 40 (eI G 16 (ns (fun _ => 0))) := ⟨_, rfl⟩
      rw [← o4] at h
      have t4_40 : ev4 40 = eI G 16 (ns (fun _ => 0)) := by rw [o4, va_up_self]
      have t4_38 := (show ev4 38 = ev3 38 by rw [o4, va_up_ne _ _ (by decide)]).trans t3_38
      have t4_39 := (show ev4 39 = ev3 39 by rw [o4, va_up_ne _ _ (by decide)]).trans t3_39
      have t4_41 := (show ev4 41 = ev3 41 by rw [o4, va_up_ne _ _ (by decide)]).trans t3_41
      have t4_42 := (show ev4 42 = ev3 42 by rw [o4, va_up_ne _ _ (by decide)]).trans t3_42
      have t4_43 := (show ev4 43 = ev3 43 by rw [o4, va_up_ne _ _ (by decide)]).trans t3_43
      have t4_44 := (show ev4 44 = ev3 44 by rw [o4, va_up_ne _ _ (by decide)]).trans t3_44
      have t4_45 := (show ev4 45 = ev3 45 by rw [o4, va_up_ne _ _ (by decide)]).trans t3_45
      have t4_46 := (show ev4 46 = ev3 46 by rw [o4, va_up_ne _ _ (by decide)]).trans t3_46
      have t4_47 := (show ev4 47 = ev3 47 by rw [o4, va_up_ne _ _ (by decide)]).trans t3_47
      have t4_48 := (show ev4 48 = ev3 48 by rw [o4, va_up_ne _ _ (by decide)]).trans t3_48
      have t4_49 := (show ev4 49 = ev3 49 by rw [o4, va_up_ne _ _ (by decide)]).trans t3_49
      have t4_50 := (show ev4 50 = ev3 50 by rw [o4, va_up_ne _ _ (by decide)]).trans t3_50
      have t4_37 := (show ev4 37 = ev3 37 by rw [o4, va_up_ne _ _ (by decide)]).trans t3_37
      refine lv_aload_n hx hb d_Md_agreeKey_29 rfl (lv_at hl 1 rfl) ?_
      refine wv_V (As := []) (rest := []) (k := 0) ⟨hx, hb, hml, hown, hts⟩ h 37 (by decide) (C := "NonceBoxModel") t4_37 rfl (m_Md_mixKey l G A ad ev4 (MULM (Bf 0) (Bf 2)) (fun _ => 0) x41 x42 tl ol 0 t4_37 t4_39 t4_40 t4_41 t4_42) kc_Md_mixKey kl_Md_96 km_Md_mixKey kv_Md_mixKey ki_Md (by decide +kernel) ⟨rfl, rfl, Nat.le_of_ble_eq_true rfl, Nat.le_of_ble_eq_true rfl⟩ hl.1 rfl rfl (Nat.le_of_ble_eq_true rfl) ⟨Nat.le_refl _, Nat.le_refl _⟩ d_Md_agreeKey_30 ?_
      intro ov ev5 H locs hp h
      rw [hp.1]
      refine W.eq (g2 := F0 m 33 ls []) rfl ?_
      have o5 : ev5 = (va_up (va_up (va_up ev4 41 (eI G 16 (LAY (MULM (Bf 0) (Bf 2)) (fun _ => 0)))) 42 (eI G 16 (RND (MULM (Bf 0) (Bf 2)) (fun _ => 0)))) 39 (eI G 32 (ns (MIXB (MULM (Bf 0) (Bf 2)) (fun _ => 0))))) := hp.2
      have t5_41 : ev5 41 = eI G 16 (LAY (MULM (Bf 0) (Bf 2)) (fun _ => 0)) := by rw [o5, va_up_ne _ _ (by decide), va_up_ne _ _ (by decide), va_up_self]
      have t5_42 : ev5 42 = eI G 16 (RND (MULM (Bf 0) (Bf 2)) (fun _ => 0)) := by rw [o5, va_up_ne _ _ (by decide), va_up_self]
      have t5_39 : ev5 39 = eI G 32 (ns (MIXB (MULM (Bf 0) (Bf 2)) (fun _ => 0))) := by rw [o5, va_up_self]
      have t5_38 := (show ev5 38 = ev4 38 by rw [o5, va_up_ne _ _ (by decide), va_up_ne _ _ (by decide), va_up_ne _ _ (by decide)]).trans t4_38
      have t5_40 := (show ev5 40 = ev4 40 by rw [o5, va_up_ne _ _ (by decide), va_up_ne _ _ (by decide), va_up_ne _ _ (by decide)]).trans t4_40
      have t5_43 := (show ev5 43 = ev4 43 by rw [o5, va_up_ne _ _ (by decide), va_up_ne _ _ (by decide), va_up_ne _ _ (by decide)]).trans t4_43
      have t5_44 := (show ev5 44 = ev4 44 by rw [o5, va_up_ne _ _ (by decide), va_up_ne _ _ (by decide), va_up_ne _ _ (by decide)]).trans t4_44
      have t5_45 := (show ev5 45 = ev4 45 by rw [o5, va_up_ne _ _ (by decide), va_up_ne _ _ (by decide), va_up_ne _ _ (by decide)]).trans t4_45
      have t5_46 := (show ev5 46 = ev4 46 by rw [o5, va_up_ne _ _ (by decide), va_up_ne _ _ (by decide), va_up_ne _ _ (by decide)]).trans t4_46
      have t5_47 := (show ev5 47 = ev4 47 by rw [o5, va_up_ne _ _ (by decide), va_up_ne _ _ (by decide), va_up_ne _ _ (by decide)]).trans t4_47
      have t5_48 := (show ev5 48 = ev4 48 by rw [o5, va_up_ne _ _ (by decide), va_up_ne _ _ (by decide), va_up_ne _ _ (by decide)]).trans t4_48
      have t5_49 := (show ev5 49 = ev4 49 by rw [o5, va_up_ne _ _ (by decide), va_up_ne _ _ (by decide), va_up_ne _ _ (by decide)]).trans t4_49
      have t5_50 := (show ev5 50 = ev4 50 by rw [o5, va_up_ne _ _ (by decide), va_up_ne _ _ (by decide), va_up_ne _ _ (by decide)]).trans t4_50
      have t5_37 := (show ev5 37 = ev4 37 by rw [o5, va_up_ne _ _ (by decide), va_up_ne _ _ (by decide), va_up_ne _ _ (by decide)]).trans t4_37
      exact wv_vret hx hb hr hlocks h d_Md_agreeKey_33 ⟨rfl, ⟨t5_37, ⟨_, hFB, t5_38⟩, ⟨_, t5_39⟩, ⟨_, t5_40⟩, ⟨_, t5_41⟩, ⟨_, t5_42⟩, ⟨_, t5_43⟩, ⟨_, t5_44⟩, ⟨_, t5_45⟩, ⟨_, t5_46⟩, ⟨_, t5_47⟩, ⟨_, t5_48⟩, ⟨_, t5_49⟩, ⟨_, b50, t5_50⟩, hB, htl, hol⟩, t5_39, (fun j hj => by rw [o5, va_up_ne _ _ (by omega), va_up_ne _ _ (by omega), va_up_ne _ _ (by omega), o4, va_up_ne _ _ (by omega), o3, va_up_ne _ _ (by omega), o2, va_up_ne _ _ (by omega), va_up_ne _ _ (by omega), va_up_ne _ _ (by omega), o1, va_up_ne _ _ (by omega)])⟩
    | succ d ih =>
      intro k hk_k  ev3 H locs ls  o3 h hl
      have t3_40 : ev3 40 = eI G 16 (ns (fil 0 k (fun _ => 0) x40)) := by rw [o3, va_up_self]
      have t3_38 := (show ev3 38 = ev2 38 by rw [o3, va_up_ne _ _ (by decide)]).trans t2_38
      have t3_39 := (show ev3 39 = ev2 39 by rw [o3, va_up_ne _ _ (by decide)]).trans t2_39
      have t3_41 := (show ev3 41 = ev2 41 by rw [o3, va_up_ne _ _ (by decide)]).trans t2_41
      have t3_42 := (show ev3 42 = ev2 42 by rw [o3, va_up_ne _ _ (by decide)]).trans t2_42
      have t3_43 := (show ev3 43 = ev2 43 by rw [o3, va_up_ne _ _ (by decide)]).trans t2_43
      have t3_44 := (show ev3 44 = ev2 44 by rw [o3, va_up_ne _ _ (by decide)]).trans t2_44
      have t3_45 := (show ev3 45 = ev2 45 by rw [o3, va_up_ne _ _ (by decide)]).trans t2_45
      have t3_46 := (show ev3 46 = ev2 46 by rw [o3, va_up_ne _ _ (by decide)]).trans t2_46
      have t3_47 := (show ev3 47 = ev2 47 by rw [o3, va_up_ne _ _ (by decide)]).trans t2_47
      have t3_48 := (show ev3 48 = ev2 48 by rw [o3, va_up_ne _ _ (by decide)]).trans t2_48
      have t3_49 := (show ev3 49 = ev2 49 by rw [o3, va_up_ne _ _ (by decide)]).trans t2_49
      have t3_50 := (show ev3 50 = ev2 50 by rw [o3, va_up_ne _ _ (by decide)]).trans t2_50
      have t3_37 := (show ev3 37 = ev2 37 by rw [o3, va_up_ne _ _ (by decide)]).trans t2_37
      refine lv_iload_n hx hb d_Md_agreeKey_10 rfl (lv_at hl 0 rfl) ?_
      refine lv_bipush (v := nI (16)) hx hb d_Md_agreeKey_11 (by decide) ?_
      refine lv_icmp_ge (tgt := 29) hx hb d_Md_agreeKey_13 (by decide) (fun hc => absurd ((nI_leI (by omega) (by omega)).mp hc) (by omega)) (fun _ => ?_)
      refine lv_aload_n hx hb d_Md_agreeKey_16 rfl (lv_at hl 1 rfl) ?_
      refine wv_getf hx hb h 37 (by decide) (fs := [.ref (ad 38), .int (nI (tl)), .int (nI (ol)), .int (nI (0)), .ref (ad 39), .ref (ad 40), .ref (ad 41), .ref (ad 42), .ref (ad 43), .ref (ad 44), .ref (ad 45), .ref (ad 46), .ref (ad 47), .ref (ad 48), .ref (ad 49), .ref (ad 50)]) t3_37 hts (fun w hw => List.mem_cons_of_mem _ (fW_Md w hw)) hown (ci := 5) (C := "NonceBoxModel") (T := fT_Md) (N := 16) rfl 5 (by decide) (hts _ (List.mem_cons_of_mem _ kf_Md_16)) rfl (v := .ref (ad 40)) rfl d_Md_agreeKey_17 ?_
      refine lv_iload_n hx hb d_Md_agreeKey_20 rfl (lv_at hl 0 rfl) ?_
      refine lv_iconst (v := nI (0)) hx hb d_Md_agreeKey_21 (by decide) ?_
      refine wv_iast hx hb h 40 (by decide) (f := (ns (fil 0 k (fun _ => 0) x40))) t3_40 (k := k) rfl (by omega) (by decide) d_Md_agreeKey_22 (fun H locs h => ?_)
      obtain ⟨ev4, o4⟩ : ∃ z, z = va_up ev3 40 (eI G 16 (va_up ((ns (fil 0 k (fun _ => 0) x40))) k (nI (0)))) := ⟨_, rfl⟩
      rw [← o4] at h
      have t4_40 : ev4 40 = eI G 16 (va_up ((ns (fil 0 k (fun _ => 0) x40))) k (nI (0))) := by rw [o4, va_up_self]
      have t4_38 := (show ev4 38 = ev3 38 by rw [o4, va_up_ne _ _ (by decide)]).trans t3_38
      have t4_39 := (show ev4 39 = ev3 39 by rw [o4, va_up_ne _ _ (by decide)]).trans t3_39
      have t4_41 := (show ev4 41 = ev3 41 by rw [o4, va_up_ne _ _ (by decide)]).trans t3_41
      have t4_42 := (show ev4 42 = ev3 42 by rw [o4, va_up_ne _ _ (by decide)]).trans t3_42
      have t4_43 := (show ev4 43 = ev3 43 by rw [o4, va_up_ne _ _ (by decide)]).trans t3_43
      have t4_44 := (show ev4 44 = ev3 44 by rw [o4, va_up_ne _ _ (by decide)]).trans t3_44
      have t4_45 := (show ev4 45 = ev3 45 by rw [o4, va_up_ne _ _ (by decide)]).trans t3_45
      have t4_46 := (show ev4 46 = ev3 46 by rw [o4, va_up_ne _ _ (by decide)]).trans t3_46
      have t4_47 := (show ev4 47 = ev3 47 by rw [o4, va_up_ne _ _ (by decide)]).trans t3_47
      have t4_48 := (show ev4 48 = ev3 48 by rw [o4, va_up_ne _ _ (by decide)]).trans t3_48
      have t4_49 := (show ev4 49 = ev3 49 by rw [o4, va_up_ne _ _ (by decide)]).trans t3_49
      have t4_50 := (show ev4 50 = ev3 50 by rw [o4, va_up_ne _ _ (by decide)]).trans t3_50
      have t4_37 := (show ev4 37 = ev3 37 by rw [o4, va_up_ne _ _ (by decide)]).trans t3_37
      rw [ns_up _ _ 0 rfl] at o4
      refine lv_iinc (v := nI (k + 1)) (lv' := [(1, .int (nI (k + 1))), (0, .ref (ad 37))]) hx hb d_Md_agreeKey_23 hl (k := 0) rfl (nI_add _ _) (by decide) rfl (fun ls hl => ?_)
      refine lv_goto (tgt := 10) hx hb d_Md_agreeKey_26 (by decide) ?_
      refine ih (k + 1) (by omega) ev4 H locs ls ?_ h (lv_sub hl [0, 1] rfl)
      rw [o4, o3, va_up2, ← fil_s 0 k (fun _ => 0) x40 rfl, Nat.zero_add]
  exact loop3 16 0 rfl ev2 H locs ls (by rw [fil_0, va_upi _ _ t2_40]) h (lv_sub hl [0, 1] rfl)
theorem d_Md_multiply_0 : decode c_Md_multiply 0 = .ok (.aload_n 0, 1) := by decide +kernel
theorem d_Md_multiply_1 : decode c_Md_multiply 1 = .ok (.iconst 0, 1) := by decide +kernel
theorem d_Md_multiply_2 : decode c_Md_multiply 2 = .ok (.putfield 50, 3) := by decide +kernel
theorem d_Md_multiply_5 : decode c_Md_multiply 5 = .ok (.aload_n 0, 1) := by decide +kernel
theorem d_Md_multiply_6 : decode c_Md_multiply 6 = .ok (.invokevirtual 103, 3) := by decide +kernel
theorem d_Md_multiply_9 : decode c_Md_multiply 9 = .ok (.aload_n 0, 1) := by decide +kernel
theorem d_Md_multiply_10 : decode c_Md_multiply 10 = .ok (.invokevirtual 178, 3) := by decide +kernel
theorem d_Md_multiply_13 : decode c_Md_multiply 13 = .ok (.aload_n 0, 1) := by decide +kernel
theorem d_Md_multiply_14 : decode c_Md_multiply 14 = .ok (.aload_n 0, 1) := by decide +kernel
theorem d_Md_multiply_15 : decode c_Md_multiply 15 = .ok (.getfield 13, 3) := by decide +kernel
theorem d_Md_multiply_18 : decode c_Md_multiply 18 = .ok (.bipush 32, 2) := by decide +kernel
theorem d_Md_multiply_20 : decode c_Md_multiply 20 = .ok (.invokevirtual 106, 3) := by decide +kernel
theorem d_Md_multiply_23 : decode c_Md_multiply 23 = .ok (.return_, 1) := by decide +kernel
set_option maxRecDepth 100000 in
set_option maxHeartbeats 4000000 in
/-- multiply -/
theorem m_Md_multiply (l : Launch) (G : wG) (A : Nat → Prop) (ad : Nat → Nat) (ev : Nat → va_E) (Bf : Nat → Nat → Nat) (tl ol cd : Nat) (hMD : MD G ad ev Bf tl ol cd) : wM l y_Md_multiply w_Md_multiply ({ frames := 12, cells := 0, slots := 0, locals := 400 }) G A 52 ad ev [.ref (ad 37)] (fun ov ev' => ov = none ∧ MD G ad ev' (va_up Bf 4 (outF 32 (MULM (Bf 0) (Bf 2)))) tl 32 0 ∧ ∀ j, j < 37 ∨ 50 < j → ev' j = ev j) := by
  refine wv_ofW (cc := c_Md_multiply) (maxL := 1) (ret := none) (by decide) rfl (Nat.le_of_ble_eq_true rfl) ?_
  intro p e s m below meth c ls hx hb hr hml hts hown hlocks hini h hl
  have hl : lv_has ls 1 [(0, .ref (ad 37))] := hl
  obtain ⟨g37, ⟨FF, hFB, g38⟩, ⟨x39, g39⟩, ⟨x40, g40⟩, ⟨x41, g41⟩, ⟨x42, g42⟩, ⟨x43, g43⟩, ⟨x44, g44⟩, ⟨x45, g45⟩, ⟨x46, g46⟩, ⟨x47, g47⟩, ⟨x48, g48⟩, ⟨x49, g49⟩, ⟨x50, b50, g50⟩, hB, htl, hol⟩ := hMD
  refine lv_aload_n hx hb d_Md_multiply_0 rfl (lv_at hl 0 rfl) ?_
  refine lv_iconst (v := nI (0)) hx hb d_Md_multiply_1 (by decide) ?_
  refine wv_putf hx hb h 37 (by decide) (fs := [.ref (ad 38), .int (nI (tl)), .int (nI (ol)), .int (nI (cd)), .ref (ad 39), .ref (ad 40), .ref (ad 41), .ref (ad 42), .ref (ad 43), .ref (ad 44), .ref (ad 45), .ref (ad 46), .ref (ad 47), .ref (ad 48), .ref (ad 49), .ref (ad 50)]) g37 hts (fun w hw => List.mem_cons_of_mem _ (fW_Md w hw)) fY_Md fK_Md fN_Md hown (ci := 5) (C := "NonceBoxModel") (T := fT_Md) (N := 16) rfl 3 (by decide) (hts _ (List.mem_cons_of_mem _ kf_Md_50)) rfl rfl (v := .int (nI (0))) rfl rfl (Nat.le_of_ble_eq_true rfl) d_Md_multiply_2 (fun H locs h => ?_)
  have h : wT G A 52 ad (va_up ev 37 (eO 5 [.ref (ad 38), .int (nI (tl)), .int (nI (ol)), .int (nI (0)), .ref (ad 39), .ref (ad 40), .ref (ad 41), .ref (ad 42), .ref (ad 43), .ref (ad 44), .ref (ad 45), .ref (ad 46), .ref (ad 47), .ref (ad 48), .ref (ad 49), .ref (ad 50)])) s H locs := h
  obtain ⟨ev1, o1⟩ : ∃ z, z = va_up ev 37 (eO 5 [.ref (ad 38), .int (nI (tl)), .int (nI (ol)), .int (nI (0)), .ref (ad 39), .ref (ad 40), .ref (ad 41), .ref (ad 42), .ref (ad 43), .ref (ad 44), .ref (ad 45), .ref (ad 46), .ref (ad 47), .ref (ad 48), .ref (ad 49), .ref (ad 50)]) := ⟨_, rfl⟩
  rw [← o1] at h
  have t1_37 : ev1 37 = eO 5 [.ref (ad 38), .int (nI (tl)), .int (nI (ol)), .int (nI (0)), .ref (ad 39), .ref (ad 40), .ref (ad 41), .ref (ad 42), .ref (ad 43), .ref (ad 44), .ref (ad 45), .ref (ad 46), .ref (ad 47), .ref (ad 48), .ref (ad 49), .ref (ad 50)] := by rw [o1, va_up_self]
  have t1_38 := (show ev1 38 = ev 38 by rw [o1, va_up_ne _ _ (by decide)]).trans g38
  have t1_39 := (show ev1 39 = ev 39 by rw [o1, va_up_ne _ _ (by decide)]).trans g39
  have t1_40 := (show ev1 40 = ev 40 by rw [o1, va_up_ne _ _ (by decide)]).trans g40
  have t1_41 := (show ev1 41 = ev 41 by rw [o1, va_up_ne _ _ (by decide)]).trans g41
  have t1_42 := (show ev1 42 = ev 42 by rw [o1, va_up_ne _ _ (by decide)]).trans g42
  have t1_43 := (show ev1 43 = ev 43 by rw [o1, va_up_ne _ _ (by decide)]).trans g43
  have t1_44 := (show ev1 44 = ev 44 by rw [o1, va_up_ne _ _ (by decide)]).trans g44
  have t1_45 := (show ev1 45 = ev 45 by rw [o1, va_up_ne _ _ (by decide)]).trans g45
  have t1_46 := (show ev1 46 = ev 46 by rw [o1, va_up_ne _ _ (by decide)]).trans g46
  have t1_47 := (show ev1 47 = ev 47 by rw [o1, va_up_ne _ _ (by decide)]).trans g47
  have t1_48 := (show ev1 48 = ev 48 by rw [o1, va_up_ne _ _ (by decide)]).trans g48
  have t1_49 := (show ev1 49 = ev 49 by rw [o1, va_up_ne _ _ (by decide)]).trans g49
  have t1_50 := (show ev1 50 = ev 50 by rw [o1, va_up_ne _ _ (by decide)]).trans g50
  refine lv_aload_n hx hb d_Md_multiply_5 rfl (lv_at hl 0 rfl) ?_
  refine wv_V (As := []) (rest := []) (k := 0) ⟨hx, hb, hml, hown, hts⟩ h 37 (by decide) (C := "NonceBoxModel") t1_37 rfl (m_Md_takeKey l G A ad ev1 FF (Bf 0) x39 tl ol 0 t1_37 t1_38 t1_39 (fun j hj => (congrArg FF (Nat.zero_add j)).symm.trans (hFB 0 (by decide) j hj))) kc_Md_takeKey kl_Md_103 km_Md_takeKey kv_Md_takeKey ki_Md (by decide +kernel) ⟨rfl, rfl, Nat.le_of_ble_eq_true rfl, Nat.le_of_ble_eq_true rfl⟩ hl.1 rfl rfl (Nat.le_of_ble_eq_true rfl) ⟨Nat.le_refl _, Nat.le_refl _⟩ d_Md_multiply_6 ?_
  intro ov ev2 H locs hp h
  rw [hp.1]
  refine W.eq (g2 := F0 m 9 ls []) rfl ?_
  have o2 : ev2 = (va_up ev1 39 (eI G 32 (ns (Bf 0)))) := hp.2
  have t2_39 : ev2 39 = eI G 32 (ns (Bf 0)) := by rw [o2, va_up_self]
  have t2_38 := (show ev2 38 = ev1 38 by rw [o2, va_up_ne _ _ (by decide)]).trans t1_38
  have t2_40 := (show ev2 40 = ev1 40 by rw [o2, va_up_ne _ _ (by decide)]).trans t1_40
  have t2_41 := (show ev2 41 = ev1 41 by rw [o2, va_up_ne _ _ (by decide)]).trans t1_41
  have t2_42 := (show ev2 42 = ev1 42 by rw [o2, va_up_ne _ _ (by decide)]).trans t1_42
  have t2_43 := (show ev2 43 = ev1 43 by rw [o2, va_up_ne _ _ (by decide)]).trans t1_43
  have t2_44 := (show ev2 44 = ev1 44 by rw [o2, va_up_ne _ _ (by decide)]).trans t1_44
  have t2_45 := (show ev2 45 = ev1 45 by rw [o2, va_up_ne _ _ (by decide)]).trans t1_45
  have t2_46 := (show ev2 46 = ev1 46 by rw [o2, va_up_ne _ _ (by decide)]).trans t1_46
  have t2_47 := (show ev2 47 = ev1 47 by rw [o2, va_up_ne _ _ (by decide)]).trans t1_47
  have t2_48 := (show ev2 48 = ev1 48 by rw [o2, va_up_ne _ _ (by decide)]).trans t1_48
  have t2_49 := (show ev2 49 = ev1 49 by rw [o2, va_up_ne _ _ (by decide)]).trans t1_49
  have t2_50 := (show ev2 50 = ev1 50 by rw [o2, va_up_ne _ _ (by decide)]).trans t1_50
  have t2_37 := (show ev2 37 = ev1 37 by rw [o2, va_up_ne _ _ (by decide)]).trans t1_37
  refine lv_aload_n hx hb d_Md_multiply_9 rfl (lv_at hl 0 rfl) ?_
  refine wv_V (As := []) (rest := []) (k := 0) ⟨hx, hb, hml, hown, hts⟩ h 37 (by decide) (C := "NonceBoxModel") t2_37 rfl (m_Md_multipleKey l G A ad ev2 (Bf 0) (Bf 2) FF x44 x45 tl ol 0 t2_37 t2_38 t2_39 t2_44 t2_45 (fun j hj => hFB 2 (by decide) j hj) (hB 0) (hB 2)) kc_Md_multipleKey kl_Md_178 km_Md_multipleKey kv_Md_multipleKey ki_Md (by decide +kernel) ⟨rfl, rfl, Nat.le_of_ble_eq_true rfl, Nat.le_of_ble_eq_true rfl⟩ hl.1 rfl rfl (Nat.le_of_ble_eq_true rfl) ⟨Nat.le_refl _, Nat.le_refl _⟩ d_Md_multiply_10 ?_
  intro ov ev3 H locs hp h
  obtain ⟨ho, w45, r44, hp⟩ := hp
  rw [ho]
  refine W.eq (g2 := F0 m 13 ls []) rfl ?_
  have o3 : ev3 = (va_up (va_up (va_up ev2 45 (eJ G 20 w45)) 44 (eJ G 160 r44)) 39 (eI G 32 (ns (MULM (Bf 0) (Bf 2))))) := hp
  have t3_45 : ev3 45 = eJ G 20 w45 := by rw [o3, va_up_ne _ _ (by decide), va_up_ne _ _ (by decide), va_up_self]
  have t3_44 : ev3 44 = eJ G 160 r44 := by rw [o3, va_up_ne _ _ (by decide), va_up_self]
  have t3_39 : ev3 39 = eI G 32 (ns (MULM (Bf 0) (Bf 2))) := by rw [o3, va_up_self]
  have t3_38 := (show ev3 38 = ev2 38 by rw [o3, va_up_ne _ _ (by decide), va_up_ne _ _ (by decide), va_up_ne _ _ (by decide)]).trans t2_38
  have t3_40 := (show ev3 40 = ev2 40 by rw [o3, va_up_ne _ _ (by decide), va_up_ne _ _ (by decide), va_up_ne _ _ (by decide)]).trans t2_40
  have t3_41 := (show ev3 41 = ev2 41 by rw [o3, va_up_ne _ _ (by decide), va_up_ne _ _ (by decide), va_up_ne _ _ (by decide)]).trans t2_41
  have t3_42 := (show ev3 42 = ev2 42 by rw [o3, va_up_ne _ _ (by decide), va_up_ne _ _ (by decide), va_up_ne _ _ (by decide)]).trans t2_42
  have t3_43 := (show ev3 43 = ev2 43 by rw [o3, va_up_ne _ _ (by decide), va_up_ne _ _ (by decide), va_up_ne _ _ (by decide)]).trans t2_43
  have t3_46 := (show ev3 46 = ev2 46 by rw [o3, va_up_ne _ _ (by decide), va_up_ne _ _ (by decide), va_up_ne _ _ (by decide)]).trans t2_46
  have t3_47 := (show ev3 47 = ev2 47 by rw [o3, va_up_ne _ _ (by decide), va_up_ne _ _ (by decide), va_up_ne _ _ (by decide)]).trans t2_47
  have t3_48 := (show ev3 48 = ev2 48 by rw [o3, va_up_ne _ _ (by decide), va_up_ne _ _ (by decide), va_up_ne _ _ (by decide)]).trans t2_48
  have t3_49 := (show ev3 49 = ev2 49 by rw [o3, va_up_ne _ _ (by decide), va_up_ne _ _ (by decide), va_up_ne _ _ (by decide)]).trans t2_49
  have t3_50 := (show ev3 50 = ev2 50 by rw [o3, va_up_ne _ _ (by decide), va_up_ne _ _ (by decide), va_up_ne _ _ (by decide)]).trans t2_50
  have t3_37 := (show ev3 37 = ev2 37 by rw [o3, va_up_ne _ _ (by decide), va_up_ne _ _ (by decide), va_up_ne _ _ (by decide)]).trans t2_37
  refine lv_aload_n hx hb d_Md_multiply_13 rfl (lv_at hl 0 rfl) ?_
  refine lv_aload_n hx hb d_Md_multiply_14 rfl (lv_at hl 0 rfl) ?_
  refine wv_getf hx hb h 37 (by decide) (fs := [.ref (ad 38), .int (nI (tl)), .int (nI (ol)), .int (nI (0)), .ref (ad 39), .ref (ad 40), .ref (ad 41), .ref (ad 42), .ref (ad 43), .ref (ad 44), .ref (ad 45), .ref (ad 46), .ref (ad 47), .ref (ad 48), .ref (ad 49), .ref (ad 50)]) t3_37 hts (fun w hw => List.mem_cons_of_mem _ (fW_Md w hw)) hown (ci := 5) (C := "NonceBoxModel") (T := fT_Md) (N := 16) rfl 4 (by decide) (hts _ (List.mem_cons_of_mem _ kf_Md_13)) rfl (v := .ref (ad 39)) rfl d_Md_multiply_15 ?_
  refine lv_bipush (v := nI (32)) hx hb d_Md_multiply_18 (by decide) ?_
  refine wv_V (As := [.ref (ad 39), .int (nI (32))]) (rest := []) (k := 2) ⟨hx, hb, hml, hown, hts⟩ h 37 (by decide) (C := "NonceBoxModel") t3_37 rfl (m_Md_outFrom l G A ad ev3 39 32 32 FF (MULM (Bf 0) (Bf 2)) tl ol 0 t3_37 (by decide) t3_38 t3_39 (by decide) (by decide) (by decide)) kc_Md_outFrom kl_Md_106 km_Md_outFrom kv_Md_outFrom ki_Md (by decide +kernel) ⟨rfl, rfl, Nat.le_of_ble_eq_true rfl, Nat.le_of_ble_eq_true rfl⟩ hl.1 rfl rfl (Nat.le_of_ble_eq_true rfl) ⟨Nat.le_refl _, Nat.le_refl _⟩ d_Md_multiply_20 ?_
  intro ov ev4 H locs hp h
  rw [hp.1]
  refine W.eq (g2 := F0 m 23 ls []) rfl ?_
  have o4 : ev4 = va_up (va_up ev3 38 (eI G 312 (ns (fil 200 112 (outF 32 (MULM (Bf 0) (Bf 2))) FF)))) 37 (eO 5 [.ref (ad 38), .int (nI tl), .int (nI 32), .int (nI 0), .ref (ad 39), .ref (ad 40), .ref (ad 41), .ref (ad 42), .ref (ad 43), .ref (ad 44), .ref (ad 45), .ref (ad 46), .ref (ad 47), .ref (ad 48), .ref (ad 49), .ref (ad 50)]) := hp.2
  have t4_38 : ev4 38 = eI G 312 (ns (fil 200 112 (outF 32 (MULM (Bf 0) (Bf 2))) FF)) := by rw [o4, va_up_ne _ _ (by decide), va_up_self]
  have t4_37 : ev4 37 = eO 5 [.ref (ad 38), .int (nI tl), .int (nI 32), .int (nI 0), .ref (ad 39), .ref (ad 40), .ref (ad 41), .ref (ad 42), .ref (ad 43), .ref (ad 44), .ref (ad 45), .ref (ad 46), .ref (ad 47), .ref (ad 48), .ref (ad 49), .ref (ad 50)] := by rw [o4, va_up_self]
  have t4_39 := (show ev4 39 = ev3 39 by rw [o4, va_up_ne _ _ (by decide), va_up_ne _ _ (by decide)]).trans t3_39
  have t4_40 := (show ev4 40 = ev3 40 by rw [o4, va_up_ne _ _ (by decide), va_up_ne _ _ (by decide)]).trans t3_40
  have t4_41 := (show ev4 41 = ev3 41 by rw [o4, va_up_ne _ _ (by decide), va_up_ne _ _ (by decide)]).trans t3_41
  have t4_42 := (show ev4 42 = ev3 42 by rw [o4, va_up_ne _ _ (by decide), va_up_ne _ _ (by decide)]).trans t3_42
  have t4_43 := (show ev4 43 = ev3 43 by rw [o4, va_up_ne _ _ (by decide), va_up_ne _ _ (by decide)]).trans t3_43
  have t4_44 := (show ev4 44 = ev3 44 by rw [o4, va_up_ne _ _ (by decide), va_up_ne _ _ (by decide)]).trans t3_44
  have t4_45 := (show ev4 45 = ev3 45 by rw [o4, va_up_ne _ _ (by decide), va_up_ne _ _ (by decide)]).trans t3_45
  have t4_46 := (show ev4 46 = ev3 46 by rw [o4, va_up_ne _ _ (by decide), va_up_ne _ _ (by decide)]).trans t3_46
  have t4_47 := (show ev4 47 = ev3 47 by rw [o4, va_up_ne _ _ (by decide), va_up_ne _ _ (by decide)]).trans t3_47
  have t4_48 := (show ev4 48 = ev3 48 by rw [o4, va_up_ne _ _ (by decide), va_up_ne _ _ (by decide)]).trans t3_48
  have t4_49 := (show ev4 49 = ev3 49 by rw [o4, va_up_ne _ _ (by decide), va_up_ne _ _ (by decide)]).trans t3_49
  have t4_50 := (show ev4 50 = ev3 50 by rw [o4, va_up_ne _ _ (by decide), va_up_ne _ _ (by decide)]).trans t3_50
  exact wv_vret hx hb hr hlocks h d_Md_multiply_23 ⟨rfl, ⟨t4_37, ⟨_, FB_out hFB, t4_38⟩, ⟨_, t4_39⟩, ⟨_, t4_40⟩, ⟨_, t4_41⟩, ⟨_, t4_42⟩, ⟨_, t4_43⟩, ⟨_, t4_44⟩, ⟨_, t4_45⟩, ⟨_, t4_46⟩, ⟨_, t4_47⟩, ⟨_, t4_48⟩, ⟨_, t4_49⟩, ⟨_, b50, t4_50⟩, Bf_lt hB (outF_lt (MULM_lt _ _)) 4, htl, (by decide)⟩, (fun j hj => by rw [o4, va_up_ne _ _ (by omega), va_up_ne _ _ (by omega), o3, va_up_ne _ _ (by omega), va_up_ne _ _ (by omega), va_up_ne _ _ (by omega), o2, va_up_ne _ _ (by omega), o1, va_up_ne _ _ (by omega)])⟩
theorem d_Md_agree_0 : decode c_Md_agree 0 = .ok (.aload_n 0, 1) := by decide +kernel
theorem d_Md_agree_1 : decode c_Md_agree 1 = .ok (.iconst 0, 1) := by decide +kernel
theorem d_Md_agree_2 : decode c_Md_agree 2 = .ok (.putfield 50, 3) := by decide +kernel
theorem d_Md_agree_5 : decode c_Md_agree 5 = .ok (.aload_n 0, 1) := by decide +kernel
theorem d_Md_agree_6 : decode c_Md_agree 6 = .ok (.invokevirtual 181, 3) := by decide +kernel
theorem d_Md_agree_9 : decode c_Md_agree 9 = .ok (.aload_n 0, 1) := by decide +kernel
theorem d_Md_agree_10 : decode c_Md_agree 10 = .ok (.aload_n 0, 1) := by decide +kernel
theorem d_Md_agree_11 : decode c_Md_agree 11 = .ok (.getfield 13, 3) := by decide +kernel
theorem d_Md_agree_14 : decode c_Md_agree 14 = .ok (.bipush 32, 2) := by decide +kernel
theorem d_Md_agree_16 : decode c_Md_agree 16 = .ok (.invokevirtual 106, 3) := by decide +kernel
theorem d_Md_agree_19 : decode c_Md_agree 19 = .ok (.return_, 1) := by decide +kernel
set_option maxRecDepth 100000 in
set_option maxHeartbeats 4000000 in
/-- agree -/
theorem m_Md_agree (l : Launch) (G : wG) (A : Nat → Prop) (ad : Nat → Nat) (ev : Nat → va_E) (Bf : Nat → Nat → Nat) (tl ol cd : Nat) (hMD : MD G ad ev Bf tl ol cd) : wM l y_Md_agree w_Md_agree ({ frames := 18, cells := 0, slots := 0, locals := 600 }) G A 52 ad ev [.ref (ad 37)] (fun ov ev' => ov = none ∧ MD G ad ev' (va_up Bf 4 (outF 32 (AGRB (Bf 0) (Bf 2)))) tl 32 0 ∧ ∀ j, j < 37 ∨ 50 < j → ev' j = ev j) := by
  refine wv_ofW (cc := c_Md_agree) (maxL := 1) (ret := none) (by decide) rfl (Nat.le_of_ble_eq_true rfl) ?_
  intro p e s m below meth c ls hx hb hr hml hts hown hlocks hini h hl
  have hl : lv_has ls 1 [(0, .ref (ad 37))] := hl
  obtain ⟨g37, ⟨FF, hFB, g38⟩, ⟨x39, g39⟩, ⟨x40, g40⟩, ⟨x41, g41⟩, ⟨x42, g42⟩, ⟨x43, g43⟩, ⟨x44, g44⟩, ⟨x45, g45⟩, ⟨x46, g46⟩, ⟨x47, g47⟩, ⟨x48, g48⟩, ⟨x49, g49⟩, ⟨x50, b50, g50⟩, hB, htl, hol⟩ := hMD
  refine lv_aload_n hx hb d_Md_agree_0 rfl (lv_at hl 0 rfl) ?_
  refine lv_iconst (v := nI (0)) hx hb d_Md_agree_1 (by decide) ?_
  refine wv_putf hx hb h 37 (by decide) (fs := [.ref (ad 38), .int (nI (tl)), .int (nI (ol)), .int (nI (cd)), .ref (ad 39), .ref (ad 40), .ref (ad 41), .ref (ad 42), .ref (ad 43), .ref (ad 44), .ref (ad 45), .ref (ad 46), .ref (ad 47), .ref (ad 48), .ref (ad 49), .ref (ad 50)]) g37 hts (fun w hw => List.mem_cons_of_mem _ (fW_Md w hw)) fY_Md fK_Md fN_Md hown (ci := 5) (C := "NonceBoxModel") (T := fT_Md) (N := 16) rfl 3 (by decide) (hts _ (List.mem_cons_of_mem _ kf_Md_50)) rfl rfl (v := .int (nI (0))) rfl rfl (Nat.le_of_ble_eq_true rfl) d_Md_agree_2 (fun H locs h => ?_)
  have h : wT G A 52 ad (va_up ev 37 (eO 5 [.ref (ad 38), .int (nI (tl)), .int (nI (ol)), .int (nI (0)), .ref (ad 39), .ref (ad 40), .ref (ad 41), .ref (ad 42), .ref (ad 43), .ref (ad 44), .ref (ad 45), .ref (ad 46), .ref (ad 47), .ref (ad 48), .ref (ad 49), .ref (ad 50)])) s H locs := h
  obtain ⟨ev1, o1⟩ : ∃ z, z = va_up ev 37 (eO 5 [.ref (ad 38), .int (nI (tl)), .int (nI (ol)), .int (nI (0)), .ref (ad 39), .ref (ad 40), .ref (ad 41), .ref (ad 42), .ref (ad 43), .ref (ad 44), .ref (ad 45), .ref (ad 46), .ref (ad 47), .ref (ad 48), .ref (ad 49), .ref (ad 50)]) := ⟨_, rfl⟩
  rw [← o1] at h
  have t1_37 : ev1 37 = eO 5 [.ref (ad 38), .int (nI (tl)), .int (nI (ol)), .int (nI (0)), .ref (ad 39), .ref (ad 40), .ref (ad 41), .ref (ad 42), .ref (ad 43), .ref (ad 44), .ref (ad 45), .ref (ad 46), .ref (ad 47), .ref (ad 48), .ref (ad 49), .ref (ad 50)] := by rw [o1, va_up_self]
  have t1_38 := (show ev1 38 = ev 38 by rw [o1, va_up_ne _ _ (by decide)]).trans g38
  have t1_39 := (show ev1 39 = ev 39 by rw [o1, va_up_ne _ _ (by decide)]).trans g39
  have t1_40 := (show ev1 40 = ev 40 by rw [o1, va_up_ne _ _ (by decide)]).trans g40
  have t1_41 := (show ev1 41 = ev 41 by rw [o1, va_up_ne _ _ (by decide)]).trans g41
  have t1_42 := (show ev1 42 = ev 42 by rw [o1, va_up_ne _ _ (by decide)]).trans g42
  have t1_43 := (show ev1 43 = ev 43 by rw [o1, va_up_ne _ _ (by decide)]).trans g43
  have t1_44 := (show ev1 44 = ev 44 by rw [o1, va_up_ne _ _ (by decide)]).trans g44
  have t1_45 := (show ev1 45 = ev 45 by rw [o1, va_up_ne _ _ (by decide)]).trans g45
  have t1_46 := (show ev1 46 = ev 46 by rw [o1, va_up_ne _ _ (by decide)]).trans g46
  have t1_47 := (show ev1 47 = ev 47 by rw [o1, va_up_ne _ _ (by decide)]).trans g47
  have t1_48 := (show ev1 48 = ev 48 by rw [o1, va_up_ne _ _ (by decide)]).trans g48
  have t1_49 := (show ev1 49 = ev 49 by rw [o1, va_up_ne _ _ (by decide)]).trans g49
  have t1_50 := (show ev1 50 = ev 50 by rw [o1, va_up_ne _ _ (by decide)]).trans g50
  refine lv_aload_n hx hb d_Md_agree_5 rfl (lv_at hl 0 rfl) ?_
  refine wv_V (As := []) (rest := []) (k := 0) ⟨hx, hb, hml, hown, hts⟩ h 37 (by decide) (C := "NonceBoxModel") t1_37 rfl (m_Md_agreeKey l G A ad ev1 Bf tl ol ⟨t1_37, ⟨_, hFB, t1_38⟩, ⟨_, t1_39⟩, ⟨_, t1_40⟩, ⟨_, t1_41⟩, ⟨_, t1_42⟩, ⟨_, t1_43⟩, ⟨_, t1_44⟩, ⟨_, t1_45⟩, ⟨_, t1_46⟩, ⟨_, t1_47⟩, ⟨_, t1_48⟩, ⟨_, t1_49⟩, ⟨_, b50, t1_50⟩, hB, htl, hol⟩) kc_Md_agreeKey kl_Md_181 km_Md_agreeKey kv_Md_agreeKey ki_Md (by decide +kernel) ⟨rfl, rfl, Nat.le_of_ble_eq_true rfl, Nat.le_of_ble_eq_true rfl⟩ hl.1 rfl rfl (Nat.le_of_ble_eq_true rfl) ⟨Nat.le_refl _, Nat.le_refl _⟩ d_Md_agree_6 ?_
  intro ov ev2 H locs hp h
  obtain ⟨ho, hMD2, h39, hfr⟩ := hp
  rw [ho]
  refine W.eq (g2 := F0 m 9 ls []) rfl ?_
  have hMD3 := hMD2
  obtain ⟨g37, ⟨FF, hFB, g38⟩, ⟨x39, g39⟩, ⟨x40, g40⟩, ⟨x41, g41⟩, ⟨x42, g42⟩, ⟨x43, g43⟩, ⟨x44, g44⟩, ⟨x45, g45⟩, ⟨x46, g46⟩, ⟨x47, g47⟩, ⟨x48, g48⟩, ⟨x49, g49⟩, ⟨x50, b50, g50⟩, hB, htl, hol⟩ := hMD2
  refine lv_aload_n hx hb d_Md_agree_9 rfl (lv_at hl 0 rfl) ?_
  refine lv_aload_n hx hb d_Md_agree_10 rfl (lv_at hl 0 rfl) ?_
  refine wv_getf hx hb h 37 (by decide) (fs := [.ref (ad 38), .int (nI (tl)), .int (nI (ol)), .int (nI (0)), .ref (ad 39), .ref (ad 40), .ref (ad 41), .ref (ad 42), .ref (ad 43), .ref (ad 44), .ref (ad 45), .ref (ad 46), .ref (ad 47), .ref (ad 48), .ref (ad 49), .ref (ad 50)]) g37 hts (fun w hw => List.mem_cons_of_mem _ (fW_Md w hw)) hown (ci := 5) (C := "NonceBoxModel") (T := fT_Md) (N := 16) rfl 4 (by decide) (hts _ (List.mem_cons_of_mem _ kf_Md_13)) rfl (v := .ref (ad 39)) rfl d_Md_agree_11 ?_
  refine lv_bipush (v := nI (32)) hx hb d_Md_agree_14 (by decide) ?_
  refine wv_V (As := [.ref (ad 39), .int (nI (32))]) (rest := []) (k := 2) ⟨hx, hb, hml, hown, hts⟩ h 37 (by decide) (C := "NonceBoxModel") g37 rfl (m_Md_outFrom l G A ad ev2 39 32 32 FF (AGRB (Bf 0) (Bf 2)) tl ol 0 g37 (by decide) g38 h39 (by decide) (by decide) (by decide)) kc_Md_outFrom kl_Md_106 km_Md_outFrom kv_Md_outFrom ki_Md (by decide +kernel) ⟨rfl, rfl, Nat.le_of_ble_eq_true rfl, Nat.le_of_ble_eq_true rfl⟩ hl.1 rfl rfl (Nat.le_of_ble_eq_true rfl) ⟨Nat.le_refl _, Nat.le_refl _⟩ d_Md_agree_16 ?_
  intro ov ev3 H locs hp h
  rw [hp.1]
  refine W.eq (g2 := F0 m 19 ls []) rfl ?_
  have o3 : ev3 = va_up (va_up ev2 38 (eI G 312 (ns (fil 200 112 (outF 32 (AGRB (Bf 0) (Bf 2))) FF)))) 37 (eO 5 [.ref (ad 38), .int (nI tl), .int (nI 32), .int (nI 0), .ref (ad 39), .ref (ad 40), .ref (ad 41), .ref (ad 42), .ref (ad 43), .ref (ad 44), .ref (ad 45), .ref (ad 46), .ref (ad 47), .ref (ad 48), .ref (ad 49), .ref (ad 50)]) := hp.2
  have t3_38 : ev3 38 = eI G 312 (ns (fil 200 112 (outF 32 (AGRB (Bf 0) (Bf 2))) FF)) := by rw [o3, va_up_ne _ _ (by decide), va_up_self]
  have t3_37 : ev3 37 = eO 5 [.ref (ad 38), .int (nI tl), .int (nI 32), .int (nI 0), .ref (ad 39), .ref (ad 40), .ref (ad 41), .ref (ad 42), .ref (ad 43), .ref (ad 44), .ref (ad 45), .ref (ad 46), .ref (ad 47), .ref (ad 48), .ref (ad 49), .ref (ad 50)] := by rw [o3, va_up_self]
  have t3_39 := (show ev3 39 = ev2 39 by rw [o3, va_up_ne _ _ (by decide), va_up_ne _ _ (by decide)]).trans h39
  have t3_40 := (show ev3 40 = ev2 40 by rw [o3, va_up_ne _ _ (by decide), va_up_ne _ _ (by decide)]).trans g40
  have t3_41 := (show ev3 41 = ev2 41 by rw [o3, va_up_ne _ _ (by decide), va_up_ne _ _ (by decide)]).trans g41
  have t3_42 := (show ev3 42 = ev2 42 by rw [o3, va_up_ne _ _ (by decide), va_up_ne _ _ (by decide)]).trans g42
  have t3_43 := (show ev3 43 = ev2 43 by rw [o3, va_up_ne _ _ (by decide), va_up_ne _ _ (by decide)]).trans g43
  have t3_44 := (show ev3 44 = ev2 44 by rw [o3, va_up_ne _ _ (by decide), va_up_ne _ _ (by decide)]).trans g44
  have t3_45 := (show ev3 45 = ev2 45 by rw [o3, va_up_ne _ _ (by decide), va_up_ne _ _ (by decide)]).trans g45
  have t3_46 := (show ev3 46 = ev2 46 by rw [o3, va_up_ne _ _ (by decide), va_up_ne _ _ (by decide)]).trans g46
  have t3_47 := (show ev3 47 = ev2 47 by rw [o3, va_up_ne _ _ (by decide), va_up_ne _ _ (by decide)]).trans g47
  have t3_48 := (show ev3 48 = ev2 48 by rw [o3, va_up_ne _ _ (by decide), va_up_ne _ _ (by decide)]).trans g48
  have t3_49 := (show ev3 49 = ev2 49 by rw [o3, va_up_ne _ _ (by decide), va_up_ne _ _ (by decide)]).trans g49
  have t3_50 := (show ev3 50 = ev2 50 by rw [o3, va_up_ne _ _ (by decide), va_up_ne _ _ (by decide)]).trans g50
  exact wv_vret hx hb hr hlocks h d_Md_agree_19 ⟨rfl, ⟨t3_37, ⟨_, FB_out hFB, t3_38⟩, ⟨_, t3_39⟩, ⟨_, t3_40⟩, ⟨_, t3_41⟩, ⟨_, t3_42⟩, ⟨_, t3_43⟩, ⟨_, t3_44⟩, ⟨_, t3_45⟩, ⟨_, t3_46⟩, ⟨_, t3_47⟩, ⟨_, t3_48⟩, ⟨_, t3_49⟩, ⟨_, b50, t3_50⟩, Bf_lt hB (outF_lt (AGRB_lt _ _)) 4, htl, (by decide)⟩, (fun j hj => by rw [o3, va_up_ne _ _ (by omega), va_up_ne _ _ (by omega), hfr j hj, o1, va_up_ne _ _ (by omega)])⟩
theorem d_Md_seal_0 : decode c_Md_seal 0 = .ok (.aload_n 0, 1) := by decide +kernel
theorem d_Md_seal_1 : decode c_Md_seal 1 = .ok (.aload_n 0, 1) := by decide +kernel
theorem d_Md_seal_2 : decode c_Md_seal 2 = .ok (.getfield 67, 3) := by decide +kernel
theorem d_Md_seal_5 : decode c_Md_seal 5 = .ok (.bipush 96, 2) := by decide +kernel
theorem d_Md_seal_7 : decode c_Md_seal 7 = .ok (.if_icmp .le 7, 3) := by decide +kernel
theorem d_Md_seal_10 : decode c_Md_seal 10 = .ok (.iconst 1, 1) := by decide +kernel
theorem d_Md_seal_11 : decode c_Md_seal 11 = .ok (.goto 4, 3) := by decide +kernel
theorem d_Md_seal_14 : decode c_Md_seal 14 = .ok (.iconst 0, 1) := by decide +kernel
theorem d_Md_seal_15 : decode c_Md_seal 15 = .ok (.putfield 50, 3) := by decide +kernel
theorem d_Md_seal_18 : decode c_Md_seal 18 = .ok (.aload_n 0, 1) := by decide +kernel
theorem d_Md_seal_19 : decode c_Md_seal 19 = .ok (.getfield 50, 3) := by decide +kernel
theorem d_Md_seal_22 : decode c_Md_seal 22 = .ok (.ifCond .le 5, 3) := by decide +kernel
theorem d_Md_seal_25 : decode c_Md_seal 25 = .ok (.iconst 0, 1) := by decide +kernel
theorem d_Md_seal_26 : decode c_Md_seal 26 = .ok (.ireturn, 1) := by decide +kernel
theorem d_Md_seal_27 : decode c_Md_seal 27 = .ok (.aload_n 0, 1) := by decide +kernel
theorem d_Md_seal_28 : decode c_Md_seal 28 = .ok (.invokevirtual 103, 3) := by decide +kernel
theorem d_Md_seal_31 : decode c_Md_seal 31 = .ok (.aload_n 0, 1) := by decide +kernel
theorem d_Md_seal_32 : decode c_Md_seal 32 = .ok (.invokevirtual 187, 3) := by decide +kernel
theorem d_Md_seal_35 : decode c_Md_seal 35 = .ok (.ireturn, 1) := by decide +kernel
set_option maxRecDepth 100000 in
set_option maxHeartbeats 4000000 in
/-- seal -/
theorem m_Md_seal (l : Launch) (G : wG) (A : Nat → Prop) (ad : Nat → Nat) (ev : Nat → va_E) (Bf : Nat → Nat → Nat) (tl ol cd : Nat) (hMD : MD G ad ev Bf tl ol cd) : wM l y_Md_seal w_Md_seal ({ frames := 21, cells := 0, slots := 0, locals := 700 }) G A 52 ad ev [.ref (ad 37)] (fun ov ev' => ∃ (ans : Int32) (Bf' : Nat → Nat → Nat) (ol' cd' : Nat), ov = some (.int ans) ∧ spSeal (Bf 0) Bf tl ol ans Bf' ol' cd' ∧ MD G ad ev' Bf' tl ol' cd' ∧ ∀ j, j < 37 ∨ 50 < j → ev' j = ev j) := by
  refine wv_ofW (cc := c_Md_seal) (maxL := 1) (ret := (Option.some FieldType.int)) (by decide) rfl (Nat.le_of_ble_eq_true rfl) ?_
  intro p e s m below meth c ls hx hb hr hml hts hown hlocks hini h hl
  have hl : lv_has ls 1 [(0, .ref (ad 37))] := hl
  obtain ⟨g37, ⟨FF, hFB, g38⟩, ⟨x39, g39⟩, ⟨x40, g40⟩, ⟨x41, g41⟩, ⟨x42, g42⟩, ⟨x43, g43⟩, ⟨x44, g44⟩, ⟨x45, g45⟩, ⟨x46, g46⟩, ⟨x47, g47⟩, ⟨x48, g48⟩, ⟨x49, g49⟩, ⟨x50, b50, g50⟩, hB, htl, hol⟩ := hMD
  refine lv_aload_n hx hb d_Md_seal_0 rfl (lv_at hl 0 rfl) ?_
  refine lv_aload_n hx hb d_Md_seal_1 rfl (lv_at hl 0 rfl) ?_
  refine wv_getf hx hb h 37 (by decide) (fs := [.ref (ad 38), .int (nI (tl)), .int (nI (ol)), .int (nI (cd)), .ref (ad 39), .ref (ad 40), .ref (ad 41), .ref (ad 42), .ref (ad 43), .ref (ad 44), .ref (ad 45), .ref (ad 46), .ref (ad 47), .ref (ad 48), .ref (ad 49), .ref (ad 50)]) g37 hts (fun w hw => List.mem_cons_of_mem _ (fW_Md w hw)) hown (ci := 5) (C := "NonceBoxModel") (T := fT_Md) (N := 16) rfl 1 (by decide) (hts _ (List.mem_cons_of_mem _ kf_Md_67)) rfl (v := .int (nI (tl))) rfl d_Md_seal_2 ?_
  refine lv_bipush (v := nI (96)) hx hb d_Md_seal_5 (by decide) ?_
  refine lv_icmp_le (tgt := 14) hx hb d_Md_seal_7 (by decide) (fun hc => ?_) (fun hc => ?_)
  · have hc : tl ≤ 96 := (nI_leI (by omega) (by omega)).mp hc
    refine lv_iconst (v := nI (0)) hx hb d_Md_seal_14 (by decide) ?_
    refine wv_putf hx hb h 37 (by decide) (fs := [.ref (ad 38), .int (nI (tl)), .int (nI (ol)), .int (nI (cd)), .ref (ad 39), .ref (ad 40), .ref (ad 41), .ref (ad 42), .ref (ad 43), .ref (ad 44), .ref (ad 45), .ref (ad 46), .ref (ad 47), .ref (ad 48), .ref (ad 49), .ref (ad 50)]) g37 hts (fun w hw => List.mem_cons_of_mem _ (fW_Md w hw)) fY_Md fK_Md fN_Md hown (ci := 5) (C := "NonceBoxModel") (T := fT_Md) (N := 16) rfl 3 (by decide) (hts _ (List.mem_cons_of_mem _ kf_Md_50)) rfl rfl (v := .int (nI (0))) rfl rfl (Nat.le_of_ble_eq_true rfl) d_Md_seal_15 (fun H locs h => ?_)
    have h : wT G A 52 ad (va_up ev 37 (eO 5 [.ref (ad 38), .int (nI (tl)), .int (nI (ol)), .int (nI (0)), .ref (ad 39), .ref (ad 40), .ref (ad 41), .ref (ad 42), .ref (ad 43), .ref (ad 44), .ref (ad 45), .ref (ad 46), .ref (ad 47), .ref (ad 48), .ref (ad 49), .ref (ad 50)])) s H locs := h
    obtain ⟨ev1, o1⟩ : ∃ z, z = va_up ev 37 (eO 5 [.ref (ad 38), .int (nI (tl)), .int (nI (ol)), .int (nI (0)), .ref (ad 39), .ref (ad 40), .ref (ad 41), .ref (ad 42), .ref (ad 43), .ref (ad 44), .ref (ad 45), .ref (ad 46), .ref (ad 47), .ref (ad 48), .ref (ad 49), .ref (ad 50)]) := ⟨_, rfl⟩
    rw [← o1] at h
    have t1_37 : ev1 37 = eO 5 [.ref (ad 38), .int (nI (tl)), .int (nI (ol)), .int (nI (0)), .ref (ad 39), .ref (ad 40), .ref (ad 41), .ref (ad 42), .ref (ad 43), .ref (ad 44), .ref (ad 45), .ref (ad 46), .ref (ad 47), .ref (ad 48), .ref (ad 49), .ref (ad 50)] := by rw [o1, va_up_self]
    have t1_38 := (show ev1 38 = ev 38 by rw [o1, va_up_ne _ _ (by decide)]).trans g38
    have t1_39 := (show ev1 39 = ev 39 by rw [o1, va_up_ne _ _ (by decide)]).trans g39
    have t1_40 := (show ev1 40 = ev 40 by rw [o1, va_up_ne _ _ (by decide)]).trans g40
    have t1_41 := (show ev1 41 = ev 41 by rw [o1, va_up_ne _ _ (by decide)]).trans g41
    have t1_42 := (show ev1 42 = ev 42 by rw [o1, va_up_ne _ _ (by decide)]).trans g42
    have t1_43 := (show ev1 43 = ev 43 by rw [o1, va_up_ne _ _ (by decide)]).trans g43
    have t1_44 := (show ev1 44 = ev 44 by rw [o1, va_up_ne _ _ (by decide)]).trans g44
    have t1_45 := (show ev1 45 = ev 45 by rw [o1, va_up_ne _ _ (by decide)]).trans g45
    have t1_46 := (show ev1 46 = ev 46 by rw [o1, va_up_ne _ _ (by decide)]).trans g46
    have t1_47 := (show ev1 47 = ev 47 by rw [o1, va_up_ne _ _ (by decide)]).trans g47
    have t1_48 := (show ev1 48 = ev 48 by rw [o1, va_up_ne _ _ (by decide)]).trans g48
    have t1_49 := (show ev1 49 = ev 49 by rw [o1, va_up_ne _ _ (by decide)]).trans g49
    have t1_50 := (show ev1 50 = ev 50 by rw [o1, va_up_ne _ _ (by decide)]).trans g50
    refine lv_aload_n hx hb d_Md_seal_18 rfl (lv_at hl 0 rfl) ?_
    refine wv_getf hx hb h 37 (by decide) (fs := [.ref (ad 38), .int (nI (tl)), .int (nI (ol)), .int (nI (0)), .ref (ad 39), .ref (ad 40), .ref (ad 41), .ref (ad 42), .ref (ad 43), .ref (ad 44), .ref (ad 45), .ref (ad 46), .ref (ad 47), .ref (ad 48), .ref (ad 49), .ref (ad 50)]) t1_37 hts (fun w hw => List.mem_cons_of_mem _ (fW_Md w hw)) hown (ci := 5) (C := "NonceBoxModel") (T := fT_Md) (N := 16) rfl 3 (by decide) (hts _ (List.mem_cons_of_mem _ kf_Md_50)) rfl (v := .int (nI (0))) rfl d_Md_seal_19 ?_
    refine lv_if_le (tgt := 27) hx hb d_Md_seal_22 (by decide) (fun _ => ?_) (fun hc => absurd (by decide) hc)
    refine lv_aload_n hx hb d_Md_seal_27 rfl (lv_at hl 0 rfl) ?_
    refine wv_V (As := []) (rest := []) (k := 0) ⟨hx, hb, hml, hown, hts⟩ h 37 (by decide) (C := "NonceBoxModel") t1_37 rfl (m_Md_takeKey l G A ad ev1 FF (Bf 0) x39 tl ol 0 t1_37 t1_38 t1_39 (fun j hj => (congrArg FF (Nat.zero_add j)).symm.trans (hFB 0 (by decide) j hj))) kc_Md_takeKey kl_Md_103 km_Md_takeKey kv_Md_takeKey ki_Md (by decide +kernel) ⟨rfl, rfl, Nat.le_of_ble_eq_true rfl, Nat.le_of_ble_eq_true rfl⟩ hl.1 rfl rfl (Nat.le_of_ble_eq_true rfl) ⟨Nat.le_refl _, Nat.le_refl _⟩ d_Md_seal_28 ?_
    intro ov ev2 H locs hp h
    rw [hp.1]
    refine W.eq (g2 := F0 m 31 ls []) rfl ?_
    have o2 : ev2 = (va_up ev1 39 (eI G 32 (ns (Bf 0)))) := hp.2
    have t2_39 : ev2 39 = eI G 32 (ns (Bf 0)) := by rw [o2, va_up_self]
    have t2_38 := (show ev2 38 = ev1 38 by rw [o2, va_up_ne _ _ (by decide)]).trans t1_38
    have t2_40 := (show ev2 40 = ev1 40 by rw [o2, va_up_ne _ _ (by decide)]).trans t1_40
    have t2_41 := (show ev2 41 = ev1 41 by rw [o2, va_up_ne _ _ (by decide)]).trans t1_41
    have t2_42 := (show ev2 42 = ev1 42 by rw [o2, va_up_ne _ _ (by decide)]).trans t1_42
    have t2_43 := (show ev2 43 = ev1 43 by rw [o2, va_up_ne _ _ (by decide)]).trans t1_43
    have t2_44 := (show ev2 44 = ev1 44 by rw [o2, va_up_ne _ _ (by decide)]).trans t1_44
    have t2_45 := (show ev2 45 = ev1 45 by rw [o2, va_up_ne _ _ (by decide)]).trans t1_45
    have t2_46 := (show ev2 46 = ev1 46 by rw [o2, va_up_ne _ _ (by decide)]).trans t1_46
    have t2_47 := (show ev2 47 = ev1 47 by rw [o2, va_up_ne _ _ (by decide)]).trans t1_47
    have t2_48 := (show ev2 48 = ev1 48 by rw [o2, va_up_ne _ _ (by decide)]).trans t1_48
    have t2_49 := (show ev2 49 = ev1 49 by rw [o2, va_up_ne _ _ (by decide)]).trans t1_49
    have t2_50 := (show ev2 50 = ev1 50 by rw [o2, va_up_ne _ _ (by decide)]).trans t1_50
    have t2_37 := (show ev2 37 = ev1 37 by rw [o2, va_up_ne _ _ (by decide)]).trans t1_37
    refine lv_aload_n hx hb d_Md_seal_31 rfl (lv_at hl 0 rfl) ?_
    refine wv_V (As := []) (rest := []) (k := 0) ⟨hx, hb, hml, hown, hts⟩ h 37 (by decide) (C := "NonceBoxModel") t2_37 rfl (m_Md_sealIt l G A ad ev2 (Bf 0) Bf tl ol ⟨t2_37, ⟨_, hFB, t2_38⟩, ⟨_, t2_39⟩, ⟨_, t2_40⟩, ⟨_, t2_41⟩, ⟨_, t2_42⟩, ⟨_, t2_43⟩, ⟨_, t2_44⟩, ⟨_, t2_45⟩, ⟨_, t2_46⟩, ⟨_, t2_47⟩, ⟨_, t2_48⟩, ⟨_, t2_49⟩, ⟨_, b50, t2_50⟩, hB, htl, hol⟩ t2_39 hc) kc_Md_sealIt kl_Md_187 km_Md_sealIt kv_Md_sealIt ki_Md (by decide +kernel) ⟨rfl, rfl, Nat.le_of_ble_eq_true rfl, Nat.le_of_ble_eq_true rfl⟩ hl.1 rfl rfl (Nat.le_of_ble_eq_true rfl) ⟨Nat.le_refl _, Nat.le_refl _⟩ d_Md_seal_32 ?_
    intro ov ev9 H locs hp h
    obtain ⟨ho, hMD9, hfr2⟩ := hp
    rw [ho]
    refine W.eq (g2 := F0 m 35 ls [.int (nI (16 + tl))]) rfl ?_
    exact wv_iret hx hb hr hlocks h d_Md_seal_35 ⟨_, _, _, _, rfl, Or.inl ⟨hc, rfl, rfl, rfl, rfl⟩, hMD9, (fun j hj => by rw [hfr2 j hj, o2, va_up_ne _ _ (by omega), o1, va_up_ne _ _ (by omega)])⟩
  · have hc : ¬ tl ≤ 96 := fun q => hc ((nI_leI (by omega) (by omega)).mpr q)
    refine lv_iconst (v := nI (1)) hx hb d_Md_seal_10 (by decide) ?_
    refine lv_goto (tgt := 15) hx hb d_Md_seal_11 (by decide) ?_
    refine wv_putf hx hb h 37 (by decide) (fs := [.ref (ad 38), .int (nI (tl)), .int (nI (ol)), .int (nI (cd)), .ref (ad 39), .ref (ad 40), .ref (ad 41), .ref (ad 42), .ref (ad 43), .ref (ad 44), .ref (ad 45), .ref (ad 46), .ref (ad 47), .ref (ad 48), .ref (ad 49), .ref (ad 50)]) g37 hts (fun w hw => List.mem_cons_of_mem _ (fW_Md w hw)) fY_Md fK_Md fN_Md hown (ci := 5) (C := "NonceBoxModel") (T := fT_Md) (N := 16) rfl 3 (by decide) (hts _ (List.mem_cons_of_mem _ kf_Md_50)) rfl rfl (v := .int (nI (1))) rfl rfl (Nat.le_of_ble_eq_true rfl) d_Md_seal_15 (fun H locs h => ?_)
    have h : wT G A 52 ad (va_up ev 37 (eO 5 [.ref (ad 38), .int (nI (tl)), .int (nI (ol)), .int (nI (1)), .ref (ad 39), .ref (ad 40), .ref (ad 41), .ref (ad 42), .ref (ad 43), .ref (ad 44), .ref (ad 45), .ref (ad 46), .ref (ad 47), .ref (ad 48), .ref (ad 49), .ref (ad 50)])) s H locs := h
    obtain ⟨ev1, o1⟩ : ∃ z, z = va_up ev 37 (eO 5 [.ref (ad 38), .int (nI (tl)), .int (nI (ol)), .int (nI (1)), .ref (ad 39), .ref (ad 40), .ref (ad 41), .ref (ad 42), .ref (ad 43), .ref (ad 44), .ref (ad 45), .ref (ad 46), .ref (ad 47), .ref (ad 48), .ref (ad 49), .ref (ad 50)]) := ⟨_, rfl⟩
    rw [← o1] at h
    have t1_37 : ev1 37 = eO 5 [.ref (ad 38), .int (nI (tl)), .int (nI (ol)), .int (nI (1)), .ref (ad 39), .ref (ad 40), .ref (ad 41), .ref (ad 42), .ref (ad 43), .ref (ad 44), .ref (ad 45), .ref (ad 46), .ref (ad 47), .ref (ad 48), .ref (ad 49), .ref (ad 50)] := by rw [o1, va_up_self]
    have t1_38 := (show ev1 38 = ev 38 by rw [o1, va_up_ne _ _ (by decide)]).trans g38
    have t1_39 := (show ev1 39 = ev 39 by rw [o1, va_up_ne _ _ (by decide)]).trans g39
    have t1_40 := (show ev1 40 = ev 40 by rw [o1, va_up_ne _ _ (by decide)]).trans g40
    have t1_41 := (show ev1 41 = ev 41 by rw [o1, va_up_ne _ _ (by decide)]).trans g41
    have t1_42 := (show ev1 42 = ev 42 by rw [o1, va_up_ne _ _ (by decide)]).trans g42
    have t1_43 := (show ev1 43 = ev 43 by rw [o1, va_up_ne _ _ (by decide)]).trans g43
    have t1_44 := (show ev1 44 = ev 44 by rw [o1, va_up_ne _ _ (by decide)]).trans g44
    have t1_45 := (show ev1 45 = ev 45 by rw [o1, va_up_ne _ _ (by decide)]).trans g45
    have t1_46 := (show ev1 46 = ev 46 by rw [o1, va_up_ne _ _ (by decide)]).trans g46
    have t1_47 := (show ev1 47 = ev 47 by rw [o1, va_up_ne _ _ (by decide)]).trans g47
    have t1_48 := (show ev1 48 = ev 48 by rw [o1, va_up_ne _ _ (by decide)]).trans g48
    have t1_49 := (show ev1 49 = ev 49 by rw [o1, va_up_ne _ _ (by decide)]).trans g49
    have t1_50 := (show ev1 50 = ev 50 by rw [o1, va_up_ne _ _ (by decide)]).trans g50
    refine lv_aload_n hx hb d_Md_seal_18 rfl (lv_at hl 0 rfl) ?_
    refine wv_getf hx hb h 37 (by decide) (fs := [.ref (ad 38), .int (nI (tl)), .int (nI (ol)), .int (nI (1)), .ref (ad 39), .ref (ad 40), .ref (ad 41), .ref (ad 42), .ref (ad 43), .ref (ad 44), .ref (ad 45), .ref (ad 46), .ref (ad 47), .ref (ad 48), .ref (ad 49), .ref (ad 50)]) t1_37 hts (fun w hw => List.mem_cons_of_mem _ (fW_Md w hw)) hown (ci := 5) (C := "NonceBoxModel") (T := fT_Md) (N := 16) rfl 3 (by decide) (hts _ (List.mem_cons_of_mem _ kf_Md_50)) rfl (v := .int (nI (1))) rfl d_Md_seal_19 ?_
    refine lv_if_le (tgt := 27) hx hb d_Md_seal_22 (by decide) (fun hc => absurd hc (by decide)) (fun _ => ?_)
    refine lv_iconst (v := nI (0)) hx hb d_Md_seal_25 (by decide) ?_
    exact wv_iret hx hb hr hlocks h d_Md_seal_26 ⟨_, _, _, _, rfl, Or.inr ⟨hc, rfl, rfl, rfl, rfl⟩, ⟨t1_37, ⟨_, hFB, t1_38⟩, ⟨_, t1_39⟩, ⟨_, t1_40⟩, ⟨_, t1_41⟩, ⟨_, t1_42⟩, ⟨_, t1_43⟩, ⟨_, t1_44⟩, ⟨_, t1_45⟩, ⟨_, t1_46⟩, ⟨_, t1_47⟩, ⟨_, t1_48⟩, ⟨_, t1_49⟩, ⟨_, b50, t1_50⟩, hB, htl, hol⟩, (fun j hj => by rw [o1, va_up_ne _ _ (by omega)])⟩
theorem d_Md_open_0 : decode c_Md_open 0 = .ok (.aload_n 0, 1) := by decide +kernel
theorem d_Md_open_1 : decode c_Md_open 1 = .ok (.aload_n 0, 1) := by decide +kernel
theorem d_Md_open_2 : decode c_Md_open 2 = .ok (.getfield 67, 3) := by decide +kernel
theorem d_Md_open_5 : decode c_Md_open 5 = .ok (.bipush 16, 2) := by decide +kernel
theorem d_Md_open_7 : decode c_Md_open 7 = .ok (.if_icmp .ge 7, 3) := by decide +kernel
theorem d_Md_open_10 : decode c_Md_open 10 = .ok (.iconst 1, 1) := by decide +kernel
theorem d_Md_open_11 : decode c_Md_open 11 = .ok (.goto 4, 3) := by decide +kernel
theorem d_Md_open_14 : decode c_Md_open 14 = .ok (.iconst 0, 1) := by decide +kernel
theorem d_Md_open_15 : decode c_Md_open 15 = .ok (.putfield 50, 3) := by decide +kernel
theorem d_Md_open_18 : decode c_Md_open 18 = .ok (.aload_n 0, 1) := by decide +kernel
theorem d_Md_open_19 : decode c_Md_open 19 = .ok (.getfield 50, 3) := by decide +kernel
theorem d_Md_open_22 : decode c_Md_open 22 = .ok (.ifCond .le 5, 3) := by decide +kernel
theorem d_Md_open_25 : decode c_Md_open 25 = .ok (.iconst 0, 1) := by decide +kernel
theorem d_Md_open_26 : decode c_Md_open 26 = .ok (.ireturn, 1) := by decide +kernel
theorem d_Md_open_27 : decode c_Md_open 27 = .ok (.aload_n 0, 1) := by decide +kernel
theorem d_Md_open_28 : decode c_Md_open 28 = .ok (.invokevirtual 103, 3) := by decide +kernel
theorem d_Md_open_31 : decode c_Md_open 31 = .ok (.aload_n 0, 1) := by decide +kernel
theorem d_Md_open_32 : decode c_Md_open 32 = .ok (.invokevirtual 191, 3) := by decide +kernel
theorem d_Md_open_35 : decode c_Md_open 35 = .ok (.ireturn, 1) := by decide +kernel
set_option maxRecDepth 100000 in
set_option maxHeartbeats 4000000 in
/-- open -/
theorem m_Md_open (l : Launch) (G : wG) (A : Nat → Prop) (ad : Nat → Nat) (ev : Nat → va_E) (Bf : Nat → Nat → Nat) (tl ol cd : Nat) (hMD : MD G ad ev Bf tl ol cd) : wM l y_Md_open w_Md_open ({ frames := 21, cells := 0, slots := 0, locals := 700 }) G A 52 ad ev [.ref (ad 37)] (fun ov ev' => ∃ (ans : Int32) (Bf' : Nat → Nat → Nat) (ol' cd' : Nat), ov = some (.int ans) ∧ spOpen (Bf 0) Bf tl ol ans Bf' ol' cd' ∧ MD G ad ev' Bf' tl ol' cd' ∧ ∀ j, j < 37 ∨ 50 < j → ev' j = ev j) := by
  refine wv_ofW (cc := c_Md_open) (maxL := 1) (ret := (Option.some FieldType.int)) (by decide) rfl (Nat.le_of_ble_eq_true rfl) ?_
  intro p e s m below meth c ls hx hb hr hml hts hown hlocks hini h hl
  have hl : lv_has ls 1 [(0, .ref (ad 37))] := hl
  obtain ⟨g37, ⟨FF, hFB, g38⟩, ⟨x39, g39⟩, ⟨x40, g40⟩, ⟨x41, g41⟩, ⟨x42, g42⟩, ⟨x43, g43⟩, ⟨x44, g44⟩, ⟨x45, g45⟩, ⟨x46, g46⟩, ⟨x47, g47⟩, ⟨x48, g48⟩, ⟨x49, g49⟩, ⟨x50, b50, g50⟩, hB, htl, hol⟩ := hMD
  refine lv_aload_n hx hb d_Md_open_0 rfl (lv_at hl 0 rfl) ?_
  refine lv_aload_n hx hb d_Md_open_1 rfl (lv_at hl 0 rfl) ?_
  refine wv_getf hx hb h 37 (by decide) (fs := [.ref (ad 38), .int (nI (tl)), .int (nI (ol)), .int (nI (cd)), .ref (ad 39), .ref (ad 40), .ref (ad 41), .ref (ad 42), .ref (ad 43), .ref (ad 44), .ref (ad 45), .ref (ad 46), .ref (ad 47), .ref (ad 48), .ref (ad 49), .ref (ad 50)]) g37 hts (fun w hw => List.mem_cons_of_mem _ (fW_Md w hw)) hown (ci := 5) (C := "NonceBoxModel") (T := fT_Md) (N := 16) rfl 1 (by decide) (hts _ (List.mem_cons_of_mem _ kf_Md_67)) rfl (v := .int (nI (tl))) rfl d_Md_open_2 ?_
  refine lv_bipush (v := nI (16)) hx hb d_Md_open_5 (by decide) ?_
  refine lv_icmp_ge (tgt := 14) hx hb d_Md_open_7 (by decide) (fun hc => ?_) (fun hc => ?_)
  · have hc : 16 ≤ tl := (nI_leI (by omega) (by omega)).mp hc
    refine lv_iconst (v := nI (0)) hx hb d_Md_open_14 (by decide) ?_
    refine wv_putf hx hb h 37 (by decide) (fs := [.ref (ad 38), .int (nI (tl)), .int (nI (ol)), .int (nI (cd)), .ref (ad 39), .ref (ad 40), .ref (ad 41), .ref (ad 42), .ref (ad 43), .ref (ad 44), .ref (ad 45), .ref (ad 46), .ref (ad 47), .ref (ad 48), .ref (ad 49), .ref (ad 50)]) g37 hts (fun w hw => List.mem_cons_of_mem _ (fW_Md w hw)) fY_Md fK_Md fN_Md hown (ci := 5) (C := "NonceBoxModel") (T := fT_Md) (N := 16) rfl 3 (by decide) (hts _ (List.mem_cons_of_mem _ kf_Md_50)) rfl rfl (v := .int (nI (0))) rfl rfl (Nat.le_of_ble_eq_true rfl) d_Md_open_15 (fun H locs h => ?_)
    have h : wT G A 52 ad (va_up ev 37 (eO 5 [.ref (ad 38), .int (nI (tl)), .int (nI (ol)), .int (nI (0)), .ref (ad 39), .ref (ad 40), .ref (ad 41), .ref (ad 42), .ref (ad 43), .ref (ad 44), .ref (ad 45), .ref (ad 46), .ref (ad 47), .ref (ad 48), .ref (ad 49), .ref (ad 50)])) s H locs := h
    obtain ⟨ev1, o1⟩ : ∃ z, z = va_up ev 37 (eO 5 [.ref (ad 38), .int (nI (tl)), .int (nI (ol)), .int (nI (0)), .ref (ad 39), .ref (ad 40), .ref (ad 41), .ref (ad 42), .ref (ad 43), .ref (ad 44), .ref (ad 45), .ref (ad 46), .ref (ad 47), .ref (ad 48), .ref (ad 49), .ref (ad 50)]) := ⟨_, rfl⟩
    rw [← o1] at h
    have t1_37 : ev1 37 = eO 5 [.ref (ad 38), .int (nI (tl)), .int (nI (ol)), .int (nI (0)), .ref (ad 39), .ref (ad 40), .ref (ad 41), .ref (ad 42), .ref (ad 43), .ref (ad 44), .ref (ad 45), .ref (ad 46), .ref (ad 47), .ref (ad 48), .ref (ad 49), .ref (ad 50)] := by rw [o1, va_up_self]
    have t1_38 := (show ev1 38 = ev 38 by rw [o1, va_up_ne _ _ (by decide)]).trans g38
    have t1_39 := (show ev1 39 = ev 39 by rw [o1, va_up_ne _ _ (by decide)]).trans g39
    have t1_40 := (show ev1 40 = ev 40 by rw [o1, va_up_ne _ _ (by decide)]).trans g40
    have t1_41 := (show ev1 41 = ev 41 by rw [o1, va_up_ne _ _ (by decide)]).trans g41
    have t1_42 := (show ev1 42 = ev 42 by rw [o1, va_up_ne _ _ (by decide)]).trans g42
    have t1_43 := (show ev1 43 = ev 43 by rw [o1, va_up_ne _ _ (by decide)]).trans g43
    have t1_44 := (show ev1 44 = ev 44 by rw [o1, va_up_ne _ _ (by decide)]).trans g44
    have t1_45 := (show ev1 45 = ev 45 by rw [o1, va_up_ne _ _ (by decide)]).trans g45
    have t1_46 := (show ev1 46 = ev 46 by rw [o1, va_up_ne _ _ (by decide)]).trans g46
    have t1_47 := (show ev1 47 = ev 47 by rw [o1, va_up_ne _ _ (by decide)]).trans g47
    have t1_48 := (show ev1 48 = ev 48 by rw [o1, va_up_ne _ _ (by decide)]).trans g48
    have t1_49 := (show ev1 49 = ev 49 by rw [o1, va_up_ne _ _ (by decide)]).trans g49
    have t1_50 := (show ev1 50 = ev 50 by rw [o1, va_up_ne _ _ (by decide)]).trans g50
    refine lv_aload_n hx hb d_Md_open_18 rfl (lv_at hl 0 rfl) ?_
    refine wv_getf hx hb h 37 (by decide) (fs := [.ref (ad 38), .int (nI (tl)), .int (nI (ol)), .int (nI (0)), .ref (ad 39), .ref (ad 40), .ref (ad 41), .ref (ad 42), .ref (ad 43), .ref (ad 44), .ref (ad 45), .ref (ad 46), .ref (ad 47), .ref (ad 48), .ref (ad 49), .ref (ad 50)]) t1_37 hts (fun w hw => List.mem_cons_of_mem _ (fW_Md w hw)) hown (ci := 5) (C := "NonceBoxModel") (T := fT_Md) (N := 16) rfl 3 (by decide) (hts _ (List.mem_cons_of_mem _ kf_Md_50)) rfl (v := .int (nI (0))) rfl d_Md_open_19 ?_
    refine lv_if_le (tgt := 27) hx hb d_Md_open_22 (by decide) (fun _ => ?_) (fun hc => absurd (by decide) hc)
    refine lv_aload_n hx hb d_Md_open_27 rfl (lv_at hl 0 rfl) ?_
    refine wv_V (As := []) (rest := []) (k := 0) ⟨hx, hb, hml, hown, hts⟩ h 37 (by decide) (C := "NonceBoxModel") t1_37 rfl (m_Md_takeKey l G A ad ev1 FF (Bf 0) x39 tl ol 0 t1_37 t1_38 t1_39 (fun j hj => (congrArg FF (Nat.zero_add j)).symm.trans (hFB 0 (by decide) j hj))) kc_Md_takeKey kl_Md_103 km_Md_takeKey kv_Md_takeKey ki_Md (by decide +kernel) ⟨rfl, rfl, Nat.le_of_ble_eq_true rfl, Nat.le_of_ble_eq_true rfl⟩ hl.1 rfl rfl (Nat.le_of_ble_eq_true rfl) ⟨Nat.le_refl _, Nat.le_refl _⟩ d_Md_open_28 ?_
    intro ov ev2 H locs hp h
    rw [hp.1]
    refine W.eq (g2 := F0 m 31 ls []) rfl ?_
    have o2 : ev2 = (va_up ev1 39 (eI G 32 (ns (Bf 0)))) := hp.2
    have t2_39 : ev2 39 = eI G 32 (ns (Bf 0)) := by rw [o2, va_up_self]
    have t2_38 := (show ev2 38 = ev1 38 by rw [o2, va_up_ne _ _ (by decide)]).trans t1_38
    have t2_40 := (show ev2 40 = ev1 40 by rw [o2, va_up_ne _ _ (by decide)]).trans t1_40
    have t2_41 := (show ev2 41 = ev1 41 by rw [o2, va_up_ne _ _ (by decide)]).trans t1_41
    have t2_42 := (show ev2 42 = ev1 42 by rw [o2, va_up_ne _ _ (by decide)]).trans t1_42
    have t2_43 := (show ev2 43 = ev1 43 by rw [o2, va_up_ne _ _ (by decide)]).trans t1_43
    have t2_44 := (show ev2 44 = ev1 44 by rw [o2, va_up_ne _ _ (by decide)]).trans t1_44
    have t2_45 := (show ev2 45 = ev1 45 by rw [o2, va_up_ne _ _ (by decide)]).trans t1_45
    have t2_46 := (show ev2 46 = ev1 46 by rw [o2, va_up_ne _ _ (by decide)]).trans t1_46
    have t2_47 := (show ev2 47 = ev1 47 by rw [o2, va_up_ne _ _ (by decide)]).trans t1_47
    have t2_48 := (show ev2 48 = ev1 48 by rw [o2, va_up_ne _ _ (by decide)]).trans t1_48
    have t2_49 := (show ev2 49 = ev1 49 by rw [o2, va_up_ne _ _ (by decide)]).trans t1_49
    have t2_50 := (show ev2 50 = ev1 50 by rw [o2, va_up_ne _ _ (by decide)]).trans t1_50
    have t2_37 := (show ev2 37 = ev1 37 by rw [o2, va_up_ne _ _ (by decide)]).trans t1_37
    refine lv_aload_n hx hb d_Md_open_31 rfl (lv_at hl 0 rfl) ?_
    refine wv_V (As := []) (rest := []) (k := 0) ⟨hx, hb, hml, hown, hts⟩ h 37 (by decide) (C := "NonceBoxModel") t2_37 rfl (m_Md_openIt l G A ad ev2 (Bf 0) Bf tl ol ⟨t2_37, ⟨_, hFB, t2_38⟩, ⟨_, t2_39⟩, ⟨_, t2_40⟩, ⟨_, t2_41⟩, ⟨_, t2_42⟩, ⟨_, t2_43⟩, ⟨_, t2_44⟩, ⟨_, t2_45⟩, ⟨_, t2_46⟩, ⟨_, t2_47⟩, ⟨_, t2_48⟩, ⟨_, t2_49⟩, ⟨_, b50, t2_50⟩, hB, htl, hol⟩ t2_39 hc) kc_Md_openIt kl_Md_191 km_Md_openIt kv_Md_openIt ki_Md (by decide +kernel) ⟨rfl, rfl, Nat.le_of_ble_eq_true rfl, Nat.le_of_ble_eq_true rfl⟩ hl.1 rfl rfl (Nat.le_of_ble_eq_true rfl) ⟨Nat.le_refl _, Nat.le_refl _⟩ d_Md_open_32 ?_
    intro ov ev9 H locs hp h
    obtain ⟨ans, Bf2, ol2, cd2, ho, hq, hMD9, hfr2⟩ := hp
    rw [ho]
    refine W.eq (g2 := F0 m 35 ls [.int ans]) rfl ?_
    exact wv_iret hx hb hr hlocks h d_Md_open_35 ⟨ans, Bf2, ol2, cd2, rfl, hq.elim (fun q => Or.inl ⟨hc, q⟩) (fun q => Or.inr (Or.inl ⟨hc, q⟩)), hMD9, (fun j hj => by rw [hfr2 j hj, o2, va_up_ne _ _ (by omega), o1, va_up_ne _ _ (by omega)])⟩
  · have hc : ¬ 16 ≤ tl := fun q => hc ((nI_leI (by omega) (by omega)).mpr q)
    refine lv_iconst (v := nI (1)) hx hb d_Md_open_10 (by decide) ?_
    refine lv_goto (tgt := 15) hx hb d_Md_open_11 (by decide) ?_
    refine wv_putf hx hb h 37 (by decide) (fs := [.ref (ad 38), .int (nI (tl)), .int (nI (ol)), .int (nI (cd)), .ref (ad 39), .ref (ad 40), .ref (ad 41), .ref (ad 42), .ref (ad 43), .ref (ad 44), .ref (ad 45), .ref (ad 46), .ref (ad 47), .ref (ad 48), .ref (ad 49), .ref (ad 50)]) g37 hts (fun w hw => List.mem_cons_of_mem _ (fW_Md w hw)) fY_Md fK_Md fN_Md hown (ci := 5) (C := "NonceBoxModel") (T := fT_Md) (N := 16) rfl 3 (by decide) (hts _ (List.mem_cons_of_mem _ kf_Md_50)) rfl rfl (v := .int (nI (1))) rfl rfl (Nat.le_of_ble_eq_true rfl) d_Md_open_15 (fun H locs h => ?_)
    have h : wT G A 52 ad (va_up ev 37 (eO 5 [.ref (ad 38), .int (nI (tl)), .int (nI (ol)), .int (nI (1)), .ref (ad 39), .ref (ad 40), .ref (ad 41), .ref (ad 42), .ref (ad 43), .ref (ad 44), .ref (ad 45), .ref (ad 46), .ref (ad 47), .ref (ad 48), .ref (ad 49), .ref (ad 50)])) s H locs := h
    obtain ⟨ev1, o1⟩ : ∃ z, z = va_up ev 37 (eO 5 [.ref (ad 38), .int (nI (tl)), .int (nI (ol)), .int (nI (1)), .ref (ad 39), .ref (ad 40), .ref (ad 41), .ref (ad 42), .ref (ad 43), .ref (ad 44), .ref (ad 45), .ref (ad 46), .ref (ad 47), .ref (ad 48), .ref (ad 49), .ref (ad 50)]) := ⟨_, rfl⟩
    rw [← o1] at h
    have t1_37 : ev1 37 = eO 5 [.ref (ad 38), .int (nI (tl)), .int (nI (ol)), .int (nI (1)), .ref (ad 39), .ref (ad 40), .ref (ad 41), .ref (ad 42), .ref (ad 43), .ref (ad 44), .ref (ad 45), .ref (ad 46), .ref (ad 47), .ref (ad 48), .ref (ad 49), .ref (ad 50)] := by rw [o1, va_up_self]
    have t1_38 := (show ev1 38 = ev 38 by rw [o1, va_up_ne _ _ (by decide)]).trans g38
    have t1_39 := (show ev1 39 = ev 39 by rw [o1, va_up_ne _ _ (by decide)]).trans g39
    have t1_40 := (show ev1 40 = ev 40 by rw [o1, va_up_ne _ _ (by decide)]).trans g40
    have t1_41 := (show ev1 41 = ev 41 by rw [o1, va_up_ne _ _ (by decide)]).trans g41
    have t1_42 := (show ev1 42 = ev 42 by rw [o1, va_up_ne _ _ (by decide)]).trans g42
    have t1_43 := (show ev1 43 = ev 43 by rw [o1, va_up_ne _ _ (by decide)]).trans g43
    have t1_44 := (show ev1 44 = ev 44 by rw [o1, va_up_ne _ _ (by decide)]).trans g44
    have t1_45 := (show ev1 45 = ev 45 by rw [o1, va_up_ne _ _ (by decide)]).trans g45
    have t1_46 := (show ev1 46 = ev 46 by rw [o1, va_up_ne _ _ (by decide)]).trans g46
    have t1_47 := (show ev1 47 = ev 47 by rw [o1, va_up_ne _ _ (by decide)]).trans g47
    have t1_48 := (show ev1 48 = ev 48 by rw [o1, va_up_ne _ _ (by decide)]).trans g48
    have t1_49 := (show ev1 49 = ev 49 by rw [o1, va_up_ne _ _ (by decide)]).trans g49
    have t1_50 := (show ev1 50 = ev 50 by rw [o1, va_up_ne _ _ (by decide)]).trans g50
    refine lv_aload_n hx hb d_Md_open_18 rfl (lv_at hl 0 rfl) ?_
    refine wv_getf hx hb h 37 (by decide) (fs := [.ref (ad 38), .int (nI (tl)), .int (nI (ol)), .int (nI (1)), .ref (ad 39), .ref (ad 40), .ref (ad 41), .ref (ad 42), .ref (ad 43), .ref (ad 44), .ref (ad 45), .ref (ad 46), .ref (ad 47), .ref (ad 48), .ref (ad 49), .ref (ad 50)]) t1_37 hts (fun w hw => List.mem_cons_of_mem _ (fW_Md w hw)) hown (ci := 5) (C := "NonceBoxModel") (T := fT_Md) (N := 16) rfl 3 (by decide) (hts _ (List.mem_cons_of_mem _ kf_Md_50)) rfl (v := .int (nI (1))) rfl d_Md_open_19 ?_
    refine lv_if_le (tgt := 27) hx hb d_Md_open_22 (by decide) (fun hc => absurd hc (by decide)) (fun _ => ?_)
    refine lv_iconst (v := nI (0)) hx hb d_Md_open_25 (by decide) ?_
    exact wv_iret hx hb hr hlocks h d_Md_open_26 ⟨_, _, _, _, rfl, Or.inr (Or.inr ⟨hc, rfl, rfl, rfl, rfl⟩), ⟨t1_37, ⟨_, hFB, t1_38⟩, ⟨_, t1_39⟩, ⟨_, t1_40⟩, ⟨_, t1_41⟩, ⟨_, t1_42⟩, ⟨_, t1_43⟩, ⟨_, t1_44⟩, ⟨_, t1_45⟩, ⟨_, t1_46⟩, ⟨_, t1_47⟩, ⟨_, t1_48⟩, ⟨_, t1_49⟩, ⟨_, b50, t1_50⟩, hB, htl, hol⟩, (fun j hj => by rw [o1, va_up_ne _ _ (by omega)])⟩
theorem d_Md_box_0 : decode c_Md_box 0 = .ok (.aload_n 0, 1) := by decide +kernel
theorem d_Md_box_1 : decode c_Md_box 1 = .ok (.aload_n 0, 1) := by decide +kernel
theorem d_Md_box_2 : decode c_Md_box 2 = .ok (.getfield 67, 3) := by decide +kernel
theorem d_Md_box_5 : decode c_Md_box 5 = .ok (.bipush 96, 2) := by decide +kernel
theorem d_Md_box_7 : decode c_Md_box 7 = .ok (.if_icmp .le 7, 3) := by decide +kernel
theorem d_Md_box_10 : decode c_Md_box 10 = .ok (.iconst 1, 1) := by decide +kernel
theorem d_Md_box_11 : decode c_Md_box 11 = .ok (.goto 4, 3) := by decide +kernel
theorem d_Md_box_14 : decode c_Md_box 14 = .ok (.iconst 0, 1) := by decide +kernel
theorem d_Md_box_15 : decode c_Md_box 15 = .ok (.putfield 50, 3) := by decide +kernel
theorem d_Md_box_18 : decode c_Md_box 18 = .ok (.aload_n 0, 1) := by decide +kernel
theorem d_Md_box_19 : decode c_Md_box 19 = .ok (.getfield 50, 3) := by decide +kernel
theorem d_Md_box_22 : decode c_Md_box 22 = .ok (.ifCond .le 5, 3) := by decide +kernel
theorem d_Md_box_25 : decode c_Md_box 25 = .ok (.iconst 0, 1) := by decide +kernel
theorem d_Md_box_26 : decode c_Md_box 26 = .ok (.ireturn, 1) := by decide +kernel
theorem d_Md_box_27 : decode c_Md_box 27 = .ok (.aload_n 0, 1) := by decide +kernel
theorem d_Md_box_28 : decode c_Md_box 28 = .ok (.invokevirtual 181, 3) := by decide +kernel
theorem d_Md_box_31 : decode c_Md_box 31 = .ok (.aload_n 0, 1) := by decide +kernel
theorem d_Md_box_32 : decode c_Md_box 32 = .ok (.invokevirtual 187, 3) := by decide +kernel
theorem d_Md_box_35 : decode c_Md_box 35 = .ok (.ireturn, 1) := by decide +kernel
set_option maxRecDepth 100000 in
set_option maxHeartbeats 4000000 in
/-- box -/
theorem m_Md_box (l : Launch) (G : wG) (A : Nat → Prop) (ad : Nat → Nat) (ev : Nat → va_E) (Bf : Nat → Nat → Nat) (tl ol cd : Nat) (hMD : MD G ad ev Bf tl ol cd) : wM l y_Md_box w_Md_box ({ frames := 21, cells := 0, slots := 0, locals := 700 }) G A 52 ad ev [.ref (ad 37)] (fun ov ev' => ∃ (ans : Int32) (Bf' : Nat → Nat → Nat) (ol' cd' : Nat), ov = some (.int ans) ∧ spSeal (AGRB (Bf 0) (Bf 2)) Bf tl ol ans Bf' ol' cd' ∧ MD G ad ev' Bf' tl ol' cd' ∧ ∀ j, j < 37 ∨ 50 < j → ev' j = ev j) := by
  refine wv_ofW (cc := c_Md_box) (maxL := 1) (ret := (Option.some FieldType.int)) (by decide) rfl (Nat.le_of_ble_eq_true rfl) ?_
  intro p e s m below meth c ls hx hb hr hml hts hown hlocks hini h hl
  have hl : lv_has ls 1 [(0, .ref (ad 37))] := hl
  obtain ⟨g37, ⟨FF, hFB, g38⟩, ⟨x39, g39⟩, ⟨x40, g40⟩, ⟨x41, g41⟩, ⟨x42, g42⟩, ⟨x43, g43⟩, ⟨x44, g44⟩, ⟨x45, g45⟩, ⟨x46, g46⟩, ⟨x47, g47⟩, ⟨x48, g48⟩, ⟨x49, g49⟩, ⟨x50, b50, g50⟩, hB, htl, hol⟩ := hMD
  refine lv_aload_n hx hb d_Md_box_0 rfl (lv_at hl 0 rfl) ?_
  refine lv_aload_n hx hb d_Md_box_1 rfl (lv_at hl 0 rfl) ?_
  refine wv_getf hx hb h 37 (by decide) (fs := [.ref (ad 38), .int (nI (tl)), .int (nI (ol)), .int (nI (cd)), .ref (ad 39), .ref (ad 40), .ref (ad 41), .ref (ad 42), .ref (ad 43), .ref (ad 44), .ref (ad 45), .ref (ad 46), .ref (ad 47), .ref (ad 48), .ref (ad 49), .ref (ad 50)]) g37 hts (fun w hw => List.mem_cons_of_mem _ (fW_Md w hw)) hown (ci := 5) (C := "NonceBoxModel") (T := fT_Md) (N := 16) rfl 1 (by decide) (hts _ (List.mem_cons_of_mem _ kf_Md_67)) rfl (v := .int (nI (tl))) rfl d_Md_box_2 ?_
  refine lv_bipush (v := nI (96)) hx hb d_Md_box_5 (by decide) ?_
  refine lv_icmp_le (tgt := 14) hx hb d_Md_box_7 (by decide) (fun hc => ?_) (fun hc => ?_)
  · have hc : tl ≤ 96 := (nI_leI (by omega) (by omega)).mp hc
    refine lv_iconst (v := nI (0)) hx hb d_Md_box_14 (by decide) ?_
    refine wv_putf hx hb h 37 (by decide) (fs := [.ref (ad 38), .int (nI (tl)), .int (nI (ol)), .int (nI (cd)), .ref (ad 39), .ref (ad 40), .ref (ad 41), .ref (ad 42), .ref (ad 43), .ref (ad 44), .ref (ad 45), .ref (ad 46), .ref (ad 47), .ref (ad 48), .ref (ad 49), .ref (ad 50)]) g37 hts (fun w hw => List.mem_cons_of_mem _ (fW_Md w hw)) fY_Md fK_Md fN_Md hown (ci := 5) (C := "NonceBoxModel") (T := fT_Md) (N := 16) rfl 3 (by decide) (hts _ (List.mem_cons_of_mem _ kf_Md_50)) rfl rfl (v := .int (nI (0))) rfl rfl (Nat.le_of_ble_eq_true rfl) d_Md_box_15 (fun H locs h => ?_)
    have h : wT G A 52 ad (va_up ev 37 (eO 5 [.ref (ad 38), .int (nI (tl)), .int (nI (ol)), .int (nI (0)), .ref (ad 39), .ref (ad 40), .ref (ad 41), .ref (ad 42), .ref (ad 43), .ref (ad 44), .ref (ad 45), .ref (ad 46), .ref (ad 47), .ref (ad 48), .ref (ad 49), .ref (ad 50)])) s H locs := h
    obtain ⟨ev1, o1⟩ : ∃ z, z = va_up ev 37 (eO 5 [.ref (ad 38), .int (nI (tl)), .int (nI (ol)), .int (nI (0)), .ref (ad 39), .ref (ad 40), .ref (ad 41), .ref (ad 42), .ref (ad 43), .ref (ad 44), .ref (ad 45), .ref (ad 46), .ref (ad 47), .ref (ad 48), .ref (ad 49), .ref (ad 50)]) := ⟨_, rfl⟩
    rw [← o1] at h
    have t1_37 : ev1 37 = eO 5 [.ref (ad 38), .int (nI (tl)), .int (nI (ol)), .int (nI (0)), .ref (ad 39), .ref (ad 40), .ref (ad 41), .ref (ad 42), .ref (ad 43), .ref (ad 44), .ref (ad 45), .ref (ad 46), .ref (ad 47), .ref (ad 48), .ref (ad 49), .ref (ad 50)] := by rw [o1, va_up_self]
    have t1_38 := (show ev1 38 = ev 38 by rw [o1, va_up_ne _ _ (by decide)]).trans g38
    have t1_39 := (show ev1 39 = ev 39 by rw [o1, va_up_ne _ _ (by decide)]).trans g39
    have t1_40 := (show ev1 40 = ev 40 by rw [o1, va_up_ne _ _ (by decide)]).trans g40
    have t1_41 := (show ev1 41 = ev 41 by rw [o1, va_up_ne _ _ (by decide)]).trans g41
    have t1_42 := (show ev1 42 = ev 42 by rw [o1, va_up_ne _ _ (by decide)]).trans g42
    have t1_43 := (show ev1 43 = ev 43 by rw [o1, va_up_ne _ _ (by decide)]).trans g43
    have t1_44 := (show ev1 44 = ev 44 by rw [o1, va_up_ne _ _ (by decide)]).trans g44
    have t1_45 := (show ev1 45 = ev 45 by rw [o1, va_up_ne _ _ (by decide)]).trans g45
    have t1_46 := (show ev1 46 = ev 46 by rw [o1, va_up_ne _ _ (by decide)]).trans g46
    have t1_47 := (show ev1 47 = ev 47 by rw [o1, va_up_ne _ _ (by decide)]).trans g47
    have t1_48 := (show ev1 48 = ev 48 by rw [o1, va_up_ne _ _ (by decide)]).trans g48
    have t1_49 := (show ev1 49 = ev 49 by rw [o1, va_up_ne _ _ (by decide)]).trans g49
    have t1_50 := (show ev1 50 = ev 50 by rw [o1, va_up_ne _ _ (by decide)]).trans g50
    refine lv_aload_n hx hb d_Md_box_18 rfl (lv_at hl 0 rfl) ?_
    refine wv_getf hx hb h 37 (by decide) (fs := [.ref (ad 38), .int (nI (tl)), .int (nI (ol)), .int (nI (0)), .ref (ad 39), .ref (ad 40), .ref (ad 41), .ref (ad 42), .ref (ad 43), .ref (ad 44), .ref (ad 45), .ref (ad 46), .ref (ad 47), .ref (ad 48), .ref (ad 49), .ref (ad 50)]) t1_37 hts (fun w hw => List.mem_cons_of_mem _ (fW_Md w hw)) hown (ci := 5) (C := "NonceBoxModel") (T := fT_Md) (N := 16) rfl 3 (by decide) (hts _ (List.mem_cons_of_mem _ kf_Md_50)) rfl (v := .int (nI (0))) rfl d_Md_box_19 ?_
    refine lv_if_le (tgt := 27) hx hb d_Md_box_22 (by decide) (fun _ => ?_) (fun hc => absurd (by decide) hc)
    refine lv_aload_n hx hb d_Md_box_27 rfl (lv_at hl 0 rfl) ?_
    refine wv_V (As := []) (rest := []) (k := 0) ⟨hx, hb, hml, hown, hts⟩ h 37 (by decide) (C := "NonceBoxModel") t1_37 rfl (m_Md_agreeKey l G A ad ev1 Bf tl ol ⟨t1_37, ⟨_, hFB, t1_38⟩, ⟨_, t1_39⟩, ⟨_, t1_40⟩, ⟨_, t1_41⟩, ⟨_, t1_42⟩, ⟨_, t1_43⟩, ⟨_, t1_44⟩, ⟨_, t1_45⟩, ⟨_, t1_46⟩, ⟨_, t1_47⟩, ⟨_, t1_48⟩, ⟨_, t1_49⟩, ⟨_, b50, t1_50⟩, hB, htl, hol⟩) kc_Md_agreeKey kl_Md_181 km_Md_agreeKey kv_Md_agreeKey ki_Md (by decide +kernel) ⟨rfl, rfl, Nat.le_of_ble_eq_true rfl, Nat.le_of_ble_eq_true rfl⟩ hl.1 rfl rfl (Nat.le_of_ble_eq_true rfl) ⟨Nat.le_refl _, Nat.le_refl _⟩ d_Md_box_28 ?_
    intro ov ev2 H locs hp h
    obtain ⟨ho, hMD2, h39, hfr⟩ := hp
    rw [ho]
    refine W.eq (g2 := F0 m 31 ls []) rfl ?_
    have hMD3 := hMD2
    obtain ⟨g37, ⟨FF, hFB, g38⟩, ⟨x39, g39⟩, ⟨x40, g40⟩, ⟨x41, g41⟩, ⟨x42, g42⟩, ⟨x43, g43⟩, ⟨x44, g44⟩, ⟨x45, g45⟩, ⟨x46, g46⟩, ⟨x47, g47⟩, ⟨x48, g48⟩, ⟨x49, g49⟩, ⟨x50, b50, g50⟩, hB, htl, hol⟩ := hMD2
    refine lv_aload_n hx hb d_Md_box_31 rfl (lv_at hl 0 rfl) ?_
    refine wv_V (As := []) (rest := []) (k := 0) ⟨hx, hb, hml, hown, hts⟩ h 37 (by decide) (C := "NonceBoxModel") g37 rfl (m_Md_sealIt l G A ad ev2 (AGRB (Bf 0) (Bf 2)) Bf tl ol hMD3 h39 hc) kc_Md_sealIt kl_Md_187 km_Md_sealIt kv_Md_sealIt ki_Md (by decide +kernel) ⟨rfl, rfl, Nat.le_of_ble_eq_true rfl, Nat.le_of_ble_eq_true rfl⟩ hl.1 rfl rfl (Nat.le_of_ble_eq_true rfl) ⟨Nat.le_refl _, Nat.le_refl _⟩ d_Md_box_32 ?_
    intro ov ev9 H locs hp h
    obtain ⟨ho, hMD9, hfr2⟩ := hp
    rw [ho]
    refine W.eq (g2 := F0 m 35 ls [.int (nI (16 + tl))]) rfl ?_
    exact wv_iret hx hb hr hlocks h d_Md_box_35 ⟨_, _, _, _, rfl, Or.inl ⟨hc, rfl, rfl, rfl, rfl⟩, hMD9, (fun j hj => by rw [hfr2 j hj, hfr j hj, o1, va_up_ne _ _ (by omega)])⟩
  · have hc : ¬ tl ≤ 96 := fun q => hc ((nI_leI (by omega) (by omega)).mpr q)
    refine lv_iconst (v := nI (1)) hx hb d_Md_box_10 (by decide) ?_
    refine lv_goto (tgt := 15) hx hb d_Md_box_11 (by decide) ?_
    refine wv_putf hx hb h 37 (by decide) (fs := [.ref (ad 38), .int (nI (tl)), .int (nI (ol)), .int (nI (cd)), .ref (ad 39), .ref (ad 40), .ref (ad 41), .ref (ad 42), .ref (ad 43), .ref (ad 44), .ref (ad 45), .ref (ad 46), .ref (ad 47), .ref (ad 48), .ref (ad 49), .ref (ad 50)]) g37 hts (fun w hw => List.mem_cons_of_mem _ (fW_Md w hw)) fY_Md fK_Md fN_Md hown (ci := 5) (C := "NonceBoxModel") (T := fT_Md) (N := 16) rfl 3 (by decide) (hts _ (List.mem_cons_of_mem _ kf_Md_50)) rfl rfl (v := .int (nI (1))) rfl rfl (Nat.le_of_ble_eq_true rfl) d_Md_box_15 (fun H locs h => ?_)
    have h : wT G A 52 ad (va_up ev 37 (eO 5 [.ref (ad 38), .int (nI (tl)), .int (nI (ol)), .int (nI (1)), .ref (ad 39), .ref (ad 40), .ref (ad 41), .ref (ad 42), .ref (ad 43), .ref (ad 44), .ref (ad 45), .ref (ad 46), .ref (ad 47), .ref (ad 48), .ref (ad 49), .ref (ad 50)])) s H locs := h
    obtain ⟨ev1, o1⟩ : ∃ z, z = va_up ev 37 (eO 5 [.ref (ad 38), .int (nI (tl)), .int (nI (ol)), .int (nI (1)), .ref (ad 39), .ref (ad 40), .ref (ad 41), .ref (ad 42), .ref (ad 43), .ref (ad 44), .ref (ad 45), .ref (ad 46), .ref (ad 47), .ref (ad 48), .ref (ad 49), .ref (ad 50)]) := ⟨_, rfl⟩
    rw [← o1] at h
    have t1_37 : ev1 37 = eO 5 [.ref (ad 38), .int (nI (tl)), .int (nI (ol)), .int (nI (1)), .ref (ad 39), .ref (ad 40), .ref (ad 41), .ref (ad 42), .ref (ad 43), .ref (ad 44), .ref (ad 45), .ref (ad 46), .ref (ad 47), .ref (ad 48), .ref (ad 49), .ref (ad 50)] := by rw [o1, va_up_self]
    have t1_38 := (show ev1 38 = ev 38 by rw [o1, va_up_ne _ _ (by decide)]).trans g38
    have t1_39 := (show ev1 39 = ev 39 by rw [o1, va_up_ne _ _ (by decide)]).trans g39
    have t1_40 := (show ev1 40 = ev 40 by rw [o1, va_up_ne _ _ (by decide)]).trans g40
    have t1_41 := (show ev1 41 = ev 41 by rw [o1, va_up_ne _ _ (by decide)]).trans g41
    have t1_42 := (show ev1 42 = ev 42 by rw [o1, va_up_ne _ _ (by decide)]).trans g42
    have t1_43 := (show ev1 43 = ev 43 by rw [o1, va_up_ne _ _ (by decide)]).trans g43
    have t1_44 := (show ev1 44 = ev 44 by rw [o1, va_up_ne _ _ (by decide)]).trans g44
    have t1_45 := (show ev1 45 = ev 45 by rw [o1, va_up_ne _ _ (by decide)]).trans g45
    have t1_46 := (show ev1 46 = ev 46 by rw [o1, va_up_ne _ _ (by decide)]).trans g46
    have t1_47 := (show ev1 47 = ev 47 by rw [o1, va_up_ne _ _ (by decide)]).trans g47
    have t1_48 := (show ev1 48 = ev 48 by rw [o1, va_up_ne _ _ (by decide)]).trans g48
    have t1_49 := (show ev1 49 = ev 49 by rw [o1, va_up_ne _ _ (by decide)]).trans g49
    have t1_50 := (show ev1 50 = ev 50 by rw [o1, va_up_ne _ _ (by decide)]).trans g50
    refine lv_aload_n hx hb d_Md_box_18 rfl (lv_at hl 0 rfl) ?_
    refine wv_getf hx hb h 37 (by decide) (fs := [.ref (ad 38), .int (nI (tl)), .int (nI (ol)), .int (nI (1)), .ref (ad 39), .ref (ad 40), .ref (ad 41), .ref (ad 42), .ref (ad 43), .ref (ad 44), .ref (ad 45), .ref (ad 46), .ref (ad 47), .ref (ad 48), .ref (ad 49), .ref (ad 50)]) t1_37 hts (fun w hw => List.mem_cons_of_mem _ (fW_Md w hw)) hown (ci := 5) (C := "NonceBoxModel") (T := fT_Md) (N := 16) rfl 3 (by decide) (hts _ (List.mem_cons_of_mem _ kf_Md_50)) rfl (v := .int (nI (1))) rfl d_Md_box_19 ?_
    refine lv_if_le (tgt := 27) hx hb d_Md_box_22 (by decide) (fun hc => absurd hc (by decide)) (fun _ => ?_)
    refine lv_iconst (v := nI (0)) hx hb d_Md_box_25 (by decide) ?_
    exact wv_iret hx hb hr hlocks h d_Md_box_26 ⟨_, _, _, _, rfl, Or.inr ⟨hc, rfl, rfl, rfl, rfl⟩, ⟨t1_37, ⟨_, hFB, t1_38⟩, ⟨_, t1_39⟩, ⟨_, t1_40⟩, ⟨_, t1_41⟩, ⟨_, t1_42⟩, ⟨_, t1_43⟩, ⟨_, t1_44⟩, ⟨_, t1_45⟩, ⟨_, t1_46⟩, ⟨_, t1_47⟩, ⟨_, t1_48⟩, ⟨_, t1_49⟩, ⟨_, b50, t1_50⟩, hB, htl, hol⟩, (fun j hj => by rw [o1, va_up_ne _ _ (by omega)])⟩
theorem d_Md_unbox_0 : decode c_Md_unbox 0 = .ok (.aload_n 0, 1) := by decide +kernel
theorem d_Md_unbox_1 : decode c_Md_unbox 1 = .ok (.aload_n 0, 1) := by decide +kernel
theorem d_Md_unbox_2 : decode c_Md_unbox 2 = .ok (.getfield 67, 3) := by decide +kernel
theorem d_Md_unbox_5 : decode c_Md_unbox 5 = .ok (.bipush 16, 2) := by decide +kernel
theorem d_Md_unbox_7 : decode c_Md_unbox 7 = .ok (.if_icmp .ge 7, 3) := by decide +kernel
theorem d_Md_unbox_10 : decode c_Md_unbox 10 = .ok (.iconst 1, 1) := by decide +kernel
theorem d_Md_unbox_11 : decode c_Md_unbox 11 = .ok (.goto 4, 3) := by decide +kernel
theorem d_Md_unbox_14 : decode c_Md_unbox 14 = .ok (.iconst 0, 1) := by decide +kernel
theorem d_Md_unbox_15 : decode c_Md_unbox 15 = .ok (.putfield 50, 3) := by decide +kernel
theorem d_Md_unbox_18 : decode c_Md_unbox 18 = .ok (.aload_n 0, 1) := by decide +kernel
theorem d_Md_unbox_19 : decode c_Md_unbox 19 = .ok (.getfield 50, 3) := by decide +kernel
theorem d_Md_unbox_22 : decode c_Md_unbox 22 = .ok (.ifCond .le 5, 3) := by decide +kernel
theorem d_Md_unbox_25 : decode c_Md_unbox 25 = .ok (.iconst 0, 1) := by decide +kernel
theorem d_Md_unbox_26 : decode c_Md_unbox 26 = .ok (.ireturn, 1) := by decide +kernel
theorem d_Md_unbox_27 : decode c_Md_unbox 27 = .ok (.aload_n 0, 1) := by decide +kernel
theorem d_Md_unbox_28 : decode c_Md_unbox 28 = .ok (.invokevirtual 181, 3) := by decide +kernel
theorem d_Md_unbox_31 : decode c_Md_unbox 31 = .ok (.aload_n 0, 1) := by decide +kernel
theorem d_Md_unbox_32 : decode c_Md_unbox 32 = .ok (.invokevirtual 191, 3) := by decide +kernel
theorem d_Md_unbox_35 : decode c_Md_unbox 35 = .ok (.ireturn, 1) := by decide +kernel
set_option maxRecDepth 100000 in
set_option maxHeartbeats 4000000 in
/-- unbox -/
theorem m_Md_unbox (l : Launch) (G : wG) (A : Nat → Prop) (ad : Nat → Nat) (ev : Nat → va_E) (Bf : Nat → Nat → Nat) (tl ol cd : Nat) (hMD : MD G ad ev Bf tl ol cd) : wM l y_Md_unbox w_Md_unbox ({ frames := 21, cells := 0, slots := 0, locals := 700 }) G A 52 ad ev [.ref (ad 37)] (fun ov ev' => ∃ (ans : Int32) (Bf' : Nat → Nat → Nat) (ol' cd' : Nat), ov = some (.int ans) ∧ spOpen (AGRB (Bf 0) (Bf 2)) Bf tl ol ans Bf' ol' cd' ∧ MD G ad ev' Bf' tl ol' cd' ∧ ∀ j, j < 37 ∨ 50 < j → ev' j = ev j) := by
  refine wv_ofW (cc := c_Md_unbox) (maxL := 1) (ret := (Option.some FieldType.int)) (by decide) rfl (Nat.le_of_ble_eq_true rfl) ?_
  intro p e s m below meth c ls hx hb hr hml hts hown hlocks hini h hl
  have hl : lv_has ls 1 [(0, .ref (ad 37))] := hl
  obtain ⟨g37, ⟨FF, hFB, g38⟩, ⟨x39, g39⟩, ⟨x40, g40⟩, ⟨x41, g41⟩, ⟨x42, g42⟩, ⟨x43, g43⟩, ⟨x44, g44⟩, ⟨x45, g45⟩, ⟨x46, g46⟩, ⟨x47, g47⟩, ⟨x48, g48⟩, ⟨x49, g49⟩, ⟨x50, b50, g50⟩, hB, htl, hol⟩ := hMD
  refine lv_aload_n hx hb d_Md_unbox_0 rfl (lv_at hl 0 rfl) ?_
  refine lv_aload_n hx hb d_Md_unbox_1 rfl (lv_at hl 0 rfl) ?_
  refine wv_getf hx hb h 37 (by decide) (fs := [.ref (ad 38), .int (nI (tl)), .int (nI (ol)), .int (nI (cd)), .ref (ad 39), .ref (ad 40), .ref (ad 41), .ref (ad 42), .ref (ad 43), .ref (ad 44), .ref (ad 45), .ref (ad 46), .ref (ad 47), .ref (ad 48), .ref (ad 49), .ref (ad 50)]) g37 hts (fun w hw => List.mem_cons_of_mem _ (fW_Md w hw)) hown (ci := 5) (C := "NonceBoxModel") (T := fT_Md) (N := 16) rfl 1 (by decide) (hts _ (List.mem_cons_of_mem _ kf_Md_67)) rfl (v := .int (nI (tl))) rfl d_Md_unbox_2 ?_
  refine lv_bipush (v := nI (16)) hx hb d_Md_unbox_5 (by decide) ?_
  refine lv_icmp_ge (tgt := 14) hx hb d_Md_unbox_7 (by decide) (fun hc => ?_) (fun hc => ?_)
  · have hc : 16 ≤ tl := (nI_leI (by omega) (by omega)).mp hc
    refine lv_iconst (v := nI (0)) hx hb d_Md_unbox_14 (by decide) ?_
    refine wv_putf hx hb h 37 (by decide) (fs := [.ref (ad 38), .int (nI (tl)), .int (nI (ol)), .int (nI (cd)), .ref (ad 39), .ref (ad 40), .ref (ad 41), .ref (ad 42), .ref (ad 43), .ref (ad 44), .ref (ad 45), .ref (ad 46), .ref (ad 47), .ref (ad 48), .ref (ad 49), .ref (ad 50)]) g37 hts (fun w hw => List.mem_cons_of_mem _ (fW_Md w hw)) fY_Md fK_Md fN_Md hown (ci := 5) (C := "NonceBoxModel") (T := fT_Md) (N := 16) rfl 3 (by decide) (hts _ (List.mem_cons_of_mem _ kf_Md_50)) rfl rfl (v := .int (nI (0))) rfl rfl (Nat.le_of_ble_eq_true rfl) d_Md_unbox_15 (fun H locs h => ?_)
    have h : wT G A 52 ad (va_up ev 37 (eO 5 [.ref (ad 38), .int (nI (tl)), .int (nI (ol)), .int (nI (0)), .ref (ad 39), .ref (ad 40), .ref (ad 41), .ref (ad 42), .ref (ad 43), .ref (ad 44), .ref (ad 45), .ref (ad 46), .ref (ad 47), .ref (ad 48), .ref (ad 49), .ref (ad 50)])) s H locs := h
    obtain ⟨ev1, o1⟩ : ∃ z, z = va_up ev 37 (eO 5 [.ref (ad 38), .int (nI (tl)), .int (nI (ol)), .int (nI (0)), .ref (ad 39), .ref (ad 40), .ref (ad 41), .ref (ad 42), .ref (ad 43), .ref (ad 44), .ref (ad 45), .ref (ad 46), .ref (ad 47), .ref (ad 48), .ref (ad 49), .ref (ad 50)]) := ⟨_, rfl⟩
    rw [← o1] at h
    have t1_37 : ev1 37 = eO 5 [.ref (ad 38), .int (nI (tl)), .int (nI (ol)), .int (nI (0)), .ref (ad 39), .ref (ad 40), .ref (ad 41), .ref (ad 42), .ref (ad 43), .ref (ad 44), .ref (ad 45), .ref (ad 46), .ref (ad 47), .ref (ad 48), .ref (ad 49), .ref (ad 50)] := by rw [o1, va_up_self]
    have t1_38 := (show ev1 38 = ev 38 by rw [o1, va_up_ne _ _ (by decide)]).trans g38
    have t1_39 := (show ev1 39 = ev 39 by rw [o1, va_up_ne _ _ (by decide)]).trans g39
    have t1_40 := (show ev1 40 = ev 40 by rw [o1, va_up_ne _ _ (by decide)]).trans g40
    have t1_41 := (show ev1 41 = ev 41 by rw [o1, va_up_ne _ _ (by decide)]).trans g41
    have t1_42 := (show ev1 42 = ev 42 by rw [o1, va_up_ne _ _ (by decide)]).trans g42
    have t1_43 := (show ev1 43 = ev 43 by rw [o1, va_up_ne _ _ (by decide)]).trans g43
    have t1_44 := (show ev1 44 = ev 44 by rw [o1, va_up_ne _ _ (by decide)]).trans g44
    have t1_45 := (show ev1 45 = ev 45 by rw [o1, va_up_ne _ _ (by decide)]).trans g45
    have t1_46 := (show ev1 46 = ev 46 by rw [o1, va_up_ne _ _ (by decide)]).trans g46
    have t1_47 := (show ev1 47 = ev 47 by rw [o1, va_up_ne _ _ (by decide)]).trans g47
    have t1_48 := (show ev1 48 = ev 48 by rw [o1, va_up_ne _ _ (by decide)]).trans g48
    have t1_49 := (show ev1 49 = ev 49 by rw [o1, va_up_ne _ _ (by decide)]).trans g49
    have t1_50 := (show ev1 50 = ev 50 by rw [o1, va_up_ne _ _ (by decide)]).trans g50
    refine lv_aload_n hx hb d_Md_unbox_18 rfl (lv_at hl 0 rfl) ?_
    refine wv_getf hx hb h 37 (by decide) (fs := [.ref (ad 38), .int (nI (tl)), .int (nI (ol)), .int (nI (0)), .ref (ad 39), .ref (ad 40), .ref (ad 41), .ref (ad 42), .ref (ad 43), .ref (ad 44), .ref (ad 45), .ref (ad 46), .ref (ad 47), .ref (ad 48), .ref (ad 49), .ref (ad 50)]) t1_37 hts (fun w hw => List.mem_cons_of_mem _ (fW_Md w hw)) hown (ci := 5) (C := "NonceBoxModel") (T := fT_Md) (N := 16) rfl 3 (by decide) (hts _ (List.mem_cons_of_mem _ kf_Md_50)) rfl (v := .int (nI (0))) rfl d_Md_unbox_19 ?_
    refine lv_if_le (tgt := 27) hx hb d_Md_unbox_22 (by decide) (fun _ => ?_) (fun hc => absurd (by decide) hc)
    refine lv_aload_n hx hb d_Md_unbox_27 rfl (lv_at hl 0 rfl) ?_
    refine wv_V (As := []) (rest := []) (k := 0) ⟨hx, hb, hml, hown, hts⟩ h 37 (by decide) (C := "NonceBoxModel") t1_37 rfl (m_Md_agreeKey l G A ad ev1 Bf tl ol ⟨t1_37, ⟨_, hFB, t1_38⟩, ⟨_, t1_39⟩, ⟨_, t1_40⟩, ⟨_, t1_41⟩, ⟨_, t1_42⟩, ⟨_, t1_43⟩, ⟨_, t1_44⟩, ⟨_, t1_45⟩, ⟨_, t1_46⟩, ⟨_, t1_47⟩, ⟨_, t1_48⟩, ⟨_, t1_49⟩, ⟨_, b50, t1_50⟩, hB, htl, hol⟩) kc_Md_agreeKey kl_Md_181 km_Md_agreeKey kv_Md_agreeKey ki_Md (by decide +kernel) ⟨rfl, rfl, Nat.le_of_ble_eq_true rfl, Nat.le_of_ble_eq_true rfl⟩ hl.1 rfl rfl (Nat.le_of_ble_eq_true rfl) ⟨Nat.le_refl _, Nat.le_refl _⟩ d_Md_unbox_28 ?_
    intro ov ev2 H locs hp h
    obtain ⟨ho, hMD2, h39, hfr⟩ := hp
    rw [ho]
    refine W.eq (g2 := F0 m 31 ls []) rfl ?_
    have hMD3 := hMD2
    obtain ⟨g37, ⟨FF, hFB, g38⟩, ⟨x39, g39⟩, ⟨x40, g40⟩, ⟨x41, g41⟩, ⟨x42, g42⟩, ⟨x43, g43⟩, ⟨x44, g44⟩, ⟨x45, g45⟩, ⟨x46, g46⟩, ⟨x47, g47⟩, ⟨x48, g48⟩, ⟨x49, g49⟩, ⟨x50, b50, g50⟩, hB, htl, hol⟩ := hMD2
    refine lv_aload_n hx hb d_Md_unbox_31 rfl (lv_at hl 0 rfl) ?_
    refine wv_V (As := []) (rest := []) (k := 0) ⟨hx, hb, hml, hown, hts⟩ h 37 (by decide) (C := "NonceBoxModel") g37 rfl (m_Md_openIt l G A ad ev2 (AGRB (Bf 0) (Bf 2)) Bf tl ol hMD3 h39 hc) kc_Md_openIt kl_Md_191 km_Md_openIt kv_Md_openIt ki_Md (by decide +kernel) ⟨rfl, rfl, Nat.le_of_ble_eq_true rfl, Nat.le_of_ble_eq_true rfl⟩ hl.1 rfl rfl (Nat.le_of_ble_eq_true rfl) ⟨Nat.le_refl _, Nat.le_refl _⟩ d_Md_unbox_32 ?_
    intro ov ev9 H locs hp h
    obtain ⟨ans, Bf2, ol2, cd2, ho, hq, hMD9, hfr2⟩ := hp
    rw [ho]
    refine W.eq (g2 := F0 m 35 ls [.int ans]) rfl ?_
    exact wv_iret hx hb hr hlocks h d_Md_unbox_35 ⟨ans, Bf2, ol2, cd2, rfl, hq.elim (fun q => Or.inl ⟨hc, q⟩) (fun q => Or.inr (Or.inl ⟨hc, q⟩)), hMD9, (fun j hj => by rw [hfr2 j hj, hfr j hj, o1, va_up_ne _ _ (by omega)])⟩
  · have hc : ¬ 16 ≤ tl := fun q => hc ((nI_leI (by omega) (by omega)).mpr q)
    refine lv_iconst (v := nI (1)) hx hb d_Md_unbox_10 (by decide) ?_
    refine lv_goto (tgt := 15) hx hb d_Md_unbox_11 (by decide) ?_
    refine wv_putf hx hb h 37 (by decide) (fs := [.ref (ad 38), .int (nI (tl)), .int (nI (ol)), .int (nI (cd)), .ref (ad 39), .ref (ad 40), .ref (ad 41), .ref (ad 42), .ref (ad 43), .ref (ad 44), .ref (ad 45), .ref (ad 46), .ref (ad 47), .ref (ad 48), .ref (ad 49), .ref (ad 50)]) g37 hts (fun w hw => List.mem_cons_of_mem _ (fW_Md w hw)) fY_Md fK_Md fN_Md hown (ci := 5) (C := "NonceBoxModel") (T := fT_Md) (N := 16) rfl 3 (by decide) (hts _ (List.mem_cons_of_mem _ kf_Md_50)) rfl rfl (v := .int (nI (1))) rfl rfl (Nat.le_of_ble_eq_true rfl) d_Md_unbox_15 (fun H locs h => ?_)
    have h : wT G A 52 ad (va_up ev 37 (eO 5 [.ref (ad 38), .int (nI (tl)), .int (nI (ol)), .int (nI (1)), .ref (ad 39), .ref (ad 40), .ref (ad 41), .ref (ad 42), .ref (ad 43), .ref (ad 44), .ref (ad 45), .ref (ad 46), .ref (ad 47), .ref (ad 48), .ref (ad 49), .ref (ad 50)])) s H locs := h
    obtain ⟨ev1, o1⟩ : ∃ z, z = va_up ev 37 (eO 5 [.ref (ad 38), .int (nI (tl)), .int (nI (ol)), .int (nI (1)), .ref (ad 39), .ref (ad 40), .ref (ad 41), .ref (ad 42), .ref (ad 43), .ref (ad 44), .ref (ad 45), .ref (ad 46), .ref (ad 47), .ref (ad 48), .ref (ad 49), .ref (ad 50)]) := ⟨_, rfl⟩
    rw [← o1] at h
    have t1_37 : ev1 37 = eO 5 [.ref (ad 38), .int (nI (tl)), .int (nI (ol)), .int (nI (1)), .ref (ad 39), .ref (ad 40), .ref (ad 41), .ref (ad 42), .ref (ad 43), .ref (ad 44), .ref (ad 45), .ref (ad 46), .ref (ad 47), .ref (ad 48), .ref (ad 49), .ref (ad 50)] := by rw [o1, va_up_self]
    have t1_38 := (show ev1 38 = ev 38 by rw [o1, va_up_ne _ _ (by decide)]).trans g38
    have t1_39 := (show ev1 39 = ev 39 by rw [o1, va_up_ne _ _ (by decide)]).trans g39
    have t1_40 := (show ev1 40 = ev 40 by rw [o1, va_up_ne _ _ (by decide)]).trans g40
    have t1_41 := (show ev1 41 = ev 41 by rw [o1, va_up_ne _ _ (by decide)]).trans g41
    have t1_42 := (show ev1 42 = ev 42 by rw [o1, va_up_ne _ _ (by decide)]).trans g42
    have t1_43 := (show ev1 43 = ev 43 by rw [o1, va_up_ne _ _ (by decide)]).trans g43
    have t1_44 := (show ev1 44 = ev 44 by rw [o1, va_up_ne _ _ (by decide)]).trans g44
    have t1_45 := (show ev1 45 = ev 45 by rw [o1, va_up_ne _ _ (by decide)]).trans g45
    have t1_46 := (show ev1 46 = ev 46 by rw [o1, va_up_ne _ _ (by decide)]).trans g46
    have t1_47 := (show ev1 47 = ev 47 by rw [o1, va_up_ne _ _ (by decide)]).trans g47
    have t1_48 := (show ev1 48 = ev 48 by rw [o1, va_up_ne _ _ (by decide)]).trans g48
    have t1_49 := (show ev1 49 = ev 49 by rw [o1, va_up_ne _ _ (by decide)]).trans g49
    have t1_50 := (show ev1 50 = ev 50 by rw [o1, va_up_ne _ _ (by decide)]).trans g50
    refine lv_aload_n hx hb d_Md_unbox_18 rfl (lv_at hl 0 rfl) ?_
    refine wv_getf hx hb h 37 (by decide) (fs := [.ref (ad 38), .int (nI (tl)), .int (nI (ol)), .int (nI (1)), .ref (ad 39), .ref (ad 40), .ref (ad 41), .ref (ad 42), .ref (ad 43), .ref (ad 44), .ref (ad 45), .ref (ad 46), .ref (ad 47), .ref (ad 48), .ref (ad 49), .ref (ad 50)]) t1_37 hts (fun w hw => List.mem_cons_of_mem _ (fW_Md w hw)) hown (ci := 5) (C := "NonceBoxModel") (T := fT_Md) (N := 16) rfl 3 (by decide) (hts _ (List.mem_cons_of_mem _ kf_Md_50)) rfl (v := .int (nI (1))) rfl d_Md_unbox_19 ?_
    refine lv_if_le (tgt := 27) hx hb d_Md_unbox_22 (by decide) (fun hc => absurd hc (by decide)) (fun _ => ?_)
    refine lv_iconst (v := nI (0)) hx hb d_Md_unbox_25 (by decide) ?_
    exact wv_iret hx hb hr hlocks h d_Md_unbox_26 ⟨_, _, _, _, rfl, Or.inr (Or.inr ⟨hc, rfl, rfl, rfl, rfl⟩), ⟨t1_37, ⟨_, hFB, t1_38⟩, ⟨_, t1_39⟩, ⟨_, t1_40⟩, ⟨_, t1_41⟩, ⟨_, t1_42⟩, ⟨_, t1_43⟩, ⟨_, t1_44⟩, ⟨_, t1_45⟩, ⟨_, t1_46⟩, ⟨_, t1_47⟩, ⟨_, t1_48⟩, ⟨_, t1_49⟩, ⟨_, b50, t1_50⟩, hB, htl, hol⟩, (fun j hj => by rw [o1, va_up_ne _ _ (by omega)])⟩
