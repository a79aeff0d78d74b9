theorem d_Md_size_0 : decode c_Md_size 0 = .ok (.aload_n 0, 1) := by decide +kernel
theorem d_Md_size_1 : decode c_Md_size 1 = .ok (.iconst 0, 1) := by decide +kernel
theorem d_Md_size_2 : decode c_Md_size 2 = .ok (.putfield 50, 3) := by decide +kernel
theorem d_Md_size_5 : decode c_Md_size 5 = .ok (.iload_n 1, 1) := by decide +kernel
theorem d_Md_size_6 : decode c_Md_size 6 = .ok (.ifCond .lt 8, 3) := by decide +kernel
theorem d_Md_size_9 : decode c_Md_size 9 = .ok (.iload_n 1, 1) := by decide +kernel
theorem d_Md_size_10 : decode c_Md_size 10 = .ok (.iconst 4, 1) := by decide +kernel
theorem d_Md_size_11 : decode c_Md_size 11 = .ok (.if_icmp .le 5, 3) := by decide +kernel
theorem d_Md_size_14 : decode c_Md_size 14 = .ok (.iconst (-1), 1) := by decide +kernel
theorem d_Md_size_15 : decode c_Md_size 15 = .ok (.ireturn, 1) := by decide +kernel
theorem d_Md_size_16 : decode c_Md_size 16 = .ok (.iload_n 1, 1) := by decide +kernel
theorem d_Md_size_17 : decode c_Md_size 17 = .ok (.iconst 3, 1) := by decide +kernel
theorem d_Md_size_18 : decode c_Md_size 18 = .ok (.if_icmp .ne 10, 3) := by decide +kernel
theorem d_Md_size_21 : decode c_Md_size 21 = .ok (.aload_n 0, 1) := by decide +kernel
theorem d_Md_size_22 : decode c_Md_size 22 = .ok (.getfield 67, 3) := by decide +kernel
theorem d_Md_size_25 : decode c_Md_size 25 = .ok (.goto 19, 3) := by decide +kernel
theorem d_Md_size_28 : decode c_Md_size 28 = .ok (.iload_n 1, 1) := by decide +kernel
theorem d_Md_size_29 : decode c_Md_size 29 = .ok (.iconst 4, 1) := by decide +kernel
theorem d_Md_size_30 : decode c_Md_size 30 = .ok (.if_icmp .ne 10, 3) := by decide +kernel
theorem d_Md_size_33 : decode c_Md_size 33 = .ok (.aload_n 0, 1) := by decide +kernel
theorem d_Md_size_34 : decode c_Md_size 34 = .ok (.getfield 70, 3) := by decide +kernel
theorem d_Md_size_37 : decode c_Md_size 37 = .ok (.goto 7, 3) := by decide +kernel
theorem d_Md_size_40 : decode c_Md_size 40 = .ok (.iload_n 1, 1) := by decide +kernel
theorem d_Md_size_41 : decode c_Md_size 41 = .ok (.invokestatic 54, 3) := by decide +kernel
theorem d_Md_size_44 : decode c_Md_size 44 = .ok (.ireturn, 1) := by decide +kernel
set_option maxRecDepth 100000 in
set_option maxHeartbeats 4000000 in
/-- size -/
theorem m_Md_size (l : Launch) (G : wG) (A : Nat → Prop) (ad : Nat → Nat) (ev : Nat → va_E) (x : Int32) (Bf : Nat → Nat → Nat) (tl ol cd : Nat) (hMD : MD G ad ev Bf tl ol cd) : wM l y_Md_size w_Md_size ({ frames := 3, cells := 0, slots := 0, locals := 100 }) G A 52 ad ev [.ref (ad 37), .int (x)] (fun ov ev' => ∃ ans : Int32, ov = some (.int ans) ∧ spSize x tl ol ans ∧ MD G ad ev' Bf tl ol 0 ∧ ∀ j, j < 37 ∨ 50 < j → ev' j = ev j) := by
  refine wv_ofW (cc := c_Md_size) (maxL := 2) (ret := (Option.some FieldType.int)) (by decide) rfl (Nat.le_of_ble_eq_true rfl) ?_
  intro p e s m below meth c ls hx hb hr hml hts hown hlocks hini h hl
  have hl : lv_has ls 2 [(0, .ref (ad 37)), (1, .int (x))] := hl
  obtain ⟨g37, ⟨FF, hFB, g38⟩, ⟨x39, g39⟩, ⟨x40, g40⟩, ⟨x41, g41⟩, ⟨x42, g42⟩, ⟨x43, g43⟩, ⟨x44, g44⟩, ⟨x45, g45⟩, ⟨x46, g46⟩, ⟨x47, g47⟩, ⟨x48, g48⟩, ⟨x49, g49⟩, ⟨x50, b50, g50⟩, hB, htl, hol⟩ := hMD
  refine lv_aload_n hx hb d_Md_size_0 rfl (lv_at hl 0 rfl) ?_
  refine lv_iconst (v := nI (0)) hx hb d_Md_size_1 (by decide) ?_
  refine wv_putf hx hb h 37 (by decide) (fs := [.ref (ad 38), .int (nI (tl)), .int (nI (ol)), .int (nI (cd)), .ref (ad 39), .ref (ad 40), .ref (ad 41), .ref (ad 42), .ref (ad 43), .ref (ad 44), .ref (ad 45), .ref (ad 46), .ref (ad 47), .ref (ad 48), .ref (ad 49), .ref (ad 50)]) g37 hts (fun w hw => List.mem_cons_of_mem _ (fW_Md w hw)) fY_Md fK_Md fN_Md hown (ci := 5) (C := "NonceBoxModel") (T := fT_Md) (N := 16) rfl 3 (by decide) (hts _ (List.mem_cons_of_mem _ kf_Md_50)) rfl rfl (v := .int (nI (0))) rfl rfl (Nat.le_of_ble_eq_true rfl) d_Md_size_2 (fun H locs h => ?_)
  have h : wT G A 52 ad (va_up ev 37 (eO 5 [.ref (ad 38), .int (nI (tl)), .int (nI (ol)), .int (nI (0)), .ref (ad 39), .ref (ad 40), .ref (ad 41), .ref (ad 42), .ref (ad 43), .ref (ad 44), .ref (ad 45), .ref (ad 46), .ref (ad 47), .ref (ad 48), .ref (ad 49), .ref (ad 50)])) s H locs := h
  obtain ⟨ev1, o1⟩ : ∃ z, z = va_up ev 37 (eO 5 [.ref (ad 38), .int (nI (tl)), .int (nI (ol)), .int (nI (0)), .ref (ad 39), .ref (ad 40), .ref (ad 41), .ref (ad 42), .ref (ad 43), .ref (ad 44), .ref (ad 45), .ref (ad 46), .ref (ad 47), .ref (ad 48), .ref (ad 49), .ref (ad 50)]) := ⟨_, rfl⟩
  rw [← o1] at h
  have t1_37 : ev1 37 = eO 5 [.ref (ad 38), .int (nI (tl)), .int (nI (ol)), .int (nI (0)), .ref (ad 39), .ref (ad 40), .ref (ad 41), .ref (ad 42), .ref (ad 43), .ref (ad 44), .ref (ad 45), .ref (ad 46), .ref (ad 47), .ref (ad 48), .ref (ad 49), .ref (ad 50)] := by rw [o1, va_up_self]
  have t1_38 := (show ev1 38 = ev 38 by rw [o1, va_up_ne _ _ (by decide)]).trans g38
  have t1_39 := (show ev1 39 = ev 39 by rw [o1, va_up_ne _ _ (by decide)]).trans g39
  have t1_40 := (show ev1 40 = ev 40 by rw [o1, va_up_ne _ _ (by decide)]).trans g40
  have t1_41 := (show ev1 41 = ev 41 by rw [o1, va_up_ne _ _ (by decide)]).trans g41
  have t1_42 := (show ev1 42 = ev 42 by rw [o1, va_up_ne _ _ (by decide)]).trans g42
  have t1_43 := (show ev1 43 = ev 43 by rw [o1, va_up_ne _ _ (by decide)]).trans g43
  have t1_44 := (show ev1 44 = ev 44 by rw [o1, va_up_ne _ _ (by decide)]).trans g44
  have t1_45 := (show ev1 45 = ev 45 by rw [o1, va_up_ne _ _ (by decide)]).trans g45
  have t1_46 := (show ev1 46 = ev 46 by rw [o1, va_up_ne _ _ (by decide)]).trans g46
  have t1_47 := (show ev1 47 = ev 47 by rw [o1, va_up_ne _ _ (by decide)]).trans g47
  have t1_48 := (show ev1 48 = ev 48 by rw [o1, va_up_ne _ _ (by decide)]).trans g48
  have t1_49 := (show ev1 49 = ev 49 by rw [o1, va_up_ne _ _ (by decide)]).trans g49
  have t1_50 := (show ev1 50 = ev 50 by rw [o1, va_up_ne _ _ (by decide)]).trans g50
  rcases pk_ix x (n := 5) (by decide) with hlo | hhi | ⟨b, hb5, rfl⟩
  · have far := nI_far (n := 5) (by decide) (Or.inl hlo)
    refine lv_iload_n hx hb d_Md_size_5 rfl (lv_at hl 1 rfl) ?_
    refine lv_if_lt (tgt := 14) hx hb d_Md_size_6 (by decide) (fun _ => ?_) (fun hc => absurd hlo hc)
    refine lv_iconst (v := (-1 : Int32)) hx hb d_Md_size_14 (by decide) ?_
    exact wv_iret hx hb hr hlocks h d_Md_size_15 ⟨_, rfl, Or.inr (Or.inr (Or.inr ⟨far, rfl⟩)), ⟨t1_37, ⟨_, hFB, t1_38⟩, ⟨_, t1_39⟩, ⟨_, t1_40⟩, ⟨_, t1_41⟩, ⟨_, t1_42⟩, ⟨_, t1_43⟩, ⟨_, t1_44⟩, ⟨_, t1_45⟩, ⟨_, t1_46⟩, ⟨_, t1_47⟩, ⟨_, t1_48⟩, ⟨_, t1_49⟩, ⟨_, b50, t1_50⟩, hB, htl, hol⟩, (fun j hj => by rw [o1, va_up_ne _ _ (by omega)])⟩
  · have far := nI_far (n := 5) (by decide) (Or.inr hhi)
    refine lv_iload_n hx hb d_Md_size_5 rfl (lv_at hl 1 rfl) ?_
    have hn0 : ¬ x < 0 := fun q => by
      have h1 := Int32.lt_iff_toInt_lt.mp q
      have h2 := Int32.le_iff_toInt_le.mp hhi
      rw [nI_toInt (by decide)] at h2
      rw [Int32.toInt_zero] at h1
      omega
    refine lv_if_lt (tgt := 14) hx hb d_Md_size_6 (by decide) (fun hc => absurd hc hn0) (fun _ => ?_)
    refine lv_iload_n hx hb d_Md_size_9 rfl (lv_at hl 1 rfl) ?_
    refine lv_iconst (v := nI (4)) hx hb d_Md_size_10 (by decide) ?_
    have hn4 : ¬ x ≤ nI 4 := fun q => by
      have h1 := Int32.le_iff_toInt_le.mp q
      have h2 := Int32.le_iff_toInt_le.mp hhi
      rw [nI_toInt (by decide)] at h1 h2
      omega
    refine lv_icmp_le (tgt := 16) hx hb d_Md_size_11 (by decide) (fun hc => absurd hc hn4) (fun _ => ?_)
    refine lv_iconst (v := (-1 : Int32)) hx hb d_Md_size_14 (by decide) ?_
    exact wv_iret hx hb hr hlocks h d_Md_size_15 ⟨_, rfl, Or.inr (Or.inr (Or.inr ⟨far, rfl⟩)), ⟨t1_37, ⟨_, hFB, t1_38⟩, ⟨_, t1_39⟩, ⟨_, t1_40⟩, ⟨_, t1_41⟩, ⟨_, t1_42⟩, ⟨_, t1_43⟩, ⟨_, t1_44⟩, ⟨_, t1_45⟩, ⟨_, t1_46⟩, ⟨_, t1_47⟩, ⟨_, t1_48⟩, ⟨_, t1_49⟩, ⟨_, b50, t1_50⟩, hB, htl, hol⟩, (fun j hj => by rw [o1, va_up_ne _ _ (by omega)])⟩
  · rcases (show b = 0 ∨ b = 1 ∨ b = 2 ∨ b = 3 ∨ b = 4 by omega) with rfl | rfl | rfl | rfl | rfl
    · skip
      refine lv_iload_n hx hb d_Md_size_5 rfl (lv_at hl 1 rfl) ?_
      refine lv_if_lt (tgt := 14) hx hb d_Md_size_6 (by decide) (fun hc => absurd hc (by decide)) (fun _ => ?_)
      refine lv_iload_n hx hb d_Md_size_9 rfl (lv_at hl 1 rfl) ?_
      refine lv_iconst (v := nI (4)) hx hb d_Md_size_10 (by decide) ?_
      refine lv_icmp_le (tgt := 16) hx hb d_Md_size_11 (by decide) (fun _ => ?_) (fun hc => absurd (by decide) hc)
      refine lv_iload_n hx hb d_Md_size_16 rfl (lv_at hl 1 rfl) ?_
      refine lv_iconst (v := nI (3)) hx hb d_Md_size_17 (by decide) ?_
      refine lv_icmp_ne (tgt := 28) hx hb d_Md_size_18 (by decide) (fun _ => ?_) (fun hc => absurd hc (by decide))
      refine lv_iload_n hx hb d_Md_size_28 rfl (lv_at hl 1 rfl) ?_
      refine lv_iconst (v := nI (4)) hx hb d_Md_size_29 (by decide) ?_
      refine lv_icmp_ne (tgt := 40) hx hb d_Md_size_30 (by decide) (fun _ => ?_) (fun hc => absurd hc (by decide))
      refine lv_iload_n hx hb d_Md_size_40 rfl (lv_at hl 1 rfl) ?_
      refine wv_Sx (As := [.int (nI (0))]) (rest := []) (k := 1) ⟨hx, hb, hml, hown, hts⟩ h (m_Md_room l G A ad ev1 0 (by decide)) kc_Md_room kl_Md_54 ks_Md_room ki_Md (by decide +kernel) ⟨rfl, rfl, Nat.le_of_ble_eq_true rfl, Nat.le_of_ble_eq_true rfl⟩ hl.1 rfl rfl (Nat.le_of_ble_eq_true rfl) ⟨Nat.le_refl _, Nat.le_refl _⟩ d_Md_size_41 ?_
      intro ov ev2 H locs hp h
      rw [hp.1]
      refine W.eq (g2 := F0 m 44 ls [.int (nI (bsz 0))]) rfl ?_
      rw [hp.2] at h
      exact wv_iret hx hb hr hlocks h d_Md_size_44 ⟨_, rfl, Or.inl ⟨0, by decide, rfl, rfl⟩, ⟨t1_37, ⟨_, hFB, t1_38⟩, ⟨_, t1_39⟩, ⟨_, t1_40⟩, ⟨_, t1_41⟩, ⟨_, t1_42⟩, ⟨_, t1_43⟩, ⟨_, t1_44⟩, ⟨_, t1_45⟩, ⟨_, t1_46⟩, ⟨_, t1_47⟩, ⟨_, t1_48⟩, ⟨_, t1_49⟩, ⟨_, b50, t1_50⟩, hB, htl, hol⟩, (fun j hj => by rw [o1, va_up_ne _ _ (by omega)])⟩
    · skip
      refine lv_iload_n hx hb d_Md_size_5 rfl (lv_at hl 1 rfl) ?_
      refine lv_if_lt (tgt := 14) hx hb d_Md_size_6 (by decide) (fun hc => absurd hc (by decide)) (fun _ => ?_)
      refine lv_iload_n hx hb d_Md_size_9 rfl (lv_at hl 1 rfl) ?_
      refine lv_iconst (v := nI (4)) hx hb d_Md_size_10 (by decide) ?_
      refine lv_icmp_le (tgt := 16) hx hb d_Md_size_11 (by decide) (fun _ => ?_) (fun hc => absurd (by decide) hc)
      refine lv_iload_n hx hb d_Md_size_16 rfl (lv_at hl 1 rfl) ?_
      refine lv_iconst (v := nI (3)) hx hb d_Md_size_17 (by decide) ?_
      refine lv_icmp_ne (tgt := 28) hx hb d_Md_size_18 (by decide) (fun _ => ?_) (fun hc => absurd hc (by decide))
      refine lv_iload_n hx hb d_Md_size_28 rfl (lv_at hl 1 rfl) ?_
      refine lv_iconst (v := nI (4)) hx hb d_Md_size_29 (by decide) ?_
      refine lv_icmp_ne (tgt := 40) hx hb d_Md_size_30 (by decide) (fun _ => ?_) (fun hc => absurd hc (by decide))
      refine lv_iload_n hx hb d_Md_size_40 rfl (lv_at hl 1 rfl) ?_
      refine wv_Sx (As := [.int (nI (1))]) (rest := []) (k := 1) ⟨hx, hb, hml, hown, hts⟩ h (m_Md_room l G A ad ev1 1 (by decide)) kc_Md_room kl_Md_54 ks_Md_room ki_Md (by decide +kernel) ⟨rfl, rfl, Nat.le_of_ble_eq_true rfl, Nat.le_of_ble_eq_true rfl⟩ hl.1 rfl rfl (Nat.le_of_ble_eq_true rfl) ⟨Nat.le_refl _, Nat.le_refl _⟩ d_Md_size_41 ?_
      intro ov ev2 H locs hp h
      rw [hp.1]
      refine W.eq (g2 := F0 m 44 ls [.int (nI (bsz 1))]) rfl ?_
      rw [hp.2] at h
      exact wv_iret hx hb hr hlocks h d_Md_size_44 ⟨_, rfl, Or.inl ⟨1, by decide, rfl, rfl⟩, ⟨t1_37, ⟨_, hFB, t1_38⟩, ⟨_, t1_39⟩, ⟨_, t1_40⟩, ⟨_, t1_41⟩, ⟨_, t1_42⟩, ⟨_, t1_43⟩, ⟨_, t1_44⟩, ⟨_, t1_45⟩, ⟨_, t1_46⟩, ⟨_, t1_47⟩, ⟨_, t1_48⟩, ⟨_, t1_49⟩, ⟨_, b50, t1_50⟩, hB, htl, hol⟩, (fun j hj => by rw [o1, va_up_ne _ _ (by omega)])⟩
    · skip
      refine lv_iload_n hx hb d_Md_size_5 rfl (lv_at hl 1 rfl) ?_
      refine lv_if_lt (tgt := 14) hx hb d_Md_size_6 (by decide) (fun hc => absurd hc (by decide)) (fun _ => ?_)
      refine lv_iload_n hx hb d_Md_size_9 rfl (lv_at hl 1 rfl) ?_
      refine lv_iconst (v := nI (4)) hx hb d_Md_size_10 (by decide) ?_
      refine lv_icmp_le (tgt := 16) hx hb d_Md_size_11 (by decide) (fun _ => ?_) (fun hc => absurd (by decide) hc)
      refine lv_iload_n hx hb d_Md_size_16 rfl (lv_at hl 1 rfl) ?_
      refine lv_iconst (v := nI (3)) hx hb d_Md_size_17 (by decide) ?_
      refine lv_icmp_ne (tgt := 28) hx hb d_Md_size_18 (by decide) (fun _ => ?_) (fun hc => absurd hc (by decide))
      refine lv_iload_n hx hb d_Md_size_28 rfl (lv_at hl 1 rfl) ?_
      refine lv_iconst (v := nI (4)) hx hb d_Md_size_29 (by decide) ?_
      refine lv_icmp_ne (tgt := 40) hx hb d_Md_size_30 (by decide) (fun _ => ?_) (fun hc => absurd hc (by decide))
      refine lv_iload_n hx hb d_Md_size_40 rfl (lv_at hl 1 rfl) ?_
      refine wv_Sx (As := [.int (nI (2))]) (rest := []) (k := 1) ⟨hx, hb, hml, hown, hts⟩ h (m_Md_room l G A ad ev1 2 (by decide)) kc_Md_room kl_Md_54 ks_Md_room ki_Md (by decide +kernel) ⟨rfl, rfl, Nat.le_of_ble_eq_true rfl, Nat.le_of_ble_eq_true rfl⟩ hl.1 rfl rfl (Nat.le_of_ble_eq_true rfl) ⟨Nat.le_refl _, Nat.le_refl _⟩ d_Md_size_41 ?_
      intro ov ev2 H locs hp h
      rw [hp.1]
      refine W.eq (g2 := F0 m 44 ls [.int (nI (bsz 2))]) rfl ?_
      rw [hp.2] at h
      exact wv_iret hx hb hr hlocks h d_Md_size_44 ⟨_, rfl, Or.inl ⟨2, by decide, rfl, rfl⟩, ⟨t1_37, ⟨_, hFB, t1_38⟩, ⟨_, t1_39⟩, ⟨_, t1_40⟩, ⟨_, t1_41⟩, ⟨_, t1_42⟩, ⟨_, t1_43⟩, ⟨_, t1_44⟩, ⟨_, t1_45⟩, ⟨_, t1_46⟩, ⟨_, t1_47⟩, ⟨_, t1_48⟩, ⟨_, t1_49⟩, ⟨_, b50, t1_50⟩, hB, htl, hol⟩, (fun j hj => by rw [o1, va_up_ne _ _ (by omega)])⟩
    · skip
      refine lv_iload_n hx hb d_Md_size_5 rfl (lv_at hl 1 rfl) ?_
      refine lv_if_lt (tgt := 14) hx hb d_Md_size_6 (by decide) (fun hc => absurd hc (by decide)) (fun _ => ?_)
      refine lv_iload_n hx hb d_Md_size_9 rfl (lv_at hl 1 rfl) ?_
      refine lv_iconst (v := nI (4)) hx hb d_Md_size_10 (by decide) ?_
      refine lv_icmp_le (tgt := 16) hx hb d_Md_size_11 (by decide) (fun _ => ?_) (fun hc => absurd (by decide) hc)
      refine lv_iload_n hx hb d_Md_size_16 rfl (lv_at hl 1 rfl) ?_
      refine lv_iconst (v := nI (3)) hx hb d_Md_size_17 (by decide) ?_
      refine lv_icmp_ne (tgt := 28) hx hb d_Md_size_18 (by decide) (fun hc => absurd rfl hc) (fun _ => ?_)
      refine lv_aload_n hx hb d_Md_size_21 rfl (lv_at hl 0 rfl) ?_
      refine wv_getf hx hb h 37 (by decide) (fs := [.ref (ad 38), .int (nI (tl)), .int (nI (ol)), .int (nI (0)), .ref (ad 39), .ref (ad 40), .ref (ad 41), .ref (ad 42), .ref (ad 43), .ref (ad 44), .ref (ad 45), .ref (ad 46), .ref (ad 47), .ref (ad 48), .ref (ad 49), .ref (ad 50)]) t1_37 hts (fun w hw => List.mem_cons_of_mem _ (fW_Md w hw)) hown (ci := 5) (C := "NonceBoxModel") (T := fT_Md) (N := 16) rfl 1 (by decide) (hts _ (List.mem_cons_of_mem _ kf_Md_67)) rfl (v := .int (nI (tl))) rfl d_Md_size_22 ?_
      refine lv_goto (tgt := 44) hx hb d_Md_size_25 (by decide) ?_
      exact wv_iret hx hb hr hlocks h d_Md_size_44 ⟨_, rfl, Or.inr (Or.inl ⟨rfl, rfl⟩), ⟨t1_37, ⟨_, hFB, t1_38⟩, ⟨_, t1_39⟩, ⟨_, t1_40⟩, ⟨_, t1_41⟩, ⟨_, t1_42⟩, ⟨_, t1_43⟩, ⟨_, t1_44⟩, ⟨_, t1_45⟩, ⟨_, t1_46⟩, ⟨_, t1_47⟩, ⟨_, t1_48⟩, ⟨_, t1_49⟩, ⟨_, b50, t1_50⟩, hB, htl, hol⟩, (fun j hj => by rw [o1, va_up_ne _ _ (by omega)])⟩
    · skip
      refine lv_iload_n hx hb d_Md_size_5 rfl (lv_at hl 1 rfl) ?_
      refine lv_if_lt (tgt := 14) hx hb d_Md_size_6 (by decide) (fun hc => absurd hc (by decide)) (fun _ => ?_)
      refine lv_iload_n hx hb d_Md_size_9 rfl (lv_at hl 1 rfl) ?_
      refine lv_iconst (v := nI (4)) hx hb d_Md_size_10 (by decide) ?_
      refine lv_icmp_le (tgt := 16) hx hb d_Md_size_11 (by decide) (fun _ => ?_) (fun hc => absurd (by decide) hc)
      refine lv_iload_n hx hb d_Md_size_16 rfl (lv_at hl 1 rfl) ?_
      refine lv_iconst (v := nI (3)) hx hb d_Md_size_17 (by decide) ?_
      refine lv_icmp_ne (tgt := 28) hx hb d_Md_size_18 (by decide) (fun _ => ?_) (fun hc => absurd hc (by decide))
      refine lv_iload_n hx hb d_Md_size_28 rfl (lv_at hl 1 rfl) ?_
      refine lv_iconst (v := nI (4)) hx hb d_Md_size_29 (by decide) ?_
      refine lv_icmp_ne (tgt := 40) hx hb d_Md_size_30 (by decide) (fun hc => absurd rfl hc) (fun _ => ?_)
      refine lv_aload_n hx hb d_Md_size_33 rfl (lv_at hl 0 rfl) ?_
      refine wv_getf hx hb h 37 (by decide) (fs := [.ref (ad 38), .int (nI (tl)), .int (nI (ol)), .int (nI (0)), .ref (ad 39), .ref (ad 40), .ref (ad 41), .ref (ad 42), .ref (ad 43), .ref (ad 44), .ref (ad 45), .ref (ad 46), .ref (ad 47), .ref (ad 48), .ref (ad 49), .ref (ad 50)]) t1_37 hts (fun w hw => List.mem_cons_of_mem _ (fW_Md w hw)) hown (ci := 5) (C := "NonceBoxModel") (T := fT_Md) (N := 16) rfl 2 (by decide) (hts _ (List.mem_cons_of_mem _ kf_Md_70)) rfl (v := .int (nI (ol))) rfl d_Md_size_34 ?_
      refine lv_goto (tgt := 44) hx hb d_Md_size_37 (by decide) ?_
      exact wv_iret hx hb hr hlocks h d_Md_size_44 ⟨_, rfl, Or.inr (Or.inr (Or.inl ⟨rfl, rfl⟩)), ⟨t1_37, ⟨_, hFB, t1_38⟩, ⟨_, t1_39⟩, ⟨_, t1_40⟩, ⟨_, t1_41⟩, ⟨_, t1_42⟩, ⟨_, t1_43⟩, ⟨_, t1_44⟩, ⟨_, t1_45⟩, ⟨_, t1_46⟩, ⟨_, t1_47⟩, ⟨_, t1_48⟩, ⟨_, t1_49⟩, ⟨_, b50, t1_50⟩, hB, htl, hol⟩, (fun j hj => by rw [o1, va_up_ne _ _ (by omega)])⟩
theorem d_Md_move_0 : decode c_Md_move 0 = .ok (.aload_n 0, 1) := by decide +kernel
theorem d_Md_move_1 : decode c_Md_move 1 = .ok (.iconst 0, 1) := by decide +kernel
theorem d_Md_move_2 : decode c_Md_move 2 = .ok (.putfield 50, 3) := by decide +kernel
theorem d_Md_move_5 : decode c_Md_move 5 = .ok (.iload_n 1, 1) := by decide +kernel
theorem d_Md_move_6 : decode c_Md_move 6 = .ok (.iconst 3, 1) := by decide +kernel
theorem d_Md_move_7 : decode c_Md_move 7 = .ok (.if_icmp .eq 21, 3) := by decide +kernel
theorem d_Md_move_10 : decode c_Md_move 10 = .ok (.iload_n 1, 1) := by decide +kernel
theorem d_Md_move_11 : decode c_Md_move 11 = .ok (.ifCond .eq 8, 3) := by decide +kernel
theorem d_Md_move_14 : decode c_Md_move 14 = .ok (.iload_n 1, 1) := by decide +kernel
theorem d_Md_move_15 : decode c_Md_move 15 = .ok (.iconst 2, 1) := by decide +kernel
theorem d_Md_move_16 : decode c_Md_move 16 = .ok (.if_icmp .ne 16, 3) := by decide +kernel
theorem d_Md_move_19 : decode c_Md_move 19 = .ok (.aload_n 0, 1) := by decide +kernel
theorem d_Md_move_20 : decode c_Md_move 20 = .ok (.getfield 70, 3) := by decide +kernel
theorem d_Md_move_23 : decode c_Md_move 23 = .ok (.bipush 32, 2) := by decide +kernel
theorem d_Md_move_25 : decode c_Md_move 25 = .ok (.if_icmp .ne 7, 3) := by decide +kernel
theorem d_Md_move_28 : decode c_Md_move 28 = .ok (.iconst 1, 1) := by decide +kernel
theorem d_Md_move_29 : decode c_Md_move 29 = .ok (.goto 4, 3) := by decide +kernel
theorem d_Md_move_32 : decode c_Md_move 32 = .ok (.iconst 0, 1) := by decide +kernel
theorem d_Md_move_33 : decode c_Md_move 33 = .ok (.istore_n 2, 1) := by decide +kernel
theorem d_Md_move_34 : decode c_Md_move 34 = .ok (.iload_n 2, 1) := by decide +kernel
theorem d_Md_move_35 : decode c_Md_move 35 = .ok (.ifCond .ne 5, 3) := by decide +kernel
theorem d_Md_move_38 : decode c_Md_move 38 = .ok (.iconst 0, 1) := by decide +kernel
theorem d_Md_move_39 : decode c_Md_move 39 = .ok (.ireturn, 1) := by decide +kernel
theorem d_Md_move_40 : decode c_Md_move 40 = .ok (.iload_n 1, 1) := by decide +kernel
theorem d_Md_move_41 : decode c_Md_move 41 = .ok (.invokestatic 62, 3) := by decide +kernel
theorem d_Md_move_44 : decode c_Md_move 44 = .ok (.istore_n 3, 1) := by decide +kernel
theorem d_Md_move_45 : decode c_Md_move 45 = .ok (.iconst 0, 1) := by decide +kernel
theorem d_Md_move_46 : decode c_Md_move 46 = .ok (.istore 4, 2) := by decide +kernel
theorem d_Md_move_48 : decode c_Md_move 48 = .ok (.iload 4, 2) := by decide +kernel
theorem d_Md_move_50 : decode c_Md_move 50 = .ok (.aload_n 0, 1) := by decide +kernel
theorem d_Md_move_51 : decode c_Md_move 51 = .ok (.getfield 70, 3) := by decide +kernel
theorem d_Md_move_54 : decode c_Md_move 54 = .ok (.if_icmp .ge 29, 3) := by decide +kernel
theorem d_Md_move_57 : decode c_Md_move 57 = .ok (.aload_n 0, 1) := by decide +kernel
theorem d_Md_move_58 : decode c_Md_move 58 = .ok (.getfield 7, 3) := by decide +kernel
theorem d_Md_move_61 : decode c_Md_move 61 = .ok (.iload_n 3, 1) := by decide +kernel
theorem d_Md_move_62 : decode c_Md_move 62 = .ok (.iload 4, 2) := by decide +kernel
theorem d_Md_move_64 : decode c_Md_move 64 = .ok (.iadd, 1) := by decide +kernel
theorem d_Md_move_65 : decode c_Md_move 65 = .ok (.aload_n 0, 1) := by decide +kernel
theorem d_Md_move_66 : decode c_Md_move 66 = .ok (.getfield 7, 3) := by decide +kernel
theorem d_Md_move_69 : decode c_Md_move 69 = .ok (.sipush 200, 3) := by decide +kernel
theorem d_Md_move_72 : decode c_Md_move 72 = .ok (.iload 4, 2) := by decide +kernel
theorem d_Md_move_74 : decode c_Md_move 74 = .ok (.iadd, 1) := by decide +kernel
theorem d_Md_move_75 : decode c_Md_move 75 = .ok (.iaload, 1) := by decide +kernel
theorem d_Md_move_76 : decode c_Md_move 76 = .ok (.iastore, 1) := by decide +kernel
theorem d_Md_move_77 : decode c_Md_move 77 = .ok (.iinc 4 1, 3) := by decide +kernel
theorem d_Md_move_80 : decode c_Md_move 80 = .ok (.goto (-32), 3) := by decide +kernel
theorem d_Md_move_83 : decode c_Md_move 83 = .ok (.aload_n 0, 1) := by decide +kernel
theorem d_Md_move_84 : decode c_Md_move 84 = .ok (.iload_n 1, 1) := by decide +kernel
theorem d_Md_move_85 : decode c_Md_move 85 = .ok (.iconst 3, 1) := by decide +kernel
theorem d_Md_move_86 : decode c_Md_move 86 = .ok (.if_icmp .ne 10, 3) := by decide +kernel
theorem d_Md_move_89 : decode c_Md_move 89 = .ok (.aload_n 0, 1) := by decide +kernel
theorem d_Md_move_90 : decode c_Md_move 90 = .ok (.getfield 70, 3) := by decide +kernel
theorem d_Md_move_93 : decode c_Md_move 93 = .ok (.goto 7, 3) := by decide +kernel
theorem d_Md_move_96 : decode c_Md_move 96 = .ok (.aload_n 0, 1) := by decide +kernel
theorem d_Md_move_97 : decode c_Md_move 97 = .ok (.getfield 67, 3) := by decide +kernel
theorem d_Md_move_100 : decode c_Md_move 100 = .ok (.putfield 67, 3) := by decide +kernel
theorem d_Md_move_103 : decode c_Md_move 103 = .ok (.iconst 1, 1) := by decide +kernel
theorem d_Md_move_104 : decode c_Md_move 104 = .ok (.ireturn, 1) := by decide +kernel
set_option maxRecDepth 100000 in
set_option maxHeartbeats 4000000 in
/-- move -/
theorem m_Md_move (l : Launch) (G : wG) (A : Nat → Prop) (ad : Nat → Nat) (ev : Nat → va_E) (x : Int32) (Bf : Nat → Nat → Nat) (tl ol cd : Nat) (hMD : MD G ad ev Bf tl ol cd) : wM l y_Md_move w_Md_move ({ frames := 3, cells := 0, slots := 0, locals := 100 }) G A 52 ad ev [.ref (ad 37), .int (x)] (fun ov ev' => ∃ (ans : Int32) (Bf' : Nat → Nat → Nat) (tl' : Nat), ov = some (.int ans) ∧ spMove x Bf tl ol ans Bf' tl' ∧ MD G ad ev' Bf' tl' ol 0 ∧ ∀ j, j < 37 ∨ 50 < j → ev' j = ev j) := by
  refine wv_ofW (cc := c_Md_move) (maxL := 5) (ret := (Option.some FieldType.boolean)) (by decide) rfl (Nat.le_of_ble_eq_true rfl) ?_
  intro p e s m below meth c ls hx hb hr hml hts hown hlocks hini h hl
  have hl : lv_has ls 5 [(0, .ref (ad 37)), (1, .int (x))] := hl
  obtain ⟨g37, ⟨FF, hFB, g38⟩, ⟨x39, g39⟩, ⟨x40, g40⟩, ⟨x41, g41⟩, ⟨x42, g42⟩, ⟨x43, g43⟩, ⟨x44, g44⟩, ⟨x45, g45⟩, ⟨x46, g46⟩, ⟨x47, g47⟩, ⟨x48, g48⟩, ⟨x49, g49⟩, ⟨x50, b50, g50⟩, hB, htl, hol⟩ := hMD
  refine lv_aload_n hx hb d_Md_move_0 rfl (lv_at hl 0 rfl) ?_
  refine lv_iconst (v := nI (0)) hx hb d_Md_move_1 (by decide) ?_
  refine wv_putf hx hb h 37 (by decide) (fs := [.ref (ad 38), .int (nI (tl)), .int (nI (ol)), .int (nI (cd)), .ref (ad 39), .ref (ad 40), .ref (ad 41), .ref (ad 42), .ref (ad 43), .ref (ad 44), .ref (ad 45), .ref (ad 46), .ref (ad 47), .ref (ad 48), .ref (ad 49), .ref (ad 50)]) g37 hts (fun w hw => List.mem_cons_of_mem _ (fW_Md w hw)) fY_Md fK_Md fN_Md hown (ci := 5) (C := "NonceBoxModel") (T := fT_Md) (N := 16) rfl 3 (by decide) (hts _ (List.mem_cons_of_mem _ kf_Md_50)) rfl rfl (v := .int (nI (0))) rfl rfl (Nat.le_of_ble_eq_true rfl) d_Md_move_2 (fun H locs h => ?_)
  have h : wT G A 52 ad (va_up ev 37 (eO 5 [.ref (ad 38), .int (nI (tl)), .int (nI (ol)), .int (nI (0)), .ref (ad 39), .ref (ad 40), .ref (ad 41), .ref (ad 42), .ref (ad 43), .ref (ad 44), .ref (ad 45), .ref (ad 46), .ref (ad 47), .ref (ad 48), .ref (ad 49), .ref (ad 50)])) s H locs := h
  obtain ⟨ev1, o1⟩ : ∃ z, z = va_up ev 37 (eO 5 [.ref (ad 38), .int (nI (tl)), .int (nI (ol)), .int (nI (0)), .ref (ad 39), .ref (ad 40), .ref (ad 41), .ref (ad 42), .ref (ad 43), .ref (ad 44), .ref (ad 45), .ref (ad 46), .ref (ad 47), .ref (ad 48), .ref (ad 49), .ref (ad 50)]) := ⟨_, rfl⟩
  rw [← o1] at h
  have t1_37 : ev1 37 = eO 5 [.ref (ad 38), .int (nI (tl)), .int (nI (ol)), .int (nI (0)), .ref (ad 39), .ref (ad 40), .ref (ad 41), .ref (ad 42), .ref (ad 43), .ref (ad 44), .ref (ad 45), .ref (ad 46), .ref (ad 47), .ref (ad 48), .ref (ad 49), .ref (ad 50)] := by rw [o1, va_up_self]
  have t1_38 := (show ev1 38 = ev 38 by rw [o1, va_up_ne _ _ (by decide)]).trans g38
  have t1_39 := (show ev1 39 = ev 39 by rw [o1, va_up_ne _ _ (by decide)]).trans g39
  have t1_40 := (show ev1 40 = ev 40 by rw [o1, va_up_ne _ _ (by decide)]).trans g40
  have t1_41 := (show ev1 41 = ev 41 by rw [o1, va_up_ne _ _ (by decide)]).trans g41
  have t1_42 := (show ev1 42 = ev 42 by rw [o1, va_up_ne _ _ (by decide)]).trans g42
  have t1_43 := (show ev1 43 = ev 43 by rw [o1, va_up_ne _ _ (by decide)]).trans g43
  have t1_44 := (show ev1 44 = ev 44 by rw [o1, va_up_ne _ _ (by decide)]).trans g44
  have t1_45 := (show ev1 45 = ev 45 by rw [o1, va_up_ne _ _ (by decide)]).trans g45
  have t1_46 := (show ev1 46 = ev 46 by rw [o1, va_up_ne _ _ (by decide)]).trans g46
  have t1_47 := (show ev1 47 = ev 47 by rw [o1, va_up_ne _ _ (by decide)]).trans g47
  have t1_48 := (show ev1 48 = ev 48 by rw [o1, va_up_ne _ _ (by decide)]).trans g48
  have t1_49 := (show ev1 49 = ev 49 by rw [o1, va_up_ne _ _ (by decide)]).trans g49
  have t1_50 := (show ev1 50 = ev 50 by rw [o1, va_up_ne _ _ (by decide)]).trans g50
  refine lv_iload_n hx hb d_Md_move_5 rfl (lv_at hl 1 rfl) ?_
  refine lv_iconst (v := nI (3)) hx hb d_Md_move_6 (by decide) ?_
  refine lv_icmp_eq (tgt := 28) hx hb d_Md_move_7 (by decide) (fun hc3 => ?_) (fun hc3 => ?_)
  · subst hc3
    refine lv_iconst (v := nI (1)) hx hb d_Md_move_28 (by decide) ?_
    refine lv_goto (tgt := 33) hx hb d_Md_move_29 (by decide) ?_
    refine lv_istore_n (lv' := [(2, .int (nI (1))), (0, .ref (ad 37)), (1, .int (nI (3)))]) hx hb d_Md_move_33 rfl hl (by decide) rfl (fun ls hl => ?_)
    refine lv_iload_n hx hb d_Md_move_34 rfl (lv_at hl 0 rfl) ?_
    refine lv_if_ne (tgt := 40) hx hb d_Md_move_35 (by decide) (fun _ => ?_) (fun hc => absurd hc (by decide))
    refine lv_iload_n hx hb d_Md_move_40 rfl (lv_at hl 2 rfl) ?_
    refine wv_Sx (As := [.int (nI (3))]) (rest := []) (k := 1) ⟨hx, hb, hml, hown, hts⟩ h (m_Md_begin l G A ad ev1 3 (by decide)) kc_Md_begin kl_Md_62 ks_Md_begin ki_Md (by decide +kernel) ⟨rfl, rfl, Nat.le_of_ble_eq_true rfl, Nat.le_of_ble_eq_true rfl⟩ hl.1 rfl rfl (Nat.le_of_ble_eq_true rfl) ⟨Nat.le_refl _, Nat.le_refl _⟩ d_Md_move_41 ?_
    intro ov ev2 H locs hp h
    rw [hp.1]
    refine W.eq (g2 := F0 m 44 ls [.int (nI (bgn 3))]) rfl ?_
    rw [hp.2] at h
    refine wv_top (w := nI (88)) (by decide) ?_
    refine lv_istore_n (lv' := [(3, .int (nI (88))), (2, .int (nI (1))), (0, .ref (ad 37)), (1, .int (nI (3)))]) hx hb d_Md_move_44 rfl hl (by decide) rfl (fun ls hl => ?_)
    refine lv_iconst (v := nI (0)) hx hb d_Md_move_45 (by decide) ?_
    refine lv_istore (lv' := [(4, .int (nI (0))), (3, .int (nI (88))), (2, .int (nI (1))), (0, .ref (ad 37)), (1, .int (nI (3)))]) hx hb d_Md_move_46 hl (by decide) rfl (fun ls hl => ?_)
    have loop2 : ∀ (d t0 : Nat), t0 + d = ol →  ∀ (ev2 : Nat → va_E) (H : Heap) (locs : List Loc) (ls : Array Slot), ev2 = (va_up ev1 38 (eI G 312 (ns (fil 88 t0 (fun i => FF (200 + i)) FF)))) → wT G A 52 ad ev2 s H locs → lv_has ls 5 [(4, .int (nI (t0))), (3, .int (nI (88))), (2, .int (nI (1))), (0, .ref (ad 37)), (1, .int (nI (3)))] → W p l e ({ frames := 3, cells := 0, slots := 0, locals := 100 }) s m ([.ref (ad 37), .int (nI 3)] : List Value).toArray below meth c H locs 0 0 (MQ below (wQc G A 52 ad (fun ov ev' => ∃ (ans : Int32) (Bf' : Nat → Nat → Nat) (tl' : Nat), ov = some (.int ans) ∧ spMove (nI 3) Bf tl ol ans Bf' tl' ∧ MD G ad ev' Bf' tl' ol 0 ∧ ∀ j, j < 37 ∨ 50 < j → ev' j = ev j)) ([.ref (ad 37), .int (nI 3)] : List Value).toArray s 0 0 A) (F0 m 48 ls []) := by
      intro d
      induction d with
      | zero =>
        intro t0 hk_t0  ev2 H locs ls  o2 h hl
        have t2_38 : ev2 38 = eI G 312 (ns (fil 88 t0 (fun i => FF (200 + i)) FF)) := by rw [o2, va_up_self]
        have t2_39 := (show ev2 39 = ev1 39 by rw [o2, va_up_ne _ _ (by decide)]).trans t1_39
        have t2_40 := (show ev2 40 = ev1 40 by rw [o2, va_up_ne _ _ (by decide)]).trans t1_40
        have t2_41 := (show ev2 41 = ev1 41 by rw [o2, va_up_ne _ _ (by decide)]).trans t1_41
        have t2_42 := (show ev2 42 = ev1 42 by rw [o2, va_up_ne _ _ (by decide)]).trans t1_42
        have t2_43 := (show ev2 43 = ev1 43 by rw [o2, va_up_ne _ _ (by decide)]).trans t1_43
        have t2_44 := (show ev2 44 = ev1 44 by rw [o2, va_up_ne _ _ (by decide)]).trans t1_44
        have t2_45 := (show ev2 45 = ev1 45 by rw [o2, va_up_ne _ _ (by decide)]).trans t1_45
        have t2_46 := (show ev2 46 = ev1 46 by rw [o2, va_up_ne _ _ (by decide)]).trans t1_46
        have t2_47 := (show ev2 47 = ev1 47 by rw [o2, va_up_ne _ _ (by decide)]).trans t1_47
        have t2_48 := (show ev2 48 = ev1 48 by rw [o2, va_up_ne _ _ (by decide)]).trans t1_48
        have t2_49 := (show ev2 49 = ev1 49 by rw [o2, va_up_ne _ _ (by decide)]).trans t1_49
        have t2_50 := (show ev2 50 = ev1 50 by rw [o2, va_up_ne _ _ (by decide)]).trans t1_50
        have t2_37 := (show ev2 37 = ev1 37 by rw [o2, va_up_ne _ _ (by decide)]).trans t1_37
        refine lv_iload hx hb d_Md_move_48 (lv_at hl 0 rfl) ?_
        refine lv_aload_n hx hb d_Md_move_50 rfl (lv_at hl 3 rfl) ?_
        refine wv_getf hx hb h 37 (by decide) (fs := [.ref (ad 38), .int (nI (tl)), .int (nI (ol)), .int (nI (0)), .ref (ad 39), .ref (ad 40), .ref (ad 41), .ref (ad 42), .ref (ad 43), .ref (ad 44), .ref (ad 45), .ref (ad 46), .ref (ad 47), .ref (ad 48), .ref (ad 49), .ref (ad 50)]) t2_37 hts (fun w hw => List.mem_cons_of_mem _ (fW_Md w hw)) hown (ci := 5) (C := "NonceBoxModel") (T := fT_Md) (N := 16) rfl 2 (by decide) (hts _ (List.mem_cons_of_mem _ kf_Md_70)) rfl (v := .int (nI (ol))) rfl d_Md_move_51 ?_
        refine lv_icmp_ge (tgt := 83) hx hb d_Md_move_54 (by decide) (fun _ => ?_) (fun hc => absurd ((nI_leI (by omega) (by omega)).mpr (by omega)) hc)
        have et : t0 = ol := by omega
        rw [et] at t2_38
        refine lv_aload_n hx hb d_Md_move_83 rfl (lv_at hl 3 rfl) ?_
        refine lv_iload_n hx hb d_Md_move_84 rfl (lv_at hl 4 rfl) ?_
        refine lv_iconst (v := nI (3)) hx hb d_Md_move_85 (by decide) ?_
        refine lv_icmp_ne (tgt := 96) hx hb d_Md_move_86 (by decide) (fun hc => absurd rfl hc) (fun _ => ?_)
        refine lv_aload_n hx hb d_Md_move_89 rfl (lv_at hl 3 rfl) ?_
        refine wv_getf hx hb h 37 (by decide) (fs := [.ref (ad 38), .int (nI (tl)), .int (nI (ol)), .int (nI (0)), .ref (ad 39), .ref (ad 40), .ref (ad 41), .ref (ad 42), .ref (ad 43), .ref (ad 44), .ref (ad 45), .ref (ad 46), .ref (ad 47), .ref (ad 48), .ref (ad 49), .ref (ad 50)]) t2_37 hts (fun w hw => List.mem_cons_of_mem _ (fW_Md w hw)) hown (ci := 5) (C := "NonceBoxModel") (T := fT_Md) (N := 16) rfl 2 (by decide) (hts _ (List.mem_cons_of_mem _ kf_Md_70)) rfl (v := .int (nI (ol))) rfl d_Md_move_90 ?_
        refine lv_goto (tgt := 100) hx hb d_Md_move_93 (by decide) ?_
        refine wv_putf hx hb h 37 (by decide) (fs := [.ref (ad 38), .int (nI (tl)), .int (nI (ol)), .int (nI (0)), .ref (ad 39), .ref (ad 40), .ref (ad 41), .ref (ad 42), .ref (ad 43), .ref (ad 44), .ref (ad 45), .ref (ad 46), .ref (ad 47), .ref (ad 48), .ref (ad 49), .ref (ad 50)]) t2_37 hts (fun w hw => List.mem_cons_of_mem _ (fW_Md w hw)) fY_Md fK_Md fN_Md hown (ci := 5) (C := "NonceBoxModel") (T := fT_Md) (N := 16) rfl 1 (by decide) (hts _ (List.mem_cons_of_mem _ kf_Md_67)) rfl rfl (v := .int (nI (ol))) rfl rfl (Nat.le_of_ble_eq_true rfl) d_Md_move_100 (fun H locs h => ?_)
        have h : wT G A 52 ad (va_up ev2 37 (eO 5 [.ref (ad 38), .int (nI (ol)), .int (nI (ol)), .int (nI (0)), .ref (ad 39), .ref (ad 40), .ref (ad 41), .ref (ad 42), .ref (ad 43), .ref (ad 44), .ref (ad 45), .ref (ad 46), .ref (ad 47), .ref (ad 48), .ref (ad 49), .ref (ad 50)])) s H locs := h
        obtain ⟨ev3, o3⟩ : ∃ z, z = va_up ev2 37 (eO 5 [.ref (ad 38), .int (nI (ol)), .int (nI (ol)), .int (nI (0)), .ref (ad 39), .ref (ad 40), .ref (ad 41), .ref (ad 42), .ref (ad 43), .ref (ad 44), .ref (ad 45), .ref (ad 46), .ref (ad 47), .ref (ad 48), .ref (ad 49), .ref (ad 50)]) := ⟨_, rfl⟩
        rw [← o3] at h
        have t3_37 : ev3 37 = eO 5 [.ref (ad 38), .int (nI (ol)), .int (nI (ol)), .int (nI (0)), .ref (ad 39), .ref (ad 40), .ref (ad 41), .ref (ad 42), .ref (ad 43), .ref (ad 44), .ref (ad 45), .ref (ad 46), .ref (ad 47), .ref (ad 48), .ref (ad 49), .ref (ad 50)] := by rw [o3, va_up_self]
        have t3_38 := (show ev3 38 = ev2 38 by rw [o3, va_up_ne _ _ (by decide)]).trans t2_38
        have t3_39 := (show ev3 39 = ev2 39 by rw [o3, va_up_ne _ _ (by decide)]).trans t2_39
        have t3_40 := (show ev3 40 = ev2 40 by rw [o3, va_up_ne _ _ (by decide)]).trans t2_40
        have t3_41 := (show ev3 41 = ev2 41 by rw [o3, va_up_ne _ _ (by decide)]).trans t2_41
        have t3_42 := (show ev3 42 = ev2 42 by rw [o3, va_up_ne _ _ (by decide)]).trans t2_42
        have t3_43 := (show ev3 43 = ev2 43 by rw [o3, va_up_ne _ _ (by decide)]).trans t2_43
        have t3_44 := (show ev3 44 = ev2 44 by rw [o3, va_up_ne _ _ (by decide)]).trans t2_44
        have t3_45 := (show ev3 45 = ev2 45 by rw [o3, va_up_ne _ _ (by decide)]).trans t2_45
        have t3_46 := (show ev3 46 = ev2 46 by rw [o3, va_up_ne _ _ (by decide)]).trans t2_46
        have t3_47 := (show ev3 47 = ev2 47 by rw [o3, va_up_ne _ _ (by decide)]).trans t2_47
        have t3_48 := (show ev3 48 = ev2 48 by rw [o3, va_up_ne _ _ (by decide)]).trans t2_48
        have t3_49 := (show ev3 49 = ev2 49 by rw [o3, va_up_ne _ _ (by decide)]).trans t2_49
        have t3_50 := (show ev3 50 = ev2 50 by rw [o3, va_up_ne _ _ (by decide)]).trans t2_50
        refine lv_iconst (v := nI (1)) hx hb d_Md_move_103 (by decide) ?_
        have hFB2 : FB (fil 88 ol (fun i => FF (200 + i)) FF) (va_up Bf 3 (fil 0 ol (Bf 4) (Bf 3))) := by
          have h1 := FB_fil (X := Bf 4) hFB (b := 3) (o := 0) (n := ol) (by decide) (by show 0 + ol ≤ 112; omega)
          have h2 : fil (bgn 3 + 0) ol (Bf 4) FF = (fil 88 ol (fun i => FF (200 + i)) FF) := by
            funext j
            show fil 88 ol (Bf 4) FF j = _
            unfold fil
            by_cases q : 88 ≤ j ∧ j < 88 + ol
            · rw [if_pos q, if_pos q]
              exact (hFB 4 (by decide) (j - 88) (by show j - 88 < 112; omega)).symm
            · rw [if_neg q, if_neg q]
          rw [h2] at h1
          exact h1
        exact wv_zret hx hb hr hlocks h d_Md_move_104 rfl ⟨_, _, _, rfl, Or.inl ⟨rfl, rfl, rfl, rfl⟩, ⟨t3_37, ⟨_, hFB2, t3_38⟩, ⟨_, t3_39⟩, ⟨_, t3_40⟩, ⟨_, t3_41⟩, ⟨_, t3_42⟩, ⟨_, t3_43⟩, ⟨_, t3_44⟩, ⟨_, t3_45⟩, ⟨_, t3_46⟩, ⟨_, t3_47⟩, ⟨_, t3_48⟩, ⟨_, t3_49⟩, ⟨_, b50, t3_50⟩, Bf_lt hB (fil_lt (hB 4) (hB 3)) 3, hol, hol⟩, (fun j hj => by rw [o3, va_up_ne _ _ (by omega), o2, va_up_ne _ _ (by omega), o1, va_up_ne _ _ (by omega)])⟩
      | succ d ih =>
        intro t0 hk_t0  ev2 H locs ls  o2 h hl
        have t2_38 : ev2 38 = eI G 312 (ns (fil 88 t0 (fun i => FF (200 + i)) FF)) := by rw [o2, va_up_self]
        have t2_39 := (show ev2 39 = ev1 39 by rw [o2, va_up_ne _ _ (by decide)]).trans t1_39
        have t2_40 := (show ev2 40 = ev1 40 by rw [o2, va_up_ne _ _ (by decide)]).trans t1_40
        have t2_41 := (show ev2 41 = ev1 41 by rw [o2, va_up_ne _ _ (by decide)]).trans t1_41
        have t2_42 := (show ev2 42 = ev1 42 by rw [o2, va_up_ne _ _ (by decide)]).trans t1_42
        have t2_43 := (show ev2 43 = ev1 43 by rw [o2, va_up_ne _ _ (by decide)]).trans t1_43
        have t2_44 := (show ev2 44 = ev1 44 by rw [o2, va_up_ne _ _ (by decide)]).trans t1_44
        have t2_45 := (show ev2 45 = ev1 45 by rw [o2, va_up_ne _ _ (by decide)]).trans t1_45
        have t2_46 := (show ev2 46 = ev1 46 by rw [o2, va_up_ne _ _ (by decide)]).trans t1_46
        have t2_47 := (show ev2 47 = ev1 47 by rw [o2, va_up_ne _ _ (by decide)]).trans t1_47
        have t2_48 := (show ev2 48 = ev1 48 by rw [o2, va_up_ne _ _ (by decide)]).trans t1_48
        have t2_49 := (show ev2 49 = ev1 49 by rw [o2, va_up_ne _ _ (by decide)]).trans t1_49
        have t2_50 := (show ev2 50 = ev1 50 by rw [o2, va_up_ne _ _ (by decide)]).trans t1_50
        have t2_37 := (show ev2 37 = ev1 37 by rw [o2, va_up_ne _ _ (by decide)]).trans t1_37
        refine lv_iload hx hb d_Md_move_48 (lv_at hl 0 rfl) ?_
        refine lv_aload_n hx hb d_Md_move_50 rfl (lv_at hl 3 rfl) ?_
        refine wv_getf hx hb h 37 (by decide) (fs := [.ref (ad 38), .int (nI (tl)), .int (nI (ol)), .int (nI (0)), .ref (ad 39), .ref (ad 40), .ref (ad 41), .ref (ad 42), .ref (ad 43), .ref (ad 44), .ref (ad 45), .ref (ad 46), .ref (ad 47), .ref (ad 48), .ref (ad 49), .ref (ad 50)]) t2_37 hts (fun w hw => List.mem_cons_of_mem _ (fW_Md w hw)) hown (ci := 5) (C := "NonceBoxModel") (T := fT_Md) (N := 16) rfl 2 (by decide) (hts _ (List.mem_cons_of_mem _ kf_Md_70)) rfl (v := .int (nI (ol))) rfl d_Md_move_51 ?_
        refine lv_icmp_ge (tgt := 83) hx hb d_Md_move_54 (by decide) (fun hc => absurd ((nI_leI (by omega) (by omega)).mp hc) (by omega)) (fun _ => ?_)
        refine lv_aload_n hx hb d_Md_move_57 rfl (lv_at hl 3 rfl) ?_
        refine wv_getf hx hb h 37 (by decide) (fs := [.ref (ad 38), .int (nI (tl)), .int (nI (ol)), .int (nI (0)), .ref (ad 39), .ref (ad 40), .ref (ad 41), .ref (ad 42), .ref (ad 43), .ref (ad 44), .ref (ad 45), .ref (ad 46), .ref (ad 47), .ref (ad 48), .ref (ad 49), .ref (ad 50)]) t2_37 hts (fun w hw => List.mem_cons_of_mem _ (fW_Md w hw)) hown (ci := 5) (C := "NonceBoxModel") (T := fT_Md) (N := 16) rfl 0 (by decide) (hts _ (List.mem_cons_of_mem _ kf_Md_7)) rfl (v := .ref (ad 38)) rfl d_Md_move_58 ?_
        refine lv_iload_n hx hb d_Md_move_61 rfl (lv_at hl 1 rfl) ?_
        refine lv_iload hx hb d_Md_move_62 (lv_at hl 0 rfl) ?_
        refine lv_iadd hx hb d_Md_move_64 ?_
        refine wv_top (w := nI (88 + t0)) (nI_add _ _) ?_
        refine lv_aload_n hx hb d_Md_move_65 rfl (lv_at hl 3 rfl) ?_
        refine wv_getf hx hb h 37 (by decide) (fs := [.ref (ad 38), .int (nI (tl)), .int (nI (ol)), .int (nI (0)), .ref (ad 39), .ref (ad 40), .ref (ad 41), .ref (ad 42), .ref (ad 43), .ref (ad 44), .ref (ad 45), .ref (ad 46), .ref (ad 47), .ref (ad 48), .ref (ad 49), .ref (ad 50)]) t2_37 hts (fun w hw => List.mem_cons_of_mem _ (fW_Md w hw)) hown (ci := 5) (C := "NonceBoxModel") (T := fT_Md) (N := 16) rfl 0 (by decide) (hts _ (List.mem_cons_of_mem _ kf_Md_7)) rfl (v := .ref (ad 38)) rfl d_Md_move_66 ?_
        refine lv_sipush (v := nI (200)) hx hb d_Md_move_69 (by decide) ?_
        refine lv_iload hx hb d_Md_move_72 (lv_at hl 0 rfl) ?_
        refine lv_iadd hx hb d_Md_move_74 ?_
        refine wv_top (w := nI (200 + t0)) (nI_add _ _) ?_
        refine wv_iald hx hb h 38 (by decide) (f := (ns (fil 88 t0 (fun i => FF (200 + i)) FF))) t2_38 (k := 200 + t0) rfl (by omega) (by decide) d_Md_move_75 ?_
        refine wv_top (w := nI (FF (200 + t0))) (by unfold ns; rw [fil_out (Or.inr (by omega))]) ?_
        refine wv_iast hx hb h 38 (by decide) (f := (ns (fil 88 t0 (fun i => FF (200 + i)) FF))) t2_38 (k := 88 + t0) rfl (by omega) (by decide) d_Md_move_76 (fun H locs h => ?_)
        obtain ⟨ev3, o3⟩ : ∃ z, z = va_up ev2 38 (eI G 312 (va_up ((ns (fil 88 t0 (fun i => FF (200 + i)) FF))) (88 + t0) (nI (FF (200 + t0))))) := ⟨_, rfl⟩
        rw [← o3] at h
        have t3_38 : ev3 38 = eI G 312 (va_up ((ns (fil 88 t0 (fun i => FF (200 + i)) FF))) (88 + t0) (nI (FF (200 + t0)))) := by rw [o3, va_up_self]
        have t3_39 := (show ev3 39 = ev2 39 by rw [o3, va_up_ne _ _ (by decide)]).trans t2_39
        have t3_40 := (show ev3 40 = ev2 40 by rw [o3, va_up_ne _ _ (by decide)]).trans t2_40
        have t3_41 := (show ev3 41 = ev2 41 by rw [o3, va_up_ne _ _ (by decide)]).trans t2_41
        have t3_42 := (show ev3 42 = ev2 42 by rw [o3, va_up_ne _ _ (by decide)]).trans t2_42
        have t3_43 := (show ev3 43 = ev2 43 by rw [o3, va_up_ne _ _ (by decide)]).trans t2_43
        have t3_44 := (show ev3 44 = ev2 44 by rw [o3, va_up_ne _ _ (by decide)]).trans t2_44
        have t3_45 := (show ev3 45 = ev2 45 by rw [o3, va_up_ne _ _ (by decide)]).trans t2_45
        have t3_46 := (show ev3 46 = ev2 46 by rw [o3, va_up_ne _ _ (by decide)]).trans t2_46
        have t3_47 := (show ev3 47 = ev2 47 by rw [o3, va_up_ne _ _ (by decide)]).trans t2_47
        have t3_48 := (show ev3 48 = ev2 48 by rw [o3, va_up_ne _ _ (by decide)]).trans t2_48
        have t3_49 := (show ev3 49 = ev2 49 by rw [o3, va_up_ne _ _ (by decide)]).trans t2_49
        have t3_50 := (show ev3 50 = ev2 50 by rw [o3, va_up_ne _ _ (by decide)]).trans t2_50
        have t3_37 := (show ev3 37 = ev2 37 by rw [o3, va_up_ne _ _ (by decide)]).trans t2_37
        rw [ns_up _ _ (FF (200 + t0)) rfl, fil_s 88 t0 (fun i => FF (200 + i)) FF rfl] at o3
        refine lv_iinc (v := nI (t0 + 1)) (lv' := [(4, .int (nI (t0 + 1))), (3, .int (nI (88))), (2, .int (nI (1))), (0, .ref (ad 37)), (1, .int (nI (3)))]) hx hb d_Md_move_77 hl (k := 0) rfl (nI_add _ _) (by decide) rfl (fun ls hl => ?_)
        refine lv_goto (tgt := 48) hx hb d_Md_move_80 (by decide) ?_
        refine ih (t0 + 1) (by omega) ev3 H locs ls ?_ h (lv_sub hl [0, 1, 2, 3, 4] rfl)
        rw [o3, o2, va_up2]
    exact loop2 ol 0 (by omega) ev1 H locs ls (by rw [fil_0, va_upi _ _ t1_38]) h (lv_sub hl [0, 1, 2, 3, 4] rfl)
  · skip
    refine lv_iload_n hx hb d_Md_move_10 rfl (lv_at hl 1 rfl) ?_
    refine lv_if_eq (tgt := 19) hx hb d_Md_move_11 (by decide) (fun hc0 => ?_) (fun hc0 => ?_)
    · obtain rfl : x = nI 0 := hc0
      refine lv_aload_n hx hb d_Md_move_19 rfl (lv_at hl 0 rfl) ?_
      refine wv_getf hx hb h 37 (by decide) (fs := [.ref (ad 38), .int (nI (tl)), .int (nI (ol)), .int (nI (0)), .ref (ad 39), .ref (ad 40), .ref (ad 41), .ref (ad 42), .ref (ad 43), .ref (ad 44), .ref (ad 45), .ref (ad 46), .ref (ad 47), .ref (ad 48), .ref (ad 49), .ref (ad 50)]) t1_37 hts (fun w hw => List.mem_cons_of_mem _ (fW_Md w hw)) hown (ci := 5) (C := "NonceBoxModel") (T := fT_Md) (N := 16) rfl 2 (by decide) (hts _ (List.mem_cons_of_mem _ kf_Md_70)) rfl (v := .int (nI (ol))) rfl d_Md_move_20 ?_
      refine lv_bipush (v := nI (32)) hx hb d_Md_move_23 (by decide) ?_
      refine lv_icmp_ne (tgt := 32) hx hb d_Md_move_25 (by decide) (fun hc => ?_) (fun hc => ?_)
      · have ho : ol ≠ 32 := fun e => hc (by rw [e])
        refine lv_iconst (v := nI (0)) hx hb d_Md_move_32 (by decide) ?_
        refine lv_istore_n (lv' := [(2, .int (nI (0))), (0, .ref (ad 37)), (1, .int (nI (0)))]) hx hb d_Md_move_33 rfl hl (by decide) rfl (fun ls hl => ?_)
        refine lv_iload_n hx hb d_Md_move_34 rfl (lv_at hl 0 rfl) ?_
        refine lv_if_ne (tgt := 40) hx hb d_Md_move_35 (by decide) (fun hc => absurd rfl hc) (fun _ => ?_)
        refine lv_iconst (v := nI (0)) hx hb d_Md_move_38 (by decide) ?_
        exact wv_zret hx hb hr hlocks h d_Md_move_39 rfl ⟨_, _, _, rfl, Or.inr (Or.inr ⟨hc3, Or.inl ho, rfl, rfl, rfl⟩), ⟨t1_37, ⟨_, hFB, t1_38⟩, ⟨_, t1_39⟩, ⟨_, t1_40⟩, ⟨_, t1_41⟩, ⟨_, t1_42⟩, ⟨_, t1_43⟩, ⟨_, t1_44⟩, ⟨_, t1_45⟩, ⟨_, t1_46⟩, ⟨_, t1_47⟩, ⟨_, t1_48⟩, ⟨_, t1_49⟩, ⟨_, b50, t1_50⟩, hB, htl, hol⟩, (fun j hj => by rw [o1, va_up_ne _ _ (by omega)])⟩
      · have ho : ol = 32 := (nI_eq (by omega) (by decide)).mp hc
        refine lv_iconst (v := nI (1)) hx hb d_Md_move_28 (by decide) ?_
        refine lv_goto (tgt := 33) hx hb d_Md_move_29 (by decide) ?_
        refine lv_istore_n (lv' := [(2, .int (nI (1))), (0, .ref (ad 37)), (1, .int (nI (0)))]) hx hb d_Md_move_33 rfl hl (by decide) rfl (fun ls hl => ?_)
        refine lv_iload_n hx hb d_Md_move_34 rfl (lv_at hl 0 rfl) ?_
        refine lv_if_ne (tgt := 40) hx hb d_Md_move_35 (by decide) (fun _ => ?_) (fun hc => absurd hc (by decide))
        refine lv_iload_n hx hb d_Md_move_40 rfl (lv_at hl 2 rfl) ?_
        refine wv_Sx (As := [.int (nI (0))]) (rest := []) (k := 1) ⟨hx, hb, hml, hown, hts⟩ h (m_Md_begin l G A ad ev1 0 (by decide)) kc_Md_begin kl_Md_62 ks_Md_begin ki_Md (by decide +kernel) ⟨rfl, rfl, Nat.le_of_ble_eq_true rfl, Nat.le_of_ble_eq_true rfl⟩ hl.1 rfl rfl (Nat.le_of_ble_eq_true rfl) ⟨Nat.le_refl _, Nat.le_refl _⟩ d_Md_move_41 ?_
        intro ov ev2 H locs hp h
        rw [hp.1]
        refine W.eq (g2 := F0 m 44 ls [.int (nI (bgn 0))]) rfl ?_
        rw [hp.2] at h
        refine wv_top (w := nI (0)) (by decide) ?_
        refine lv_istore_n (lv' := [(3, .int (nI (0))), (2, .int (nI (1))), (0, .ref (ad 37)), (1, .int (nI (0)))]) hx hb d_Md_move_44 rfl hl (by decide) rfl (fun ls hl => ?_)
        refine lv_iconst (v := nI (0)) hx hb d_Md_move_45 (by decide) ?_
        refine lv_istore (lv' := [(4, .int (nI (0))), (3, .int (nI (0))), (2, .int (nI (1))), (0, .ref (ad 37)), (1, .int (nI (0)))]) hx hb d_Md_move_46 hl (by decide) rfl (fun ls hl => ?_)
        have loop2 : ∀ (d t0 : Nat), t0 + d = ol →  ∀ (ev2 : Nat → va_E) (H : Heap) (locs : List Loc) (ls : Array Slot), ev2 = (va_up ev1 38 (eI G 312 (ns (fil 0 t0 (fun i => FF (200 + i)) FF)))) → wT G A 52 ad ev2 s H locs → lv_has ls 5 [(4, .int (nI (t0))), (3, .int (nI (0))), (2, .int (nI (1))), (0, .ref (ad 37)), (1, .int (nI (0)))] → W p l e ({ frames := 3, cells := 0, slots := 0, locals := 100 }) s m ([.ref (ad 37), .int (nI 0)] : List Value).toArray below meth c H locs 0 0 (MQ below (wQc G A 52 ad (fun ov ev' => ∃ (ans : Int32) (Bf' : Nat → Nat → Nat) (tl' : Nat), ov = some (.int ans) ∧ spMove (nI 0) Bf tl ol ans Bf' tl' ∧ MD G ad ev' Bf' tl' ol 0 ∧ ∀ j, j < 37 ∨ 50 < j → ev' j = ev j)) ([.ref (ad 37), .int (nI 0)] : List Value).toArray s 0 0 A) (F0 m 48 ls []) := by
          intro d
          induction d with
          | zero =>
            intro t0 hk_t0  ev2 H locs ls  o2 h hl
            have t2_38 : ev2 38 = eI G 312 (ns (fil 0 t0 (fun i => FF (200 + i)) FF)) := by rw [o2, va_up_self]
            have t2_39 := (show ev2 39 = ev1 39 by rw [o2, va_up_ne _ _ (by decide)]).trans t1_39
            have t2_40 := (show ev2 40 = ev1 40 by rw [o2, va_up_ne _ _ (by decide)]).trans t1_40
            have t2_41 := (show ev2 41 = ev1 41 by rw [o2, va_up_ne _ _ (by decide)]).trans t1_41
            have t2_42 := (show ev2 42 = ev1 42 by rw [o2, va_up_ne _ _ (by decide)]).trans t1_42
            have t2_43 := (show ev2 43 = ev1 43 by rw [o2, va_up_ne _ _ (by decide)]).trans t1_43
            have t2_44 := (show ev2 44 = ev1 44 by rw [o2, va_up_ne _ _ (by decide)]).trans t1_44
            have t2_45 := (show ev2 45 = ev1 45 by rw [o2, va_up_ne _ _ (by decide)]).trans t1_45
            have t2_46 := (show ev2 46 = ev1 46 by rw [o2, va_up_ne _ _ (by decide)]).trans t1_46
            have t2_47 := (show ev2 47 = ev1 47 by rw [o2, va_up_ne _ _ (by decide)]).trans t1_47
            have t2_48 := (show ev2 48 = ev1 48 by rw [o2, va_up_ne _ _ (by decide)]).trans t1_48
            have t2_49 := (show ev2 49 = ev1 49 by rw [o2, va_up_ne _ _ (by decide)]).trans t1_49
            have t2_50 := (show ev2 50 = ev1 50 by rw [o2, va_up_ne _ _ (by decide)]).trans t1_50
            have t2_37 := (show ev2 37 = ev1 37 by rw [o2, va_up_ne _ _ (by decide)]).trans t1_37
            refine lv_iload hx hb d_Md_move_48 (lv_at hl 0 rfl) ?_
            refine lv_aload_n hx hb d_Md_move_50 rfl (lv_at hl 3 rfl) ?_
            refine wv_getf hx hb h 37 (by decide) (fs := [.ref (ad 38), .int (nI (tl)), .int (nI (ol)), .int (nI (0)), .ref (ad 39), .ref (ad 40), .ref (ad 41), .ref (ad 42), .ref (ad 43), .ref (ad 44), .ref (ad 45), .ref (ad 46), .ref (ad 47), .ref (ad 48), .ref (ad 49), .ref (ad 50)]) t2_37 hts (fun w hw => List.mem_cons_of_mem _ (fW_Md w hw)) hown (ci := 5) (C := "NonceBoxModel") (T := fT_Md) (N := 16) rfl 2 (by decide) (hts _ (List.mem_cons_of_mem _ kf_Md_70)) rfl (v := .int (nI (ol))) rfl d_Md_move_51 ?_
            refine lv_icmp_ge (tgt := 83) hx hb d_Md_move_54 (by decide) (fun _ => ?_) (fun hc => absurd ((nI_leI (by omega) (by omega)).mpr (by omega)) hc)
            have et : t0 = ol := by omega
            rw [et] at t2_38
            refine lv_aload_n hx hb d_Md_move_83 rfl (lv_at hl 3 rfl) ?_
            refine lv_iload_n hx hb d_Md_move_84 rfl (lv_at hl 4 rfl) ?_
            refine lv_iconst (v := nI (3)) hx hb d_Md_move_85 (by decide) ?_
            refine lv_icmp_ne (tgt := 96) hx hb d_Md_move_86 (by decide) (fun _ => ?_) (fun hc => absurd hc (by decide))
            refine lv_aload_n hx hb d_Md_move_96 rfl (lv_at hl 3 rfl) ?_
            refine wv_getf hx hb h 37 (by decide) (fs := [.ref (ad 38), .int (nI (tl)), .int (nI (ol)), .int (nI (0)), .ref (ad 39), .ref (ad 40), .ref (ad 41), .ref (ad 42), .ref (ad 43), .ref (ad 44), .ref (ad 45), .ref (ad 46), .ref (ad 47), .ref (ad 48), .ref (ad 49), .ref (ad 50)]) t2_37 hts (fun w hw => List.mem_cons_of_mem _ (fW_Md w hw)) hown (ci := 5) (C := "NonceBoxModel") (T := fT_Md) (N := 16) rfl 1 (by decide) (hts _ (List.mem_cons_of_mem _ kf_Md_67)) rfl (v := .int (nI (tl))) rfl d_Md_move_97 ?_
            refine wv_putf hx hb h 37 (by decide) (fs := [.ref (ad 38), .int (nI (tl)), .int (nI (ol)), .int (nI (0)), .ref (ad 39), .ref (ad 40), .ref (ad 41), .ref (ad 42), .ref (ad 43), .ref (ad 44), .ref (ad 45), .ref (ad 46), .ref (ad 47), .ref (ad 48), .ref (ad 49), .ref (ad 50)]) t2_37 hts (fun w hw => List.mem_cons_of_mem _ (fW_Md w hw)) fY_Md fK_Md fN_Md hown (ci := 5) (C := "NonceBoxModel") (T := fT_Md) (N := 16) rfl 1 (by decide) (hts _ (List.mem_cons_of_mem _ kf_Md_67)) rfl rfl (v := .int (nI (tl))) rfl rfl (Nat.le_of_ble_eq_true rfl) d_Md_move_100 (fun H locs h => ?_)
            have h : wT G A 52 ad (va_up ev2 37 (eO 5 [.ref (ad 38), .int (nI (tl)), .int (nI (ol)), .int (nI (0)), .ref (ad 39), .ref (ad 40), .ref (ad 41), .ref (ad 42), .ref (ad 43), .ref (ad 44), .ref (ad 45), .ref (ad 46), .ref (ad 47), .ref (ad 48), .ref (ad 49), .ref (ad 50)])) s H locs := h
            obtain ⟨ev3, o3⟩ : ∃ z, z = va_up ev2 37 (eO 5 [.ref (ad 38), .int (nI (tl)), .int (nI (ol)), .int (nI (0)), .ref (ad 39), .ref (ad 40), .ref (ad 41), .ref (ad 42), .ref (ad 43), .ref (ad 44), .ref (ad 45), .ref (ad 46), .ref (ad 47), .ref (ad 48), .ref (ad 49), .ref (ad 50)]) := ⟨_, rfl⟩
            rw [← o3] at h
            have t3_37 : ev3 37 = eO 5 [.ref (ad 38), .int (nI (tl)), .int (nI (ol)), .int (nI (0)), .ref (ad 39), .ref (ad 40), .ref (ad 41), .ref (ad 42), .ref (ad 43), .ref (ad 44), .ref (ad 45), .ref (ad 46), .ref (ad 47), .ref (ad 48), .ref (ad 49), .ref (ad 50)] := by rw [o3, va_up_self]
            have t3_38 := (show ev3 38 = ev2 38 by rw [o3, va_up_ne _ _ (by decide)]).trans t2_38
            have t3_39 := (show ev3 39 = ev2 39 by rw [o3, va_up_ne _ _ (by decide)]).trans t2_39
            have t3_40 := (show ev3 40 = ev2 40 by rw [o3, va_up_ne _ _ (by decide)]).trans t2_40
            have t3_41 := (show ev3 41 = ev2 41 by rw [o3, va_up_ne _ _ (by decide)]).trans t2_41
            have t3_42 := (show ev3 42 = ev2 42 by rw [o3, va_up_ne _ _ (by decide)]).trans t2_42
            have t3_43 := (show ev3 43 = ev2 43 by rw [o3, va_up_ne _ _ (by decide)]).trans t2_43
            have t3_44 := (show ev3 44 = ev2 44 by rw [o3, va_up_ne _ _ (by decide)]).trans t2_44
            have t3_45 := (show ev3 45 = ev2 45 by rw [o3, va_up_ne _ _ (by decide)]).trans t2_45
            have t3_46 := (show ev3 46 = ev2 46 by rw [o3, va_up_ne _ _ (by decide)]).trans t2_46
            have t3_47 := (show ev3 47 = ev2 47 by rw [o3, va_up_ne _ _ (by decide)]).trans t2_47
            have t3_48 := (show ev3 48 = ev2 48 by rw [o3, va_up_ne _ _ (by decide)]).trans t2_48
            have t3_49 := (show ev3 49 = ev2 49 by rw [o3, va_up_ne _ _ (by decide)]).trans t2_49
            have t3_50 := (show ev3 50 = ev2 50 by rw [o3, va_up_ne _ _ (by decide)]).trans t2_50
            refine lv_iconst (v := nI (1)) hx hb d_Md_move_103 (by decide) ?_
            have hFB2 : FB (fil 0 ol (fun i => FF (200 + i)) FF) (va_up Bf 0 (fil 0 32 (Bf 4) (Bf 0))) := by
              have h1 := FB_fil (X := Bf 4) hFB (b := 0) (o := 0) (n := 32) (by decide) (by show 0 + 32 ≤ 32; omega)
              have h2 : fil (bgn 0 + 0) 32 (Bf 4) FF = (fil 0 ol (fun i => FF (200 + i)) FF) := by
                funext j
                show fil 0 32 (Bf 4) FF j = _
                unfold fil
                by_cases q : 0 ≤ j ∧ j < 0 + ol
                · rw [if_pos (by omega), if_pos q]
                  exact (hFB 4 (by decide) (j - 0) (by show j - 0 < 112; omega)).symm
                · rw [if_neg (by omega), if_neg q]
              rw [h2] at h1
              exact h1
            exact wv_zret hx hb hr hlocks h d_Md_move_104 rfl ⟨_, _, _, rfl, Or.inr (Or.inl ⟨ho, ⟨0, by decide, rfl, rfl, rfl⟩, rfl⟩), ⟨t3_37, ⟨_, hFB2, t3_38⟩, ⟨_, t3_39⟩, ⟨_, t3_40⟩, ⟨_, t3_41⟩, ⟨_, t3_42⟩, ⟨_, t3_43⟩, ⟨_, t3_44⟩, ⟨_, t3_45⟩, ⟨_, t3_46⟩, ⟨_, t3_47⟩, ⟨_, t3_48⟩, ⟨_, t3_49⟩, ⟨_, b50, t3_50⟩, Bf_lt hB (fil_lt (hB 4) (hB 0)) 0, htl, hol⟩, (fun j hj => by rw [o3, va_up_ne _ _ (by omega), o2, va_up_ne _ _ (by omega), o1, va_up_ne _ _ (by omega)])⟩
          | succ d ih =>
            intro t0 hk_t0  ev2 H locs ls  o2 h hl
            have t2_38 : ev2 38 = eI G 312 (ns (fil 0 t0 (fun i => FF (200 + i)) FF)) := by rw [o2, va_up_self]
            have t2_39 := (show ev2 39 = ev1 39 by rw [o2, va_up_ne _ _ (by decide)]).trans t1_39
            have t2_40 := (show ev2 40 = ev1 40 by rw [o2, va_up_ne _ _ (by decide)]).trans t1_40
            have t2_41 := (show ev2 41 = ev1 41 by rw [o2, va_up_ne _ _ (by decide)]).trans t1_41
            have t2_42 := (show ev2 42 = ev1 42 by rw [o2, va_up_ne _ _ (by decide)]).trans t1_42
            have t2_43 := (show ev2 43 = ev1 43 by rw [o2, va_up_ne _ _ (by decide)]).trans t1_43
            have t2_44 := (show ev2 44 = ev1 44 by rw [o2, va_up_ne _ _ (by decide)]).trans t1_44
            have t2_45 := (show ev2 45 = ev1 45 by rw [o2, va_up_ne _ _ (by decide)]).trans t1_45
            have t2_46 := (show ev2 46 = ev1 46 by rw [o2, va_up_ne _ _ (by decide)]).trans t1_46
            have t2_47 := (show ev2 47 = ev1 47 by rw [o2, va_up_ne _ _ (by decide)]).trans t1_47
            have t2_48 := (show ev2 48 = ev1 48 by rw [o2, va_up_ne _ _ (by decide)]).trans t1_48
            have t2_49 := (show ev2 49 = ev1 49 by rw [o2, va_up_ne _ _ (by decide)]).trans t1_49
            have t2_50 := (show ev2 50 = ev1 50 by rw [o2, va_up_ne _ _ (by decide)]).trans t1_50
            have t2_37 := (show ev2 37 = ev1 37 by rw [o2, va_up_ne _ _ (by decide)]).trans t1_37
            refine lv_iload hx hb d_Md_move_48 (lv_at hl 0 rfl) ?_
            refine lv_aload_n hx hb d_Md_move_50 rfl (lv_at hl 3 rfl) ?_
            refine wv_getf hx hb h 37 (by decide) (fs := [.ref (ad 38), .int (nI (tl)), .int (nI (ol)), .int (nI (0)), .ref (ad 39), .ref (ad 40), .ref (ad 41), .ref (ad 42), .ref (ad 43), .ref (ad 44), .ref (ad 45), .ref (ad 46), .ref (ad 47), .ref (ad 48), .ref (ad 49), .ref (ad 50)]) t2_37 hts (fun w hw => List.mem_cons_of_mem _ (fW_Md w hw)) hown (ci := 5) (C := "NonceBoxModel") (T := fT_Md) (N := 16) rfl 2 (by decide) (hts _ (List.mem_cons_of_mem _ kf_Md_70)) rfl (v := .int (nI (ol))) rfl d_Md_move_51 ?_
            refine lv_icmp_ge (tgt := 83) hx hb d_Md_move_54 (by decide) (fun hc => absurd ((nI_leI (by omega) (by omega)).mp hc) (by omega)) (fun _ => ?_)
            refine lv_aload_n hx hb d_Md_move_57 rfl (lv_at hl 3 rfl) ?_
            refine wv_getf hx hb h 37 (by decide) (fs := [.ref (ad 38), .int (nI (tl)), .int (nI (ol)), .int (nI (0)), .ref (ad 39), .ref (ad 40), .ref (ad 41), .ref (ad 42), .ref (ad 43), .ref (ad 44), .ref (ad 45), .ref (ad 46), .ref (ad 47), .ref (ad 48), .ref (ad 49), .ref (ad 50)]) t2_37 hts (fun w hw => List.mem_cons_of_mem _ (fW_Md w hw)) hown (ci := 5) (C := "NonceBoxModel") (T := fT_Md) (N := 16) rfl 0 (by decide) (hts _ (List.mem_cons_of_mem _ kf_Md_7)) rfl (v := .ref (ad 38)) rfl d_Md_move_58 ?_
            refine lv_iload_n hx hb d_Md_move_61 rfl (lv_at hl 1 rfl) ?_
            refine lv_iload hx hb d_Md_move_62 (lv_at hl 0 rfl) ?_
            refine lv_iadd hx hb d_Md_move_64 ?_
            refine wv_top (w := nI (0 + t0)) (nI_add _ _) ?_
            refine lv_aload_n hx hb d_Md_move_65 rfl (lv_at hl 3 rfl) ?_
            refine wv_getf hx hb h 37 (by decide) (fs := [.ref (ad 38), .int (nI (tl)), .int (nI (ol)), .int (nI (0)), .ref (ad 39), .ref (ad 40), .ref (ad 41), .ref (ad 42), .ref (ad 43), .ref (ad 44), .ref (ad 45), .ref (ad 46), .ref (ad 47), .ref (ad 48), .ref (ad 49), .ref (ad 50)]) t2_37 hts (fun w hw => List.mem_cons_of_mem _ (fW_Md w hw)) hown (ci := 5) (C := "NonceBoxModel") (T := fT_Md) (N := 16) rfl 0 (by decide) (hts _ (List.mem_cons_of_mem _ kf_Md_7)) rfl (v := .ref (ad 38)) rfl d_Md_move_66 ?_
            refine lv_sipush (v := nI (200)) hx hb d_Md_move_69 (by decide) ?_
            refine lv_iload hx hb d_Md_move_72 (lv_at hl 0 rfl) ?_
            refine lv_iadd hx hb d_Md_move_74 ?_
            refine wv_top (w := nI (200 + t0)) (nI_add _ _) ?_
            refine wv_iald hx hb h 38 (by decide) (f := (ns (fil 0 t0 (fun i => FF (200 + i)) FF))) t2_38 (k := 200 + t0) rfl (by omega) (by decide) d_Md_move_75 ?_
            refine wv_top (w := nI (FF (200 + t0))) (by unfold ns; rw [fil_out (Or.inr (by omega))]) ?_
            refine wv_iast hx hb h 38 (by decide) (f := (ns (fil 0 t0 (fun i => FF (200 + i)) FF))) t2_38 (k := 0 + t0) rfl (by omega) (by decide) d_Md_move_76 (fun H locs h => ?_)
            obtain ⟨ev3, o3⟩ : ∃ z, z = va_up ev2 38 (eI G 312 (va_up ((ns (fil 0 t0 (fun i => FF (200 + i)) FF))) (0 + t0) (nI (FF (200 + t0))))) := ⟨_, rfl⟩
            rw [← o3] at h
            have t3_38 : ev3 38 = eI G 312 (va_up ((ns (fil 0 t0 (fun i => FF (200 + i)) FF))) (0 + t0) (nI (FF (200 + t0)))) := by rw [o3, va_up_self]
            have t3_39 := (show ev3 39 = ev2 39 by rw [o3, va_up_ne _ _ (by decide)]).trans t2_39
            have t3_40 := (show ev3 40 = ev2 40 by rw [o3, va_up_ne _ _ (by decide)]).trans t2_40
            have t3_41 := (show ev3 41 = ev2 41 by rw [o3, va_up_ne _ _ (by decide)]).trans t2_41
            have t3_42 := (show ev3 42 = ev2 42 by rw [o3, va_up_ne _ _ (by decide)]).trans t2_42
            have t3_43 := (show ev3 43 = ev2 43 by rw [o3, va_up_ne _ _ (by decide)]).trans t2_43
            have t3_44 := (show ev3 44 = ev2 44 by rw [o3, va_up_ne _ _ (by decide)]).trans t2_44
            have t3_45 := (show ev3 45 = ev2 45 by rw [o3, va_up_ne _ _ (by decide)]).trans t2_45
            have t3_46 := (show ev3 46 = ev2 46 by rw [o3, va_up_ne _ _ (by decide)]).trans t2_46
            have t3_47 := (show ev3 47 = ev2 47 by rw [o3, va_up_ne _ _ (by decide)]).trans t2_47
            have t3_48 := (show ev3 48 = ev2 48 by rw [o3, va_up_ne _ _ (by decide)]).trans t2_48
            have t3_49 := (show ev3 49 = ev2 49 by rw [o3, va_up_ne _ _ (by decide)]).trans t2_49
            have t3_50 := (show ev3 50 = ev2 50 by rw [o3, va_up_ne _ _ (by decide)]).trans t2_50
            have t3_37 := (show ev3 37 = ev2 37 by rw [o3, va_up_ne _ _ (by decide)]).trans t2_37
            rw [ns_up _ _ (FF (200 + t0)) rfl, fil_s 0 t0 (fun i => FF (200 + i)) FF rfl] at o3
            refine lv_iinc (v := nI (t0 + 1)) (lv' := [(4, .int (nI (t0 + 1))), (3, .int (nI (0))), (2, .int (nI (1))), (0, .ref (ad 37)), (1, .int (nI (0)))]) hx hb d_Md_move_77 hl (k := 0) rfl (nI_add _ _) (by decide) rfl (fun ls hl => ?_)
            refine lv_goto (tgt := 48) hx hb d_Md_move_80 (by decide) ?_
            refine ih (t0 + 1) (by omega) ev3 H locs ls ?_ h (lv_sub hl [0, 1, 2, 3, 4] rfl)
            rw [o3, o2, va_up2]
        exact loop2 ol 0 (by omega) ev1 H locs ls (by rw [fil_0, va_upi _ _ t1_38]) h (lv_sub hl [0, 1, 2, 3, 4] rfl)
    · skip
      refine lv_iload_n hx hb d_Md_move_14 rfl (lv_at hl 1 rfl) ?_
      refine lv_iconst (v := nI (2)) hx hb d_Md_move_15 (by decide) ?_
      refine lv_icmp_ne (tgt := 32) hx hb d_Md_move_16 (by decide) (fun hc2 => ?_) (fun hc2 => ?_)
      · skip
        refine lv_iconst (v := nI (0)) hx hb d_Md_move_32 (by decide) ?_
        refine lv_istore_n (lv' := [(2, .int (nI (0))), (0, .ref (ad 37)), (1, .int (x))]) hx hb d_Md_move_33 rfl hl (by decide) rfl (fun ls hl => ?_)
        refine lv_iload_n hx hb d_Md_move_34 rfl (lv_at hl 0 rfl) ?_
        refine lv_if_ne (tgt := 40) hx hb d_Md_move_35 (by decide) (fun hc => absurd rfl hc) (fun _ => ?_)
        refine lv_iconst (v := nI (0)) hx hb d_Md_move_38 (by decide) ?_
        exact wv_zret hx hb hr hlocks h d_Md_move_39 rfl ⟨_, _, _, rfl, Or.inr (Or.inr ⟨hc3, Or.inr ⟨hc0, hc2⟩, rfl, rfl, rfl⟩), ⟨t1_37, ⟨_, hFB, t1_38⟩, ⟨_, t1_39⟩, ⟨_, t1_40⟩, ⟨_, t1_41⟩, ⟨_, t1_42⟩, ⟨_, t1_43⟩, ⟨_, t1_44⟩, ⟨_, t1_45⟩, ⟨_, t1_46⟩, ⟨_, t1_47⟩, ⟨_, t1_48⟩, ⟨_, t1_49⟩, ⟨_, b50, t1_50⟩, hB, htl, hol⟩, (fun j hj => by rw [o1, va_up_ne _ _ (by omega)])⟩
      · subst hc2
        refine lv_aload_n hx hb d_Md_move_19 rfl (lv_at hl 0 rfl) ?_
        refine wv_getf hx hb h 37 (by decide) (fs := [.ref (ad 38), .int (nI (tl)), .int (nI (ol)), .int (nI (0)), .ref (ad 39), .ref (ad 40), .ref (ad 41), .ref (ad 42), .ref (ad 43), .ref (ad 44), .ref (ad 45), .ref (ad 46), .ref (ad 47), .ref (ad 48), .ref (ad 49), .ref (ad 50)]) t1_37 hts (fun w hw => List.mem_cons_of_mem _ (fW_Md w hw)) hown (ci := 5) (C := "NonceBoxModel") (T := fT_Md) (N := 16) rfl 2 (by decide) (hts _ (List.mem_cons_of_mem _ kf_Md_70)) rfl (v := .int (nI (ol))) rfl d_Md_move_20 ?_
        refine lv_bipush (v := nI (32)) hx hb d_Md_move_23 (by decide) ?_
        refine lv_icmp_ne (tgt := 32) hx hb d_Md_move_25 (by decide) (fun hc => ?_) (fun hc => ?_)
        · have ho : ol ≠ 32 := fun e => hc (by rw [e])
          refine lv_iconst (v := nI (0)) hx hb d_Md_move_32 (by decide) ?_
          refine lv_istore_n (lv' := [(2, .int (nI (0))), (0, .ref (ad 37)), (1, .int (nI (2)))]) hx hb d_Md_move_33 rfl hl (by decide) rfl (fun ls hl => ?_)
          refine lv_iload_n hx hb d_Md_move_34 rfl (lv_at hl 0 rfl) ?_
          refine lv_if_ne (tgt := 40) hx hb d_Md_move_35 (by decide) (fun hc => absurd rfl hc) (fun _ => ?_)
          refine lv_iconst (v := nI (0)) hx hb d_Md_move_38 (by decide) ?_
          exact wv_zret hx hb hr hlocks h d_Md_move_39 rfl ⟨_, _, _, rfl, Or.inr (Or.inr ⟨hc3, Or.inl ho, rfl, rfl, rfl⟩), ⟨t1_37, ⟨_, hFB, t1_38⟩, ⟨_, t1_39⟩, ⟨_, t1_40⟩, ⟨_, t1_41⟩, ⟨_, t1_42⟩, ⟨_, t1_43⟩, ⟨_, t1_44⟩, ⟨_, t1_45⟩, ⟨_, t1_46⟩, ⟨_, t1_47⟩, ⟨_, t1_48⟩, ⟨_, t1_49⟩, ⟨_, b50, t1_50⟩, hB, htl, hol⟩, (fun j hj => by rw [o1, va_up_ne _ _ (by omega)])⟩
        · have ho : ol = 32 := (nI_eq (by omega) (by decide)).mp hc
          refine lv_iconst (v := nI (1)) hx hb d_Md_move_28 (by decide) ?_
          refine lv_goto (tgt := 33) hx hb d_Md_move_29 (by decide) ?_
          refine lv_istore_n (lv' := [(2, .int (nI (1))), (0, .ref (ad 37)), (1, .int (nI (2)))]) hx hb d_Md_move_33 rfl hl (by decide) rfl (fun ls hl => ?_)
          refine lv_iload_n hx hb d_Md_move_34 rfl (lv_at hl 0 rfl) ?_
          refine lv_if_ne (tgt := 40) hx hb d_Md_move_35 (by decide) (fun _ => ?_) (fun hc => absurd hc (by decide))
          refine lv_iload_n hx hb d_Md_move_40 rfl (lv_at hl 2 rfl) ?_
          refine wv_Sx (As := [.int (nI (2))]) (rest := []) (k := 1) ⟨hx, hb, hml, hown, hts⟩ h (m_Md_begin l G A ad ev1 2 (by decide)) kc_Md_begin kl_Md_62 ks_Md_begin ki_Md (by decide +kernel) ⟨rfl, rfl, Nat.le_of_ble_eq_true rfl, Nat.le_of_ble_eq_true rfl⟩ hl.1 rfl rfl (Nat.le_of_ble_eq_true rfl) ⟨Nat.le_refl _, Nat.le_refl _⟩ d_Md_move_41 ?_
          intro ov ev2 H locs hp h
          rw [hp.1]
          refine W.eq (g2 := F0 m 44 ls [.int (nI (bgn 2))]) rfl ?_
          rw [hp.2] at h
          refine wv_top (w := nI (56)) (by decide) ?_
          refine lv_istore_n (lv' := [(3, .int (nI (56))), (2, .int (nI (1))), (0, .ref (ad 37)), (1, .int (nI (2)))]) hx hb d_Md_move_44 rfl hl (by decide) rfl (fun ls hl => ?_)
          refine lv_iconst (v := nI (0)) hx hb d_Md_move_45 (by decide) ?_
          refine lv_istore (lv' := [(4, .int (nI (0))), (3, .int (nI (56))), (2, .int (nI (1))), (0, .ref (ad 37)), (1, .int (nI (2)))]) hx hb d_Md_move_46 hl (by decide) rfl (fun ls hl => ?_)
          have loop2 : ∀ (d t0 : Nat), t0 + d = ol →  ∀ (ev2 : Nat → va_E) (H : Heap) (locs : List Loc) (ls : Array Slot), ev2 = (va_up ev1 38 (eI G 312 (ns (fil 56 t0 (fun i => FF (200 + i)) FF)))) → wT G A 52 ad ev2 s H locs → lv_has ls 5 [(4, .int (nI (t0))), (3, .int (nI (56))), (2, .int (nI (1))), (0, .ref (ad 37)), (1, .int (nI (2)))] → W p l e ({ frames := 3, cells := 0, slots := 0, locals := 100 }) s m ([.ref (ad 37), .int (nI 2)] : List Value).toArray below meth c H locs 0 0 (MQ below (wQc G A 52 ad (fun ov ev' => ∃ (ans : Int32) (Bf' : Nat → Nat → Nat) (tl' : Nat), ov = some (.int ans) ∧ spMove (nI 2) Bf tl ol ans Bf' tl' ∧ MD G ad ev' Bf' tl' ol 0 ∧ ∀ j, j < 37 ∨ 50 < j → ev' j = ev j)) ([.ref (ad 37), .int (nI 2)] : List Value).toArray s 0 0 A) (F0 m 48 ls []) := by
            intro d
            induction d with
            | zero =>
              intro t0 hk_t0  ev2 H locs ls  o2 h hl
              have t2_38 : ev2 38 = eI G 312 (ns (fil 56 t0 (fun i => FF (200 + i)) FF)) := by rw [o2, va_up_self]
              have t2_39 := (show ev2 39 = ev1 39 by rw [o2, va_up_ne _ _ (by decide)]).trans t1_39
              have t2_40 := (show ev2 40 = ev1 40 by rw [o2, va_up_ne _ _ (by decide)]).trans t1_40
              have t2_41 := (show ev2 41 = ev1 41 by rw [o2, va_up_ne _ _ (by decide)]).trans t1_41
              have t2_42 := (show ev2 42 = ev1 42 by rw [o2, va_up_ne _ _ (by decide)]).trans t1_42
              have t2_43 := (show ev2 43 = ev1 43 by rw [o2, va_up_ne _ _ (by decide)]).trans t1_43
              have t2_44 := (show ev2 44 = ev1 44 by rw [o2, va_up_ne _ _ (by decide)]).trans t1_44
              have t2_45 := (show ev2 45 = ev1 45 by rw [o2, va_up_ne _ _ (by decide)]).trans t1_45
              have t2_46 := (show ev2 46 = ev1 46 by rw [o2, va_up_ne _ _ (by decide)]).trans t1_46
              have t2_47 := (show ev2 47 = ev1 47 by rw [o2, va_up_ne _ _ (by decide)]).trans t1_47
              have t2_48 := (show ev2 48 = ev1 48 by rw [o2, va_up_ne _ _ (by decide)]).trans t1_48
              have t2_49 := (show ev2 49 = ev1 49 by rw [o2, va_up_ne _ _ (by decide)]).trans t1_49
              have t2_50 := (show ev2 50 = ev1 50 by rw [o2, va_up_ne _ _ (by decide)]).trans t1_50
              have t2_37 := (show ev2 37 = ev1 37 by rw [o2, va_up_ne _ _ (by decide)]).trans t1_37
              refine lv_iload hx hb d_Md_move_48 (lv_at hl 0 rfl) ?_
              refine lv_aload_n hx hb d_Md_move_50 rfl (lv_at hl 3 rfl) ?_
              refine wv_getf hx hb h 37 (by decide) (fs := [.ref (ad 38), .int (nI (tl)), .int (nI (ol)), .int (nI (0)), .ref (ad 39), .ref (ad 40), .ref (ad 41), .ref (ad 42), .ref (ad 43), .ref (ad 44), .ref (ad 45), .ref (ad 46), .ref (ad 47), .ref (ad 48), .ref (ad 49), .ref (ad 50)]) t2_37 hts (fun w hw => List.mem_cons_of_mem _ (fW_Md w hw)) hown (ci := 5) (C := "NonceBoxModel") (T := fT_Md) (N := 16) rfl 2 (by decide) (hts _ (List.mem_cons_of_mem _ kf_Md_70)) rfl (v := .int (nI (ol))) rfl d_Md_move_51 ?_
              refine lv_icmp_ge (tgt := 83) hx hb d_Md_move_54 (by decide) (fun _ => ?_) (fun hc => absurd ((nI_leI (by omega) (by omega)).mpr (by omega)) hc)
              have et : t0 = ol := by omega
              rw [et] at t2_38
              refine lv_aload_n hx hb d_Md_move_83 rfl (lv_at hl 3 rfl) ?_
              refine lv_iload_n hx hb d_Md_move_84 rfl (lv_at hl 4 rfl) ?_
              refine lv_iconst (v := nI (3)) hx hb d_Md_move_85 (by decide) ?_
              refine lv_icmp_ne (tgt := 96) hx hb d_Md_move_86 (by decide) (fun _ => ?_) (fun hc => absurd hc (by decide))
              refine lv_aload_n hx hb d_Md_move_96 rfl (lv_at hl 3 rfl) ?_
              refine wv_getf hx hb h 37 (by decide) (fs := [.ref (ad 38), .int (nI (tl)), .int (nI (ol)), .int (nI (0)), .ref (ad 39), .ref (ad 40), .ref (ad 41), .ref (ad 42), .ref (ad 43), .ref (ad 44), .ref (ad 45), .ref (ad 46), .ref (ad 47), .ref (ad 48), .ref (ad 49), .ref (ad 50)]) t2_37 hts (fun w hw => List.mem_cons_of_mem _ (fW_Md w hw)) hown (ci := 5) (C := "NonceBoxModel") (T := fT_Md) (N := 16) rfl 1 (by decide) (hts _ (List.mem_cons_of_mem _ kf_Md_67)) rfl (v := .int (nI (tl))) rfl d_Md_move_97 ?_
              refine wv_putf hx hb h 37 (by decide) (fs := [.ref (ad 38), .int (nI (tl)), .int (nI (ol)), .int (nI (0)), .ref (ad 39), .ref (ad 40), .ref (ad 41), .ref (ad 42), .ref (ad 43), .ref (ad 44), .ref (ad 45), .ref (ad 46), .ref (ad 47), .ref (ad 48), .ref (ad 49), .ref (ad 50)]) t2_37 hts (fun w hw => List.mem_cons_of_mem _ (fW_Md w hw)) fY_Md fK_Md fN_Md hown (ci := 5) (C := "NonceBoxModel") (T := fT_Md) (N := 16) rfl 1 (by decide) (hts _ (List.mem_cons_of_mem _ kf_Md_67)) rfl rfl (v := .int (nI (tl))) rfl rfl (Nat.le_of_ble_eq_true rfl) d_Md_move_100 (fun H locs h => ?_)
              have h : wT G A 52 ad (va_up ev2 37 (eO 5 [.ref (ad 38), .int (nI (tl)), .int (nI (ol)), .int (nI (0)), .ref (ad 39), .ref (ad 40), .ref (ad 41), .ref (ad 42), .ref (ad 43), .ref (ad 44), .ref (ad 45), .ref (ad 46), .ref (ad 47), .ref (ad 48), .ref (ad 49), .ref (ad 50)])) s H locs := h
              obtain ⟨ev3, o3⟩ : ∃ z, z = va_up ev2 37 (eO 5 [.ref (ad 38), .int (nI (tl)), .int (nI (ol)), .int (nI (0)), .ref (ad 39), .ref (ad 40), .ref (ad 41), .ref (ad 42), .ref (ad 43), .ref (ad 44), .ref (ad 45), .ref (ad 46), .ref (ad 47), .ref (ad 48), .ref (ad 49), .ref (ad 50)]) := ⟨_, rfl⟩
              rw [← o3] at h
              have t3_37 : ev3 37 = eO 5 [.ref (ad 38), .int (nI (tl)), .int (nI (ol)), .int (nI (0)), .ref (ad 39), .ref (ad 40), .ref (ad 41), .ref (ad 42), .ref (ad 43), .ref (ad 44), .ref (ad 45), .ref (ad 46), .ref (ad 47), .ref (ad 48), .ref (ad 49), .ref (ad 50)] := by rw [o3, va_up_self]
              have t3_38 := (show ev3 38 = ev2 38 by rw [o3, va_up_ne _ _ (by decide)]).trans t2_38
              have t3_39 := (show ev3 39 = ev2 39 by rw [o3, va_up_ne _ _ (by decide)]).trans t2_39
              have t3_40 := (show ev3 40 = ev2 40 by rw [o3, va_up_ne _ _ (by decide)]).trans t2_40
              have t3_41 := (show ev3 41 = ev2 41 by rw [o3, va_up_ne _ _ (by decide)]).trans t2_41
              have t3_42 := (show ev3 42 = ev2 42 by rw [o3, va_up_ne _ _ (by decide)]).trans t2_42
              have t3_43 := (show ev3 43 = ev2 43 by rw [o3, va_up_ne _ _ (by decide)]).trans t2_43
              have t3_44 := (show ev3 44 = ev2 44 by rw [o3, va_up_ne _ _ (by decide)]).trans t2_44
              have t3_45 := (show ev3 45 = ev2 45 by rw [o3, va_up_ne _ _ (by decide)]).trans t2_45
              have t3_46 := (show ev3 46 = ev2 46 by rw [o3, va_up_ne _ _ (by decide)]).trans t2_46
              have t3_47 := (show ev3 47 = ev2 47 by rw [o3, va_up_ne _ _ (by decide)]).trans t2_47
              have t3_48 := (show ev3 48 = ev2 48 by rw [o3, va_up_ne _ _ (by decide)]).trans t2_48
              have t3_49 := (show ev3 49 = ev2 49 by rw [o3, va_up_ne _ _ (by decide)]).trans t2_49
              have t3_50 := (show ev3 50 = ev2 50 by rw [o3, va_up_ne _ _ (by decide)]).trans t2_50
              refine lv_iconst (v := nI (1)) hx hb d_Md_move_103 (by decide) ?_
              have hFB2 : FB (fil 56 ol (fun i => FF (200 + i)) FF) (va_up Bf 2 (fil 0 32 (Bf 4) (Bf 2))) := by
                have h1 := FB_fil (X := Bf 4) hFB (b := 2) (o := 0) (n := 32) (by decide) (by show 0 + 32 ≤ 32; omega)
                have h2 : fil (bgn 2 + 0) 32 (Bf 4) FF = (fil 56 ol (fun i => FF (200 + i)) FF) := by
                  funext j
                  show fil 56 32 (Bf 4) FF j = _
                  unfold fil
                  by_cases q : 56 ≤ j ∧ j < 56 + ol
                  · rw [if_pos (by omega), if_pos q]
                    exact (hFB 4 (by decide) (j - 56) (by show j - 56 < 112; omega)).symm
                  · rw [if_neg (by omega), if_neg q]
                rw [h2] at h1
                exact h1
              exact wv_zret hx hb hr hlocks h d_Md_move_104 rfl ⟨_, _, _, rfl, Or.inr (Or.inl ⟨ho, ⟨2, by decide, rfl, rfl, rfl⟩, rfl⟩), ⟨t3_37, ⟨_, hFB2, t3_38⟩, ⟨_, t3_39⟩, ⟨_, t3_40⟩, ⟨_, t3_41⟩, ⟨_, t3_42⟩, ⟨_, t3_43⟩, ⟨_, t3_44⟩, ⟨_, t3_45⟩, ⟨_, t3_46⟩, ⟨_, t3_47⟩, ⟨_, t3_48⟩, ⟨_, t3_49⟩, ⟨_, b50, t3_50⟩, Bf_lt hB (fil_lt (hB 4) (hB 2)) 2, htl, hol⟩, (fun j hj => by rw [o3, va_up_ne _ _ (by omega), o2, va_up_ne _ _ (by omega), o1, va_up_ne _ _ (by omega)])⟩
            | succ d ih =>
              intro t0 hk_t0  ev2 H locs ls  o2 h hl
              have t2_38 : ev2 38 = eI G 312 (ns (fil 56 t0 (fun i => FF (200 + i)) FF)) := by rw [o2, va_up_self]
              have t2_39 := (show ev2 39 = ev1 39 by rw [o2, va_up_ne _ _ (by decide)]).trans t1_39
              have t2_40 := (show ev2 40 = ev1 40 by rw [o2, va_up_ne _ _ (by decide)]).trans t1_40
              have t2_41 := (show ev2 41 = ev1 41 by rw [o2, va_up_ne _ _ (by decide)]).trans t1_41
              have t2_42 := (show ev2 42 = ev1 42 by rw [o2, va_up_ne _ _ (by decide)]).trans t1_42
              have t2_43 := (show ev2 43 = ev1 43 by rw [o2, va_up_ne _ _ (by decide)]).trans t1_43
              have t2_44 := (show ev2 44 = ev1 44 by rw [o2, va_up_ne _ _ (by decide)]).trans t1_44
              have t2_45 := (show ev2 45 = ev1 45 by rw [o2, va_up_ne _ _ (by decide)]).trans t1_45
              have t2_46 := (show ev2 46 = ev1 46 by rw [o2, va_up_ne _ _ (by decide)]).trans t1_46
              have t2_47 := (show ev2 47 = ev1 47 by rw [o2, va_up_ne _ _ (by decide)]).trans t1_47
              have t2_48 := (show ev2 48 = ev1 48 by rw [o2, va_up_ne _ _ (by decide)]).trans t1_48
              have t2_49 := (show ev2 49 = ev1 49 by rw [o2, va_up_ne _ _ (by decide)]).trans t1_49
              have t2_50 := (show ev2 50 = ev1 50 by rw [o2, va_up_ne _ _ (by decide)]).trans t1_50
              have t2_37 := (show ev2 37 = ev1 37 by rw [o2, va_up_ne _ _ (by decide)]).trans t1_37
              refine lv_iload hx hb d_Md_move_48 (lv_at hl 0 rfl) ?_
              refine lv_aload_n hx hb d_Md_move_50 rfl (lv_at hl 3 rfl) ?_
              refine wv_getf hx hb h 37 (by decide) (fs := [.ref (ad 38), .int (nI (tl)), .int (nI (ol)), .int (nI (0)), .ref (ad 39), .ref (ad 40), .ref (ad 41), .ref (ad 42), .ref (ad 43), .ref (ad 44), .ref (ad 45), .ref (ad 46), .ref (ad 47), .ref (ad 48), .ref (ad 49), .ref (ad 50)]) t2_37 hts (fun w hw => List.mem_cons_of_mem _ (fW_Md w hw)) hown (ci := 5) (C := "NonceBoxModel") (T := fT_Md) (N := 16) rfl 2 (by decide) (hts _ (List.mem_cons_of_mem _ kf_Md_70)) rfl (v := .int (nI (ol))) rfl d_Md_move_51 ?_
              refine lv_icmp_ge (tgt := 83) hx hb d_Md_move_54 (by decide) (fun hc => absurd ((nI_leI (by omega) (by omega)).mp hc) (by omega)) (fun _ => ?_)
              refine lv_aload_n hx hb d_Md_move_57 rfl (lv_at hl 3 rfl) ?_
              refine wv_getf hx hb h 37 (by decide) (fs := [.ref (ad 38), .int (nI (tl)), .int (nI (ol)), .int (nI (0)), .ref (ad 39), .ref (ad 40), .ref (ad 41), .ref (ad 42), .ref (ad 43), .ref (ad 44), .ref (ad 45), .ref (ad 46), .ref (ad 47), .ref (ad 48), .ref (ad 49), .ref (ad 50)]) t2_37 hts (fun w hw => List.mem_cons_of_mem _ (fW_Md w hw)) hown (ci := 5) (C := "NonceBoxModel") (T := fT_Md) (N := 16) rfl 0 (by decide) (hts _ (List.mem_cons_of_mem _ kf_Md_7)) rfl (v := .ref (ad 38)) rfl d_Md_move_58 ?_
              refine lv_iload_n hx hb d_Md_move_61 rfl (lv_at hl 1 rfl) ?_
              refine lv_iload hx hb d_Md_move_62 (lv_at hl 0 rfl) ?_
              refine lv_iadd hx hb d_Md_move_64 ?_
              refine wv_top (w := nI (56 + t0)) (nI_add _ _) ?_
              refine lv_aload_n hx hb d_Md_move_65 rfl (lv_at hl 3 rfl) ?_
              refine wv_getf hx hb h 37 (by decide) (fs := [.ref (ad 38), .int (nI (tl)), .int (nI (ol)), .int (nI (0)), .ref (ad 39), .ref (ad 40), .ref (ad 41), .ref (ad 42), .ref (ad 43), .ref (ad 44), .ref (ad 45), .ref (ad 46), .ref (ad 47), .ref (ad 48), .ref (ad 49), .ref (ad 50)]) t2_37 hts (fun w hw => List.mem_cons_of_mem _ (fW_Md w hw)) hown (ci := 5) (C := "NonceBoxModel") (T := fT_Md) (N := 16) rfl 0 (by decide) (hts _ (List.mem_cons_of_mem _ kf_Md_7)) rfl (v := .ref (ad 38)) rfl d_Md_move_66 ?_
              refine lv_sipush (v := nI (200)) hx hb d_Md_move_69 (by decide) ?_
              refine lv_iload hx hb d_Md_move_72 (lv_at hl 0 rfl) ?_
              refine lv_iadd hx hb d_Md_move_74 ?_
              refine wv_top (w := nI (200 + t0)) (nI_add _ _) ?_
              refine wv_iald hx hb h 38 (by decide) (f := (ns (fil 56 t0 (fun i => FF (200 + i)) FF))) t2_38 (k := 200 + t0) rfl (by omega) (by decide) d_Md_move_75 ?_
              refine wv_top (w := nI (FF (200 + t0))) (by unfold ns; rw [fil_out (Or.inr (by omega))]) ?_
              refine wv_iast hx hb h 38 (by decide) (f := (ns (fil 56 t0 (fun i => FF (200 + i)) FF))) t2_38 (k := 56 + t0) rfl (by omega) (by decide) d_Md_move_76 (fun H locs h => ?_)
              obtain ⟨ev3, o3⟩ : ∃ z, z = va_up ev2 38 (eI G 312 (va_up ((ns (fil 56 t0 (fun i => FF (200 + i)) FF))) (56 + t0) (nI (FF (200 + t0))))) := ⟨_, rfl⟩
              rw [← o3] at h
              have t3_38 : ev3 38 = eI G 312 (va_up ((ns (fil 56 t0 (fun i => FF (200 + i)) FF))) (56 + t0) (nI (FF (200 + t0)))) := by rw [o3, va_up_self]
              have t3_39 := (show ev3 39 = ev2 39 by rw [o3, va_up_ne _ _ (by decide)]).trans t2_39
              have t3_40 := (show ev3 40 = ev2 40 by rw [o3, va_up_ne _ _ (by decide)]).trans t2_40
              have t3_41 := (show ev3 41 = ev2 41 by rw [o3, va_up_ne _ _ (by decide)]).trans t2_41
              have t3_42 := (show ev3 42 = ev2 42 by rw [o3, va_up_ne _ _ (by decide)]).trans t2_42
              have t3_43 := (show ev3 43 = ev2 43 by rw [o3, va_up_ne _ _ (by decide)]).trans t2_43
              have t3_44 := (show ev3 44 = ev2 44 by rw [o3, va_up_ne _ _ (by decide)]).trans t2_44
              have t3_45 := (show ev3 45 = ev2 45 by rw [o3, va_up_ne _ _ (by decide)]).trans t2_45
              have t3_46 := (show ev3 46 = ev2 46 by rw [o3, va_up_ne _ _ (by decide)]).trans t2_46
              have t3_47 := (show ev3 47 = ev2 47 by rw [o3, va_up_ne _ _ (by decide)]).trans t2_47
              have t3_48 := (show ev3 48 = ev2 48 by rw [o3, va_up_ne _ _ (by decide)]).trans t2_48
              have t3_49 := (show ev3 49 = ev2 49 by rw [o3, va_up_ne _ _ (by decide)]).trans t2_49
              have t3_50 := (show ev3 50 = ev2 50 by rw [o3, va_up_ne _ _ (by decide)]).trans t2_50
              have t3_37 := (show ev3 37 = ev2 37 by rw [o3, va_up_ne _ _ (by decide)]).trans t2_37
              rw [ns_up _ _ (FF (200 + t0)) rfl, fil_s 56 t0 (fun i => FF (200 + i)) FF rfl] at o3
              refine lv_iinc (v := nI (t0 + 1)) (lv' := [(4, .int (nI (t0 + 1))), (3, .int (nI (56))), (2, .int (nI (1))), (0, .ref (ad 37)), (1, .int (nI (2)))]) hx hb d_Md_move_77 hl (k := 0) rfl (nI_add _ _) (by decide) rfl (fun ls hl => ?_)
              refine lv_goto (tgt := 48) hx hb d_Md_move_80 (by decide) ?_
              refine ih (t0 + 1) (by omega) ev3 H locs ls ?_ h (lv_sub hl [0, 1, 2, 3, 4] rfl)
              rw [o3, o2, va_up2]
          exact loop2 ol 0 (by omega) ev1 H locs ls (by rw [fil_0, va_upi _ _ t1_38]) h (lv_sub hl [0, 1, 2, 3, 4] rfl)
theorem d_Md_stream_0 : decode c_Md_stream 0 = .ok (.aload_n 0, 1) := by decide +kernel
theorem d_Md_stream_1 : decode c_Md_stream 1 = .ok (.iconst 0, 1) := by decide +kernel
theorem d_Md_stream_2 : decode c_Md_stream 2 = .ok (.putfield 50, 3) := by decide +kernel
theorem d_Md_stream_5 : decode c_Md_stream 5 = .ok (.iload_n 1, 1) := by decide +kernel
theorem d_Md_stream_6 : decode c_Md_stream 6 = .ok (.ifCond .lt 9, 3) := by decide +kernel
theorem d_Md_stream_9 : decode c_Md_stream 9 = .ok (.iload_n 1, 1) := by decide +kernel
theorem d_Md_stream_10 : decode c_Md_stream 10 = .ok (.bipush 112, 2) := by decide +kernel
theorem d_Md_stream_12 : decode c_Md_stream 12 = .ok (.if_icmp .le 5, 3) := by decide +kernel
theorem d_Md_stream_15 : decode c_Md_stream 15 = .ok (.iconst 0, 1) := by decide +kernel
theorem d_Md_stream_16 : decode c_Md_stream 16 = .ok (.ireturn, 1) := by decide +kernel
theorem d_Md_stream_17 : decode c_Md_stream 17 = .ok (.aload_n 0, 1) := by decide +kernel
theorem d_Md_stream_18 : decode c_Md_stream 18 = .ok (.invokevirtual 103, 3) := by decide +kernel
theorem d_Md_stream_21 : decode c_Md_stream 21 = .ok (.aload_n 0, 1) := by decide +kernel
theorem d_Md_stream_22 : decode c_Md_stream 22 = .ok (.invokevirtual 110, 3) := by decide +kernel
theorem d_Md_stream_25 : decode c_Md_stream 25 = .ok (.aload_n 0, 1) := by decide +kernel
theorem d_Md_stream_26 : decode c_Md_stream 26 = .ok (.aload_n 0, 1) := by decide +kernel
theorem d_Md_stream_27 : decode c_Md_stream 27 = .ok (.getfield 25, 3) := by decide +kernel
theorem d_Md_stream_30 : decode c_Md_stream 30 = .ok (.iload_n 1, 1) := by decide +kernel
theorem d_Md_stream_31 : decode c_Md_stream 31 = .ok (.invokevirtual 106, 3) := by decide +kernel
theorem d_Md_stream_34 : decode c_Md_stream 34 = .ok (.iconst 1, 1) := by decide +kernel
theorem d_Md_stream_35 : decode c_Md_stream 35 = .ok (.ireturn, 1) := by decide +kernel
set_option maxRecDepth 100000 in
set_option maxHeartbeats 4000000 in
/-- stream -/
theorem m_Md_stream (l : Launch) (G : wG) (A : Nat → Prop) (ad : Nat → Nat) (ev : Nat → va_E) (x : Int32) (Bf : Nat → Nat → Nat) (tl ol cd : Nat) (hMD : MD G ad ev Bf tl ol cd) : wM l y_Md_stream w_Md_stream ({ frames := 18, cells := 0, slots := 0, locals := 600 }) G A 52 ad ev [.ref (ad 37), .int (x)] (fun ov ev' => ∃ (ans : Int32) (Bf' : Nat → Nat → Nat) (ol' : Nat), ov = some (.int ans) ∧ spStr x Bf ol ans Bf' ol' ∧ MD G ad ev' Bf' tl ol' 0 ∧ ∀ j, j < 37 ∨ 50 < j → ev' j = ev j) := by
  refine wv_ofW (cc := c_Md_stream) (maxL := 2) (ret := (Option.some FieldType.boolean)) (by decide) rfl (Nat.le_of_ble_eq_true rfl) ?_
  intro p e s m below meth c ls hx hb hr hml hts hown hlocks hini h hl
  have hl : lv_has ls 2 [(0, .ref (ad 37)), (1, .int (x))] := hl
  obtain ⟨g37, ⟨FF, hFB, g38⟩, ⟨x39, g39⟩, ⟨x40, g40⟩, ⟨x41, g41⟩, ⟨x42, g42⟩, ⟨x43, g43⟩, ⟨x44, g44⟩, ⟨x45, g45⟩, ⟨x46, g46⟩, ⟨x47, g47⟩, ⟨x48, g48⟩, ⟨x49, g49⟩, ⟨x50, b50, g50⟩, hB, htl, hol⟩ := hMD
  refine lv_aload_n hx hb d_Md_stream_0 rfl (lv_at hl 0 rfl) ?_
  refine lv_iconst (v := nI (0)) hx hb d_Md_stream_1 (by decide) ?_
  refine wv_putf hx hb h 37 (by decide) (fs := [.ref (ad 38), .int (nI (tl)), .int (nI (ol)), .int (nI (cd)), .ref (ad 39), .ref (ad 40), .ref (ad 41), .ref (ad 42), .ref (ad 43), .ref (ad 44), .ref (ad 45), .ref (ad 46), .ref (ad 47), .ref (ad 48), .ref (ad 49), .ref (ad 50)]) g37 hts (fun w hw => List.mem_cons_of_mem _ (fW_Md w hw)) fY_Md fK_Md fN_Md hown (ci := 5) (C := "NonceBoxModel") (T := fT_Md) (N := 16) rfl 3 (by decide) (hts _ (List.mem_cons_of_mem _ kf_Md_50)) rfl rfl (v := .int (nI (0))) rfl rfl (Nat.le_of_ble_eq_true rfl) d_Md_stream_2 (fun H locs h => ?_)
  have h : wT G A 52 ad (va_up ev 37 (eO 5 [.ref (ad 38), .int (nI (tl)), .int (nI (ol)), .int (nI (0)), .ref (ad 39), .ref (ad 40), .ref (ad 41), .ref (ad 42), .ref (ad 43), .ref (ad 44), .ref (ad 45), .ref (ad 46), .ref (ad 47), .ref (ad 48), .ref (ad 49), .ref (ad 50)])) s H locs := h
  obtain ⟨ev1, o1⟩ : ∃ z, z = va_up ev 37 (eO 5 [.ref (ad 38), .int (nI (tl)), .int (nI (ol)), .int (nI (0)), .ref (ad 39), .ref (ad 40), .ref (ad 41), .ref (ad 42), .ref (ad 43), .ref (ad 44), .ref (ad 45), .ref (ad 46), .ref (ad 47), .ref (ad 48), .ref (ad 49), .ref (ad 50)]) := ⟨_, rfl⟩
  rw [← o1] at h
  have t1_37 : ev1 37 = eO 5 [.ref (ad 38), .int (nI (tl)), .int (nI (ol)), .int (nI (0)), .ref (ad 39), .ref (ad 40), .ref (ad 41), .ref (ad 42), .ref (ad 43), .ref (ad 44), .ref (ad 45), .ref (ad 46), .ref (ad 47), .ref (ad 48), .ref (ad 49), .ref (ad 50)] := by rw [o1, va_up_self]
  have t1_38 := (show ev1 38 = ev 38 by rw [o1, va_up_ne _ _ (by decide)]).trans g38
  have t1_39 := (show ev1 39 = ev 39 by rw [o1, va_up_ne _ _ (by decide)]).trans g39
  have t1_40 := (show ev1 40 = ev 40 by rw [o1, va_up_ne _ _ (by decide)]).trans g40
  have t1_41 := (show ev1 41 = ev 41 by rw [o1, va_up_ne _ _ (by decide)]).trans g41
  have t1_42 := (show ev1 42 = ev 42 by rw [o1, va_up_ne _ _ (by decide)]).trans g42
  have t1_43 := (show ev1 43 = ev 43 by rw [o1, va_up_ne _ _ (by decide)]).trans g43
  have t1_44 := (show ev1 44 = ev 44 by rw [o1, va_up_ne _ _ (by decide)]).trans g44
  have t1_45 := (show ev1 45 = ev 45 by rw [o1, va_up_ne _ _ (by decide)]).trans g45
  have t1_46 := (show ev1 46 = ev 46 by rw [o1, va_up_ne _ _ (by decide)]).trans g46
  have t1_47 := (show ev1 47 = ev 47 by rw [o1, va_up_ne _ _ (by decide)]).trans g47
  have t1_48 := (show ev1 48 = ev 48 by rw [o1, va_up_ne _ _ (by decide)]).trans g48
  have t1_49 := (show ev1 49 = ev 49 by rw [o1, va_up_ne _ _ (by decide)]).trans g49
  have t1_50 := (show ev1 50 = ev 50 by rw [o1, va_up_ne _ _ (by decide)]).trans g50
  refine lv_iload_n hx hb d_Md_stream_5 rfl (lv_at hl 1 rfl) ?_
  refine lv_if_lt (tgt := 15) hx hb d_Md_stream_6 (by decide) (fun hc => ?_) (fun hc => ?_)
  · have far : ∀ k, k ≤ 112 → x ≠ nI k := fun k hk => nI_far (n := 113) (by decide) (Or.inl hc) k (by omega)
    refine lv_iconst (v := nI (0)) hx hb d_Md_stream_15 (by decide) ?_
    exact wv_zret hx hb hr hlocks h d_Md_stream_16 rfl ⟨_, _, _, rfl, Or.inr ⟨far, rfl, rfl, rfl⟩, ⟨t1_37, ⟨_, hFB, t1_38⟩, ⟨_, t1_39⟩, ⟨_, t1_40⟩, ⟨_, t1_41⟩, ⟨_, t1_42⟩, ⟨_, t1_43⟩, ⟨_, t1_44⟩, ⟨_, t1_45⟩, ⟨_, t1_46⟩, ⟨_, t1_47⟩, ⟨_, t1_48⟩, ⟨_, t1_49⟩, ⟨_, b50, t1_50⟩, hB, htl, hol⟩, (fun j hj => by rw [o1, va_up_ne _ _ (by omega)])⟩
  · obtain ⟨k, hk31, rfl⟩ := nI_of hc
    refine lv_iload_n hx hb d_Md_stream_9 rfl (lv_at hl 1 rfl) ?_
    refine lv_bipush (v := nI (112)) hx hb d_Md_stream_10 (by decide) ?_
    refine lv_icmp_le (tgt := 17) hx hb d_Md_stream_12 (by decide) (fun hc => ?_) (fun hc => ?_)
    · have hk := (nI_leI (by omega) (by decide)).mp hc
      refine lv_aload_n hx hb d_Md_stream_17 rfl (lv_at hl 0 rfl) ?_
      refine wv_V (As := []) (rest := []) (k := 0) ⟨hx, hb, hml, hown, hts⟩ h 37 (by decide) (C := "NonceBoxModel") t1_37 rfl (m_Md_takeKey l G A ad ev1 FF (Bf 0) x39 tl ol 0 t1_37 t1_38 t1_39 (fun j hj => (congrArg FF (Nat.zero_add j)).symm.trans (hFB 0 (by decide) j hj))) kc_Md_takeKey kl_Md_103 km_Md_takeKey kv_Md_takeKey ki_Md (by decide +kernel) ⟨rfl, rfl, Nat.le_of_ble_eq_true rfl, Nat.le_of_ble_eq_true rfl⟩ hl.1 rfl rfl (Nat.le_of_ble_eq_true rfl) ⟨Nat.le_refl _, Nat.le_refl _⟩ d_Md_stream_18 ?_
      intro ov ev2 H locs hp h
      rw [hp.1]
      refine W.eq (g2 := F0 m 21 ls []) rfl ?_
      have o2 : ev2 = (va_up ev1 39 (eI G 32 (ns (Bf 0)))) := hp.2
      have t2_39 : ev2 39 = eI G 32 (ns (Bf 0)) := by rw [o2, va_up_self]
      have t2_38 := (show ev2 38 = ev1 38 by rw [o2, va_up_ne _ _ (by decide)]).trans t1_38
      have t2_40 := (show ev2 40 = ev1 40 by rw [o2, va_up_ne _ _ (by decide)]).trans t1_40
      have t2_41 := (show ev2 41 = ev1 41 by rw [o2, va_up_ne _ _ (by decide)]).trans t1_41
      have t2_42 := (show ev2 42 = ev1 42 by rw [o2, va_up_ne _ _ (by decide)]).trans t1_42
      have t2_43 := (show ev2 43 = ev1 43 by rw [o2, va_up_ne _ _ (by decide)]).trans t1_43
      have t2_44 := (show ev2 44 = ev1 44 by rw [o2, va_up_ne _ _ (by decide)]).trans t1_44
      have t2_45 := (show ev2 45 = ev1 45 by rw [o2, va_up_ne _ _ (by decide)]).trans t1_45
      have t2_46 := (show ev2 46 = ev1 46 by rw [o2, va_up_ne _ _ (by decide)]).trans t1_46
      have t2_47 := (show ev2 47 = ev1 47 by rw [o2, va_up_ne _ _ (by decide)]).trans t1_47
      have t2_48 := (show ev2 48 = ev1 48 by rw [o2, va_up_ne _ _ (by decide)]).trans t1_48
      have t2_49 := (show ev2 49 = ev1 49 by rw [o2, va_up_ne _ _ (by decide)]).trans t1_49
      have t2_50 := (show ev2 50 = ev1 50 by rw [o2, va_up_ne _ _ (by decide)]).trans t1_50
      have t2_37 := (show ev2 37 = ev1 37 by rw [o2, va_up_ne _ _ (by decide)]).trans t1_37
      refine lv_aload_n hx hb d_Md_stream_21 rfl (lv_at hl 0 rfl) ?_
      refine wv_V (As := []) (rest := []) (k := 0) ⟨hx, hb, hml, hown, hts⟩ h 37 (by decide) (C := "NonceBoxModel") t2_37 rfl (m_Md_flow l G A ad ev2 FF (Bf 0) (Bf 1) x40 x43 x41 x42 tl ol 0 t2_37 t2_38 t2_39 t2_40 t2_41 t2_42 t2_43 (fun j hj => hFB 1 (by decide) j hj)) kc_Md_flow kl_Md_110 km_Md_flow kv_Md_flow ki_Md (by decide +kernel) ⟨rfl, rfl, Nat.le_of_ble_eq_true rfl, Nat.le_of_ble_eq_true rfl⟩ hl.1 rfl rfl (Nat.le_of_ble_eq_true rfl) ⟨Nat.le_refl _, Nat.le_refl _⟩ d_Md_stream_22 ?_
      intro ov ev3 H locs hp h
      obtain ⟨ho, M2, f2, g2, hp⟩ := hp
      rw [ho]
      refine W.eq (g2 := F0 m 25 ls []) rfl ?_
      have o3 : ev3 = (va_up (va_up (va_up (va_up (va_up ev2 39 (eI G 32 (ns (MIXB (Bf 0) (Bf 1))))) 40 (eI G 16 (ns M2))) 41 (eI G 16 f2)) 42 (eI G 16 g2)) 43 (eI G 128 (ns (STRB (Bf 0) (Bf 1))))) := hp
      have t3_39 : ev3 39 = eI G 32 (ns (MIXB (Bf 0) (Bf 1))) := by rw [o3, va_up_ne _ _ (by decide), va_up_ne _ _ (by decide), va_up_ne _ _ (by decide), va_up_ne _ _ (by decide), va_up_self]
      have t3_40 : ev3 40 = eI G 16 (ns M2) := by rw [o3, va_up_ne _ _ (by decide), va_up_ne _ _ (by decide), va_up_ne _ _ (by decide), va_up_self]
      have t3_41 : ev3 41 = eI G 16 f2 := by rw [o3, va_up_ne _ _ (by decide), va_up_ne _ _ (by decide), va_up_self]
      have t3_42 : ev3 42 = eI G 16 g2 := by rw [o3, va_up_ne _ _ (by decide), va_up_self]
      have t3_43 : ev3 43 = eI G 128 (ns (STRB (Bf 0) (Bf 1))) := by rw [o3, va_up_self]
      have t3_38 := (show ev3 38 = ev2 38 by rw [o3, va_up_ne _ _ (by decide), va_up_ne _ _ (by decide), va_up_ne _ _ (by decide), va_up_ne _ _ (by decide), va_up_ne _ _ (by decide)]).trans t2_38
      have t3_44 := (show ev3 44 = ev2 44 by rw [o3, va_up_ne _ _ (by decide), va_up_ne _ _ (by decide), va_up_ne _ _ (by decide), va_up_ne _ _ (by decide), va_up_ne _ _ (by decide)]).trans t2_44
      have t3_45 := (show ev3 45 = ev2 45 by rw [o3, va_up_ne _ _ (by decide), va_up_ne _ _ (by decide), va_up_ne _ _ (by decide), va_up_ne _ _ (by decide), va_up_ne _ _ (by decide)]).trans t2_45
      have t3_46 := (show ev3 46 = ev2 46 by rw [o3, va_up_ne _ _ (by decide), va_up_ne _ _ (by decide), va_up_ne _ _ (by decide), va_up_ne _ _ (by decide), va_up_ne _ _ (by decide)]).trans t2_46
      have t3_47 := (show ev3 47 = ev2 47 by rw [o3, va_up_ne _ _ (by decide), va_up_ne _ _ (by decide), va_up_ne _ _ (by decide), va_up_ne _ _ (by decide), va_up_ne _ _ (by decide)]).trans t2_47
      have t3_48 := (show ev3 48 = ev2 48 by rw [o3, va_up_ne _ _ (by decide), va_up_ne _ _ (by decide), va_up_ne _ _ (by decide), va_up_ne _ _ (by decide), va_up_ne _ _ (by decide)]).trans t2_48
      have t3_49 := (show ev3 49 = ev2 49 by rw [o3, va_up_ne _ _ (by decide), va_up_ne _ _ (by decide), va_up_ne _ _ (by decide), va_up_ne _ _ (by decide), va_up_ne _ _ (by decide)]).trans t2_49
      have t3_50 := (show ev3 50 = ev2 50 by rw [o3, va_up_ne _ _ (by decide), va_up_ne _ _ (by decide), va_up_ne _ _ (by decide), va_up_ne _ _ (by decide), va_up_ne _ _ (by decide)]).trans t2_50
      have t3_37 := (show ev3 37 = ev2 37 by rw [o3, va_up_ne _ _ (by decide), va_up_ne _ _ (by decide), va_up_ne _ _ (by decide), va_up_ne _ _ (by decide), va_up_ne _ _ (by decide)]).trans t2_37
      refine lv_aload_n hx hb d_Md_stream_25 rfl (lv_at hl 0 rfl) ?_
      refine lv_aload_n hx hb d_Md_stream_26 rfl (lv_at hl 0 rfl) ?_
      refine wv_getf hx hb h 37 (by decide) (fs := [.ref (ad 38), .int (nI (tl)), .int (nI (ol)), .int (nI (0)), .ref (ad 39), .ref (ad 40), .ref (ad 41), .ref (ad 42), .ref (ad 43), .ref (ad 44), .ref (ad 45), .ref (ad 46), .ref (ad 47), .ref (ad 48), .ref (ad 49), .ref (ad 50)]) t3_37 hts (fun w hw => List.mem_cons_of_mem _ (fW_Md w hw)) hown (ci := 5) (C := "NonceBoxModel") (T := fT_Md) (N := 16) rfl 8 (by decide) (hts _ (List.mem_cons_of_mem _ kf_Md_25)) rfl (v := .ref (ad 43)) rfl d_Md_stream_27 ?_
      refine lv_iload_n hx hb d_Md_stream_30 rfl (lv_at hl 1 rfl) ?_
      refine wv_V (As := [.ref (ad 43), .int (nI (k))]) (rest := []) (k := 2) ⟨hx, hb, hml, hown, hts⟩ h 37 (by decide) (C := "NonceBoxModel") t3_37 rfl (m_Md_outFrom l G A ad ev3 43 128 k FF (STRB (Bf 0) (Bf 1)) tl ol 0 t3_37 (by decide) t3_38 t3_43 hk (by omega) (by decide)) kc_Md_outFrom kl_Md_106 km_Md_outFrom kv_Md_outFrom ki_Md (by decide +kernel) ⟨rfl, rfl, Nat.le_of_ble_eq_true rfl, Nat.le_of_ble_eq_true rfl⟩ hl.1 rfl rfl (Nat.le_of_ble_eq_true rfl) ⟨Nat.le_refl _, Nat.le_refl _⟩ d_Md_stream_31 ?_
      intro ov ev4 H locs hp h
      rw [hp.1]
      refine W.eq (g2 := F0 m 34 ls []) rfl ?_
      have o4 : ev4 = va_up (va_up ev3 38 (eI G 312 (ns (fil 200 112 (outF k (STRB (Bf 0) (Bf 1))) FF)))) 37 (eO 5 [.ref (ad 38), .int (nI tl), .int (nI (k)), .int (nI 0), .ref (ad 39), .ref (ad 40), .ref (ad 41), .ref (ad 42), .ref (ad 43), .ref (ad 44), .ref (ad 45), .ref (ad 46), .ref (ad 47), .ref (ad 48), .ref (ad 49), .ref (ad 50)]) := hp.2
      have t4_38 : ev4 38 = eI G 312 (ns (fil 200 112 (outF k (STRB (Bf 0) (Bf 1))) FF)) := by rw [o4, va_up_ne _ _ (by decide), va_up_self]
      have t4_37 : ev4 37 = eO 5 [.ref (ad 38), .int (nI tl), .int (nI (k)), .int (nI 0), .ref (ad 39), .ref (ad 40), .ref (ad 41), .ref (ad 42), .ref (ad 43), .ref (ad 44), .ref (ad 45), .ref (ad 46), .ref (ad 47), .ref (ad 48), .ref (ad 49), .ref (ad 50)] := by rw [o4, va_up_self]
      have t4_39 := (show ev4 39 = ev3 39 by rw [o4, va_up_ne _ _ (by decide), va_up_ne _ _ (by decide)]).trans t3_39
      have t4_40 := (show ev4 40 = ev3 40 by rw [o4, va_up_ne _ _ (by decide), va_up_ne _ _ (by decide)]).trans t3_40
      have t4_41 := (show ev4 41 = ev3 41 by rw [o4, va_up_ne _ _ (by decide), va_up_ne _ _ (by decide)]).trans t3_41
      have t4_42 := (show ev4 42 = ev3 42 by rw [o4, va_up_ne _ _ (by decide), va_up_ne _ _ (by decide)]).trans t3_42
      have t4_43 := (show ev4 43 = ev3 43 by rw [o4, va_up_ne _ _ (by decide), va_up_ne _ _ (by decide)]).trans t3_43
      have t4_44 := (show ev4 44 = ev3 44 by rw [o4, va_up_ne _ _ (by decide), va_up_ne _ _ (by decide)]).trans t3_44
      have t4_45 := (show ev4 45 = ev3 45 by rw [o4, va_up_ne _ _ (by decide), va_up_ne _ _ (by decide)]).trans t3_45
      have t4_46 := (show ev4 46 = ev3 46 by rw [o4, va_up_ne _ _ (by decide), va_up_ne _ _ (by decide)]).trans t3_46
      have t4_47 := (show ev4 47 = ev3 47 by rw [o4, va_up_ne _ _ (by decide), va_up_ne _ _ (by decide)]).trans t3_47
      have t4_48 := (show ev4 48 = ev3 48 by rw [o4, va_up_ne _ _ (by decide), va_up_ne _ _ (by decide)]).trans t3_48
      have t4_49 := (show ev4 49 = ev3 49 by rw [o4, va_up_ne _ _ (by decide), va_up_ne _ _ (by decide)]).trans t3_49
      have t4_50 := (show ev4 50 = ev3 50 by rw [o4, va_up_ne _ _ (by decide), va_up_ne _ _ (by decide)]).trans t3_50
      refine lv_iconst (v := nI (1)) hx hb d_Md_stream_34 (by decide) ?_
      exact wv_zret hx hb hr hlocks h d_Md_stream_35 rfl ⟨_, _, _, rfl, Or.inl ⟨k, hk, rfl, rfl, rfl, rfl⟩, ⟨t4_37, ⟨_, FB_out hFB, t4_38⟩, ⟨_, t4_39⟩, ⟨_, t4_40⟩, ⟨_, t4_41⟩, ⟨_, t4_42⟩, ⟨_, t4_43⟩, ⟨_, t4_44⟩, ⟨_, t4_45⟩, ⟨_, t4_46⟩, ⟨_, t4_47⟩, ⟨_, t4_48⟩, ⟨_, t4_49⟩, ⟨_, b50, t4_50⟩, Bf_lt hB (outF_lt (STRB_lt _ _)) 4, htl, hk⟩, (fun j hj => by rw [o4, va_up_ne _ _ (by omega), va_up_ne _ _ (by omega), o3, va_up_ne _ _ (by omega), va_up_ne _ _ (by omega), va_up_ne _ _ (by omega), va_up_ne _ _ (by omega), va_up_ne _ _ (by omega), o2, va_up_ne _ _ (by omega), o1, va_up_ne _ _ (by omega)])⟩
    · have far : ∀ j, j ≤ 112 → nI k ≠ nI j := fun j hj q => hc (by rw [q]; exact nI_le hj (by decide))
      refine lv_iconst (v := nI (0)) hx hb d_Md_stream_15 (by decide) ?_
      exact wv_zret hx hb hr hlocks h d_Md_stream_16 rfl ⟨_, _, _, rfl, Or.inr ⟨far, rfl, rfl, rfl⟩, ⟨t1_37, ⟨_, hFB, t1_38⟩, ⟨_, t1_39⟩, ⟨_, t1_40⟩, ⟨_, t1_41⟩, ⟨_, t1_42⟩, ⟨_, t1_43⟩, ⟨_, t1_44⟩, ⟨_, t1_45⟩, ⟨_, t1_46⟩, ⟨_, t1_47⟩, ⟨_, t1_48⟩, ⟨_, t1_49⟩, ⟨_, b50, t1_50⟩, hB, htl, hol⟩, (fun j hj => by rw [o1, va_up_ne _ _ (by omega)])⟩
theorem d_Md_mix_0 : decode c_Md_mix 0 = .ok (.aload_n 0, 1) := by decide +kernel
theorem d_Md_mix_1 : decode c_Md_mix 1 = .ok (.iconst 0, 1) := by decide +kernel
theorem d_Md_mix_2 : decode c_Md_mix 2 = .ok (.putfield 50, 3) := by decide +kernel
theorem d_Md_mix_5 : decode c_Md_mix 5 = .ok (.aload_n 0, 1) := by decide +kernel
theorem d_Md_mix_6 : decode c_Md_mix 6 = .ok (.invokevirtual 103, 3) := by decide +kernel
theorem d_Md_mix_9 : decode c_Md_mix 9 = .ok (.iconst 0, 1) := by decide +kernel
theorem d_Md_mix_10 : decode c_Md_mix 10 = .ok (.istore_n 1, 1) := by decide +kernel
theorem d_Md_mix_11 : decode c_Md_mix 11 = .ok (.iload_n 1, 1) := by decide +kernel
theorem d_Md_mix_12 : decode c_Md_mix 12 = .ok (.bipush 16, 2) := by decide +kernel
theorem d_Md_mix_14 : decode c_Md_mix 14 = .ok (.if_icmp .ge 24, 3) := by decide +kernel
theorem d_Md_mix_17 : decode c_Md_mix 17 = .ok (.aload_n 0, 1) := by decide +kernel
theorem d_Md_mix_18 : decode c_Md_mix 18 = .ok (.getfield 16, 3) := by decide +kernel
theorem d_Md_mix_21 : decode c_Md_mix 21 = .ok (.iload_n 1, 1) := by decide +kernel
theorem d_Md_mix_22 : decode c_Md_mix 22 = .ok (.aload_n 0, 1) := by decide +kernel
theorem d_Md_mix_23 : decode c_Md_mix 23 = .ok (.getfield 7, 3) := by decide +kernel
theorem d_Md_mix_26 : decode c_Md_mix 26 = .ok (.bipush 32, 2) := by decide +kernel
theorem d_Md_mix_28 : decode c_Md_mix 28 = .ok (.iload_n 1, 1) := by decide +kernel
theorem d_Md_mix_29 : decode c_Md_mix 29 = .ok (.iadd, 1) := by decide +kernel
theorem d_Md_mix_30 : decode c_Md_mix 30 = .ok (.iaload, 1) := by decide +kernel
theorem d_Md_mix_31 : decode c_Md_mix 31 = .ok (.iastore, 1) := by decide +kernel
theorem d_Md_mix_32 : decode c_Md_mix 32 = .ok (.iinc 1 1, 3) := by decide +kernel
theorem d_Md_mix_35 : decode c_Md_mix 35 = .ok (.goto (-24), 3) := by decide +kernel
theorem d_Md_mix_38 : decode c_Md_mix 38 = .ok (.aload_n 0, 1) := by decide +kernel
theorem d_Md_mix_39 : decode c_Md_mix 39 = .ok (.invokevirtual 96, 3) := by decide +kernel
theorem d_Md_mix_42 : decode c_Md_mix 42 = .ok (.aload_n 0, 1) := by decide +kernel
theorem d_Md_mix_43 : decode c_Md_mix 43 = .ok (.aload_n 0, 1) := by decide +kernel
theorem d_Md_mix_44 : decode c_Md_mix 44 = .ok (.getfield 13, 3) := by decide +kernel
theorem d_Md_mix_47 : decode c_Md_mix 47 = .ok (.bipush 32, 2) := by decide +kernel
theorem d_Md_mix_49 : decode c_Md_mix 49 = .ok (.invokevirtual 106, 3) := by decide +kernel
theorem d_Md_mix_52 : decode c_Md_mix 52 = .ok (.return_, 1) := by decide +kernel
set_option maxRecDepth 100000 in
set_option maxHeartbeats 4000000 in
/-- mix -/
theorem m_Md_mix (l : Launch) (G : wG) (A : Nat → Prop) (ad : Nat → Nat) (ev : Nat → va_E) (Bf : Nat → Nat → Nat) (tl ol cd : Nat) (hMD : MD G ad ev Bf tl ol cd) : wM l y_Md_mix w_Md_mix ({ frames := 15, cells := 0, slots := 0, locals := 500 }) G A 52 ad ev [.ref (ad 37)] (fun ov ev' => ov = none ∧ MD G ad ev' (va_up Bf 4 (outF 32 (MIXB (Bf 0) (Bf 1)))) tl 32 0 ∧ ∀ j, j < 37 ∨ 50 < j → ev' j = ev j) := by
  refine wv_ofW (cc := c_Md_mix) (maxL := 2) (ret := none) (by decide) rfl (Nat.le_of_ble_eq_true rfl) ?_
  intro p e s m below meth c ls hx hb hr hml hts hown hlocks hini h hl
  have hl : lv_has ls 2 [(0, .ref (ad 37))] := hl
  obtain ⟨g37, ⟨FF, hFB, g38⟩, ⟨x39, g39⟩, ⟨x40, g40⟩, ⟨x41, g41⟩, ⟨x42, g42⟩, ⟨x43, g43⟩, ⟨x44, g44⟩, ⟨x45, g45⟩, ⟨x46, g46⟩, ⟨x47, g47⟩, ⟨x48, g48⟩, ⟨x49, g49⟩, ⟨x50, b50, g50⟩, hB, htl, hol⟩ := hMD
  refine lv_aload_n hx hb d_Md_mix_0 rfl (lv_at hl 0 rfl) ?_
  refine lv_iconst (v := nI (0)) hx hb d_Md_mix_1 (by decide) ?_
  refine wv_putf hx hb h 37 (by decide) (fs := [.ref (ad 38), .int (nI (tl)), .int (nI (ol)), .int (nI (cd)), .ref (ad 39), .ref (ad 40), .ref (ad 41), .ref (ad 42), .ref (ad 43), .ref (ad 44), .ref (ad 45), .ref (ad 46), .ref (ad 47), .ref (ad 48), .ref (ad 49), .ref (ad 50)]) g37 hts (fun w hw => List.mem_cons_of_mem _ (fW_Md w hw)) fY_Md fK_Md fN_Md hown (ci := 5) (C := "NonceBoxModel") (T := fT_Md) (N := 16) rfl 3 (by decide) (hts _ (List.mem_cons_of_mem _ kf_Md_50)) rfl rfl (v := .int (nI (0))) rfl rfl (Nat.le_of_ble_eq_true rfl) d_Md_mix_2 (fun H locs h => ?_)
  have h : wT G A 52 ad (va_up ev 37 (eO 5 [.ref (ad 38), .int (nI (tl)), .int (nI (ol)), .int (nI (0)), .ref (ad 39), .ref (ad 40), .ref (ad 41), .ref (ad 42), .ref (ad 43), .ref (ad 44), .ref (ad 45), .ref (ad 46), .ref (ad 47), .ref (ad 48), .ref (ad 49), .ref (ad 50)])) s H locs := h
  obtain ⟨ev1, o1⟩ : ∃ z, z = va_up ev 37 (eO 5 [.ref (ad 38), .int (nI (tl)), .int (nI (ol)), .int (nI (0)), .ref (ad 39), .ref (ad 40), .ref (ad 41), .ref (ad 42), .ref (ad 43), .ref (ad 44), .ref (ad 45), .ref (ad 46), .ref (ad 47), .ref (ad 48), .ref (ad 49), .ref (ad 50)]) := ⟨_, rfl⟩
  rw [← o1] at h
  have t1_37 : ev1 37 = eO 5 [.ref (ad 38), .int (nI (tl)), .int (nI (ol)), .int (nI (0)), .ref (ad 39), .ref (ad 40), .ref (ad 41), .ref (ad 42), .ref (ad 43), .ref (ad 44), .ref (ad 45), .ref (ad 46), .ref (ad 47), .ref (ad 48), .ref (ad 49), .ref (ad 50)] := by rw [o1, va_up_self]
  have t1_38 := (show ev1 38 = ev 38 by rw [o1, va_up_ne _ _ (by decide)]).trans g38
  have t1_39 := (show ev1 39 = ev 39 by rw [o1, va_up_ne _ _ (by decide)]).trans g39
  have t1_40 := (show ev1 40 = ev 40 by rw [o1, va_up_ne _ _ (by decide)]).trans g40
  have t1_41 := (show ev1 41 = ev 41 by rw [o1, va_up_ne _ _ (by decide)]).trans g41
  have t1_42 := (show ev1 42 = ev 42 by rw [o1, va_up_ne _ _ (by decide)]).trans g42
  have t1_43 := (show ev1 43 = ev 43 by rw [o1, va_up_ne _ _ (by decide)]).trans g43
  have t1_44 := (show ev1 44 = ev 44 by rw [o1, va_up_ne _ _ (by decide)]).trans g44
  have t1_45 := (show ev1 45 = ev 45 by rw [o1, va_up_ne _ _ (by decide)]).trans g45
  have t1_46 := (show ev1 46 = ev 46 by rw [o1, va_up_ne _ _ (by decide)]).trans g46
  have t1_47 := (show ev1 47 = ev 47 by rw [o1, va_up_ne _ _ (by decide)]).trans g47
  have t1_48 := (show ev1 48 = ev 48 by rw [o1, va_up_ne _ _ (by decide)]).trans g48
  have t1_49 := (show ev1 49 = ev 49 by rw [o1, va_up_ne _ _ (by decide)]).trans g49
  have t1_50 := (show ev1 50 = ev 50 by rw [o1, va_up_ne _ _ (by decide)]).trans g50
  refine lv_aload_n hx hb d_Md_mix_5 rfl (lv_at hl 0 rfl) ?_
  refine wv_V (As := []) (rest := []) (k := 0) ⟨hx, hb, hml, hown, hts⟩ h 37 (by decide) (C := "NonceBoxModel") t1_37 rfl (m_Md_takeKey l G A ad ev1 FF (Bf 0) x39 tl ol 0 t1_37 t1_38 t1_39 (fun j hj => (congrArg FF (Nat.zero_add j)).symm.trans (hFB 0 (by decide) j hj))) kc_Md_takeKey kl_Md_103 km_Md_takeKey kv_Md_takeKey ki_Md (by decide +kernel) ⟨rfl, rfl, Nat.le_of_ble_eq_true rfl, Nat.le_of_ble_eq_true rfl⟩ hl.1 rfl rfl (Nat.le_of_ble_eq_true rfl) ⟨Nat.le_refl _, Nat.le_refl _⟩ d_Md_mix_6 ?_
  intro ov ev2 H locs hp h
  rw [hp.1]
  refine W.eq (g2 := F0 m 9 ls []) rfl ?_
  have o2 : ev2 = (va_up ev1 39 (eI G 32 (ns (Bf 0)))) := hp.2
  have t2_39 : ev2 39 = eI G 32 (ns (Bf 0)) := by rw [o2, va_up_self]
  have t2_38 := (show ev2 38 = ev1 38 by rw [o2, va_up_ne _ _ (by decide)]).trans t1_38
  have t2_40 := (show ev2 40 = ev1 40 by rw [o2, va_up_ne _ _ (by decide)]).trans t1_40
  have t2_41 := (show ev2 41 = ev1 41 by rw [o2, va_up_ne _ _ (by decide)]).trans t1_41
  have t2_42 := (show ev2 42 = ev1 42 by rw [o2, va_up_ne _ _ (by decide)]).trans t1_42
  have t2_43 := (show ev2 43 = ev1 43 by rw [o2, va_up_ne _ _ (by decide)]).trans t1_43
  have t2_44 := (show ev2 44 = ev1 44 by rw [o2, va_up_ne _ _ (by decide)]).trans t1_44
  have t2_45 := (show ev2 45 = ev1 45 by rw [o2, va_up_ne _ _ (by decide)]).trans t1_45
  have t2_46 := (show ev2 46 = ev1 46 by rw [o2, va_up_ne _ _ (by decide)]).trans t1_46
  have t2_47 := (show ev2 47 = ev1 47 by rw [o2, va_up_ne _ _ (by decide)]).trans t1_47
  have t2_48 := (show ev2 48 = ev1 48 by rw [o2, va_up_ne _ _ (by decide)]).trans t1_48
  have t2_49 := (show ev2 49 = ev1 49 by rw [o2, va_up_ne _ _ (by decide)]).trans t1_49
  have t2_50 := (show ev2 50 = ev1 50 by rw [o2, va_up_ne _ _ (by decide)]).trans t1_50
  have t2_37 := (show ev2 37 = ev1 37 by rw [o2, va_up_ne _ _ (by decide)]).trans t1_37
  refine lv_iconst (v := nI (0)) hx hb d_Md_mix_9 (by decide) ?_
  refine lv_istore_n (lv' := [(1, .int (nI (0))), (0, .ref (ad 37))]) hx hb d_Md_mix_10 rfl hl (by decide) rfl (fun ls hl => ?_)
  have loop3 : ∀ (d k : Nat), k + d = 16 →  ∀ (ev3 : Nat → va_E) (H : Heap) (locs : List Loc) (ls : Array Slot), ev3 = (va_up ev2 40 (eI G 16 (ns (fil 0 k (fun j => FF (32 + j)) x40)))) → wT G A 52 ad ev3 s H locs → lv_has ls 2 [(1, .int (nI (k))), (0, .ref (ad 37))] → W p l e ({ frames := 15, cells := 0, slots := 0, locals := 500 }) s m ([.ref (ad 37)] : List Value).toArray below meth c H locs 0 0 (MQ below (wQc G A 52 ad (fun ov ev' => ov = none ∧ MD G ad ev' (va_up Bf 4 (outF 32 (MIXB (Bf 0) (Bf 1)))) tl 32 0 ∧ ∀ j, j < 37 ∨ 50 < j → ev' j = ev j)) ([.ref (ad 37)] : List Value).toArray s 0 0 A) (F0 m 11 ls []) := by
    intro d
    induction d with
    | zero =>
      intro k hk_k  ev3 H locs ls  o3 h hl
      have t3_40 : ev3 40 = eI G 16 (ns (fil 0 k (fun j => FF (32 + j)) x40)) := by rw [o3, va_up_self]
      have t3_38 := (show ev3 38 = ev2 38 by rw [o3, va_up_ne _ _ (by decide)]).trans t2_38
      have t3_39 := (show ev3 39 = ev2 39 by rw [o3, va_up_ne _ _ (by decide)]).trans t2_39
      have t3_41 := (show ev3 41 = ev2 41 by rw [o3, va_up_ne _ _ (by decide)]).trans t2_41
      have t3_42 := (show ev3 42 = ev2 42 by rw [o3, va_up_ne _ _ (by decide)]).trans t2_42
      have t3_43 := (show ev3 43 = ev2 43 by rw [o3, va_up_ne _ _ (by decide)]).trans t2_43
      have t3_44 := (show ev3 44 = ev2 44 by rw [o3, va_up_ne _ _ (by decide)]).trans t2_44
      have t3_45 := (show ev3 45 = ev2 45 by rw [o3, va_up_ne _ _ (by decide)]).trans t2_45
      have t3_46 := (show ev3 46 = ev2 46 by rw [o3, va_up_ne _ _ (by decide)]).trans t2_46
      have t3_47 := (show ev3 47 = ev2 47 by rw [o3, va_up_ne _ _ (by decide)]).trans t2_47
      have t3_48 := (show ev3 48 = ev2 48 by rw [o3, va_up_ne _ _ (by decide)]).trans t2_48
      have t3_49 := (show ev3 49 = ev2 49 by rw [o3, va_up_ne _ _ (by decide)]).trans t2_49
      have t3_50 := (show ev3 50 = ev2 50 by rw [o3, va_up_ne _ _ (by decide)]).trans t2_50
      have t3_37 := (show ev3 37 = ev2 37 by rw [o3, va_up_ne _ _ (by decide)]).trans t2_37
      refine lv_iload_n hx hb d_Md_mix_11 rfl (lv_at hl 0 rfl) ?_
      refine lv_bipush (v := nI (16)) hx hb d_Md_mix_12 (by decide) ?_
      refine lv_icmp_ge (tgt := 38) hx hb d_Md_mix_14 (by decide) (fun _ => ?_) (fun hc => absurd ((nI_leI (by omega) (by omega)).mpr (by omega)) hc)
      have h := wT_eqI (g := (ns (Bf 1))) h 40 (by decide) t3_40 (fun j hj => by unfold ns fil; rw [if_pos (by omega), Nat.sub_zero]; exact congrArg nI (hFB 1 (by decide) j (by show j < 24; omega)))
      obtain ⟨ev4, o4⟩ : ∃ z, z = va_up ev3 40 (eI G 16 (ns (Bf 1))) := ⟨_, rfl⟩
      rw [← o4] at h
      have t4_40 : ev4 40 = eI G 16 (ns (Bf 1)) := by rw [o4, va_up_self]
      have t4_38 := (show ev4 38 = ev3 38 by rw [o4, va_up_ne _ _ (by decide)]).trans t3_38
      have t4_39 := (show ev4 39 = ev3 39 by rw [o4, va_up_ne _ _ (by decide)]).trans t3_39
      have t4_41 := (show ev4 41 = ev3 41 by rw [o4, va_up_ne _ _ (by decide)]).trans t3_41
      have t4_42 := (show ev4 42 = ev3 42 by rw [o4, va_up_ne _ _ (by decide)]).trans t3_42
      have t4_43 := (show ev4 43 = ev3 43 by rw [o4, va_up_ne _ _ (by decide)]).trans t3_43
      have t4_44 := (show ev4 44 = ev3 44 by rw [o4, va_up_ne _ _ (by decide)]).trans t3_44
      have t4_45 := (show ev4 45 = ev3 45 by rw [o4, va_up_ne _ _ (by decide)]).trans t3_45
      have t4_46 := (show ev4 46 = ev3 46 by rw [o4, va_up_ne _ _ (by decide)]).trans t3_46
      have t4_47 := (show ev4 47 = ev3 47 by rw [o4, va_up_ne _ _ (by decide)]).trans t3_47
      have t4_48 := (show ev4 48 = ev3 48 by rw [o4, va_up_ne _ _ (by decide)]).trans t3_48
      have t4_49 := (show ev4 49 = ev3 49 by rw [o4, va_up_ne _ _ (by decide)]).trans t3_49
      have t4_50 := (show ev4 50 = ev3 50 by rw [o4, va_up_ne _ _ (by decide)]).trans t3_50
      have t4_37 := (show ev4 37 = ev3 37 by rw [o4, va_up_ne _ _ (by decide)]).trans t3_37
      refine lv_aload_n hx hb d_Md_mix_38 rfl (lv_at hl 1 rfl) ?_
      refine wv_V (As := []) (rest := []) (k := 0) ⟨hx, hb, hml, hown, hts⟩ h 37 (by decide) (C := "NonceBoxModel") t4_37 rfl (m_Md_mixKey l G A ad ev4 (Bf 0) (Bf 1) x41 x42 tl ol 0 t4_37 t4_39 t4_40 t4_41 t4_42) kc_Md_mixKey kl_Md_96 km_Md_mixKey kv_Md_mixKey ki_Md (by decide +kernel) ⟨rfl, rfl, Nat.le_of_ble_eq_true rfl, Nat.le_of_ble_eq_true rfl⟩ hl.1 rfl rfl (Nat.le_of_ble_eq_true rfl) ⟨Nat.le_refl _, Nat.le_refl _⟩ d_Md_mix_39 ?_
      intro ov ev5 H locs hp h
      rw [hp.1]
      refine W.eq (g2 := F0 m 42 ls []) rfl ?_
      have o5 : ev5 = (va_up (va_up (va_up ev4 41 (eI G 16 (LAY (Bf 0) (Bf 1)))) 42 (eI G 16 (RND (Bf 0) (Bf 1)))) 39 (eI G 32 (ns (MIXB (Bf 0) (Bf 1))))) := hp.2
      have t5_41 : ev5 41 = eI G 16 (LAY (Bf 0) (Bf 1)) := by rw [o5, va_up_ne _ _ (by decide), va_up_ne _ _ (by decide), va_up_self]
      have t5_42 : ev5 42 = eI G 16 (RND (Bf 0) (Bf 1)) := by rw [o5, va_up_ne _ _ (by decide), va_up_self]
      have t5_39 : ev5 39 = eI G 32 (ns (MIXB (Bf 0) (Bf 1))) := by rw [o5, va_up_self]
      have t5_38 := (show ev5 38 = ev4 38 by rw [o5, va_up_ne _ _ (by decide), va_up_ne _ _ (by decide), va_up_ne _ _ (by decide)]).trans t4_38
      have t5_40 := (show ev5 40 = ev4 40 by rw [o5, va_up_ne _ _ (by decide), va_up_ne _ _ (by decide), va_up_ne _ _ (by decide)]).trans t4_40
      have t5_43 := (show ev5 43 = ev4 43 by rw [o5, va_up_ne _ _ (by decide), va_up_ne _ _ (by decide), va_up_ne _ _ (by decide)]).trans t4_43
      have t5_44 := (show ev5 44 = ev4 44 by rw [o5, va_up_ne _ _ (by decide), va_up_ne _ _ (by decide), va_up_ne _ _ (by decide)]).trans t4_44
      have t5_45 := (show ev5 45 = ev4 45 by rw [o5, va_up_ne _ _ (by decide), va_up_ne _ _ (by decide), va_up_ne _ _ (by decide)]).trans t4_45
      have t5_46 := (show ev5 46 = ev4 46 by rw [o5, va_up_ne _ _ (by decide), va_up_ne _ _ (by decide), va_up_ne _ _ (by decide)]).trans t4_46
      have t5_47 := (show ev5 47 = ev4 47 by rw [o5, va_up_ne _ _ (by decide), va_up_ne _ _ (by decide), va_up_ne _ _ (by decide)]).trans t4_47
      have t5_48 := (show ev5 48 = ev4 48 by rw [o5, va_up_ne _ _ (by decide), va_up_ne _ _ (by decide), va_up_ne _ _ (by decide)]).trans t4_48
      have t5_49 := (show ev5 49 = ev4 49 by rw [o5, va_up_ne _ _ (by decide), va_up_ne _ _ (by decide), va_up_ne _ _ (by decide)]).trans t4_49
      have t5_50 := (show ev5 50 = ev4 50 by rw [o5, va_up_ne _ _ (by decide), va_up_ne _ _ (by decide), va_up_ne _ _ (by decide)]).trans t4_50
      have t5_37 := (show ev5 37 = ev4 37 by rw [o5, va_up_ne _ _ (by decide), va_up_ne _ _ (by decide), va_up_ne _ _ (by decide)]).trans t4_37
      refine lv_aload_n hx hb d_Md_mix_42 rfl (lv_at hl 1 rfl) ?_
      refine lv_aload_n hx hb d_Md_mix_43 rfl (lv_at hl 1 rfl) ?_
      refine wv_getf hx hb h 37 (by decide) (fs := [.ref (ad 38), .int (nI (tl)), .int (nI (ol)), .int (nI (0)), .ref (ad 39), .ref (ad 40), .ref (ad 41), .ref (ad 42), .ref (ad 43), .ref (ad 44), .ref (ad 45), .ref (ad 46), .ref (ad 47), .ref (ad 48), .ref (ad 49), .ref (ad 50)]) t5_37 hts (fun w hw => List.mem_cons_of_mem _ (fW_Md w hw)) hown (ci := 5) (C := "NonceBoxModel") (T := fT_Md) (N := 16) rfl 4 (by decide) (hts _ (List.mem_cons_of_mem _ kf_Md_13)) rfl (v := .ref (ad 39)) rfl d_Md_mix_44 ?_
      refine lv_bipush (v := nI (32)) hx hb d_Md_mix_47 (by decide) ?_
      refine wv_V (As := [.ref (ad 39), .int (nI (32))]) (rest := []) (k := 2) ⟨hx, hb, hml, hown, hts⟩ h 37 (by decide) (C := "NonceBoxModel") t5_37 rfl (m_Md_outFrom l G A ad ev5 39 32 32 FF (MIXB (Bf 0) (Bf 1)) tl ol 0 t5_37 (by decide) t5_38 t5_39 (by decide) (by decide) (by decide)) kc_Md_outFrom kl_Md_106 km_Md_outFrom kv_Md_outFrom ki_Md (by decide +kernel) ⟨rfl, rfl, Nat.le_of_ble_eq_true rfl, Nat.le_of_ble_eq_true rfl⟩ hl.1 rfl rfl (Nat.le_of_ble_eq_true rfl) ⟨Nat.le_refl _, Nat.le_refl _⟩ d_Md_mix_49 ?_
      intro ov ev6 H locs hp h
      rw [hp.1]
      refine W.eq (g2 := F0 m 52 ls []) rfl ?_
      have o6 : ev6 = va_up (va_up ev5 38 (eI G 312 (ns (fil 200 112 (outF 32 (MIXB (Bf 0) (Bf 1))) FF)))) 37 (eO 5 [.ref (ad 38), .int (nI tl), .int (nI 32), .int (nI 0), .ref (ad 39), .ref (ad 40), .ref (ad 41), .ref (ad 42), .ref (ad 43), .ref (ad 44), .ref (ad 45), .ref (ad 46), .ref (ad 47), .ref (ad 48), .ref (ad 49), .ref (ad 50)]) := hp.2
      have t6_38 : ev6 38 = eI G 312 (ns (fil 200 112 (outF 32 (MIXB (Bf 0) (Bf 1))) FF)) := by rw [o6, va_up_ne _ _ (by decide), va_up_self]
      have t6_37 : ev6 37 = eO 5 [.ref (ad 38), .int (nI tl), .int (nI 32), .int (nI 0), .ref (ad 39), .ref (ad 40), .ref (ad 41), .ref (ad 42), .ref (ad 43), .ref (ad 44), .ref (ad 45), .ref (ad 46), .ref (ad 47), .ref (ad 48), .ref (ad 49), .ref (ad 50)] := by rw [o6, va_up_self]
      have t6_39 := (show ev6 39 = ev5 39 by rw [o6, va_up_ne _ _ (by decide), va_up_ne _ _ (by decide)]).trans t5_39
      have t6_40 := (show ev6 40 = ev5 40 by rw [o6, va_up_ne _ _ (by decide), va_up_ne _ _ (by decide)]).trans t5_40
      have t6_41 := (show ev6 41 = ev5 41 by rw [o6, va_up_ne _ _ (by decide), va_up_ne _ _ (by decide)]).trans t5_41
      have t6_42 := (show ev6 42 = ev5 42 by rw [o6, va_up_ne _ _ (by decide), va_up_ne _ _ (by decide)]).trans t5_42
      have t6_43 := (show ev6 43 = ev5 43 by rw [o6, va_up_ne _ _ (by decide), va_up_ne _ _ (by decide)]).trans t5_43
      have t6_44 := (show ev6 44 = ev5 44 by rw [o6, va_up_ne _ _ (by decide), va_up_ne _ _ (by decide)]).trans t5_44
      have t6_45 := (show ev6 45 = ev5 45 by rw [o6, va_up_ne _ _ (by decide), va_up_ne _ _ (by decide)]).trans t5_45
      have t6_46 := (show ev6 46 = ev5 46 by rw [o6, va_up_ne _ _ (by decide), va_up_ne _ _ (by decide)]).trans t5_46
      have t6_47 := (show ev6 47 = ev5 47 by rw [o6, va_up_ne _ _ (by decide), va_up_ne _ _ (by decide)]).trans t5_47
      have t6_48 := (show ev6 48 = ev5 48 by rw [o6, va_up_ne _ _ (by decide), va_up_ne _ _ (by decide)]).trans t5_48
      have t6_49 := (show ev6 49 = ev5 49 by rw [o6, va_up_ne _ _ (by decide), va_up_ne _ _ (by decide)]).trans t5_49
      have t6_50 := (show ev6 50 = ev5 50 by rw [o6, va_up_ne _ _ (by decide), va_up_ne _ _ (by decide)]).trans t5_50
      exact wv_vret hx hb hr hlocks h d_Md_mix_52 ⟨rfl, ⟨t6_37, ⟨_, FB_out hFB, t6_38⟩, ⟨_, t6_39⟩, ⟨_, t6_40⟩, ⟨_, t6_41⟩, ⟨_, t6_42⟩, ⟨_, t6_43⟩, ⟨_, t6_44⟩, ⟨_, t6_45⟩, ⟨_, t6_46⟩, ⟨_, t6_47⟩, ⟨_, t6_48⟩, ⟨_, t6_49⟩, ⟨_, b50, t6_50⟩, Bf_lt hB (outF_lt (MIXB_lt _ _)) 4, htl, (by decide)⟩, (fun j hj => by rw [o6, va_up_ne _ _ (by omega), va_up_ne _ _ (by omega), o5, va_up_ne _ _ (by omega), va_up_ne _ _ (by omega), va_up_ne _ _ (by omega), o4, va_up_ne _ _ (by omega), o3, va_up_ne _ _ (by omega), o2, va_up_ne _ _ (by omega), o1, va_up_ne _ _ (by omega)])⟩
    | succ d ih =>
      intro k hk_k  ev3 H locs ls  o3 h hl
      have t3_40 : ev3 40 = eI G 16 (ns (fil 0 k (fun j => FF (32 + j)) x40)) := by rw [o3, va_up_self]
      have t3_38 := (show ev3 38 = ev2 38 by rw [o3, va_up_ne _ _ (by decide)]).trans t2_38
      have t3_39 := (show ev3 39 = ev2 39 by rw [o3, va_up_ne _ _ (by decide)]).trans t2_39
      have t3_41 := (show ev3 41 = ev2 41 by rw [o3, va_up_ne _ _ (by decide)]).trans t2_41
      have t3_42 := (show ev3 42 = ev2 42 by rw [o3, va_up_ne _ _ (by decide)]).trans t2_42
      have t3_43 := (show ev3 43 = ev2 43 by rw [o3, va_up_ne _ _ (by decide)]).trans t2_43
      have t3_44 := (show ev3 44 = ev2 44 by rw [o3, va_up_ne _ _ (by decide)]).trans t2_44
      have t3_45 := (show ev3 45 = ev2 45 by rw [o3, va_up_ne _ _ (by decide)]).trans t2_45
      have t3_46 := (show ev3 46 = ev2 46 by rw [o3, va_up_ne _ _ (by decide)]).trans t2_46
      have t3_47 := (show ev3 47 = ev2 47 by rw [o3, va_up_ne _ _ (by decide)]).trans t2_47
      have t3_48 := (show ev3 48 = ev2 48 by rw [o3, va_up_ne _ _ (by decide)]).trans t2_48
      have t3_49 := (show ev3 49 = ev2 49 by rw [o3, va_up_ne _ _ (by decide)]).trans t2_49
      have t3_50 := (show ev3 50 = ev2 50 by rw [o3, va_up_ne _ _ (by decide)]).trans t2_50
      have t3_37 := (show ev3 37 = ev2 37 by rw [o3, va_up_ne _ _ (by decide)]).trans t2_37
      refine lv_iload_n hx hb d_Md_mix_11 rfl (lv_at hl 0 rfl) ?_
      refine lv_bipush (v := nI (16)) hx hb d_Md_mix_12 (by decide) ?_
      refine lv_icmp_ge (tgt := 38) hx hb d_Md_mix_14 (by decide) (fun hc => absurd ((nI_leI (by omega) (by omega)).mp hc) (by omega)) (fun _ => ?_)
      refine lv_aload_n hx hb d_Md_mix_17 rfl (lv_at hl 1 rfl) ?_
      refine wv_getf hx hb h 37 (by decide) (fs := [.ref (ad 38), .int (nI (tl)), .int (nI (ol)), .int (nI (0)), .ref (ad 39), .ref (ad 40), .ref (ad 41), .ref (ad 42), .ref (ad 43), .ref (ad 44), .ref (ad 45), .ref (ad 46), .ref (ad 47), .ref (ad 48), .ref (ad 49), .ref (ad 50)]) t3_37 hts (fun w hw => List.mem_cons_of_mem _ (fW_Md w hw)) hown (ci := 5) (C := "NonceBoxModel") (T := fT_Md) (N := 16) rfl 5 (by decide) (hts _ (List.mem_cons_of_mem _ kf_Md_16)) rfl (v := .ref (ad 40)) rfl d_Md_mix_18 ?_
      refine lv_iload_n hx hb d_Md_mix_21 rfl (lv_at hl 0 rfl) ?_
      refine lv_aload_n hx hb d_Md_mix_22 rfl (lv_at hl 1 rfl) ?_
      refine wv_getf hx hb h 37 (by decide) (fs := [.ref (ad 38), .int (nI (tl)), .int (nI (ol)), .int (nI (0)), .ref (ad 39), .ref (ad 40), .ref (ad 41), .ref (ad 42), .ref (ad 43), .ref (ad 44), .ref (ad 45), .ref (ad 46), .ref (ad 47), .ref (ad 48), .ref (ad 49), .ref (ad 50)]) t3_37 hts (fun w hw => List.mem_cons_of_mem _ (fW_Md w hw)) hown (ci := 5) (C := "NonceBoxModel") (T := fT_Md) (N := 16) rfl 0 (by decide) (hts _ (List.mem_cons_of_mem _ kf_Md_7)) rfl (v := .ref (ad 38)) rfl d_Md_mix_23 ?_
      refine lv_bipush (v := nI (32)) hx hb d_Md_mix_26 (by decide) ?_
      refine lv_iload_n hx hb d_Md_mix_28 rfl (lv_at hl 0 rfl) ?_
      refine lv_iadd hx hb d_Md_mix_29 ?_
      refine wv_top (w := nI (32 + k)) (nI_add _ _) ?_
      refine wv_iald hx hb h 38 (by decide) (f := (ns FF)) t3_38 (k := 32 + k) rfl (by omega) (by decide) d_Md_mix_30 ?_
      refine wv_iast hx hb h 40 (by decide) (f := (ns (fil 0 k (fun j => FF (32 + j)) x40))) t3_40 (k := k) rfl (by omega) (by decide) d_Md_mix_31 (fun H locs h => ?_)
      obtain ⟨ev4, o4⟩ : ∃ z, z = va_up ev3 40 (eI G 16 (va_up ((ns (fil 0 k (fun j => FF (32 + j)) x40))) k (((ns FF)) (32 + k)))) := ⟨_, rfl⟩
      rw [← o4] at h
      have t4_40 : ev4 40 = eI G 16 (va_up ((ns (fil 0 k (fun j => FF (32 + j)) x40))) k (((ns FF)) (32 + k))) := by rw [o4, va_up_self]
      have t4_38 := (show ev4 38 = ev3 38 by rw [o4, va_up_ne _ _ (by decide)]).trans t3_38
      have t4_39 := (show ev4 39 = ev3 39 by rw [o4, va_up_ne _ _ (by decide)]).trans t3_39
      have t4_41 := (show ev4 41 = ev3 41 by rw [o4, va_up_ne _ _ (by decide)]).trans t3_41
      have t4_42 := (show ev4 42 = ev3 42 by rw [o4, va_up_ne _ _ (by decide)]).trans t3_42
      have t4_43 := (show ev4 43 = ev3 43 by rw [o4, va_up_ne _ _ (by decide)]).trans t3_43
      have t4_44 := (show ev4 44 = ev3 44 by rw [o4, va_up_ne _ _ (by decide)]).trans t3_44
      have t4_45 := (show ev4 45 = ev3 45 by rw [o4, va_up_ne _ _ (by decide)]).trans t3_45
      have t4_46 := (show ev4 46 = ev3 46 by rw [o4, va_up_ne _ _ (by decide)]).trans t3_46
      have t4_47 := (show ev4 47 = ev3 47 by rw [o4, va_up_ne _ _ (by decide)]).trans t3_47
      have t4_48 := (show ev4 48 = ev3 48 by rw [o4, va_up_ne _ _ (by decide)]).trans t3_48
      have t4_49 := (show ev4 49 = ev3 49 by rw [o4, va_up_ne _ _ (by decide)]).trans t3_49
      have t4_50 := (show ev4 50 = ev3 50 by rw [o4, va_up_ne _ _ (by decide)]).trans t3_50
      have t4_37 := (show ev4 37 = ev3 37 by rw [o4, va_up_ne _ _ (by decide)]).trans t3_37
      rw [ns_up _ _ (FF (32 + k)) (x := ns FF (32 + k)) rfl] at o4
      refine lv_iinc (v := nI (k + 1)) (lv' := [(1, .int (nI (k + 1))), (0, .ref (ad 37))]) hx hb d_Md_mix_32 hl (k := 0) rfl (nI_add _ _) (by decide) rfl (fun ls hl => ?_)
      refine lv_goto (tgt := 11) hx hb d_Md_mix_35 (by decide) ?_
      refine ih (k + 1) (by omega) ev4 H locs ls ?_ h (lv_sub hl [0, 1] rfl)
      rw [o4, o3, va_up2, ← fil_s 0 k (fun j => FF (32 + j)) x40 rfl, Nat.zero_add]
  exact loop3 16 0 rfl ev2 H locs ls (by rw [fil_0, va_upi _ _ t2_40]) h (lv_sub hl [0, 1] rfl)
