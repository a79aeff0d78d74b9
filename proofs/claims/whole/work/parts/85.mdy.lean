theorem nI_x (a b : Nat) : nI a ^^^ nI b = nI (a ^^^ b) := Int32.toBitVec_inj.mp (by
  show BitVec.ofNat 32 a ^^^ BitVec.ofNat 32 b = BitVec.ofNat 32 (a ^^^ b)
  apply BitVec.eq_of_toNat_eq
  rw [BitVec.toNat_xor, BitVec.toNat_ofNat, BitVec.toNat_ofNat, BitVec.toNat_ofNat, Nat.xor_mod_two_pow])
/-- seal and box by a secret S -/
def spSeal (S : Nat → Nat) (Bf : Nat → Nat → Nat) (tl ol : Nat) (ans : Int32) (Bf' : Nat → Nat → Nat) (ol' cd' : Nat) : Prop :=
  (tl ≤ 96 ∧ ans = nI (16 + tl) ∧ Bf' = va_up Bf 4 (outF (16 + tl) (SEALB S (Bf 1) (Bf 3) tl)) ∧ ol' = 16 + tl ∧ cd' = 0) ∨ (¬ tl ≤ 96 ∧ ans = nI 0 ∧ Bf' = Bf ∧ ol' = ol ∧ cd' = 1)
/-- open and unbox by a secret S -/
def spOpen (S : Nat → Nat) (Bf : Nat → Nat → Nat) (tl ol : Nat) (ans : Int32) (Bf' : Nat → Nat → Nat) (ol' cd' : Nat) : Prop :=
  (16 ≤ tl ∧ tagOK S (Bf 1) (Bf 3) (tl - 16) ∧ ans = nI (tl - 16) ∧ Bf' = va_up Bf 4 (outF (tl - 16) (OPNB S (Bf 1) (Bf 3))) ∧ ol' = tl - 16 ∧ cd' = 0) ∨ (16 ≤ tl ∧ ¬ tagOK S (Bf 1) (Bf 3) (tl - 16) ∧ ans = nI 0 ∧ Bf' = Bf ∧ ol' = ol ∧ cd' = 2) ∨ (¬ 16 ≤ tl ∧ ans = nI 0 ∧ Bf' = Bf ∧ ol' = ol ∧ cd' = 1)
theorem d_Md_tag_0 : decode c_Md_tag 0 = .ok (.aload_n 0, 1) := by decide +kernel
theorem d_Md_tag_1 : decode c_Md_tag 1 = .ok (.iconst 0, 1) := by decide +kernel
theorem d_Md_tag_2 : decode c_Md_tag 2 = .ok (.putfield 50, 3) := by decide +kernel
theorem d_Md_tag_5 : decode c_Md_tag 5 = .ok (.aload_n 0, 1) := by decide +kernel
theorem d_Md_tag_6 : decode c_Md_tag 6 = .ok (.invokevirtual 103, 3) := by decide +kernel
theorem d_Md_tag_9 : decode c_Md_tag 9 = .ok (.iconst 0, 1) := by decide +kernel
theorem d_Md_tag_10 : decode c_Md_tag 10 = .ok (.istore_n 1, 1) := by decide +kernel
theorem d_Md_tag_11 : decode c_Md_tag 11 = .ok (.iload_n 1, 1) := by decide +kernel
theorem d_Md_tag_12 : decode c_Md_tag 12 = .ok (.aload_n 0, 1) := by decide +kernel
theorem d_Md_tag_13 : decode c_Md_tag 13 = .ok (.getfield 67, 3) := by decide +kernel
theorem d_Md_tag_16 : decode c_Md_tag 16 = .ok (.if_icmp .ge 24, 3) := by decide +kernel
theorem d_Md_tag_19 : decode c_Md_tag 19 = .ok (.aload_n 0, 1) := by decide +kernel
theorem d_Md_tag_20 : decode c_Md_tag 20 = .ok (.getfield 47, 3) := by decide +kernel
theorem d_Md_tag_23 : decode c_Md_tag 23 = .ok (.iload_n 1, 1) := by decide +kernel
theorem d_Md_tag_24 : decode c_Md_tag 24 = .ok (.aload_n 0, 1) := by decide +kernel
theorem d_Md_tag_25 : decode c_Md_tag 25 = .ok (.getfield 7, 3) := by decide +kernel
theorem d_Md_tag_28 : decode c_Md_tag 28 = .ok (.bipush 88, 2) := by decide +kernel
theorem d_Md_tag_30 : decode c_Md_tag 30 = .ok (.iload_n 1, 1) := by decide +kernel
theorem d_Md_tag_31 : decode c_Md_tag 31 = .ok (.iadd, 1) := by decide +kernel
theorem d_Md_tag_32 : decode c_Md_tag 32 = .ok (.iaload, 1) := by decide +kernel
theorem d_Md_tag_33 : decode c_Md_tag 33 = .ok (.iastore, 1) := by decide +kernel
theorem d_Md_tag_34 : decode c_Md_tag 34 = .ok (.iinc 1 1, 3) := by decide +kernel
theorem d_Md_tag_37 : decode c_Md_tag 37 = .ok (.goto (-26), 3) := by decide +kernel
theorem d_Md_tag_40 : decode c_Md_tag 40 = .ok (.aload_n 0, 1) := by decide +kernel
theorem d_Md_tag_41 : decode c_Md_tag 41 = .ok (.aload_n 0, 1) := by decide +kernel
theorem d_Md_tag_42 : decode c_Md_tag 42 = .ok (.getfield 67, 3) := by decide +kernel
theorem d_Md_tag_45 : decode c_Md_tag 45 = .ok (.invokevirtual 133, 3) := by decide +kernel
theorem d_Md_tag_48 : decode c_Md_tag 48 = .ok (.aload_n 0, 1) := by decide +kernel
theorem d_Md_tag_49 : decode c_Md_tag 49 = .ok (.aload_n 0, 1) := by decide +kernel
theorem d_Md_tag_50 : decode c_Md_tag 50 = .ok (.getfield 44, 3) := by decide +kernel
theorem d_Md_tag_53 : decode c_Md_tag 53 = .ok (.bipush 16, 2) := by decide +kernel
theorem d_Md_tag_55 : decode c_Md_tag 55 = .ok (.invokevirtual 106, 3) := by decide +kernel
theorem d_Md_tag_58 : decode c_Md_tag 58 = .ok (.return_, 1) := by decide +kernel
set_option maxRecDepth 100000 in
set_option maxHeartbeats 4000000 in
/-- tag -/
theorem m_Md_tag (l : Launch) (G : wG) (A : Nat → Prop) (ad : Nat → Nat) (ev : Nat → va_E) (Bf : Nat → Nat → Nat) (tl ol cd : Nat) (hMD : MD G ad ev Bf tl ol cd) : wM l y_Md_tag w_Md_tag ({ frames := 12, cells := 0, slots := 0, locals := 400 }) G A 52 ad ev [.ref (ad 37)] (fun ov ev' => ov = none ∧ MD G ad ev' (va_up Bf 4 (outF 16 (TAGM (Bf 0) (Bf 3) 0 tl))) tl 16 0 ∧ ∀ j, j < 37 ∨ 50 < j → ev' j = ev j) := by
  refine wv_ofW (cc := c_Md_tag) (maxL := 2) (ret := none) (by decide) rfl (Nat.le_of_ble_eq_true rfl) ?_
  intro p e s m below meth c ls hx hb hr hml hts hown hlocks hini h hl
  have hl : lv_has ls 2 [(0, .ref (ad 37))] := hl
  obtain ⟨g37, ⟨FF, hFB, g38⟩, ⟨x39, g39⟩, ⟨x40, g40⟩, ⟨x41, g41⟩, ⟨x42, g42⟩, ⟨x43, g43⟩, ⟨x44, g44⟩, ⟨x45, g45⟩, ⟨x46, g46⟩, ⟨x47, g47⟩, ⟨x48, g48⟩, ⟨x49, g49⟩, ⟨x50, b50, g50⟩, hB, htl, hol⟩ := hMD
  refine lv_aload_n hx hb d_Md_tag_0 rfl (lv_at hl 0 rfl) ?_
  refine lv_iconst (v := nI (0)) hx hb d_Md_tag_1 (by decide) ?_
  refine wv_putf hx hb h 37 (by decide) (fs := [.ref (ad 38), .int (nI (tl)), .int (nI (ol)), .int (nI (cd)), .ref (ad 39), .ref (ad 40), .ref (ad 41), .ref (ad 42), .ref (ad 43), .ref (ad 44), .ref (ad 45), .ref (ad 46), .ref (ad 47), .ref (ad 48), .ref (ad 49), .ref (ad 50)]) g37 hts (fun w hw => List.mem_cons_of_mem _ (fW_Md w hw)) fY_Md fK_Md fN_Md hown (ci := 5) (C := "NonceBoxModel") (T := fT_Md) (N := 16) rfl 3 (by decide) (hts _ (List.mem_cons_of_mem _ kf_Md_50)) rfl rfl (v := .int (nI (0))) rfl rfl (Nat.le_of_ble_eq_true rfl) d_Md_tag_2 (fun H locs h => ?_)
  have h : wT G A 52 ad (va_up ev 37 (eO 5 [.ref (ad 38), .int (nI (tl)), .int (nI (ol)), .int (nI (0)), .ref (ad 39), .ref (ad 40), .ref (ad 41), .ref (ad 42), .ref (ad 43), .ref (ad 44), .ref (ad 45), .ref (ad 46), .ref (ad 47), .ref (ad 48), .ref (ad 49), .ref (ad 50)])) s H locs := h
  obtain ⟨ev1, o1⟩ : ∃ z, z = va_up ev 37 (eO 5 [.ref (ad 38), .int (nI (tl)), .int (nI (ol)), .int (nI (0)), .ref (ad 39), .ref (ad 40), .ref (ad 41), .ref (ad 42), .ref (ad 43), .ref (ad 44), .ref (ad 45), .ref (ad 46), .ref (ad 47), .ref (ad 48), .ref (ad 49), .ref (ad 50)]) := ⟨_, rfl⟩
  rw [← o1] at h
  have t1_37 : ev1 37 = eO 5 [.ref (ad 38), .int (nI (tl)), .int (nI (ol)), .int (nI (0)), .ref (ad 39), .ref (ad 40), .ref (ad 41), .ref (ad 42), .ref (ad 43), .ref (ad 44), .ref (ad 45), .ref (ad 46), .ref (ad 47), .ref (ad 48), .ref (ad 49), .ref (ad 50)] := by rw [o1, va_up_self]
  have t1_38 := (show ev1 38 = ev 38 by rw [o1, va_up_ne _ _ (by decide)]).trans g38
  have t1_39 := (show ev1 39 = ev 39 by rw [o1, va_up_ne _ _ (by decide)]).trans g39
  have t1_40 := (show ev1 40 = ev 40 by rw [o1, va_up_ne _ _ (by decide)]).trans g40
  have t1_41 := (show ev1 41 = ev 41 by rw [o1, va_up_ne _ _ (by decide)]).trans g41
  have t1_42 := (show ev1 42 = ev 42 by rw [o1, va_up_ne _ _ (by decide)]).trans g42
  have t1_43 := (show ev1 43 = ev 43 by rw [o1, va_up_ne _ _ (by decide)]).trans g43
  have t1_44 := (show ev1 44 = ev 44 by rw [o1, va_up_ne _ _ (by decide)]).trans g44
  have t1_45 := (show ev1 45 = ev 45 by rw [o1, va_up_ne _ _ (by decide)]).trans g45
  have t1_46 := (show ev1 46 = ev 46 by rw [o1, va_up_ne _ _ (by decide)]).trans g46
  have t1_47 := (show ev1 47 = ev 47 by rw [o1, va_up_ne _ _ (by decide)]).trans g47
  have t1_48 := (show ev1 48 = ev 48 by rw [o1, va_up_ne _ _ (by decide)]).trans g48
  have t1_49 := (show ev1 49 = ev 49 by rw [o1, va_up_ne _ _ (by decide)]).trans g49
  have t1_50 := (show ev1 50 = ev 50 by rw [o1, va_up_ne _ _ (by decide)]).trans g50
  refine lv_aload_n hx hb d_Md_tag_5 rfl (lv_at hl 0 rfl) ?_
  refine wv_V (As := []) (rest := []) (k := 0) ⟨hx, hb, hml, hown, hts⟩ h 37 (by decide) (C := "NonceBoxModel") t1_37 rfl (m_Md_takeKey l G A ad ev1 FF (Bf 0) x39 tl ol 0 t1_37 t1_38 t1_39 (fun j hj => (congrArg FF (Nat.zero_add j)).symm.trans (hFB 0 (by decide) j hj))) kc_Md_takeKey kl_Md_103 km_Md_takeKey kv_Md_takeKey ki_Md (by decide +kernel) ⟨rfl, rfl, Nat.le_of_ble_eq_true rfl, Nat.le_of_ble_eq_true rfl⟩ hl.1 rfl rfl (Nat.le_of_ble_eq_true rfl) ⟨Nat.le_refl _, Nat.le_refl _⟩ d_Md_tag_6 ?_
  intro ov ev2 H locs hp h
  rw [hp.1]
  refine W.eq (g2 := F0 m 9 ls []) rfl ?_
  have o2 : ev2 = (va_up ev1 39 (eI G 32 (ns (Bf 0)))) := hp.2
  have t2_39 : ev2 39 = eI G 32 (ns (Bf 0)) := by rw [o2, va_up_self]
  have t2_38 := (show ev2 38 = ev1 38 by rw [o2, va_up_ne _ _ (by decide)]).trans t1_38
  have t2_40 := (show ev2 40 = ev1 40 by rw [o2, va_up_ne _ _ (by decide)]).trans t1_40
  have t2_41 := (show ev2 41 = ev1 41 by rw [o2, va_up_ne _ _ (by decide)]).trans t1_41
  have t2_42 := (show ev2 42 = ev1 42 by rw [o2, va_up_ne _ _ (by decide)]).trans t1_42
  have t2_43 := (show ev2 43 = ev1 43 by rw [o2, va_up_ne _ _ (by decide)]).trans t1_43
  have t2_44 := (show ev2 44 = ev1 44 by rw [o2, va_up_ne _ _ (by decide)]).trans t1_44
  have t2_45 := (show ev2 45 = ev1 45 by rw [o2, va_up_ne _ _ (by decide)]).trans t1_45
  have t2_46 := (show ev2 46 = ev1 46 by rw [o2, va_up_ne _ _ (by decide)]).trans t1_46
  have t2_47 := (show ev2 47 = ev1 47 by rw [o2, va_up_ne _ _ (by decide)]).trans t1_47
  have t2_48 := (show ev2 48 = ev1 48 by rw [o2, va_up_ne _ _ (by decide)]).trans t1_48
  have t2_49 := (show ev2 49 = ev1 49 by rw [o2, va_up_ne _ _ (by decide)]).trans t1_49
  have t2_50 := (show ev2 50 = ev1 50 by rw [o2, va_up_ne _ _ (by decide)]).trans t1_50
  have t2_37 := (show ev2 37 = ev1 37 by rw [o2, va_up_ne _ _ (by decide)]).trans t1_37
  refine lv_iconst (v := nI (0)) hx hb d_Md_tag_9 (by decide) ?_
  refine lv_istore_n (lv' := [(1, .int (nI (0))), (0, .ref (ad 37))]) hx hb d_Md_tag_10 rfl hl (by decide) rfl (fun ls hl => ?_)
  have loop3 : ∀ (d k : Nat), k + d = tl →  ∀ (ev3 : Nat → va_E) (H : Heap) (locs : List Loc) (ls : Array Slot), ev3 = (va_up ev2 50 (eI G 112 (ns (fil 0 k (Bf 3) x50)))) → wT G A 52 ad ev3 s H locs → lv_has ls 2 [(1, .int (nI (k))), (0, .ref (ad 37))] → W p l e ({ frames := 12, cells := 0, slots := 0, locals := 400 }) s m ([.ref (ad 37)] : List Value).toArray below meth c H locs 0 0 (MQ below (wQc G A 52 ad (fun ov ev' => ov = none ∧ MD G ad ev' (va_up Bf 4 (outF 16 (TAGM (Bf 0) (Bf 3) 0 tl))) tl 16 0 ∧ ∀ j, j < 37 ∨ 50 < j → ev' j = ev j)) ([.ref (ad 37)] : List Value).toArray s 0 0 A) (F0 m 11 ls []) := by
    intro d
    induction d with
    | zero =>
      intro k hk_k  ev3 H locs ls  o3 h hl
      have t3_50 : ev3 50 = eI G 112 (ns (fil 0 k (Bf 3) x50)) := by rw [o3, va_up_self]
      have t3_38 := (show ev3 38 = ev2 38 by rw [o3, va_up_ne _ _ (by decide)]).trans t2_38
      have t3_39 := (show ev3 39 = ev2 39 by rw [o3, va_up_ne _ _ (by decide)]).trans t2_39
      have t3_40 := (show ev3 40 = ev2 40 by rw [o3, va_up_ne _ _ (by decide)]).trans t2_40
      have t3_41 := (show ev3 41 = ev2 41 by rw [o3, va_up_ne _ _ (by decide)]).trans t2_41
      have t3_42 := (show ev3 42 = ev2 42 by rw [o3, va_up_ne _ _ (by decide)]).trans t2_42
      have t3_43 := (show ev3 43 = ev2 43 by rw [o3, va_up_ne _ _ (by decide)]).trans t2_43
      have t3_44 := (show ev3 44 = ev2 44 by rw [o3, va_up_ne _ _ (by decide)]).trans t2_44
      have t3_45 := (show ev3 45 = ev2 45 by rw [o3, va_up_ne _ _ (by decide)]).trans t2_45
      have t3_46 := (show ev3 46 = ev2 46 by rw [o3, va_up_ne _ _ (by decide)]).trans t2_46
      have t3_47 := (show ev3 47 = ev2 47 by rw [o3, va_up_ne _ _ (by decide)]).trans t2_47
      have t3_48 := (show ev3 48 = ev2 48 by rw [o3, va_up_ne _ _ (by decide)]).trans t2_48
      have t3_49 := (show ev3 49 = ev2 49 by rw [o3, va_up_ne _ _ (by decide)]).trans t2_49
      have t3_37 := (show ev3 37 = ev2 37 by rw [o3, va_up_ne _ _ (by decide)]).trans t2_37
      refine lv_iload_n hx hb d_Md_tag_11 rfl (lv_at hl 0 rfl) ?_
      refine lv_aload_n hx hb d_Md_tag_12 rfl (lv_at hl 1 rfl) ?_
      refine wv_getf hx hb h 37 (by decide) (fs := [.ref (ad 38), .int (nI (tl)), .int (nI (ol)), .int (nI (0)), .ref (ad 39), .ref (ad 40), .ref (ad 41), .ref (ad 42), .ref (ad 43), .ref (ad 44), .ref (ad 45), .ref (ad 46), .ref (ad 47), .ref (ad 48), .ref (ad 49), .ref (ad 50)]) t3_37 hts (fun w hw => List.mem_cons_of_mem _ (fW_Md w hw)) hown (ci := 5) (C := "NonceBoxModel") (T := fT_Md) (N := 16) rfl 1 (by decide) (hts _ (List.mem_cons_of_mem _ kf_Md_67)) rfl (v := .int (nI (tl))) rfl d_Md_tag_13 ?_
      refine lv_icmp_ge (tgt := 40) hx hb d_Md_tag_16 (by decide) (fun _ => ?_) (fun hc => absurd ((nI_leI (by omega) (by omega)).mpr (by omega)) hc)
      rw [show k = tl by omega] at t3_50
      have hY : ∀ j, (fil 0 tl (Bf 3) x50) j < 256 := fil_lt (hB 3) b50
      refine lv_aload_n hx hb d_Md_tag_40 rfl (lv_at hl 1 rfl) ?_
      refine lv_aload_n hx hb d_Md_tag_41 rfl (lv_at hl 1 rfl) ?_
      refine wv_getf hx hb h 37 (by decide) (fs := [.ref (ad 38), .int (nI (tl)), .int (nI (ol)), .int (nI (0)), .ref (ad 39), .ref (ad 40), .ref (ad 41), .ref (ad 42), .ref (ad 43), .ref (ad 44), .ref (ad 45), .ref (ad 46), .ref (ad 47), .ref (ad 48), .ref (ad 49), .ref (ad 50)]) t3_37 hts (fun w hw => List.mem_cons_of_mem _ (fW_Md w hw)) hown (ci := 5) (C := "NonceBoxModel") (T := fT_Md) (N := 16) rfl 1 (by decide) (hts _ (List.mem_cons_of_mem _ kf_Md_67)) rfl (v := .int (nI (tl))) rfl d_Md_tag_42 ?_
      refine wv_V (As := [.int (nI (tl))]) (rest := []) (k := 1) ⟨hx, hb, hml, hown, hts⟩ h 37 (by decide) (C := "NonceBoxModel") t3_37 rfl (m_Md_makeTag l G A ad ev3 (tl) (Bf 0) (fil 0 tl (Bf 3) x50) x49 x46 x47 x48 tl ol 0 t3_37 htl t3_39 t3_50 (hB 0) hY t3_46 t3_47 t3_48 t3_49) kc_Md_makeTag kl_Md_133 km_Md_makeTag kv_Md_makeTag ki_Md (by decide +kernel) ⟨rfl, rfl, Nat.le_of_ble_eq_true rfl, Nat.le_of_ble_eq_true rfl⟩ hl.1 rfl rfl (Nat.le_of_ble_eq_true rfl) ⟨Nat.le_refl _, Nat.le_refl _⟩ d_Md_tag_45 ?_
      intro ov ev4 H locs hp h
      obtain ⟨ho, r46, r47, r48, hp⟩ := hp
      rw [ho]
      refine W.eq (g2 := F0 m 48 ls []) rfl ?_
      have o4 : ev4 = (va_up (va_up (va_up (va_up ev3 46 (eJ G 5 r46)) 47 (eJ G 5 r47)) 48 (eJ G 5 r48)) 49 (eI G 16 (ns (TAGM (Bf 0) (fil 0 tl (Bf 3) x50) 0 (tl))))) := hp
      have t4_46 : ev4 46 = eJ G 5 r46 := by rw [o4, va_up_ne _ _ (by decide), va_up_ne _ _ (by decide), va_up_ne _ _ (by decide), va_up_self]
      have t4_47 : ev4 47 = eJ G 5 r47 := by rw [o4, va_up_ne _ _ (by decide), va_up_ne _ _ (by decide), va_up_self]
      have t4_48 : ev4 48 = eJ G 5 r48 := by rw [o4, va_up_ne _ _ (by decide), va_up_self]
      have t4_49 : ev4 49 = eI G 16 (ns (TAGM (Bf 0) (fil 0 tl (Bf 3) x50) 0 (tl))) := by rw [o4, va_up_self]
      have t4_38 := (show ev4 38 = ev3 38 by rw [o4, va_up_ne _ _ (by decide), va_up_ne _ _ (by decide), va_up_ne _ _ (by decide), va_up_ne _ _ (by decide)]).trans t3_38
      have t4_39 := (show ev4 39 = ev3 39 by rw [o4, va_up_ne _ _ (by decide), va_up_ne _ _ (by decide), va_up_ne _ _ (by decide), va_up_ne _ _ (by decide)]).trans t3_39
      have t4_40 := (show ev4 40 = ev3 40 by rw [o4, va_up_ne _ _ (by decide), va_up_ne _ _ (by decide), va_up_ne _ _ (by decide), va_up_ne _ _ (by decide)]).trans t3_40
      have t4_41 := (show ev4 41 = ev3 41 by rw [o4, va_up_ne _ _ (by decide), va_up_ne _ _ (by decide), va_up_ne _ _ (by decide), va_up_ne _ _ (by decide)]).trans t3_41
      have t4_42 := (show ev4 42 = ev3 42 by rw [o4, va_up_ne _ _ (by decide), va_up_ne _ _ (by decide), va_up_ne _ _ (by decide), va_up_ne _ _ (by decide)]).trans t3_42
      have t4_43 := (show ev4 43 = ev3 43 by rw [o4, va_up_ne _ _ (by decide), va_up_ne _ _ (by decide), va_up_ne _ _ (by decide), va_up_ne _ _ (by decide)]).trans t3_43
      have t4_44 := (show ev4 44 = ev3 44 by rw [o4, va_up_ne _ _ (by decide), va_up_ne _ _ (by decide), va_up_ne _ _ (by decide), va_up_ne _ _ (by decide)]).trans t3_44
      have t4_45 := (show ev4 45 = ev3 45 by rw [o4, va_up_ne _ _ (by decide), va_up_ne _ _ (by decide), va_up_ne _ _ (by decide), va_up_ne _ _ (by decide)]).trans t3_45
      have t4_50 := (show ev4 50 = ev3 50 by rw [o4, va_up_ne _ _ (by decide), va_up_ne _ _ (by decide), va_up_ne _ _ (by decide), va_up_ne _ _ (by decide)]).trans t3_50
      have t4_37 := (show ev4 37 = ev3 37 by rw [o4, va_up_ne _ _ (by decide), va_up_ne _ _ (by decide), va_up_ne _ _ (by decide), va_up_ne _ _ (by decide)]).trans t3_37
      have eT : TAGM (Bf 0) (fil 0 tl (Bf 3) x50) 0 tl = TAGM (Bf 0) (Bf 3) 0 tl := TAGM_congr (fun _ _ => rfl) (fun j hj => by rw [fil_in hj, Nat.zero_add])
      rw [eT] at t4_49
      refine lv_aload_n hx hb d_Md_tag_48 rfl (lv_at hl 1 rfl) ?_
      refine lv_aload_n hx hb d_Md_tag_49 rfl (lv_at hl 1 rfl) ?_
      refine wv_getf hx hb h 37 (by decide) (fs := [.ref (ad 38), .int (nI (tl)), .int (nI (ol)), .int (nI (0)), .ref (ad 39), .ref (ad 40), .ref (ad 41), .ref (ad 42), .ref (ad 43), .ref (ad 44), .ref (ad 45), .ref (ad 46), .ref (ad 47), .ref (ad 48), .ref (ad 49), .ref (ad 50)]) t4_37 hts (fun w hw => List.mem_cons_of_mem _ (fW_Md w hw)) hown (ci := 5) (C := "NonceBoxModel") (T := fT_Md) (N := 16) rfl 14 (by decide) (hts _ (List.mem_cons_of_mem _ kf_Md_44)) rfl (v := .ref (ad 49)) rfl d_Md_tag_50 ?_
      refine lv_bipush (v := nI (16)) hx hb d_Md_tag_53 (by decide) ?_
      refine wv_V (As := [.ref (ad 49), .int (nI (16))]) (rest := []) (k := 2) ⟨hx, hb, hml, hown, hts⟩ h 37 (by decide) (C := "NonceBoxModel") t4_37 rfl (m_Md_outFrom l G A ad ev4 49 16 16 FF (TAGM (Bf 0) (Bf 3) 0 tl) tl ol 0 t4_37 (by decide) t4_38 t4_49 (by decide) (by decide) (by decide)) kc_Md_outFrom kl_Md_106 km_Md_outFrom kv_Md_outFrom ki_Md (by decide +kernel) ⟨rfl, rfl, Nat.le_of_ble_eq_true rfl, Nat.le_of_ble_eq_true rfl⟩ hl.1 rfl rfl (Nat.le_of_ble_eq_true rfl) ⟨Nat.le_refl _, Nat.le_refl _⟩ d_Md_tag_55 ?_
      intro ov ev5 H locs hp h
      rw [hp.1]
      refine W.eq (g2 := F0 m 58 ls []) rfl ?_
      have o5 : ev5 = va_up (va_up ev4 38 (eI G 312 (ns (fil 200 112 (outF 16 (TAGM (Bf 0) (Bf 3) 0 tl)) FF)))) 37 (eO 5 [.ref (ad 38), .int (nI tl), .int (nI 16), .int (nI 0), .ref (ad 39), .ref (ad 40), .ref (ad 41), .ref (ad 42), .ref (ad 43), .ref (ad 44), .ref (ad 45), .ref (ad 46), .ref (ad 47), .ref (ad 48), .ref (ad 49), .ref (ad 50)]) := hp.2
      have t5_38 : ev5 38 = eI G 312 (ns (fil 200 112 (outF 16 (TAGM (Bf 0) (Bf 3) 0 tl)) FF)) := by rw [o5, va_up_ne _ _ (by decide), va_up_self]
      have t5_37 : ev5 37 = eO 5 [.ref (ad 38), .int (nI tl), .int (nI 16), .int (nI 0), .ref (ad 39), .ref (ad 40), .ref (ad 41), .ref (ad 42), .ref (ad 43), .ref (ad 44), .ref (ad 45), .ref (ad 46), .ref (ad 47), .ref (ad 48), .ref (ad 49), .ref (ad 50)] := by rw [o5, va_up_self]
      have t5_39 := (show ev5 39 = ev4 39 by rw [o5, va_up_ne _ _ (by decide), va_up_ne _ _ (by decide)]).trans t4_39
      have t5_40 := (show ev5 40 = ev4 40 by rw [o5, va_up_ne _ _ (by decide), va_up_ne _ _ (by decide)]).trans t4_40
      have t5_41 := (show ev5 41 = ev4 41 by rw [o5, va_up_ne _ _ (by decide), va_up_ne _ _ (by decide)]).trans t4_41
      have t5_42 := (show ev5 42 = ev4 42 by rw [o5, va_up_ne _ _ (by decide), va_up_ne _ _ (by decide)]).trans t4_42
      have t5_43 := (show ev5 43 = ev4 43 by rw [o5, va_up_ne _ _ (by decide), va_up_ne _ _ (by decide)]).trans t4_43
      have t5_44 := (show ev5 44 = ev4 44 by rw [o5, va_up_ne _ _ (by decide), va_up_ne _ _ (by decide)]).trans t4_44
      have t5_45 := (show ev5 45 = ev4 45 by rw [o5, va_up_ne _ _ (by decide), va_up_ne _ _ (by decide)]).trans t4_45
      have t5_46 := (show ev5 46 = ev4 46 by rw [o5, va_up_ne _ _ (by decide), va_up_ne _ _ (by decide)]).trans t4_46
      have t5_47 := (show ev5 47 = ev4 47 by rw [o5, va_up_ne _ _ (by decide), va_up_ne _ _ (by decide)]).trans t4_47
      have t5_48 := (show ev5 48 = ev4 48 by rw [o5, va_up_ne _ _ (by decide), va_up_ne _ _ (by decide)]).trans t4_48
      have t5_49 := (show ev5 49 = ev4 49 by rw [o5, va_up_ne _ _ (by decide), va_up_ne _ _ (by decide)]).trans t4_49
      have t5_50 := (show ev5 50 = ev4 50 by rw [o5, va_up_ne _ _ (by decide), va_up_ne _ _ (by decide)]).trans t4_50
      exact wv_vret hx hb hr hlocks h d_Md_tag_58 ⟨rfl, ⟨t5_37, ⟨_, FB_out hFB, t5_38⟩, ⟨_, t5_39⟩, ⟨_, t5_40⟩, ⟨_, t5_41⟩, ⟨_, t5_42⟩, ⟨_, t5_43⟩, ⟨_, t5_44⟩, ⟨_, t5_45⟩, ⟨_, t5_46⟩, ⟨_, t5_47⟩, ⟨_, t5_48⟩, ⟨_, t5_49⟩, ⟨_, hY, t5_50⟩, Bf_lt hB (outF_lt (TAGM_lt _ _ _ _)) 4, htl, (by decide)⟩, (fun j hj => by rw [o5, va_up_ne _ _ (by omega), va_up_ne _ _ (by omega), o4, va_up_ne _ _ (by omega), va_up_ne _ _ (by omega), va_up_ne _ _ (by omega), va_up_ne _ _ (by omega), o3, va_up_ne _ _ (by omega), o2, va_up_ne _ _ (by omega), o1, va_up_ne _ _ (by omega)])⟩
    | succ d ih =>
      intro k hk_k  ev3 H locs ls  o3 h hl
      have t3_50 : ev3 50 = eI G 112 (ns (fil 0 k (Bf 3) x50)) := by rw [o3, va_up_self]
      have t3_38 := (show ev3 38 = ev2 38 by rw [o3, va_up_ne _ _ (by decide)]).trans t2_38
      have t3_39 := (show ev3 39 = ev2 39 by rw [o3, va_up_ne _ _ (by decide)]).trans t2_39
      have t3_40 := (show ev3 40 = ev2 40 by rw [o3, va_up_ne _ _ (by decide)]).trans t2_40
      have t3_41 := (show ev3 41 = ev2 41 by rw [o3, va_up_ne _ _ (by decide)]).trans t2_41
      have t3_42 := (show ev3 42 = ev2 42 by rw [o3, va_up_ne _ _ (by decide)]).trans t2_42
      have t3_43 := (show ev3 43 = ev2 43 by rw [o3, va_up_ne _ _ (by decide)]).trans t2_43
      have t3_44 := (show ev3 44 = ev2 44 by rw [o3, va_up_ne _ _ (by decide)]).trans t2_44
      have t3_45 := (show ev3 45 = ev2 45 by rw [o3, va_up_ne _ _ (by decide)]).trans t2_45
      have t3_46 := (show ev3 46 = ev2 46 by rw [o3, va_up_ne _ _ (by decide)]).trans t2_46
      have t3_47 := (show ev3 47 = ev2 47 by rw [o3, va_up_ne _ _ (by decide)]).trans t2_47
      have t3_48 := (show ev3 48 = ev2 48 by rw [o3, va_up_ne _ _ (by decide)]).trans t2_48
      have t3_49 := (show ev3 49 = ev2 49 by rw [o3, va_up_ne _ _ (by decide)]).trans t2_49
      have t3_37 := (show ev3 37 = ev2 37 by rw [o3, va_up_ne _ _ (by decide)]).trans t2_37
      refine lv_iload_n hx hb d_Md_tag_11 rfl (lv_at hl 0 rfl) ?_
      refine lv_aload_n hx hb d_Md_tag_12 rfl (lv_at hl 1 rfl) ?_
      refine wv_getf hx hb h 37 (by decide) (fs := [.ref (ad 38), .int (nI (tl)), .int (nI (ol)), .int (nI (0)), .ref (ad 39), .ref (ad 40), .ref (ad 41), .ref (ad 42), .ref (ad 43), .ref (ad 44), .ref (ad 45), .ref (ad 46), .ref (ad 47), .ref (ad 48), .ref (ad 49), .ref (ad 50)]) t3_37 hts (fun w hw => List.mem_cons_of_mem _ (fW_Md w hw)) hown (ci := 5) (C := "NonceBoxModel") (T := fT_Md) (N := 16) rfl 1 (by decide) (hts _ (List.mem_cons_of_mem _ kf_Md_67)) rfl (v := .int (nI (tl))) rfl d_Md_tag_13 ?_
      refine lv_icmp_ge (tgt := 40) hx hb d_Md_tag_16 (by decide) (fun hc => absurd ((nI_leI (by omega) (by omega)).mp hc) (by omega)) (fun _ => ?_)
      refine lv_aload_n hx hb d_Md_tag_19 rfl (lv_at hl 1 rfl) ?_
      refine wv_getf hx hb h 37 (by decide) (fs := [.ref (ad 38), .int (nI (tl)), .int (nI (ol)), .int (nI (0)), .ref (ad 39), .ref (ad 40), .ref (ad 41), .ref (ad 42), .ref (ad 43), .ref (ad 44), .ref (ad 45), .ref (ad 46), .ref (ad 47), .ref (ad 48), .ref (ad 49), .ref (ad 50)]) t3_37 hts (fun w hw => List.mem_cons_of_mem _ (fW_Md w hw)) hown (ci := 5) (C := "NonceBoxModel") (T := fT_Md) (N := 16) rfl 15 (by decide) (hts _ (List.mem_cons_of_mem _ kf_Md_47)) rfl (v := .ref (ad 50)) rfl d_Md_tag_20 ?_
      refine lv_iload_n hx hb d_Md_tag_23 rfl (lv_at hl 0 rfl) ?_
      refine lv_aload_n hx hb d_Md_tag_24 rfl (lv_at hl 1 rfl) ?_
      refine wv_getf hx hb h 37 (by decide) (fs := [.ref (ad 38), .int (nI (tl)), .int (nI (ol)), .int (nI (0)), .ref (ad 39), .ref (ad 40), .ref (ad 41), .ref (ad 42), .ref (ad 43), .ref (ad 44), .ref (ad 45), .ref (ad 46), .ref (ad 47), .ref (ad 48), .ref (ad 49), .ref (ad 50)]) t3_37 hts (fun w hw => List.mem_cons_of_mem _ (fW_Md w hw)) hown (ci := 5) (C := "NonceBoxModel") (T := fT_Md) (N := 16) rfl 0 (by decide) (hts _ (List.mem_cons_of_mem _ kf_Md_7)) rfl (v := .ref (ad 38)) rfl d_Md_tag_25 ?_
      refine lv_bipush (v := nI (88)) hx hb d_Md_tag_28 (by decide) ?_
      refine lv_iload_n hx hb d_Md_tag_30 rfl (lv_at hl 0 rfl) ?_
      refine lv_iadd hx hb d_Md_tag_31 ?_
      refine wv_top (w := nI (88 + k)) (nI_add _ _) ?_
      refine wv_iald hx hb h 38 (by decide) (f := (ns FF)) t3_38 (k := 88 + k) rfl (by omega) (by decide) d_Md_tag_32 ?_
      refine wv_top (w := nI (Bf 3 k)) (congrArg nI (hFB 3 (by decide) k (by show k < 112; omega))) ?_
      refine wv_iast hx hb h 50 (by decide) (f := (ns (fil 0 k (Bf 3) x50))) t3_50 (k := k) rfl (by omega) (by decide) d_Md_tag_33 (fun H locs h => ?_)
      obtain ⟨ev4, o4⟩ : ∃ z, z = va_up ev3 50 (eI G 112 (va_up ((ns (fil 0 k (Bf 3) x50))) k (nI (Bf 3 k)))) := ⟨_, rfl⟩
      rw [← o4] at h
      have t4_50 : ev4 50 = eI G 112 (va_up ((ns (fil 0 k (Bf 3) x50))) k (nI (Bf 3 k))) := by rw [o4, va_up_self]
      have t4_38 := (show ev4 38 = ev3 38 by rw [o4, va_up_ne _ _ (by decide)]).trans t3_38
      have t4_39 := (show ev4 39 = ev3 39 by rw [o4, va_up_ne _ _ (by decide)]).trans t3_39
      have t4_40 := (show ev4 40 = ev3 40 by rw [o4, va_up_ne _ _ (by decide)]).trans t3_40
      have t4_41 := (show ev4 41 = ev3 41 by rw [o4, va_up_ne _ _ (by decide)]).trans t3_41
      have t4_42 := (show ev4 42 = ev3 42 by rw [o4, va_up_ne _ _ (by decide)]).trans t3_42
      have t4_43 := (show ev4 43 = ev3 43 by rw [o4, va_up_ne _ _ (by decide)]).trans t3_43
      have t4_44 := (show ev4 44 = ev3 44 by rw [o4, va_up_ne _ _ (by decide)]).trans t3_44
      have t4_45 := (show ev4 45 = ev3 45 by rw [o4, va_up_ne _ _ (by decide)]).trans t3_45
      have t4_46 := (show ev4 46 = ev3 46 by rw [o4, va_up_ne _ _ (by decide)]).trans t3_46
      have t4_47 := (show ev4 47 = ev3 47 by rw [o4, va_up_ne _ _ (by decide)]).trans t3_47
      have t4_48 := (show ev4 48 = ev3 48 by rw [o4, va_up_ne _ _ (by decide)]).trans t3_48
      have t4_49 := (show ev4 49 = ev3 49 by rw [o4, va_up_ne _ _ (by decide)]).trans t3_49
      have t4_37 := (show ev4 37 = ev3 37 by rw [o4, va_up_ne _ _ (by decide)]).trans t3_37
      rw [ns_up _ _ (Bf 3 k) rfl] at o4
      refine lv_iinc (v := nI (k + 1)) (lv' := [(1, .int (nI (k + 1))), (0, .ref (ad 37))]) hx hb d_Md_tag_34 hl (k := 0) rfl (nI_add _ _) (by decide) rfl (fun ls hl => ?_)
      refine lv_goto (tgt := 11) hx hb d_Md_tag_37 (by decide) ?_
      refine ih (k + 1) (by omega) ev4 H locs ls ?_ h (lv_sub hl [0, 1] rfl)
      rw [o4, o3, va_up2, ← fil_s 0 k (Bf 3) x50 rfl, Nat.zero_add]
  exact loop3 tl 0 (by omega) ev2 H locs ls (by rw [fil_0, va_upi _ _ t2_50]) h (lv_sub hl [0, 1] rfl)
theorem d_Md_tagKey_0 : decode c_Md_tagKey 0 = .ok (.iconst 0, 1) := by decide +kernel
theorem d_Md_tagKey_1 : decode c_Md_tagKey 1 = .ok (.istore_n 1, 1) := by decide +kernel
theorem d_Md_tagKey_2 : decode c_Md_tagKey 2 = .ok (.iload_n 1, 1) := by decide +kernel
theorem d_Md_tagKey_3 : decode c_Md_tagKey 3 = .ok (.bipush 32, 2) := by decide +kernel
theorem d_Md_tagKey_5 : decode c_Md_tagKey 5 = .ok (.if_icmp .ge 21, 3) := by decide +kernel
theorem d_Md_tagKey_8 : decode c_Md_tagKey 8 = .ok (.aload_n 0, 1) := by decide +kernel
theorem d_Md_tagKey_9 : decode c_Md_tagKey 9 = .ok (.getfield 13, 3) := by decide +kernel
theorem d_Md_tagKey_12 : decode c_Md_tagKey 12 = .ok (.iload_n 1, 1) := by decide +kernel
theorem d_Md_tagKey_13 : decode c_Md_tagKey 13 = .ok (.aload_n 0, 1) := by decide +kernel
theorem d_Md_tagKey_14 : decode c_Md_tagKey 14 = .ok (.getfield 25, 3) := by decide +kernel
theorem d_Md_tagKey_17 : decode c_Md_tagKey 17 = .ok (.iload_n 1, 1) := by decide +kernel
theorem d_Md_tagKey_18 : decode c_Md_tagKey 18 = .ok (.iaload, 1) := by decide +kernel
theorem d_Md_tagKey_19 : decode c_Md_tagKey 19 = .ok (.iastore, 1) := by decide +kernel
theorem d_Md_tagKey_20 : decode c_Md_tagKey 20 = .ok (.iinc 1 1, 3) := by decide +kernel
theorem d_Md_tagKey_23 : decode c_Md_tagKey 23 = .ok (.goto (-21), 3) := by decide +kernel
theorem d_Md_tagKey_26 : decode c_Md_tagKey 26 = .ok (.return_, 1) := by decide +kernel
set_option maxRecDepth 100000 in
set_option maxHeartbeats 4000000 in
/-- the key of the tag -/
theorem m_Md_tagKey (l : Launch) (G : wG) (A : Nat → Prop) (ad : Nat → Nat) (ev : Nat → va_E) (S Z : Nat → Nat) (tl ol cd : Nat) (h37 : ev 37 = eO 5 [.ref (ad 38), .int (nI tl), .int (nI ol), .int (nI cd), .ref (ad 39), .ref (ad 40), .ref (ad 41), .ref (ad 42), .ref (ad 43), .ref (ad 44), .ref (ad 45), .ref (ad 46), .ref (ad 47), .ref (ad 48), .ref (ad 49), .ref (ad 50)]) (h43 : ev 43 = eI G 128 (ns S)) (h39 : ev 39 = eI G 32 (ns Z)) : wM l y_Md_tagKey w_Md_tagKey ({ frames := 0, cells := 0, slots := 0, locals := 0 }) G A 52 ad ev [.ref (ad 37)] (fun ov ev' => ov = none ∧ ev' = va_up ev 39 (eI G 32 (ns S))) := by
  refine wv_ofW (cc := c_Md_tagKey) (maxL := 2) (ret := none) (by decide) rfl (Nat.le_of_ble_eq_true rfl) ?_
  intro p e s m below meth c ls hx hb hr hml hts hown hlocks hini h hl
  have hl : lv_has ls 2 [(0, .ref (ad 37))] := hl
  refine lv_iconst (v := nI (0)) hx hb d_Md_tagKey_0 (by decide) ?_
  refine lv_istore_n (lv' := [(1, .int (nI (0))), (0, .ref (ad 37))]) hx hb d_Md_tagKey_1 rfl hl (by decide) rfl (fun ls hl => ?_)
  have loop1 : ∀ (d k : Nat), k + d = 32 →  ∀ (ev1 : Nat → va_E) (H : Heap) (locs : List Loc) (ls : Array Slot), ev1 = (va_up ev 39 (eI G 32 (ns (fil 0 k S Z)))) → wT G A 52 ad ev1 s H locs → lv_has ls 2 [(1, .int (nI (k))), (0, .ref (ad 37))] → W p l e ({ frames := 0, cells := 0, slots := 0, locals := 0 }) s m ([.ref (ad 37)] : List Value).toArray below meth c H locs 0 0 (MQ below (wQc G A 52 ad (fun ov ev' => ov = none ∧ ev' = va_up ev 39 (eI G 32 (ns S)))) ([.ref (ad 37)] : List Value).toArray s 0 0 A) (F0 m 2 ls []) := by
    intro d
    induction d with
    | zero =>
      intro k hk_k  ev1 H locs ls  o1 h hl
      have t1_39 : ev1 39 = eI G 32 (ns (fil 0 k S Z)) := by rw [o1, va_up_self]
      have t1_43 := (show ev1 43 = ev 43 by rw [o1, va_up_ne _ _ (by decide)]).trans h43
      have t1_37 := (show ev1 37 = ev 37 by rw [o1, va_up_ne _ _ (by decide)]).trans h37
      refine lv_iload_n hx hb d_Md_tagKey_2 rfl (lv_at hl 0 rfl) ?_
      refine lv_bipush (v := nI (32)) hx hb d_Md_tagKey_3 (by decide) ?_
      refine lv_icmp_ge (tgt := 26) hx hb d_Md_tagKey_5 (by decide) (fun _ => ?_) (fun hc => absurd ((nI_leI (by omega) (by omega)).mpr (by omega)) hc)
      have h := wT_eqI (g := (ns S)) h 39 (by decide) t1_39 (fun j hj => by unfold ns fil; rw [if_pos (by omega), Nat.sub_zero])
      obtain ⟨ev2, o2⟩ : ∃ z, z = va_up ev1 39 (eI G 32 (ns S)) := ⟨_, rfl⟩
      rw [← o2] at h
      have t2_39 : ev2 39 = eI G 32 (ns S) := by rw [o2, va_up_self]
      have t2_43 := (show ev2 43 = ev1 43 by rw [o2, va_up_ne _ _ (by decide)]).trans t1_43
      have t2_37 := (show ev2 37 = ev1 37 by rw [o2, va_up_ne _ _ (by decide)]).trans t1_37
      refine wv_vret hx hb hr hlocks h d_Md_tagKey_26 ⟨rfl, ?_⟩
      rw [o2, o1, va_up2]
    | succ d ih =>
      intro k hk_k  ev1 H locs ls  o1 h hl
      have t1_39 : ev1 39 = eI G 32 (ns (fil 0 k S Z)) := by rw [o1, va_up_self]
      have t1_43 := (show ev1 43 = ev 43 by rw [o1, va_up_ne _ _ (by decide)]).trans h43
      have t1_37 := (show ev1 37 = ev 37 by rw [o1, va_up_ne _ _ (by decide)]).trans h37
      refine lv_iload_n hx hb d_Md_tagKey_2 rfl (lv_at hl 0 rfl) ?_
      refine lv_bipush (v := nI (32)) hx hb d_Md_tagKey_3 (by decide) ?_
      refine lv_icmp_ge (tgt := 26) hx hb d_Md_tagKey_5 (by decide) (fun hc => absurd ((nI_leI (by omega) (by omega)).mp hc) (by omega)) (fun _ => ?_)
      refine lv_aload_n hx hb d_Md_tagKey_8 rfl (lv_at hl 1 rfl) ?_
      refine wv_getf hx hb h 37 (by decide) (fs := [.ref (ad 38), .int (nI (tl)), .int (nI (ol)), .int (nI (cd)), .ref (ad 39), .ref (ad 40), .ref (ad 41), .ref (ad 42), .ref (ad 43), .ref (ad 44), .ref (ad 45), .ref (ad 46), .ref (ad 47), .ref (ad 48), .ref (ad 49), .ref (ad 50)]) t1_37 hts (fun w hw => List.mem_cons_of_mem _ (fW_Md w hw)) hown (ci := 5) (C := "NonceBoxModel") (T := fT_Md) (N := 16) rfl 4 (by decide) (hts _ (List.mem_cons_of_mem _ kf_Md_13)) rfl (v := .ref (ad 39)) rfl d_Md_tagKey_9 ?_
      refine lv_iload_n hx hb d_Md_tagKey_12 rfl (lv_at hl 0 rfl) ?_
      refine lv_aload_n hx hb d_Md_tagKey_13 rfl (lv_at hl 1 rfl) ?_
      refine wv_getf hx hb h 37 (by decide) (fs := [.ref (ad 38), .int (nI (tl)), .int (nI (ol)), .int (nI (cd)), .ref (ad 39), .ref (ad 40), .ref (ad 41), .ref (ad 42), .ref (ad 43), .ref (ad 44), .ref (ad 45), .ref (ad 46), .ref (ad 47), .ref (ad 48), .ref (ad 49), .ref (ad 50)]) t1_37 hts (fun w hw => List.mem_cons_of_mem _ (fW_Md w hw)) hown (ci := 5) (C := "NonceBoxModel") (T := fT_Md) (N := 16) rfl 8 (by decide) (hts _ (List.mem_cons_of_mem _ kf_Md_25)) rfl (v := .ref (ad 43)) rfl d_Md_tagKey_14 ?_
      refine lv_iload_n hx hb d_Md_tagKey_17 rfl (lv_at hl 0 rfl) ?_
      refine wv_iald hx hb h 43 (by decide) (f := (ns S)) t1_43 (k := k) rfl (by omega) (by decide) d_Md_tagKey_18 ?_
      refine wv_iast hx hb h 39 (by decide) (f := (ns (fil 0 k S Z))) t1_39 (k := k) rfl (by omega) (by decide) d_Md_tagKey_19 (fun H locs h => ?_)
      obtain ⟨ev2, o2⟩ : ∃ z, z = va_up ev1 39 (eI G 32 (va_up ((ns (fil 0 k S Z))) k (((ns S)) k))) := ⟨_, rfl⟩
      rw [← o2] at h
      have t2_39 : ev2 39 = eI G 32 (va_up ((ns (fil 0 k S Z))) k (((ns S)) k)) := by rw [o2, va_up_self]
      have t2_43 := (show ev2 43 = ev1 43 by rw [o2, va_up_ne _ _ (by decide)]).trans t1_43
      have t2_37 := (show ev2 37 = ev1 37 by rw [o2, va_up_ne _ _ (by decide)]).trans t1_37
      rw [ns_up _ _ (S k) (x := ns S k) rfl] at o2
      refine lv_iinc (v := nI (k + 1)) (lv' := [(1, .int (nI (k + 1))), (0, .ref (ad 37))]) hx hb d_Md_tagKey_20 hl (k := 0) rfl (nI_add _ _) (by decide) rfl (fun ls hl => ?_)
      refine lv_goto (tgt := 2) hx hb d_Md_tagKey_23 (by decide) ?_
      refine ih (k + 1) (by omega) ev2 H locs ls ?_ h (lv_sub hl [0, 1] rfl)
      rw [o2, o1, va_up2, ← fil_s 0 k S Z rfl, Nat.zero_add]
  exact loop1 32 0 rfl ev s.heap [] ls (by rw [fil_0, va_upi _ _ h39]) h (lv_sub hl [0, 1] rfl)
theorem d_Md_sealIt_0 : decode c_Md_sealIt 0 = .ok (.aload_n 0, 1) := by decide +kernel
theorem d_Md_sealIt_1 : decode c_Md_sealIt 1 = .ok (.invokevirtual 110, 3) := by decide +kernel
theorem d_Md_sealIt_4 : decode c_Md_sealIt 4 = .ok (.iconst 0, 1) := by decide +kernel
theorem d_Md_sealIt_5 : decode c_Md_sealIt 5 = .ok (.istore_n 1, 1) := by decide +kernel
theorem d_Md_sealIt_6 : decode c_Md_sealIt 6 = .ok (.iload_n 1, 1) := by decide +kernel
theorem d_Md_sealIt_7 : decode c_Md_sealIt 7 = .ok (.aload_n 0, 1) := by decide +kernel
theorem d_Md_sealIt_8 : decode c_Md_sealIt 8 = .ok (.getfield 67, 3) := by decide +kernel
theorem d_Md_sealIt_11 : decode c_Md_sealIt 11 = .ok (.if_icmp .ge 34, 3) := by decide +kernel
theorem d_Md_sealIt_14 : decode c_Md_sealIt 14 = .ok (.aload_n 0, 1) := by decide +kernel
theorem d_Md_sealIt_15 : decode c_Md_sealIt 15 = .ok (.getfield 47, 3) := by decide +kernel
theorem d_Md_sealIt_18 : decode c_Md_sealIt 18 = .ok (.iload_n 1, 1) := by decide +kernel
theorem d_Md_sealIt_19 : decode c_Md_sealIt 19 = .ok (.aload_n 0, 1) := by decide +kernel
theorem d_Md_sealIt_20 : decode c_Md_sealIt 20 = .ok (.getfield 7, 3) := by decide +kernel
theorem d_Md_sealIt_23 : decode c_Md_sealIt 23 = .ok (.bipush 88, 2) := by decide +kernel
theorem d_Md_sealIt_25 : decode c_Md_sealIt 25 = .ok (.iload_n 1, 1) := by decide +kernel
theorem d_Md_sealIt_26 : decode c_Md_sealIt 26 = .ok (.iadd, 1) := by decide +kernel
theorem d_Md_sealIt_27 : decode c_Md_sealIt 27 = .ok (.iaload, 1) := by decide +kernel
theorem d_Md_sealIt_28 : decode c_Md_sealIt 28 = .ok (.aload_n 0, 1) := by decide +kernel
theorem d_Md_sealIt_29 : decode c_Md_sealIt 29 = .ok (.getfield 25, 3) := by decide +kernel
theorem d_Md_sealIt_32 : decode c_Md_sealIt 32 = .ok (.bipush 32, 2) := by decide +kernel
theorem d_Md_sealIt_34 : decode c_Md_sealIt 34 = .ok (.iload_n 1, 1) := by decide +kernel
theorem d_Md_sealIt_35 : decode c_Md_sealIt 35 = .ok (.iadd, 1) := by decide +kernel
theorem d_Md_sealIt_36 : decode c_Md_sealIt 36 = .ok (.iaload, 1) := by decide +kernel
theorem d_Md_sealIt_37 : decode c_Md_sealIt 37 = .ok (.ixor, 1) := by decide +kernel
theorem d_Md_sealIt_38 : decode c_Md_sealIt 38 = .ok (.iastore, 1) := by decide +kernel
theorem d_Md_sealIt_39 : decode c_Md_sealIt 39 = .ok (.iinc 1 1, 3) := by decide +kernel
theorem d_Md_sealIt_42 : decode c_Md_sealIt 42 = .ok (.goto (-36), 3) := by decide +kernel
theorem d_Md_sealIt_45 : decode c_Md_sealIt 45 = .ok (.aload_n 0, 1) := by decide +kernel
theorem d_Md_sealIt_46 : decode c_Md_sealIt 46 = .ok (.invokevirtual 184, 3) := by decide +kernel
theorem d_Md_sealIt_49 : decode c_Md_sealIt 49 = .ok (.aload_n 0, 1) := by decide +kernel
theorem d_Md_sealIt_50 : decode c_Md_sealIt 50 = .ok (.aload_n 0, 1) := by decide +kernel
theorem d_Md_sealIt_51 : decode c_Md_sealIt 51 = .ok (.getfield 67, 3) := by decide +kernel
theorem d_Md_sealIt_54 : decode c_Md_sealIt 54 = .ok (.invokevirtual 133, 3) := by decide +kernel
theorem d_Md_sealIt_57 : decode c_Md_sealIt 57 = .ok (.aload_n 0, 1) := by decide +kernel
theorem d_Md_sealIt_58 : decode c_Md_sealIt 58 = .ok (.bipush 16, 2) := by decide +kernel
theorem d_Md_sealIt_60 : decode c_Md_sealIt 60 = .ok (.aload_n 0, 1) := by decide +kernel
theorem d_Md_sealIt_61 : decode c_Md_sealIt 61 = .ok (.getfield 67, 3) := by decide +kernel
theorem d_Md_sealIt_64 : decode c_Md_sealIt 64 = .ok (.iadd, 1) := by decide +kernel
theorem d_Md_sealIt_65 : decode c_Md_sealIt 65 = .ok (.invokevirtual 99, 3) := by decide +kernel
theorem d_Md_sealIt_68 : decode c_Md_sealIt 68 = .ok (.iconst 0, 1) := by decide +kernel
theorem d_Md_sealIt_69 : decode c_Md_sealIt 69 = .ok (.istore_n 1, 1) := by decide +kernel
theorem d_Md_sealIt_70 : decode c_Md_sealIt 70 = .ok (.iload_n 1, 1) := by decide +kernel
theorem d_Md_sealIt_71 : decode c_Md_sealIt 71 = .ok (.bipush 16, 2) := by decide +kernel
theorem d_Md_sealIt_73 : decode c_Md_sealIt 73 = .ok (.if_icmp .ge 25, 3) := by decide +kernel
theorem d_Md_sealIt_76 : decode c_Md_sealIt 76 = .ok (.aload_n 0, 1) := by decide +kernel
theorem d_Md_sealIt_77 : decode c_Md_sealIt 77 = .ok (.getfield 7, 3) := by decide +kernel
theorem d_Md_sealIt_80 : decode c_Md_sealIt 80 = .ok (.sipush 200, 3) := by decide +kernel
theorem d_Md_sealIt_83 : decode c_Md_sealIt 83 = .ok (.iload_n 1, 1) := by decide +kernel
theorem d_Md_sealIt_84 : decode c_Md_sealIt 84 = .ok (.iadd, 1) := by decide +kernel
theorem d_Md_sealIt_85 : decode c_Md_sealIt 85 = .ok (.aload_n 0, 1) := by decide +kernel
theorem d_Md_sealIt_86 : decode c_Md_sealIt 86 = .ok (.getfield 44, 3) := by decide +kernel
theorem d_Md_sealIt_89 : decode c_Md_sealIt 89 = .ok (.iload_n 1, 1) := by decide +kernel
theorem d_Md_sealIt_90 : decode c_Md_sealIt 90 = .ok (.iaload, 1) := by decide +kernel
theorem d_Md_sealIt_91 : decode c_Md_sealIt 91 = .ok (.iastore, 1) := by decide +kernel
theorem d_Md_sealIt_92 : decode c_Md_sealIt 92 = .ok (.iinc 1 1, 3) := by decide +kernel
theorem d_Md_sealIt_95 : decode c_Md_sealIt 95 = .ok (.goto (-25), 3) := by decide +kernel
theorem d_Md_sealIt_98 : decode c_Md_sealIt 98 = .ok (.iconst 0, 1) := by decide +kernel
theorem d_Md_sealIt_99 : decode c_Md_sealIt 99 = .ok (.istore_n 1, 1) := by decide +kernel
theorem d_Md_sealIt_100 : decode c_Md_sealIt 100 = .ok (.iload_n 1, 1) := by decide +kernel
theorem d_Md_sealIt_101 : decode c_Md_sealIt 101 = .ok (.aload_n 0, 1) := by decide +kernel
theorem d_Md_sealIt_102 : decode c_Md_sealIt 102 = .ok (.getfield 67, 3) := by decide +kernel
theorem d_Md_sealIt_105 : decode c_Md_sealIt 105 = .ok (.if_icmp .ge 25, 3) := by decide +kernel
theorem d_Md_sealIt_108 : decode c_Md_sealIt 108 = .ok (.aload_n 0, 1) := by decide +kernel
theorem d_Md_sealIt_109 : decode c_Md_sealIt 109 = .ok (.getfield 7, 3) := by decide +kernel
theorem d_Md_sealIt_112 : decode c_Md_sealIt 112 = .ok (.sipush 216, 3) := by decide +kernel
theorem d_Md_sealIt_115 : decode c_Md_sealIt 115 = .ok (.iload_n 1, 1) := by decide +kernel
theorem d_Md_sealIt_116 : decode c_Md_sealIt 116 = .ok (.iadd, 1) := by decide +kernel
theorem d_Md_sealIt_117 : decode c_Md_sealIt 117 = .ok (.aload_n 0, 1) := by decide +kernel
theorem d_Md_sealIt_118 : decode c_Md_sealIt 118 = .ok (.getfield 47, 3) := by decide +kernel
theorem d_Md_sealIt_121 : decode c_Md_sealIt 121 = .ok (.iload_n 1, 1) := by decide +kernel
theorem d_Md_sealIt_122 : decode c_Md_sealIt 122 = .ok (.iaload, 1) := by decide +kernel
theorem d_Md_sealIt_123 : decode c_Md_sealIt 123 = .ok (.iastore, 1) := by decide +kernel
theorem d_Md_sealIt_124 : decode c_Md_sealIt 124 = .ok (.iinc 1 1, 3) := by decide +kernel
theorem d_Md_sealIt_127 : decode c_Md_sealIt 127 = .ok (.goto (-27), 3) := by decide +kernel
theorem d_Md_sealIt_130 : decode c_Md_sealIt 130 = .ok (.aload_n 0, 1) := by decide +kernel
theorem d_Md_sealIt_131 : decode c_Md_sealIt 131 = .ok (.getfield 70, 3) := by decide +kernel
theorem d_Md_sealIt_134 : decode c_Md_sealIt 134 = .ok (.ireturn, 1) := by decide +kernel
set_option maxRecDepth 100000 in
set_option maxHeartbeats 4000000 in
/-- sealIt -/
theorem m_Md_sealIt (l : Launch) (G : wG) (A : Nat → Prop) (ad : Nat → Nat) (ev : Nat → va_E) (S : Nat → Nat) (Bf : Nat → Nat → Nat) (tl ol : Nat) (hMD : MD G ad ev Bf tl ol 0) (h39 : ev 39 = eI G 32 (ns S)) (h96 : tl ≤ 96) : wM l y_Md_sealIt w_Md_sealIt ({ frames := 18, cells := 0, slots := 0, locals := 600 }) G A 52 ad ev [.ref (ad 37)] (fun ov ev' => ov = some (.int (nI (16 + tl))) ∧ MD G ad ev' (va_up Bf 4 (outF (16 + tl) (SEALB S (Bf 1) (Bf 3) tl))) tl (16 + tl) 0 ∧ ∀ j, j < 37 ∨ 50 < j → ev' j = ev j) := by
  refine wv_ofW (cc := c_Md_sealIt) (maxL := 2) (ret := (Option.some FieldType.int)) (by decide) rfl (Nat.le_of_ble_eq_true rfl) ?_
  intro p e s m below meth c ls hx hb hr hml hts hown hlocks hini h hl
  have hl : lv_has ls 2 [(0, .ref (ad 37))] := hl
  obtain ⟨g37, ⟨FF, hFB, g38⟩, ⟨x39, g39⟩, ⟨x40, g40⟩, ⟨x41, g41⟩, ⟨x42, g42⟩, ⟨x43, g43⟩, ⟨x44, g44⟩, ⟨x45, g45⟩, ⟨x46, g46⟩, ⟨x47, g47⟩, ⟨x48, g48⟩, ⟨x49, g49⟩, ⟨x50, b50, g50⟩, hB, htl, hol⟩ := hMD
  refine lv_aload_n hx hb d_Md_sealIt_0 rfl (lv_at hl 0 rfl) ?_
  refine wv_V (As := []) (rest := []) (k := 0) ⟨hx, hb, hml, hown, hts⟩ h 37 (by decide) (C := "NonceBoxModel") g37 rfl (m_Md_flow l G A ad ev FF S (Bf 1) x40 x43 x41 x42 tl ol 0 g37 g38 h39 g40 g41 g42 g43 (fun j hj => hFB 1 (by decide) j hj)) kc_Md_flow kl_Md_110 km_Md_flow kv_Md_flow ki_Md (by decide +kernel) ⟨rfl, rfl, Nat.le_of_ble_eq_true rfl, Nat.le_of_ble_eq_true rfl⟩ hl.1 rfl rfl (Nat.le_of_ble_eq_true rfl) ⟨Nat.le_refl _, Nat.le_refl _⟩ d_Md_sealIt_1 ?_
  intro ov ev1 H locs hp h
  obtain ⟨ho, M2, f2, g2, hp⟩ := hp
  rw [ho]
  refine W.eq (g2 := F0 m 4 ls []) rfl ?_
  have o1 : ev1 = (va_up (va_up (va_up (va_up (va_up ev 39 (eI G 32 (ns (MIXB S (Bf 1))))) 40 (eI G 16 (ns M2))) 41 (eI G 16 f2)) 42 (eI G 16 g2)) 43 (eI G 128 (ns (STRB S (Bf 1))))) := hp
  have t1_39 : ev1 39 = eI G 32 (ns (MIXB S (Bf 1))) := by rw [o1, va_up_ne _ _ (by decide), va_up_ne _ _ (by decide), va_up_ne _ _ (by decide), va_up_ne _ _ (by decide), va_up_self]
  have t1_40 : ev1 40 = eI G 16 (ns M2) := by rw [o1, va_up_ne _ _ (by decide), va_up_ne _ _ (by decide), va_up_ne _ _ (by decide), va_up_self]
  have t1_41 : ev1 41 = eI G 16 f2 := by rw [o1, va_up_ne _ _ (by decide), va_up_ne _ _ (by decide), va_up_self]
  have t1_42 : ev1 42 = eI G 16 g2 := by rw [o1, va_up_ne _ _ (by decide), va_up_self]
  have t1_43 : ev1 43 = eI G 128 (ns (STRB S (Bf 1))) := by rw [o1, va_up_self]
  have t1_38 := (show ev1 38 = ev 38 by rw [o1, va_up_ne _ _ (by decide), va_up_ne _ _ (by decide), va_up_ne _ _ (by decide), va_up_ne _ _ (by decide), va_up_ne _ _ (by decide)]).trans g38
  have t1_44 := (show ev1 44 = ev 44 by rw [o1, va_up_ne _ _ (by decide), va_up_ne _ _ (by decide), va_up_ne _ _ (by decide), va_up_ne _ _ (by decide), va_up_ne _ _ (by decide)]).trans g44
  have t1_45 := (show ev1 45 = ev 45 by rw [o1, va_up_ne _ _ (by decide), va_up_ne _ _ (by decide), va_up_ne _ _ (by decide), va_up_ne _ _ (by decide), va_up_ne _ _ (by decide)]).trans g45
  have t1_46 := (show ev1 46 = ev 46 by rw [o1, va_up_ne _ _ (by decide), va_up_ne _ _ (by decide), va_up_ne _ _ (by decide), va_up_ne _ _ (by decide), va_up_ne _ _ (by decide)]).trans g46
  have t1_47 := (show ev1 47 = ev 47 by rw [o1, va_up_ne _ _ (by decide), va_up_ne _ _ (by decide), va_up_ne _ _ (by decide), va_up_ne _ _ (by decide), va_up_ne _ _ (by decide)]).trans g47
  have t1_48 := (show ev1 48 = ev 48 by rw [o1, va_up_ne _ _ (by decide), va_up_ne _ _ (by decide), va_up_ne _ _ (by decide), va_up_ne _ _ (by decide), va_up_ne _ _ (by decide)]).trans g48
  have t1_49 := (show ev1 49 = ev 49 by rw [o1, va_up_ne _ _ (by decide), va_up_ne _ _ (by decide), va_up_ne _ _ (by decide), va_up_ne _ _ (by decide), va_up_ne _ _ (by decide)]).trans g49
  have t1_50 := (show ev1 50 = ev 50 by rw [o1, va_up_ne _ _ (by decide), va_up_ne _ _ (by decide), va_up_ne _ _ (by decide), va_up_ne _ _ (by decide), va_up_ne _ _ (by decide)]).trans g50
  have t1_37 := (show ev1 37 = ev 37 by rw [o1, va_up_ne _ _ (by decide), va_up_ne _ _ (by decide), va_up_ne _ _ (by decide), va_up_ne _ _ (by decide), va_up_ne _ _ (by decide)]).trans g37
  refine lv_iconst (v := nI (0)) hx hb d_Md_sealIt_4 (by decide) ?_
  refine lv_istore_n (lv' := [(1, .int (nI (0))), (0, .ref (ad 37))]) hx hb d_Md_sealIt_5 rfl hl (by decide) rfl (fun ls hl => ?_)
  have loop2 : ∀ (d k : Nat), k + d = tl →  ∀ (ev2 : Nat → va_E) (H : Heap) (locs : List Loc) (ls : Array Slot), ev2 = (va_up ev1 50 (eI G 112 (ns (fil 0 k (HIDB S (Bf 1) (Bf 3)) x50)))) → wT G A 52 ad ev2 s H locs → lv_has ls 2 [(1, .int (nI (k))), (0, .ref (ad 37))] → W p l e ({ frames := 18, cells := 0, slots := 0, locals := 600 }) s m ([.ref (ad 37)] : List Value).toArray below meth c H locs 0 0 (MQ below (wQc G A 52 ad (fun ov ev' => ov = some (.int (nI (16 + tl))) ∧ MD G ad ev' (va_up Bf 4 (outF (16 + tl) (SEALB S (Bf 1) (Bf 3) tl))) tl (16 + tl) 0 ∧ ∀ j, j < 37 ∨ 50 < j → ev' j = ev j)) ([.ref (ad 37)] : List Value).toArray s 0 0 A) (F0 m 6 ls []) := by
    intro d
    induction d with
    | zero =>
      intro k hk_k  ev2 H locs ls  o2 h hl
      have t2_50 : ev2 50 = eI G 112 (ns (fil 0 k (HIDB S (Bf 1) (Bf 3)) x50)) := by rw [o2, va_up_self]
      have t2_38 := (show ev2 38 = ev1 38 by rw [o2, va_up_ne _ _ (by decide)]).trans t1_38
      have t2_39 := (show ev2 39 = ev1 39 by rw [o2, va_up_ne _ _ (by decide)]).trans t1_39
      have t2_40 := (show ev2 40 = ev1 40 by rw [o2, va_up_ne _ _ (by decide)]).trans t1_40
      have t2_41 := (show ev2 41 = ev1 41 by rw [o2, va_up_ne _ _ (by decide)]).trans t1_41
      have t2_42 := (show ev2 42 = ev1 42 by rw [o2, va_up_ne _ _ (by decide)]).trans t1_42
      have t2_43 := (show ev2 43 = ev1 43 by rw [o2, va_up_ne _ _ (by decide)]).trans t1_43
      have t2_44 := (show ev2 44 = ev1 44 by rw [o2, va_up_ne _ _ (by decide)]).trans t1_44
      have t2_45 := (show ev2 45 = ev1 45 by rw [o2, va_up_ne _ _ (by decide)]).trans t1_45
      have t2_46 := (show ev2 46 = ev1 46 by rw [o2, va_up_ne _ _ (by decide)]).trans t1_46
      have t2_47 := (show ev2 47 = ev1 47 by rw [o2, va_up_ne _ _ (by decide)]).trans t1_47
      have t2_48 := (show ev2 48 = ev1 48 by rw [o2, va_up_ne _ _ (by decide)]).trans t1_48
      have t2_49 := (show ev2 49 = ev1 49 by rw [o2, va_up_ne _ _ (by decide)]).trans t1_49
      have t2_37 := (show ev2 37 = ev1 37 by rw [o2, va_up_ne _ _ (by decide)]).trans t1_37
      refine lv_iload_n hx hb d_Md_sealIt_6 rfl (lv_at hl 0 rfl) ?_
      refine lv_aload_n hx hb d_Md_sealIt_7 rfl (lv_at hl 1 rfl) ?_
      refine wv_getf hx hb h 37 (by decide) (fs := [.ref (ad 38), .int (nI (tl)), .int (nI (ol)), .int (nI (0)), .ref (ad 39), .ref (ad 40), .ref (ad 41), .ref (ad 42), .ref (ad 43), .ref (ad 44), .ref (ad 45), .ref (ad 46), .ref (ad 47), .ref (ad 48), .ref (ad 49), .ref (ad 50)]) t2_37 hts (fun w hw => List.mem_cons_of_mem _ (fW_Md w hw)) hown (ci := 5) (C := "NonceBoxModel") (T := fT_Md) (N := 16) rfl 1 (by decide) (hts _ (List.mem_cons_of_mem _ kf_Md_67)) rfl (v := .int (nI (tl))) rfl d_Md_sealIt_8 ?_
      refine lv_icmp_ge (tgt := 45) hx hb d_Md_sealIt_11 (by decide) (fun _ => ?_) (fun hc => absurd ((nI_leI (by omega) (by omega)).mpr (by omega)) hc)
      rw [show k = tl by omega] at t2_50
      have hY : ∀ j, (fil 0 tl (HIDB S (Bf 1) (Bf 3)) x50) j < 256 := fil_lt (HIDB_lt _ _ (hB 3)) b50
      refine lv_aload_n hx hb d_Md_sealIt_45 rfl (lv_at hl 1 rfl) ?_
      refine wv_V (As := []) (rest := []) (k := 0) ⟨hx, hb, hml, hown, hts⟩ h 37 (by decide) (C := "NonceBoxModel") t2_37 rfl (m_Md_tagKey l G A ad ev2 (STRB S (Bf 1)) (MIXB S (Bf 1)) tl ol 0 t2_37 t2_43 t2_39) kc_Md_tagKey kl_Md_184 km_Md_tagKey kv_Md_tagKey ki_Md (by decide +kernel) ⟨rfl, rfl, Nat.le_of_ble_eq_true rfl, Nat.le_of_ble_eq_true rfl⟩ hl.1 rfl rfl (Nat.le_of_ble_eq_true rfl) ⟨Nat.le_refl _, Nat.le_refl _⟩ d_Md_sealIt_46 ?_
      intro ov ev3 H locs hp h
      rw [hp.1]
      refine W.eq (g2 := F0 m 49 ls []) rfl ?_
      have o3 : ev3 = (va_up ev2 39 (eI G 32 (ns (STRB S (Bf 1))))) := hp.2
      have t3_39 : ev3 39 = eI G 32 (ns (STRB S (Bf 1))) := by rw [o3, va_up_self]
      have t3_38 := (show ev3 38 = ev2 38 by rw [o3, va_up_ne _ _ (by decide)]).trans t2_38
      have t3_40 := (show ev3 40 = ev2 40 by rw [o3, va_up_ne _ _ (by decide)]).trans t2_40
      have t3_41 := (show ev3 41 = ev2 41 by rw [o3, va_up_ne _ _ (by decide)]).trans t2_41
      have t3_42 := (show ev3 42 = ev2 42 by rw [o3, va_up_ne _ _ (by decide)]).trans t2_42
      have t3_43 := (show ev3 43 = ev2 43 by rw [o3, va_up_ne _ _ (by decide)]).trans t2_43
      have t3_44 := (show ev3 44 = ev2 44 by rw [o3, va_up_ne _ _ (by decide)]).trans t2_44
      have t3_45 := (show ev3 45 = ev2 45 by rw [o3, va_up_ne _ _ (by decide)]).trans t2_45
      have t3_46 := (show ev3 46 = ev2 46 by rw [o3, va_up_ne _ _ (by decide)]).trans t2_46
      have t3_47 := (show ev3 47 = ev2 47 by rw [o3, va_up_ne _ _ (by decide)]).trans t2_47
      have t3_48 := (show ev3 48 = ev2 48 by rw [o3, va_up_ne _ _ (by decide)]).trans t2_48
      have t3_49 := (show ev3 49 = ev2 49 by rw [o3, va_up_ne _ _ (by decide)]).trans t2_49
      have t3_50 := (show ev3 50 = ev2 50 by rw [o3, va_up_ne _ _ (by decide)]).trans t2_50
      have t3_37 := (show ev3 37 = ev2 37 by rw [o3, va_up_ne _ _ (by decide)]).trans t2_37
      refine lv_aload_n hx hb d_Md_sealIt_49 rfl (lv_at hl 1 rfl) ?_
      refine lv_aload_n hx hb d_Md_sealIt_50 rfl (lv_at hl 1 rfl) ?_
      refine wv_getf hx hb h 37 (by decide) (fs := [.ref (ad 38), .int (nI (tl)), .int (nI (ol)), .int (nI (0)), .ref (ad 39), .ref (ad 40), .ref (ad 41), .ref (ad 42), .ref (ad 43), .ref (ad 44), .ref (ad 45), .ref (ad 46), .ref (ad 47), .ref (ad 48), .ref (ad 49), .ref (ad 50)]) t3_37 hts (fun w hw => List.mem_cons_of_mem _ (fW_Md w hw)) hown (ci := 5) (C := "NonceBoxModel") (T := fT_Md) (N := 16) rfl 1 (by decide) (hts _ (List.mem_cons_of_mem _ kf_Md_67)) rfl (v := .int (nI (tl))) rfl d_Md_sealIt_51 ?_
      refine wv_V (As := [.int (nI (tl))]) (rest := []) (k := 1) ⟨hx, hb, hml, hown, hts⟩ h 37 (by decide) (C := "NonceBoxModel") t3_37 rfl (m_Md_makeTag l G A ad ev3 (tl) (STRB S (Bf 1)) (fil 0 tl (HIDB S (Bf 1) (Bf 3)) x50) x49 x46 x47 x48 tl ol 0 t3_37 htl t3_39 t3_50 (STRB_lt _ _) hY t3_46 t3_47 t3_48 t3_49) kc_Md_makeTag kl_Md_133 km_Md_makeTag kv_Md_makeTag ki_Md (by decide +kernel) ⟨rfl, rfl, Nat.le_of_ble_eq_true rfl, Nat.le_of_ble_eq_true rfl⟩ hl.1 rfl rfl (Nat.le_of_ble_eq_true rfl) ⟨Nat.le_refl _, Nat.le_refl _⟩ d_Md_sealIt_54 ?_
      intro ov ev4 H locs hp h
      obtain ⟨ho, r46, r47, r48, hp⟩ := hp
      rw [ho]
      refine W.eq (g2 := F0 m 57 ls []) rfl ?_
      have o4 : ev4 = (va_up (va_up (va_up (va_up ev3 46 (eJ G 5 r46)) 47 (eJ G 5 r47)) 48 (eJ G 5 r48)) 49 (eI G 16 (ns (TAGM (STRB S (Bf 1)) (fil 0 tl (HIDB S (Bf 1) (Bf 3)) x50) 0 (tl))))) := hp
      have t4_46 : ev4 46 = eJ G 5 r46 := by rw [o4, va_up_ne _ _ (by decide), va_up_ne _ _ (by decide), va_up_ne _ _ (by decide), va_up_self]
      have t4_47 : ev4 47 = eJ G 5 r47 := by rw [o4, va_up_ne _ _ (by decide), va_up_ne _ _ (by decide), va_up_self]
      have t4_48 : ev4 48 = eJ G 5 r48 := by rw [o4, va_up_ne _ _ (by decide), va_up_self]
      have t4_49 : ev4 49 = eI G 16 (ns (TAGM (STRB S (Bf 1)) (fil 0 tl (HIDB S (Bf 1) (Bf 3)) x50) 0 (tl))) := by rw [o4, va_up_self]
      have t4_38 := (show ev4 38 = ev3 38 by rw [o4, va_up_ne _ _ (by decide), va_up_ne _ _ (by decide), va_up_ne _ _ (by decide), va_up_ne _ _ (by decide)]).trans t3_38
      have t4_39 := (show ev4 39 = ev3 39 by rw [o4, va_up_ne _ _ (by decide), va_up_ne _ _ (by decide), va_up_ne _ _ (by decide), va_up_ne _ _ (by decide)]).trans t3_39
      have t4_40 := (show ev4 40 = ev3 40 by rw [o4, va_up_ne _ _ (by decide), va_up_ne _ _ (by decide), va_up_ne _ _ (by decide), va_up_ne _ _ (by decide)]).trans t3_40
      have t4_41 := (show ev4 41 = ev3 41 by rw [o4, va_up_ne _ _ (by decide), va_up_ne _ _ (by decide), va_up_ne _ _ (by decide), va_up_ne _ _ (by decide)]).trans t3_41
      have t4_42 := (show ev4 42 = ev3 42 by rw [o4, va_up_ne _ _ (by decide), va_up_ne _ _ (by decide), va_up_ne _ _ (by decide), va_up_ne _ _ (by decide)]).trans t3_42
      have t4_43 := (show ev4 43 = ev3 43 by rw [o4, va_up_ne _ _ (by decide), va_up_ne _ _ (by decide), va_up_ne _ _ (by decide), va_up_ne _ _ (by decide)]).trans t3_43
      have t4_44 := (show ev4 44 = ev3 44 by rw [o4, va_up_ne _ _ (by decide), va_up_ne _ _ (by decide), va_up_ne _ _ (by decide), va_up_ne _ _ (by decide)]).trans t3_44
      have t4_45 := (show ev4 45 = ev3 45 by rw [o4, va_up_ne _ _ (by decide), va_up_ne _ _ (by decide), va_up_ne _ _ (by decide), va_up_ne _ _ (by decide)]).trans t3_45
      have t4_50 := (show ev4 50 = ev3 50 by rw [o4, va_up_ne _ _ (by decide), va_up_ne _ _ (by decide), va_up_ne _ _ (by decide), va_up_ne _ _ (by decide)]).trans t3_50
      have t4_37 := (show ev4 37 = ev3 37 by rw [o4, va_up_ne _ _ (by decide), va_up_ne _ _ (by decide), va_up_ne _ _ (by decide), va_up_ne _ _ (by decide)]).trans t3_37
      have eT : TAGM (STRB S (Bf 1)) (fil 0 tl (HIDB S (Bf 1) (Bf 3)) x50) 0 tl = TAGM (STRB S (Bf 1)) (HIDB S (Bf 1) (Bf 3)) 0 tl := TAGM_congr (fun _ _ => rfl) (fun j hj => by rw [fil_in hj, Nat.zero_add])
      rw [eT] at t4_49
      refine lv_aload_n hx hb d_Md_sealIt_57 rfl (lv_at hl 1 rfl) ?_
      refine lv_bipush (v := nI (16)) hx hb d_Md_sealIt_58 (by decide) ?_
      refine lv_aload_n hx hb d_Md_sealIt_60 rfl (lv_at hl 1 rfl) ?_
      refine wv_getf hx hb h 37 (by decide) (fs := [.ref (ad 38), .int (nI (tl)), .int (nI (ol)), .int (nI (0)), .ref (ad 39), .ref (ad 40), .ref (ad 41), .ref (ad 42), .ref (ad 43), .ref (ad 44), .ref (ad 45), .ref (ad 46), .ref (ad 47), .ref (ad 48), .ref (ad 49), .ref (ad 50)]) t4_37 hts (fun w hw => List.mem_cons_of_mem _ (fW_Md w hw)) hown (ci := 5) (C := "NonceBoxModel") (T := fT_Md) (N := 16) rfl 1 (by decide) (hts _ (List.mem_cons_of_mem _ kf_Md_67)) rfl (v := .int (nI (tl))) rfl d_Md_sealIt_61 ?_
      refine lv_iadd hx hb d_Md_sealIt_64 ?_
      refine wv_top (w := nI (16 + tl)) (nI_add _ _) ?_
      refine wv_V (As := [.int (nI (16 + tl))]) (rest := []) (k := 1) ⟨hx, hb, hml, hown, hts⟩ h 37 (by decide) (C := "NonceBoxModel") t4_37 rfl (m_Md_beginOut l G A ad ev4 (16 + tl) FF tl ol 0 t4_37 t4_38) kc_Md_beginOut kl_Md_99 km_Md_beginOut kv_Md_beginOut ki_Md (by decide +kernel) ⟨rfl, rfl, Nat.le_of_ble_eq_true rfl, Nat.le_of_ble_eq_true rfl⟩ hl.1 rfl rfl (Nat.le_of_ble_eq_true rfl) ⟨Nat.le_refl _, Nat.le_refl _⟩ d_Md_sealIt_65 ?_
      intro ov ev5 H locs hp h
      rw [hp.1]
      refine W.eq (g2 := F0 m 68 ls []) rfl ?_
      have o5 : ev5 = va_up (va_up ev4 38 (eI G 312 (ns (fil 200 112 (fun _ => 0) FF)))) 37 (eO 5 [.ref (ad 38), .int (nI tl), .int (nI (16 + tl)), .int (nI 0), .ref (ad 39), .ref (ad 40), .ref (ad 41), .ref (ad 42), .ref (ad 43), .ref (ad 44), .ref (ad 45), .ref (ad 46), .ref (ad 47), .ref (ad 48), .ref (ad 49), .ref (ad 50)]) := hp.2
      have t5_38 : ev5 38 = eI G 312 (ns (fil 200 112 (fun _ => 0) FF)) := by rw [o5, va_up_ne _ _ (by decide), va_up_self]
      have t5_37 : ev5 37 = eO 5 [.ref (ad 38), .int (nI tl), .int (nI (16 + tl)), .int (nI 0), .ref (ad 39), .ref (ad 40), .ref (ad 41), .ref (ad 42), .ref (ad 43), .ref (ad 44), .ref (ad 45), .ref (ad 46), .ref (ad 47), .ref (ad 48), .ref (ad 49), .ref (ad 50)] := by rw [o5, va_up_self]
      have t5_39 := (show ev5 39 = ev4 39 by rw [o5, va_up_ne _ _ (by decide), va_up_ne _ _ (by decide)]).trans t4_39
      have t5_40 := (show ev5 40 = ev4 40 by rw [o5, va_up_ne _ _ (by decide), va_up_ne _ _ (by decide)]).trans t4_40
      have t5_41 := (show ev5 41 = ev4 41 by rw [o5, va_up_ne _ _ (by decide), va_up_ne _ _ (by decide)]).trans t4_41
      have t5_42 := (show ev5 42 = ev4 42 by rw [o5, va_up_ne _ _ (by decide), va_up_ne _ _ (by decide)]).trans t4_42
      have t5_43 := (show ev5 43 = ev4 43 by rw [o5, va_up_ne _ _ (by decide), va_up_ne _ _ (by decide)]).trans t4_43
      have t5_44 := (show ev5 44 = ev4 44 by rw [o5, va_up_ne _ _ (by decide), va_up_ne _ _ (by decide)]).trans t4_44
      have t5_45 := (show ev5 45 = ev4 45 by rw [o5, va_up_ne _ _ (by decide), va_up_ne _ _ (by decide)]).trans t4_45
      have t5_46 := (show ev5 46 = ev4 46 by rw [o5, va_up_ne _ _ (by decide), va_up_ne _ _ (by decide)]).trans t4_46
      have t5_47 := (show ev5 47 = ev4 47 by rw [o5, va_up_ne _ _ (by decide), va_up_ne _ _ (by decide)]).trans t4_47
      have t5_48 := (show ev5 48 = ev4 48 by rw [o5, va_up_ne _ _ (by decide), va_up_ne _ _ (by decide)]).trans t4_48
      have t5_49 := (show ev5 49 = ev4 49 by rw [o5, va_up_ne _ _ (by decide), va_up_ne _ _ (by decide)]).trans t4_49
      have t5_50 := (show ev5 50 = ev4 50 by rw [o5, va_up_ne _ _ (by decide), va_up_ne _ _ (by decide)]).trans t4_50
      refine lv_iconst (v := nI (0)) hx hb d_Md_sealIt_68 (by decide) ?_
      refine lv_istore_n (lv' := [(1, .int (nI (0))), (0, .ref (ad 37))]) hx hb d_Md_sealIt_69 rfl hl (by decide) rfl (fun ls hl => ?_)
      have loop6 : ∀ (d k2 : Nat), k2 + d = 16 →  ∀ (ev6 : Nat → va_E) (H : Heap) (locs : List Loc) (ls : Array Slot), ev6 = (va_up ev5 38 (eI G 312 (ns (fil 200 k2 (TAGM (STRB S (Bf 1)) (HIDB S (Bf 1) (Bf 3)) 0 tl) (fil 200 112 (fun _ => 0) FF))))) → wT G A 52 ad ev6 s H locs → lv_has ls 2 [(1, .int (nI (k2))), (0, .ref (ad 37))] → W p l e ({ frames := 18, cells := 0, slots := 0, locals := 600 }) s m ([.ref (ad 37)] : List Value).toArray below meth c H locs 0 0 (MQ below (wQc G A 52 ad (fun ov ev' => ov = some (.int (nI (16 + tl))) ∧ MD G ad ev' (va_up Bf 4 (outF (16 + tl) (SEALB S (Bf 1) (Bf 3) tl))) tl (16 + tl) 0 ∧ ∀ j, j < 37 ∨ 50 < j → ev' j = ev j)) ([.ref (ad 37)] : List Value).toArray s 0 0 A) (F0 m 70 ls []) := by
        intro d
        induction d with
        | zero =>
          intro k2 hk_k2  ev6 H locs ls  o6 h hl
          have t6_38 : ev6 38 = eI G 312 (ns (fil 200 k2 (TAGM (STRB S (Bf 1)) (HIDB S (Bf 1) (Bf 3)) 0 tl) (fil 200 112 (fun _ => 0) FF))) := by rw [o6, va_up_self]
          have t6_39 := (show ev6 39 = ev5 39 by rw [o6, va_up_ne _ _ (by decide)]).trans t5_39
          have t6_40 := (show ev6 40 = ev5 40 by rw [o6, va_up_ne _ _ (by decide)]).trans t5_40
          have t6_41 := (show ev6 41 = ev5 41 by rw [o6, va_up_ne _ _ (by decide)]).trans t5_41
          have t6_42 := (show ev6 42 = ev5 42 by rw [o6, va_up_ne _ _ (by decide)]).trans t5_42
          have t6_43 := (show ev6 43 = ev5 43 by rw [o6, va_up_ne _ _ (by decide)]).trans t5_43
          have t6_44 := (show ev6 44 = ev5 44 by rw [o6, va_up_ne _ _ (by decide)]).trans t5_44
          have t6_45 := (show ev6 45 = ev5 45 by rw [o6, va_up_ne _ _ (by decide)]).trans t5_45
          have t6_46 := (show ev6 46 = ev5 46 by rw [o6, va_up_ne _ _ (by decide)]).trans t5_46
          have t6_47 := (show ev6 47 = ev5 47 by rw [o6, va_up_ne _ _ (by decide)]).trans t5_47
          have t6_48 := (show ev6 48 = ev5 48 by rw [o6, va_up_ne _ _ (by decide)]).trans t5_48
          have t6_49 := (show ev6 49 = ev5 49 by rw [o6, va_up_ne _ _ (by decide)]).trans t5_49
          have t6_50 := (show ev6 50 = ev5 50 by rw [o6, va_up_ne _ _ (by decide)]).trans t5_50
          have t6_37 := (show ev6 37 = ev5 37 by rw [o6, va_up_ne _ _ (by decide)]).trans t5_37
          refine lv_iload_n hx hb d_Md_sealIt_70 rfl (lv_at hl 0 rfl) ?_
          refine lv_bipush (v := nI (16)) hx hb d_Md_sealIt_71 (by decide) ?_
          refine lv_icmp_ge (tgt := 98) hx hb d_Md_sealIt_73 (by decide) (fun _ => ?_) (fun hc => absurd ((nI_leI (by omega) (by omega)).mpr (by omega)) hc)
          rw [show k2 = 16 by omega] at t6_38
          refine lv_iconst (v := nI (0)) hx hb d_Md_sealIt_98 (by decide) ?_
          refine lv_istore_n (lv' := [(1, .int (nI (0))), (0, .ref (ad 37))]) hx hb d_Md_sealIt_99 rfl hl (by decide) rfl (fun ls hl => ?_)
          have loop7 : ∀ (d k3 : Nat), k3 + d = tl →  ∀ (ev7 : Nat → va_E) (H : Heap) (locs : List Loc) (ls : Array Slot), ev7 = (va_up ev6 38 (eI G 312 (ns (fil 216 k3 (HIDB S (Bf 1) (Bf 3)) (fil 200 16 (TAGM (STRB S (Bf 1)) (HIDB S (Bf 1) (Bf 3)) 0 tl) (fil 200 112 (fun _ => 0) FF)))))) → wT G A 52 ad ev7 s H locs → lv_has ls 2 [(1, .int (nI (k3))), (0, .ref (ad 37))] → W p l e ({ frames := 18, cells := 0, slots := 0, locals := 600 }) s m ([.ref (ad 37)] : List Value).toArray below meth c H locs 0 0 (MQ below (wQc G A 52 ad (fun ov ev' => ov = some (.int (nI (16 + tl))) ∧ MD G ad ev' (va_up Bf 4 (outF (16 + tl) (SEALB S (Bf 1) (Bf 3) tl))) tl (16 + tl) 0 ∧ ∀ j, j < 37 ∨ 50 < j → ev' j = ev j)) ([.ref (ad 37)] : List Value).toArray s 0 0 A) (F0 m 100 ls []) := by
            intro d
            induction d with
            | zero =>
              intro k3 hk_k3  ev7 H locs ls  o7 h hl
              have t7_38 : ev7 38 = eI G 312 (ns (fil 216 k3 (HIDB S (Bf 1) (Bf 3)) (fil 200 16 (TAGM (STRB S (Bf 1)) (HIDB S (Bf 1) (Bf 3)) 0 tl) (fil 200 112 (fun _ => 0) FF)))) := by rw [o7, va_up_self]
              have t7_39 := (show ev7 39 = ev6 39 by rw [o7, va_up_ne _ _ (by decide)]).trans t6_39
              have t7_40 := (show ev7 40 = ev6 40 by rw [o7, va_up_ne _ _ (by decide)]).trans t6_40
              have t7_41 := (show ev7 41 = ev6 41 by rw [o7, va_up_ne _ _ (by decide)]).trans t6_41
              have t7_42 := (show ev7 42 = ev6 42 by rw [o7, va_up_ne _ _ (by decide)]).trans t6_42
              have t7_43 := (show ev7 43 = ev6 43 by rw [o7, va_up_ne _ _ (by decide)]).trans t6_43
              have t7_44 := (show ev7 44 = ev6 44 by rw [o7, va_up_ne _ _ (by decide)]).trans t6_44
              have t7_45 := (show ev7 45 = ev6 45 by rw [o7, va_up_ne _ _ (by decide)]).trans t6_45
              have t7_46 := (show ev7 46 = ev6 46 by rw [o7, va_up_ne _ _ (by decide)]).trans t6_46
              have t7_47 := (show ev7 47 = ev6 47 by rw [o7, va_up_ne _ _ (by decide)]).trans t6_47
              have t7_48 := (show ev7 48 = ev6 48 by rw [o7, va_up_ne _ _ (by decide)]).trans t6_48
              have t7_49 := (show ev7 49 = ev6 49 by rw [o7, va_up_ne _ _ (by decide)]).trans t6_49
              have t7_50 := (show ev7 50 = ev6 50 by rw [o7, va_up_ne _ _ (by decide)]).trans t6_50
              have t7_37 := (show ev7 37 = ev6 37 by rw [o7, va_up_ne _ _ (by decide)]).trans t6_37
              refine lv_iload_n hx hb d_Md_sealIt_100 rfl (lv_at hl 0 rfl) ?_
              refine lv_aload_n hx hb d_Md_sealIt_101 rfl (lv_at hl 1 rfl) ?_
              refine wv_getf hx hb h 37 (by decide) (fs := [.ref (ad 38), .int (nI (tl)), .int (nI ((16 + tl))), .int (nI (0)), .ref (ad 39), .ref (ad 40), .ref (ad 41), .ref (ad 42), .ref (ad 43), .ref (ad 44), .ref (ad 45), .ref (ad 46), .ref (ad 47), .ref (ad 48), .ref (ad 49), .ref (ad 50)]) t7_37 hts (fun w hw => List.mem_cons_of_mem _ (fW_Md w hw)) hown (ci := 5) (C := "NonceBoxModel") (T := fT_Md) (N := 16) rfl 1 (by decide) (hts _ (List.mem_cons_of_mem _ kf_Md_67)) rfl (v := .int (nI (tl))) rfl d_Md_sealIt_102 ?_
              refine lv_icmp_ge (tgt := 130) hx hb d_Md_sealIt_105 (by decide) (fun _ => ?_) (fun hc => absurd ((nI_leI (by omega) (by omega)).mpr (by omega)) hc)
              rw [show k3 = tl by omega] at t7_38
              have h := wT_eqI (g := (ns (fil 200 112 (outF (16 + tl) (SEALB S (Bf 1) (Bf 3) tl)) FF))) h 38 (by decide) t7_38 (fun j hj => by
                  unfold ns
                  congr 1
                  unfold fil outF SEALB
                  by_cases c1 : 216 ≤ j ∧ j < 216 + tl
                  · rw [if_pos c1, if_pos (by omega), if_pos (by omega), if_neg (by omega), show j - 200 - 16 = j - 216 by omega]
                  · rw [if_neg c1]
                    by_cases c2 : 200 ≤ j ∧ j < 200 + 16
                    · rw [if_pos c2, if_pos (by omega), if_pos (by omega), if_pos (by omega)]
                    · rw [if_neg c2]
                      by_cases c3 : 200 ≤ j ∧ j < 200 + 112
                      · rw [if_pos c3, if_pos c3, if_neg (by omega)]
                      · rw [if_neg c3, if_neg c3])
              obtain ⟨ev8, o8⟩ : ∃ z, z = va_up ev7 38 (eI G 312 (ns (fil 200 112 (outF (16 + tl) (SEALB S (Bf 1) (Bf 3) tl)) FF))) := ⟨_, rfl⟩
              rw [← o8] at h
              have t8_38 : ev8 38 = eI G 312 (ns (fil 200 112 (outF (16 + tl) (SEALB S (Bf 1) (Bf 3) tl)) FF)) := by rw [o8, va_up_self]
              have t8_39 := (show ev8 39 = ev7 39 by rw [o8, va_up_ne _ _ (by decide)]).trans t7_39
              have t8_40 := (show ev8 40 = ev7 40 by rw [o8, va_up_ne _ _ (by decide)]).trans t7_40
              have t8_41 := (show ev8 41 = ev7 41 by rw [o8, va_up_ne _ _ (by decide)]).trans t7_41
              have t8_42 := (show ev8 42 = ev7 42 by rw [o8, va_up_ne _ _ (by decide)]).trans t7_42
              have t8_43 := (show ev8 43 = ev7 43 by rw [o8, va_up_ne _ _ (by decide)]).trans t7_43
              have t8_44 := (show ev8 44 = ev7 44 by rw [o8, va_up_ne _ _ (by decide)]).trans t7_44
              have t8_45 := (show ev8 45 = ev7 45 by rw [o8, va_up_ne _ _ (by decide)]).trans t7_45
              have t8_46 := (show ev8 46 = ev7 46 by rw [o8, va_up_ne _ _ (by decide)]).trans t7_46
              have t8_47 := (show ev8 47 = ev7 47 by rw [o8, va_up_ne _ _ (by decide)]).trans t7_47
              have t8_48 := (show ev8 48 = ev7 48 by rw [o8, va_up_ne _ _ (by decide)]).trans t7_48
              have t8_49 := (show ev8 49 = ev7 49 by rw [o8, va_up_ne _ _ (by decide)]).trans t7_49
              have t8_50 := (show ev8 50 = ev7 50 by rw [o8, va_up_ne _ _ (by decide)]).trans t7_50
              have t8_37 := (show ev8 37 = ev7 37 by rw [o8, va_up_ne _ _ (by decide)]).trans t7_37
              refine lv_aload_n hx hb d_Md_sealIt_130 rfl (lv_at hl 1 rfl) ?_
              refine wv_getf hx hb h 37 (by decide) (fs := [.ref (ad 38), .int (nI (tl)), .int (nI ((16 + tl))), .int (nI (0)), .ref (ad 39), .ref (ad 40), .ref (ad 41), .ref (ad 42), .ref (ad 43), .ref (ad 44), .ref (ad 45), .ref (ad 46), .ref (ad 47), .ref (ad 48), .ref (ad 49), .ref (ad 50)]) t8_37 hts (fun w hw => List.mem_cons_of_mem _ (fW_Md w hw)) hown (ci := 5) (C := "NonceBoxModel") (T := fT_Md) (N := 16) rfl 2 (by decide) (hts _ (List.mem_cons_of_mem _ kf_Md_70)) rfl (v := .int (nI ((16 + tl)))) rfl d_Md_sealIt_131 ?_
              exact wv_iret hx hb hr hlocks h d_Md_sealIt_134 ⟨rfl, ⟨t8_37, ⟨_, FB_out hFB, t8_38⟩, ⟨_, t8_39⟩, ⟨_, t8_40⟩, ⟨_, t8_41⟩, ⟨_, t8_42⟩, ⟨_, t8_43⟩, ⟨_, t8_44⟩, ⟨_, t8_45⟩, ⟨_, t8_46⟩, ⟨_, t8_47⟩, ⟨_, t8_48⟩, ⟨_, t8_49⟩, ⟨_, hY, t8_50⟩, Bf_lt hB (outF_lt (SEALB_lt _ _ (hB 3) _)) 4, htl, (by omega)⟩, (fun j hj => by rw [o8, va_up_ne _ _ (by omega), o7, va_up_ne _ _ (by omega), o6, va_up_ne _ _ (by omega), o5, va_up_ne _ _ (by omega), va_up_ne _ _ (by omega), o4, va_up_ne _ _ (by omega), va_up_ne _ _ (by omega), va_up_ne _ _ (by omega), va_up_ne _ _ (by omega), o3, va_up_ne _ _ (by omega), o2, va_up_ne _ _ (by omega), o1, va_up_ne _ _ (by omega), va_up_ne _ _ (by omega), va_up_ne _ _ (by omega), va_up_ne _ _ (by omega), va_up_ne _ _ (by omega)])⟩
            | succ d ih =>
              intro k3 hk_k3  ev7 H locs ls  o7 h hl
              have t7_38 : ev7 38 = eI G 312 (ns (fil 216 k3 (HIDB S (Bf 1) (Bf 3)) (fil 200 16 (TAGM (STRB S (Bf 1)) (HIDB S (Bf 1) (Bf 3)) 0 tl) (fil 200 112 (fun _ => 0) FF)))) := by rw [o7, va_up_self]
              have t7_39 := (show ev7 39 = ev6 39 by rw [o7, va_up_ne _ _ (by decide)]).trans t6_39
              have t7_40 := (show ev7 40 = ev6 40 by rw [o7, va_up_ne _ _ (by decide)]).trans t6_40
              have t7_41 := (show ev7 41 = ev6 41 by rw [o7, va_up_ne _ _ (by decide)]).trans t6_41
              have t7_42 := (show ev7 42 = ev6 42 by rw [o7, va_up_ne _ _ (by decide)]).trans t6_42
              have t7_43 := (show ev7 43 = ev6 43 by rw [o7, va_up_ne _ _ (by decide)]).trans t6_43
              have t7_44 := (show ev7 44 = ev6 44 by rw [o7, va_up_ne _ _ (by decide)]).trans t6_44
              have t7_45 := (show ev7 45 = ev6 45 by rw [o7, va_up_ne _ _ (by decide)]).trans t6_45
              have t7_46 := (show ev7 46 = ev6 46 by rw [o7, va_up_ne _ _ (by decide)]).trans t6_46
              have t7_47 := (show ev7 47 = ev6 47 by rw [o7, va_up_ne _ _ (by decide)]).trans t6_47
              have t7_48 := (show ev7 48 = ev6 48 by rw [o7, va_up_ne _ _ (by decide)]).trans t6_48
              have t7_49 := (show ev7 49 = ev6 49 by rw [o7, va_up_ne _ _ (by decide)]).trans t6_49
              have t7_50 := (show ev7 50 = ev6 50 by rw [o7, va_up_ne _ _ (by decide)]).trans t6_50
              have t7_37 := (show ev7 37 = ev6 37 by rw [o7, va_up_ne _ _ (by decide)]).trans t6_37
              refine lv_iload_n hx hb d_Md_sealIt_100 rfl (lv_at hl 0 rfl) ?_
              refine lv_aload_n hx hb d_Md_sealIt_101 rfl (lv_at hl 1 rfl) ?_
              refine wv_getf hx hb h 37 (by decide) (fs := [.ref (ad 38), .int (nI (tl)), .int (nI ((16 + tl))), .int (nI (0)), .ref (ad 39), .ref (ad 40), .ref (ad 41), .ref (ad 42), .ref (ad 43), .ref (ad 44), .ref (ad 45), .ref (ad 46), .ref (ad 47), .ref (ad 48), .ref (ad 49), .ref (ad 50)]) t7_37 hts (fun w hw => List.mem_cons_of_mem _ (fW_Md w hw)) hown (ci := 5) (C := "NonceBoxModel") (T := fT_Md) (N := 16) rfl 1 (by decide) (hts _ (List.mem_cons_of_mem _ kf_Md_67)) rfl (v := .int (nI (tl))) rfl d_Md_sealIt_102 ?_
              refine lv_icmp_ge (tgt := 130) hx hb d_Md_sealIt_105 (by decide) (fun hc => absurd ((nI_leI (by omega) (by omega)).mp hc) (by omega)) (fun _ => ?_)
              refine lv_aload_n hx hb d_Md_sealIt_108 rfl (lv_at hl 1 rfl) ?_
              refine wv_getf hx hb h 37 (by decide) (fs := [.ref (ad 38), .int (nI (tl)), .int (nI ((16 + tl))), .int (nI (0)), .ref (ad 39), .ref (ad 40), .ref (ad 41), .ref (ad 42), .ref (ad 43), .ref (ad 44), .ref (ad 45), .ref (ad 46), .ref (ad 47), .ref (ad 48), .ref (ad 49), .ref (ad 50)]) t7_37 hts (fun w hw => List.mem_cons_of_mem _ (fW_Md w hw)) hown (ci := 5) (C := "NonceBoxModel") (T := fT_Md) (N := 16) rfl 0 (by decide) (hts _ (List.mem_cons_of_mem _ kf_Md_7)) rfl (v := .ref (ad 38)) rfl d_Md_sealIt_109 ?_
              refine lv_sipush (v := nI (216)) hx hb d_Md_sealIt_112 (by decide) ?_
              refine lv_iload_n hx hb d_Md_sealIt_115 rfl (lv_at hl 0 rfl) ?_
              refine lv_iadd hx hb d_Md_sealIt_116 ?_
              refine wv_top (w := nI (216 + k3)) (nI_add _ _) ?_
              refine lv_aload_n hx hb d_Md_sealIt_117 rfl (lv_at hl 1 rfl) ?_
              refine wv_getf hx hb h 37 (by decide) (fs := [.ref (ad 38), .int (nI (tl)), .int (nI ((16 + tl))), .int (nI (0)), .ref (ad 39), .ref (ad 40), .ref (ad 41), .ref (ad 42), .ref (ad 43), .ref (ad 44), .ref (ad 45), .ref (ad 46), .ref (ad 47), .ref (ad 48), .ref (ad 49), .ref (ad 50)]) t7_37 hts (fun w hw => List.mem_cons_of_mem _ (fW_Md w hw)) hown (ci := 5) (C := "NonceBoxModel") (T := fT_Md) (N := 16) rfl 15 (by decide) (hts _ (List.mem_cons_of_mem _ kf_Md_47)) rfl (v := .ref (ad 50)) rfl d_Md_sealIt_118 ?_
              refine lv_iload_n hx hb d_Md_sealIt_121 rfl (lv_at hl 0 rfl) ?_
              refine wv_iald hx hb h 50 (by decide) (f := (ns (fil 0 tl (HIDB S (Bf 1) (Bf 3)) x50))) t7_50 (k := k3) rfl (by omega) (by decide) d_Md_sealIt_122 ?_
              refine wv_top (w := nI ((HIDB S (Bf 1) (Bf 3)) k3)) (by unfold ns; rw [show fil 0 tl (HIDB S (Bf 1) (Bf 3)) x50 k3 = (HIDB S (Bf 1) (Bf 3)) k3 from (congrArg _ (Nat.zero_add k3)).symm.trans (fil_in (by omega))]) ?_
              refine wv_iast hx hb h 38 (by decide) (f := (ns (fil 216 k3 (HIDB S (Bf 1) (Bf 3)) (fil 200 16 (TAGM (STRB S (Bf 1)) (HIDB S (Bf 1) (Bf 3)) 0 tl) (fil 200 112 (fun _ => 0) FF))))) t7_38 (k := 216 + k3) rfl (by omega) (by decide) d_Md_sealIt_123 (fun H locs h => ?_)
              obtain ⟨ev8, o8⟩ : ∃ z, z = va_up ev7 38 (eI G 312 (va_up ((ns (fil 216 k3 (HIDB S (Bf 1) (Bf 3)) (fil 200 16 (TAGM (STRB S (Bf 1)) (HIDB S (Bf 1) (Bf 3)) 0 tl) (fil 200 112 (fun _ => 0) FF))))) (216 + k3) (nI ((HIDB S (Bf 1) (Bf 3)) k3)))) := ⟨_, rfl⟩
              rw [← o8] at h
              have t8_38 : ev8 38 = eI G 312 (va_up ((ns (fil 216 k3 (HIDB S (Bf 1) (Bf 3)) (fil 200 16 (TAGM (STRB S (Bf 1)) (HIDB S (Bf 1) (Bf 3)) 0 tl) (fil 200 112 (fun _ => 0) FF))))) (216 + k3) (nI ((HIDB S (Bf 1) (Bf 3)) k3))) := by rw [o8, va_up_self]
              have t8_39 := (show ev8 39 = ev7 39 by rw [o8, va_up_ne _ _ (by decide)]).trans t7_39
              have t8_40 := (show ev8 40 = ev7 40 by rw [o8, va_up_ne _ _ (by decide)]).trans t7_40
              have t8_41 := (show ev8 41 = ev7 41 by rw [o8, va_up_ne _ _ (by decide)]).trans t7_41
              have t8_42 := (show ev8 42 = ev7 42 by rw [o8, va_up_ne _ _ (by decide)]).trans t7_42
              have t8_43 := (show ev8 43 = ev7 43 by rw [o8, va_up_ne _ _ (by decide)]).trans t7_43
              have t8_44 := (show ev8 44 = ev7 44 by rw [o8, va_up_ne _ _ (by decide)]).trans t7_44
              have t8_45 := (show ev8 45 = ev7 45 by rw [o8, va_up_ne _ _ (by decide)]).trans t7_45
              have t8_46 := (show ev8 46 = ev7 46 by rw [o8, va_up_ne _ _ (by decide)]).trans t7_46
              have t8_47 := (show ev8 47 = ev7 47 by rw [o8, va_up_ne _ _ (by decide)]).trans t7_47
              have t8_48 := (show ev8 48 = ev7 48 by rw [o8, va_up_ne _ _ (by decide)]).trans t7_48
              have t8_49 := (show ev8 49 = ev7 49 by rw [o8, va_up_ne _ _ (by decide)]).trans t7_49
              have t8_50 := (show ev8 50 = ev7 50 by rw [o8, va_up_ne _ _ (by decide)]).trans t7_50
              have t8_37 := (show ev8 37 = ev7 37 by rw [o8, va_up_ne _ _ (by decide)]).trans t7_37
              rw [ns_up _ _ ((HIDB S (Bf 1) (Bf 3)) k3) rfl] at o8
              refine lv_iinc (v := nI (k3 + 1)) (lv' := [(1, .int (nI (k3 + 1))), (0, .ref (ad 37))]) hx hb d_Md_sealIt_124 hl (k := 0) rfl (nI_add _ _) (by decide) rfl (fun ls hl => ?_)
              refine lv_goto (tgt := 100) hx hb d_Md_sealIt_127 (by decide) ?_
              refine ih (k3 + 1) (by omega) ev8 H locs ls ?_ h (lv_sub hl [0, 1] rfl)
              rw [o8, o7, va_up2, ← fil_s 216 k3 (HIDB S (Bf 1) (Bf 3)) (fil 200 16 (TAGM (STRB S (Bf 1)) (HIDB S (Bf 1) (Bf 3)) 0 tl) (fil 200 112 (fun _ => 0) FF)) rfl]
          exact loop7 tl 0 (by omega) ev6 H locs ls (by rw [fil_0, va_upi _ _ t6_38]) h (lv_sub hl [0, 1] rfl)
        | succ d ih =>
          intro k2 hk_k2  ev6 H locs ls  o6 h hl
          have t6_38 : ev6 38 = eI G 312 (ns (fil 200 k2 (TAGM (STRB S (Bf 1)) (HIDB S (Bf 1) (Bf 3)) 0 tl) (fil 200 112 (fun _ => 0) FF))) := by rw [o6, va_up_self]
          have t6_39 := (show ev6 39 = ev5 39 by rw [o6, va_up_ne _ _ (by decide)]).trans t5_39
          have t6_40 := (show ev6 40 = ev5 40 by rw [o6, va_up_ne _ _ (by decide)]).trans t5_40
          have t6_41 := (show ev6 41 = ev5 41 by rw [o6, va_up_ne _ _ (by decide)]).trans t5_41
          have t6_42 := (show ev6 42 = ev5 42 by rw [o6, va_up_ne _ _ (by decide)]).trans t5_42
          have t6_43 := (show ev6 43 = ev5 43 by rw [o6, va_up_ne _ _ (by decide)]).trans t5_43
          have t6_44 := (show ev6 44 = ev5 44 by rw [o6, va_up_ne _ _ (by decide)]).trans t5_44
          have t6_45 := (show ev6 45 = ev5 45 by rw [o6, va_up_ne _ _ (by decide)]).trans t5_45
          have t6_46 := (show ev6 46 = ev5 46 by rw [o6, va_up_ne _ _ (by decide)]).trans t5_46
          have t6_47 := (show ev6 47 = ev5 47 by rw [o6, va_up_ne _ _ (by decide)]).trans t5_47
          have t6_48 := (show ev6 48 = ev5 48 by rw [o6, va_up_ne _ _ (by decide)]).trans t5_48
          have t6_49 := (show ev6 49 = ev5 49 by rw [o6, va_up_ne _ _ (by decide)]).trans t5_49
          have t6_50 := (show ev6 50 = ev5 50 by rw [o6, va_up_ne _ _ (by decide)]).trans t5_50
          have t6_37 := (show ev6 37 = ev5 37 by rw [o6, va_up_ne _ _ (by decide)]).trans t5_37
          refine lv_iload_n hx hb d_Md_sealIt_70 rfl (lv_at hl 0 rfl) ?_
          refine lv_bipush (v := nI (16)) hx hb d_Md_sealIt_71 (by decide) ?_
          refine lv_icmp_ge (tgt := 98) hx hb d_Md_sealIt_73 (by decide) (fun hc => absurd ((nI_leI (by omega) (by omega)).mp hc) (by omega)) (fun _ => ?_)
          refine lv_aload_n hx hb d_Md_sealIt_76 rfl (lv_at hl 1 rfl) ?_
          refine wv_getf hx hb h 37 (by decide) (fs := [.ref (ad 38), .int (nI (tl)), .int (nI ((16 + tl))), .int (nI (0)), .ref (ad 39), .ref (ad 40), .ref (ad 41), .ref (ad 42), .ref (ad 43), .ref (ad 44), .ref (ad 45), .ref (ad 46), .ref (ad 47), .ref (ad 48), .ref (ad 49), .ref (ad 50)]) t6_37 hts (fun w hw => List.mem_cons_of_mem _ (fW_Md w hw)) hown (ci := 5) (C := "NonceBoxModel") (T := fT_Md) (N := 16) rfl 0 (by decide) (hts _ (List.mem_cons_of_mem _ kf_Md_7)) rfl (v := .ref (ad 38)) rfl d_Md_sealIt_77 ?_
          refine lv_sipush (v := nI (200)) hx hb d_Md_sealIt_80 (by decide) ?_
          refine lv_iload_n hx hb d_Md_sealIt_83 rfl (lv_at hl 0 rfl) ?_
          refine lv_iadd hx hb d_Md_sealIt_84 ?_
          refine wv_top (w := nI (200 + k2)) (nI_add _ _) ?_
          refine lv_aload_n hx hb d_Md_sealIt_85 rfl (lv_at hl 1 rfl) ?_
          refine wv_getf hx hb h 37 (by decide) (fs := [.ref (ad 38), .int (nI (tl)), .int (nI ((16 + tl))), .int (nI (0)), .ref (ad 39), .ref (ad 40), .ref (ad 41), .ref (ad 42), .ref (ad 43), .ref (ad 44), .ref (ad 45), .ref (ad 46), .ref (ad 47), .ref (ad 48), .ref (ad 49), .ref (ad 50)]) t6_37 hts (fun w hw => List.mem_cons_of_mem _ (fW_Md w hw)) hown (ci := 5) (C := "NonceBoxModel") (T := fT_Md) (N := 16) rfl 14 (by decide) (hts _ (List.mem_cons_of_mem _ kf_Md_44)) rfl (v := .ref (ad 49)) rfl d_Md_sealIt_86 ?_
          refine lv_iload_n hx hb d_Md_sealIt_89 rfl (lv_at hl 0 rfl) ?_
          refine wv_iald hx hb h 49 (by decide) (f := (ns (TAGM (STRB S (Bf 1)) (HIDB S (Bf 1) (Bf 3)) 0 tl))) t6_49 (k := k2) rfl (by omega) (by decide) d_Md_sealIt_90 ?_
          refine wv_top (w := nI ((TAGM (STRB S (Bf 1)) (HIDB S (Bf 1) (Bf 3)) 0 tl) k2)) rfl ?_
          refine wv_iast hx hb h 38 (by decide) (f := (ns (fil 200 k2 (TAGM (STRB S (Bf 1)) (HIDB S (Bf 1) (Bf 3)) 0 tl) (fil 200 112 (fun _ => 0) FF)))) t6_38 (k := 200 + k2) rfl (by omega) (by decide) d_Md_sealIt_91 (fun H locs h => ?_)
          obtain ⟨ev7, o7⟩ : ∃ z, z = va_up ev6 38 (eI G 312 (va_up ((ns (fil 200 k2 (TAGM (STRB S (Bf 1)) (HIDB S (Bf 1) (Bf 3)) 0 tl) (fil 200 112 (fun _ => 0) FF)))) (200 + k2) (nI ((TAGM (STRB S (Bf 1)) (HIDB S (Bf 1) (Bf 3)) 0 tl) k2)))) := ⟨_, rfl⟩
          rw [← o7] at h
          have t7_38 : ev7 38 = eI G 312 (va_up ((ns (fil 200 k2 (TAGM (STRB S (Bf 1)) (HIDB S (Bf 1) (Bf 3)) 0 tl) (fil 200 112 (fun _ => 0) FF)))) (200 + k2) (nI ((TAGM (STRB S (Bf 1)) (HIDB S (Bf 1) (Bf 3)) 0 tl) k2))) := by rw [o7, va_up_self]
          have t7_39 := (show ev7 39 = ev6 39 by rw [o7, va_up_ne _ _ (by decide)]).trans t6_39
          have t7_40 := (show ev7 40 = ev6 40 by rw [o7, va_up_ne _ _ (by decide)]).trans t6_40
          have t7_41 := (show ev7 41 = ev6 41 by rw [o7, va_up_ne _ _ (by decide)]).trans t6_41
          have t7_42 := (show ev7 42 = ev6 42 by rw [o7, va_up_ne _ _ (by decide)]).trans t6_42
          have t7_43 := (show ev7 43 = ev6 43 by rw [o7, va_up_ne _ _ (by decide)]).trans t6_43
          have t7_44 := (show ev7 44 = ev6 44 by rw [o7, va_up_ne _ _ (by decide)]).trans t6_44
          have t7_45 := (show ev7 45 = ev6 45 by rw [o7, va_up_ne _ _ (by decide)]).trans t6_45
          have t7_46 := (show ev7 46 = ev6 46 by rw [o7, va_up_ne _ _ (by decide)]).trans t6_46
          have t7_47 := (show ev7 47 = ev6 47 by rw [o7, va_up_ne _ _ (by decide)]).trans t6_47
          have t7_48 := (show ev7 48 = ev6 48 by rw [o7, va_up_ne _ _ (by decide)]).trans t6_48
          have t7_49 := (show ev7 49 = ev6 49 by rw [o7, va_up_ne _ _ (by decide)]).trans t6_49
          have t7_50 := (show ev7 50 = ev6 50 by rw [o7, va_up_ne _ _ (by decide)]).trans t6_50
          have t7_37 := (show ev7 37 = ev6 37 by rw [o7, va_up_ne _ _ (by decide)]).trans t6_37
          rw [ns_up _ _ ((TAGM (STRB S (Bf 1)) (HIDB S (Bf 1) (Bf 3)) 0 tl) k2) rfl] at o7
          refine lv_iinc (v := nI (k2 + 1)) (lv' := [(1, .int (nI (k2 + 1))), (0, .ref (ad 37))]) hx hb d_Md_sealIt_92 hl (k := 0) rfl (nI_add _ _) (by decide) rfl (fun ls hl => ?_)
          refine lv_goto (tgt := 70) hx hb d_Md_sealIt_95 (by decide) ?_
          refine ih (k2 + 1) (by omega) ev7 H locs ls ?_ h (lv_sub hl [0, 1] rfl)
          rw [o7, o6, va_up2, ← fil_s 200 k2 (TAGM (STRB S (Bf 1)) (HIDB S (Bf 1) (Bf 3)) 0 tl) (fil 200 112 (fun _ => 0) FF) rfl]
      exact loop6 16 0 rfl ev5 H locs ls (by rw [fil_0, va_upi _ _ t5_38]) h (lv_sub hl [0, 1] rfl)
    | succ d ih =>
      intro k hk_k  ev2 H locs ls  o2 h hl
      have t2_50 : ev2 50 = eI G 112 (ns (fil 0 k (HIDB S (Bf 1) (Bf 3)) x50)) := by rw [o2, va_up_self]
      have t2_38 := (show ev2 38 = ev1 38 by rw [o2, va_up_ne _ _ (by decide)]).trans t1_38
      have t2_39 := (show ev2 39 = ev1 39 by rw [o2, va_up_ne _ _ (by decide)]).trans t1_39
      have t2_40 := (show ev2 40 = ev1 40 by rw [o2, va_up_ne _ _ (by decide)]).trans t1_40
      have t2_41 := (show ev2 41 = ev1 41 by rw [o2, va_up_ne _ _ (by decide)]).trans t1_41
      have t2_42 := (show ev2 42 = ev1 42 by rw [o2, va_up_ne _ _ (by decide)]).trans t1_42
      have t2_43 := (show ev2 43 = ev1 43 by rw [o2, va_up_ne _ _ (by decide)]).trans t1_43
      have t2_44 := (show ev2 44 = ev1 44 by rw [o2, va_up_ne _ _ (by decide)]).trans t1_44
      have t2_45 := (show ev2 45 = ev1 45 by rw [o2, va_up_ne _ _ (by decide)]).trans t1_45
      have t2_46 := (show ev2 46 = ev1 46 by rw [o2, va_up_ne _ _ (by decide)]).trans t1_46
      have t2_47 := (show ev2 47 = ev1 47 by rw [o2, va_up_ne _ _ (by decide)]).trans t1_47
      have t2_48 := (show ev2 48 = ev1 48 by rw [o2, va_up_ne _ _ (by decide)]).trans t1_48
      have t2_49 := (show ev2 49 = ev1 49 by rw [o2, va_up_ne _ _ (by decide)]).trans t1_49
      have t2_37 := (show ev2 37 = ev1 37 by rw [o2, va_up_ne _ _ (by decide)]).trans t1_37
      refine lv_iload_n hx hb d_Md_sealIt_6 rfl (lv_at hl 0 rfl) ?_
      refine lv_aload_n hx hb d_Md_sealIt_7 rfl (lv_at hl 1 rfl) ?_
      refine wv_getf hx hb h 37 (by decide) (fs := [.ref (ad 38), .int (nI (tl)), .int (nI (ol)), .int (nI (0)), .ref (ad 39), .ref (ad 40), .ref (ad 41), .ref (ad 42), .ref (ad 43), .ref (ad 44), .ref (ad 45), .ref (ad 46), .ref (ad 47), .ref (ad 48), .ref (ad 49), .ref (ad 50)]) t2_37 hts (fun w hw => List.mem_cons_of_mem _ (fW_Md w hw)) hown (ci := 5) (C := "NonceBoxModel") (T := fT_Md) (N := 16) rfl 1 (by decide) (hts _ (List.mem_cons_of_mem _ kf_Md_67)) rfl (v := .int (nI (tl))) rfl d_Md_sealIt_8 ?_
      refine lv_icmp_ge (tgt := 45) hx hb d_Md_sealIt_11 (by decide) (fun hc => absurd ((nI_leI (by omega) (by omega)).mp hc) (by omega)) (fun _ => ?_)
      refine lv_aload_n hx hb d_Md_sealIt_14 rfl (lv_at hl 1 rfl) ?_
      refine wv_getf hx hb h 37 (by decide) (fs := [.ref (ad 38), .int (nI (tl)), .int (nI (ol)), .int (nI (0)), .ref (ad 39), .ref (ad 40), .ref (ad 41), .ref (ad 42), .ref (ad 43), .ref (ad 44), .ref (ad 45), .ref (ad 46), .ref (ad 47), .ref (ad 48), .ref (ad 49), .ref (ad 50)]) t2_37 hts (fun w hw => List.mem_cons_of_mem _ (fW_Md w hw)) hown (ci := 5) (C := "NonceBoxModel") (T := fT_Md) (N := 16) rfl 15 (by decide) (hts _ (List.mem_cons_of_mem _ kf_Md_47)) rfl (v := .ref (ad 50)) rfl d_Md_sealIt_15 ?_
      refine lv_iload_n hx hb d_Md_sealIt_18 rfl (lv_at hl 0 rfl) ?_
      refine lv_aload_n hx hb d_Md_sealIt_19 rfl (lv_at hl 1 rfl) ?_
      refine wv_getf hx hb h 37 (by decide) (fs := [.ref (ad 38), .int (nI (tl)), .int (nI (ol)), .int (nI (0)), .ref (ad 39), .ref (ad 40), .ref (ad 41), .ref (ad 42), .ref (ad 43), .ref (ad 44), .ref (ad 45), .ref (ad 46), .ref (ad 47), .ref (ad 48), .ref (ad 49), .ref (ad 50)]) t2_37 hts (fun w hw => List.mem_cons_of_mem _ (fW_Md w hw)) hown (ci := 5) (C := "NonceBoxModel") (T := fT_Md) (N := 16) rfl 0 (by decide) (hts _ (List.mem_cons_of_mem _ kf_Md_7)) rfl (v := .ref (ad 38)) rfl d_Md_sealIt_20 ?_
      refine lv_bipush (v := nI (88)) hx hb d_Md_sealIt_23 (by decide) ?_
      refine lv_iload_n hx hb d_Md_sealIt_25 rfl (lv_at hl 0 rfl) ?_
      refine lv_iadd hx hb d_Md_sealIt_26 ?_
      refine wv_top (w := nI (88 + k)) (nI_add _ _) ?_
      refine wv_iald hx hb h 38 (by decide) (f := (ns FF)) t2_38 (k := 88 + k) rfl (by omega) (by decide) d_Md_sealIt_27 ?_
      refine wv_top (w := nI (Bf 3 k)) (congrArg nI (hFB 3 (by decide) k (by show k < 112; omega))) ?_
      refine lv_aload_n hx hb d_Md_sealIt_28 rfl (lv_at hl 1 rfl) ?_
      refine wv_getf hx hb h 37 (by decide) (fs := [.ref (ad 38), .int (nI (tl)), .int (nI (ol)), .int (nI (0)), .ref (ad 39), .ref (ad 40), .ref (ad 41), .ref (ad 42), .ref (ad 43), .ref (ad 44), .ref (ad 45), .ref (ad 46), .ref (ad 47), .ref (ad 48), .ref (ad 49), .ref (ad 50)]) t2_37 hts (fun w hw => List.mem_cons_of_mem _ (fW_Md w hw)) hown (ci := 5) (C := "NonceBoxModel") (T := fT_Md) (N := 16) rfl 8 (by decide) (hts _ (List.mem_cons_of_mem _ kf_Md_25)) rfl (v := .ref (ad 43)) rfl d_Md_sealIt_29 ?_
      refine lv_bipush (v := nI (32)) hx hb d_Md_sealIt_32 (by decide) ?_
      refine lv_iload_n hx hb d_Md_sealIt_34 rfl (lv_at hl 0 rfl) ?_
      refine lv_iadd hx hb d_Md_sealIt_35 ?_
      refine wv_top (w := nI (32 + k)) (nI_add _ _) ?_
      refine wv_iald hx hb h 43 (by decide) (f := (ns (STRB S (Bf 1)))) t2_43 (k := 32 + k) rfl (by omega) (by decide) d_Md_sealIt_36 ?_
      refine wv_top (w := nI (STRB S (Bf 1) (32 + k))) rfl ?_
      refine lv_ixor hx hb d_Md_sealIt_37 ?_
      refine wv_top (w := nI ((HIDB S (Bf 1) (Bf 3)) k)) (nI_x _ _) ?_
      refine wv_iast hx hb h 50 (by decide) (f := (ns (fil 0 k (HIDB S (Bf 1) (Bf 3)) x50))) t2_50 (k := k) rfl (by omega) (by decide) d_Md_sealIt_38 (fun H locs h => ?_)
      obtain ⟨ev3, o3⟩ : ∃ z, z = va_up ev2 50 (eI G 112 (va_up ((ns (fil 0 k (HIDB S (Bf 1) (Bf 3)) x50))) k (nI ((HIDB S (Bf 1) (Bf 3)) k)))) := ⟨_, rfl⟩
      rw [← o3] at h
      have t3_50 : ev3 50 = eI G 112 (va_up ((ns (fil 0 k (HIDB S (Bf 1) (Bf 3)) x50))) k (nI ((HIDB S (Bf 1) (Bf 3)) k))) := by rw [o3, va_up_self]
      have t3_38 := (show ev3 38 = ev2 38 by rw [o3, va_up_ne _ _ (by decide)]).trans t2_38
      have t3_39 := (show ev3 39 = ev2 39 by rw [o3, va_up_ne _ _ (by decide)]).trans t2_39
      have t3_40 := (show ev3 40 = ev2 40 by rw [o3, va_up_ne _ _ (by decide)]).trans t2_40
      have t3_41 := (show ev3 41 = ev2 41 by rw [o3, va_up_ne _ _ (by decide)]).trans t2_41
      have t3_42 := (show ev3 42 = ev2 42 by rw [o3, va_up_ne _ _ (by decide)]).trans t2_42
      have t3_43 := (show ev3 43 = ev2 43 by rw [o3, va_up_ne _ _ (by decide)]).trans t2_43
      have t3_44 := (show ev3 44 = ev2 44 by rw [o3, va_up_ne _ _ (by decide)]).trans t2_44
      have t3_45 := (show ev3 45 = ev2 45 by rw [o3, va_up_ne _ _ (by decide)]).trans t2_45
      have t3_46 := (show ev3 46 = ev2 46 by rw [o3, va_up_ne _ _ (by decide)]).trans t2_46
      have t3_47 := (show ev3 47 = ev2 47 by rw [o3, va_up_ne _ _ (by decide)]).trans t2_47
      have t3_48 := (show ev3 48 = ev2 48 by rw [o3, va_up_ne _ _ (by decide)]).trans t2_48
      have t3_49 := (show ev3 49 = ev2 49 by rw [o3, va_up_ne _ _ (by decide)]).trans t2_49
      have t3_37 := (show ev3 37 = ev2 37 by rw [o3, va_up_ne _ _ (by decide)]).trans t2_37
      rw [ns_up _ _ ((HIDB S (Bf 1) (Bf 3)) k) rfl] at o3
      refine lv_iinc (v := nI (k + 1)) (lv' := [(1, .int (nI (k + 1))), (0, .ref (ad 37))]) hx hb d_Md_sealIt_39 hl (k := 0) rfl (nI_add _ _) (by decide) rfl (fun ls hl => ?_)
      refine lv_goto (tgt := 6) hx hb d_Md_sealIt_42 (by decide) ?_
      refine ih (k + 1) (by omega) ev3 H locs ls ?_ h (lv_sub hl [0, 1] rfl)
      rw [o3, o2, va_up2, ← fil_s 0 k (HIDB S (Bf 1) (Bf 3)) x50 rfl, Nat.zero_add]
  exact loop2 tl 0 (by omega) ev1 H locs ls (by rw [fil_0, va_upi _ _ t1_50]) h (lv_sub hl [0, 1] rfl)
