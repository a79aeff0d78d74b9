theorem d_Md_openIt_0 : decode c_Md_openIt 0 = .ok (.aload_n 0, 1) := by decide +kernel
theorem d_Md_openIt_1 : decode c_Md_openIt 1 = .ok (.invokevirtual 110, 3) := by decide +kernel
theorem d_Md_openIt_4 : decode c_Md_openIt 4 = .ok (.aload_n 0, 1) := by decide +kernel
theorem d_Md_openIt_5 : decode c_Md_openIt 5 = .ok (.getfield 67, 3) := by decide +kernel
theorem d_Md_openIt_8 : decode c_Md_openIt 8 = .ok (.bipush 16, 2) := by decide +kernel
theorem d_Md_openIt_10 : decode c_Md_openIt 10 = .ok (.isub, 1) := by decide +kernel
theorem d_Md_openIt_11 : decode c_Md_openIt 11 = .ok (.istore_n 1, 1) := by decide +kernel
theorem d_Md_openIt_12 : decode c_Md_openIt 12 = .ok (.iconst 0, 1) := by decide +kernel
theorem d_Md_openIt_13 : decode c_Md_openIt 13 = .ok (.istore_n 2, 1) := by decide +kernel
theorem d_Md_openIt_14 : decode c_Md_openIt 14 = .ok (.iload_n 2, 1) := by decide +kernel
theorem d_Md_openIt_15 : decode c_Md_openIt 15 = .ok (.iload_n 1, 1) := by decide +kernel
theorem d_Md_openIt_16 : decode c_Md_openIt 16 = .ok (.if_icmp .ge 24, 3) := by decide +kernel
theorem d_Md_openIt_19 : decode c_Md_openIt 19 = .ok (.aload_n 0, 1) := by decide +kernel
theorem d_Md_openIt_20 : decode c_Md_openIt 20 = .ok (.getfield 47, 3) := by decide +kernel
theorem d_Md_openIt_23 : decode c_Md_openIt 23 = .ok (.iload_n 2, 1) := by decide +kernel
theorem d_Md_openIt_24 : decode c_Md_openIt 24 = .ok (.aload_n 0, 1) := by decide +kernel
theorem d_Md_openIt_25 : decode c_Md_openIt 25 = .ok (.getfield 7, 3) := by decide +kernel
theorem d_Md_openIt_28 : decode c_Md_openIt 28 = .ok (.bipush 104, 2) := by decide +kernel
theorem d_Md_openIt_30 : decode c_Md_openIt 30 = .ok (.iload_n 2, 1) := by decide +kernel
theorem d_Md_openIt_31 : decode c_Md_openIt 31 = .ok (.iadd, 1) := by decide +kernel
theorem d_Md_openIt_32 : decode c_Md_openIt 32 = .ok (.iaload, 1) := by decide +kernel
theorem d_Md_openIt_33 : decode c_Md_openIt 33 = .ok (.iastore, 1) := by decide +kernel
theorem d_Md_openIt_34 : decode c_Md_openIt 34 = .ok (.iinc 2 1, 3) := by decide +kernel
theorem d_Md_openIt_37 : decode c_Md_openIt 37 = .ok (.goto (-23), 3) := by decide +kernel
theorem d_Md_openIt_40 : decode c_Md_openIt 40 = .ok (.aload_n 0, 1) := by decide +kernel
theorem d_Md_openIt_41 : decode c_Md_openIt 41 = .ok (.invokevirtual 184, 3) := by decide +kernel
theorem d_Md_openIt_44 : decode c_Md_openIt 44 = .ok (.aload_n 0, 1) := by decide +kernel
theorem d_Md_openIt_45 : decode c_Md_openIt 45 = .ok (.iload_n 1, 1) := by decide +kernel
theorem d_Md_openIt_46 : decode c_Md_openIt 46 = .ok (.invokevirtual 133, 3) := by decide +kernel
theorem d_Md_openIt_49 : decode c_Md_openIt 49 = .ok (.iconst 1, 1) := by decide +kernel
theorem d_Md_openIt_50 : decode c_Md_openIt 50 = .ok (.istore_n 2, 1) := by decide +kernel
theorem d_Md_openIt_51 : decode c_Md_openIt 51 = .ok (.iconst 0, 1) := by decide +kernel
theorem d_Md_openIt_52 : decode c_Md_openIt 52 = .ok (.istore_n 3, 1) := by decide +kernel
theorem d_Md_openIt_53 : decode c_Md_openIt 53 = .ok (.iload_n 3, 1) := by decide +kernel
theorem d_Md_openIt_54 : decode c_Md_openIt 54 = .ok (.bipush 16, 2) := by decide +kernel
theorem d_Md_openIt_56 : decode c_Md_openIt 56 = .ok (.if_icmp .ge 37, 3) := by decide +kernel
theorem d_Md_openIt_59 : decode c_Md_openIt 59 = .ok (.iload_n 2, 1) := by decide +kernel
theorem d_Md_openIt_60 : decode c_Md_openIt 60 = .ok (.ifCond .eq 25, 3) := by decide +kernel
theorem d_Md_openIt_63 : decode c_Md_openIt 63 = .ok (.aload_n 0, 1) := by decide +kernel
theorem d_Md_openIt_64 : decode c_Md_openIt 64 = .ok (.getfield 44, 3) := by decide +kernel
theorem d_Md_openIt_67 : decode c_Md_openIt 67 = .ok (.iload_n 3, 1) := by decide +kernel
theorem d_Md_openIt_68 : decode c_Md_openIt 68 = .ok (.iaload, 1) := by decide +kernel
theorem d_Md_openIt_69 : decode c_Md_openIt 69 = .ok (.aload_n 0, 1) := by decide +kernel
theorem d_Md_openIt_70 : decode c_Md_openIt 70 = .ok (.getfield 7, 3) := by decide +kernel
theorem d_Md_openIt_73 : decode c_Md_openIt 73 = .ok (.bipush 88, 2) := by decide +kernel
theorem d_Md_openIt_75 : decode c_Md_openIt 75 = .ok (.iload_n 3, 1) := by decide +kernel
theorem d_Md_openIt_76 : decode c_Md_openIt 76 = .ok (.iadd, 1) := by decide +kernel
theorem d_Md_openIt_77 : decode c_Md_openIt 77 = .ok (.iaload, 1) := by decide +kernel
theorem d_Md_openIt_78 : decode c_Md_openIt 78 = .ok (.if_icmp .ne 7, 3) := by decide +kernel
theorem d_Md_openIt_81 : decode c_Md_openIt 81 = .ok (.iconst 1, 1) := by decide +kernel
theorem d_Md_openIt_82 : decode c_Md_openIt 82 = .ok (.goto 4, 3) := by decide +kernel
theorem d_Md_openIt_85 : decode c_Md_openIt 85 = .ok (.iconst 0, 1) := by decide +kernel
theorem d_Md_openIt_86 : decode c_Md_openIt 86 = .ok (.istore_n 2, 1) := by decide +kernel
theorem d_Md_openIt_87 : decode c_Md_openIt 87 = .ok (.iinc 3 1, 3) := by decide +kernel
theorem d_Md_openIt_90 : decode c_Md_openIt 90 = .ok (.goto (-37), 3) := by decide +kernel
theorem d_Md_openIt_93 : decode c_Md_openIt 93 = .ok (.iload_n 2, 1) := by decide +kernel
theorem d_Md_openIt_94 : decode c_Md_openIt 94 = .ok (.ifCond .ne 10, 3) := by decide +kernel
theorem d_Md_openIt_97 : decode c_Md_openIt 97 = .ok (.aload_n 0, 1) := by decide +kernel
theorem d_Md_openIt_98 : decode c_Md_openIt 98 = .ok (.iconst 2, 1) := by decide +kernel
theorem d_Md_openIt_99 : decode c_Md_openIt 99 = .ok (.putfield 50, 3) := by decide +kernel
theorem d_Md_openIt_102 : decode c_Md_openIt 102 = .ok (.iconst 0, 1) := by decide +kernel
theorem d_Md_openIt_103 : decode c_Md_openIt 103 = .ok (.ireturn, 1) := by decide +kernel
theorem d_Md_openIt_104 : decode c_Md_openIt 104 = .ok (.aload_n 0, 1) := by decide +kernel
theorem d_Md_openIt_105 : decode c_Md_openIt 105 = .ok (.iload_n 1, 1) := by decide +kernel
theorem d_Md_openIt_106 : decode c_Md_openIt 106 = .ok (.invokevirtual 99, 3) := by decide +kernel
theorem d_Md_openIt_109 : decode c_Md_openIt 109 = .ok (.iconst 0, 1) := by decide +kernel
theorem d_Md_openIt_110 : decode c_Md_openIt 110 = .ok (.istore_n 3, 1) := by decide +kernel
theorem d_Md_openIt_111 : decode c_Md_openIt 111 = .ok (.iload_n 3, 1) := by decide +kernel
theorem d_Md_openIt_112 : decode c_Md_openIt 112 = .ok (.iload_n 1, 1) := by decide +kernel
theorem d_Md_openIt_113 : decode c_Md_openIt 113 = .ok (.if_icmp .ge 35, 3) := by decide +kernel
theorem d_Md_openIt_116 : decode c_Md_openIt 116 = .ok (.aload_n 0, 1) := by decide +kernel
theorem d_Md_openIt_117 : decode c_Md_openIt 117 = .ok (.getfield 7, 3) := by decide +kernel
theorem d_Md_openIt_120 : decode c_Md_openIt 120 = .ok (.sipush 200, 3) := by decide +kernel
theorem d_Md_openIt_123 : decode c_Md_openIt 123 = .ok (.iload_n 3, 1) := by decide +kernel
theorem d_Md_openIt_124 : decode c_Md_openIt 124 = .ok (.iadd, 1) := by decide +kernel
theorem d_Md_openIt_125 : decode c_Md_openIt 125 = .ok (.aload_n 0, 1) := by decide +kernel
theorem d_Md_openIt_126 : decode c_Md_openIt 126 = .ok (.getfield 47, 3) := by decide +kernel
theorem d_Md_openIt_129 : decode c_Md_openIt 129 = .ok (.iload_n 3, 1) := by decide +kernel
theorem d_Md_openIt_130 : decode c_Md_openIt 130 = .ok (.iaload, 1) := by decide +kernel
theorem d_Md_openIt_131 : decode c_Md_openIt 131 = .ok (.aload_n 0, 1) := by decide +kernel
theorem d_Md_openIt_132 : decode c_Md_openIt 132 = .ok (.getfield 25, 3) := by decide +kernel
theorem d_Md_openIt_135 : decode c_Md_openIt 135 = .ok (.bipush 32, 2) := by decide +kernel
theorem d_Md_openIt_137 : decode c_Md_openIt 137 = .ok (.iload_n 3, 1) := by decide +kernel
theorem d_Md_openIt_138 : decode c_Md_openIt 138 = .ok (.iadd, 1) := by decide +kernel
theorem d_Md_openIt_139 : decode c_Md_openIt 139 = .ok (.iaload, 1) := by decide +kernel
theorem d_Md_openIt_140 : decode c_Md_openIt 140 = .ok (.ixor, 1) := by decide +kernel
theorem d_Md_openIt_141 : decode c_Md_openIt 141 = .ok (.iastore, 1) := by decide +kernel
theorem d_Md_openIt_142 : decode c_Md_openIt 142 = .ok (.iinc 3 1, 3) := by decide +kernel
theorem d_Md_openIt_145 : decode c_Md_openIt 145 = .ok (.goto (-34), 3) := by decide +kernel
theorem d_Md_openIt_148 : decode c_Md_openIt 148 = .ok (.iload_n 1, 1) := by decide +kernel
theorem d_Md_openIt_149 : decode c_Md_openIt 149 = .ok (.ireturn, 1) := by decide +kernel
set_option maxRecDepth 100000 in
set_option maxHeartbeats 4000000 in
/-- openIt -/
theorem m_Md_openIt (l : Launch) (G : wG) (A : Nat → Prop) (ad : Nat → Nat) (ev : Nat → va_E) (S : Nat → Nat) (Bf : Nat → Nat → Nat) (tl ol : Nat) (hMD : MD G ad ev Bf tl ol 0) (h39 : ev 39 = eI G 32 (ns S)) (h16 : 16 ≤ tl) : wM l y_Md_openIt w_Md_openIt ({ frames := 18, cells := 0, slots := 0, locals := 600 }) G A 52 ad ev [.ref (ad 37)] (fun ov ev' => ∃ (ans : Int32) (Bf' : Nat → Nat → Nat) (ol' cd' : Nat), ov = some (.int ans) ∧ ((tagOK S (Bf 1) (Bf 3) (tl - 16) ∧ ans = nI (tl - 16) ∧ Bf' = va_up Bf 4 (outF (tl - 16) (OPNB S (Bf 1) (Bf 3))) ∧ ol' = tl - 16 ∧ cd' = 0) ∨ (¬ tagOK S (Bf 1) (Bf 3) (tl - 16) ∧ ans = nI 0 ∧ Bf' = Bf ∧ ol' = ol ∧ cd' = 2)) ∧ MD G ad ev' Bf' tl ol' cd' ∧ ∀ j, j < 37 ∨ 50 < j → ev' j = ev j) := by
  refine wv_ofW (cc := c_Md_openIt) (maxL := 4) (ret := (Option.some FieldType.int)) (by decide) rfl (Nat.le_of_ble_eq_true rfl) ?_
  intro p e s m below meth c ls hx hb hr hml hts hown hlocks hini h hl
  have hl : lv_has ls 4 [(0, .ref (ad 37))] := hl
  obtain ⟨g37, ⟨FF, hFB, g38⟩, ⟨x39, g39⟩, ⟨x40, g40⟩, ⟨x41, g41⟩, ⟨x42, g42⟩, ⟨x43, g43⟩, ⟨x44, g44⟩, ⟨x45, g45⟩, ⟨x46, g46⟩, ⟨x47, g47⟩, ⟨x48, g48⟩, ⟨x49, g49⟩, ⟨x50, b50, g50⟩, hB, htl, hol⟩ := hMD
  refine lv_aload_n hx hb d_Md_openIt_0 rfl (lv_at hl 0 rfl) ?_
  refine wv_V (As := []) (rest := []) (k := 0) ⟨hx, hb, hml, hown, hts⟩ h 37 (by decide) (C := "NonceBoxModel") g37 rfl (m_Md_flow l G A ad ev FF S (Bf 1) x40 x43 x41 x42 tl ol 0 g37 g38 h39 g40 g41 g42 g43 (fun j hj => hFB 1 (by decide) j hj)) kc_Md_flow kl_Md_110 km_Md_flow kv_Md_flow ki_Md (by decide +kernel) ⟨rfl, rfl, Nat.le_of_ble_eq_true rfl, Nat.le_of_ble_eq_true rfl⟩ hl.1 rfl rfl (Nat.le_of_ble_eq_true rfl) ⟨Nat.le_refl _, Nat.le_refl _⟩ d_Md_openIt_1 ?_
  intro ov ev1 H locs hp h
  obtain ⟨ho, M2, f2, g2, hp⟩ := hp
  rw [ho]
  refine W.eq (g2 := F0 m 4 ls []) rfl ?_
  have o1 : ev1 = (va_up (va_up (va_up (va_up (va_up ev 39 (eI G 32 (ns (MIXB S (Bf 1))))) 40 (eI G 16 (ns M2))) 41 (eI G 16 f2)) 42 (eI G 16 g2)) 43 (eI G 128 (ns (STRB S (Bf 1))))) := hp
  have t1_39 : ev1 39 = eI G 32 (ns (MIXB S (Bf 1))) := by rw [o1, va_up_ne _ _ (by decide), va_up_ne _ _ (by decide), va_up_ne _ _ (by decide), va_up_ne _ _ (by decide), va_up_self]
  have t1_40 : ev1 40 = eI G 16 (ns M2) := by rw [o1, va_up_ne _ _ (by decide), va_up_ne _ _ (by decide), va_up_ne _ _ (by decide), va_up_self]
  have t1_41 : ev1 41 = eI G 16 f2 := by rw [o1, va_up_ne _ _ (by decide), va_up_ne _ _ (by decide), va_up_self]
  have t1_42 : ev1 42 = eI G 16 g2 := by rw [o1, va_up_ne _ _ (by decide), va_up_self]
  have t1_43 : ev1 43 = eI G 128 (ns (STRB S (Bf 1))) := by rw [o1, va_up_self]
  have t1_38 := (show ev1 38 = ev 38 by rw [o1, va_up_ne _ _ (by decide), va_up_ne _ _ (by decide), va_up_ne _ _ (by decide), va_up_ne _ _ (by decide), va_up_ne _ _ (by decide)]).trans g38
  have t1_44 := (show ev1 44 = ev 44 by rw [o1, va_up_ne _ _ (by decide), va_up_ne _ _ (by decide), va_up_ne _ _ (by decide), va_up_ne _ _ (by decide), va_up_ne _ _ (by decide)]).trans g44
  have t1_45 := (show ev1 45 = ev 45 by rw [o1, va_up_ne _ _ (by decide), va_up_ne _ _ (by decide), va_up_ne _ _ (by decide), va_up_ne _ _ (by decide), va_up_ne _ _ (by decide)]).trans g45
  have t1_46 := (show ev1 46 = ev 46 by rw [o1, va_up_ne _ _ (by decide), va_up_ne _ _ (by decide), va_up_ne _ _ (by decide), va_up_ne _ _ (by decide), va_up_ne _ _ (by decide)]).trans g46
  have t1_47 := (show ev1 47 = ev 47 by rw [o1, va_up_ne _ _ (by decide), va_up_ne _ _ (by decide), va_up_ne _ _ (by decide), va_up_ne _ _ (by decide), va_up_ne _ _ (by decide)]).trans g47
  have t1_48 := (show ev1 48 = ev 48 by rw [o1, va_up_ne _ _ (by decide), va_up_ne _ _ (by decide), va_up_ne _ _ (by decide), va_up_ne _ _ (by decide), va_up_ne _ _ (by decide)]).trans g48
  have t1_49 := (show ev1 49 = ev 49 by rw [o1, va_up_ne _ _ (by decide), va_up_ne _ _ (by decide), va_up_ne _ _ (by decide), va_up_ne _ _ (by decide), va_up_ne _ _ (by decide)]).trans g49
  have t1_50 := (show ev1 50 = ev 50 by rw [o1, va_up_ne _ _ (by decide), va_up_ne _ _ (by decide), va_up_ne _ _ (by decide), va_up_ne _ _ (by decide), va_up_ne _ _ (by decide)]).trans g50
  have t1_37 := (show ev1 37 = ev 37 by rw [o1, va_up_ne _ _ (by decide), va_up_ne _ _ (by decide), va_up_ne _ _ (by decide), va_up_ne _ _ (by decide), va_up_ne _ _ (by decide)]).trans g37
  refine lv_aload_n hx hb d_Md_openIt_4 rfl (lv_at hl 0 rfl) ?_
  refine wv_getf hx hb h 37 (by decide) (fs := [.ref (ad 38), .int (nI (tl)), .int (nI (ol)), .int (nI (0)), .ref (ad 39), .ref (ad 40), .ref (ad 41), .ref (ad 42), .ref (ad 43), .ref (ad 44), .ref (ad 45), .ref (ad 46), .ref (ad 47), .ref (ad 48), .ref (ad 49), .ref (ad 50)]) t1_37 hts (fun w hw => List.mem_cons_of_mem _ (fW_Md w hw)) hown (ci := 5) (C := "NonceBoxModel") (T := fT_Md) (N := 16) rfl 1 (by decide) (hts _ (List.mem_cons_of_mem _ kf_Md_67)) rfl (v := .int (nI (tl))) rfl d_Md_openIt_5 ?_
  refine lv_bipush (v := nI (16)) hx hb d_Md_openIt_8 (by decide) ?_
  refine lv_isub hx hb d_Md_openIt_10 ?_
  refine wv_top (w := nI (tl - 16)) (pk_sub (by omega)) ?_
  refine lv_istore_n (lv' := [(1, .int (nI (tl - 16))), (0, .ref (ad 37))]) hx hb d_Md_openIt_11 rfl hl (by decide) rfl (fun ls hl => ?_)
  refine lv_iconst (v := nI (0)) hx hb d_Md_openIt_12 (by decide) ?_
  refine lv_istore_n (lv' := [(2, .int (nI (0))), (1, .int (nI (tl - 16))), (0, .ref (ad 37))]) hx hb d_Md_openIt_13 rfl hl (by decide) rfl (fun ls hl => ?_)
  have loop2 : ∀ (d k : Nat), k + d = tl - 16 →  ∀ (ev2 : Nat → va_E) (H : Heap) (locs : List Loc) (ls : Array Slot), ev2 = (va_up ev1 50 (eI G 112 (ns (fil 0 k (fun j => Bf 3 (16 + j)) x50)))) → wT G A 52 ad ev2 s H locs → lv_has ls 4 [(2, .int (nI (k))), (1, .int (nI (tl - 16))), (0, .ref (ad 37))] → W p l e ({ frames := 18, cells := 0, slots := 0, locals := 600 }) s m ([.ref (ad 37)] : List Value).toArray below meth c H locs 0 0 (MQ below (wQc G A 52 ad (fun ov ev' => ∃ (ans : Int32) (Bf' : Nat → Nat → Nat) (ol' cd' : Nat), ov = some (.int ans) ∧ ((tagOK S (Bf 1) (Bf 3) (tl - 16) ∧ ans = nI (tl - 16) ∧ Bf' = va_up Bf 4 (outF (tl - 16) (OPNB S (Bf 1) (Bf 3))) ∧ ol' = tl - 16 ∧ cd' = 0) ∨ (¬ tagOK S (Bf 1) (Bf 3) (tl - 16) ∧ ans = nI 0 ∧ Bf' = Bf ∧ ol' = ol ∧ cd' = 2)) ∧ MD G ad ev' Bf' tl ol' cd' ∧ ∀ j, j < 37 ∨ 50 < j → ev' j = ev j)) ([.ref (ad 37)] : List Value).toArray s 0 0 A) (F0 m 14 ls []) := by
    intro d
    induction d with
    | zero =>
      intro k hk_k  ev2 H locs ls  o2 h hl
      have t2_50 : ev2 50 = eI G 112 (ns (fil 0 k (fun j => Bf 3 (16 + j)) x50)) := by rw [o2, va_up_self]
      have t2_38 := (show ev2 38 = ev1 38 by rw [o2, va_up_ne _ _ (by decide)]).trans t1_38
      have t2_39 := (show ev2 39 = ev1 39 by rw [o2, va_up_ne _ _ (by decide)]).trans t1_39
      have t2_40 := (show ev2 40 = ev1 40 by rw [o2, va_up_ne _ _ (by decide)]).trans t1_40
      have t2_41 := (show ev2 41 = ev1 41 by rw [o2, va_up_ne _ _ (by decide)]).trans t1_41
      have t2_42 := (show ev2 42 = ev1 42 by rw [o2, va_up_ne _ _ (by decide)]).trans t1_42
      have t2_43 := (show ev2 43 = ev1 43 by rw [o2, va_up_ne _ _ (by decide)]).trans t1_43
      have t2_44 := (show ev2 44 = ev1 44 by rw [o2, va_up_ne _ _ (by decide)]).trans t1_44
      have t2_45 := (show ev2 45 = ev1 45 by rw [o2, va_up_ne _ _ (by decide)]).trans t1_45
      have t2_46 := (show ev2 46 = ev1 46 by rw [o2, va_up_ne _ _ (by decide)]).trans t1_46
      have t2_47 := (show ev2 47 = ev1 47 by rw [o2, va_up_ne _ _ (by decide)]).trans t1_47
      have t2_48 := (show ev2 48 = ev1 48 by rw [o2, va_up_ne _ _ (by decide)]).trans t1_48
      have t2_49 := (show ev2 49 = ev1 49 by rw [o2, va_up_ne _ _ (by decide)]).trans t1_49
      have t2_37 := (show ev2 37 = ev1 37 by rw [o2, va_up_ne _ _ (by decide)]).trans t1_37
      refine lv_iload_n hx hb d_Md_openIt_14 rfl (lv_at hl 0 rfl) ?_
      refine lv_iload_n hx hb d_Md_openIt_15 rfl (lv_at hl 1 rfl) ?_
      refine lv_icmp_ge (tgt := 40) hx hb d_Md_openIt_16 (by decide) (fun _ => ?_) (fun hc => absurd ((nI_leI (by omega) (by omega)).mpr (by omega)) hc)
      rw [show k = tl - 16 by omega] at t2_50
      have hY : ∀ j, (fil 0 (tl - 16) (fun j => Bf 3 (16 + j)) x50) j < 256 := fil_lt (fun j => hB 3 _) b50
      refine lv_aload_n hx hb d_Md_openIt_40 rfl (lv_at hl 2 rfl) ?_
      refine wv_V (As := []) (rest := []) (k := 0) ⟨hx, hb, hml, hown, hts⟩ h 37 (by decide) (C := "NonceBoxModel") t2_37 rfl (m_Md_tagKey l G A ad ev2 (STRB S (Bf 1)) (MIXB S (Bf 1)) tl ol 0 t2_37 t2_43 t2_39) kc_Md_tagKey kl_Md_184 km_Md_tagKey kv_Md_tagKey ki_Md (by decide +kernel) ⟨rfl, rfl, Nat.le_of_ble_eq_true rfl, Nat.le_of_ble_eq_true rfl⟩ hl.1 rfl rfl (Nat.le_of_ble_eq_true rfl) ⟨Nat.le_refl _, Nat.le_refl _⟩ d_Md_openIt_41 ?_
      intro ov ev3 H locs hp h
      rw [hp.1]
      refine W.eq (g2 := F0 m 44 ls []) rfl ?_
      have o3 : ev3 = (va_up ev2 39 (eI G 32 (ns (STRB S (Bf 1))))) := hp.2
      have t3_39 : ev3 39 = eI G 32 (ns (STRB S (Bf 1))) := by rw [o3, va_up_self]
      have t3_38 := (show ev3 38 = ev2 38 by rw [o3, va_up_ne _ _ (by decide)]).trans t2_38
      have t3_40 := (show ev3 40 = ev2 40 by rw [o3, va_up_ne _ _ (by decide)]).trans t2_40
      have t3_41 := (show ev3 41 = ev2 41 by rw [o3, va_up_ne _ _ (by decide)]).trans t2_41
      have t3_42 := (show ev3 42 = ev2 42 by rw [o3, va_up_ne _ _ (by decide)]).trans t2_42
      have t3_43 := (show ev3 43 = ev2 43 by rw [o3, va_up_ne _ _ (by decide)]).trans t2_43
      have t3_44 := (show ev3 44 = ev2 44 by rw [o3, va_up_ne _ _ (by decide)]).trans t2_44
      have t3_45 := (show ev3 45 = ev2 45 by rw [o3, va_up_ne _ _ (by decide)]).trans t2_45
      have t3_46 := (show ev3 46 = ev2 46 by rw [o3, va_up_ne _ _ (by decide)]).trans t2_46
      have t3_47 := (show ev3 47 = ev2 47 by rw [o3, va_up_ne _ _ (by decide)]).trans t2_47
      have t3_48 := (show ev3 48 = ev2 48 by rw [o3, va_up_ne _ _ (by decide)]).trans t2_48
      have t3_49 := (show ev3 49 = ev2 49 by rw [o3, va_up_ne _ _ (by decide)]).trans t2_49
      have t3_50 := (show ev3 50 = ev2 50 by rw [o3, va_up_ne _ _ (by decide)]).trans t2_50
      have t3_37 := (show ev3 37 = ev2 37 by rw [o3, va_up_ne _ _ (by decide)]).trans t2_37
      refine lv_aload_n hx hb d_Md_openIt_44 rfl (lv_at hl 2 rfl) ?_
      refine lv_iload_n hx hb d_Md_openIt_45 rfl (lv_at hl 1 rfl) ?_
      refine wv_V (As := [.int (nI (tl - 16))]) (rest := []) (k := 1) ⟨hx, hb, hml, hown, hts⟩ h 37 (by decide) (C := "NonceBoxModel") t3_37 rfl (m_Md_makeTag l G A ad ev3 (tl - 16) (STRB S (Bf 1)) (fil 0 (tl - 16) (fun j => Bf 3 (16 + j)) x50) x49 x46 x47 x48 tl ol 0 t3_37 (by omega) t3_39 t3_50 (STRB_lt _ _) hY t3_46 t3_47 t3_48 t3_49) kc_Md_makeTag kl_Md_133 km_Md_makeTag kv_Md_makeTag ki_Md (by decide +kernel) ⟨rfl, rfl, Nat.le_of_ble_eq_true rfl, Nat.le_of_ble_eq_true rfl⟩ hl.1 rfl rfl (Nat.le_of_ble_eq_true rfl) ⟨Nat.le_refl _, Nat.le_refl _⟩ d_Md_openIt_46 ?_
      intro ov ev4 H locs hp h
      obtain ⟨ho, r46, r47, r48, hp⟩ := hp
      rw [ho]
      refine W.eq (g2 := F0 m 49 ls []) rfl ?_
      have o4 : ev4 = (va_up (va_up (va_up (va_up ev3 46 (eJ G 5 r46)) 47 (eJ G 5 r47)) 48 (eJ G 5 r48)) 49 (eI G 16 (ns (TAGM (STRB S (Bf 1)) (fil 0 (tl - 16) (fun j => Bf 3 (16 + j)) x50) 0 (tl - 16))))) := hp
      have t4_46 : ev4 46 = eJ G 5 r46 := by rw [o4, va_up_ne _ _ (by decide), va_up_ne _ _ (by decide), va_up_ne _ _ (by decide), va_up_self]
      have t4_47 : ev4 47 = eJ G 5 r47 := by rw [o4, va_up_ne _ _ (by decide), va_up_ne _ _ (by decide), va_up_self]
      have t4_48 : ev4 48 = eJ G 5 r48 := by rw [o4, va_up_ne _ _ (by decide), va_up_self]
      have t4_49 : ev4 49 = eI G 16 (ns (TAGM (STRB S (Bf 1)) (fil 0 (tl - 16) (fun j => Bf 3 (16 + j)) x50) 0 (tl - 16))) := by rw [o4, va_up_self]
      have t4_38 := (show ev4 38 = ev3 38 by rw [o4, va_up_ne _ _ (by decide), va_up_ne _ _ (by decide), va_up_ne _ _ (by decide), va_up_ne _ _ (by decide)]).trans t3_38
      have t4_39 := (show ev4 39 = ev3 39 by rw [o4, va_up_ne _ _ (by decide), va_up_ne _ _ (by decide), va_up_ne _ _ (by decide), va_up_ne _ _ (by decide)]).trans t3_39
      have t4_40 := (show ev4 40 = ev3 40 by rw [o4, va_up_ne _ _ (by decide), va_up_ne _ _ (by decide), va_up_ne _ _ (by decide), va_up_ne _ _ (by decide)]).trans t3_40
      have t4_41 := (show ev4 41 = ev3 41 by rw [o4, va_up_ne _ _ (by decide), va_up_ne _ _ (by decide), va_up_ne _ _ (by decide), va_up_ne _ _ (by decide)]).trans t3_41
      have t4_42 := (show ev4 42 = ev3 42 by rw [o4, va_up_ne _ _ (by decide), va_up_ne _ _ (by decide), va_up_ne _ _ (by decide), va_up_ne _ _ (by decide)]).trans t3_42
      have t4_43 := (show ev4 43 = ev3 43 by rw [o4, va_up_ne _ _ (by decide), va_up_ne _ _ (by decide), va_up_ne _ _ (by decide), va_up_ne _ _ (by decide)]).trans t3_43
      have t4_44 := (show ev4 44 = ev3 44 by rw [o4, va_up_ne _ _ (by decide), va_up_ne _ _ (by decide), va_up_ne _ _ (by decide), va_up_ne _ _ (by decide)]).trans t3_44
      have t4_45 := (show ev4 45 = ev3 45 by rw [o4, va_up_ne _ _ (by decide), va_up_ne _ _ (by decide), va_up_ne _ _ (by decide), va_up_ne _ _ (by decide)]).trans t3_45
      have t4_50 := (show ev4 50 = ev3 50 by rw [o4, va_up_ne _ _ (by decide), va_up_ne _ _ (by decide), va_up_ne _ _ (by decide), va_up_ne _ _ (by decide)]).trans t3_50
      have t4_37 := (show ev4 37 = ev3 37 by rw [o4, va_up_ne _ _ (by decide), va_up_ne _ _ (by decide), va_up_ne _ _ (by decide), va_up_ne _ _ (by decide)]).trans t3_37
      have eT : TAGM (STRB S (Bf 1)) (fil 0 (tl - 16) (fun j => Bf 3 (16 + j)) x50) 0 (tl - 16) = (TAGM (STRB S (Bf 1)) (Bf 3) 16 (tl - 16)) := TAGM_congr (fun _ _ => rfl) (fun j hj => by rw [fil_in hj])
      rw [eT] at t4_49
      refine lv_iconst (v := nI (1)) hx hb d_Md_openIt_49 (by decide) ?_
      refine lv_istore_n (lv' := [(2, .int (nI (1))), (1, .int (nI (tl - 16))), (0, .ref (ad 37))]) hx hb d_Md_openIt_50 rfl hl (by decide) rfl (fun ls hl => ?_)
      refine lv_iconst (v := nI (0)) hx hb d_Md_openIt_51 (by decide) ?_
      refine lv_istore_n (lv' := [(3, .int (nI (0))), (2, .int (nI (1))), (1, .int (nI (tl - 16))), (0, .ref (ad 37))]) hx hb d_Md_openIt_52 rfl hl (by decide) rfl (fun ls hl => ?_)
      have loop5 : ∀ (d k2 : Nat), k2 + d = 16 → ∀ (bb : Nat),  ∀ (ev5 : Nat → va_E) (H : Heap) (locs : List Loc) (ls : Array Slot), ((bb = 1 ∧ (∀ j, j < k2 → (TAGM (STRB S (Bf 1)) (Bf 3) 16 (tl - 16)) j = Bf 3 j)) ∨ (bb = 0 ∧ ¬ (∀ j, j < 16 → (TAGM (STRB S (Bf 1)) (Bf 3) 16 (tl - 16)) j = Bf 3 j))) → ev5 = ev4 → wT G A 52 ad ev5 s H locs → lv_has ls 4 [(3, .int (nI (k2))), (2, .int (nI (bb))), (1, .int (nI (tl - 16))), (0, .ref (ad 37))] → W p l e ({ frames := 18, cells := 0, slots := 0, locals := 600 }) s m ([.ref (ad 37)] : List Value).toArray below meth c H locs 0 0 (MQ below (wQc G A 52 ad (fun ov ev' => ∃ (ans : Int32) (Bf' : Nat → Nat → Nat) (ol' cd' : Nat), ov = some (.int ans) ∧ ((tagOK S (Bf 1) (Bf 3) (tl - 16) ∧ ans = nI (tl - 16) ∧ Bf' = va_up Bf 4 (outF (tl - 16) (OPNB S (Bf 1) (Bf 3))) ∧ ol' = tl - 16 ∧ cd' = 0) ∨ (¬ tagOK S (Bf 1) (Bf 3) (tl - 16) ∧ ans = nI 0 ∧ Bf' = Bf ∧ ol' = ol ∧ cd' = 2)) ∧ MD G ad ev' Bf' tl ol' cd' ∧ ∀ j, j < 37 ∨ 50 < j → ev' j = ev j)) ([.ref (ad 37)] : List Value).toArray s 0 0 A) (F0 m 53 ls []) := by
        intro d
        induction d with
        | zero =>
          intro k2 hk_k2 bb ev5 H locs ls hbb o5 h hl
          rw [o5] at h
          refine lv_iload_n hx hb d_Md_openIt_53 rfl (lv_at hl 0 rfl) ?_
          refine lv_bipush (v := nI (16)) hx hb d_Md_openIt_54 (by decide) ?_
          refine lv_icmp_ge (tgt := 93) hx hb d_Md_openIt_56 (by decide) (fun _ => ?_) (fun hc => absurd ((nI_leI (by omega) (by omega)).mpr (by omega)) hc)
          refine lv_iload_n hx hb d_Md_openIt_93 rfl (lv_at hl 1 rfl) ?_
          rcases hbb with ⟨rfl, hall⟩ | ⟨rfl, hno⟩
          · refine lv_if_ne (tgt := 104) hx hb d_Md_openIt_94 (by decide) (fun _ => ?_) (fun hc => absurd hc (by decide))
            have hok : tagOK S (Bf 1) (Bf 3) (tl - 16) := fun j hj => (hall j (by omega)).symm
            refine lv_aload_n hx hb d_Md_openIt_104 rfl (lv_at hl 3 rfl) ?_
            refine lv_iload_n hx hb d_Md_openIt_105 rfl (lv_at hl 2 rfl) ?_
            refine wv_V (As := [.int (nI (tl - 16))]) (rest := []) (k := 1) ⟨hx, hb, hml, hown, hts⟩ h 37 (by decide) (C := "NonceBoxModel") t4_37 rfl (m_Md_beginOut l G A ad ev4 (tl - 16) FF tl ol 0 t4_37 t4_38) kc_Md_beginOut kl_Md_99 km_Md_beginOut kv_Md_beginOut ki_Md (by decide +kernel) ⟨rfl, rfl, Nat.le_of_ble_eq_true rfl, Nat.le_of_ble_eq_true rfl⟩ hl.1 rfl rfl (Nat.le_of_ble_eq_true rfl) ⟨Nat.le_refl _, Nat.le_refl _⟩ d_Md_openIt_106 ?_
            intro ov ev6 H locs hp h
            rw [hp.1]
            refine W.eq (g2 := F0 m 109 ls []) rfl ?_
            have o6 : ev6 = va_up (va_up ev4 38 (eI G 312 (ns (fil 200 112 (fun _ => 0) FF)))) 37 (eO 5 [.ref (ad 38), .int (nI tl), .int (nI (tl - 16)), .int (nI 0), .ref (ad 39), .ref (ad 40), .ref (ad 41), .ref (ad 42), .ref (ad 43), .ref (ad 44), .ref (ad 45), .ref (ad 46), .ref (ad 47), .ref (ad 48), .ref (ad 49), .ref (ad 50)]) := hp.2
            have t6_38 : ev6 38 = eI G 312 (ns (fil 200 112 (fun _ => 0) FF)) := by rw [o6, va_up_ne _ _ (by decide), va_up_self]
            have t6_37 : ev6 37 = eO 5 [.ref (ad 38), .int (nI tl), .int (nI (tl - 16)), .int (nI 0), .ref (ad 39), .ref (ad 40), .ref (ad 41), .ref (ad 42), .ref (ad 43), .ref (ad 44), .ref (ad 45), .ref (ad 46), .ref (ad 47), .ref (ad 48), .ref (ad 49), .ref (ad 50)] := by rw [o6, va_up_self]
            have t6_39 := (show ev6 39 = ev4 39 by rw [o6, va_up_ne _ _ (by decide), va_up_ne _ _ (by decide)]).trans t4_39
            have t6_40 := (show ev6 40 = ev4 40 by rw [o6, va_up_ne _ _ (by decide), va_up_ne _ _ (by decide)]).trans t4_40
            have t6_41 := (show ev6 41 = ev4 41 by rw [o6, va_up_ne _ _ (by decide), va_up_ne _ _ (by decide)]).trans t4_41
            have t6_42 := (show ev6 42 = ev4 42 by rw [o6, va_up_ne _ _ (by decide), va_up_ne _ _ (by decide)]).trans t4_42
            have t6_43 := (show ev6 43 = ev4 43 by rw [o6, va_up_ne _ _ (by decide), va_up_ne _ _ (by decide)]).trans t4_43
            have t6_44 := (show ev6 44 = ev4 44 by rw [o6, va_up_ne _ _ (by decide), va_up_ne _ _ (by decide)]).trans t4_44
            have t6_45 := (show ev6 45 = ev4 45 by rw [o6, va_up_ne _ _ (by decide), va_up_ne _ _ (by decide)]).trans t4_45
            have t6_46 := (show ev6 46 = ev4 46 by rw [o6, va_up_ne _ _ (by decide), va_up_ne _ _ (by decide)]).trans t4_46
            have t6_47 := (show ev6 47 = ev4 47 by rw [o6, va_up_ne _ _ (by decide), va_up_ne _ _ (by decide)]).trans t4_47
            have t6_48 := (show ev6 48 = ev4 48 by rw [o6, va_up_ne _ _ (by decide), va_up_ne _ _ (by decide)]).trans t4_48
            have t6_49 := (show ev6 49 = ev4 49 by rw [o6, va_up_ne _ _ (by decide), va_up_ne _ _ (by decide)]).trans t4_49
            have t6_50 := (show ev6 50 = ev4 50 by rw [o6, va_up_ne _ _ (by decide), va_up_ne _ _ (by decide)]).trans t4_50
            refine lv_iconst (v := nI (0)) hx hb d_Md_openIt_109 (by decide) ?_
            refine lv_istore_n (lv' := [(3, .int (nI (0))), (2, .int (nI (1))), (1, .int (nI (tl - 16))), (0, .ref (ad 37))]) hx hb d_Md_openIt_110 rfl hl (by decide) rfl (fun ls hl => ?_)
            have loop7 : ∀ (d k3 : Nat), k3 + d = tl - 16 →  ∀ (ev7 : Nat → va_E) (H : Heap) (locs : List Loc) (ls : Array Slot), ev7 = (va_up ev6 38 (eI G 312 (ns (fil 200 k3 (OPNB S (Bf 1) (Bf 3)) (fil 200 112 (fun _ => 0) FF))))) → wT G A 52 ad ev7 s H locs → lv_has ls 4 [(3, .int (nI (k3))), (1, .int (nI (tl - 16))), (0, .ref (ad 37))] → W p l e ({ frames := 18, cells := 0, slots := 0, locals := 600 }) s m ([.ref (ad 37)] : List Value).toArray below meth c H locs 0 0 (MQ below (wQc G A 52 ad (fun ov ev' => ∃ (ans : Int32) (Bf' : Nat → Nat → Nat) (ol' cd' : Nat), ov = some (.int ans) ∧ ((tagOK S (Bf 1) (Bf 3) (tl - 16) ∧ ans = nI (tl - 16) ∧ Bf' = va_up Bf 4 (outF (tl - 16) (OPNB S (Bf 1) (Bf 3))) ∧ ol' = tl - 16 ∧ cd' = 0) ∨ (¬ tagOK S (Bf 1) (Bf 3) (tl - 16) ∧ ans = nI 0 ∧ Bf' = Bf ∧ ol' = ol ∧ cd' = 2)) ∧ MD G ad ev' Bf' tl ol' cd' ∧ ∀ j, j < 37 ∨ 50 < j → ev' j = ev j)) ([.ref (ad 37)] : List Value).toArray s 0 0 A) (F0 m 111 ls []) := by
              intro d
              induction d with
              | zero =>
                intro k3 hk_k3  ev7 H locs ls  o7 h hl
                have t7_38 : ev7 38 = eI G 312 (ns (fil 200 k3 (OPNB S (Bf 1) (Bf 3)) (fil 200 112 (fun _ => 0) FF))) := by rw [o7, va_up_self]
                have t7_39 := (show ev7 39 = ev6 39 by rw [o7, va_up_ne _ _ (by decide)]).trans t6_39
                have t7_40 := (show ev7 40 = ev6 40 by rw [o7, va_up_ne _ _ (by decide)]).trans t6_40
                have t7_41 := (show ev7 41 = ev6 41 by rw [o7, va_up_ne _ _ (by decide)]).trans t6_41
                have t7_42 := (show ev7 42 = ev6 42 by rw [o7, va_up_ne _ _ (by decide)]).trans t6_42
                have t7_43 := (show ev7 43 = ev6 43 by rw [o7, va_up_ne _ _ (by decide)]).trans t6_43
                have t7_44 := (show ev7 44 = ev6 44 by rw [o7, va_up_ne _ _ (by decide)]).trans t6_44
                have t7_45 := (show ev7 45 = ev6 45 by rw [o7, va_up_ne _ _ (by decide)]).trans t6_45
                have t7_46 := (show ev7 46 = ev6 46 by rw [o7, va_up_ne _ _ (by decide)]).trans t6_46
                have t7_47 := (show ev7 47 = ev6 47 by rw [o7, va_up_ne _ _ (by decide)]).trans t6_47
                have t7_48 := (show ev7 48 = ev6 48 by rw [o7, va_up_ne _ _ (by decide)]).trans t6_48
                have t7_49 := (show ev7 49 = ev6 49 by rw [o7, va_up_ne _ _ (by decide)]).trans t6_49
                have t7_50 := (show ev7 50 = ev6 50 by rw [o7, va_up_ne _ _ (by decide)]).trans t6_50
                have t7_37 := (show ev7 37 = ev6 37 by rw [o7, va_up_ne _ _ (by decide)]).trans t6_37
                refine lv_iload_n hx hb d_Md_openIt_111 rfl (lv_at hl 0 rfl) ?_
                refine lv_iload_n hx hb d_Md_openIt_112 rfl (lv_at hl 1 rfl) ?_
                refine lv_icmp_ge (tgt := 148) hx hb d_Md_openIt_113 (by decide) (fun _ => ?_) (fun hc => absurd ((nI_leI (by omega) (by omega)).mpr (by omega)) hc)
                rw [show k3 = tl - 16 by omega] at t7_38
                have h := wT_eqI (g := (ns (fil 200 112 (outF (tl - 16) (OPNB S (Bf 1) (Bf 3))) FF))) h 38 (by decide) t7_38 (fun j hj => by
                    unfold ns
                    congr 1
                    unfold fil outF
                    by_cases c2 : 200 ≤ j ∧ j < 200 + (tl - 16)
                    · rw [if_pos c2, if_pos (by omega), if_pos (by omega)]
                    · rw [if_neg c2]
                      by_cases c3 : 200 ≤ j ∧ j < 200 + 112
                      · rw [if_pos c3, if_pos c3, if_neg (by omega)]
                      · rw [if_neg c3, if_neg c3])
                obtain ⟨ev8, o8⟩ : ∃ z, z = va_up ev7 38 (eI G 312 (ns (fil 200 112 (outF (tl - 16) (OPNB S (Bf 1) (Bf 3))) FF))) := ⟨_, rfl⟩
                rw [← o8] at h
                have t8_38 : ev8 38 = eI G 312 (ns (fil 200 112 (outF (tl - 16) (OPNB S (Bf 1) (Bf 3))) FF)) := by rw [o8, va_up_self]
                have t8_39 := (show ev8 39 = ev7 39 by rw [o8, va_up_ne _ _ (by decide)]).trans t7_39
                have t8_40 := (show ev8 40 = ev7 40 by rw [o8, va_up_ne _ _ (by decide)]).trans t7_40
                have t8_41 := (show ev8 41 = ev7 41 by rw [o8, va_up_ne _ _ (by decide)]).trans t7_41
                have t8_42 := (show ev8 42 = ev7 42 by rw [o8, va_up_ne _ _ (by decide)]).trans t7_42
                have t8_43 := (show ev8 43 = ev7 43 by rw [o8, va_up_ne _ _ (by decide)]).trans t7_43
                have t8_44 := (show ev8 44 = ev7 44 by rw [o8, va_up_ne _ _ (by decide)]).trans t7_44
                have t8_45 := (show ev8 45 = ev7 45 by rw [o8, va_up_ne _ _ (by decide)]).trans t7_45
                have t8_46 := (show ev8 46 = ev7 46 by rw [o8, va_up_ne _ _ (by decide)]).trans t7_46
                have t8_47 := (show ev8 47 = ev7 47 by rw [o8, va_up_ne _ _ (by decide)]).trans t7_47
                have t8_48 := (show ev8 48 = ev7 48 by rw [o8, va_up_ne _ _ (by decide)]).trans t7_48
                have t8_49 := (show ev8 49 = ev7 49 by rw [o8, va_up_ne _ _ (by decide)]).trans t7_49
                have t8_50 := (show ev8 50 = ev7 50 by rw [o8, va_up_ne _ _ (by decide)]).trans t7_50
                have t8_37 := (show ev8 37 = ev7 37 by rw [o8, va_up_ne _ _ (by decide)]).trans t7_37
                refine lv_iload_n hx hb d_Md_openIt_148 rfl (lv_at hl 1 rfl) ?_
                exact wv_iret hx hb hr hlocks h d_Md_openIt_149 ⟨_, _, _, _, rfl, Or.inl ⟨hok, rfl, rfl, rfl, rfl⟩, ⟨t8_37, ⟨_, FB_out hFB, t8_38⟩, ⟨_, t8_39⟩, ⟨_, t8_40⟩, ⟨_, t8_41⟩, ⟨_, t8_42⟩, ⟨_, t8_43⟩, ⟨_, t8_44⟩, ⟨_, t8_45⟩, ⟨_, t8_46⟩, ⟨_, t8_47⟩, ⟨_, t8_48⟩, ⟨_, t8_49⟩, ⟨_, hY, t8_50⟩, Bf_lt hB (outF_lt (OPNB_lt _ _ (hB 3))) 4, htl, (by omega)⟩, (fun j hj => by rw [o8, va_up_ne _ _ (by omega), o7, va_up_ne _ _ (by omega), o6, va_up_ne _ _ (by omega), va_up_ne _ _ (by omega), o4, va_up_ne _ _ (by omega), va_up_ne _ _ (by omega), va_up_ne _ _ (by omega), va_up_ne _ _ (by omega), o3, va_up_ne _ _ (by omega), o2, va_up_ne _ _ (by omega), o1, va_up_ne _ _ (by omega), va_up_ne _ _ (by omega), va_up_ne _ _ (by omega), va_up_ne _ _ (by omega), va_up_ne _ _ (by omega)])⟩
              | succ d ih3 =>
                intro k3 hk_k3  ev7 H locs ls  o7 h hl
                have t7_38 : ev7 38 = eI G 312 (ns (fil 200 k3 (OPNB S (Bf 1) (Bf 3)) (fil 200 112 (fun _ => 0) FF))) := by rw [o7, va_up_self]
                have t7_39 := (show ev7 39 = ev6 39 by rw [o7, va_up_ne _ _ (by decide)]).trans t6_39
                have t7_40 := (show ev7 40 = ev6 40 by rw [o7, va_up_ne _ _ (by decide)]).trans t6_40
                have t7_41 := (show ev7 41 = ev6 41 by rw [o7, va_up_ne _ _ (by decide)]).trans t6_41
                have t7_42 := (show ev7 42 = ev6 42 by rw [o7, va_up_ne _ _ (by decide)]).trans t6_42
                have t7_43 := (show ev7 43 = ev6 43 by rw [o7, va_up_ne _ _ (by decide)]).trans t6_43
                have t7_44 := (show ev7 44 = ev6 44 by rw [o7, va_up_ne _ _ (by decide)]).trans t6_44
                have t7_45 := (show ev7 45 = ev6 45 by rw [o7, va_up_ne _ _ (by decide)]).trans t6_45
                have t7_46 := (show ev7 46 = ev6 46 by rw [o7, va_up_ne _ _ (by decide)]).trans t6_46
                have t7_47 := (show ev7 47 = ev6 47 by rw [o7, va_up_ne _ _ (by decide)]).trans t6_47
                have t7_48 := (show ev7 48 = ev6 48 by rw [o7, va_up_ne _ _ (by decide)]).trans t6_48
                have t7_49 := (show ev7 49 = ev6 49 by rw [o7, va_up_ne _ _ (by decide)]).trans t6_49
                have t7_50 := (show ev7 50 = ev6 50 by rw [o7, va_up_ne _ _ (by decide)]).trans t6_50
                have t7_37 := (show ev7 37 = ev6 37 by rw [o7, va_up_ne _ _ (by decide)]).trans t6_37
                refine lv_iload_n hx hb d_Md_openIt_111 rfl (lv_at hl 0 rfl) ?_
                refine lv_iload_n hx hb d_Md_openIt_112 rfl (lv_at hl 1 rfl) ?_
                refine lv_icmp_ge (tgt := 148) hx hb d_Md_openIt_113 (by decide) (fun hc => absurd ((nI_leI (by omega) (by omega)).mp hc) (by omega)) (fun _ => ?_)
                refine lv_aload_n hx hb d_Md_openIt_116 rfl (lv_at hl 2 rfl) ?_
                refine wv_getf hx hb h 37 (by decide) (fs := [.ref (ad 38), .int (nI (tl)), .int (nI ((tl - 16))), .int (nI (0)), .ref (ad 39), .ref (ad 40), .ref (ad 41), .ref (ad 42), .ref (ad 43), .ref (ad 44), .ref (ad 45), .ref (ad 46), .ref (ad 47), .ref (ad 48), .ref (ad 49), .ref (ad 50)]) t7_37 hts (fun w hw => List.mem_cons_of_mem _ (fW_Md w hw)) hown (ci := 5) (C := "NonceBoxModel") (T := fT_Md) (N := 16) rfl 0 (by decide) (hts _ (List.mem_cons_of_mem _ kf_Md_7)) rfl (v := .ref (ad 38)) rfl d_Md_openIt_117 ?_
                refine lv_sipush (v := nI (200)) hx hb d_Md_openIt_120 (by decide) ?_
                refine lv_iload_n hx hb d_Md_openIt_123 rfl (lv_at hl 0 rfl) ?_
                refine lv_iadd hx hb d_Md_openIt_124 ?_
                refine wv_top (w := nI (200 + k3)) (nI_add _ _) ?_
                refine lv_aload_n hx hb d_Md_openIt_125 rfl (lv_at hl 2 rfl) ?_
                refine wv_getf hx hb h 37 (by decide) (fs := [.ref (ad 38), .int (nI (tl)), .int (nI ((tl - 16))), .int (nI (0)), .ref (ad 39), .ref (ad 40), .ref (ad 41), .ref (ad 42), .ref (ad 43), .ref (ad 44), .ref (ad 45), .ref (ad 46), .ref (ad 47), .ref (ad 48), .ref (ad 49), .ref (ad 50)]) t7_37 hts (fun w hw => List.mem_cons_of_mem _ (fW_Md w hw)) hown (ci := 5) (C := "NonceBoxModel") (T := fT_Md) (N := 16) rfl 15 (by decide) (hts _ (List.mem_cons_of_mem _ kf_Md_47)) rfl (v := .ref (ad 50)) rfl d_Md_openIt_126 ?_
                refine lv_iload_n hx hb d_Md_openIt_129 rfl (lv_at hl 0 rfl) ?_
                refine wv_iald hx hb h 50 (by decide) (f := (ns (fil 0 (tl - 16) (fun j => Bf 3 (16 + j)) x50))) t7_50 (k := k3) rfl (by omega) (by decide) d_Md_openIt_130 ?_
                refine wv_top (w := nI (Bf 3 (16 + k3))) (by unfold ns; rw [show fil 0 (tl - 16) (fun j => Bf 3 (16 + j)) x50 k3 = (fun j => Bf 3 (16 + j)) k3 from (congrArg _ (Nat.zero_add k3)).symm.trans (fil_in (by omega))]) ?_
                refine lv_aload_n hx hb d_Md_openIt_131 rfl (lv_at hl 2 rfl) ?_
                refine wv_getf hx hb h 37 (by decide) (fs := [.ref (ad 38), .int (nI (tl)), .int (nI ((tl - 16))), .int (nI (0)), .ref (ad 39), .ref (ad 40), .ref (ad 41), .ref (ad 42), .ref (ad 43), .ref (ad 44), .ref (ad 45), .ref (ad 46), .ref (ad 47), .ref (ad 48), .ref (ad 49), .ref (ad 50)]) t7_37 hts (fun w hw => List.mem_cons_of_mem _ (fW_Md w hw)) hown (ci := 5) (C := "NonceBoxModel") (T := fT_Md) (N := 16) rfl 8 (by decide) (hts _ (List.mem_cons_of_mem _ kf_Md_25)) rfl (v := .ref (ad 43)) rfl d_Md_openIt_132 ?_
                refine lv_bipush (v := nI (32)) hx hb d_Md_openIt_135 (by decide) ?_
                refine lv_iload_n hx hb d_Md_openIt_137 rfl (lv_at hl 0 rfl) ?_
                refine lv_iadd hx hb d_Md_openIt_138 ?_
                refine wv_top (w := nI (32 + k3)) (nI_add _ _) ?_
                refine wv_iald hx hb h 43 (by decide) (f := (ns (STRB S (Bf 1)))) t7_43 (k := 32 + k3) rfl (by omega) (by decide) d_Md_openIt_139 ?_
                refine wv_top (w := nI (STRB S (Bf 1) (32 + k3))) rfl ?_
                refine lv_ixor hx hb d_Md_openIt_140 ?_
                refine wv_top (w := nI ((OPNB S (Bf 1) (Bf 3)) k3)) (nI_x _ _) ?_
                refine wv_iast hx hb h 38 (by decide) (f := (ns (fil 200 k3 (OPNB S (Bf 1) (Bf 3)) (fil 200 112 (fun _ => 0) FF)))) t7_38 (k := 200 + k3) rfl (by omega) (by decide) d_Md_openIt_141 (fun H locs h => ?_)
                obtain ⟨ev8, o8⟩ : ∃ z, z = va_up ev7 38 (eI G 312 (va_up ((ns (fil 200 k3 (OPNB S (Bf 1) (Bf 3)) (fil 200 112 (fun _ => 0) FF)))) (200 + k3) (nI ((OPNB S (Bf 1) (Bf 3)) k3)))) := ⟨_, rfl⟩
                rw [← o8] at h
                have t8_38 : ev8 38 = eI G 312 (va_up ((ns (fil 200 k3 (OPNB S (Bf 1) (Bf 3)) (fil 200 112 (fun _ => 0) FF)))) (200 + k3) (nI ((OPNB S (Bf 1) (Bf 3)) k3))) := by rw [o8, va_up_self]
                have t8_39 := (show ev8 39 = ev7 39 by rw [o8, va_up_ne _ _ (by decide)]).trans t7_39
                have t8_40 := (show ev8 40 = ev7 40 by rw [o8, va_up_ne _ _ (by decide)]).trans t7_40
                have t8_41 := (show ev8 41 = ev7 41 by rw [o8, va_up_ne _ _ (by decide)]).trans t7_41
                have t8_42 := (show ev8 42 = ev7 42 by rw [o8, va_up_ne _ _ (by decide)]).trans t7_42
                have t8_43 := (show ev8 43 = ev7 43 by rw [o8, va_up_ne _ _ (by decide)]).trans t7_43
                have t8_44 := (show ev8 44 = ev7 44 by rw [o8, va_up_ne _ _ (by decide)]).trans t7_44
                have t8_45 := (show ev8 45 = ev7 45 by rw [o8, va_up_ne _ _ (by decide)]).trans t7_45
                have t8_46 := (show ev8 46 = ev7 46 by rw [o8, va_up_ne _ _ (by decide)]).trans t7_46
                have t8_47 := (show ev8 47 = ev7 47 by rw [o8, va_up_ne _ _ (by decide)]).trans t7_47
                have t8_48 := (show ev8 48 = ev7 48 by rw [o8, va_up_ne _ _ (by decide)]).trans t7_48
                have t8_49 := (show ev8 49 = ev7 49 by rw [o8, va_up_ne _ _ (by decide)]).trans t7_49
                have t8_50 := (show ev8 50 = ev7 50 by rw [o8, va_up_ne _ _ (by decide)]).trans t7_50
                have t8_37 := (show ev8 37 = ev7 37 by rw [o8, va_up_ne _ _ (by decide)]).trans t7_37
                rw [ns_up _ _ ((OPNB S (Bf 1) (Bf 3)) k3) rfl] at o8
                refine lv_iinc (v := nI (k3 + 1)) (lv' := [(3, .int (nI (k3 + 1))), (1, .int (nI (tl - 16))), (0, .ref (ad 37))]) hx hb d_Md_openIt_142 hl (k := 0) rfl (nI_add _ _) (by decide) rfl (fun ls hl => ?_)
                refine lv_goto (tgt := 111) hx hb d_Md_openIt_145 (by decide) ?_
                refine ih3 (k3 + 1) (by omega) ev8 H locs ls ?_ h (lv_sub hl [0, 1, 2] rfl)
                rw [o8, o7, va_up2, ← fil_s 200 k3 (OPNB S (Bf 1) (Bf 3)) (fil 200 112 (fun _ => 0) FF) rfl]
            exact loop7 (tl - 16) 0 (by omega) ev6 H locs ls (by rw [fil_0, va_upi _ _ t6_38]) h (lv_sub hl [0, 2, 3] rfl)
          · refine lv_if_ne (tgt := 104) hx hb d_Md_openIt_94 (by decide) (fun hc => absurd rfl hc) (fun _ => ?_)
            have hnok : ¬ tagOK S (Bf 1) (Bf 3) (tl - 16) := fun q => hno (fun j hj => (q j hj).symm)
            refine lv_aload_n hx hb d_Md_openIt_97 rfl (lv_at hl 3 rfl) ?_
            refine lv_iconst (v := nI (2)) hx hb d_Md_openIt_98 (by decide) ?_
            refine wv_putf hx hb h 37 (by decide) (fs := [.ref (ad 38), .int (nI (tl)), .int (nI (ol)), .int (nI (0)), .ref (ad 39), .ref (ad 40), .ref (ad 41), .ref (ad 42), .ref (ad 43), .ref (ad 44), .ref (ad 45), .ref (ad 46), .ref (ad 47), .ref (ad 48), .ref (ad 49), .ref (ad 50)]) t4_37 hts (fun w hw => List.mem_cons_of_mem _ (fW_Md w hw)) fY_Md fK_Md fN_Md hown (ci := 5) (C := "NonceBoxModel") (T := fT_Md) (N := 16) rfl 3 (by decide) (hts _ (List.mem_cons_of_mem _ kf_Md_50)) rfl rfl (v := .int (nI (2))) rfl rfl (Nat.le_of_ble_eq_true rfl) d_Md_openIt_99 (fun H locs h => ?_)
            have h : wT G A 52 ad (va_up ev4 37 (eO 5 [.ref (ad 38), .int (nI (tl)), .int (nI (ol)), .int (nI (2)), .ref (ad 39), .ref (ad 40), .ref (ad 41), .ref (ad 42), .ref (ad 43), .ref (ad 44), .ref (ad 45), .ref (ad 46), .ref (ad 47), .ref (ad 48), .ref (ad 49), .ref (ad 50)])) s H locs := h
            obtain ⟨ev6, o6⟩ : ∃ z, z = va_up ev4 37 (eO 5 [.ref (ad 38), .int (nI (tl)), .int (nI (ol)), .int (nI (2)), .ref (ad 39), .ref (ad 40), .ref (ad 41), .ref (ad 42), .ref (ad 43), .ref (ad 44), .ref (ad 45), .ref (ad 46), .ref (ad 47), .ref (ad 48), .ref (ad 49), .ref (ad 50)]) := ⟨_, rfl⟩
            rw [← o6] at h
            have t6_37 : ev6 37 = eO 5 [.ref (ad 38), .int (nI (tl)), .int (nI (ol)), .int (nI (2)), .ref (ad 39), .ref (ad 40), .ref (ad 41), .ref (ad 42), .ref (ad 43), .ref (ad 44), .ref (ad 45), .ref (ad 46), .ref (ad 47), .ref (ad 48), .ref (ad 49), .ref (ad 50)] := by rw [o6, va_up_self]
            have t6_38 := (show ev6 38 = ev4 38 by rw [o6, va_up_ne _ _ (by decide)]).trans t4_38
            have t6_39 := (show ev6 39 = ev4 39 by rw [o6, va_up_ne _ _ (by decide)]).trans t4_39
            have t6_40 := (show ev6 40 = ev4 40 by rw [o6, va_up_ne _ _ (by decide)]).trans t4_40
            have t6_41 := (show ev6 41 = ev4 41 by rw [o6, va_up_ne _ _ (by decide)]).trans t4_41
            have t6_42 := (show ev6 42 = ev4 42 by rw [o6, va_up_ne _ _ (by decide)]).trans t4_42
            have t6_43 := (show ev6 43 = ev4 43 by rw [o6, va_up_ne _ _ (by decide)]).trans t4_43
            have t6_44 := (show ev6 44 = ev4 44 by rw [o6, va_up_ne _ _ (by decide)]).trans t4_44
            have t6_45 := (show ev6 45 = ev4 45 by rw [o6, va_up_ne _ _ (by decide)]).trans t4_45
            have t6_46 := (show ev6 46 = ev4 46 by rw [o6, va_up_ne _ _ (by decide)]).trans t4_46
            have t6_47 := (show ev6 47 = ev4 47 by rw [o6, va_up_ne _ _ (by decide)]).trans t4_47
            have t6_48 := (show ev6 48 = ev4 48 by rw [o6, va_up_ne _ _ (by decide)]).trans t4_48
            have t6_49 := (show ev6 49 = ev4 49 by rw [o6, va_up_ne _ _ (by decide)]).trans t4_49
            have t6_50 := (show ev6 50 = ev4 50 by rw [o6, va_up_ne _ _ (by decide)]).trans t4_50
            refine lv_iconst (v := nI (0)) hx hb d_Md_openIt_102 (by decide) ?_
            exact wv_iret hx hb hr hlocks h d_Md_openIt_103 ⟨_, _, _, _, rfl, Or.inr ⟨hnok, rfl, rfl, rfl, rfl⟩, ⟨t6_37, ⟨_, hFB, t6_38⟩, ⟨_, t6_39⟩, ⟨_, t6_40⟩, ⟨_, t6_41⟩, ⟨_, t6_42⟩, ⟨_, t6_43⟩, ⟨_, t6_44⟩, ⟨_, t6_45⟩, ⟨_, t6_46⟩, ⟨_, t6_47⟩, ⟨_, t6_48⟩, ⟨_, t6_49⟩, ⟨_, hY, t6_50⟩, hB, htl, hol⟩, (fun j hj => by rw [o6, va_up_ne _ _ (by omega), o4, va_up_ne _ _ (by omega), va_up_ne _ _ (by omega), va_up_ne _ _ (by omega), va_up_ne _ _ (by omega), o3, va_up_ne _ _ (by omega), o2, va_up_ne _ _ (by omega), o1, va_up_ne _ _ (by omega), va_up_ne _ _ (by omega), va_up_ne _ _ (by omega), va_up_ne _ _ (by omega), va_up_ne _ _ (by omega)])⟩
        | succ d ih2 =>
          intro k2 hk_k2 bb ev5 H locs ls hbb o5 h hl
          rw [o5] at h
          refine lv_iload_n hx hb d_Md_openIt_53 rfl (lv_at hl 0 rfl) ?_
          refine lv_bipush (v := nI (16)) hx hb d_Md_openIt_54 (by decide) ?_
          refine lv_icmp_ge (tgt := 93) hx hb d_Md_openIt_56 (by decide) (fun hc => absurd ((nI_leI (by omega) (by omega)).mp hc) (by omega)) (fun _ => ?_)
          refine lv_iload_n hx hb d_Md_openIt_59 rfl (lv_at hl 1 rfl) ?_
          rcases hbb with ⟨rfl, hall⟩ | ⟨rfl, hno⟩
          · refine lv_if_eq (tgt := 85) hx hb d_Md_openIt_60 (by decide) (fun hc => absurd hc (by decide)) (fun _ => ?_)
            refine lv_aload_n hx hb d_Md_openIt_63 rfl (lv_at hl 3 rfl) ?_
            refine wv_getf hx hb h 37 (by decide) (fs := [.ref (ad 38), .int (nI (tl)), .int (nI (ol)), .int (nI (0)), .ref (ad 39), .ref (ad 40), .ref (ad 41), .ref (ad 42), .ref (ad 43), .ref (ad 44), .ref (ad 45), .ref (ad 46), .ref (ad 47), .ref (ad 48), .ref (ad 49), .ref (ad 50)]) t4_37 hts (fun w hw => List.mem_cons_of_mem _ (fW_Md w hw)) hown (ci := 5) (C := "NonceBoxModel") (T := fT_Md) (N := 16) rfl 14 (by decide) (hts _ (List.mem_cons_of_mem _ kf_Md_44)) rfl (v := .ref (ad 49)) rfl d_Md_openIt_64 ?_
            refine lv_iload_n hx hb d_Md_openIt_67 rfl (lv_at hl 0 rfl) ?_
            refine wv_iald hx hb h 49 (by decide) (f := (ns (TAGM (STRB S (Bf 1)) (Bf 3) 16 (tl - 16)))) t4_49 (k := k2) rfl (by omega) (by decide) d_Md_openIt_68 ?_
            refine wv_top (w := nI ((TAGM (STRB S (Bf 1)) (Bf 3) 16 (tl - 16)) k2)) rfl ?_
            refine lv_aload_n hx hb d_Md_openIt_69 rfl (lv_at hl 3 rfl) ?_
            refine wv_getf hx hb h 37 (by decide) (fs := [.ref (ad 38), .int (nI (tl)), .int (nI (ol)), .int (nI (0)), .ref (ad 39), .ref (ad 40), .ref (ad 41), .ref (ad 42), .ref (ad 43), .ref (ad 44), .ref (ad 45), .ref (ad 46), .ref (ad 47), .ref (ad 48), .ref (ad 49), .ref (ad 50)]) t4_37 hts (fun w hw => List.mem_cons_of_mem _ (fW_Md w hw)) hown (ci := 5) (C := "NonceBoxModel") (T := fT_Md) (N := 16) rfl 0 (by decide) (hts _ (List.mem_cons_of_mem _ kf_Md_7)) rfl (v := .ref (ad 38)) rfl d_Md_openIt_70 ?_
            refine lv_bipush (v := nI (88)) hx hb d_Md_openIt_73 (by decide) ?_
            refine lv_iload_n hx hb d_Md_openIt_75 rfl (lv_at hl 0 rfl) ?_
            refine lv_iadd hx hb d_Md_openIt_76 ?_
            refine wv_top (w := nI (88 + k2)) (nI_add _ _) ?_
            refine wv_iald hx hb h 38 (by decide) (f := (ns FF)) t4_38 (k := 88 + k2) rfl (by omega) (by decide) d_Md_openIt_77 ?_
            refine wv_top (w := nI (Bf 3 k2)) (congrArg nI (hFB 3 (by decide) k2 (by show k2 < 112; omega))) ?_
            have q1 := TAGM_lt (STRB S (Bf 1)) (Bf 3) 16 (tl - 16) k2
            have q2 := hB 3 k2
            refine lv_icmp_ne (tgt := 85) hx hb d_Md_openIt_78 (by decide) (fun hc => ?_) (fun hc => ?_)
            · skip
              refine lv_iconst (v := nI (0)) hx hb d_Md_openIt_85 (by decide) ?_
              refine lv_istore_n (lv' := [(2, .int (nI (0))), (3, .int (nI (k2))), (1, .int (nI (tl - 16))), (0, .ref (ad 37))]) hx hb d_Md_openIt_86 rfl hl (by decide) rfl (fun ls hl => ?_)
              refine lv_iinc (v := nI (k2 + 1)) (lv' := [(3, .int (nI (k2 + 1))), (2, .int (nI (0))), (1, .int (nI (tl - 16))), (0, .ref (ad 37))]) hx hb d_Md_openIt_87 hl (k := 1) rfl (nI_add _ _) (by decide) rfl (fun ls hl => ?_)
              refine lv_goto (tgt := 53) hx hb d_Md_openIt_90 (by decide) ?_
              exact ih2 (k2 + 1) (by omega) 0 ev4 H locs ls (Or.inr ⟨rfl, fun q => hc (congrArg nI (q k2 (by omega)))⟩) rfl h (lv_sub hl [0, 1, 2, 3] rfl)
            · have hq : (TAGM (STRB S (Bf 1)) (Bf 3) 16 (tl - 16)) k2 = Bf 3 k2 := (nI_eq (by omega) (by omega)).mp hc
              refine lv_iconst (v := nI (1)) hx hb d_Md_openIt_81 (by decide) ?_
              refine lv_goto (tgt := 86) hx hb d_Md_openIt_82 (by decide) ?_
              refine lv_istore_n (lv' := [(2, .int (nI (1))), (3, .int (nI (k2))), (1, .int (nI (tl - 16))), (0, .ref (ad 37))]) hx hb d_Md_openIt_86 rfl hl (by decide) rfl (fun ls hl => ?_)
              refine lv_iinc (v := nI (k2 + 1)) (lv' := [(3, .int (nI (k2 + 1))), (2, .int (nI (1))), (1, .int (nI (tl - 16))), (0, .ref (ad 37))]) hx hb d_Md_openIt_87 hl (k := 1) rfl (nI_add _ _) (by decide) rfl (fun ls hl => ?_)
              refine lv_goto (tgt := 53) hx hb d_Md_openIt_90 (by decide) ?_
              exact ih2 (k2 + 1) (by omega) 1 ev4 H locs ls (Or.inl ⟨rfl, fun j hj => by
                by_cases c9 : j = k2
                · rw [c9]; exact hq
                · exact hall j (by omega)⟩) rfl h (lv_sub hl [0, 1, 2, 3] rfl)
          · refine lv_if_eq (tgt := 85) hx hb d_Md_openIt_60 (by decide) (fun _ => ?_) (fun hc => absurd rfl hc)
            refine lv_iconst (v := nI (0)) hx hb d_Md_openIt_85 (by decide) ?_
            refine lv_istore_n (lv' := [(2, .int (nI (0))), (3, .int (nI (k2))), (1, .int (nI (tl - 16))), (0, .ref (ad 37))]) hx hb d_Md_openIt_86 rfl hl (by decide) rfl (fun ls hl => ?_)
            refine lv_iinc (v := nI (k2 + 1)) (lv' := [(3, .int (nI (k2 + 1))), (2, .int (nI (0))), (1, .int (nI (tl - 16))), (0, .ref (ad 37))]) hx hb d_Md_openIt_87 hl (k := 1) rfl (nI_add _ _) (by decide) rfl (fun ls hl => ?_)
            refine lv_goto (tgt := 53) hx hb d_Md_openIt_90 (by decide) ?_
            exact ih2 (k2 + 1) (by omega) 0 ev4 H locs ls (Or.inr ⟨rfl, hno⟩) rfl h (lv_sub hl [0, 1, 2, 3] rfl)
      exact loop5 16 0 rfl 1 ev4 H locs ls (Or.inl ⟨rfl, fun j hj => absurd hj (by omega)⟩) rfl h (lv_sub hl [0, 1, 2, 3] rfl)
    | succ d ih =>
      intro k hk_k  ev2 H locs ls  o2 h hl
      have t2_50 : ev2 50 = eI G 112 (ns (fil 0 k (fun j => Bf 3 (16 + j)) x50)) := by rw [o2, va_up_self]
      have t2_38 := (show ev2 38 = ev1 38 by rw [o2, va_up_ne _ _ (by decide)]).trans t1_38
      have t2_39 := (show ev2 39 = ev1 39 by rw [o2, va_up_ne _ _ (by decide)]).trans t1_39
      have t2_40 := (show ev2 40 = ev1 40 by rw [o2, va_up_ne _ _ (by decide)]).trans t1_40
      have t2_41 := (show ev2 41 = ev1 41 by rw [o2, va_up_ne _ _ (by decide)]).trans t1_41
      have t2_42 := (show ev2 42 = ev1 42 by rw [o2, va_up_ne _ _ (by decide)]).trans t1_42
      have t2_43 := (show ev2 43 = ev1 43 by rw [o2, va_up_ne _ _ (by decide)]).trans t1_43
      have t2_44 := (show ev2 44 = ev1 44 by rw [o2, va_up_ne _ _ (by decide)]).trans t1_44
      have t2_45 := (show ev2 45 = ev1 45 by rw [o2, va_up_ne _ _ (by decide)]).trans t1_45
      have t2_46 := (show ev2 46 = ev1 46 by rw [o2, va_up_ne _ _ (by decide)]).trans t1_46
      have t2_47 := (show ev2 47 = ev1 47 by rw [o2, va_up_ne _ _ (by decide)]).trans t1_47
      have t2_48 := (show ev2 48 = ev1 48 by rw [o2, va_up_ne _ _ (by decide)]).trans t1_48
      have t2_49 := (show ev2 49 = ev1 49 by rw [o2, va_up_ne _ _ (by decide)]).trans t1_49
      have t2_37 := (show ev2 37 = ev1 37 by rw [o2, va_up_ne _ _ (by decide)]).trans t1_37
      refine lv_iload_n hx hb d_Md_openIt_14 rfl (lv_at hl 0 rfl) ?_
      refine lv_iload_n hx hb d_Md_openIt_15 rfl (lv_at hl 1 rfl) ?_
      refine lv_icmp_ge (tgt := 40) hx hb d_Md_openIt_16 (by decide) (fun hc => absurd ((nI_leI (by omega) (by omega)).mp hc) (by omega)) (fun _ => ?_)
      refine lv_aload_n hx hb d_Md_openIt_19 rfl (lv_at hl 2 rfl) ?_
      refine wv_getf hx hb h 37 (by decide) (fs := [.ref (ad 38), .int (nI (tl)), .int (nI (ol)), .int (nI (0)), .ref (ad 39), .ref (ad 40), .ref (ad 41), .ref (ad 42), .ref (ad 43), .ref (ad 44), .ref (ad 45), .ref (ad 46), .ref (ad 47), .ref (ad 48), .ref (ad 49), .ref (ad 50)]) t2_37 hts (fun w hw => List.mem_cons_of_mem _ (fW_Md w hw)) hown (ci := 5) (C := "NonceBoxModel") (T := fT_Md) (N := 16) rfl 15 (by decide) (hts _ (List.mem_cons_of_mem _ kf_Md_47)) rfl (v := .ref (ad 50)) rfl d_Md_openIt_20 ?_
      refine lv_iload_n hx hb d_Md_openIt_23 rfl (lv_at hl 0 rfl) ?_
      refine lv_aload_n hx hb d_Md_openIt_24 rfl (lv_at hl 2 rfl) ?_
      refine wv_getf hx hb h 37 (by decide) (fs := [.ref (ad 38), .int (nI (tl)), .int (nI (ol)), .int (nI (0)), .ref (ad 39), .ref (ad 40), .ref (ad 41), .ref (ad 42), .ref (ad 43), .ref (ad 44), .ref (ad 45), .ref (ad 46), .ref (ad 47), .ref (ad 48), .ref (ad 49), .ref (ad 50)]) t2_37 hts (fun w hw => List.mem_cons_of_mem _ (fW_Md w hw)) hown (ci := 5) (C := "NonceBoxModel") (T := fT_Md) (N := 16) rfl 0 (by decide) (hts _ (List.mem_cons_of_mem _ kf_Md_7)) rfl (v := .ref (ad 38)) rfl d_Md_openIt_25 ?_
      refine lv_bipush (v := nI (104)) hx hb d_Md_openIt_28 (by decide) ?_
      refine lv_iload_n hx hb d_Md_openIt_30 rfl (lv_at hl 0 rfl) ?_
      refine lv_iadd hx hb d_Md_openIt_31 ?_
      refine wv_top (w := nI (104 + k)) (nI_add _ _) ?_
      refine wv_iald hx hb h 38 (by decide) (f := (ns FF)) t2_38 (k := 104 + k) rfl (by omega) (by decide) d_Md_openIt_32 ?_
      refine wv_top (w := nI (Bf 3 (16 + k))) (congrArg nI ((congrArg FF (show 104 + k = 88 + (16 + k) by omega)).trans (hFB 3 (by decide) (16 + k) (by show 16 + k < 112; omega)))) ?_
      refine wv_iast hx hb h 50 (by decide) (f := (ns (fil 0 k (fun j => Bf 3 (16 + j)) x50))) t2_50 (k := k) rfl (by omega) (by decide) d_Md_openIt_33 (fun H locs h => ?_)
      obtain ⟨ev3, o3⟩ : ∃ z, z = va_up ev2 50 (eI G 112 (va_up ((ns (fil 0 k (fun j => Bf 3 (16 + j)) x50))) k (nI (Bf 3 (16 + k))))) := ⟨_, rfl⟩
      rw [← o3] at h
      have t3_50 : ev3 50 = eI G 112 (va_up ((ns (fil 0 k (fun j => Bf 3 (16 + j)) x50))) k (nI (Bf 3 (16 + k)))) := by rw [o3, va_up_self]
      have t3_38 := (show ev3 38 = ev2 38 by rw [o3, va_up_ne _ _ (by decide)]).trans t2_38
      have t3_39 := (show ev3 39 = ev2 39 by rw [o3, va_up_ne _ _ (by decide)]).trans t2_39
      have t3_40 := (show ev3 40 = ev2 40 by rw [o3, va_up_ne _ _ (by decide)]).trans t2_40
      have t3_41 := (show ev3 41 = ev2 41 by rw [o3, va_up_ne _ _ (by decide)]).trans t2_41
      have t3_42 := (show ev3 42 = ev2 42 by rw [o3, va_up_ne _ _ (by decide)]).trans t2_42
      have t3_43 := (show ev3 43 = ev2 43 by rw [o3, va_up_ne _ _ (by decide)]).trans t2_43
      have t3_44 := (show ev3 44 = ev2 44 by rw [o3, va_up_ne _ _ (by decide)]).trans t2_44
      have t3_45 := (show ev3 45 = ev2 45 by rw [o3, va_up_ne _ _ (by decide)]).trans t2_45
      have t3_46 := (show ev3 46 = ev2 46 by rw [o3, va_up_ne _ _ (by decide)]).trans t2_46
      have t3_47 := (show ev3 47 = ev2 47 by rw [o3, va_up_ne _ _ (by decide)]).trans t2_47
      have t3_48 := (show ev3 48 = ev2 48 by rw [o3, va_up_ne _ _ (by decide)]).trans t2_48
      have t3_49 := (show ev3 49 = ev2 49 by rw [o3, va_up_ne _ _ (by decide)]).trans t2_49
      have t3_37 := (show ev3 37 = ev2 37 by rw [o3, va_up_ne _ _ (by decide)]).trans t2_37
      rw [ns_up _ _ (Bf 3 (16 + k)) rfl] at o3
      refine lv_iinc (v := nI (k + 1)) (lv' := [(2, .int (nI (k + 1))), (1, .int (nI (tl - 16))), (0, .ref (ad 37))]) hx hb d_Md_openIt_34 hl (k := 0) rfl (nI_add _ _) (by decide) rfl (fun ls hl => ?_)
      refine lv_goto (tgt := 14) hx hb d_Md_openIt_37 (by decide) ?_
      refine ih (k + 1) (by omega) ev3 H locs ls ?_ h (lv_sub hl [0, 1, 2] rfl)
      rw [o3, o2, va_up2, ← fil_s 0 k (fun j => Bf 3 (16 + j)) x50 rfl, Nat.zero_add]
  exact loop2 (tl - 16) 0 (by omega) ev1 H locs ls (by rw [fil_0, va_upi _ _ t1_50]) h (lv_sub hl [0, 1, 2] rfl)
