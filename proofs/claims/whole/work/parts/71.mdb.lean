theorem d_Md_flow_0 : decode c_Md_flow 0 = .ok (.iconst 0, 1) := by decide +kernel
theorem d_Md_flow_1 : decode c_Md_flow 1 = .ok (.istore_n 1, 1) := by decide +kernel
theorem d_Md_flow_2 : decode c_Md_flow 2 = .ok (.iload_n 1, 1) := by decide +kernel
theorem d_Md_flow_3 : decode c_Md_flow 3 = .ok (.bipush 16, 2) := by decide +kernel
theorem d_Md_flow_5 : decode c_Md_flow 5 = .ok (.if_icmp .ge 24, 3) := by decide +kernel
theorem d_Md_flow_8 : decode c_Md_flow 8 = .ok (.aload_n 0, 1) := by decide +kernel
theorem d_Md_flow_9 : decode c_Md_flow 9 = .ok (.getfield 16, 3) := by decide +kernel
theorem d_Md_flow_12 : decode c_Md_flow 12 = .ok (.iload_n 1, 1) := by decide +kernel
theorem d_Md_flow_13 : decode c_Md_flow 13 = .ok (.aload_n 0, 1) := by decide +kernel
theorem d_Md_flow_14 : decode c_Md_flow 14 = .ok (.getfield 7, 3) := by decide +kernel
theorem d_Md_flow_17 : decode c_Md_flow 17 = .ok (.bipush 32, 2) := by decide +kernel
theorem d_Md_flow_19 : decode c_Md_flow 19 = .ok (.iload_n 1, 1) := by decide +kernel
theorem d_Md_flow_20 : decode c_Md_flow 20 = .ok (.iadd, 1) := by decide +kernel
theorem d_Md_flow_21 : decode c_Md_flow 21 = .ok (.iaload, 1) := by decide +kernel
theorem d_Md_flow_22 : decode c_Md_flow 22 = .ok (.iastore, 1) := by decide +kernel
theorem d_Md_flow_23 : decode c_Md_flow 23 = .ok (.iinc 1 1, 3) := by decide +kernel
theorem d_Md_flow_26 : decode c_Md_flow 26 = .ok (.goto (-24), 3) := by decide +kernel
theorem d_Md_flow_29 : decode c_Md_flow 29 = .ok (.aload_n 0, 1) := by decide +kernel
theorem d_Md_flow_30 : decode c_Md_flow 30 = .ok (.invokevirtual 96, 3) := by decide +kernel
theorem d_Md_flow_33 : decode c_Md_flow 33 = .ok (.iconst 0, 1) := by decide +kernel
theorem d_Md_flow_34 : decode c_Md_flow 34 = .ok (.istore_n 1, 1) := by decide +kernel
theorem d_Md_flow_35 : decode c_Md_flow 35 = .ok (.iload_n 1, 1) := by decide +kernel
theorem d_Md_flow_36 : decode c_Md_flow 36 = .ok (.iconst 2, 1) := by decide +kernel
theorem d_Md_flow_37 : decode c_Md_flow 37 = .ok (.if_icmp .ge 104, 3) := by decide +kernel
theorem d_Md_flow_40 : decode c_Md_flow 40 = .ok (.iconst 0, 1) := by decide +kernel
theorem d_Md_flow_41 : decode c_Md_flow 41 = .ok (.istore_n 2, 1) := by decide +kernel
theorem d_Md_flow_42 : decode c_Md_flow 42 = .ok (.iload_n 2, 1) := by decide +kernel
theorem d_Md_flow_43 : decode c_Md_flow 43 = .ok (.bipush 16, 2) := by decide +kernel
theorem d_Md_flow_45 : decode c_Md_flow 45 = .ok (.if_icmp .ge 44, 3) := by decide +kernel
theorem d_Md_flow_48 : decode c_Md_flow 48 = .ok (.aload_n 0, 1) := by decide +kernel
theorem d_Md_flow_49 : decode c_Md_flow 49 = .ok (.getfield 16, 3) := by decide +kernel
theorem d_Md_flow_52 : decode c_Md_flow 52 = .ok (.iload_n 2, 1) := by decide +kernel
theorem d_Md_flow_53 : decode c_Md_flow 53 = .ok (.iload_n 2, 1) := by decide +kernel
theorem d_Md_flow_54 : decode c_Md_flow 54 = .ok (.bipush 8, 2) := by decide +kernel
theorem d_Md_flow_56 : decode c_Md_flow 56 = .ok (.if_icmp .ge 15, 3) := by decide +kernel
theorem d_Md_flow_59 : decode c_Md_flow 59 = .ok (.aload_n 0, 1) := by decide +kernel
theorem d_Md_flow_60 : decode c_Md_flow 60 = .ok (.getfield 7, 3) := by decide +kernel
theorem d_Md_flow_63 : decode c_Md_flow 63 = .ok (.bipush 48, 2) := by decide +kernel
theorem d_Md_flow_65 : decode c_Md_flow 65 = .ok (.iload_n 2, 1) := by decide +kernel
theorem d_Md_flow_66 : decode c_Md_flow 66 = .ok (.iadd, 1) := by decide +kernel
theorem d_Md_flow_67 : decode c_Md_flow 67 = .ok (.iaload, 1) := by decide +kernel
theorem d_Md_flow_68 : decode c_Md_flow 68 = .ok (.goto 14, 3) := by decide +kernel
theorem d_Md_flow_71 : decode c_Md_flow 71 = .ok (.iload_n 2, 1) := by decide +kernel
theorem d_Md_flow_72 : decode c_Md_flow 72 = .ok (.bipush 8, 2) := by decide +kernel
theorem d_Md_flow_74 : decode c_Md_flow 74 = .ok (.if_icmp .ne 7, 3) := by decide +kernel
theorem d_Md_flow_77 : decode c_Md_flow 77 = .ok (.iload_n 1, 1) := by decide +kernel
theorem d_Md_flow_78 : decode c_Md_flow 78 = .ok (.goto 4, 3) := by decide +kernel
theorem d_Md_flow_81 : decode c_Md_flow 81 = .ok (.iconst 0, 1) := by decide +kernel
theorem d_Md_flow_82 : decode c_Md_flow 82 = .ok (.iastore, 1) := by decide +kernel
theorem d_Md_flow_83 : decode c_Md_flow 83 = .ok (.iinc 2 1, 3) := by decide +kernel
theorem d_Md_flow_86 : decode c_Md_flow 86 = .ok (.goto (-44), 3) := by decide +kernel
theorem d_Md_flow_89 : decode c_Md_flow 89 = .ok (.aload_n 0, 1) := by decide +kernel
theorem d_Md_flow_90 : decode c_Md_flow 90 = .ok (.invokevirtual 89, 3) := by decide +kernel
theorem d_Md_flow_93 : decode c_Md_flow 93 = .ok (.iconst 0, 1) := by decide +kernel
theorem d_Md_flow_94 : decode c_Md_flow 94 = .ok (.istore_n 2, 1) := by decide +kernel
theorem d_Md_flow_95 : decode c_Md_flow 95 = .ok (.iload_n 2, 1) := by decide +kernel
theorem d_Md_flow_96 : decode c_Md_flow 96 = .ok (.bipush 16, 2) := by decide +kernel
theorem d_Md_flow_98 : decode c_Md_flow 98 = .ok (.if_icmp .ge 37, 3) := by decide +kernel
theorem d_Md_flow_101 : decode c_Md_flow 101 = .ok (.aload_n 0, 1) := by decide +kernel
theorem d_Md_flow_102 : decode c_Md_flow 102 = .ok (.getfield 25, 3) := by decide +kernel
theorem d_Md_flow_105 : decode c_Md_flow 105 = .ok (.bipush 64, 2) := by decide +kernel
theorem d_Md_flow_107 : decode c_Md_flow 107 = .ok (.iload_n 1, 1) := by decide +kernel
theorem d_Md_flow_108 : decode c_Md_flow 108 = .ok (.imul, 1) := by decide +kernel
theorem d_Md_flow_109 : decode c_Md_flow 109 = .ok (.iconst 4, 1) := by decide +kernel
theorem d_Md_flow_110 : decode c_Md_flow 110 = .ok (.iload_n 2, 1) := by decide +kernel
theorem d_Md_flow_111 : decode c_Md_flow 111 = .ok (.imul, 1) := by decide +kernel
theorem d_Md_flow_112 : decode c_Md_flow 112 = .ok (.iadd, 1) := by decide +kernel
theorem d_Md_flow_113 : decode c_Md_flow 113 = .ok (.aload_n 0, 1) := by decide +kernel
theorem d_Md_flow_114 : decode c_Md_flow 114 = .ok (.getfield 22, 3) := by decide +kernel
theorem d_Md_flow_117 : decode c_Md_flow 117 = .ok (.iload_n 2, 1) := by decide +kernel
theorem d_Md_flow_118 : decode c_Md_flow 118 = .ok (.iaload, 1) := by decide +kernel
theorem d_Md_flow_119 : decode c_Md_flow 119 = .ok (.aload_n 0, 1) := by decide +kernel
theorem d_Md_flow_120 : decode c_Md_flow 120 = .ok (.getfield 19, 3) := by decide +kernel
theorem d_Md_flow_123 : decode c_Md_flow 123 = .ok (.iload_n 2, 1) := by decide +kernel
theorem d_Md_flow_124 : decode c_Md_flow 124 = .ok (.iaload, 1) := by decide +kernel
theorem d_Md_flow_125 : decode c_Md_flow 125 = .ok (.iadd, 1) := by decide +kernel
theorem d_Md_flow_126 : decode c_Md_flow 126 = .ok (.invokestatic 92, 3) := by decide +kernel
theorem d_Md_flow_129 : decode c_Md_flow 129 = .ok (.iinc 2 1, 3) := by decide +kernel
theorem d_Md_flow_132 : decode c_Md_flow 132 = .ok (.goto (-37), 3) := by decide +kernel
theorem d_Md_flow_135 : decode c_Md_flow 135 = .ok (.iinc 1 1, 3) := by decide +kernel
theorem d_Md_flow_138 : decode c_Md_flow 138 = .ok (.goto (-103), 3) := by decide +kernel
theorem d_Md_flow_141 : decode c_Md_flow 141 = .ok (.return_, 1) := by decide +kernel
set_option maxRecDepth 100000 in
set_option maxHeartbeats 4000000 in
/-- THE STREAM, 128 bytes -/
theorem m_Md_flow (l : Launch) (G : wG) (A : Nat → Prop) (ad : Nat → Nat) (ev : Nat → va_E) (F K X Z S : Nat → Nat) (f g : Nat → Int32) (tl ol cd : Nat) (h37 : ev 37 = eO 5 [.ref (ad 38), .int (nI tl), .int (nI ol), .int (nI cd), .ref (ad 39), .ref (ad 40), .ref (ad 41), .ref (ad 42), .ref (ad 43), .ref (ad 44), .ref (ad 45), .ref (ad 46), .ref (ad 47), .ref (ad 48), .ref (ad 49), .ref (ad 50)]) (h38 : ev 38 = eI G 312 (ns F)) (h39 : ev 39 = eI G 32 (ns K)) (h40 : ev 40 = eI G 16 (ns Z)) (h41 : ev 41 = eI G 16 f) (h42 : ev 42 = eI G 16 g) (h43 : ev 43 = eI G 128 (ns S)) (hF : ∀ j, j < 24 → F (32 + j) = X j) : wM l y_Md_flow w_Md_flow ({ frames := 12, cells := 0, slots := 0, locals := 400 }) G A 52 ad ev [.ref (ad 37)] (fun ov ev' => ov = none ∧ ∃ (M2 : Nat → Nat) (f2 g2 : Nat → Int32), ev' = (va_up (va_up (va_up (va_up (va_up ev 39 (eI G 32 (ns (MIXB K X)))) 40 (eI G 16 (ns M2))) 41 (eI G 16 f2)) 42 (eI G 16 g2)) 43 (eI G 128 (ns (STRB K X))))) := by
  refine wv_ofW (cc := c_Md_flow) (maxL := 3) (ret := none) (by decide) rfl (Nat.le_of_ble_eq_true rfl) ?_
  intro p e s m below meth c ls hx hb hr hml hts hown hlocks hini h hl
  have hl : lv_has ls 3 [(0, .ref (ad 37))] := hl
  refine lv_iconst (v := nI (0)) hx hb d_Md_flow_0 (by decide) ?_
  refine lv_istore_n (lv' := [(1, .int (nI (0))), (0, .ref (ad 37))]) hx hb d_Md_flow_1 rfl hl (by decide) rfl (fun ls hl => ?_)
  have loop1 : ∀ (d k : Nat), k + d = 16 →  ∀ (ev1 : Nat → va_E) (H : Heap) (locs : List Loc) (ls : Array Slot), ev1 = (va_up ev 40 (eI G 16 (ns (fil 0 k (fun j => F (32 + j)) Z)))) → wT G A 52 ad ev1 s H locs → lv_has ls 3 [(1, .int (nI (k))), (0, .ref (ad 37))] → W p l e ({ frames := 12, cells := 0, slots := 0, locals := 400 }) s m ([.ref (ad 37)] : List Value).toArray below meth c H locs 0 0 (MQ below (wQc G A 52 ad (fun ov ev' => ov = none ∧ ∃ (M2 : Nat → Nat) (f2 g2 : Nat → Int32), ev' = (va_up (va_up (va_up (va_up (va_up ev 39 (eI G 32 (ns (MIXB K X)))) 40 (eI G 16 (ns M2))) 41 (eI G 16 f2)) 42 (eI G 16 g2)) 43 (eI G 128 (ns (STRB K X)))))) ([.ref (ad 37)] : List Value).toArray s 0 0 A) (F0 m 2 ls []) := by
    intro d
    induction d with
    | zero =>
      intro k hk_k  ev1 H locs ls  o1 h hl
      have t1_40 : ev1 40 = eI G 16 (ns (fil 0 k (fun j => F (32 + j)) Z)) := by rw [o1, va_up_self]
      have t1_38 := (show ev1 38 = ev 38 by rw [o1, va_up_ne _ _ (by decide)]).trans h38
      have t1_39 := (show ev1 39 = ev 39 by rw [o1, va_up_ne _ _ (by decide)]).trans h39
      have t1_41 := (show ev1 41 = ev 41 by rw [o1, va_up_ne _ _ (by decide)]).trans h41
      have t1_42 := (show ev1 42 = ev 42 by rw [o1, va_up_ne _ _ (by decide)]).trans h42
      have t1_43 := (show ev1 43 = ev 43 by rw [o1, va_up_ne _ _ (by decide)]).trans h43
      have t1_37 := (show ev1 37 = ev 37 by rw [o1, va_up_ne _ _ (by decide)]).trans h37
      refine lv_iload_n hx hb d_Md_flow_2 rfl (lv_at hl 0 rfl) ?_
      refine lv_bipush (v := nI (16)) hx hb d_Md_flow_3 (by decide) ?_
      refine lv_icmp_ge (tgt := 29) hx hb d_Md_flow_5 (by decide) (fun _ => ?_) (fun hc => absurd ((nI_leI (by omega) (by omega)).mpr (by omega)) hc)
      have h := wT_eqI (g := (ns X)) h 40 (by decide) t1_40 (fun j hj => by unfold ns fil; rw [if_pos (by omega), Nat.sub_zero]; exact congrArg nI (hF j (by omega)))
      obtain ⟨ev2, o2⟩ : ∃ z, z = va_up ev1 40 (eI G 16 (ns X)) := ⟨_, rfl⟩
      rw [← o2] at h
      have t2_40 : ev2 40 = eI G 16 (ns X) := by rw [o2, va_up_self]
      have t2_38 := (show ev2 38 = ev1 38 by rw [o2, va_up_ne _ _ (by decide)]).trans t1_38
      have t2_39 := (show ev2 39 = ev1 39 by rw [o2, va_up_ne _ _ (by decide)]).trans t1_39
      have t2_41 := (show ev2 41 = ev1 41 by rw [o2, va_up_ne _ _ (by decide)]).trans t1_41
      have t2_42 := (show ev2 42 = ev1 42 by rw [o2, va_up_ne _ _ (by decide)]).trans t1_42
      have t2_43 := (show ev2 43 = ev1 43 by rw [o2, va_up_ne _ _ (by decide)]).trans t1_43
      have t2_37 := (show ev2 37 = ev1 37 by rw [o2, va_up_ne _ _ (by decide)]).trans t1_37
      refine lv_aload_n hx hb d_Md_flow_29 rfl (lv_at hl 1 rfl) ?_
      refine wv_V (As := []) (rest := []) (k := 0) ⟨hx, hb, hml, hown, hts⟩ h 37 (by decide) (C := "NonceBoxModel") t2_37 rfl (m_Md_mixKey l G A ad ev2 K X f g tl ol cd t2_37 t2_39 t2_40 t2_41 t2_42) kc_Md_mixKey kl_Md_96 km_Md_mixKey kv_Md_mixKey ki_Md (by decide +kernel) ⟨rfl, rfl, Nat.le_of_ble_eq_true rfl, Nat.le_of_ble_eq_true rfl⟩ hl.1 rfl rfl (Nat.le_of_ble_eq_true rfl) ⟨Nat.le_refl _, Nat.le_refl _⟩ d_Md_flow_30 ?_
      intro ov ev3 H locs hp h
      rw [hp.1]
      refine W.eq (g2 := F0 m 33 ls []) rfl ?_
      have o3 : ev3 = (va_up (va_up (va_up ev2 41 (eI G 16 (LAY K X))) 42 (eI G 16 (RND K X))) 39 (eI G 32 (ns (MIXB K X)))) := hp.2
      have t3_41 : ev3 41 = eI G 16 (LAY K X) := by rw [o3, va_up_ne _ _ (by decide), va_up_ne _ _ (by decide), va_up_self]
      have t3_42 : ev3 42 = eI G 16 (RND K X) := by rw [o3, va_up_ne _ _ (by decide), va_up_self]
      have t3_39 : ev3 39 = eI G 32 (ns (MIXB K X)) := by rw [o3, va_up_self]
      have t3_38 := (show ev3 38 = ev2 38 by rw [o3, va_up_ne _ _ (by decide), va_up_ne _ _ (by decide), va_up_ne _ _ (by decide)]).trans t2_38
      have t3_40 := (show ev3 40 = ev2 40 by rw [o3, va_up_ne _ _ (by decide), va_up_ne _ _ (by decide), va_up_ne _ _ (by decide)]).trans t2_40
      have t3_43 := (show ev3 43 = ev2 43 by rw [o3, va_up_ne _ _ (by decide), va_up_ne _ _ (by decide), va_up_ne _ _ (by decide)]).trans t2_43
      have t3_37 := (show ev3 37 = ev2 37 by rw [o3, va_up_ne _ _ (by decide), va_up_ne _ _ (by decide), va_up_ne _ _ (by decide)]).trans t2_37
      refine lv_iconst (v := nI (0)) hx hb d_Md_flow_33 (by decide) ?_
      refine lv_istore_n (lv' := [(1, .int (nI (0))), (0, .ref (ad 37))]) hx hb d_Md_flow_34 rfl hl (by decide) rfl (fun ls hl => ?_)
      have loop4 : ∀ (d k : Nat), k + d = 2 → ∀ (MM : Nat → Nat) (f2 g2 : Nat → Int32),  ∀ (ev4 : Nat → va_E) (H : Heap) (locs : List Loc) (ls : Array Slot), ev4 = (va_up (va_up (va_up (va_up ev3 40 (eI G 16 (ns MM))) 41 (eI G 16 f2)) 42 (eI G 16 g2)) 43 (eI G 128 (ns (fil 0 (64 * k) (STRB K X) S)))) → wT G A 52 ad ev4 s H locs → lv_has ls 3 [(1, .int (nI (k))), (0, .ref (ad 37))] → W p l e ({ frames := 12, cells := 0, slots := 0, locals := 400 }) s m ([.ref (ad 37)] : List Value).toArray below meth c H locs 0 0 (MQ below (wQc G A 52 ad (fun ov ev' => ov = none ∧ ∃ (M2 : Nat → Nat) (f2 g2 : Nat → Int32), ev' = (va_up (va_up (va_up (va_up (va_up ev 39 (eI G 32 (ns (MIXB K X)))) 40 (eI G 16 (ns M2))) 41 (eI G 16 f2)) 42 (eI G 16 g2)) 43 (eI G 128 (ns (STRB K X)))))) ([.ref (ad 37)] : List Value).toArray s 0 0 A) (F0 m 35 ls []) := by
        intro d
        induction d with
        | zero =>
          intro k hk_k MM f2 g2 ev4 H locs ls  o4 h hl
          have t4_40 : ev4 40 = eI G 16 (ns MM) := by rw [o4, va_up_ne _ _ (by decide), va_up_ne _ _ (by decide), va_up_ne _ _ (by decide), va_up_self]
          have t4_41 : ev4 41 = eI G 16 f2 := by rw [o4, va_up_ne _ _ (by decide), va_up_ne _ _ (by decide), va_up_self]
          have t4_42 : ev4 42 = eI G 16 g2 := by rw [o4, va_up_ne _ _ (by decide), va_up_self]
          have t4_43 : ev4 43 = eI G 128 (ns (fil 0 (64 * k) (STRB K X) S)) := by rw [o4, va_up_self]
          have t4_38 := (show ev4 38 = ev3 38 by rw [o4, va_up_ne _ _ (by decide), va_up_ne _ _ (by decide), va_up_ne _ _ (by decide), va_up_ne _ _ (by decide)]).trans t3_38
          have t4_39 := (show ev4 39 = ev3 39 by rw [o4, va_up_ne _ _ (by decide), va_up_ne _ _ (by decide), va_up_ne _ _ (by decide), va_up_ne _ _ (by decide)]).trans t3_39
          have t4_37 := (show ev4 37 = ev3 37 by rw [o4, va_up_ne _ _ (by decide), va_up_ne _ _ (by decide), va_up_ne _ _ (by decide), va_up_ne _ _ (by decide)]).trans t3_37
          refine lv_iload_n hx hb d_Md_flow_35 rfl (lv_at hl 0 rfl) ?_
          refine lv_iconst (v := nI (2)) hx hb d_Md_flow_36 (by decide) ?_
          refine lv_icmp_ge (tgt := 141) hx hb d_Md_flow_37 (by decide) (fun _ => ?_) (fun hc => absurd ((nI_leI (by omega) (by omega)).mpr (by omega)) hc)
          have h := wT_eqI (g := (ns (STRB K X))) h 43 (by decide) t4_43 (fun j hj => by unfold ns fil; rw [if_pos (by omega), Nat.sub_zero])
          obtain ⟨ev5, o5⟩ : ∃ z, z = va_up ev4 43 (eI G 128 (ns (STRB K X))) := ⟨_, rfl⟩
          rw [← o5] at h
          have t5_43 : ev5 43 = eI G 128 (ns (STRB K X)) := by rw [o5, va_up_self]
          have t5_38 := (show ev5 38 = ev4 38 by rw [o5, va_up_ne _ _ (by decide)]).trans t4_38
          have t5_39 := (show ev5 39 = ev4 39 by rw [o5, va_up_ne _ _ (by decide)]).trans t4_39
          have t5_40 := (show ev5 40 = ev4 40 by rw [o5, va_up_ne _ _ (by decide)]).trans t4_40
          have t5_41 := (show ev5 41 = ev4 41 by rw [o5, va_up_ne _ _ (by decide)]).trans t4_41
          have t5_42 := (show ev5 42 = ev4 42 by rw [o5, va_up_ne _ _ (by decide)]).trans t4_42
          have t5_37 := (show ev5 37 = ev4 37 by rw [o5, va_up_ne _ _ (by decide)]).trans t4_37
          refine wv_vret hx hb hr hlocks h d_Md_flow_141 ⟨rfl, MM, f2, g2, ?_⟩
          funext j
          by_cases c0 : j = 39
          · rw [c0, t5_39, va_up_ne _ _ (by decide), va_up_ne _ _ (by decide), va_up_ne _ _ (by decide), va_up_ne _ _ (by decide), va_up_self]
          by_cases c1 : j = 40
          · rw [c1, t5_40, va_up_ne _ _ (by decide), va_up_ne _ _ (by decide), va_up_ne _ _ (by decide), va_up_self]
          by_cases c2 : j = 41
          · rw [c2, t5_41, va_up_ne _ _ (by decide), va_up_ne _ _ (by decide), va_up_self]
          by_cases c3 : j = 42
          · rw [c3, t5_42, va_up_ne _ _ (by decide), va_up_self]
          by_cases c4 : j = 43
          · rw [c4, t5_43, va_up_self]
          rw [va_up_ne _ _ c4, va_up_ne _ _ c3, va_up_ne _ _ c2, va_up_ne _ _ c1, va_up_ne _ _ c0]
          rw [o5, va_up_ne _ _ c4, o4, va_up_ne _ _ c4, va_up_ne _ _ c3, va_up_ne _ _ c2, va_up_ne _ _ c1, o3, va_up_ne _ _ c0, va_up_ne _ _ c3, va_up_ne _ _ c2, o2, va_up_ne _ _ c1, o1, va_up_ne _ _ c1]
        | succ d ih =>
          intro k hk_k MM f2 g2 ev4 H locs ls  o4 h hl
          have t4_40 : ev4 40 = eI G 16 (ns MM) := by rw [o4, va_up_ne _ _ (by decide), va_up_ne _ _ (by decide), va_up_ne _ _ (by decide), va_up_self]
          have t4_41 : ev4 41 = eI G 16 f2 := by rw [o4, va_up_ne _ _ (by decide), va_up_ne _ _ (by decide), va_up_self]
          have t4_42 : ev4 42 = eI G 16 g2 := by rw [o4, va_up_ne _ _ (by decide), va_up_self]
          have t4_43 : ev4 43 = eI G 128 (ns (fil 0 (64 * k) (STRB K X) S)) := by rw [o4, va_up_self]
          have t4_38 := (show ev4 38 = ev3 38 by rw [o4, va_up_ne _ _ (by decide), va_up_ne _ _ (by decide), va_up_ne _ _ (by decide), va_up_ne _ _ (by decide)]).trans t3_38
          have t4_39 := (show ev4 39 = ev3 39 by rw [o4, va_up_ne _ _ (by decide), va_up_ne _ _ (by decide), va_up_ne _ _ (by decide), va_up_ne _ _ (by decide)]).trans t3_39
          have t4_37 := (show ev4 37 = ev3 37 by rw [o4, va_up_ne _ _ (by decide), va_up_ne _ _ (by decide), va_up_ne _ _ (by decide), va_up_ne _ _ (by decide)]).trans t3_37
          refine lv_iload_n hx hb d_Md_flow_35 rfl (lv_at hl 0 rfl) ?_
          refine lv_iconst (v := nI (2)) hx hb d_Md_flow_36 (by decide) ?_
          refine lv_icmp_ge (tgt := 141) hx hb d_Md_flow_37 (by decide) (fun hc => absurd ((nI_leI (by omega) (by omega)).mp hc) (by omega)) (fun _ => ?_)
          refine lv_iconst (v := nI (0)) hx hb d_Md_flow_40 (by decide) ?_
          refine lv_istore_n (lv' := [(2, .int (nI (0))), (1, .int (nI (k))), (0, .ref (ad 37))]) hx hb d_Md_flow_41 rfl hl (by decide) rfl (fun ls hl => ?_)
          have loop5 : ∀ (d j3 : Nat), j3 + d = 16 →  ∀ (ev5 : Nat → va_E) (H : Heap) (locs : List Loc) (ls : Array Slot), ev5 = (va_up ev4 40 (eI G 16 (ns (fil 0 j3 (PLC X k) MM)))) → wT G A 52 ad ev5 s H locs → lv_has ls 3 [(2, .int (nI (j3))), (1, .int (nI (k))), (0, .ref (ad 37))] → W p l e ({ frames := 12, cells := 0, slots := 0, locals := 400 }) s m ([.ref (ad 37)] : List Value).toArray below meth c H locs 0 0 (MQ below (wQc G A 52 ad (fun ov ev' => ov = none ∧ ∃ (M2 : Nat → Nat) (f2 g2 : Nat → Int32), ev' = (va_up (va_up (va_up (va_up (va_up ev 39 (eI G 32 (ns (MIXB K X)))) 40 (eI G 16 (ns M2))) 41 (eI G 16 f2)) 42 (eI G 16 g2)) 43 (eI G 128 (ns (STRB K X)))))) ([.ref (ad 37)] : List Value).toArray s 0 0 A) (F0 m 42 ls []) := by
            intro d
            induction d with
            | zero =>
              intro j3 hk_j3  ev5 H locs ls  o5 h hl
              have t5_40 : ev5 40 = eI G 16 (ns (fil 0 j3 (PLC X k) MM)) := by rw [o5, va_up_self]
              have t5_38 := (show ev5 38 = ev4 38 by rw [o5, va_up_ne _ _ (by decide)]).trans t4_38
              have t5_39 := (show ev5 39 = ev4 39 by rw [o5, va_up_ne _ _ (by decide)]).trans t4_39
              have t5_41 := (show ev5 41 = ev4 41 by rw [o5, va_up_ne _ _ (by decide)]).trans t4_41
              have t5_42 := (show ev5 42 = ev4 42 by rw [o5, va_up_ne _ _ (by decide)]).trans t4_42
              have t5_43 := (show ev5 43 = ev4 43 by rw [o5, va_up_ne _ _ (by decide)]).trans t4_43
              have t5_37 := (show ev5 37 = ev4 37 by rw [o5, va_up_ne _ _ (by decide)]).trans t4_37
              refine lv_iload_n hx hb d_Md_flow_42 rfl (lv_at hl 0 rfl) ?_
              refine lv_bipush (v := nI (16)) hx hb d_Md_flow_43 (by decide) ?_
              refine lv_icmp_ge (tgt := 89) hx hb d_Md_flow_45 (by decide) (fun _ => ?_) (fun hc => absurd ((nI_leI (by omega) (by omega)).mpr (by omega)) hc)
              have h := wT_eqI (g := (ns (PLC X k))) h 40 (by decide) t5_40 (fun j hj => by unfold ns fil; rw [if_pos (by omega), Nat.sub_zero])
              obtain ⟨ev6, o6⟩ : ∃ z, z = va_up ev5 40 (eI G 16 (ns (PLC X k))) := ⟨_, rfl⟩
              rw [← o6] at h
              have t6_40 : ev6 40 = eI G 16 (ns (PLC X k)) := by rw [o6, va_up_self]
              have t6_38 := (show ev6 38 = ev5 38 by rw [o6, va_up_ne _ _ (by decide)]).trans t5_38
              have t6_39 := (show ev6 39 = ev5 39 by rw [o6, va_up_ne _ _ (by decide)]).trans t5_39
              have t6_41 := (show ev6 41 = ev5 41 by rw [o6, va_up_ne _ _ (by decide)]).trans t5_41
              have t6_42 := (show ev6 42 = ev5 42 by rw [o6, va_up_ne _ _ (by decide)]).trans t5_42
              have t6_43 := (show ev6 43 = ev5 43 by rw [o6, va_up_ne _ _ (by decide)]).trans t5_43
              have t6_37 := (show ev6 37 = ev5 37 by rw [o6, va_up_ne _ _ (by decide)]).trans t5_37
              refine lv_aload_n hx hb d_Md_flow_89 rfl (lv_at hl 2 rfl) ?_
              refine wv_V (As := []) (rest := []) (k := 0) ⟨hx, hb, hml, hown, hts⟩ h 37 (by decide) (C := "NonceBoxModel") t6_37 rfl (m_Md_stir l G A ad ev6 (MIXB K X) (PLC X k) f2 g2 tl ol cd t6_37 t6_39 t6_40 t6_41 t6_42) kc_Md_stir kl_Md_89 km_Md_stir kv_Md_stir ki_Md (by decide +kernel) ⟨rfl, rfl, Nat.le_of_ble_eq_true rfl, Nat.le_of_ble_eq_true rfl⟩ hl.1 rfl rfl (Nat.le_of_ble_eq_true rfl) ⟨Nat.le_refl _, Nat.le_refl _⟩ d_Md_flow_90 ?_
              intro ov ev7 H locs hp h
              rw [hp.1]
              refine W.eq (g2 := F0 m 93 ls []) rfl ?_
              have o7 : ev7 = (va_up (va_up ev6 41 (eI G 16 (LAY (MIXB K X) (PLC X k)))) 42 (eI G 16 (RND (MIXB K X) (PLC X k)))) := hp.2
              have t7_41 : ev7 41 = eI G 16 (LAY (MIXB K X) (PLC X k)) := by rw [o7, va_up_ne _ _ (by decide), va_up_self]
              have t7_42 : ev7 42 = eI G 16 (RND (MIXB K X) (PLC X k)) := by rw [o7, va_up_self]
              have t7_38 := (show ev7 38 = ev6 38 by rw [o7, va_up_ne _ _ (by decide), va_up_ne _ _ (by decide)]).trans t6_38
              have t7_39 := (show ev7 39 = ev6 39 by rw [o7, va_up_ne _ _ (by decide), va_up_ne _ _ (by decide)]).trans t6_39
              have t7_40 := (show ev7 40 = ev6 40 by rw [o7, va_up_ne _ _ (by decide), va_up_ne _ _ (by decide)]).trans t6_40
              have t7_43 := (show ev7 43 = ev6 43 by rw [o7, va_up_ne _ _ (by decide), va_up_ne _ _ (by decide)]).trans t6_43
              have t7_37 := (show ev7 37 = ev6 37 by rw [o7, va_up_ne _ _ (by decide), va_up_ne _ _ (by decide)]).trans t6_37
              refine lv_iconst (v := nI (0)) hx hb d_Md_flow_93 (by decide) ?_
              refine lv_istore_n (lv' := [(2, .int (nI (0))), (1, .int (nI (k))), (0, .ref (ad 37))]) hx hb d_Md_flow_94 rfl hl (by decide) rfl (fun ls hl => ?_)
              have loop8 : ∀ (d j4 : Nat), j4 + d = 16 →  ∀ (ev8 : Nat → va_E) (H : Heap) (locs : List Loc) (ls : Array Slot), ev8 = (va_up ev7 43 (eI G 128 (ns (fil (64 * k) (4 * j4) (COREB (MIXB K X) (PLC X k)) (fil 0 (64 * k) (STRB K X) S))))) → wT G A 52 ad ev8 s H locs → lv_has ls 3 [(2, .int (nI (j4))), (1, .int (nI (k))), (0, .ref (ad 37))] → W p l e ({ frames := 12, cells := 0, slots := 0, locals := 400 }) s m ([.ref (ad 37)] : List Value).toArray below meth c H locs 0 0 (MQ below (wQc G A 52 ad (fun ov ev' => ov = none ∧ ∃ (M2 : Nat → Nat) (f2 g2 : Nat → Int32), ev' = (va_up (va_up (va_up (va_up (va_up ev 39 (eI G 32 (ns (MIXB K X)))) 40 (eI G 16 (ns M2))) 41 (eI G 16 f2)) 42 (eI G 16 g2)) 43 (eI G 128 (ns (STRB K X)))))) ([.ref (ad 37)] : List Value).toArray s 0 0 A) (F0 m 95 ls []) := by
                intro d
                induction d with
                | zero =>
                  intro j4 hk_j4  ev8 H locs ls  o8 h hl
                  have t8_43 : ev8 43 = eI G 128 (ns (fil (64 * k) (4 * j4) (COREB (MIXB K X) (PLC X k)) (fil 0 (64 * k) (STRB K X) S))) := by rw [o8, va_up_self]
                  have t8_38 := (show ev8 38 = ev7 38 by rw [o8, va_up_ne _ _ (by decide)]).trans t7_38
                  have t8_39 := (show ev8 39 = ev7 39 by rw [o8, va_up_ne _ _ (by decide)]).trans t7_39
                  have t8_40 := (show ev8 40 = ev7 40 by rw [o8, va_up_ne _ _ (by decide)]).trans t7_40
                  have t8_41 := (show ev8 41 = ev7 41 by rw [o8, va_up_ne _ _ (by decide)]).trans t7_41
                  have t8_42 := (show ev8 42 = ev7 42 by rw [o8, va_up_ne _ _ (by decide)]).trans t7_42
                  have t8_37 := (show ev8 37 = ev7 37 by rw [o8, va_up_ne _ _ (by decide)]).trans t7_37
                  refine lv_iload_n hx hb d_Md_flow_95 rfl (lv_at hl 0 rfl) ?_
                  refine lv_bipush (v := nI (16)) hx hb d_Md_flow_96 (by decide) ?_
                  refine lv_icmp_ge (tgt := 135) hx hb d_Md_flow_98 (by decide) (fun _ => ?_) (fun hc => absurd ((nI_leI (by omega) (by omega)).mpr (by omega)) hc)
                  refine lv_iinc (v := nI (k + 1)) (lv' := [(1, .int (nI (k + 1))), (2, .int (nI (j4))), (0, .ref (ad 37))]) hx hb d_Md_flow_135 hl (k := 1) rfl (nI_add _ _) (by decide) rfl (fun ls hl => ?_)
                  refine lv_goto (tgt := 35) hx hb d_Md_flow_138 (by decide) ?_
                  have el : fil (64 * k) (4 * j4) (COREB (MIXB K X) (PLC X k)) (fil 0 (64 * k) (STRB K X) S) = fil 0 (64 * (k + 1)) (STRB K X) S := by
                    have := str_s K X S k
                    rw [Nat.zero_add] at this
                    rw [show 4 * j4 = 64 by omega]
                    exact this
                  refine ih (k + 1) (by omega) (PLC X k) (LAY (MIXB K X) (PLC X k)) (RND (MIXB K X) (PLC X k)) ev8 H locs ls ?_ h (lv_sub hl [0, 2] rfl)
                  rw [← el]
                  rw [o8, o7, o6, o5, o4]
                  funext j
                  by_cases c0 : j = 40
                  · subst c0; simp [va_up]
                  by_cases c1 : j = 41
                  · subst c1; simp [va_up]
                  by_cases c2 : j = 42
                  · subst c2; simp [va_up]
                  by_cases c3 : j = 43
                  · subst c3; simp [va_up]
                  simp only [va_up, c0, c1, c2, c3, if_false]
                | succ d ih4 =>
                  intro j4 hk_j4  ev8 H locs ls  o8 h hl
                  have t8_43 : ev8 43 = eI G 128 (ns (fil (64 * k) (4 * j4) (COREB (MIXB K X) (PLC X k)) (fil 0 (64 * k) (STRB K X) S))) := by rw [o8, va_up_self]
                  have t8_38 := (show ev8 38 = ev7 38 by rw [o8, va_up_ne _ _ (by decide)]).trans t7_38
                  have t8_39 := (show ev8 39 = ev7 39 by rw [o8, va_up_ne _ _ (by decide)]).trans t7_39
                  have t8_40 := (show ev8 40 = ev7 40 by rw [o8, va_up_ne _ _ (by decide)]).trans t7_40
                  have t8_41 := (show ev8 41 = ev7 41 by rw [o8, va_up_ne _ _ (by decide)]).trans t7_41
                  have t8_42 := (show ev8 42 = ev7 42 by rw [o8, va_up_ne _ _ (by decide)]).trans t7_42
                  have t8_37 := (show ev8 37 = ev7 37 by rw [o8, va_up_ne _ _ (by decide)]).trans t7_37
                  refine lv_iload_n hx hb d_Md_flow_95 rfl (lv_at hl 0 rfl) ?_
                  refine lv_bipush (v := nI (16)) hx hb d_Md_flow_96 (by decide) ?_
                  refine lv_icmp_ge (tgt := 135) hx hb d_Md_flow_98 (by decide) (fun hc => absurd ((nI_leI (by omega) (by omega)).mp hc) (by omega)) (fun _ => ?_)
                  refine lv_aload_n hx hb d_Md_flow_101 rfl (lv_at hl 2 rfl) ?_
                  refine wv_getf hx hb h 37 (by decide) (fs := [.ref (ad 38), .int (nI (tl)), .int (nI (ol)), .int (nI (cd)), .ref (ad 39), .ref (ad 40), .ref (ad 41), .ref (ad 42), .ref (ad 43), .ref (ad 44), .ref (ad 45), .ref (ad 46), .ref (ad 47), .ref (ad 48), .ref (ad 49), .ref (ad 50)]) t8_37 hts (fun w hw => List.mem_cons_of_mem _ (fW_Md w hw)) hown (ci := 5) (C := "NonceBoxModel") (T := fT_Md) (N := 16) rfl 8 (by decide) (hts _ (List.mem_cons_of_mem _ kf_Md_25)) rfl (v := .ref (ad 43)) rfl d_Md_flow_102 ?_
                  refine lv_bipush (v := nI (64)) hx hb d_Md_flow_105 (by decide) ?_
                  refine lv_iload_n hx hb d_Md_flow_107 rfl (lv_at hl 1 rfl) ?_
                  refine lv_imul hx hb d_Md_flow_108 ?_
                  refine wv_top (w := nI (64 * k)) (pk_mul _ _) ?_
                  refine lv_iconst (v := nI (4)) hx hb d_Md_flow_109 (by decide) ?_
                  refine lv_iload_n hx hb d_Md_flow_110 rfl (lv_at hl 0 rfl) ?_
                  refine lv_imul hx hb d_Md_flow_111 ?_
                  refine wv_top (w := nI (4 * j4)) (pk_mul _ _) ?_
                  refine lv_iadd hx hb d_Md_flow_112 ?_
                  refine wv_top (w := nI ((64 * k) + (4 * j4))) (nI_add _ _) ?_
                  refine lv_aload_n hx hb d_Md_flow_113 rfl (lv_at hl 2 rfl) ?_
                  refine wv_getf hx hb h 37 (by decide) (fs := [.ref (ad 38), .int (nI (tl)), .int (nI (ol)), .int (nI (cd)), .ref (ad 39), .ref (ad 40), .ref (ad 41), .ref (ad 42), .ref (ad 43), .ref (ad 44), .ref (ad 45), .ref (ad 46), .ref (ad 47), .ref (ad 48), .ref (ad 49), .ref (ad 50)]) t8_37 hts (fun w hw => List.mem_cons_of_mem _ (fW_Md w hw)) hown (ci := 5) (C := "NonceBoxModel") (T := fT_Md) (N := 16) rfl 7 (by decide) (hts _ (List.mem_cons_of_mem _ kf_Md_22)) rfl (v := .ref (ad 42)) rfl d_Md_flow_114 ?_
                  refine lv_iload_n hx hb d_Md_flow_117 rfl (lv_at hl 0 rfl) ?_
                  refine wv_iald hx hb h 42 (by decide) (f := (RND (MIXB K X) (PLC X k))) t8_42 (k := j4) rfl (by omega) (by decide) d_Md_flow_118 ?_
                  refine lv_aload_n hx hb d_Md_flow_119 rfl (lv_at hl 2 rfl) ?_
                  refine wv_getf hx hb h 37 (by decide) (fs := [.ref (ad 38), .int (nI (tl)), .int (nI (ol)), .int (nI (cd)), .ref (ad 39), .ref (ad 40), .ref (ad 41), .ref (ad 42), .ref (ad 43), .ref (ad 44), .ref (ad 45), .ref (ad 46), .ref (ad 47), .ref (ad 48), .ref (ad 49), .ref (ad 50)]) t8_37 hts (fun w hw => List.mem_cons_of_mem _ (fW_Md w hw)) hown (ci := 5) (C := "NonceBoxModel") (T := fT_Md) (N := 16) rfl 6 (by decide) (hts _ (List.mem_cons_of_mem _ kf_Md_19)) rfl (v := .ref (ad 41)) rfl d_Md_flow_120 ?_
                  refine lv_iload_n hx hb d_Md_flow_123 rfl (lv_at hl 0 rfl) ?_
                  refine wv_iald hx hb h 41 (by decide) (f := (LAY (MIXB K X) (PLC X k))) t8_41 (k := j4) rfl (by omega) (by decide) d_Md_flow_124 ?_
                  refine lv_iadd hx hb d_Md_flow_125 ?_
                  refine wv_Sx (As := [.ref (ad 43), .int (nI ((64 * k) + (4 * j4))), .int ((((RND (MIXB K X) (PLC X k))) j4) + (((LAY (MIXB K X) (PLC X k))) j4))]) (rest := []) (k := 3) ⟨hx, hb, hml, hown, hts⟩ h (m_Md_setWord l G A ad ev8 (RND (MIXB K X) (PLC X k) j4 + LAY (MIXB K X) (PLC X k) j4) 43 128 (64 * k + 4 * j4) (fil (64 * k) (4 * j4) (COREB (MIXB K X) (PLC X k)) (fil 0 (64 * k) (STRB K X) S)) (by decide) t8_43 (by omega) (by decide)) kc_Md_setWord kl_Md_92 ks_Md_setWord ki_Md (by decide +kernel) ⟨rfl, rfl, Nat.le_of_ble_eq_true rfl, Nat.le_of_ble_eq_true rfl⟩ hl.1 rfl rfl (Nat.le_of_ble_eq_true rfl) ⟨Nat.le_refl _, Nat.le_refl _⟩ d_Md_flow_126 ?_
                  intro ov ev9 H locs hp h
                  rw [hp.1]
                  refine W.eq (g2 := F0 m 129 ls []) rfl ?_
                  have o9 : ev9 = (va_up ev8 43 (eI G 128 (ns (fil (64 * k + 4 * j4) 4 (byN (RND (MIXB K X) (PLC X k) j4 + LAY (MIXB K X) (PLC X k) j4)) (fil (64 * k) (4 * j4) (COREB (MIXB K X) (PLC X k)) (fil 0 (64 * k) (STRB K X) S)))))) := hp.2
                  have t9_43 : ev9 43 = eI G 128 (ns (fil (64 * k + 4 * j4) 4 (byN (RND (MIXB K X) (PLC X k) j4 + LAY (MIXB K X) (PLC X k) j4)) (fil (64 * k) (4 * j4) (COREB (MIXB K X) (PLC X k)) (fil 0 (64 * k) (STRB K X) S)))) := by rw [o9, va_up_self]
                  have t9_38 := (show ev9 38 = ev8 38 by rw [o9, va_up_ne _ _ (by decide)]).trans t8_38
                  have t9_39 := (show ev9 39 = ev8 39 by rw [o9, va_up_ne _ _ (by decide)]).trans t8_39
                  have t9_40 := (show ev9 40 = ev8 40 by rw [o9, va_up_ne _ _ (by decide)]).trans t8_40
                  have t9_41 := (show ev9 41 = ev8 41 by rw [o9, va_up_ne _ _ (by decide)]).trans t8_41
                  have t9_42 := (show ev9 42 = ev8 42 by rw [o9, va_up_ne _ _ (by decide)]).trans t8_42
                  have t9_37 := (show ev9 37 = ev8 37 by rw [o9, va_up_ne _ _ (by decide)]).trans t8_37
                  refine lv_iinc (v := nI (j4 + 1)) (lv' := [(2, .int (nI (j4 + 1))), (1, .int (nI (k))), (0, .ref (ad 37))]) hx hb d_Md_flow_129 hl (k := 0) rfl (nI_add _ _) (by decide) rfl (fun ls hl => ?_)
                  refine lv_goto (tgt := 95) hx hb d_Md_flow_132 (by decide) ?_
                  refine ih4 (j4 + 1) (by omega) ev9 H locs ls ?_ h (lv_sub hl [0, 1, 2] rfl)
                  rw [o9, o8, va_up2, core_s]
              exact loop8 16 0 rfl ev7 H locs ls (by rw [Nat.mul_zero, fil_0, va_upi _ _ t7_43]) h (lv_sub hl [0, 1, 2] rfl)
            | succ d ih3 =>
              intro j3 hk_j3  ev5 H locs ls  o5 h hl
              have t5_40 : ev5 40 = eI G 16 (ns (fil 0 j3 (PLC X k) MM)) := by rw [o5, va_up_self]
              have t5_38 := (show ev5 38 = ev4 38 by rw [o5, va_up_ne _ _ (by decide)]).trans t4_38
              have t5_39 := (show ev5 39 = ev4 39 by rw [o5, va_up_ne _ _ (by decide)]).trans t4_39
              have t5_41 := (show ev5 41 = ev4 41 by rw [o5, va_up_ne _ _ (by decide)]).trans t4_41
              have t5_42 := (show ev5 42 = ev4 42 by rw [o5, va_up_ne _ _ (by decide)]).trans t4_42
              have t5_43 := (show ev5 43 = ev4 43 by rw [o5, va_up_ne _ _ (by decide)]).trans t4_43
              have t5_37 := (show ev5 37 = ev4 37 by rw [o5, va_up_ne _ _ (by decide)]).trans t4_37
              refine lv_iload_n hx hb d_Md_flow_42 rfl (lv_at hl 0 rfl) ?_
              refine lv_bipush (v := nI (16)) hx hb d_Md_flow_43 (by decide) ?_
              refine lv_icmp_ge (tgt := 89) hx hb d_Md_flow_45 (by decide) (fun hc => absurd ((nI_leI (by omega) (by omega)).mp hc) (by omega)) (fun _ => ?_)
              refine lv_aload_n hx hb d_Md_flow_48 rfl (lv_at hl 2 rfl) ?_
              refine wv_getf hx hb h 37 (by decide) (fs := [.ref (ad 38), .int (nI (tl)), .int (nI (ol)), .int (nI (cd)), .ref (ad 39), .ref (ad 40), .ref (ad 41), .ref (ad 42), .ref (ad 43), .ref (ad 44), .ref (ad 45), .ref (ad 46), .ref (ad 47), .ref (ad 48), .ref (ad 49), .ref (ad 50)]) t5_37 hts (fun w hw => List.mem_cons_of_mem _ (fW_Md w hw)) hown (ci := 5) (C := "NonceBoxModel") (T := fT_Md) (N := 16) rfl 5 (by decide) (hts _ (List.mem_cons_of_mem _ kf_Md_16)) rfl (v := .ref (ad 40)) rfl d_Md_flow_49 ?_
              refine lv_iload_n hx hb d_Md_flow_52 rfl (lv_at hl 0 rfl) ?_
              refine lv_iload_n hx hb d_Md_flow_53 rfl (lv_at hl 0 rfl) ?_
              refine lv_bipush (v := nI (8)) hx hb d_Md_flow_54 (by decide) ?_
              refine lv_icmp_ge (tgt := 71) hx hb d_Md_flow_56 (by decide) (fun hc => ?_) (fun hc => ?_)
              · have hc := (nI_leI (by omega) (by omega)).mp hc
                refine lv_iload_n hx hb d_Md_flow_71 rfl (lv_at hl 0 rfl) ?_
                refine lv_bipush (v := nI (8)) hx hb d_Md_flow_72 (by decide) ?_
                refine lv_icmp_ne (tgt := 81) hx hb d_Md_flow_74 (by decide) (fun hc2 => ?_) (fun hc2 => ?_)
                · have hc2 : j3 ≠ 8 := fun q => hc2 (by rw [q])
                  refine lv_iconst (v := nI (0)) hx hb d_Md_flow_81 (by decide) ?_
                  refine wv_iast hx hb h 40 (by decide) (f := (ns (fil 0 j3 (PLC X k) MM))) t5_40 (k := j3) rfl (by omega) (by decide) d_Md_flow_82 (fun H locs h => ?_)
                  obtain ⟨ev6, o6⟩ : ∃ z, z = va_up ev5 40 (eI G 16 (va_up ((ns (fil 0 j3 (PLC X k) MM))) j3 (nI (0)))) := ⟨_, rfl⟩
                  rw [← o6] at h
                  have t6_40 : ev6 40 = eI G 16 (va_up ((ns (fil 0 j3 (PLC X k) MM))) j3 (nI (0))) := by rw [o6, va_up_self]
                  have t6_38 := (show ev6 38 = ev5 38 by rw [o6, va_up_ne _ _ (by decide)]).trans t5_38
                  have t6_39 := (show ev6 39 = ev5 39 by rw [o6, va_up_ne _ _ (by decide)]).trans t5_39
                  have t6_41 := (show ev6 41 = ev5 41 by rw [o6, va_up_ne _ _ (by decide)]).trans t5_41
                  have t6_42 := (show ev6 42 = ev5 42 by rw [o6, va_up_ne _ _ (by decide)]).trans t5_42
                  have t6_43 := (show ev6 43 = ev5 43 by rw [o6, va_up_ne _ _ (by decide)]).trans t5_43
                  have t6_37 := (show ev6 37 = ev5 37 by rw [o6, va_up_ne _ _ (by decide)]).trans t5_37
                  refine lv_iinc (v := nI (j3 + 1)) (lv' := [(2, .int (nI (j3 + 1))), (1, .int (nI (k))), (0, .ref (ad 37))]) hx hb d_Md_flow_83 hl (k := 0) rfl (nI_add _ _) (by decide) rfl (fun ls hl => ?_)
                  refine lv_goto (tgt := 42) hx hb d_Md_flow_86 (by decide) ?_
                  refine ih3 (j3 + 1) (by omega) ev6 H locs ls ?_ h (lv_sub hl [0, 1, 2] rfl)
                  rw [o6, o5, va_up2, ns_up _ _ ((PLC X k) j3) (by unfold PLC; rw [if_neg (by omega), if_neg hc2]), ← fil_s 0 j3 (PLC X k) MM rfl, Nat.zero_add]
                · have hc2 := (nI_eq (by omega) (by omega)).mp hc2
                  refine lv_iload_n hx hb d_Md_flow_77 rfl (lv_at hl 1 rfl) ?_
                  refine lv_goto (tgt := 82) hx hb d_Md_flow_78 (by decide) ?_
                  refine wv_iast hx hb h 40 (by decide) (f := (ns (fil 0 j3 (PLC X k) MM))) t5_40 (k := j3) rfl (by omega) (by decide) d_Md_flow_82 (fun H locs h => ?_)
                  obtain ⟨ev6, o6⟩ : ∃ z, z = va_up ev5 40 (eI G 16 (va_up ((ns (fil 0 j3 (PLC X k) MM))) j3 (nI (k)))) := ⟨_, rfl⟩
                  rw [← o6] at h
                  have t6_40 : ev6 40 = eI G 16 (va_up ((ns (fil 0 j3 (PLC X k) MM))) j3 (nI (k))) := by rw [o6, va_up_self]
                  have t6_38 := (show ev6 38 = ev5 38 by rw [o6, va_up_ne _ _ (by decide)]).trans t5_38
                  have t6_39 := (show ev6 39 = ev5 39 by rw [o6, va_up_ne _ _ (by decide)]).trans t5_39
                  have t6_41 := (show ev6 41 = ev5 41 by rw [o6, va_up_ne _ _ (by decide)]).trans t5_41
                  have t6_42 := (show ev6 42 = ev5 42 by rw [o6, va_up_ne _ _ (by decide)]).trans t5_42
                  have t6_43 := (show ev6 43 = ev5 43 by rw [o6, va_up_ne _ _ (by decide)]).trans t5_43
                  have t6_37 := (show ev6 37 = ev5 37 by rw [o6, va_up_ne _ _ (by decide)]).trans t5_37
                  refine lv_iinc (v := nI (j3 + 1)) (lv' := [(2, .int (nI (j3 + 1))), (1, .int (nI (k))), (0, .ref (ad 37))]) hx hb d_Md_flow_83 hl (k := 0) rfl (nI_add _ _) (by decide) rfl (fun ls hl => ?_)
                  refine lv_goto (tgt := 42) hx hb d_Md_flow_86 (by decide) ?_
                  refine ih3 (j3 + 1) (by omega) ev6 H locs ls ?_ h (lv_sub hl [0, 1, 2] rfl)
                  rw [o6, o5, va_up2, ns_up _ _ ((PLC X k) j3) (by unfold PLC; rw [if_neg (by omega), if_pos hc2]), ← fil_s 0 j3 (PLC X k) MM rfl, Nat.zero_add]
              · have hc := Nat.lt_of_not_le (fun q => hc ((nI_leI (by omega) (by omega)).mpr q))
                refine lv_aload_n hx hb d_Md_flow_59 rfl (lv_at hl 2 rfl) ?_
                refine wv_getf hx hb h 37 (by decide) (fs := [.ref (ad 38), .int (nI (tl)), .int (nI (ol)), .int (nI (cd)), .ref (ad 39), .ref (ad 40), .ref (ad 41), .ref (ad 42), .ref (ad 43), .ref (ad 44), .ref (ad 45), .ref (ad 46), .ref (ad 47), .ref (ad 48), .ref (ad 49), .ref (ad 50)]) t5_37 hts (fun w hw => List.mem_cons_of_mem _ (fW_Md w hw)) hown (ci := 5) (C := "NonceBoxModel") (T := fT_Md) (N := 16) rfl 0 (by decide) (hts _ (List.mem_cons_of_mem _ kf_Md_7)) rfl (v := .ref (ad 38)) rfl d_Md_flow_60 ?_
                refine lv_bipush (v := nI (48)) hx hb d_Md_flow_63 (by decide) ?_
                refine lv_iload_n hx hb d_Md_flow_65 rfl (lv_at hl 0 rfl) ?_
                refine lv_iadd hx hb d_Md_flow_66 ?_
                refine wv_top (w := nI (48 + j3)) (nI_add _ _) ?_
                refine wv_iald hx hb h 38 (by decide) (f := (ns F)) t5_38 (k := 48 + j3) rfl (by omega) (by decide) d_Md_flow_67 ?_
                refine lv_goto (tgt := 82) hx hb d_Md_flow_68 (by decide) ?_
                refine wv_iast hx hb h 40 (by decide) (f := (ns (fil 0 j3 (PLC X k) MM))) t5_40 (k := j3) rfl (by omega) (by decide) d_Md_flow_82 (fun H locs h => ?_)
                obtain ⟨ev6, o6⟩ : ∃ z, z = va_up ev5 40 (eI G 16 (va_up ((ns (fil 0 j3 (PLC X k) MM))) j3 (((ns F)) (48 + j3)))) := ⟨_, rfl⟩
                rw [← o6] at h
                have t6_40 : ev6 40 = eI G 16 (va_up ((ns (fil 0 j3 (PLC X k) MM))) j3 (((ns F)) (48 + j3))) := by rw [o6, va_up_self]
                have t6_38 := (show ev6 38 = ev5 38 by rw [o6, va_up_ne _ _ (by decide)]).trans t5_38
                have t6_39 := (show ev6 39 = ev5 39 by rw [o6, va_up_ne _ _ (by decide)]).trans t5_39
                have t6_41 := (show ev6 41 = ev5 41 by rw [o6, va_up_ne _ _ (by decide)]).trans t5_41
                have t6_42 := (show ev6 42 = ev5 42 by rw [o6, va_up_ne _ _ (by decide)]).trans t5_42
                have t6_43 := (show ev6 43 = ev5 43 by rw [o6, va_up_ne _ _ (by decide)]).trans t5_43
                have t6_37 := (show ev6 37 = ev5 37 by rw [o6, va_up_ne _ _ (by decide)]).trans t5_37
                refine lv_iinc (v := nI (j3 + 1)) (lv' := [(2, .int (nI (j3 + 1))), (1, .int (nI (k))), (0, .ref (ad 37))]) hx hb d_Md_flow_83 hl (k := 0) rfl (nI_add _ _) (by decide) rfl (fun ls hl => ?_)
                refine lv_goto (tgt := 42) hx hb d_Md_flow_86 (by decide) ?_
                refine ih3 (j3 + 1) (by omega) ev6 H locs ls ?_ h (lv_sub hl [0, 1, 2] rfl)
                rw [o6, o5, va_up2, ns_up _ _ ((PLC X k) j3) (by unfold PLC ns; rw [if_pos hc, ← hF _ (by omega), show 32 + (16 + j3) = 48 + j3 by omega]), ← fil_s 0 j3 (PLC X k) MM rfl, Nat.zero_add]
          exact loop5 16 0 rfl ev4 H locs ls (by rw [fil_0, va_upi _ _ t4_40]) h (lv_sub hl [0, 1, 2] rfl)
      exact loop4 2 0 rfl X _ _ ev3 H locs ls (by rw [Nat.mul_zero, fil_0, va_upi _ 40 t3_40, va_upi _ 41 t3_41, va_upi _ 42 t3_42, va_upi _ 43 t3_43]) h (lv_sub hl [0, 1] rfl)
    | succ d ih =>
      intro k hk_k  ev1 H locs ls  o1 h hl
      have t1_40 : ev1 40 = eI G 16 (ns (fil 0 k (fun j => F (32 + j)) Z)) := by rw [o1, va_up_self]
      have t1_38 := (show ev1 38 = ev 38 by rw [o1, va_up_ne _ _ (by decide)]).trans h38
      have t1_39 := (show ev1 39 = ev 39 by rw [o1, va_up_ne _ _ (by decide)]).trans h39
      have t1_41 := (show ev1 41 = ev 41 by rw [o1, va_up_ne _ _ (by decide)]).trans h41
      have t1_42 := (show ev1 42 = ev 42 by rw [o1, va_up_ne _ _ (by decide)]).trans h42
      have t1_43 := (show ev1 43 = ev 43 by rw [o1, va_up_ne _ _ (by decide)]).trans h43
      have t1_37 := (show ev1 37 = ev 37 by rw [o1, va_up_ne _ _ (by decide)]).trans h37
      refine lv_iload_n hx hb d_Md_flow_2 rfl (lv_at hl 0 rfl) ?_
      refine lv_bipush (v := nI (16)) hx hb d_Md_flow_3 (by decide) ?_
      refine lv_icmp_ge (tgt := 29) hx hb d_Md_flow_5 (by decide) (fun hc => absurd ((nI_leI (by omega) (by omega)).mp hc) (by omega)) (fun _ => ?_)
      refine lv_aload_n hx hb d_Md_flow_8 rfl (lv_at hl 1 rfl) ?_
      refine wv_getf hx hb h 37 (by decide) (fs := [.ref (ad 38), .int (nI (tl)), .int (nI (ol)), .int (nI (cd)), .ref (ad 39), .ref (ad 40), .ref (ad 41), .ref (ad 42), .ref (ad 43), .ref (ad 44), .ref (ad 45), .ref (ad 46), .ref (ad 47), .ref (ad 48), .ref (ad 49), .ref (ad 50)]) t1_37 hts (fun w hw => List.mem_cons_of_mem _ (fW_Md w hw)) hown (ci := 5) (C := "NonceBoxModel") (T := fT_Md) (N := 16) rfl 5 (by decide) (hts _ (List.mem_cons_of_mem _ kf_Md_16)) rfl (v := .ref (ad 40)) rfl d_Md_flow_9 ?_
      refine lv_iload_n hx hb d_Md_flow_12 rfl (lv_at hl 0 rfl) ?_
      refine lv_aload_n hx hb d_Md_flow_13 rfl (lv_at hl 1 rfl) ?_
      refine wv_getf hx hb h 37 (by decide) (fs := [.ref (ad 38), .int (nI (tl)), .int (nI (ol)), .int (nI (cd)), .ref (ad 39), .ref (ad 40), .ref (ad 41), .ref (ad 42), .ref (ad 43), .ref (ad 44), .ref (ad 45), .ref (ad 46), .ref (ad 47), .ref (ad 48), .ref (ad 49), .ref (ad 50)]) t1_37 hts (fun w hw => List.mem_cons_of_mem _ (fW_Md w hw)) hown (ci := 5) (C := "NonceBoxModel") (T := fT_Md) (N := 16) rfl 0 (by decide) (hts _ (List.mem_cons_of_mem _ kf_Md_7)) rfl (v := .ref (ad 38)) rfl d_Md_flow_14 ?_
      refine lv_bipush (v := nI (32)) hx hb d_Md_flow_17 (by decide) ?_
      refine lv_iload_n hx hb d_Md_flow_19 rfl (lv_at hl 0 rfl) ?_
      refine lv_iadd hx hb d_Md_flow_20 ?_
      refine wv_top (w := nI (32 + k)) (nI_add _ _) ?_
      refine wv_iald hx hb h 38 (by decide) (f := (ns F)) t1_38 (k := 32 + k) rfl (by omega) (by decide) d_Md_flow_21 ?_
      refine wv_iast hx hb h 40 (by decide) (f := (ns (fil 0 k (fun j => F (32 + j)) Z))) t1_40 (k := k) rfl (by omega) (by decide) d_Md_flow_22 (fun H locs h => ?_)
      obtain ⟨ev2, o2⟩ : ∃ z, z = va_up ev1 40 (eI G 16 (va_up ((ns (fil 0 k (fun j => F (32 + j)) Z))) k (((ns F)) (32 + k)))) := ⟨_, rfl⟩
      rw [← o2] at h
      have t2_40 : ev2 40 = eI G 16 (va_up ((ns (fil 0 k (fun j => F (32 + j)) Z))) k (((ns F)) (32 + k))) := by rw [o2, va_up_self]
      have t2_38 := (show ev2 38 = ev1 38 by rw [o2, va_up_ne _ _ (by decide)]).trans t1_38
      have t2_39 := (show ev2 39 = ev1 39 by rw [o2, va_up_ne _ _ (by decide)]).trans t1_39
      have t2_41 := (show ev2 41 = ev1 41 by rw [o2, va_up_ne _ _ (by decide)]).trans t1_41
      have t2_42 := (show ev2 42 = ev1 42 by rw [o2, va_up_ne _ _ (by decide)]).trans t1_42
      have t2_43 := (show ev2 43 = ev1 43 by rw [o2, va_up_ne _ _ (by decide)]).trans t1_43
      have t2_37 := (show ev2 37 = ev1 37 by rw [o2, va_up_ne _ _ (by decide)]).trans t1_37
      rw [ns_up _ _ (F (32 + k)) (x := ns F (32 + k)) rfl] at o2
      refine lv_iinc (v := nI (k + 1)) (lv' := [(1, .int (nI (k + 1))), (0, .ref (ad 37))]) hx hb d_Md_flow_23 hl (k := 0) rfl (nI_add _ _) (by decide) rfl (fun ls hl => ?_)
      refine lv_goto (tgt := 2) hx hb d_Md_flow_26 (by decide) ?_
      refine ih (k + 1) (by omega) ev2 H locs ls ?_ h (lv_sub hl [0, 1] rfl)
      rw [o2, o1, va_up2, ← fil_s 0 k (fun j => F (32 + j)) Z rfl, Nat.zero_add]
  exact loop1 16 0 rfl ev s.heap [] ls (by rw [fil_0, va_upi _ _ h40]) h (lv_sub hl [0, 1] rfl)
