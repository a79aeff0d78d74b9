theorem d_Md_carry_0 : decode c_Md_carry 0 = .ok (.iconst 0, 1) := by decide +kernel
theorem d_Md_carry_1 : decode c_Md_carry 1 = .ok (.istore_n 2, 1) := by decide +kernel
theorem d_Md_carry_2 : decode c_Md_carry 2 = .ok (.iload_n 2, 1) := by decide +kernel
theorem d_Md_carry_3 : decode c_Md_carry 3 = .ok (.iconst 3, 1) := by decide +kernel
theorem d_Md_carry_4 : decode c_Md_carry 4 = .ok (.if_icmp .ge 89, 3) := by decide +kernel
theorem d_Md_carry_7 : decode c_Md_carry 7 = .ok (.lconst 0, 1) := by decide +kernel
theorem d_Md_carry_8 : decode c_Md_carry 8 = .ok (.lstore_n 3, 1) := by decide +kernel
theorem d_Md_carry_9 : decode c_Md_carry 9 = .ok (.bipush 10, 2) := by decide +kernel
theorem d_Md_carry_11 : decode c_Md_carry 11 = .ok (.iload_n 1, 1) := by decide +kernel
theorem d_Md_carry_12 : decode c_Md_carry 12 = .ok (.imul, 1) := by decide +kernel
theorem d_Md_carry_13 : decode c_Md_carry 13 = .ok (.istore 5, 2) := by decide +kernel
theorem d_Md_carry_15 : decode c_Md_carry 15 = .ok (.iload 5, 2) := by decide +kernel
theorem d_Md_carry_17 : decode c_Md_carry 17 = .ok (.bipush 10, 2) := by decide +kernel
theorem d_Md_carry_19 : decode c_Md_carry 19 = .ok (.iload_n 1, 1) := by decide +kernel
theorem d_Md_carry_20 : decode c_Md_carry 20 = .ok (.imul, 1) := by decide +kernel
theorem d_Md_carry_21 : decode c_Md_carry 21 = .ok (.bipush 10, 2) := by decide +kernel
theorem d_Md_carry_23 : decode c_Md_carry 23 = .ok (.iadd, 1) := by decide +kernel
theorem d_Md_carry_24 : decode c_Md_carry 24 = .ok (.if_icmp .ge 39, 3) := by decide +kernel
theorem d_Md_carry_27 : decode c_Md_carry 27 = .ok (.aload_n 0, 1) := by decide +kernel
theorem d_Md_carry_28 : decode c_Md_carry 28 = .ok (.getfield 28, 3) := by decide +kernel
theorem d_Md_carry_31 : decode c_Md_carry 31 = .ok (.iload 5, 2) := by decide +kernel
theorem d_Md_carry_33 : decode c_Md_carry 33 = .ok (.laload, 1) := by decide +kernel
theorem d_Md_carry_34 : decode c_Md_carry 34 = .ok (.lload_n 3, 1) := by decide +kernel
theorem d_Md_carry_35 : decode c_Md_carry 35 = .ok (.ladd, 1) := by decide +kernel
theorem d_Md_carry_36 : decode c_Md_carry 36 = .ok (.lstore 6, 2) := by decide +kernel
theorem d_Md_carry_38 : decode c_Md_carry 38 = .ok (.aload_n 0, 1) := by decide +kernel
theorem d_Md_carry_39 : decode c_Md_carry 39 = .ok (.getfield 28, 3) := by decide +kernel
theorem d_Md_carry_42 : decode c_Md_carry 42 = .ok (.iload 5, 2) := by decide +kernel
theorem d_Md_carry_44 : decode c_Md_carry 44 = .ok (.lload 6, 2) := by decide +kernel
theorem d_Md_carry_46 : decode c_Md_carry 46 = .ok (.ldc2_w 113, 3) := by decide +kernel
theorem d_Md_carry_49 : decode c_Md_carry 49 = .ok (.land, 1) := by decide +kernel
theorem d_Md_carry_50 : decode c_Md_carry 50 = .ok (.lastore, 1) := by decide +kernel
theorem d_Md_carry_51 : decode c_Md_carry 51 = .ok (.lload 6, 2) := by decide +kernel
theorem d_Md_carry_53 : decode c_Md_carry 53 = .ok (.bipush 26, 2) := by decide +kernel
theorem d_Md_carry_55 : decode c_Md_carry 55 = .ok (.lshr, 1) := by decide +kernel
theorem d_Md_carry_56 : decode c_Md_carry 56 = .ok (.lstore_n 3, 1) := by decide +kernel
theorem d_Md_carry_57 : decode c_Md_carry 57 = .ok (.iinc 5 1, 3) := by decide +kernel
theorem d_Md_carry_60 : decode c_Md_carry 60 = .ok (.goto (-45), 3) := by decide +kernel
theorem d_Md_carry_63 : decode c_Md_carry 63 = .ok (.aload_n 0, 1) := by decide +kernel
theorem d_Md_carry_64 : decode c_Md_carry 64 = .ok (.getfield 28, 3) := by decide +kernel
theorem d_Md_carry_67 : decode c_Md_carry 67 = .ok (.bipush 10, 2) := by decide +kernel
theorem d_Md_carry_69 : decode c_Md_carry 69 = .ok (.iload_n 1, 1) := by decide +kernel
theorem d_Md_carry_70 : decode c_Md_carry 70 = .ok (.imul, 1) := by decide +kernel
theorem d_Md_carry_71 : decode c_Md_carry 71 = .ok (.aload_n 0, 1) := by decide +kernel
theorem d_Md_carry_72 : decode c_Md_carry 72 = .ok (.getfield 28, 3) := by decide +kernel
theorem d_Md_carry_75 : decode c_Md_carry 75 = .ok (.bipush 10, 2) := by decide +kernel
theorem d_Md_carry_77 : decode c_Md_carry 77 = .ok (.iload_n 1, 1) := by decide +kernel
theorem d_Md_carry_78 : decode c_Md_carry 78 = .ok (.imul, 1) := by decide +kernel
theorem d_Md_carry_79 : decode c_Md_carry 79 = .ok (.laload, 1) := by decide +kernel
theorem d_Md_carry_80 : decode c_Md_carry 80 = .ok (.ldc2_w 136, 3) := by decide +kernel
theorem d_Md_carry_83 : decode c_Md_carry 83 = .ok (.lload_n 3, 1) := by decide +kernel
theorem d_Md_carry_84 : decode c_Md_carry 84 = .ok (.lmul, 1) := by decide +kernel
theorem d_Md_carry_85 : decode c_Md_carry 85 = .ok (.ladd, 1) := by decide +kernel
theorem d_Md_carry_86 : decode c_Md_carry 86 = .ok (.lastore, 1) := by decide +kernel
theorem d_Md_carry_87 : decode c_Md_carry 87 = .ok (.iinc 2 1, 3) := by decide +kernel
theorem d_Md_carry_90 : decode c_Md_carry 90 = .ok (.goto (-88), 3) := by decide +kernel
theorem d_Md_carry_93 : decode c_Md_carry 93 = .ok (.return_, 1) := by decide +kernel
set_option maxRecDepth 100000 in
set_option maxHeartbeats 4000000 in
/-- three rounds of carries -/
theorem m_Md_carry (l : Launch) (G : wG) (A : Nat → Prop) (ad : Nat → Nat) (ev : Nat → va_E) (xi : Nat) (R : Nat → Row) (tl ol cd : Nat) (h37 : ev 37 = eO 5 [.ref (ad 38), .int (nI tl), .int (nI ol), .int (nI cd), .ref (ad 39), .ref (ad 40), .ref (ad 41), .ref (ad 42), .ref (ad 43), .ref (ad 44), .ref (ad 45), .ref (ad 46), .ref (ad 47), .ref (ad 48), .ref (ad 49), .ref (ad 50)]) (h44 : ev 44 = eJ G 160 (flat R)) (hxi : xi < 16) : wM l y_Md_carry w_Md_carry ({ frames := 0, cells := 0, slots := 0, locals := 0 }) G A 52 ad ev [.ref (ad 37), .int (nI (xi))] (fun ov ev' => ov = none ∧ ev' = va_up ev 44 (eJ G 160 (flat (va_up R xi (c3 (R xi) 3))))) := by
  refine wv_ofW (cc := c_Md_carry) (maxL := 8) (ret := none) (by decide) rfl (Nat.le_of_ble_eq_true rfl) ?_
  intro p e s m below meth c ls hx hb hr hml hts hown hlocks hini h hl
  have hl : lv_has ls 8 [(0, .ref (ad 37)), (1, .int (nI (xi)))] := hl
  refine lv_iconst (v := nI (0)) hx hb d_Md_carry_0 (by decide) ?_
  refine lv_istore_n (lv' := [(2, .int (nI (0))), (0, .ref (ad 37)), (1, .int (nI (xi)))]) hx hb d_Md_carry_1 rfl hl (by decide) rfl (fun ls hl => ?_)
  have loop1 : ∀ (d m0 : Nat), m0 + d = 3 →  ∀ (ev1 : Nat → va_E) (H : Heap) (locs : List Loc) (ls : Array Slot), ev1 = (va_up ev 44 (eJ G 160 (flat (va_up R xi (c3 (R xi) m0))))) → wT G A 52 ad ev1 s H locs → lv_has ls 8 [(2, .int (nI (m0))), (0, .ref (ad 37)), (1, .int (nI (xi)))] → W p l e ({ frames := 0, cells := 0, slots := 0, locals := 0 }) s m ([.ref (ad 37), .int (nI (xi))] : List Value).toArray below meth c H locs 0 0 (MQ below (wQc G A 52 ad (fun ov ev' => ov = none ∧ ev' = va_up ev 44 (eJ G 160 (flat (va_up R xi (c3 (R xi) 3)))))) ([.ref (ad 37), .int (nI (xi))] : List Value).toArray s 0 0 A) (F0 m 2 ls []) := by
    intro d
    induction d with
    | zero =>
      intro m0 hk_m0  ev1 H locs ls  o1 h hl
      have t1_44 : ev1 44 = eJ G 160 (flat (va_up R xi (c3 (R xi) m0))) := by rw [o1, va_up_self]
      have t1_37 := (show ev1 37 = ev 37 by rw [o1, va_up_ne _ _ (by decide)]).trans h37
      refine lv_iload_n hx hb d_Md_carry_2 rfl (lv_at hl 0 rfl) ?_
      refine lv_iconst (v := nI (3)) hx hb d_Md_carry_3 (by decide) ?_
      refine lv_icmp_ge (tgt := 93) hx hb d_Md_carry_4 (by decide) (fun _ => ?_) (fun hc => absurd ((nI_leI (by omega) (by omega)).mpr (by omega)) hc)
      refine wv_vret hx hb hr hlocks h d_Md_carry_93 ⟨rfl, ?_⟩
      rw [o1, show m0 = 3 by omega]
    | succ d ih =>
      intro m0 hk_m0  ev1 H locs ls  o1 h hl
      have t1_44 : ev1 44 = eJ G 160 (flat (va_up R xi (c3 (R xi) m0))) := by rw [o1, va_up_self]
      have t1_37 := (show ev1 37 = ev 37 by rw [o1, va_up_ne _ _ (by decide)]).trans h37
      refine lv_iload_n hx hb d_Md_carry_2 rfl (lv_at hl 0 rfl) ?_
      refine lv_iconst (v := nI (3)) hx hb d_Md_carry_3 (by decide) ?_
      refine lv_icmp_ge (tgt := 93) hx hb d_Md_carry_4 (by decide) (fun hc => absurd ((nI_leI (by omega) (by omega)).mp hc) (by omega)) (fun _ => ?_)
      refine lv_lconst (v := 0) hx hb d_Md_carry_7 (by decide) ?_
      refine lv_lstore_n (lv' := [(3, .long (0)), (2, .int (nI (m0))), (0, .ref (ad 37)), (1, .int (nI (xi)))]) hx hb d_Md_carry_8 rfl hl (by decide) rfl (fun ls hl => ?_)
      refine lv_bipush (v := nI (10)) hx hb d_Md_carry_9 (by decide) ?_
      refine lv_iload_n hx hb d_Md_carry_11 rfl (lv_at hl 3 rfl) ?_
      refine lv_imul hx hb d_Md_carry_12 ?_
      refine wv_top (w := nI (10 * xi)) (pk_mul _ _) ?_
      refine lv_istore (lv' := [(5, .int (nI (10 * xi))), (3, .long (0)), (2, .int (nI (m0))), (0, .ref (ad 37)), (1, .int (nI (xi)))]) hx hb d_Md_carry_13 hl (by decide) rfl (fun ls hl => ?_)
      have loop2 : ∀ (d k : Nat), k + d = 10 →  ∀ (ev2 : Nat → va_E) (H : Heap) (locs : List Loc) (ls : Array Slot), ev2 = (va_up ev1 44 (eJ G 160 (fil (10 * xi) k (crG (c3 (R xi) m0)) (flat (va_up R xi (c3 (R xi) m0)))))) → wT G A 52 ad ev2 s H locs → lv_has ls 8 [(5, .int (nI (10 * xi + k))), (3, .long (ovr (c3 (R xi) m0) k)), (2, .int (nI (m0))), (0, .ref (ad 37)), (1, .int (nI (xi)))] → W p l e ({ frames := 0, cells := 0, slots := 0, locals := 0 }) s m ([.ref (ad 37), .int (nI (xi))] : List Value).toArray below meth c H locs 0 0 (MQ below (wQc G A 52 ad (fun ov ev' => ov = none ∧ ev' = va_up ev 44 (eJ G 160 (flat (va_up R xi (c3 (R xi) 3)))))) ([.ref (ad 37), .int (nI (xi))] : List Value).toArray s 0 0 A) (F0 m 15 ls []) := by
        intro d
        induction d with
        | zero =>
          intro k hk_k  ev2 H locs ls  o2 h hl
          have t2_44 : ev2 44 = eJ G 160 (fil (10 * xi) k (crG (c3 (R xi) m0)) (flat (va_up R xi (c3 (R xi) m0)))) := by rw [o2, va_up_self]
          have t2_37 := (show ev2 37 = ev1 37 by rw [o2, va_up_ne _ _ (by decide)]).trans t1_37
          refine lv_iload hx hb d_Md_carry_15 (lv_at hl 0 rfl) ?_
          refine lv_bipush (v := nI (10)) hx hb d_Md_carry_17 (by decide) ?_
          refine lv_iload_n hx hb d_Md_carry_19 rfl (lv_at hl 4 rfl) ?_
          refine lv_imul hx hb d_Md_carry_20 ?_
          refine wv_top (w := nI (10 * xi)) (pk_mul _ _) ?_
          refine lv_bipush (v := nI (10)) hx hb d_Md_carry_21 (by decide) ?_
          refine lv_iadd hx hb d_Md_carry_23 ?_
          refine wv_top (w := nI ((10 * xi) + 10)) (nI_add _ _) ?_
          refine lv_icmp_ge (tgt := 63) hx hb d_Md_carry_24 (by decide) (fun _ => ?_) (fun hc => absurd ((nI_leI (by omega) (by omega)).mpr (by omega)) hc)
          rw [show k = 10 by omega, fil_flat, va_up2] at t2_44
          rw [show k = 10 by omega] at hl
          refine lv_aload_n hx hb d_Md_carry_63 rfl (lv_at hl 3 rfl) ?_
          refine wv_getf hx hb h 37 (by decide) (fs := [.ref (ad 38), .int (nI (tl)), .int (nI (ol)), .int (nI (cd)), .ref (ad 39), .ref (ad 40), .ref (ad 41), .ref (ad 42), .ref (ad 43), .ref (ad 44), .ref (ad 45), .ref (ad 46), .ref (ad 47), .ref (ad 48), .ref (ad 49), .ref (ad 50)]) t2_37 hts (fun w hw => List.mem_cons_of_mem _ (fW_Md w hw)) hown (ci := 5) (C := "NonceBoxModel") (T := fT_Md) (N := 16) rfl 9 (by decide) (hts _ (List.mem_cons_of_mem _ kf_Md_28)) rfl (v := .ref (ad 44)) rfl d_Md_carry_64 ?_
          refine lv_bipush (v := nI (10)) hx hb d_Md_carry_67 (by decide) ?_
          refine lv_iload_n hx hb d_Md_carry_69 rfl (lv_at hl 4 rfl) ?_
          refine lv_imul hx hb d_Md_carry_70 ?_
          refine wv_top (w := nI (10 * xi)) (pk_mul _ _) ?_
          refine lv_aload_n hx hb d_Md_carry_71 rfl (lv_at hl 3 rfl) ?_
          refine wv_getf hx hb h 37 (by decide) (fs := [.ref (ad 38), .int (nI (tl)), .int (nI (ol)), .int (nI (cd)), .ref (ad 39), .ref (ad 40), .ref (ad 41), .ref (ad 42), .ref (ad 43), .ref (ad 44), .ref (ad 45), .ref (ad 46), .ref (ad 47), .ref (ad 48), .ref (ad 49), .ref (ad 50)]) t2_37 hts (fun w hw => List.mem_cons_of_mem _ (fW_Md w hw)) hown (ci := 5) (C := "NonceBoxModel") (T := fT_Md) (N := 16) rfl 9 (by decide) (hts _ (List.mem_cons_of_mem _ kf_Md_28)) rfl (v := .ref (ad 44)) rfl d_Md_carry_72 ?_
          refine lv_bipush (v := nI (10)) hx hb d_Md_carry_75 (by decide) ?_
          refine lv_iload_n hx hb d_Md_carry_77 rfl (lv_at hl 4 rfl) ?_
          refine lv_imul hx hb d_Md_carry_78 ?_
          refine wv_top (w := nI (10 * xi)) (pk_mul _ _) ?_
          refine wv_lald hx hb h 44 (by decide) (f := (flat (va_up R xi (crG (c3 (R xi) m0))))) t2_44 (k := 10 * xi) rfl (by omega) (by decide) d_Md_carry_79 ?_
          refine wv_topl (w := crG (c3 (R xi) m0) 0) (by rw [flat_0, va_up_self]) ?_
          refine lv_ldc2 (v := 608) hx hb hown (hts _ (List.mem_cons_of_mem _ ko_Md_136)) d_Md_carry_80 ?_
          refine lv_lload_n hx hb d_Md_carry_83 rfl (lv_at hl 1 rfl) ?_
          refine lv_lmul hx hb d_Md_carry_84 ?_
          refine lv_ladd hx hb d_Md_carry_85 ?_
          refine wv_last hx hb h 44 (by decide) (f := (flat (va_up R xi (crG (c3 (R xi) m0))))) t2_44 (k := 10 * xi) rfl (by omega) (by decide) d_Md_carry_86 (fun H locs h => ?_)
          obtain ⟨ev3, o3⟩ : ∃ z, z = va_up ev2 44 (eJ G 160 (va_up ((flat (va_up R xi (crG (c3 (R xi) m0))))) (10 * xi) ((crG (c3 (R xi) m0) 0) + (608 * (ovr (c3 (R xi) m0) 10))))) := ⟨_, rfl⟩
          rw [← o3] at h
          have t3_44 : ev3 44 = eJ G 160 (va_up ((flat (va_up R xi (crG (c3 (R xi) m0))))) (10 * xi) ((crG (c3 (R xi) m0) 0) + (608 * (ovr (c3 (R xi) m0) 10)))) := by rw [o3, va_up_self]
          have t3_37 := (show ev3 37 = ev2 37 by rw [o3, va_up_ne _ _ (by decide)]).trans t2_37
          rw [flat_up0, va_up_self, va_up2] at o3
          refine lv_iinc (v := nI (m0 + 1)) (lv' := [(2, .int (nI (m0 + 1))), (5, .int (nI (10 * xi + 10))), (3, .long (ovr (c3 (R xi) m0) 10)), (0, .ref (ad 37)), (1, .int (nI (xi)))]) hx hb d_Md_carry_87 hl (k := 2) rfl (nI_add _ _) (by decide) rfl (fun ls hl => ?_)
          refine lv_goto (tgt := 2) hx hb d_Md_carry_90 (by decide) ?_
          refine ih (m0 + 1) (by omega) ev3 H locs ls ?_ h (lv_sub hl [0, 3, 4] rfl)
          rw [o3, o2, o1, va_up2, va_up2]
          rfl
        | succ d ih2 =>
          intro k hk_k  ev2 H locs ls  o2 h hl
          have t2_44 : ev2 44 = eJ G 160 (fil (10 * xi) k (crG (c3 (R xi) m0)) (flat (va_up R xi (c3 (R xi) m0)))) := by rw [o2, va_up_self]
          have t2_37 := (show ev2 37 = ev1 37 by rw [o2, va_up_ne _ _ (by decide)]).trans t1_37
          refine lv_iload hx hb d_Md_carry_15 (lv_at hl 0 rfl) ?_
          refine lv_bipush (v := nI (10)) hx hb d_Md_carry_17 (by decide) ?_
          refine lv_iload_n hx hb d_Md_carry_19 rfl (lv_at hl 4 rfl) ?_
          refine lv_imul hx hb d_Md_carry_20 ?_
          refine wv_top (w := nI (10 * xi)) (pk_mul _ _) ?_
          refine lv_bipush (v := nI (10)) hx hb d_Md_carry_21 (by decide) ?_
          refine lv_iadd hx hb d_Md_carry_23 ?_
          refine wv_top (w := nI ((10 * xi) + 10)) (nI_add _ _) ?_
          refine lv_icmp_ge (tgt := 63) hx hb d_Md_carry_24 (by decide) (fun hc => absurd ((nI_leI (by omega) (by omega)).mp hc) (by omega)) (fun _ => ?_)
          refine lv_aload_n hx hb d_Md_carry_27 rfl (lv_at hl 3 rfl) ?_
          refine wv_getf hx hb h 37 (by decide) (fs := [.ref (ad 38), .int (nI (tl)), .int (nI (ol)), .int (nI (cd)), .ref (ad 39), .ref (ad 40), .ref (ad 41), .ref (ad 42), .ref (ad 43), .ref (ad 44), .ref (ad 45), .ref (ad 46), .ref (ad 47), .ref (ad 48), .ref (ad 49), .ref (ad 50)]) t2_37 hts (fun w hw => List.mem_cons_of_mem _ (fW_Md w hw)) hown (ci := 5) (C := "NonceBoxModel") (T := fT_Md) (N := 16) rfl 9 (by decide) (hts _ (List.mem_cons_of_mem _ kf_Md_28)) rfl (v := .ref (ad 44)) rfl d_Md_carry_28 ?_
          refine lv_iload hx hb d_Md_carry_31 (lv_at hl 0 rfl) ?_
          refine wv_lald hx hb h 44 (by decide) (f := (fil (10 * xi) k (crG (c3 (R xi) m0)) (flat (va_up R xi (c3 (R xi) m0))))) t2_44 (k := 10 * xi + k) rfl (by omega) (by decide) d_Md_carry_33 ?_
          refine wv_topl (w := (c3 (R xi) m0) k) (by rw [fl_rd _ xi xi _ (by omega), va_up_self]) ?_
          refine lv_lload_n hx hb d_Md_carry_34 rfl (lv_at hl 1 rfl) ?_
          refine lv_ladd hx hb d_Md_carry_35 ?_
          refine lv_lstore (lv' := [(6, .long (((c3 (R xi) m0) k) + (ovr (c3 (R xi) m0) k))), (5, .int (nI (10 * xi + k))), (3, .long (ovr (c3 (R xi) m0) k)), (2, .int (nI (m0))), (0, .ref (ad 37)), (1, .int (nI (xi)))]) hx hb d_Md_carry_36 hl (by decide) rfl (fun ls hl => ?_)
          refine lv_aload_n hx hb d_Md_carry_38 rfl (lv_at hl 4 rfl) ?_
          refine wv_getf hx hb h 37 (by decide) (fs := [.ref (ad 38), .int (nI (tl)), .int (nI (ol)), .int (nI (cd)), .ref (ad 39), .ref (ad 40), .ref (ad 41), .ref (ad 42), .ref (ad 43), .ref (ad 44), .ref (ad 45), .ref (ad 46), .ref (ad 47), .ref (ad 48), .ref (ad 49), .ref (ad 50)]) t2_37 hts (fun w hw => List.mem_cons_of_mem _ (fW_Md w hw)) hown (ci := 5) (C := "NonceBoxModel") (T := fT_Md) (N := 16) rfl 9 (by decide) (hts _ (List.mem_cons_of_mem _ kf_Md_28)) rfl (v := .ref (ad 44)) rfl d_Md_carry_39 ?_
          refine lv_iload hx hb d_Md_carry_42 (lv_at hl 1 rfl) ?_
          refine lv_lload hx hb d_Md_carry_44 (lv_at hl 0 rfl) ?_
          refine lv_ldc2 (v := 67108863) hx hb hown (hts _ (List.mem_cons_of_mem _ ko_Md_113)) d_Md_carry_46 ?_
          refine lv_land hx hb d_Md_carry_49 ?_
          refine wv_last hx hb h 44 (by decide) (f := (fil (10 * xi) k (crG (c3 (R xi) m0)) (flat (va_up R xi (c3 (R xi) m0))))) t2_44 (k := 10 * xi + k) rfl (by omega) (by decide) d_Md_carry_50 (fun H locs h => ?_)
          obtain ⟨ev3, o3⟩ : ∃ z, z = va_up ev2 44 (eJ G 160 (va_up ((fil (10 * xi) k (crG (c3 (R xi) m0)) (flat (va_up R xi (c3 (R xi) m0))))) (10 * xi + k) ((((c3 (R xi) m0) k) + (ovr (c3 (R xi) m0) k)) &&& 67108863))) := ⟨_, rfl⟩
          rw [← o3] at h
          have t3_44 : ev3 44 = eJ G 160 (va_up ((fil (10 * xi) k (crG (c3 (R xi) m0)) (flat (va_up R xi (c3 (R xi) m0))))) (10 * xi + k) ((((c3 (R xi) m0) k) + (ovr (c3 (R xi) m0) k)) &&& 67108863)) := by rw [o3, va_up_self]
          have t3_37 := (show ev3 37 = ev2 37 by rw [o3, va_up_ne _ _ (by decide)]).trans t2_37
          refine lv_lload hx hb d_Md_carry_51 (lv_at hl 0 rfl) ?_
          refine lv_bipush (v := nI (26)) hx hb d_Md_carry_53 (by decide) ?_
          refine lv_lshr (v := sar (((c3 (R xi) m0) k) + (ovr (c3 (R xi) m0) k)) 26) hx hb d_Md_carry_55 rfl ?_
          refine wv_topl (w := ovr (c3 (R xi) m0) (k + 1)) rfl ?_
          refine lv_lstore_n (lv' := [(3, .long (ovr (c3 (R xi) m0) (k + 1))), (6, .long (((c3 (R xi) m0) k) + (ovr (c3 (R xi) m0) k))), (5, .int (nI (10 * xi + k))), (2, .int (nI (m0))), (0, .ref (ad 37)), (1, .int (nI (xi)))]) hx hb d_Md_carry_56 rfl hl (by decide) rfl (fun ls hl => ?_)
          refine lv_iinc (v := nI ((10 * xi + k) + 1)) (lv' := [(5, .int (nI ((10 * xi + k) + 1))), (3, .long (ovr (c3 (R xi) m0) (k + 1))), (6, .long (((c3 (R xi) m0) k) + (ovr (c3 (R xi) m0) k))), (2, .int (nI (m0))), (0, .ref (ad 37)), (1, .int (nI (xi)))]) hx hb d_Md_carry_57 hl (k := 2) rfl (nI_add _ _) (by decide) rfl (fun ls hl => ?_)
          refine lv_goto (tgt := 15) hx hb d_Md_carry_60 (by decide) ?_
          refine ih2 (k + 1) (by omega) ev3 H locs ls ?_ h (lv_sub hl [0, 1, 3, 4, 5] rfl)
          rw [o3, o2, va_up2, ← fil_s (10 * xi) k (crG (c3 (R xi) m0)) (flat (va_up R xi (c3 (R xi) m0))) rfl]
          rfl
      exact loop2 10 0 rfl ev1 H locs ls (by rw [fil_0, va_upi _ _ t1_44]) h (lv_sub hl [0, 1, 2, 3, 4] rfl)
  exact loop1 3 0 rfl ev s.heap [] ls (by rw [show va_up R xi (c3 (R xi) 0) = R from va_upi _ _ rfl, va_upi _ _ h44]) h (lv_sub hl [0, 1, 2] rfl)
theorem d_Md_copy_0 : decode c_Md_copy 0 = .ok (.iconst 0, 1) := by decide +kernel
theorem d_Md_copy_1 : decode c_Md_copy 1 = .ok (.istore_n 3, 1) := by decide +kernel
theorem d_Md_copy_2 : decode c_Md_copy 2 = .ok (.iload_n 3, 1) := by decide +kernel
theorem d_Md_copy_3 : decode c_Md_copy 3 = .ok (.bipush 10, 2) := by decide +kernel
theorem d_Md_copy_5 : decode c_Md_copy 5 = .ok (.if_icmp .ge 31, 3) := by decide +kernel
theorem d_Md_copy_8 : decode c_Md_copy 8 = .ok (.aload_n 0, 1) := by decide +kernel
theorem d_Md_copy_9 : decode c_Md_copy 9 = .ok (.getfield 28, 3) := by decide +kernel
theorem d_Md_copy_12 : decode c_Md_copy 12 = .ok (.bipush 10, 2) := by decide +kernel
theorem d_Md_copy_14 : decode c_Md_copy 14 = .ok (.iload_n 1, 1) := by decide +kernel
theorem d_Md_copy_15 : decode c_Md_copy 15 = .ok (.imul, 1) := by decide +kernel
theorem d_Md_copy_16 : decode c_Md_copy 16 = .ok (.iload_n 3, 1) := by decide +kernel
theorem d_Md_copy_17 : decode c_Md_copy 17 = .ok (.iadd, 1) := by decide +kernel
theorem d_Md_copy_18 : decode c_Md_copy 18 = .ok (.aload_n 0, 1) := by decide +kernel
theorem d_Md_copy_19 : decode c_Md_copy 19 = .ok (.getfield 28, 3) := by decide +kernel
theorem d_Md_copy_22 : decode c_Md_copy 22 = .ok (.bipush 10, 2) := by decide +kernel
theorem d_Md_copy_24 : decode c_Md_copy 24 = .ok (.iload_n 2, 1) := by decide +kernel
theorem d_Md_copy_25 : decode c_Md_copy 25 = .ok (.imul, 1) := by decide +kernel
theorem d_Md_copy_26 : decode c_Md_copy 26 = .ok (.iload_n 3, 1) := by decide +kernel
theorem d_Md_copy_27 : decode c_Md_copy 27 = .ok (.iadd, 1) := by decide +kernel
theorem d_Md_copy_28 : decode c_Md_copy 28 = .ok (.laload, 1) := by decide +kernel
theorem d_Md_copy_29 : decode c_Md_copy 29 = .ok (.lastore, 1) := by decide +kernel
theorem d_Md_copy_30 : decode c_Md_copy 30 = .ok (.iinc 3 1, 3) := by decide +kernel
theorem d_Md_copy_33 : decode c_Md_copy 33 = .ok (.goto (-31), 3) := by decide +kernel
theorem d_Md_copy_36 : decode c_Md_copy 36 = .ok (.return_, 1) := by decide +kernel
set_option maxRecDepth 100000 in
set_option maxHeartbeats 4000000 in
/-- copy -/
theorem m_Md_copy (l : Launch) (G : wG) (A : Nat → Prop) (ad : Nat → Nat) (ev : Nat → va_E) (ti xi : Nat) (R : Nat → Row) (tl ol cd : Nat) (h37 : ev 37 = eO 5 [.ref (ad 38), .int (nI tl), .int (nI ol), .int (nI cd), .ref (ad 39), .ref (ad 40), .ref (ad 41), .ref (ad 42), .ref (ad 43), .ref (ad 44), .ref (ad 45), .ref (ad 46), .ref (ad 47), .ref (ad 48), .ref (ad 49), .ref (ad 50)]) (h44 : ev 44 = eJ G 160 (flat R)) (hti : ti < 16) (hxi : xi < 16) : wM l y_Md_copy w_Md_copy ({ frames := 0, cells := 0, slots := 0, locals := 0 }) G A 52 ad ev [.ref (ad 37), .int (nI (ti)), .int (nI (xi))] (fun ov ev' => ov = none ∧ ev' = va_up ev 44 (eJ G 160 (flat (va_up R ti (R xi))))) := by
  refine wv_ofW (cc := c_Md_copy) (maxL := 4) (ret := none) (by decide) rfl (Nat.le_of_ble_eq_true rfl) ?_
  intro p e s m below meth c ls hx hb hr hml hts hown hlocks hini h hl
  have hl : lv_has ls 4 [(0, .ref (ad 37)), (1, .int (nI (ti))), (2, .int (nI (xi)))] := hl
  refine lv_iconst (v := nI (0)) hx hb d_Md_copy_0 (by decide) ?_
  refine lv_istore_n (lv' := [(3, .int (nI (0))), (0, .ref (ad 37)), (1, .int (nI (ti))), (2, .int (nI (xi)))]) hx hb d_Md_copy_1 rfl hl (by decide) rfl (fun ls hl => ?_)
  have loop1 : ∀ (d k : Nat), k + d = 10 →  ∀ (ev1 : Nat → va_E) (H : Heap) (locs : List Loc) (ls : Array Slot), ev1 = (va_up ev 44 (eJ G 160 (fil (10 * ti) k (R xi) (flat R)))) → wT G A 52 ad ev1 s H locs → lv_has ls 4 [(3, .int (nI (k))), (0, .ref (ad 37)), (1, .int (nI (ti))), (2, .int (nI (xi)))] → W p l e ({ frames := 0, cells := 0, slots := 0, locals := 0 }) s m ([.ref (ad 37), .int (nI (ti)), .int (nI (xi))] : List Value).toArray below meth c H locs 0 0 (MQ below (wQc G A 52 ad (fun ov ev' => ov = none ∧ ev' = va_up ev 44 (eJ G 160 (flat (va_up R ti (R xi)))))) ([.ref (ad 37), .int (nI (ti)), .int (nI (xi))] : List Value).toArray s 0 0 A) (F0 m 2 ls []) := by
    intro d
    induction d with
    | zero =>
      intro k hk_k  ev1 H locs ls  o1 h hl
      have t1_44 : ev1 44 = eJ G 160 (fil (10 * ti) k (R xi) (flat R)) := by rw [o1, va_up_self]
      have t1_37 := (show ev1 37 = ev 37 by rw [o1, va_up_ne _ _ (by decide)]).trans h37
      refine lv_iload_n hx hb d_Md_copy_2 rfl (lv_at hl 0 rfl) ?_
      refine lv_bipush (v := nI (10)) hx hb d_Md_copy_3 (by decide) ?_
      refine lv_icmp_ge (tgt := 36) hx hb d_Md_copy_5 (by decide) (fun _ => ?_) (fun hc => absurd ((nI_leI (by omega) (by omega)).mpr (by omega)) hc)
      refine wv_vret hx hb hr hlocks h d_Md_copy_36 ⟨rfl, ?_⟩
      rw [o1, show k = 10 by omega, fil_flat]
    | succ d ih =>
      intro k hk_k  ev1 H locs ls  o1 h hl
      have t1_44 : ev1 44 = eJ G 160 (fil (10 * ti) k (R xi) (flat R)) := by rw [o1, va_up_self]
      have t1_37 := (show ev1 37 = ev 37 by rw [o1, va_up_ne _ _ (by decide)]).trans h37
      refine lv_iload_n hx hb d_Md_copy_2 rfl (lv_at hl 0 rfl) ?_
      refine lv_bipush (v := nI (10)) hx hb d_Md_copy_3 (by decide) ?_
      refine lv_icmp_ge (tgt := 36) hx hb d_Md_copy_5 (by decide) (fun hc => absurd ((nI_leI (by omega) (by omega)).mp hc) (by omega)) (fun _ => ?_)
      refine lv_aload_n hx hb d_Md_copy_8 rfl (lv_at hl 1 rfl) ?_
      refine wv_getf hx hb h 37 (by decide) (fs := [.ref (ad 38), .int (nI (tl)), .int (nI (ol)), .int (nI (cd)), .ref (ad 39), .ref (ad 40), .ref (ad 41), .ref (ad 42), .ref (ad 43), .ref (ad 44), .ref (ad 45), .ref (ad 46), .ref (ad 47), .ref (ad 48), .ref (ad 49), .ref (ad 50)]) t1_37 hts (fun w hw => List.mem_cons_of_mem _ (fW_Md w hw)) hown (ci := 5) (C := "NonceBoxModel") (T := fT_Md) (N := 16) rfl 9 (by decide) (hts _ (List.mem_cons_of_mem _ kf_Md_28)) rfl (v := .ref (ad 44)) rfl d_Md_copy_9 ?_
      refine lv_bipush (v := nI (10)) hx hb d_Md_copy_12 (by decide) ?_
      refine lv_iload_n hx hb d_Md_copy_14 rfl (lv_at hl 2 rfl) ?_
      refine lv_imul hx hb d_Md_copy_15 ?_
      refine wv_top (w := nI (10 * ti)) (pk_mul _ _) ?_
      refine lv_iload_n hx hb d_Md_copy_16 rfl (lv_at hl 0 rfl) ?_
      refine lv_iadd hx hb d_Md_copy_17 ?_
      refine wv_top (w := nI ((10 * ti) + k)) (nI_add _ _) ?_
      refine lv_aload_n hx hb d_Md_copy_18 rfl (lv_at hl 1 rfl) ?_
      refine wv_getf hx hb h 37 (by decide) (fs := [.ref (ad 38), .int (nI (tl)), .int (nI (ol)), .int (nI (cd)), .ref (ad 39), .ref (ad 40), .ref (ad 41), .ref (ad 42), .ref (ad 43), .ref (ad 44), .ref (ad 45), .ref (ad 46), .ref (ad 47), .ref (ad 48), .ref (ad 49), .ref (ad 50)]) t1_37 hts (fun w hw => List.mem_cons_of_mem _ (fW_Md w hw)) hown (ci := 5) (C := "NonceBoxModel") (T := fT_Md) (N := 16) rfl 9 (by decide) (hts _ (List.mem_cons_of_mem _ kf_Md_28)) rfl (v := .ref (ad 44)) rfl d_Md_copy_19 ?_
      refine lv_bipush (v := nI (10)) hx hb d_Md_copy_22 (by decide) ?_
      refine lv_iload_n hx hb d_Md_copy_24 rfl (lv_at hl 3 rfl) ?_
      refine lv_imul hx hb d_Md_copy_25 ?_
      refine wv_top (w := nI (10 * xi)) (pk_mul _ _) ?_
      refine lv_iload_n hx hb d_Md_copy_26 rfl (lv_at hl 0 rfl) ?_
      refine lv_iadd hx hb d_Md_copy_27 ?_
      refine wv_top (w := nI ((10 * xi) + k)) (nI_add _ _) ?_
      refine wv_lald hx hb h 44 (by decide) (f := (fil (10 * ti) k (R xi) (flat R))) t1_44 (k := (10 * xi) + k) rfl (by omega) (by decide) d_Md_copy_28 ?_
      refine wv_topl (w := R xi k) (fl_rd R ti xi _ (by omega)) ?_
      refine wv_last hx hb h 44 (by decide) (f := (fil (10 * ti) k (R xi) (flat R))) t1_44 (k := (10 * ti) + k) rfl (by omega) (by decide) d_Md_copy_29 (fun H locs h => ?_)
      obtain ⟨ev2, o2⟩ : ∃ z, z = va_up ev1 44 (eJ G 160 (va_up ((fil (10 * ti) k (R xi) (flat R))) ((10 * ti) + k) (R xi k))) := ⟨_, rfl⟩
      rw [← o2] at h
      have t2_44 : ev2 44 = eJ G 160 (va_up ((fil (10 * ti) k (R xi) (flat R))) ((10 * ti) + k) (R xi k)) := by rw [o2, va_up_self]
      have t2_37 := (show ev2 37 = ev1 37 by rw [o2, va_up_ne _ _ (by decide)]).trans t1_37
      refine lv_iinc (v := nI (k + 1)) (lv' := [(3, .int (nI (k + 1))), (0, .ref (ad 37)), (1, .int (nI (ti))), (2, .int (nI (xi)))]) hx hb d_Md_copy_30 hl (k := 0) rfl (nI_add _ _) (by decide) rfl (fun ls hl => ?_)
      refine lv_goto (tgt := 2) hx hb d_Md_copy_33 (by decide) ?_
      refine ih (k + 1) (by omega) ev2 H locs ls ?_ h (lv_sub hl [0, 1, 2, 3] rfl)
      rw [o2, o1, va_up2, ← fil_s (10 * ti) k (R xi) (flat R) rfl]
  exact loop1 10 0 rfl ev s.heap [] ls (by rw [fil_0, va_upi _ _ h44]) h (lv_sub hl [0, 1, 2, 3] rfl)
theorem d_Md_set_0 : decode c_Md_set 0 = .ok (.iconst 0, 1) := by decide +kernel
theorem d_Md_set_1 : decode c_Md_set 1 = .ok (.istore 4, 2) := by decide +kernel
theorem d_Md_set_3 : decode c_Md_set 3 = .ok (.iload 4, 2) := by decide +kernel
theorem d_Md_set_5 : decode c_Md_set 5 = .ok (.bipush 10, 2) := by decide +kernel
theorem d_Md_set_7 : decode c_Md_set 7 = .ok (.if_icmp .ge 31, 3) := by decide +kernel
theorem d_Md_set_10 : decode c_Md_set 10 = .ok (.aload_n 0, 1) := by decide +kernel
theorem d_Md_set_11 : decode c_Md_set 11 = .ok (.getfield 28, 3) := by decide +kernel
theorem d_Md_set_14 : decode c_Md_set 14 = .ok (.bipush 10, 2) := by decide +kernel
theorem d_Md_set_16 : decode c_Md_set 16 = .ok (.iload_n 1, 1) := by decide +kernel
theorem d_Md_set_17 : decode c_Md_set 17 = .ok (.imul, 1) := by decide +kernel
theorem d_Md_set_18 : decode c_Md_set 18 = .ok (.iload 4, 2) := by decide +kernel
theorem d_Md_set_20 : decode c_Md_set 20 = .ok (.iadd, 1) := by decide +kernel
theorem d_Md_set_21 : decode c_Md_set 21 = .ok (.iload 4, 2) := by decide +kernel
theorem d_Md_set_23 : decode c_Md_set 23 = .ok (.ifCond .ne 7, 3) := by decide +kernel
theorem d_Md_set_26 : decode c_Md_set 26 = .ok (.lload_n 2, 1) := by decide +kernel
theorem d_Md_set_27 : decode c_Md_set 27 = .ok (.goto 4, 3) := by decide +kernel
theorem d_Md_set_30 : decode c_Md_set 30 = .ok (.lconst 0, 1) := by decide +kernel
theorem d_Md_set_31 : decode c_Md_set 31 = .ok (.lastore, 1) := by decide +kernel
theorem d_Md_set_32 : decode c_Md_set 32 = .ok (.iinc 4 1, 3) := by decide +kernel
theorem d_Md_set_35 : decode c_Md_set 35 = .ok (.goto (-32), 3) := by decide +kernel
theorem d_Md_set_38 : decode c_Md_set 38 = .ok (.return_, 1) := by decide +kernel
set_option maxRecDepth 100000 in
set_option maxHeartbeats 4000000 in
/-- set -/
theorem m_Md_set (l : Launch) (G : wG) (A : Nat → Prop) (ad : Nat → Nat) (ev : Nat → va_E) (ti : Nat) (v : Int64) (R : Nat → Row) (tl ol cd : Nat) (h37 : ev 37 = eO 5 [.ref (ad 38), .int (nI tl), .int (nI ol), .int (nI cd), .ref (ad 39), .ref (ad 40), .ref (ad 41), .ref (ad 42), .ref (ad 43), .ref (ad 44), .ref (ad 45), .ref (ad 46), .ref (ad 47), .ref (ad 48), .ref (ad 49), .ref (ad 50)]) (h44 : ev 44 = eJ G 160 (flat R)) (hti : ti < 16) : wM l y_Md_set w_Md_set ({ frames := 0, cells := 0, slots := 0, locals := 0 }) G A 52 ad ev [.ref (ad 37), .int (nI (ti)), .long (v)] (fun ov ev' => ov = none ∧ ev' = va_up ev 44 (eJ G 160 (flat (va_up R ti (rowL v))))) := by
  refine wv_ofW (cc := c_Md_set) (maxL := 5) (ret := none) (by decide) rfl (Nat.le_of_ble_eq_true rfl) ?_
  intro p e s m below meth c ls hx hb hr hml hts hown hlocks hini h hl
  have hl : lv_has ls 5 [(0, .ref (ad 37)), (1, .int (nI (ti))), (2, .long (v))] := hl
  refine lv_iconst (v := nI (0)) hx hb d_Md_set_0 (by decide) ?_
  refine lv_istore (lv' := [(4, .int (nI (0))), (0, .ref (ad 37)), (1, .int (nI (ti))), (2, .long (v))]) hx hb d_Md_set_1 hl (by decide) rfl (fun ls hl => ?_)
  have loop1 : ∀ (d k : Nat), k + d = 10 →  ∀ (ev1 : Nat → va_E) (H : Heap) (locs : List Loc) (ls : Array Slot), ev1 = (va_up ev 44 (eJ G 160 (fil (10 * ti) k (rowL v) (flat R)))) → wT G A 52 ad ev1 s H locs → lv_has ls 5 [(4, .int (nI (k))), (0, .ref (ad 37)), (1, .int (nI (ti))), (2, .long (v))] → W p l e ({ frames := 0, cells := 0, slots := 0, locals := 0 }) s m ([.ref (ad 37), .int (nI (ti)), .long (v)] : List Value).toArray below meth c H locs 0 0 (MQ below (wQc G A 52 ad (fun ov ev' => ov = none ∧ ev' = va_up ev 44 (eJ G 160 (flat (va_up R ti (rowL v)))))) ([.ref (ad 37), .int (nI (ti)), .long (v)] : List Value).toArray s 0 0 A) (F0 m 3 ls []) := by
    intro d
    induction d with
    | zero =>
      intro k hk_k  ev1 H locs ls  o1 h hl
      have t1_44 : ev1 44 = eJ G 160 (fil (10 * ti) k (rowL v) (flat R)) := by rw [o1, va_up_self]
      have t1_37 := (show ev1 37 = ev 37 by rw [o1, va_up_ne _ _ (by decide)]).trans h37
      refine lv_iload hx hb d_Md_set_3 (lv_at hl 0 rfl) ?_
      refine lv_bipush (v := nI (10)) hx hb d_Md_set_5 (by decide) ?_
      refine lv_icmp_ge (tgt := 38) hx hb d_Md_set_7 (by decide) (fun _ => ?_) (fun hc => absurd ((nI_leI (by omega) (by omega)).mpr (by omega)) hc)
      refine wv_vret hx hb hr hlocks h d_Md_set_38 ⟨rfl, ?_⟩
      rw [o1, show k = 10 by omega, fil_flat]
    | succ d ih =>
      intro k hk_k  ev1 H locs ls  o1 h hl
      have t1_44 : ev1 44 = eJ G 160 (fil (10 * ti) k (rowL v) (flat R)) := by rw [o1, va_up_self]
      have t1_37 := (show ev1 37 = ev 37 by rw [o1, va_up_ne _ _ (by decide)]).trans h37
      refine lv_iload hx hb d_Md_set_3 (lv_at hl 0 rfl) ?_
      refine lv_bipush (v := nI (10)) hx hb d_Md_set_5 (by decide) ?_
      refine lv_icmp_ge (tgt := 38) hx hb d_Md_set_7 (by decide) (fun hc => absurd ((nI_leI (by omega) (by omega)).mp hc) (by omega)) (fun _ => ?_)
      refine lv_aload_n hx hb d_Md_set_10 rfl (lv_at hl 1 rfl) ?_
      refine wv_getf hx hb h 37 (by decide) (fs := [.ref (ad 38), .int (nI (tl)), .int (nI (ol)), .int (nI (cd)), .ref (ad 39), .ref (ad 40), .ref (ad 41), .ref (ad 42), .ref (ad 43), .ref (ad 44), .ref (ad 45), .ref (ad 46), .ref (ad 47), .ref (ad 48), .ref (ad 49), .ref (ad 50)]) t1_37 hts (fun w hw => List.mem_cons_of_mem _ (fW_Md w hw)) hown (ci := 5) (C := "NonceBoxModel") (T := fT_Md) (N := 16) rfl 9 (by decide) (hts _ (List.mem_cons_of_mem _ kf_Md_28)) rfl (v := .ref (ad 44)) rfl d_Md_set_11 ?_
      refine lv_bipush (v := nI (10)) hx hb d_Md_set_14 (by decide) ?_
      refine lv_iload_n hx hb d_Md_set_16 rfl (lv_at hl 2 rfl) ?_
      refine lv_imul hx hb d_Md_set_17 ?_
      refine wv_top (w := nI (10 * ti)) (pk_mul _ _) ?_
      refine lv_iload hx hb d_Md_set_18 (lv_at hl 0 rfl) ?_
      refine lv_iadd hx hb d_Md_set_20 ?_
      refine wv_top (w := nI ((10 * ti) + k)) (nI_add _ _) ?_
      refine lv_iload hx hb d_Md_set_21 (lv_at hl 0 rfl) ?_
      refine lv_if_ne (tgt := 30) hx hb d_Md_set_23 (by decide) (fun hc => ?_) (fun hc => ?_)
      · have hk0 : ¬ k = 0 := fun q => hc (by rw [q]; rfl)
        refine lv_lconst (v := 0) hx hb d_Md_set_30 (by decide) ?_
        refine wv_topl (w := rowL v k) (by unfold rowL; rw [if_neg hk0]) ?_
        refine wv_last hx hb h 44 (by decide) (f := (fil (10 * ti) k (rowL v) (flat R))) t1_44 (k := (10 * ti) + k) rfl (by omega) (by decide) d_Md_set_31 (fun H locs h => ?_)
        obtain ⟨ev2, o2⟩ : ∃ z, z = va_up ev1 44 (eJ G 160 (va_up ((fil (10 * ti) k (rowL v) (flat R))) ((10 * ti) + k) (rowL v k))) := ⟨_, rfl⟩
        rw [← o2] at h
        have t2_44 : ev2 44 = eJ G 160 (va_up ((fil (10 * ti) k (rowL v) (flat R))) ((10 * ti) + k) (rowL v k)) := by rw [o2, va_up_self]
        have t2_37 := (show ev2 37 = ev1 37 by rw [o2, va_up_ne _ _ (by decide)]).trans t1_37
        refine lv_iinc (v := nI (k + 1)) (lv' := [(4, .int (nI (k + 1))), (0, .ref (ad 37)), (1, .int (nI (ti))), (2, .long (v))]) hx hb d_Md_set_32 hl (k := 0) rfl (nI_add _ _) (by decide) rfl (fun ls hl => ?_)
        refine lv_goto (tgt := 3) hx hb d_Md_set_35 (by decide) ?_
        refine ih (k + 1) (by omega) ev2 H locs ls ?_ h (lv_sub hl [0, 1, 2, 3] rfl)
        rw [o2, o1, va_up2, ← fil_s (10 * ti) k (rowL v) (flat R) rfl]
      · have hk0 : k = 0 := (nI_eq (by omega) (by decide)).mp (show nI k = nI 0 from hc)
        refine lv_lload_n hx hb d_Md_set_26 rfl (lv_at hl 3 rfl) ?_
        refine lv_goto (tgt := 31) hx hb d_Md_set_27 (by decide) ?_
        refine wv_topl (w := rowL v k) (by unfold rowL; rw [if_pos hk0]) ?_
        refine wv_last hx hb h 44 (by decide) (f := (fil (10 * ti) k (rowL v) (flat R))) t1_44 (k := (10 * ti) + k) rfl (by omega) (by decide) d_Md_set_31 (fun H locs h => ?_)
        obtain ⟨ev2, o2⟩ : ∃ z, z = va_up ev1 44 (eJ G 160 (va_up ((fil (10 * ti) k (rowL v) (flat R))) ((10 * ti) + k) (rowL v k))) := ⟨_, rfl⟩
        rw [← o2] at h
        have t2_44 : ev2 44 = eJ G 160 (va_up ((fil (10 * ti) k (rowL v) (flat R))) ((10 * ti) + k) (rowL v k)) := by rw [o2, va_up_self]
        have t2_37 := (show ev2 37 = ev1 37 by rw [o2, va_up_ne _ _ (by decide)]).trans t1_37
        refine lv_iinc (v := nI (k + 1)) (lv' := [(4, .int (nI (k + 1))), (0, .ref (ad 37)), (1, .int (nI (ti))), (2, .long (v))]) hx hb d_Md_set_32 hl (k := 0) rfl (nI_add _ _) (by decide) rfl (fun ls hl => ?_)
        refine lv_goto (tgt := 3) hx hb d_Md_set_35 (by decide) ?_
        refine ih (k + 1) (by omega) ev2 H locs ls ?_ h (lv_sub hl [0, 1, 2, 3] rfl)
        rw [o2, o1, va_up2, ← fil_s (10 * ti) k (rowL v) (flat R) rfl]
  exact loop1 10 0 rfl ev s.heap [] ls (by rw [fil_0, va_upi _ _ h44]) h (lv_sub hl [0, 1, 2, 3] rfl)
theorem d_Md_add_0 : decode c_Md_add 0 = .ok (.iconst 0, 1) := by decide +kernel
theorem d_Md_add_1 : decode c_Md_add 1 = .ok (.istore 4, 2) := by decide +kernel
theorem d_Md_add_3 : decode c_Md_add 3 = .ok (.iload 4, 2) := by decide +kernel
theorem d_Md_add_5 : decode c_Md_add 5 = .ok (.bipush 10, 2) := by decide +kernel
theorem d_Md_add_7 : decode c_Md_add 7 = .ok (.if_icmp .ge 46, 3) := by decide +kernel
theorem d_Md_add_10 : decode c_Md_add 10 = .ok (.aload_n 0, 1) := by decide +kernel
theorem d_Md_add_11 : decode c_Md_add 11 = .ok (.getfield 28, 3) := by decide +kernel
theorem d_Md_add_14 : decode c_Md_add 14 = .ok (.bipush 10, 2) := by decide +kernel
theorem d_Md_add_16 : decode c_Md_add 16 = .ok (.iload_n 1, 1) := by decide +kernel
theorem d_Md_add_17 : decode c_Md_add 17 = .ok (.imul, 1) := by decide +kernel
theorem d_Md_add_18 : decode c_Md_add 18 = .ok (.iload 4, 2) := by decide +kernel
theorem d_Md_add_20 : decode c_Md_add 20 = .ok (.iadd, 1) := by decide +kernel
theorem d_Md_add_21 : decode c_Md_add 21 = .ok (.aload_n 0, 1) := by decide +kernel
theorem d_Md_add_22 : decode c_Md_add 22 = .ok (.getfield 28, 3) := by decide +kernel
theorem d_Md_add_25 : decode c_Md_add 25 = .ok (.bipush 10, 2) := by decide +kernel
theorem d_Md_add_27 : decode c_Md_add 27 = .ok (.iload_n 2, 1) := by decide +kernel
theorem d_Md_add_28 : decode c_Md_add 28 = .ok (.imul, 1) := by decide +kernel
theorem d_Md_add_29 : decode c_Md_add 29 = .ok (.iload 4, 2) := by decide +kernel
theorem d_Md_add_31 : decode c_Md_add 31 = .ok (.iadd, 1) := by decide +kernel
theorem d_Md_add_32 : decode c_Md_add 32 = .ok (.laload, 1) := by decide +kernel
theorem d_Md_add_33 : decode c_Md_add 33 = .ok (.aload_n 0, 1) := by decide +kernel
theorem d_Md_add_34 : decode c_Md_add 34 = .ok (.getfield 28, 3) := by decide +kernel
theorem d_Md_add_37 : decode c_Md_add 37 = .ok (.bipush 10, 2) := by decide +kernel
theorem d_Md_add_39 : decode c_Md_add 39 = .ok (.iload_n 3, 1) := by decide +kernel
theorem d_Md_add_40 : decode c_Md_add 40 = .ok (.imul, 1) := by decide +kernel
theorem d_Md_add_41 : decode c_Md_add 41 = .ok (.iload 4, 2) := by decide +kernel
theorem d_Md_add_43 : decode c_Md_add 43 = .ok (.iadd, 1) := by decide +kernel
theorem d_Md_add_44 : decode c_Md_add 44 = .ok (.laload, 1) := by decide +kernel
theorem d_Md_add_45 : decode c_Md_add 45 = .ok (.ladd, 1) := by decide +kernel
theorem d_Md_add_46 : decode c_Md_add 46 = .ok (.lastore, 1) := by decide +kernel
theorem d_Md_add_47 : decode c_Md_add 47 = .ok (.iinc 4 1, 3) := by decide +kernel
theorem d_Md_add_50 : decode c_Md_add 50 = .ok (.goto (-47), 3) := by decide +kernel
theorem d_Md_add_53 : decode c_Md_add 53 = .ok (.aload_n 0, 1) := by decide +kernel
theorem d_Md_add_54 : decode c_Md_add 54 = .ok (.iload_n 1, 1) := by decide +kernel
theorem d_Md_add_55 : decode c_Md_add 55 = .ok (.invokevirtual 138, 3) := by decide +kernel
theorem d_Md_add_58 : decode c_Md_add 58 = .ok (.return_, 1) := by decide +kernel
set_option maxRecDepth 100000 in
set_option maxHeartbeats 4000000 in
/-- add -/
theorem m_Md_add (l : Launch) (G : wG) (A : Nat → Prop) (ad : Nat → Nat) (ev : Nat → va_E) (ti xi yi : Nat) (R : Nat → Row) (tl ol cd : Nat) (h37 : ev 37 = eO 5 [.ref (ad 38), .int (nI tl), .int (nI ol), .int (nI cd), .ref (ad 39), .ref (ad 40), .ref (ad 41), .ref (ad 42), .ref (ad 43), .ref (ad 44), .ref (ad 45), .ref (ad 46), .ref (ad 47), .ref (ad 48), .ref (ad 49), .ref (ad 50)]) (h44 : ev 44 = eJ G 160 (flat R)) (hti : ti < 16) (hxi : xi < 16) (hyi : yi < 16) : wM l y_Md_add w_Md_add ({ frames := 3, cells := 0, slots := 0, locals := 100 }) G A 52 ad ev [.ref (ad 37), .int (nI (ti)), .int (nI (xi)), .int (nI (yi))] (fun ov ev' => ov = none ∧ ev' = va_up ev 44 (eJ G 160 (flat (va_up R ti (rad (R xi) (R yi)))))) := by
  refine wv_ofW (cc := c_Md_add) (maxL := 5) (ret := none) (by decide) rfl (Nat.le_of_ble_eq_true rfl) ?_
  intro p e s m below meth c ls hx hb hr hml hts hown hlocks hini h hl
  have hl : lv_has ls 5 [(0, .ref (ad 37)), (1, .int (nI (ti))), (2, .int (nI (xi))), (3, .int (nI (yi)))] := hl
  refine lv_iconst (v := nI (0)) hx hb d_Md_add_0 (by decide) ?_
  refine lv_istore (lv' := [(4, .int (nI (0))), (0, .ref (ad 37)), (1, .int (nI (ti))), (2, .int (nI (xi))), (3, .int (nI (yi)))]) hx hb d_Md_add_1 hl (by decide) rfl (fun ls hl => ?_)
  have loop1 : ∀ (d k : Nat), k + d = 10 →  ∀ (ev1 : Nat → va_E) (H : Heap) (locs : List Loc) (ls : Array Slot), ev1 = (va_up ev 44 (eJ G 160 (fil (10 * ti) k (pl (R xi) (R yi)) (flat R)))) → wT G A 52 ad ev1 s H locs → lv_has ls 5 [(4, .int (nI (k))), (0, .ref (ad 37)), (1, .int (nI (ti))), (2, .int (nI (xi))), (3, .int (nI (yi)))] → W p l e ({ frames := 3, cells := 0, slots := 0, locals := 100 }) s m ([.ref (ad 37), .int (nI (ti)), .int (nI (xi)), .int (nI (yi))] : List Value).toArray below meth c H locs 0 0 (MQ below (wQc G A 52 ad (fun ov ev' => ov = none ∧ ev' = va_up ev 44 (eJ G 160 (flat (va_up R ti (rad (R xi) (R yi))))))) ([.ref (ad 37), .int (nI (ti)), .int (nI (xi)), .int (nI (yi))] : List Value).toArray s 0 0 A) (F0 m 3 ls []) := by
    intro d
    induction d with
    | zero =>
      intro k hk_k  ev1 H locs ls  o1 h hl
      have t1_44 : ev1 44 = eJ G 160 (fil (10 * ti) k (pl (R xi) (R yi)) (flat R)) := by rw [o1, va_up_self]
      have t1_37 := (show ev1 37 = ev 37 by rw [o1, va_up_ne _ _ (by decide)]).trans h37
      refine lv_iload hx hb d_Md_add_3 (lv_at hl 0 rfl) ?_
      refine lv_bipush (v := nI (10)) hx hb d_Md_add_5 (by decide) ?_
      refine lv_icmp_ge (tgt := 53) hx hb d_Md_add_7 (by decide) (fun _ => ?_) (fun hc => absurd ((nI_leI (by omega) (by omega)).mpr (by omega)) hc)
      rw [show k = 10 by omega, fil_flat] at t1_44
      refine lv_aload_n hx hb d_Md_add_53 rfl (lv_at hl 1 rfl) ?_
      refine lv_iload_n hx hb d_Md_add_54 rfl (lv_at hl 2 rfl) ?_
      refine wv_V (As := [.int (nI (ti))]) (rest := []) (k := 1) ⟨hx, hb, hml, hown, hts⟩ h 37 (by decide) (C := "NonceBoxModel") t1_37 rfl (m_Md_carry l G A ad ev1 ti (va_up R ti (pl (R xi) (R yi))) tl ol cd t1_37 t1_44 (by omega)) kc_Md_carry kl_Md_138 km_Md_carry kv_Md_carry ki_Md (by decide +kernel) ⟨rfl, rfl, Nat.le_of_ble_eq_true rfl, Nat.le_of_ble_eq_true rfl⟩ hl.1 rfl rfl (Nat.le_of_ble_eq_true rfl) ⟨Nat.le_refl _, Nat.le_refl _⟩ d_Md_add_55 ?_
      intro ov ev2 H locs hp h
      rw [hp.1]
      refine W.eq (g2 := F0 m 58 ls []) rfl ?_
      have o2 : ev2 = (va_up ev1 44 (eJ G 160 (flat (va_up (va_up R ti (pl (R xi) (R yi))) ti (c3 ((va_up R ti (pl (R xi) (R yi))) ti) 3))))) := hp.2
      have t2_44 : ev2 44 = eJ G 160 (flat (va_up (va_up R ti (pl (R xi) (R yi))) ti (c3 ((va_up R ti (pl (R xi) (R yi))) ti) 3))) := by rw [o2, va_up_self]
      have t2_37 := (show ev2 37 = ev1 37 by rw [o2, va_up_ne _ _ (by decide)]).trans t1_37
      rw [va_up_self, va_up2] at t2_44
      refine wv_vret hx hb hr hlocks h d_Md_add_58 ⟨rfl, ?_⟩
      refine Eq.trans ?_ (show va_up ev 44 (eJ G 160 (flat (va_up R ti (c3 (pl (R xi) (R yi)) 3)))) = _ from rfl)
      funext j
      by_cases c0 : j = 44
      · rw [c0, t2_44, va_up_self]
      rw [va_up_ne _ _ c0]
      rw [o2, va_up_ne _ _ c0, o1, va_up_ne _ _ c0]
    | succ d ih =>
      intro k hk_k  ev1 H locs ls  o1 h hl
      have t1_44 : ev1 44 = eJ G 160 (fil (10 * ti) k (pl (R xi) (R yi)) (flat R)) := by rw [o1, va_up_self]
      have t1_37 := (show ev1 37 = ev 37 by rw [o1, va_up_ne _ _ (by decide)]).trans h37
      refine lv_iload hx hb d_Md_add_3 (lv_at hl 0 rfl) ?_
      refine lv_bipush (v := nI (10)) hx hb d_Md_add_5 (by decide) ?_
      refine lv_icmp_ge (tgt := 53) hx hb d_Md_add_7 (by decide) (fun hc => absurd ((nI_leI (by omega) (by omega)).mp hc) (by omega)) (fun _ => ?_)
      refine lv_aload_n hx hb d_Md_add_10 rfl (lv_at hl 1 rfl) ?_
      refine wv_getf hx hb h 37 (by decide) (fs := [.ref (ad 38), .int (nI (tl)), .int (nI (ol)), .int (nI (cd)), .ref (ad 39), .ref (ad 40), .ref (ad 41), .ref (ad 42), .ref (ad 43), .ref (ad 44), .ref (ad 45), .ref (ad 46), .ref (ad 47), .ref (ad 48), .ref (ad 49), .ref (ad 50)]) t1_37 hts (fun w hw => List.mem_cons_of_mem _ (fW_Md w hw)) hown (ci := 5) (C := "NonceBoxModel") (T := fT_Md) (N := 16) rfl 9 (by decide) (hts _ (List.mem_cons_of_mem _ kf_Md_28)) rfl (v := .ref (ad 44)) rfl d_Md_add_11 ?_
      refine lv_bipush (v := nI (10)) hx hb d_Md_add_14 (by decide) ?_
      refine lv_iload_n hx hb d_Md_add_16 rfl (lv_at hl 2 rfl) ?_
      refine lv_imul hx hb d_Md_add_17 ?_
      refine wv_top (w := nI (10 * ti)) (pk_mul _ _) ?_
      refine lv_iload hx hb d_Md_add_18 (lv_at hl 0 rfl) ?_
      refine lv_iadd hx hb d_Md_add_20 ?_
      refine wv_top (w := nI ((10 * ti) + k)) (nI_add _ _) ?_
      refine lv_aload_n hx hb d_Md_add_21 rfl (lv_at hl 1 rfl) ?_
      refine wv_getf hx hb h 37 (by decide) (fs := [.ref (ad 38), .int (nI (tl)), .int (nI (ol)), .int (nI (cd)), .ref (ad 39), .ref (ad 40), .ref (ad 41), .ref (ad 42), .ref (ad 43), .ref (ad 44), .ref (ad 45), .ref (ad 46), .ref (ad 47), .ref (ad 48), .ref (ad 49), .ref (ad 50)]) t1_37 hts (fun w hw => List.mem_cons_of_mem _ (fW_Md w hw)) hown (ci := 5) (C := "NonceBoxModel") (T := fT_Md) (N := 16) rfl 9 (by decide) (hts _ (List.mem_cons_of_mem _ kf_Md_28)) rfl (v := .ref (ad 44)) rfl d_Md_add_22 ?_
      refine lv_bipush (v := nI (10)) hx hb d_Md_add_25 (by decide) ?_
      refine lv_iload_n hx hb d_Md_add_27 rfl (lv_at hl 3 rfl) ?_
      refine lv_imul hx hb d_Md_add_28 ?_
      refine wv_top (w := nI (10 * xi)) (pk_mul _ _) ?_
      refine lv_iload hx hb d_Md_add_29 (lv_at hl 0 rfl) ?_
      refine lv_iadd hx hb d_Md_add_31 ?_
      refine wv_top (w := nI ((10 * xi) + k)) (nI_add _ _) ?_
      refine wv_lald hx hb h 44 (by decide) (f := (fil (10 * ti) k (pl (R xi) (R yi)) (flat R))) t1_44 (k := (10 * xi) + k) rfl (by omega) (by decide) d_Md_add_32 ?_
      refine wv_topl (w := R xi k) (fl_rd R ti xi _ (by omega)) ?_
      refine lv_aload_n hx hb d_Md_add_33 rfl (lv_at hl 1 rfl) ?_
      refine wv_getf hx hb h 37 (by decide) (fs := [.ref (ad 38), .int (nI (tl)), .int (nI (ol)), .int (nI (cd)), .ref (ad 39), .ref (ad 40), .ref (ad 41), .ref (ad 42), .ref (ad 43), .ref (ad 44), .ref (ad 45), .ref (ad 46), .ref (ad 47), .ref (ad 48), .ref (ad 49), .ref (ad 50)]) t1_37 hts (fun w hw => List.mem_cons_of_mem _ (fW_Md w hw)) hown (ci := 5) (C := "NonceBoxModel") (T := fT_Md) (N := 16) rfl 9 (by decide) (hts _ (List.mem_cons_of_mem _ kf_Md_28)) rfl (v := .ref (ad 44)) rfl d_Md_add_34 ?_
      refine lv_bipush (v := nI (10)) hx hb d_Md_add_37 (by decide) ?_
      refine lv_iload_n hx hb d_Md_add_39 rfl (lv_at hl 4 rfl) ?_
      refine lv_imul hx hb d_Md_add_40 ?_
      refine wv_top (w := nI (10 * yi)) (pk_mul _ _) ?_
      refine lv_iload hx hb d_Md_add_41 (lv_at hl 0 rfl) ?_
      refine lv_iadd hx hb d_Md_add_43 ?_
      refine wv_top (w := nI ((10 * yi) + k)) (nI_add _ _) ?_
      refine wv_lald hx hb h 44 (by decide) (f := (fil (10 * ti) k (pl (R xi) (R yi)) (flat R))) t1_44 (k := (10 * yi) + k) rfl (by omega) (by decide) d_Md_add_44 ?_
      refine wv_topl (w := R yi k) (fl_rd R ti yi _ (by omega)) ?_
      refine lv_ladd hx hb d_Md_add_45 ?_
      refine wv_topl (w := (pl (R xi) (R yi)) k) rfl ?_
      refine wv_last hx hb h 44 (by decide) (f := (fil (10 * ti) k (pl (R xi) (R yi)) (flat R))) t1_44 (k := (10 * ti) + k) rfl (by omega) (by decide) d_Md_add_46 (fun H locs h => ?_)
      obtain ⟨ev2, o2⟩ : ∃ z, z = va_up ev1 44 (eJ G 160 (va_up ((fil (10 * ti) k (pl (R xi) (R yi)) (flat R))) ((10 * ti) + k) ((pl (R xi) (R yi)) k))) := ⟨_, rfl⟩
      rw [← o2] at h
      have t2_44 : ev2 44 = eJ G 160 (va_up ((fil (10 * ti) k (pl (R xi) (R yi)) (flat R))) ((10 * ti) + k) ((pl (R xi) (R yi)) k)) := by rw [o2, va_up_self]
      have t2_37 := (show ev2 37 = ev1 37 by rw [o2, va_up_ne _ _ (by decide)]).trans t1_37
      refine lv_iinc (v := nI (k + 1)) (lv' := [(4, .int (nI (k + 1))), (0, .ref (ad 37)), (1, .int (nI (ti))), (2, .int (nI (xi))), (3, .int (nI (yi)))]) hx hb d_Md_add_47 hl (k := 0) rfl (nI_add _ _) (by decide) rfl (fun ls hl => ?_)
      refine lv_goto (tgt := 3) hx hb d_Md_add_50 (by decide) ?_
      refine ih (k + 1) (by omega) ev2 H locs ls ?_ h (lv_sub hl [0, 1, 2, 3, 4] rfl)
      rw [o2, o1, va_up2, ← fil_s (10 * ti) k (pl (R xi) (R yi)) (flat R) rfl]
  exact loop1 10 0 rfl ev s.heap [] ls (by rw [fil_0, va_upi _ _ h44]) h (lv_sub hl [0, 1, 2, 3, 4] rfl)
theorem d_Md_subtract_0 : decode c_Md_subtract 0 = .ok (.iconst 0, 1) := by decide +kernel
theorem d_Md_subtract_1 : decode c_Md_subtract 1 = .ok (.istore 4, 2) := by decide +kernel
theorem d_Md_subtract_3 : decode c_Md_subtract 3 = .ok (.iload 4, 2) := by decide +kernel
theorem d_Md_subtract_5 : decode c_Md_subtract 5 = .ok (.bipush 10, 2) := by decide +kernel
theorem d_Md_subtract_7 : decode c_Md_subtract 7 = .ok (.if_icmp .ge 61, 3) := by decide +kernel
theorem d_Md_subtract_10 : decode c_Md_subtract 10 = .ok (.aload_n 0, 1) := by decide +kernel
theorem d_Md_subtract_11 : decode c_Md_subtract 11 = .ok (.getfield 28, 3) := by decide +kernel
theorem d_Md_subtract_14 : decode c_Md_subtract 14 = .ok (.bipush 10, 2) := by decide +kernel
theorem d_Md_subtract_16 : decode c_Md_subtract 16 = .ok (.iload_n 1, 1) := by decide +kernel
theorem d_Md_subtract_17 : decode c_Md_subtract 17 = .ok (.imul, 1) := by decide +kernel
theorem d_Md_subtract_18 : decode c_Md_subtract 18 = .ok (.iload 4, 2) := by decide +kernel
theorem d_Md_subtract_20 : decode c_Md_subtract 20 = .ok (.iadd, 1) := by decide +kernel
theorem d_Md_subtract_21 : decode c_Md_subtract 21 = .ok (.aload_n 0, 1) := by decide +kernel
theorem d_Md_subtract_22 : decode c_Md_subtract 22 = .ok (.getfield 28, 3) := by decide +kernel
theorem d_Md_subtract_25 : decode c_Md_subtract 25 = .ok (.bipush 10, 2) := by decide +kernel
theorem d_Md_subtract_27 : decode c_Md_subtract 27 = .ok (.iload_n 2, 1) := by decide +kernel
theorem d_Md_subtract_28 : decode c_Md_subtract 28 = .ok (.imul, 1) := by decide +kernel
theorem d_Md_subtract_29 : decode c_Md_subtract 29 = .ok (.iload 4, 2) := by decide +kernel
theorem d_Md_subtract_31 : decode c_Md_subtract 31 = .ok (.iadd, 1) := by decide +kernel
theorem d_Md_subtract_32 : decode c_Md_subtract 32 = .ok (.laload, 1) := by decide +kernel
theorem d_Md_subtract_33 : decode c_Md_subtract 33 = .ok (.aload_n 0, 1) := by decide +kernel
theorem d_Md_subtract_34 : decode c_Md_subtract 34 = .ok (.getfield 28, 3) := by decide +kernel
theorem d_Md_subtract_37 : decode c_Md_subtract 37 = .ok (.bipush 10, 2) := by decide +kernel
theorem d_Md_subtract_39 : decode c_Md_subtract 39 = .ok (.iload_n 3, 1) := by decide +kernel
theorem d_Md_subtract_40 : decode c_Md_subtract 40 = .ok (.imul, 1) := by decide +kernel
theorem d_Md_subtract_41 : decode c_Md_subtract 41 = .ok (.iload 4, 2) := by decide +kernel
theorem d_Md_subtract_43 : decode c_Md_subtract 43 = .ok (.iadd, 1) := by decide +kernel
theorem d_Md_subtract_44 : decode c_Md_subtract 44 = .ok (.laload, 1) := by decide +kernel
theorem d_Md_subtract_45 : decode c_Md_subtract 45 = .ok (.lsub, 1) := by decide +kernel
theorem d_Md_subtract_46 : decode c_Md_subtract 46 = .ok (.iload 4, 2) := by decide +kernel
theorem d_Md_subtract_48 : decode c_Md_subtract 48 = .ok (.ifCond .ne 9, 3) := by decide +kernel
theorem d_Md_subtract_51 : decode c_Md_subtract 51 = .ok (.ldc2_w 141, 3) := by decide +kernel
theorem d_Md_subtract_54 : decode c_Md_subtract 54 = .ok (.goto 6, 3) := by decide +kernel
theorem d_Md_subtract_57 : decode c_Md_subtract 57 = .ok (.ldc2_w 143, 3) := by decide +kernel
theorem d_Md_subtract_60 : decode c_Md_subtract 60 = .ok (.ladd, 1) := by decide +kernel
theorem d_Md_subtract_61 : decode c_Md_subtract 61 = .ok (.lastore, 1) := by decide +kernel
theorem d_Md_subtract_62 : decode c_Md_subtract 62 = .ok (.iinc 4 1, 3) := by decide +kernel
theorem d_Md_subtract_65 : decode c_Md_subtract 65 = .ok (.goto (-62), 3) := by decide +kernel
theorem d_Md_subtract_68 : decode c_Md_subtract 68 = .ok (.aload_n 0, 1) := by decide +kernel
theorem d_Md_subtract_69 : decode c_Md_subtract 69 = .ok (.iload_n 1, 1) := by decide +kernel
theorem d_Md_subtract_70 : decode c_Md_subtract 70 = .ok (.invokevirtual 138, 3) := by decide +kernel
theorem d_Md_subtract_73 : decode c_Md_subtract 73 = .ok (.return_, 1) := by decide +kernel
set_option maxRecDepth 100000 in
set_option maxHeartbeats 4000000 in
/-- subtract -/
theorem m_Md_subtract (l : Launch) (G : wG) (A : Nat → Prop) (ad : Nat → Nat) (ev : Nat → va_E) (ti xi yi : Nat) (R : Nat → Row) (tl ol cd : Nat) (h37 : ev 37 = eO 5 [.ref (ad 38), .int (nI tl), .int (nI ol), .int (nI cd), .ref (ad 39), .ref (ad 40), .ref (ad 41), .ref (ad 42), .ref (ad 43), .ref (ad 44), .ref (ad 45), .ref (ad 46), .ref (ad 47), .ref (ad 48), .ref (ad 49), .ref (ad 50)]) (h44 : ev 44 = eJ G 160 (flat R)) (hti : ti < 16) (hxi : xi < 16) (hyi : yi < 16) : wM l y_Md_subtract w_Md_subtract ({ frames := 3, cells := 0, slots := 0, locals := 100 }) G A 52 ad ev [.ref (ad 37), .int (nI (ti)), .int (nI (xi)), .int (nI (yi))] (fun ov ev' => ov = none ∧ ev' = va_up ev 44 (eJ G 160 (flat (va_up R ti (rsb (R xi) (R yi)))))) := by
  refine wv_ofW (cc := c_Md_subtract) (maxL := 5) (ret := none) (by decide) rfl (Nat.le_of_ble_eq_true rfl) ?_
  intro p e s m below meth c ls hx hb hr hml hts hown hlocks hini h hl
  have hl : lv_has ls 5 [(0, .ref (ad 37)), (1, .int (nI (ti))), (2, .int (nI (xi))), (3, .int (nI (yi)))] := hl
  refine lv_iconst (v := nI (0)) hx hb d_Md_subtract_0 (by decide) ?_
  refine lv_istore (lv' := [(4, .int (nI (0))), (0, .ref (ad 37)), (1, .int (nI (ti))), (2, .int (nI (xi))), (3, .int (nI (yi)))]) hx hb d_Md_subtract_1 hl (by decide) rfl (fun ls hl => ?_)
  have loop1 : ∀ (d k : Nat), k + d = 10 →  ∀ (ev1 : Nat → va_E) (H : Heap) (locs : List Loc) (ls : Array Slot), ev1 = (va_up ev 44 (eJ G 160 (fil (10 * ti) k (sbR (R xi) (R yi)) (flat R)))) → wT G A 52 ad ev1 s H locs → lv_has ls 5 [(4, .int (nI (k))), (0, .ref (ad 37)), (1, .int (nI (ti))), (2, .int (nI (xi))), (3, .int (nI (yi)))] → W p l e ({ frames := 3, cells := 0, slots := 0, locals := 100 }) s m ([.ref (ad 37), .int (nI (ti)), .int (nI (xi)), .int (nI (yi))] : List Value).toArray below meth c H locs 0 0 (MQ below (wQc G A 52 ad (fun ov ev' => ov = none ∧ ev' = va_up ev 44 (eJ G 160 (flat (va_up R ti (rsb (R xi) (R yi))))))) ([.ref (ad 37), .int (nI (ti)), .int (nI (xi)), .int (nI (yi))] : List Value).toArray s 0 0 A) (F0 m 3 ls []) := by
    intro d
    induction d with
    | zero =>
      intro k hk_k  ev1 H locs ls  o1 h hl
      have t1_44 : ev1 44 = eJ G 160 (fil (10 * ti) k (sbR (R xi) (R yi)) (flat R)) := by rw [o1, va_up_self]
      have t1_37 := (show ev1 37 = ev 37 by rw [o1, va_up_ne _ _ (by decide)]).trans h37
      refine lv_iload hx hb d_Md_subtract_3 (lv_at hl 0 rfl) ?_
      refine lv_bipush (v := nI (10)) hx hb d_Md_subtract_5 (by decide) ?_
      refine lv_icmp_ge (tgt := 68) hx hb d_Md_subtract_7 (by decide) (fun _ => ?_) (fun hc => absurd ((nI_leI (by omega) (by omega)).mpr (by omega)) hc)
      rw [show k = 10 by omega, fil_flat] at t1_44
      refine lv_aload_n hx hb d_Md_subtract_68 rfl (lv_at hl 1 rfl) ?_
      refine lv_iload_n hx hb d_Md_subtract_69 rfl (lv_at hl 2 rfl) ?_
      refine wv_V (As := [.int (nI (ti))]) (rest := []) (k := 1) ⟨hx, hb, hml, hown, hts⟩ h 37 (by decide) (C := "NonceBoxModel") t1_37 rfl (m_Md_carry l G A ad ev1 ti (va_up R ti (sbR (R xi) (R yi))) tl ol cd t1_37 t1_44 (by omega)) kc_Md_carry kl_Md_138 km_Md_carry kv_Md_carry ki_Md (by decide +kernel) ⟨rfl, rfl, Nat.le_of_ble_eq_true rfl, Nat.le_of_ble_eq_true rfl⟩ hl.1 rfl rfl (Nat.le_of_ble_eq_true rfl) ⟨Nat.le_refl _, Nat.le_refl _⟩ d_Md_subtract_70 ?_
      intro ov ev2 H locs hp h
      rw [hp.1]
      refine W.eq (g2 := F0 m 73 ls []) rfl ?_
      have o2 : ev2 = (va_up ev1 44 (eJ G 160 (flat (va_up (va_up R ti (sbR (R xi) (R yi))) ti (c3 ((va_up R ti (sbR (R xi) (R yi))) ti) 3))))) := hp.2
      have t2_44 : ev2 44 = eJ G 160 (flat (va_up (va_up R ti (sbR (R xi) (R yi))) ti (c3 ((va_up R ti (sbR (R xi) (R yi))) ti) 3))) := by rw [o2, va_up_self]
      have t2_37 := (show ev2 37 = ev1 37 by rw [o2, va_up_ne _ _ (by decide)]).trans t1_37
      rw [va_up_self, va_up2] at t2_44
      refine wv_vret hx hb hr hlocks h d_Md_subtract_73 ⟨rfl, ?_⟩
      refine Eq.trans ?_ (show va_up ev 44 (eJ G 160 (flat (va_up R ti (c3 (sbR (R xi) (R yi)) 3)))) = _ from rfl)
      funext j
      by_cases c0 : j = 44
      · rw [c0, t2_44, va_up_self]
      rw [va_up_ne _ _ c0]
      rw [o2, va_up_ne _ _ c0, o1, va_up_ne _ _ c0]
    | succ d ih =>
      intro k hk_k  ev1 H locs ls  o1 h hl
      have t1_44 : ev1 44 = eJ G 160 (fil (10 * ti) k (sbR (R xi) (R yi)) (flat R)) := by rw [o1, va_up_self]
      have t1_37 := (show ev1 37 = ev 37 by rw [o1, va_up_ne _ _ (by decide)]).trans h37
      refine lv_iload hx hb d_Md_subtract_3 (lv_at hl 0 rfl) ?_
      refine lv_bipush (v := nI (10)) hx hb d_Md_subtract_5 (by decide) ?_
      refine lv_icmp_ge (tgt := 68) hx hb d_Md_subtract_7 (by decide) (fun hc => absurd ((nI_leI (by omega) (by omega)).mp hc) (by omega)) (fun _ => ?_)
      refine lv_aload_n hx hb d_Md_subtract_10 rfl (lv_at hl 1 rfl) ?_
      refine wv_getf hx hb h 37 (by decide) (fs := [.ref (ad 38), .int (nI (tl)), .int (nI (ol)), .int (nI (cd)), .ref (ad 39), .ref (ad 40), .ref (ad 41), .ref (ad 42), .ref (ad 43), .ref (ad 44), .ref (ad 45), .ref (ad 46), .ref (ad 47), .ref (ad 48), .ref (ad 49), .ref (ad 50)]) t1_37 hts (fun w hw => List.mem_cons_of_mem _ (fW_Md w hw)) hown (ci := 5) (C := "NonceBoxModel") (T := fT_Md) (N := 16) rfl 9 (by decide) (hts _ (List.mem_cons_of_mem _ kf_Md_28)) rfl (v := .ref (ad 44)) rfl d_Md_subtract_11 ?_
      refine lv_bipush (v := nI (10)) hx hb d_Md_subtract_14 (by decide) ?_
      refine lv_iload_n hx hb d_Md_subtract_16 rfl (lv_at hl 2 rfl) ?_
      refine lv_imul hx hb d_Md_subtract_17 ?_
      refine wv_top (w := nI (10 * ti)) (pk_mul _ _) ?_
      refine lv_iload hx hb d_Md_subtract_18 (lv_at hl 0 rfl) ?_
      refine lv_iadd hx hb d_Md_subtract_20 ?_
      refine wv_top (w := nI ((10 * ti) + k)) (nI_add _ _) ?_
      refine lv_aload_n hx hb d_Md_subtract_21 rfl (lv_at hl 1 rfl) ?_
      refine wv_getf hx hb h 37 (by decide) (fs := [.ref (ad 38), .int (nI (tl)), .int (nI (ol)), .int (nI (cd)), .ref (ad 39), .ref (ad 40), .ref (ad 41), .ref (ad 42), .ref (ad 43), .ref (ad 44), .ref (ad 45), .ref (ad 46), .ref (ad 47), .ref (ad 48), .ref (ad 49), .ref (ad 50)]) t1_37 hts (fun w hw => List.mem_cons_of_mem _ (fW_Md w hw)) hown (ci := 5) (C := "NonceBoxModel") (T := fT_Md) (N := 16) rfl 9 (by decide) (hts _ (List.mem_cons_of_mem _ kf_Md_28)) rfl (v := .ref (ad 44)) rfl d_Md_subtract_22 ?_
      refine lv_bipush (v := nI (10)) hx hb d_Md_subtract_25 (by decide) ?_
      refine lv_iload_n hx hb d_Md_subtract_27 rfl (lv_at hl 3 rfl) ?_
      refine lv_imul hx hb d_Md_subtract_28 ?_
      refine wv_top (w := nI (10 * xi)) (pk_mul _ _) ?_
      refine lv_iload hx hb d_Md_subtract_29 (lv_at hl 0 rfl) ?_
      refine lv_iadd hx hb d_Md_subtract_31 ?_
      refine wv_top (w := nI ((10 * xi) + k)) (nI_add _ _) ?_
      refine wv_lald hx hb h 44 (by decide) (f := (fil (10 * ti) k (sbR (R xi) (R yi)) (flat R))) t1_44 (k := (10 * xi) + k) rfl (by omega) (by decide) d_Md_subtract_32 ?_
      refine wv_topl (w := R xi k) (fl_rd R ti xi _ (by omega)) ?_
      refine lv_aload_n hx hb d_Md_subtract_33 rfl (lv_at hl 1 rfl) ?_
      refine wv_getf hx hb h 37 (by decide) (fs := [.ref (ad 38), .int (nI (tl)), .int (nI (ol)), .int (nI (cd)), .ref (ad 39), .ref (ad 40), .ref (ad 41), .ref (ad 42), .ref (ad 43), .ref (ad 44), .ref (ad 45), .ref (ad 46), .ref (ad 47), .ref (ad 48), .ref (ad 49), .ref (ad 50)]) t1_37 hts (fun w hw => List.mem_cons_of_mem _ (fW_Md w hw)) hown (ci := 5) (C := "NonceBoxModel") (T := fT_Md) (N := 16) rfl 9 (by decide) (hts _ (List.mem_cons_of_mem _ kf_Md_28)) rfl (v := .ref (ad 44)) rfl d_Md_subtract_34 ?_
      refine lv_bipush (v := nI (10)) hx hb d_Md_subtract_37 (by decide) ?_
      refine lv_iload_n hx hb d_Md_subtract_39 rfl (lv_at hl 4 rfl) ?_
      refine lv_imul hx hb d_Md_subtract_40 ?_
      refine wv_top (w := nI (10 * yi)) (pk_mul _ _) ?_
      refine lv_iload hx hb d_Md_subtract_41 (lv_at hl 0 rfl) ?_
      refine lv_iadd hx hb d_Md_subtract_43 ?_
      refine wv_top (w := nI ((10 * yi) + k)) (nI_add _ _) ?_
      refine wv_lald hx hb h 44 (by decide) (f := (fil (10 * ti) k (sbR (R xi) (R yi)) (flat R))) t1_44 (k := (10 * yi) + k) rfl (by omega) (by decide) d_Md_subtract_44 ?_
      refine wv_topl (w := R yi k) (fl_rd R ti yi _ (by omega)) ?_
      refine lv_lsub hx hb d_Md_subtract_45 ?_
      refine lv_iload hx hb d_Md_subtract_46 (lv_at hl 0 rfl) ?_
      refine lv_if_ne (tgt := 57) hx hb d_Md_subtract_48 (by decide) (fun hc => ?_) (fun hc => ?_)
      · have hk0 : ¬ k = 0 := fun q => hc (by rw [q]; rfl)
        refine lv_ldc2 (v := 134217726) hx hb hown (hts _ (List.mem_cons_of_mem _ ko_Md_143)) d_Md_subtract_57 ?_
        refine lv_ladd hx hb d_Md_subtract_60 ?_
        refine wv_topl (w := (sbR (R xi) (R yi)) k) (by unfold sbR sbc; rw [if_neg hk0]) ?_
        refine wv_last hx hb h 44 (by decide) (f := (fil (10 * ti) k (sbR (R xi) (R yi)) (flat R))) t1_44 (k := (10 * ti) + k) rfl (by omega) (by decide) d_Md_subtract_61 (fun H locs h => ?_)
        obtain ⟨ev2, o2⟩ : ∃ z, z = va_up ev1 44 (eJ G 160 (va_up ((fil (10 * ti) k (sbR (R xi) (R yi)) (flat R))) ((10 * ti) + k) ((sbR (R xi) (R yi)) k))) := ⟨_, rfl⟩
        rw [← o2] at h
        have t2_44 : ev2 44 = eJ G 160 (va_up ((fil (10 * ti) k (sbR (R xi) (R yi)) (flat R))) ((10 * ti) + k) ((sbR (R xi) (R yi)) k)) := by rw [o2, va_up_self]
        have t2_37 := (show ev2 37 = ev1 37 by rw [o2, va_up_ne _ _ (by decide)]).trans t1_37
        refine lv_iinc (v := nI (k + 1)) (lv' := [(4, .int (nI (k + 1))), (0, .ref (ad 37)), (1, .int (nI (ti))), (2, .int (nI (xi))), (3, .int (nI (yi)))]) hx hb d_Md_subtract_62 hl (k := 0) rfl (nI_add _ _) (by decide) rfl (fun ls hl => ?_)
        refine lv_goto (tgt := 3) hx hb d_Md_subtract_65 (by decide) ?_
        refine ih (k + 1) (by omega) ev2 H locs ls ?_ h (lv_sub hl [0, 1, 2, 3, 4] rfl)
        rw [o2, o1, va_up2, ← fil_s (10 * ti) k (sbR (R xi) (R yi)) (flat R) rfl]
      · have hk0 : k = 0 := (nI_eq (by omega) (by decide)).mp (show nI k = nI 0 from hc)
        refine lv_ldc2 (v := 134216512) hx hb hown (hts _ (List.mem_cons_of_mem _ ko_Md_141)) d_Md_subtract_51 ?_
        refine lv_goto (tgt := 60) hx hb d_Md_subtract_54 (by decide) ?_
        refine lv_ladd hx hb d_Md_subtract_60 ?_
        refine wv_topl (w := (sbR (R xi) (R yi)) k) (by unfold sbR sbc; rw [if_pos hk0]) ?_
        refine wv_last hx hb h 44 (by decide) (f := (fil (10 * ti) k (sbR (R xi) (R yi)) (flat R))) t1_44 (k := (10 * ti) + k) rfl (by omega) (by decide) d_Md_subtract_61 (fun H locs h => ?_)
        obtain ⟨ev2, o2⟩ : ∃ z, z = va_up ev1 44 (eJ G 160 (va_up ((fil (10 * ti) k (sbR (R xi) (R yi)) (flat R))) ((10 * ti) + k) ((sbR (R xi) (R yi)) k))) := ⟨_, rfl⟩
        rw [← o2] at h
        have t2_44 : ev2 44 = eJ G 160 (va_up ((fil (10 * ti) k (sbR (R xi) (R yi)) (flat R))) ((10 * ti) + k) ((sbR (R xi) (R yi)) k)) := by rw [o2, va_up_self]
        have t2_37 := (show ev2 37 = ev1 37 by rw [o2, va_up_ne _ _ (by decide)]).trans t1_37
        refine lv_iinc (v := nI (k + 1)) (lv' := [(4, .int (nI (k + 1))), (0, .ref (ad 37)), (1, .int (nI (ti))), (2, .int (nI (xi))), (3, .int (nI (yi)))]) hx hb d_Md_subtract_62 hl (k := 0) rfl (nI_add _ _) (by decide) rfl (fun ls hl => ?_)
        refine lv_goto (tgt := 3) hx hb d_Md_subtract_65 (by decide) ?_
        refine ih (k + 1) (by omega) ev2 H locs ls ?_ h (lv_sub hl [0, 1, 2, 3, 4] rfl)
        rw [o2, o1, va_up2, ← fil_s (10 * ti) k (sbR (R xi) (R yi)) (flat R) rfl]
  exact loop1 10 0 rfl ev s.heap [] ls (by rw [fil_0, va_upi _ _ h44]) h (lv_sub hl [0, 1, 2, 3, 4] rfl)
theorem d_Md_times_0 : decode c_Md_times 0 = .ok (.iconst 0, 1) := by decide +kernel
theorem d_Md_times_1 : decode c_Md_times 1 = .ok (.istore 4, 2) := by decide +kernel
theorem d_Md_times_3 : decode c_Md_times 3 = .ok (.iload 4, 2) := by decide +kernel
theorem d_Md_times_5 : decode c_Md_times 5 = .ok (.bipush 20, 2) := by decide +kernel
theorem d_Md_times_7 : decode c_Md_times 7 = .ok (.if_icmp .ge 17, 3) := by decide +kernel
theorem d_Md_times_10 : decode c_Md_times 10 = .ok (.aload_n 0, 1) := by decide +kernel
theorem d_Md_times_11 : decode c_Md_times 11 = .ok (.getfield 32, 3) := by decide +kernel
theorem d_Md_times_14 : decode c_Md_times 14 = .ok (.iload 4, 2) := by decide +kernel
theorem d_Md_times_16 : decode c_Md_times 16 = .ok (.lconst 0, 1) := by decide +kernel
theorem d_Md_times_17 : decode c_Md_times 17 = .ok (.lastore, 1) := by decide +kernel
theorem d_Md_times_18 : decode c_Md_times 18 = .ok (.iinc 4 1, 3) := by decide +kernel
theorem d_Md_times_21 : decode c_Md_times 21 = .ok (.goto (-18), 3) := by decide +kernel
theorem d_Md_times_24 : decode c_Md_times 24 = .ok (.iconst 0, 1) := by decide +kernel
theorem d_Md_times_25 : decode c_Md_times 25 = .ok (.istore 4, 2) := by decide +kernel
theorem d_Md_times_27 : decode c_Md_times 27 = .ok (.iload 4, 2) := by decide +kernel
theorem d_Md_times_29 : decode c_Md_times 29 = .ok (.bipush 10, 2) := by decide +kernel
theorem d_Md_times_31 : decode c_Md_times 31 = .ok (.if_icmp .ge 75, 3) := by decide +kernel
theorem d_Md_times_34 : decode c_Md_times 34 = .ok (.aload_n 0, 1) := by decide +kernel
theorem d_Md_times_35 : decode c_Md_times 35 = .ok (.getfield 28, 3) := by decide +kernel
theorem d_Md_times_38 : decode c_Md_times 38 = .ok (.bipush 10, 2) := by decide +kernel
theorem d_Md_times_40 : decode c_Md_times 40 = .ok (.iload_n 2, 1) := by decide +kernel
theorem d_Md_times_41 : decode c_Md_times 41 = .ok (.imul, 1) := by decide +kernel
theorem d_Md_times_42 : decode c_Md_times 42 = .ok (.iload 4, 2) := by decide +kernel
theorem d_Md_times_44 : decode c_Md_times 44 = .ok (.iadd, 1) := by decide +kernel
theorem d_Md_times_45 : decode c_Md_times 45 = .ok (.laload, 1) := by decide +kernel
theorem d_Md_times_46 : decode c_Md_times 46 = .ok (.lstore 5, 2) := by decide +kernel
theorem d_Md_times_48 : decode c_Md_times 48 = .ok (.iconst 0, 1) := by decide +kernel
theorem d_Md_times_49 : decode c_Md_times 49 = .ok (.istore 7, 2) := by decide +kernel
theorem d_Md_times_51 : decode c_Md_times 51 = .ok (.iload 7, 2) := by decide +kernel
theorem d_Md_times_53 : decode c_Md_times 53 = .ok (.bipush 10, 2) := by decide +kernel
theorem d_Md_times_55 : decode c_Md_times 55 = .ok (.if_icmp .ge 45, 3) := by decide +kernel
theorem d_Md_times_58 : decode c_Md_times 58 = .ok (.aload_n 0, 1) := by decide +kernel
theorem d_Md_times_59 : decode c_Md_times 59 = .ok (.getfield 32, 3) := by decide +kernel
theorem d_Md_times_62 : decode c_Md_times 62 = .ok (.iload 4, 2) := by decide +kernel
theorem d_Md_times_64 : decode c_Md_times 64 = .ok (.iload 7, 2) := by decide +kernel
theorem d_Md_times_66 : decode c_Md_times 66 = .ok (.iadd, 1) := by decide +kernel
theorem d_Md_times_67 : decode c_Md_times 67 = .ok (.aload_n 0, 1) := by decide +kernel
theorem d_Md_times_68 : decode c_Md_times 68 = .ok (.getfield 32, 3) := by decide +kernel
theorem d_Md_times_71 : decode c_Md_times 71 = .ok (.iload 4, 2) := by decide +kernel
theorem d_Md_times_73 : decode c_Md_times 73 = .ok (.iload 7, 2) := by decide +kernel
theorem d_Md_times_75 : decode c_Md_times 75 = .ok (.iadd, 1) := by decide +kernel
theorem d_Md_times_76 : decode c_Md_times 76 = .ok (.laload, 1) := by decide +kernel
theorem d_Md_times_77 : decode c_Md_times 77 = .ok (.lload 5, 2) := by decide +kernel
theorem d_Md_times_79 : decode c_Md_times 79 = .ok (.aload_n 0, 1) := by decide +kernel
theorem d_Md_times_80 : decode c_Md_times 80 = .ok (.getfield 28, 3) := by decide +kernel
theorem d_Md_times_83 : decode c_Md_times 83 = .ok (.bipush 10, 2) := by decide +kernel
theorem d_Md_times_85 : decode c_Md_times 85 = .ok (.iload_n 3, 1) := by decide +kernel
theorem d_Md_times_86 : decode c_Md_times 86 = .ok (.imul, 1) := by decide +kernel
theorem d_Md_times_87 : decode c_Md_times 87 = .ok (.iload 7, 2) := by decide +kernel
theorem d_Md_times_89 : decode c_Md_times 89 = .ok (.iadd, 1) := by decide +kernel
theorem d_Md_times_90 : decode c_Md_times 90 = .ok (.laload, 1) := by decide +kernel
theorem d_Md_times_91 : decode c_Md_times 91 = .ok (.lmul, 1) := by decide +kernel
theorem d_Md_times_92 : decode c_Md_times 92 = .ok (.ladd, 1) := by decide +kernel
theorem d_Md_times_93 : decode c_Md_times 93 = .ok (.lastore, 1) := by decide +kernel
theorem d_Md_times_94 : decode c_Md_times 94 = .ok (.iinc 7 1, 3) := by decide +kernel
theorem d_Md_times_97 : decode c_Md_times 97 = .ok (.goto (-46), 3) := by decide +kernel
theorem d_Md_times_100 : decode c_Md_times 100 = .ok (.iinc 4 1, 3) := by decide +kernel
theorem d_Md_times_103 : decode c_Md_times 103 = .ok (.goto (-76), 3) := by decide +kernel
theorem d_Md_times_106 : decode c_Md_times 106 = .ok (.iconst 0, 1) := by decide +kernel
theorem d_Md_times_107 : decode c_Md_times 107 = .ok (.istore 4, 2) := by decide +kernel
theorem d_Md_times_109 : decode c_Md_times 109 = .ok (.iload 4, 2) := by decide +kernel
theorem d_Md_times_111 : decode c_Md_times 111 = .ok (.bipush 19, 2) := by decide +kernel
theorem d_Md_times_113 : decode c_Md_times 113 = .ok (.if_icmp .ge 56, 3) := by decide +kernel
theorem d_Md_times_116 : decode c_Md_times 116 = .ok (.aload_n 0, 1) := by decide +kernel
theorem d_Md_times_117 : decode c_Md_times 117 = .ok (.getfield 32, 3) := by decide +kernel
theorem d_Md_times_120 : decode c_Md_times 120 = .ok (.iload 4, 2) := by decide +kernel
theorem d_Md_times_122 : decode c_Md_times 122 = .ok (.iconst 1, 1) := by decide +kernel
theorem d_Md_times_123 : decode c_Md_times 123 = .ok (.iadd, 1) := by decide +kernel
theorem d_Md_times_124 : decode c_Md_times 124 = .ok (.aload_n 0, 1) := by decide +kernel
theorem d_Md_times_125 : decode c_Md_times 125 = .ok (.getfield 32, 3) := by decide +kernel
theorem d_Md_times_128 : decode c_Md_times 128 = .ok (.iload 4, 2) := by decide +kernel
theorem d_Md_times_130 : decode c_Md_times 130 = .ok (.iconst 1, 1) := by decide +kernel
theorem d_Md_times_131 : decode c_Md_times 131 = .ok (.iadd, 1) := by decide +kernel
theorem d_Md_times_132 : decode c_Md_times 132 = .ok (.laload, 1) := by decide +kernel
theorem d_Md_times_133 : decode c_Md_times 133 = .ok (.aload_n 0, 1) := by decide +kernel
theorem d_Md_times_134 : decode c_Md_times 134 = .ok (.getfield 32, 3) := by decide +kernel
theorem d_Md_times_137 : decode c_Md_times 137 = .ok (.iload 4, 2) := by decide +kernel
theorem d_Md_times_139 : decode c_Md_times 139 = .ok (.laload, 1) := by decide +kernel
theorem d_Md_times_140 : decode c_Md_times 140 = .ok (.bipush 26, 2) := by decide +kernel
theorem d_Md_times_142 : decode c_Md_times 142 = .ok (.lshr, 1) := by decide +kernel
theorem d_Md_times_143 : decode c_Md_times 143 = .ok (.ladd, 1) := by decide +kernel
theorem d_Md_times_144 : decode c_Md_times 144 = .ok (.lastore, 1) := by decide +kernel
theorem d_Md_times_145 : decode c_Md_times 145 = .ok (.aload_n 0, 1) := by decide +kernel
theorem d_Md_times_146 : decode c_Md_times 146 = .ok (.getfield 32, 3) := by decide +kernel
theorem d_Md_times_149 : decode c_Md_times 149 = .ok (.iload 4, 2) := by decide +kernel
theorem d_Md_times_151 : decode c_Md_times 151 = .ok (.aload_n 0, 1) := by decide +kernel
theorem d_Md_times_152 : decode c_Md_times 152 = .ok (.getfield 32, 3) := by decide +kernel
theorem d_Md_times_155 : decode c_Md_times 155 = .ok (.iload 4, 2) := by decide +kernel
theorem d_Md_times_157 : decode c_Md_times 157 = .ok (.laload, 1) := by decide +kernel
theorem d_Md_times_158 : decode c_Md_times 158 = .ok (.ldc2_w 113, 3) := by decide +kernel
theorem d_Md_times_161 : decode c_Md_times 161 = .ok (.land, 1) := by decide +kernel
theorem d_Md_times_162 : decode c_Md_times 162 = .ok (.lastore, 1) := by decide +kernel
theorem d_Md_times_163 : decode c_Md_times 163 = .ok (.iinc 4 1, 3) := by decide +kernel
theorem d_Md_times_166 : decode c_Md_times 166 = .ok (.goto (-57), 3) := by decide +kernel
theorem d_Md_times_169 : decode c_Md_times 169 = .ok (.iconst 0, 1) := by decide +kernel
theorem d_Md_times_170 : decode c_Md_times 170 = .ok (.istore 4, 2) := by decide +kernel
theorem d_Md_times_172 : decode c_Md_times 172 = .ok (.iload 4, 2) := by decide +kernel
theorem d_Md_times_174 : decode c_Md_times 174 = .ok (.bipush 10, 2) := by decide +kernel
theorem d_Md_times_176 : decode c_Md_times 176 = .ok (.if_icmp .ge 43, 3) := by decide +kernel
theorem d_Md_times_179 : decode c_Md_times 179 = .ok (.aload_n 0, 1) := by decide +kernel
theorem d_Md_times_180 : decode c_Md_times 180 = .ok (.getfield 28, 3) := by decide +kernel
theorem d_Md_times_183 : decode c_Md_times 183 = .ok (.bipush 10, 2) := by decide +kernel
theorem d_Md_times_185 : decode c_Md_times 185 = .ok (.iload_n 1, 1) := by decide +kernel
theorem d_Md_times_186 : decode c_Md_times 186 = .ok (.imul, 1) := by decide +kernel
theorem d_Md_times_187 : decode c_Md_times 187 = .ok (.iload 4, 2) := by decide +kernel
theorem d_Md_times_189 : decode c_Md_times 189 = .ok (.iadd, 1) := by decide +kernel
theorem d_Md_times_190 : decode c_Md_times 190 = .ok (.aload_n 0, 1) := by decide +kernel
theorem d_Md_times_191 : decode c_Md_times 191 = .ok (.getfield 32, 3) := by decide +kernel
theorem d_Md_times_194 : decode c_Md_times 194 = .ok (.iload 4, 2) := by decide +kernel
theorem d_Md_times_196 : decode c_Md_times 196 = .ok (.laload, 1) := by decide +kernel
theorem d_Md_times_197 : decode c_Md_times 197 = .ok (.ldc2_w 136, 3) := by decide +kernel
theorem d_Md_times_200 : decode c_Md_times 200 = .ok (.aload_n 0, 1) := by decide +kernel
theorem d_Md_times_201 : decode c_Md_times 201 = .ok (.getfield 32, 3) := by decide +kernel
theorem d_Md_times_204 : decode c_Md_times 204 = .ok (.iload 4, 2) := by decide +kernel
theorem d_Md_times_206 : decode c_Md_times 206 = .ok (.bipush 10, 2) := by decide +kernel
theorem d_Md_times_208 : decode c_Md_times 208 = .ok (.iadd, 1) := by decide +kernel
theorem d_Md_times_209 : decode c_Md_times 209 = .ok (.laload, 1) := by decide +kernel
theorem d_Md_times_210 : decode c_Md_times 210 = .ok (.lmul, 1) := by decide +kernel
theorem d_Md_times_211 : decode c_Md_times 211 = .ok (.ladd, 1) := by decide +kernel
theorem d_Md_times_212 : decode c_Md_times 212 = .ok (.lastore, 1) := by decide +kernel
theorem d_Md_times_213 : decode c_Md_times 213 = .ok (.iinc 4 1, 3) := by decide +kernel
theorem d_Md_times_216 : decode c_Md_times 216 = .ok (.goto (-44), 3) := by decide +kernel
theorem d_Md_times_219 : decode c_Md_times 219 = .ok (.aload_n 0, 1) := by decide +kernel
theorem d_Md_times_220 : decode c_Md_times 220 = .ok (.iload_n 1, 1) := by decide +kernel
theorem d_Md_times_221 : decode c_Md_times 221 = .ok (.invokevirtual 138, 3) := by decide +kernel
theorem d_Md_times_224 : decode c_Md_times 224 = .ok (.return_, 1) := by decide +kernel
set_option maxRecDepth 100000 in
set_option maxHeartbeats 4000000 in
/-- times -/
theorem m_Md_times (l : Launch) (G : wG) (A : Nat → Prop) (ad : Nat → Nat) (ev : Nat → va_E) (ti xi yi : Nat) (wd : Row) (R : Nat → Row) (tl ol cd : Nat) (h37 : ev 37 = eO 5 [.ref (ad 38), .int (nI tl), .int (nI ol), .int (nI cd), .ref (ad 39), .ref (ad 40), .ref (ad 41), .ref (ad 42), .ref (ad 43), .ref (ad 44), .ref (ad 45), .ref (ad 46), .ref (ad 47), .ref (ad 48), .ref (ad 49), .ref (ad 50)]) (h44 : ev 44 = eJ G 160 (flat R)) (h45 : ev 45 = eJ G 20 wd) (hti : ti < 16) (hxi : xi < 16) (hyi : yi < 16) : wM l y_Md_times w_Md_times ({ frames := 3, cells := 0, slots := 0, locals := 100 }) G A 52 ad ev [.ref (ad 37), .int (nI (ti)), .int (nI (xi)), .int (nI (yi))] (fun ov ev' => ov = none ∧ ev' = va_up (va_up ev 45 (eJ G 20 (wdC (R xi) (R yi) 10))) 44 (eJ G 160 (flat (va_up R ti (rtm (R xi) (R yi)))))) := by
  refine wv_ofW (cc := c_Md_times) (maxL := 8) (ret := none) (by decide) rfl (Nat.le_of_ble_eq_true rfl) ?_
  intro p e s m below meth c ls hx hb hr hml hts hown hlocks hini h hl
  have hl : lv_has ls 8 [(0, .ref (ad 37)), (1, .int (nI (ti))), (2, .int (nI (xi))), (3, .int (nI (yi)))] := hl
  refine lv_iconst (v := nI (0)) hx hb d_Md_times_0 (by decide) ?_
  refine lv_istore (lv' := [(4, .int (nI (0))), (0, .ref (ad 37)), (1, .int (nI (ti))), (2, .int (nI (xi))), (3, .int (nI (yi)))]) hx hb d_Md_times_1 hl (by decide) rfl (fun ls hl => ?_)
  have loop1 : ∀ (d k1 : Nat), k1 + d = 20 →  ∀ (ev1 : Nat → va_E) (H : Heap) (locs : List Loc) (ls : Array Slot), ev1 = (va_up ev 45 (eJ G 20 (fil 0 k1 (fun _ => 0) wd))) → wT G A 52 ad ev1 s H locs → lv_has ls 8 [(4, .int (nI (k1))), (0, .ref (ad 37)), (1, .int (nI (ti))), (2, .int (nI (xi))), (3, .int (nI (yi)))] → W p l e ({ frames := 3, cells := 0, slots := 0, locals := 100 }) s m ([.ref (ad 37), .int (nI (ti)), .int (nI (xi)), .int (nI (yi))] : List Value).toArray below meth c H locs 0 0 (MQ below (wQc G A 52 ad (fun ov ev' => ov = none ∧ ev' = va_up (va_up ev 45 (eJ G 20 (wdC (R xi) (R yi) 10))) 44 (eJ G 160 (flat (va_up R ti (rtm (R xi) (R yi))))))) ([.ref (ad 37), .int (nI (ti)), .int (nI (xi)), .int (nI (yi))] : List Value).toArray s 0 0 A) (F0 m 3 ls []) := by
    intro d
    induction d with
    | zero =>
      intro k1 hk_k1  ev1 H locs ls  o1 h hl
      have t1_45 : ev1 45 = eJ G 20 (fil 0 k1 (fun _ => 0) wd) := by rw [o1, va_up_self]
      have t1_44 := (show ev1 44 = ev 44 by rw [o1, va_up_ne _ _ (by decide)]).trans h44
      have t1_37 := (show ev1 37 = ev 37 by rw [o1, va_up_ne _ _ (by decide)]).trans h37
      refine lv_iload hx hb d_Md_times_3 (lv_at hl 0 rfl) ?_
      refine lv_bipush (v := nI (20)) hx hb d_Md_times_5 (by decide) ?_
      refine lv_icmp_ge (tgt := 24) hx hb d_Md_times_7 (by decide) (fun _ => ?_) (fun hc => absurd ((nI_leI (by omega) (by omega)).mpr (by omega)) hc)
      have h := wT_eqJ (g := (fun _ => 0)) h 45 (by decide) t1_45 (fun j hj => by unfold fil; rw [if_pos (by omega)])
      obtain ⟨ev2, o2⟩ : ∃ z, z = va_up ev1 45 (eJ G 20 (fun _ => 0)) := ⟨_, rfl⟩
      rw [← o2] at h
      have t2_45 : ev2 45 = eJ G 20 (fun _ => 0) := by rw [o2, va_up_self]
      have t2_44 := (show ev2 44 = ev1 44 by rw [o2, va_up_ne _ _ (by decide)]).trans t1_44
      have t2_37 := (show ev2 37 = ev1 37 by rw [o2, va_up_ne _ _ (by decide)]).trans t1_37
      refine lv_iconst (v := nI (0)) hx hb d_Md_times_24 (by decide) ?_
      refine lv_istore (lv' := [(4, .int (nI (0))), (0, .ref (ad 37)), (1, .int (nI (ti))), (2, .int (nI (xi))), (3, .int (nI (yi)))]) hx hb d_Md_times_25 hl (by decide) rfl (fun ls hl => ?_)
      have loop3 : ∀ (d i : Nat), i + d = 10 →  ∀ (ev3 : Nat → va_E) (H : Heap) (locs : List Loc) (ls : Array Slot), ev3 = (va_up ev2 45 (eJ G 20 (mulW (R xi) (R yi) 10 i))) → wT G A 52 ad ev3 s H locs → lv_has ls 8 [(4, .int (nI (i))), (0, .ref (ad 37)), (1, .int (nI (ti))), (2, .int (nI (xi))), (3, .int (nI (yi)))] → W p l e ({ frames := 3, cells := 0, slots := 0, locals := 100 }) s m ([.ref (ad 37), .int (nI (ti)), .int (nI (xi)), .int (nI (yi))] : List Value).toArray below meth c H locs 0 0 (MQ below (wQc G A 52 ad (fun ov ev' => ov = none ∧ ev' = va_up (va_up ev 45 (eJ G 20 (wdC (R xi) (R yi) 10))) 44 (eJ G 160 (flat (va_up R ti (rtm (R xi) (R yi))))))) ([.ref (ad 37), .int (nI (ti)), .int (nI (xi)), .int (nI (yi))] : List Value).toArray s 0 0 A) (F0 m 27 ls []) := by
        intro d
        induction d with
        | zero =>
          intro i hk_i  ev3 H locs ls  o3 h hl
          have t3_45 : ev3 45 = eJ G 20 (mulW (R xi) (R yi) 10 i) := by rw [o3, va_up_self]
          have t3_44 := (show ev3 44 = ev2 44 by rw [o3, va_up_ne _ _ (by decide)]).trans t2_44
          have t3_37 := (show ev3 37 = ev2 37 by rw [o3, va_up_ne _ _ (by decide)]).trans t2_37
          refine lv_iload hx hb d_Md_times_27 (lv_at hl 0 rfl) ?_
          refine lv_bipush (v := nI (10)) hx hb d_Md_times_29 (by decide) ?_
          refine lv_icmp_ge (tgt := 106) hx hb d_Md_times_31 (by decide) (fun _ => ?_) (fun hc => absurd ((nI_leI (by omega) (by omega)).mpr (by omega)) hc)
          rw [show i = 10 by omega] at t3_45
          refine lv_iconst (v := nI (0)) hx hb d_Md_times_106 (by decide) ?_
          refine lv_istore (lv' := [(4, .int (nI (0))), (0, .ref (ad 37)), (1, .int (nI (ti))), (2, .int (nI (xi))), (3, .int (nI (yi)))]) hx hb d_Md_times_107 hl (by decide) rfl (fun ls hl => ?_)
          have loop4 : ∀ (d k4 : Nat), k4 + d = 19 →  ∀ (ev4 : Nat → va_E) (H : Heap) (locs : List Loc) (ls : Array Slot), ev4 = (va_up ev3 45 (eJ G 20 (cry (mulW (R xi) (R yi) 10 10) k4))) → wT G A 52 ad ev4 s H locs → lv_has ls 8 [(4, .int (nI (k4))), (0, .ref (ad 37)), (1, .int (nI (ti))), (2, .int (nI (xi))), (3, .int (nI (yi)))] → W p l e ({ frames := 3, cells := 0, slots := 0, locals := 100 }) s m ([.ref (ad 37), .int (nI (ti)), .int (nI (xi)), .int (nI (yi))] : List Value).toArray below meth c H locs 0 0 (MQ below (wQc G A 52 ad (fun ov ev' => ov = none ∧ ev' = va_up (va_up ev 45 (eJ G 20 (wdC (R xi) (R yi) 10))) 44 (eJ G 160 (flat (va_up R ti (rtm (R xi) (R yi))))))) ([.ref (ad 37), .int (nI (ti)), .int (nI (xi)), .int (nI (yi))] : List Value).toArray s 0 0 A) (F0 m 109 ls []) := by
            intro d
            induction d with
            | zero =>
              intro k4 hk_k4  ev4 H locs ls  o4 h hl
              have t4_45 : ev4 45 = eJ G 20 (cry (mulW (R xi) (R yi) 10 10) k4) := by rw [o4, va_up_self]
              have t4_44 := (show ev4 44 = ev3 44 by rw [o4, va_up_ne _ _ (by decide)]).trans t3_44
              have t4_37 := (show ev4 37 = ev3 37 by rw [o4, va_up_ne _ _ (by decide)]).trans t3_37
              refine lv_iload hx hb d_Md_times_109 (lv_at hl 0 rfl) ?_
              refine lv_bipush (v := nI (19)) hx hb d_Md_times_111 (by decide) ?_
              refine lv_icmp_ge (tgt := 169) hx hb d_Md_times_113 (by decide) (fun _ => ?_) (fun hc => absurd ((nI_leI (by omega) (by omega)).mpr (by omega)) hc)
              rw [show k4 = 19 by omega] at t4_45
              have t4_45x : ev4 45 = eJ G 20 (wdC (R xi) (R yi) 10) := t4_45
              refine lv_iconst (v := nI (0)) hx hb d_Md_times_169 (by decide) ?_
              refine lv_istore (lv' := [(4, .int (nI (0))), (0, .ref (ad 37)), (1, .int (nI (ti))), (2, .int (nI (xi))), (3, .int (nI (yi)))]) hx hb d_Md_times_170 hl (by decide) rfl (fun ls hl => ?_)
              have loop5 : ∀ (d k : Nat), k + d = 10 →  ∀ (ev5 : Nat → va_E) (H : Heap) (locs : List Loc) (ls : Array Slot), ev5 = (va_up ev4 44 (eJ G 160 (fil (10 * ti) k (fld 10 608 (wdC (R xi) (R yi) 10)) (flat R)))) → wT G A 52 ad ev5 s H locs → lv_has ls 8 [(4, .int (nI (k))), (0, .ref (ad 37)), (1, .int (nI (ti))), (2, .int (nI (xi))), (3, .int (nI (yi)))] → W p l e ({ frames := 3, cells := 0, slots := 0, locals := 100 }) s m ([.ref (ad 37), .int (nI (ti)), .int (nI (xi)), .int (nI (yi))] : List Value).toArray below meth c H locs 0 0 (MQ below (wQc G A 52 ad (fun ov ev' => ov = none ∧ ev' = va_up (va_up ev 45 (eJ G 20 (wdC (R xi) (R yi) 10))) 44 (eJ G 160 (flat (va_up R ti (rtm (R xi) (R yi))))))) ([.ref (ad 37), .int (nI (ti)), .int (nI (xi)), .int (nI (yi))] : List Value).toArray s 0 0 A) (F0 m 172 ls []) := by
                intro d
                induction d with
                | zero =>
                  intro k hk_k  ev5 H locs ls  o5 h hl
                  have t5_44 : ev5 44 = eJ G 160 (fil (10 * ti) k (fld 10 608 (wdC (R xi) (R yi) 10)) (flat R)) := by rw [o5, va_up_self]
                  have t5_45 := (show ev5 45 = ev4 45 by rw [o5, va_up_ne _ _ (by decide)]).trans t4_45x
                  have t5_37 := (show ev5 37 = ev4 37 by rw [o5, va_up_ne _ _ (by decide)]).trans t4_37
                  refine lv_iload hx hb d_Md_times_172 (lv_at hl 0 rfl) ?_
                  refine lv_bipush (v := nI (10)) hx hb d_Md_times_174 (by decide) ?_
                  refine lv_icmp_ge (tgt := 219) hx hb d_Md_times_176 (by decide) (fun _ => ?_) (fun hc => absurd ((nI_leI (by omega) (by omega)).mpr (by omega)) hc)
                  rw [show k = 10 by omega, fil_flat] at t5_44
                  refine lv_aload_n hx hb d_Md_times_219 rfl (lv_at hl 1 rfl) ?_
                  refine lv_iload_n hx hb d_Md_times_220 rfl (lv_at hl 2 rfl) ?_
                  refine wv_V (As := [.int (nI (ti))]) (rest := []) (k := 1) ⟨hx, hb, hml, hown, hts⟩ h 37 (by decide) (C := "NonceBoxModel") t5_37 rfl (m_Md_carry l G A ad ev5 ti (va_up R ti (fld 10 608 (wdC (R xi) (R yi) 10))) tl ol cd t5_37 t5_44 (by omega)) kc_Md_carry kl_Md_138 km_Md_carry kv_Md_carry ki_Md (by decide +kernel) ⟨rfl, rfl, Nat.le_of_ble_eq_true rfl, Nat.le_of_ble_eq_true rfl⟩ hl.1 rfl rfl (Nat.le_of_ble_eq_true rfl) ⟨Nat.le_refl _, Nat.le_refl _⟩ d_Md_times_221 ?_
                  intro ov ev6 H locs hp h
                  rw [hp.1]
                  refine W.eq (g2 := F0 m 224 ls []) rfl ?_
                  have o6 : ev6 = (va_up ev5 44 (eJ G 160 (flat (va_up (va_up R ti (fld 10 608 (wdC (R xi) (R yi) 10))) ti (c3 ((va_up R ti (fld 10 608 (wdC (R xi) (R yi) 10))) ti) 3))))) := hp.2
                  have t6_44 : ev6 44 = eJ G 160 (flat (va_up (va_up R ti (fld 10 608 (wdC (R xi) (R yi) 10))) ti (c3 ((va_up R ti (fld 10 608 (wdC (R xi) (R yi) 10))) ti) 3))) := by rw [o6, va_up_self]
                  have t6_45 := (show ev6 45 = ev5 45 by rw [o6, va_up_ne _ _ (by decide)]).trans t5_45
                  have t6_37 := (show ev6 37 = ev5 37 by rw [o6, va_up_ne _ _ (by decide)]).trans t5_37
                  rw [va_up_self, va_up2] at t6_44
                  refine wv_vret hx hb hr hlocks h d_Md_times_224 ⟨rfl, ?_⟩
                  refine Eq.trans ?_ (show va_up (va_up ev 45 (eJ G 20 (wdC (R xi) (R yi) 10))) 44 (eJ G 160 (flat (va_up R ti (c3 (fld 10 608 (wdC (R xi) (R yi) 10)) 3)))) = _ from rfl)
                  funext j
                  by_cases c0 : j = 45
                  · rw [c0, t6_45, va_up_ne _ _ (by decide), va_up_self]
                  by_cases c1 : j = 44
                  · rw [c1, t6_44, va_up_self]
                  rw [va_up_ne _ _ c1, va_up_ne _ _ c0]
                  rw [o6, va_up_ne _ _ c1, o5, va_up_ne _ _ c1, o4, va_up_ne _ _ c0, o3, va_up_ne _ _ c0, o2, va_up_ne _ _ c0, o1, va_up_ne _ _ c0]
                | succ d ih =>
                  intro k hk_k  ev5 H locs ls  o5 h hl
                  have t5_44 : ev5 44 = eJ G 160 (fil (10 * ti) k (fld 10 608 (wdC (R xi) (R yi) 10)) (flat R)) := by rw [o5, va_up_self]
                  have t5_45 := (show ev5 45 = ev4 45 by rw [o5, va_up_ne _ _ (by decide)]).trans t4_45x
                  have t5_37 := (show ev5 37 = ev4 37 by rw [o5, va_up_ne _ _ (by decide)]).trans t4_37
                  refine lv_iload hx hb d_Md_times_172 (lv_at hl 0 rfl) ?_
                  refine lv_bipush (v := nI (10)) hx hb d_Md_times_174 (by decide) ?_
                  refine lv_icmp_ge (tgt := 219) hx hb d_Md_times_176 (by decide) (fun hc => absurd ((nI_leI (by omega) (by omega)).mp hc) (by omega)) (fun _ => ?_)
                  refine lv_aload_n hx hb d_Md_times_179 rfl (lv_at hl 1 rfl) ?_
                  refine wv_getf hx hb h 37 (by decide) (fs := [.ref (ad 38), .int (nI (tl)), .int (nI (ol)), .int (nI (cd)), .ref (ad 39), .ref (ad 40), .ref (ad 41), .ref (ad 42), .ref (ad 43), .ref (ad 44), .ref (ad 45), .ref (ad 46), .ref (ad 47), .ref (ad 48), .ref (ad 49), .ref (ad 50)]) t5_37 hts (fun w hw => List.mem_cons_of_mem _ (fW_Md w hw)) hown (ci := 5) (C := "NonceBoxModel") (T := fT_Md) (N := 16) rfl 9 (by decide) (hts _ (List.mem_cons_of_mem _ kf_Md_28)) rfl (v := .ref (ad 44)) rfl d_Md_times_180 ?_
                  refine lv_bipush (v := nI (10)) hx hb d_Md_times_183 (by decide) ?_
                  refine lv_iload_n hx hb d_Md_times_185 rfl (lv_at hl 2 rfl) ?_
                  refine lv_imul hx hb d_Md_times_186 ?_
                  refine wv_top (w := nI (10 * ti)) (pk_mul _ _) ?_
                  refine lv_iload hx hb d_Md_times_187 (lv_at hl 0 rfl) ?_
                  refine lv_iadd hx hb d_Md_times_189 ?_
                  refine wv_top (w := nI ((10 * ti) + k)) (nI_add _ _) ?_
                  refine lv_aload_n hx hb d_Md_times_190 rfl (lv_at hl 1 rfl) ?_
                  refine wv_getf hx hb h 37 (by decide) (fs := [.ref (ad 38), .int (nI (tl)), .int (nI (ol)), .int (nI (cd)), .ref (ad 39), .ref (ad 40), .ref (ad 41), .ref (ad 42), .ref (ad 43), .ref (ad 44), .ref (ad 45), .ref (ad 46), .ref (ad 47), .ref (ad 48), .ref (ad 49), .ref (ad 50)]) t5_37 hts (fun w hw => List.mem_cons_of_mem _ (fW_Md w hw)) hown (ci := 5) (C := "NonceBoxModel") (T := fT_Md) (N := 16) rfl 10 (by decide) (hts _ (List.mem_cons_of_mem _ kf_Md_32)) rfl (v := .ref (ad 45)) rfl d_Md_times_191 ?_
                  refine lv_iload hx hb d_Md_times_194 (lv_at hl 0 rfl) ?_
                  refine wv_lald hx hb h 45 (by decide) (f := (wdC (R xi) (R yi) 10)) t5_45 (k := k) rfl (by omega) (by decide) d_Md_times_196 ?_
                  refine lv_ldc2 (v := 608) hx hb hown (hts _ (List.mem_cons_of_mem _ ko_Md_136)) d_Md_times_197 ?_
                  refine lv_aload_n hx hb d_Md_times_200 rfl (lv_at hl 1 rfl) ?_
                  refine wv_getf hx hb h 37 (by decide) (fs := [.ref (ad 38), .int (nI (tl)), .int (nI (ol)), .int (nI (cd)), .ref (ad 39), .ref (ad 40), .ref (ad 41), .ref (ad 42), .ref (ad 43), .ref (ad 44), .ref (ad 45), .ref (ad 46), .ref (ad 47), .ref (ad 48), .ref (ad 49), .ref (ad 50)]) t5_37 hts (fun w hw => List.mem_cons_of_mem _ (fW_Md w hw)) hown (ci := 5) (C := "NonceBoxModel") (T := fT_Md) (N := 16) rfl 10 (by decide) (hts _ (List.mem_cons_of_mem _ kf_Md_32)) rfl (v := .ref (ad 45)) rfl d_Md_times_201 ?_
                  refine lv_iload hx hb d_Md_times_204 (lv_at hl 0 rfl) ?_
                  refine lv_bipush (v := nI (10)) hx hb d_Md_times_206 (by decide) ?_
                  refine lv_iadd hx hb d_Md_times_208 ?_
                  refine wv_top (w := nI (k + 10)) (nI_add _ _) ?_
                  refine wv_lald hx hb h 45 (by decide) (f := (wdC (R xi) (R yi) 10)) t5_45 (k := k + 10) rfl (by omega) (by decide) d_Md_times_209 ?_
                  refine wv_topl (w := (wdC (R xi) (R yi) 10) (10 + k)) (congrArg _ (Nat.add_comm _ _)) ?_
                  refine lv_lmul hx hb d_Md_times_210 ?_
                  refine lv_ladd hx hb d_Md_times_211 ?_
                  refine wv_topl (w := (fld 10 608 (wdC (R xi) (R yi) 10)) k) rfl ?_
                  refine wv_last hx hb h 44 (by decide) (f := (fil (10 * ti) k (fld 10 608 (wdC (R xi) (R yi) 10)) (flat R))) t5_44 (k := (10 * ti) + k) rfl (by omega) (by decide) d_Md_times_212 (fun H locs h => ?_)
                  obtain ⟨ev6, o6⟩ : ∃ z, z = va_up ev5 44 (eJ G 160 (va_up ((fil (10 * ti) k (fld 10 608 (wdC (R xi) (R yi) 10)) (flat R))) ((10 * ti) + k) ((fld 10 608 (wdC (R xi) (R yi) 10)) k))) := ⟨_, rfl⟩
                  rw [← o6] at h
                  have t6_44 : ev6 44 = eJ G 160 (va_up ((fil (10 * ti) k (fld 10 608 (wdC (R xi) (R yi) 10)) (flat R))) ((10 * ti) + k) ((fld 10 608 (wdC (R xi) (R yi) 10)) k)) := by rw [o6, va_up_self]
                  have t6_45 := (show ev6 45 = ev5 45 by rw [o6, va_up_ne _ _ (by decide)]).trans t5_45
                  have t6_37 := (show ev6 37 = ev5 37 by rw [o6, va_up_ne _ _ (by decide)]).trans t5_37
                  refine lv_iinc (v := nI (k + 1)) (lv' := [(4, .int (nI (k + 1))), (0, .ref (ad 37)), (1, .int (nI (ti))), (2, .int (nI (xi))), (3, .int (nI (yi)))]) hx hb d_Md_times_213 hl (k := 0) rfl (nI_add _ _) (by decide) rfl (fun ls hl => ?_)
                  refine lv_goto (tgt := 172) hx hb d_Md_times_216 (by decide) ?_
                  refine ih (k + 1) (by omega) ev6 H locs ls ?_ h (lv_sub hl [0, 1, 2, 3, 4] rfl)
                  rw [o6, o5, va_up2, ← fil_s (10 * ti) k (fld 10 608 (wdC (R xi) (R yi) 10)) (flat R) rfl]
              exact loop5 10 0 rfl ev4 H locs ls (by rw [fil_0, va_upi _ _ t4_44]) h (lv_sub hl [0, 1, 2, 3, 4] rfl)
            | succ d ih =>
              intro k4 hk_k4  ev4 H locs ls  o4 h hl
              have t4_45 : ev4 45 = eJ G 20 (cry (mulW (R xi) (R yi) 10 10) k4) := by rw [o4, va_up_self]
              have t4_44 := (show ev4 44 = ev3 44 by rw [o4, va_up_ne _ _ (by decide)]).trans t3_44
              have t4_37 := (show ev4 37 = ev3 37 by rw [o4, va_up_ne _ _ (by decide)]).trans t3_37
              refine lv_iload hx hb d_Md_times_109 (lv_at hl 0 rfl) ?_
              refine lv_bipush (v := nI (19)) hx hb d_Md_times_111 (by decide) ?_
              refine lv_icmp_ge (tgt := 169) hx hb d_Md_times_113 (by decide) (fun hc => absurd ((nI_leI (by omega) (by omega)).mp hc) (by omega)) (fun _ => ?_)
              refine lv_aload_n hx hb d_Md_times_116 rfl (lv_at hl 1 rfl) ?_
              refine wv_getf hx hb h 37 (by decide) (fs := [.ref (ad 38), .int (nI (tl)), .int (nI (ol)), .int (nI (cd)), .ref (ad 39), .ref (ad 40), .ref (ad 41), .ref (ad 42), .ref (ad 43), .ref (ad 44), .ref (ad 45), .ref (ad 46), .ref (ad 47), .ref (ad 48), .ref (ad 49), .ref (ad 50)]) t4_37 hts (fun w hw => List.mem_cons_of_mem _ (fW_Md w hw)) hown (ci := 5) (C := "NonceBoxModel") (T := fT_Md) (N := 16) rfl 10 (by decide) (hts _ (List.mem_cons_of_mem _ kf_Md_32)) rfl (v := .ref (ad 45)) rfl d_Md_times_117 ?_
              refine lv_iload hx hb d_Md_times_120 (lv_at hl 0 rfl) ?_
              refine lv_iconst (v := nI (1)) hx hb d_Md_times_122 (by decide) ?_
              refine lv_iadd hx hb d_Md_times_123 ?_
              refine wv_top (w := nI (k4 + 1)) (nI_add _ _) ?_
              refine lv_aload_n hx hb d_Md_times_124 rfl (lv_at hl 1 rfl) ?_
              refine wv_getf hx hb h 37 (by decide) (fs := [.ref (ad 38), .int (nI (tl)), .int (nI (ol)), .int (nI (cd)), .ref (ad 39), .ref (ad 40), .ref (ad 41), .ref (ad 42), .ref (ad 43), .ref (ad 44), .ref (ad 45), .ref (ad 46), .ref (ad 47), .ref (ad 48), .ref (ad 49), .ref (ad 50)]) t4_37 hts (fun w hw => List.mem_cons_of_mem _ (fW_Md w hw)) hown (ci := 5) (C := "NonceBoxModel") (T := fT_Md) (N := 16) rfl 10 (by decide) (hts _ (List.mem_cons_of_mem _ kf_Md_32)) rfl (v := .ref (ad 45)) rfl d_Md_times_125 ?_
              refine lv_iload hx hb d_Md_times_128 (lv_at hl 0 rfl) ?_
              refine lv_iconst (v := nI (1)) hx hb d_Md_times_130 (by decide) ?_
              refine lv_iadd hx hb d_Md_times_131 ?_
              refine wv_top (w := nI (k4 + 1)) (nI_add _ _) ?_
              refine wv_lald hx hb h 45 (by decide) (f := (cry (mulW (R xi) (R yi) 10 10) k4)) t4_45 (k := k4 + 1) rfl (by omega) (by decide) d_Md_times_132 ?_
              refine lv_aload_n hx hb d_Md_times_133 rfl (lv_at hl 1 rfl) ?_
              refine wv_getf hx hb h 37 (by decide) (fs := [.ref (ad 38), .int (nI (tl)), .int (nI (ol)), .int (nI (cd)), .ref (ad 39), .ref (ad 40), .ref (ad 41), .ref (ad 42), .ref (ad 43), .ref (ad 44), .ref (ad 45), .ref (ad 46), .ref (ad 47), .ref (ad 48), .ref (ad 49), .ref (ad 50)]) t4_37 hts (fun w hw => List.mem_cons_of_mem _ (fW_Md w hw)) hown (ci := 5) (C := "NonceBoxModel") (T := fT_Md) (N := 16) rfl 10 (by decide) (hts _ (List.mem_cons_of_mem _ kf_Md_32)) rfl (v := .ref (ad 45)) rfl d_Md_times_134 ?_
              refine lv_iload hx hb d_Md_times_137 (lv_at hl 0 rfl) ?_
              refine wv_lald hx hb h 45 (by decide) (f := (cry (mulW (R xi) (R yi) 10 10) k4)) t4_45 (k := k4) rfl (by omega) (by decide) d_Md_times_139 ?_
              refine lv_bipush (v := nI (26)) hx hb d_Md_times_140 (by decide) ?_
              refine lv_lshr (v := sar (((cry (mulW (R xi) (R yi) 10 10) k4)) k4) 26) hx hb d_Md_times_142 rfl ?_
              refine lv_ladd hx hb d_Md_times_143 ?_
              refine wv_last hx hb h 45 (by decide) (f := (cry (mulW (R xi) (R yi) 10 10) k4)) t4_45 (k := k4 + 1) rfl (by omega) (by decide) d_Md_times_144 (fun H locs h => ?_)
              obtain ⟨ev5, o5⟩ : ∃ z, z = va_up ev4 45 (eJ G 20 (va_up ((cry (mulW (R xi) (R yi) 10 10) k4)) (k4 + 1) ((((cry (mulW (R xi) (R yi) 10 10) k4)) (k4 + 1)) + (sar (((cry (mulW (R xi) (R yi) 10 10) k4)) k4) 26)))) := ⟨_, rfl⟩
              rw [← o5] at h
              have t5_45 : ev5 45 = eJ G 20 (va_up ((cry (mulW (R xi) (R yi) 10 10) k4)) (k4 + 1) ((((cry (mulW (R xi) (R yi) 10 10) k4)) (k4 + 1)) + (sar (((cry (mulW (R xi) (R yi) 10 10) k4)) k4) 26))) := by rw [o5, va_up_self]
              have t5_44 := (show ev5 44 = ev4 44 by rw [o5, va_up_ne _ _ (by decide)]).trans t4_44
              have t5_37 := (show ev5 37 = ev4 37 by rw [o5, va_up_ne _ _ (by decide)]).trans t4_37
              refine lv_aload_n hx hb d_Md_times_145 rfl (lv_at hl 1 rfl) ?_
              refine wv_getf hx hb h 37 (by decide) (fs := [.ref (ad 38), .int (nI (tl)), .int (nI (ol)), .int (nI (cd)), .ref (ad 39), .ref (ad 40), .ref (ad 41), .ref (ad 42), .ref (ad 43), .ref (ad 44), .ref (ad 45), .ref (ad 46), .ref (ad 47), .ref (ad 48), .ref (ad 49), .ref (ad 50)]) t5_37 hts (fun w hw => List.mem_cons_of_mem _ (fW_Md w hw)) hown (ci := 5) (C := "NonceBoxModel") (T := fT_Md) (N := 16) rfl 10 (by decide) (hts _ (List.mem_cons_of_mem _ kf_Md_32)) rfl (v := .ref (ad 45)) rfl d_Md_times_146 ?_
              refine lv_iload hx hb d_Md_times_149 (lv_at hl 0 rfl) ?_
              refine lv_aload_n hx hb d_Md_times_151 rfl (lv_at hl 1 rfl) ?_
              refine wv_getf hx hb h 37 (by decide) (fs := [.ref (ad 38), .int (nI (tl)), .int (nI (ol)), .int (nI (cd)), .ref (ad 39), .ref (ad 40), .ref (ad 41), .ref (ad 42), .ref (ad 43), .ref (ad 44), .ref (ad 45), .ref (ad 46), .ref (ad 47), .ref (ad 48), .ref (ad 49), .ref (ad 50)]) t5_37 hts (fun w hw => List.mem_cons_of_mem _ (fW_Md w hw)) hown (ci := 5) (C := "NonceBoxModel") (T := fT_Md) (N := 16) rfl 10 (by decide) (hts _ (List.mem_cons_of_mem _ kf_Md_32)) rfl (v := .ref (ad 45)) rfl d_Md_times_152 ?_
              refine lv_iload hx hb d_Md_times_155 (lv_at hl 0 rfl) ?_
              refine wv_lald hx hb h 45 (by decide) (f := (va_up ((cry (mulW (R xi) (R yi) 10 10) k4)) (k4 + 1) ((((cry (mulW (R xi) (R yi) 10 10) k4)) (k4 + 1)) + (sar (((cry (mulW (R xi) (R yi) 10 10) k4)) k4) 26)))) t5_45 (k := k4) rfl (by omega) (by decide) d_Md_times_157 ?_
              refine lv_ldc2 (v := 67108863) hx hb hown (hts _ (List.mem_cons_of_mem _ ko_Md_113)) d_Md_times_158 ?_
              refine lv_land hx hb d_Md_times_161 ?_
              refine wv_last hx hb h 45 (by decide) (f := (va_up ((cry (mulW (R xi) (R yi) 10 10) k4)) (k4 + 1) ((((cry (mulW (R xi) (R yi) 10 10) k4)) (k4 + 1)) + (sar (((cry (mulW (R xi) (R yi) 10 10) k4)) k4) 26)))) t5_45 (k := k4) rfl (by omega) (by decide) d_Md_times_162 (fun H locs h => ?_)
              obtain ⟨ev6, o6⟩ : ∃ z, z = va_up ev5 45 (eJ G 20 (va_up ((va_up ((cry (mulW (R xi) (R yi) 10 10) k4)) (k4 + 1) ((((cry (mulW (R xi) (R yi) 10 10) k4)) (k4 + 1)) + (sar (((cry (mulW (R xi) (R yi) 10 10) k4)) k4) 26)))) k4 ((((va_up ((cry (mulW (R xi) (R yi) 10 10) k4)) (k4 + 1) ((((cry (mulW (R xi) (R yi) 10 10) k4)) (k4 + 1)) + (sar (((cry (mulW (R xi) (R yi) 10 10) k4)) k4) 26)))) k4) &&& 67108863))) := ⟨_, rfl⟩
              rw [← o6] at h
              have t6_45 : ev6 45 = eJ G 20 (va_up ((va_up ((cry (mulW (R xi) (R yi) 10 10) k4)) (k4 + 1) ((((cry (mulW (R xi) (R yi) 10 10) k4)) (k4 + 1)) + (sar (((cry (mulW (R xi) (R yi) 10 10) k4)) k4) 26)))) k4 ((((va_up ((cry (mulW (R xi) (R yi) 10 10) k4)) (k4 + 1) ((((cry (mulW (R xi) (R yi) 10 10) k4)) (k4 + 1)) + (sar (((cry (mulW (R xi) (R yi) 10 10) k4)) k4) 26)))) k4) &&& 67108863)) := by rw [o6, va_up_self]
              have t6_44 := (show ev6 44 = ev5 44 by rw [o6, va_up_ne _ _ (by decide)]).trans t5_44
              have t6_37 := (show ev6 37 = ev5 37 by rw [o6, va_up_ne _ _ (by decide)]).trans t5_37
              refine lv_iinc (v := nI (k4 + 1)) (lv' := [(4, .int (nI (k4 + 1))), (0, .ref (ad 37)), (1, .int (nI (ti))), (2, .int (nI (xi))), (3, .int (nI (yi)))]) hx hb d_Md_times_163 hl (k := 0) rfl (nI_add _ _) (by decide) rfl (fun ls hl => ?_)
              refine lv_goto (tgt := 109) hx hb d_Md_times_166 (by decide) ?_
              refine ih (k4 + 1) (by omega) ev6 H locs ls ?_ h (lv_sub hl [0, 1, 2, 3, 4] rfl)
              rw [o6, o5, o4, va_up2, va_up2]
              rfl
          exact loop4 19 0 rfl ev3 H locs ls (va_upi _ _ t3_45).symm h (lv_sub hl [0, 1, 2, 3, 4] rfl)
        | succ d ih =>
          intro i hk_i  ev3 H locs ls  o3 h hl
          have t3_45 : ev3 45 = eJ G 20 (mulW (R xi) (R yi) 10 i) := by rw [o3, va_up_self]
          have t3_44 := (show ev3 44 = ev2 44 by rw [o3, va_up_ne _ _ (by decide)]).trans t2_44
          have t3_37 := (show ev3 37 = ev2 37 by rw [o3, va_up_ne _ _ (by decide)]).trans t2_37
          refine lv_iload hx hb d_Md_times_27 (lv_at hl 0 rfl) ?_
          refine lv_bipush (v := nI (10)) hx hb d_Md_times_29 (by decide) ?_
          refine lv_icmp_ge (tgt := 106) hx hb d_Md_times_31 (by decide) (fun hc => absurd ((nI_leI (by omega) (by omega)).mp hc) (by omega)) (fun _ => ?_)
          refine lv_aload_n hx hb d_Md_times_34 rfl (lv_at hl 1 rfl) ?_
          refine wv_getf hx hb h 37 (by decide) (fs := [.ref (ad 38), .int (nI (tl)), .int (nI (ol)), .int (nI (cd)), .ref (ad 39), .ref (ad 40), .ref (ad 41), .ref (ad 42), .ref (ad 43), .ref (ad 44), .ref (ad 45), .ref (ad 46), .ref (ad 47), .ref (ad 48), .ref (ad 49), .ref (ad 50)]) t3_37 hts (fun w hw => List.mem_cons_of_mem _ (fW_Md w hw)) hown (ci := 5) (C := "NonceBoxModel") (T := fT_Md) (N := 16) rfl 9 (by decide) (hts _ (List.mem_cons_of_mem _ kf_Md_28)) rfl (v := .ref (ad 44)) rfl d_Md_times_35 ?_
          refine lv_bipush (v := nI (10)) hx hb d_Md_times_38 (by decide) ?_
          refine lv_iload_n hx hb d_Md_times_40 rfl (lv_at hl 3 rfl) ?_
          refine lv_imul hx hb d_Md_times_41 ?_
          refine wv_top (w := nI (10 * xi)) (pk_mul _ _) ?_
          refine lv_iload hx hb d_Md_times_42 (lv_at hl 0 rfl) ?_
          refine lv_iadd hx hb d_Md_times_44 ?_
          refine wv_top (w := nI ((10 * xi) + i)) (nI_add _ _) ?_
          refine wv_lald hx hb h 44 (by decide) (f := (flat R)) t3_44 (k := (10 * xi) + i) rfl (by omega) (by decide) d_Md_times_45 ?_
          refine wv_topl (w := R xi i) (flat_at R xi (by omega)) ?_
          refine lv_lstore (lv' := [(5, .long (R xi i)), (4, .int (nI (i))), (0, .ref (ad 37)), (1, .int (nI (ti))), (2, .int (nI (xi))), (3, .int (nI (yi)))]) hx hb d_Md_times_46 hl (by decide) rfl (fun ls hl => ?_)
          refine lv_iconst (v := nI (0)) hx hb d_Md_times_48 (by decide) ?_
          refine lv_istore (lv' := [(7, .int (nI (0))), (5, .long (R xi i)), (4, .int (nI (i))), (0, .ref (ad 37)), (1, .int (nI (ti))), (2, .int (nI (xi))), (3, .int (nI (yi)))]) hx hb d_Md_times_49 hl (by decide) rfl (fun ls hl => ?_)
          have loop4 : ∀ (d j : Nat), j + d = 10 →  ∀ (ev4 : Nat → va_E) (H : Heap) (locs : List Loc) (ls : Array Slot), ev4 = (va_up ev3 45 (eJ G 20 (mulR (R xi) (R yi) (mulW (R xi) (R yi) 10 i) i j))) → wT G A 52 ad ev4 s H locs → lv_has ls 8 [(7, .int (nI (j))), (5, .long (R xi i)), (4, .int (nI (i))), (0, .ref (ad 37)), (1, .int (nI (ti))), (2, .int (nI (xi))), (3, .int (nI (yi)))] → W p l e ({ frames := 3, cells := 0, slots := 0, locals := 100 }) s m ([.ref (ad 37), .int (nI (ti)), .int (nI (xi)), .int (nI (yi))] : List Value).toArray below meth c H locs 0 0 (MQ below (wQc G A 52 ad (fun ov ev' => ov = none ∧ ev' = va_up (va_up ev 45 (eJ G 20 (wdC (R xi) (R yi) 10))) 44 (eJ G 160 (flat (va_up R ti (rtm (R xi) (R yi))))))) ([.ref (ad 37), .int (nI (ti)), .int (nI (xi)), .int (nI (yi))] : List Value).toArray s 0 0 A) (F0 m 51 ls []) := by
            intro d
            induction d with
            | zero =>
              intro j hk_j  ev4 H locs ls  o4 h hl
              have t4_45 : ev4 45 = eJ G 20 (mulR (R xi) (R yi) (mulW (R xi) (R yi) 10 i) i j) := by rw [o4, va_up_self]
              have t4_44 := (show ev4 44 = ev3 44 by rw [o4, va_up_ne _ _ (by decide)]).trans t3_44
              have t4_37 := (show ev4 37 = ev3 37 by rw [o4, va_up_ne _ _ (by decide)]).trans t3_37
              refine lv_iload hx hb d_Md_times_51 (lv_at hl 0 rfl) ?_
              refine lv_bipush (v := nI (10)) hx hb d_Md_times_53 (by decide) ?_
              refine lv_icmp_ge (tgt := 100) hx hb d_Md_times_55 (by decide) (fun _ => ?_) (fun hc => absurd ((nI_leI (by omega) (by omega)).mpr (by omega)) hc)
              refine lv_iinc (v := nI (i + 1)) (lv' := [(4, .int (nI (i + 1))), (7, .int (nI (j))), (5, .long (R xi i)), (0, .ref (ad 37)), (1, .int (nI (ti))), (2, .int (nI (xi))), (3, .int (nI (yi)))]) hx hb d_Md_times_100 hl (k := 2) rfl (nI_add _ _) (by decide) rfl (fun ls hl => ?_)
              refine lv_goto (tgt := 27) hx hb d_Md_times_103 (by decide) ?_
              refine ih (i + 1) (by omega) ev4 H locs ls ?_ h (lv_sub hl [0, 3, 4, 5, 6] rfl)
              rw [o4, o3, va_up2, show j = 10 by omega]
              rfl
            | succ d ih3 =>
              intro j hk_j  ev4 H locs ls  o4 h hl
              have t4_45 : ev4 45 = eJ G 20 (mulR (R xi) (R yi) (mulW (R xi) (R yi) 10 i) i j) := by rw [o4, va_up_self]
              have t4_44 := (show ev4 44 = ev3 44 by rw [o4, va_up_ne _ _ (by decide)]).trans t3_44
              have t4_37 := (show ev4 37 = ev3 37 by rw [o4, va_up_ne _ _ (by decide)]).trans t3_37
              refine lv_iload hx hb d_Md_times_51 (lv_at hl 0 rfl) ?_
              refine lv_bipush (v := nI (10)) hx hb d_Md_times_53 (by decide) ?_
              refine lv_icmp_ge (tgt := 100) hx hb d_Md_times_55 (by decide) (fun hc => absurd ((nI_leI (by omega) (by omega)).mp hc) (by omega)) (fun _ => ?_)
              refine lv_aload_n hx hb d_Md_times_58 rfl (lv_at hl 3 rfl) ?_
              refine wv_getf hx hb h 37 (by decide) (fs := [.ref (ad 38), .int (nI (tl)), .int (nI (ol)), .int (nI (cd)), .ref (ad 39), .ref (ad 40), .ref (ad 41), .ref (ad 42), .ref (ad 43), .ref (ad 44), .ref (ad 45), .ref (ad 46), .ref (ad 47), .ref (ad 48), .ref (ad 49), .ref (ad 50)]) t4_37 hts (fun w hw => List.mem_cons_of_mem _ (fW_Md w hw)) hown (ci := 5) (C := "NonceBoxModel") (T := fT_Md) (N := 16) rfl 10 (by decide) (hts _ (List.mem_cons_of_mem _ kf_Md_32)) rfl (v := .ref (ad 45)) rfl d_Md_times_59 ?_
              refine lv_iload hx hb d_Md_times_62 (lv_at hl 2 rfl) ?_
              refine lv_iload hx hb d_Md_times_64 (lv_at hl 0 rfl) ?_
              refine lv_iadd hx hb d_Md_times_66 ?_
              refine wv_top (w := nI (i + j)) (nI_add _ _) ?_
              refine lv_aload_n hx hb d_Md_times_67 rfl (lv_at hl 3 rfl) ?_
              refine wv_getf hx hb h 37 (by decide) (fs := [.ref (ad 38), .int (nI (tl)), .int (nI (ol)), .int (nI (cd)), .ref (ad 39), .ref (ad 40), .ref (ad 41), .ref (ad 42), .ref (ad 43), .ref (ad 44), .ref (ad 45), .ref (ad 46), .ref (ad 47), .ref (ad 48), .ref (ad 49), .ref (ad 50)]) t4_37 hts (fun w hw => List.mem_cons_of_mem _ (fW_Md w hw)) hown (ci := 5) (C := "NonceBoxModel") (T := fT_Md) (N := 16) rfl 10 (by decide) (hts _ (List.mem_cons_of_mem _ kf_Md_32)) rfl (v := .ref (ad 45)) rfl d_Md_times_68 ?_
              refine lv_iload hx hb d_Md_times_71 (lv_at hl 2 rfl) ?_
              refine lv_iload hx hb d_Md_times_73 (lv_at hl 0 rfl) ?_
              refine lv_iadd hx hb d_Md_times_75 ?_
              refine wv_top (w := nI (i + j)) (nI_add _ _) ?_
              refine wv_lald hx hb h 45 (by decide) (f := (mulR (R xi) (R yi) (mulW (R xi) (R yi) 10 i) i j)) t4_45 (k := i + j) rfl (by omega) (by decide) d_Md_times_76 ?_
              refine lv_lload hx hb d_Md_times_77 (lv_at hl 1 rfl) ?_
              refine lv_aload_n hx hb d_Md_times_79 rfl (lv_at hl 3 rfl) ?_
              refine wv_getf hx hb h 37 (by decide) (fs := [.ref (ad 38), .int (nI (tl)), .int (nI (ol)), .int (nI (cd)), .ref (ad 39), .ref (ad 40), .ref (ad 41), .ref (ad 42), .ref (ad 43), .ref (ad 44), .ref (ad 45), .ref (ad 46), .ref (ad 47), .ref (ad 48), .ref (ad 49), .ref (ad 50)]) t4_37 hts (fun w hw => List.mem_cons_of_mem _ (fW_Md w hw)) hown (ci := 5) (C := "NonceBoxModel") (T := fT_Md) (N := 16) rfl 9 (by decide) (hts _ (List.mem_cons_of_mem _ kf_Md_28)) rfl (v := .ref (ad 44)) rfl d_Md_times_80 ?_
              refine lv_bipush (v := nI (10)) hx hb d_Md_times_83 (by decide) ?_
              refine lv_iload_n hx hb d_Md_times_85 rfl (lv_at hl 6 rfl) ?_
              refine lv_imul hx hb d_Md_times_86 ?_
              refine wv_top (w := nI (10 * yi)) (pk_mul _ _) ?_
              refine lv_iload hx hb d_Md_times_87 (lv_at hl 0 rfl) ?_
              refine lv_iadd hx hb d_Md_times_89 ?_
              refine wv_top (w := nI ((10 * yi) + j)) (nI_add _ _) ?_
              refine wv_lald hx hb h 44 (by decide) (f := (flat R)) t4_44 (k := (10 * yi) + j) rfl (by omega) (by decide) d_Md_times_90 ?_
              refine wv_topl (w := R yi j) (flat_at R yi (by omega)) ?_
              refine lv_lmul hx hb d_Md_times_91 ?_
              refine lv_ladd hx hb d_Md_times_92 ?_
              refine wv_last hx hb h 45 (by decide) (f := (mulR (R xi) (R yi) (mulW (R xi) (R yi) 10 i) i j)) t4_45 (k := i + j) rfl (by omega) (by decide) d_Md_times_93 (fun H locs h => ?_)
              obtain ⟨ev5, o5⟩ : ∃ z, z = va_up ev4 45 (eJ G 20 (va_up ((mulR (R xi) (R yi) (mulW (R xi) (R yi) 10 i) i j)) (i + j) ((((mulR (R xi) (R yi) (mulW (R xi) (R yi) 10 i) i j)) (i + j)) + ((R xi i) * (R yi j))))) := ⟨_, rfl⟩
              rw [← o5] at h
              have t5_45 : ev5 45 = eJ G 20 (va_up ((mulR (R xi) (R yi) (mulW (R xi) (R yi) 10 i) i j)) (i + j) ((((mulR (R xi) (R yi) (mulW (R xi) (R yi) 10 i) i j)) (i + j)) + ((R xi i) * (R yi j)))) := by rw [o5, va_up_self]
              have t5_44 := (show ev5 44 = ev4 44 by rw [o5, va_up_ne _ _ (by decide)]).trans t4_44
              have t5_37 := (show ev5 37 = ev4 37 by rw [o5, va_up_ne _ _ (by decide)]).trans t4_37
              refine lv_iinc (v := nI (j + 1)) (lv' := [(7, .int (nI (j + 1))), (5, .long (R xi i)), (4, .int (nI (i))), (0, .ref (ad 37)), (1, .int (nI (ti))), (2, .int (nI (xi))), (3, .int (nI (yi)))]) hx hb d_Md_times_94 hl (k := 0) rfl (nI_add _ _) (by decide) rfl (fun ls hl => ?_)
              refine lv_goto (tgt := 51) hx hb d_Md_times_97 (by decide) ?_
              refine ih3 (j + 1) (by omega) ev5 H locs ls ?_ h (lv_sub hl [0, 1, 2, 3, 4, 5, 6] rfl)
              rw [o5, o4, va_up2]
              rfl
          exact loop4 10 0 rfl ev3 H locs ls (va_upi _ _ t3_45).symm h (lv_sub hl [0, 1, 2, 3, 4, 5, 6] rfl)
      exact loop3 10 0 rfl ev2 H locs ls (va_upi _ _ t2_45).symm h (lv_sub hl [0, 1, 2, 3, 4] rfl)
    | succ d ih =>
      intro k1 hk_k1  ev1 H locs ls  o1 h hl
      have t1_45 : ev1 45 = eJ G 20 (fil 0 k1 (fun _ => 0) wd) := by rw [o1, va_up_self]
      have t1_44 := (show ev1 44 = ev 44 by rw [o1, va_up_ne _ _ (by decide)]).trans h44
      have t1_37 := (show ev1 37 = ev 37 by rw [o1, va_up_ne _ _ (by decide)]).trans h37
      refine lv_iload hx hb d_Md_times_3 (lv_at hl 0 rfl) ?_
      refine lv_bipush (v := nI (20)) hx hb d_Md_times_5 (by decide) ?_
      refine lv_icmp_ge (tgt := 24) hx hb d_Md_times_7 (by decide) (fun hc => absurd ((nI_leI (by omega) (by omega)).mp hc) (by omega)) (fun _ => ?_)
      refine lv_aload_n hx hb d_Md_times_10 rfl (lv_at hl 1 rfl) ?_
      refine wv_getf hx hb h 37 (by decide) (fs := [.ref (ad 38), .int (nI (tl)), .int (nI (ol)), .int (nI (cd)), .ref (ad 39), .ref (ad 40), .ref (ad 41), .ref (ad 42), .ref (ad 43), .ref (ad 44), .ref (ad 45), .ref (ad 46), .ref (ad 47), .ref (ad 48), .ref (ad 49), .ref (ad 50)]) t1_37 hts (fun w hw => List.mem_cons_of_mem _ (fW_Md w hw)) hown (ci := 5) (C := "NonceBoxModel") (T := fT_Md) (N := 16) rfl 10 (by decide) (hts _ (List.mem_cons_of_mem _ kf_Md_32)) rfl (v := .ref (ad 45)) rfl d_Md_times_11 ?_
      refine lv_iload hx hb d_Md_times_14 (lv_at hl 0 rfl) ?_
      refine lv_lconst (v := 0) hx hb d_Md_times_16 (by decide) ?_
      refine wv_last hx hb h 45 (by decide) (f := (fil 0 k1 (fun _ => 0) wd)) t1_45 (k := k1) rfl (by omega) (by decide) d_Md_times_17 (fun H locs h => ?_)
      obtain ⟨ev2, o2⟩ : ∃ z, z = va_up ev1 45 (eJ G 20 (va_up ((fil 0 k1 (fun _ => 0) wd)) k1 0)) := ⟨_, rfl⟩
      rw [← o2] at h
      have t2_45 : ev2 45 = eJ G 20 (va_up ((fil 0 k1 (fun _ => 0) wd)) k1 0) := by rw [o2, va_up_self]
      have t2_44 := (show ev2 44 = ev1 44 by rw [o2, va_up_ne _ _ (by decide)]).trans t1_44
      have t2_37 := (show ev2 37 = ev1 37 by rw [o2, va_up_ne _ _ (by decide)]).trans t1_37
      refine lv_iinc (v := nI (k1 + 1)) (lv' := [(4, .int (nI (k1 + 1))), (0, .ref (ad 37)), (1, .int (nI (ti))), (2, .int (nI (xi))), (3, .int (nI (yi)))]) hx hb d_Md_times_18 hl (k := 0) rfl (nI_add _ _) (by decide) rfl (fun ls hl => ?_)
      refine lv_goto (tgt := 3) hx hb d_Md_times_21 (by decide) ?_
      refine ih (k1 + 1) (by omega) ev2 H locs ls ?_ h (lv_sub hl [0, 1, 2, 3, 4] rfl)
      rw [o2, o1, va_up2, ← fil_s 0 k1 (fun _ => 0) wd rfl, Nat.zero_add]
  exact loop1 20 0 rfl ev s.heap [] ls (by rw [fil_0, va_upi _ _ h45]) h (lv_sub hl [0, 1, 2, 3, 4] rfl)
theorem d_Md_swap_0 : decode c_Md_swap 0 = .ok (.iconst 0, 1) := by decide +kernel
theorem d_Md_swap_1 : decode c_Md_swap 1 = .ok (.istore_n 3, 1) := by decide +kernel
theorem d_Md_swap_2 : decode c_Md_swap 2 = .ok (.iload_n 3, 1) := by decide +kernel
theorem d_Md_swap_3 : decode c_Md_swap 3 = .ok (.bipush 10, 2) := by decide +kernel
theorem d_Md_swap_5 : decode c_Md_swap 5 = .ok (.if_icmp .ge 57, 3) := by decide +kernel
theorem d_Md_swap_8 : decode c_Md_swap 8 = .ok (.aload_n 0, 1) := by decide +kernel
theorem d_Md_swap_9 : decode c_Md_swap 9 = .ok (.getfield 28, 3) := by decide +kernel
theorem d_Md_swap_12 : decode c_Md_swap 12 = .ok (.bipush 10, 2) := by decide +kernel
theorem d_Md_swap_14 : decode c_Md_swap 14 = .ok (.iload_n 1, 1) := by decide +kernel
theorem d_Md_swap_15 : decode c_Md_swap 15 = .ok (.imul, 1) := by decide +kernel
theorem d_Md_swap_16 : decode c_Md_swap 16 = .ok (.iload_n 3, 1) := by decide +kernel
theorem d_Md_swap_17 : decode c_Md_swap 17 = .ok (.iadd, 1) := by decide +kernel
theorem d_Md_swap_18 : decode c_Md_swap 18 = .ok (.laload, 1) := by decide +kernel
theorem d_Md_swap_19 : decode c_Md_swap 19 = .ok (.lstore 4, 2) := by decide +kernel
theorem d_Md_swap_21 : decode c_Md_swap 21 = .ok (.aload_n 0, 1) := by decide +kernel
theorem d_Md_swap_22 : decode c_Md_swap 22 = .ok (.getfield 28, 3) := by decide +kernel
theorem d_Md_swap_25 : decode c_Md_swap 25 = .ok (.bipush 10, 2) := by decide +kernel
theorem d_Md_swap_27 : decode c_Md_swap 27 = .ok (.iload_n 1, 1) := by decide +kernel
theorem d_Md_swap_28 : decode c_Md_swap 28 = .ok (.imul, 1) := by decide +kernel
theorem d_Md_swap_29 : decode c_Md_swap 29 = .ok (.iload_n 3, 1) := by decide +kernel
theorem d_Md_swap_30 : decode c_Md_swap 30 = .ok (.iadd, 1) := by decide +kernel
theorem d_Md_swap_31 : decode c_Md_swap 31 = .ok (.aload_n 0, 1) := by decide +kernel
theorem d_Md_swap_32 : decode c_Md_swap 32 = .ok (.getfield 28, 3) := by decide +kernel
theorem d_Md_swap_35 : decode c_Md_swap 35 = .ok (.bipush 10, 2) := by decide +kernel
theorem d_Md_swap_37 : decode c_Md_swap 37 = .ok (.iload_n 2, 1) := by decide +kernel
theorem d_Md_swap_38 : decode c_Md_swap 38 = .ok (.imul, 1) := by decide +kernel
theorem d_Md_swap_39 : decode c_Md_swap 39 = .ok (.iload_n 3, 1) := by decide +kernel
theorem d_Md_swap_40 : decode c_Md_swap 40 = .ok (.iadd, 1) := by decide +kernel
theorem d_Md_swap_41 : decode c_Md_swap 41 = .ok (.laload, 1) := by decide +kernel
theorem d_Md_swap_42 : decode c_Md_swap 42 = .ok (.lastore, 1) := by decide +kernel
theorem d_Md_swap_43 : decode c_Md_swap 43 = .ok (.aload_n 0, 1) := by decide +kernel
theorem d_Md_swap_44 : decode c_Md_swap 44 = .ok (.getfield 28, 3) := by decide +kernel
theorem d_Md_swap_47 : decode c_Md_swap 47 = .ok (.bipush 10, 2) := by decide +kernel
theorem d_Md_swap_49 : decode c_Md_swap 49 = .ok (.iload_n 2, 1) := by decide +kernel
theorem d_Md_swap_50 : decode c_Md_swap 50 = .ok (.imul, 1) := by decide +kernel
theorem d_Md_swap_51 : decode c_Md_swap 51 = .ok (.iload_n 3, 1) := by decide +kernel
theorem d_Md_swap_52 : decode c_Md_swap 52 = .ok (.iadd, 1) := by decide +kernel
theorem d_Md_swap_53 : decode c_Md_swap 53 = .ok (.lload 4, 2) := by decide +kernel
theorem d_Md_swap_55 : decode c_Md_swap 55 = .ok (.lastore, 1) := by decide +kernel
theorem d_Md_swap_56 : decode c_Md_swap 56 = .ok (.iinc 3 1, 3) := by decide +kernel
theorem d_Md_swap_59 : decode c_Md_swap 59 = .ok (.goto (-57), 3) := by decide +kernel
theorem d_Md_swap_62 : decode c_Md_swap 62 = .ok (.return_, 1) := by decide +kernel
set_option maxRecDepth 100000 in
set_option maxHeartbeats 4000000 in
/-- swap -/
theorem m_Md_swap (l : Launch) (G : wG) (A : Nat → Prop) (ad : Nat → Nat) (ev : Nat → va_E) (xi yi : Nat) (R : Nat → Row) (tl ol cd : Nat) (h37 : ev 37 = eO 5 [.ref (ad 38), .int (nI tl), .int (nI ol), .int (nI cd), .ref (ad 39), .ref (ad 40), .ref (ad 41), .ref (ad 42), .ref (ad 43), .ref (ad 44), .ref (ad 45), .ref (ad 46), .ref (ad 47), .ref (ad 48), .ref (ad 49), .ref (ad 50)]) (h44 : ev 44 = eJ G 160 (flat R)) (hxi : xi < 16) (hyi : yi < 16) : wM l y_Md_swap w_Md_swap ({ frames := 0, cells := 0, slots := 0, locals := 0 }) G A 52 ad ev [.ref (ad 37), .int (nI (xi)), .int (nI (yi))] (fun ov ev' => ov = none ∧ ev' = va_up ev 44 (eJ G 160 (flat (va_up (va_up R xi (R yi)) yi (R xi))))) := by
  refine wv_ofW (cc := c_Md_swap) (maxL := 6) (ret := none) (by decide) rfl (Nat.le_of_ble_eq_true rfl) ?_
  intro p e s m below meth c ls hx hb hr hml hts hown hlocks hini h hl
  have hl : lv_has ls 6 [(0, .ref (ad 37)), (1, .int (nI (xi))), (2, .int (nI (yi)))] := hl
  refine lv_iconst (v := nI (0)) hx hb d_Md_swap_0 (by decide) ?_
  refine lv_istore_n (lv' := [(3, .int (nI (0))), (0, .ref (ad 37)), (1, .int (nI (xi))), (2, .int (nI (yi)))]) hx hb d_Md_swap_1 rfl hl (by decide) rfl (fun ls hl => ?_)
  have loop1 : ∀ (d k : Nat), k + d = 10 →  ∀ (ev1 : Nat → va_E) (H : Heap) (locs : List Loc) (ls : Array Slot), ev1 = (va_up ev 44 (eJ G 160 (fil (10 * yi) k (R xi) (fil (10 * xi) k (R yi) (flat R))))) → wT G A 52 ad ev1 s H locs → lv_has ls 6 [(3, .int (nI (k))), (0, .ref (ad 37)), (1, .int (nI (xi))), (2, .int (nI (yi)))] → W p l e ({ frames := 0, cells := 0, slots := 0, locals := 0 }) s m ([.ref (ad 37), .int (nI (xi)), .int (nI (yi))] : List Value).toArray below meth c H locs 0 0 (MQ below (wQc G A 52 ad (fun ov ev' => ov = none ∧ ev' = va_up ev 44 (eJ G 160 (flat (va_up (va_up R xi (R yi)) yi (R xi)))))) ([.ref (ad 37), .int (nI (xi)), .int (nI (yi))] : List Value).toArray s 0 0 A) (F0 m 2 ls []) := by
    intro d
    induction d with
    | zero =>
      intro k hk_k  ev1 H locs ls  o1 h hl
      have t1_44 : ev1 44 = eJ G 160 (fil (10 * yi) k (R xi) (fil (10 * xi) k (R yi) (flat R))) := by rw [o1, va_up_self]
      have t1_37 := (show ev1 37 = ev 37 by rw [o1, va_up_ne _ _ (by decide)]).trans h37
      refine lv_iload_n hx hb d_Md_swap_2 rfl (lv_at hl 0 rfl) ?_
      refine lv_bipush (v := nI (10)) hx hb d_Md_swap_3 (by decide) ?_
      refine lv_icmp_ge (tgt := 62) hx hb d_Md_swap_5 (by decide) (fun _ => ?_) (fun hc => absurd ((nI_leI (by omega) (by omega)).mpr (by omega)) hc)
      refine wv_vret hx hb hr hlocks h d_Md_swap_62 ⟨rfl, ?_⟩
      rw [o1, show k = 10 by omega, fil_flat, fil_flat]
    | succ d ih =>
      intro k hk_k  ev1 H locs ls  o1 h hl
      have t1_44 : ev1 44 = eJ G 160 (fil (10 * yi) k (R xi) (fil (10 * xi) k (R yi) (flat R))) := by rw [o1, va_up_self]
      have t1_37 := (show ev1 37 = ev 37 by rw [o1, va_up_ne _ _ (by decide)]).trans h37
      refine lv_iload_n hx hb d_Md_swap_2 rfl (lv_at hl 0 rfl) ?_
      refine lv_bipush (v := nI (10)) hx hb d_Md_swap_3 (by decide) ?_
      refine lv_icmp_ge (tgt := 62) hx hb d_Md_swap_5 (by decide) (fun hc => absurd ((nI_leI (by omega) (by omega)).mp hc) (by omega)) (fun _ => ?_)
      refine lv_aload_n hx hb d_Md_swap_8 rfl (lv_at hl 1 rfl) ?_
      refine wv_getf hx hb h 37 (by decide) (fs := [.ref (ad 38), .int (nI (tl)), .int (nI (ol)), .int (nI (cd)), .ref (ad 39), .ref (ad 40), .ref (ad 41), .ref (ad 42), .ref (ad 43), .ref (ad 44), .ref (ad 45), .ref (ad 46), .ref (ad 47), .ref (ad 48), .ref (ad 49), .ref (ad 50)]) t1_37 hts (fun w hw => List.mem_cons_of_mem _ (fW_Md w hw)) hown (ci := 5) (C := "NonceBoxModel") (T := fT_Md) (N := 16) rfl 9 (by decide) (hts _ (List.mem_cons_of_mem _ kf_Md_28)) rfl (v := .ref (ad 44)) rfl d_Md_swap_9 ?_
      refine lv_bipush (v := nI (10)) hx hb d_Md_swap_12 (by decide) ?_
      refine lv_iload_n hx hb d_Md_swap_14 rfl (lv_at hl 2 rfl) ?_
      refine lv_imul hx hb d_Md_swap_15 ?_
      refine wv_top (w := nI (10 * xi)) (pk_mul _ _) ?_
      refine lv_iload_n hx hb d_Md_swap_16 rfl (lv_at hl 0 rfl) ?_
      refine lv_iadd hx hb d_Md_swap_17 ?_
      refine wv_top (w := nI ((10 * xi) + k)) (nI_add _ _) ?_
      refine wv_lald hx hb h 44 (by decide) (f := (fil (10 * yi) k (R xi) (fil (10 * xi) k (R yi) (flat R)))) t1_44 (k := (10 * xi) + k) rfl (by omega) (by decide) d_Md_swap_18 ?_
      refine wv_topl (w := R xi k) (by rw [fil_out (by omega), fil_out (by omega), flat_at R xi (by omega)]) ?_
      refine lv_lstore (lv' := [(4, .long (R xi k)), (3, .int (nI (k))), (0, .ref (ad 37)), (1, .int (nI (xi))), (2, .int (nI (yi)))]) hx hb d_Md_swap_19 hl (by decide) rfl (fun ls hl => ?_)
      refine lv_aload_n hx hb d_Md_swap_21 rfl (lv_at hl 2 rfl) ?_
      refine wv_getf hx hb h 37 (by decide) (fs := [.ref (ad 38), .int (nI (tl)), .int (nI (ol)), .int (nI (cd)), .ref (ad 39), .ref (ad 40), .ref (ad 41), .ref (ad 42), .ref (ad 43), .ref (ad 44), .ref (ad 45), .ref (ad 46), .ref (ad 47), .ref (ad 48), .ref (ad 49), .ref (ad 50)]) t1_37 hts (fun w hw => List.mem_cons_of_mem _ (fW_Md w hw)) hown (ci := 5) (C := "NonceBoxModel") (T := fT_Md) (N := 16) rfl 9 (by decide) (hts _ (List.mem_cons_of_mem _ kf_Md_28)) rfl (v := .ref (ad 44)) rfl d_Md_swap_22 ?_
      refine lv_bipush (v := nI (10)) hx hb d_Md_swap_25 (by decide) ?_
      refine lv_iload_n hx hb d_Md_swap_27 rfl (lv_at hl 3 rfl) ?_
      refine lv_imul hx hb d_Md_swap_28 ?_
      refine wv_top (w := nI (10 * xi)) (pk_mul _ _) ?_
      refine lv_iload_n hx hb d_Md_swap_29 rfl (lv_at hl 1 rfl) ?_
      refine lv_iadd hx hb d_Md_swap_30 ?_
      refine wv_top (w := nI ((10 * xi) + k)) (nI_add _ _) ?_
      refine lv_aload_n hx hb d_Md_swap_31 rfl (lv_at hl 2 rfl) ?_
      refine wv_getf hx hb h 37 (by decide) (fs := [.ref (ad 38), .int (nI (tl)), .int (nI (ol)), .int (nI (cd)), .ref (ad 39), .ref (ad 40), .ref (ad 41), .ref (ad 42), .ref (ad 43), .ref (ad 44), .ref (ad 45), .ref (ad 46), .ref (ad 47), .ref (ad 48), .ref (ad 49), .ref (ad 50)]) t1_37 hts (fun w hw => List.mem_cons_of_mem _ (fW_Md w hw)) hown (ci := 5) (C := "NonceBoxModel") (T := fT_Md) (N := 16) rfl 9 (by decide) (hts _ (List.mem_cons_of_mem _ kf_Md_28)) rfl (v := .ref (ad 44)) rfl d_Md_swap_32 ?_
      refine lv_bipush (v := nI (10)) hx hb d_Md_swap_35 (by decide) ?_
      refine lv_iload_n hx hb d_Md_swap_37 rfl (lv_at hl 4 rfl) ?_
      refine lv_imul hx hb d_Md_swap_38 ?_
      refine wv_top (w := nI (10 * yi)) (pk_mul _ _) ?_
      refine lv_iload_n hx hb d_Md_swap_39 rfl (lv_at hl 1 rfl) ?_
      refine lv_iadd hx hb d_Md_swap_40 ?_
      refine wv_top (w := nI ((10 * yi) + k)) (nI_add _ _) ?_
      refine wv_lald hx hb h 44 (by decide) (f := (fil (10 * yi) k (R xi) (fil (10 * xi) k (R yi) (flat R)))) t1_44 (k := (10 * yi) + k) rfl (by omega) (by decide) d_Md_swap_41 ?_
      refine wv_topl (w := R yi k) (by rw [fil_out (by omega), fil_out (by omega), flat_at R yi (by omega)]) ?_
      refine wv_last hx hb h 44 (by decide) (f := (fil (10 * yi) k (R xi) (fil (10 * xi) k (R yi) (flat R)))) t1_44 (k := (10 * xi) + k) rfl (by omega) (by decide) d_Md_swap_42 (fun H locs h => ?_)
      obtain ⟨ev2, o2⟩ : ∃ z, z = va_up ev1 44 (eJ G 160 (va_up ((fil (10 * yi) k (R xi) (fil (10 * xi) k (R yi) (flat R)))) ((10 * xi) + k) (R yi k))) := ⟨_, rfl⟩
      rw [← o2] at h
      have t2_44 : ev2 44 = eJ G 160 (va_up ((fil (10 * yi) k (R xi) (fil (10 * xi) k (R yi) (flat R)))) ((10 * xi) + k) (R yi k)) := by rw [o2, va_up_self]
      have t2_37 := (show ev2 37 = ev1 37 by rw [o2, va_up_ne _ _ (by decide)]).trans t1_37
      refine lv_aload_n hx hb d_Md_swap_43 rfl (lv_at hl 2 rfl) ?_
      refine wv_getf hx hb h 37 (by decide) (fs := [.ref (ad 38), .int (nI (tl)), .int (nI (ol)), .int (nI (cd)), .ref (ad 39), .ref (ad 40), .ref (ad 41), .ref (ad 42), .ref (ad 43), .ref (ad 44), .ref (ad 45), .ref (ad 46), .ref (ad 47), .ref (ad 48), .ref (ad 49), .ref (ad 50)]) t2_37 hts (fun w hw => List.mem_cons_of_mem _ (fW_Md w hw)) hown (ci := 5) (C := "NonceBoxModel") (T := fT_Md) (N := 16) rfl 9 (by decide) (hts _ (List.mem_cons_of_mem _ kf_Md_28)) rfl (v := .ref (ad 44)) rfl d_Md_swap_44 ?_
      refine lv_bipush (v := nI (10)) hx hb d_Md_swap_47 (by decide) ?_
      refine lv_iload_n hx hb d_Md_swap_49 rfl (lv_at hl 4 rfl) ?_
      refine lv_imul hx hb d_Md_swap_50 ?_
      refine wv_top (w := nI (10 * yi)) (pk_mul _ _) ?_
      refine lv_iload_n hx hb d_Md_swap_51 rfl (lv_at hl 1 rfl) ?_
      refine lv_iadd hx hb d_Md_swap_52 ?_
      refine wv_top (w := nI ((10 * yi) + k)) (nI_add _ _) ?_
      refine lv_lload hx hb d_Md_swap_53 (lv_at hl 0 rfl) ?_
      refine wv_last hx hb h 44 (by decide) (f := (va_up ((fil (10 * yi) k (R xi) (fil (10 * xi) k (R yi) (flat R)))) ((10 * xi) + k) (R yi k))) t2_44 (k := (10 * yi) + k) rfl (by omega) (by decide) d_Md_swap_55 (fun H locs h => ?_)
      obtain ⟨ev3, o3⟩ : ∃ z, z = va_up ev2 44 (eJ G 160 (va_up ((va_up ((fil (10 * yi) k (R xi) (fil (10 * xi) k (R yi) (flat R)))) ((10 * xi) + k) (R yi k))) ((10 * yi) + k) (R xi k))) := ⟨_, rfl⟩
      rw [← o3] at h
      have t3_44 : ev3 44 = eJ G 160 (va_up ((va_up ((fil (10 * yi) k (R xi) (fil (10 * xi) k (R yi) (flat R)))) ((10 * xi) + k) (R yi k))) ((10 * yi) + k) (R xi k)) := by rw [o3, va_up_self]
      have t3_37 := (show ev3 37 = ev2 37 by rw [o3, va_up_ne _ _ (by decide)]).trans t2_37
      refine lv_iinc (v := nI (k + 1)) (lv' := [(3, .int (nI (k + 1))), (4, .long (R xi k)), (0, .ref (ad 37)), (1, .int (nI (xi))), (2, .int (nI (yi)))]) hx hb d_Md_swap_56 hl (k := 1) rfl (nI_add _ _) (by decide) rfl (fun ls hl => ?_)
      refine lv_goto (tgt := 2) hx hb d_Md_swap_59 (by decide) ?_
      refine ih (k + 1) (by omega) ev3 H locs ls ?_ h (lv_sub hl [0, 2, 3, 4] rfl)
      rw [o3, o2, o1, va_up2, va_up2, fil_upo (by omega), fil_s (10 * xi) k (R yi) (flat R) rfl, fil_s (10 * yi) k (R xi) _ rfl]
  exact loop1 10 0 rfl ev s.heap [] ls (by rw [fil_0, fil_0, va_upi _ _ h44]) h (lv_sub hl [0, 1, 2, 3] rfl)
