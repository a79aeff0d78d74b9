theorem d_Fd_times_0 : decode c_Fd_times 0 = .ok (.aload_n 0, 1) := by decide +kernel
theorem d_Fd_times_1 : decode c_Fd_times 1 = .ok (.getfield 23, 3) := by decide +kernel
theorem d_Fd_times_4 : decode c_Fd_times 4 = .ok (.lconst 0, 1) := by decide +kernel
theorem d_Fd_times_5 : decode c_Fd_times 5 = .ok (.invokestatic 27, 3) := by decide +kernel
theorem d_Fd_times_8 : decode c_Fd_times 8 = .ok (.iconst 0, 1) := by decide +kernel
theorem d_Fd_times_9 : decode c_Fd_times 9 = .ok (.istore 4, 2) := by decide +kernel
theorem d_Fd_times_11 : decode c_Fd_times 11 = .ok (.iload 4, 2) := by decide +kernel
theorem d_Fd_times_13 : decode c_Fd_times 13 = .ok (.aload_n 0, 1) := by decide +kernel
theorem d_Fd_times_14 : decode c_Fd_times 14 = .ok (.getfield 9, 3) := by decide +kernel
theorem d_Fd_times_17 : decode c_Fd_times 17 = .ok (.if_icmp .ge 53, 3) := by decide +kernel
theorem d_Fd_times_20 : decode c_Fd_times 20 = .ok (.aload_n 1, 1) := by decide +kernel
theorem d_Fd_times_21 : decode c_Fd_times 21 = .ok (.iload 4, 2) := by decide +kernel
theorem d_Fd_times_23 : decode c_Fd_times 23 = .ok (.laload, 1) := by decide +kernel
theorem d_Fd_times_24 : decode c_Fd_times 24 = .ok (.lstore 5, 2) := by decide +kernel
theorem d_Fd_times_26 : decode c_Fd_times 26 = .ok (.iconst 0, 1) := by decide +kernel
theorem d_Fd_times_27 : decode c_Fd_times 27 = .ok (.istore 7, 2) := by decide +kernel
theorem d_Fd_times_29 : decode c_Fd_times 29 = .ok (.iload 7, 2) := by decide +kernel
theorem d_Fd_times_31 : decode c_Fd_times 31 = .ok (.aload_n 0, 1) := by decide +kernel
theorem d_Fd_times_32 : decode c_Fd_times 32 = .ok (.getfield 9, 3) := by decide +kernel
theorem d_Fd_times_35 : decode c_Fd_times 35 = .ok (.if_icmp .ge 29, 3) := by decide +kernel
theorem d_Fd_times_38 : decode c_Fd_times 38 = .ok (.aload_n 0, 1) := by decide +kernel
theorem d_Fd_times_39 : decode c_Fd_times 39 = .ok (.getfield 23, 3) := by decide +kernel
theorem d_Fd_times_42 : decode c_Fd_times 42 = .ok (.iload 4, 2) := by decide +kernel
theorem d_Fd_times_44 : decode c_Fd_times 44 = .ok (.iload 7, 2) := by decide +kernel
theorem d_Fd_times_46 : decode c_Fd_times 46 = .ok (.iadd, 1) := by decide +kernel
theorem d_Fd_times_47 : decode c_Fd_times 47 = .ok (.dup2, 1) := by decide +kernel
theorem d_Fd_times_48 : decode c_Fd_times 48 = .ok (.laload, 1) := by decide +kernel
theorem d_Fd_times_49 : decode c_Fd_times 49 = .ok (.lload 5, 2) := by decide +kernel
theorem d_Fd_times_51 : decode c_Fd_times 51 = .ok (.aload_n 2, 1) := by decide +kernel
theorem d_Fd_times_52 : decode c_Fd_times 52 = .ok (.iload 7, 2) := by decide +kernel
theorem d_Fd_times_54 : decode c_Fd_times 54 = .ok (.laload, 1) := by decide +kernel
theorem d_Fd_times_55 : decode c_Fd_times 55 = .ok (.lmul, 1) := by decide +kernel
theorem d_Fd_times_56 : decode c_Fd_times 56 = .ok (.ladd, 1) := by decide +kernel
theorem d_Fd_times_57 : decode c_Fd_times 57 = .ok (.lastore, 1) := by decide +kernel
theorem d_Fd_times_58 : decode c_Fd_times 58 = .ok (.iinc 7 1, 3) := by decide +kernel
theorem d_Fd_times_61 : decode c_Fd_times 61 = .ok (.goto (-32), 3) := by decide +kernel
theorem d_Fd_times_64 : decode c_Fd_times 64 = .ok (.iinc 4 1, 3) := by decide +kernel
theorem d_Fd_times_67 : decode c_Fd_times 67 = .ok (.goto (-56), 3) := by decide +kernel
theorem d_Fd_times_70 : decode c_Fd_times 70 = .ok (.aload_n 0, 1) := by decide +kernel
theorem d_Fd_times_71 : decode c_Fd_times 71 = .ok (.getfield 23, 3) := by decide +kernel
theorem d_Fd_times_74 : decode c_Fd_times 74 = .ok (.invokestatic 43, 3) := by decide +kernel
theorem d_Fd_times_77 : decode c_Fd_times 77 = .ok (.iconst 0, 1) := by decide +kernel
theorem d_Fd_times_78 : decode c_Fd_times 78 = .ok (.istore 4, 2) := by decide +kernel
theorem d_Fd_times_80 : decode c_Fd_times 80 = .ok (.iload 4, 2) := by decide +kernel
theorem d_Fd_times_82 : decode c_Fd_times 82 = .ok (.aload_n 0, 1) := by decide +kernel
theorem d_Fd_times_83 : decode c_Fd_times 83 = .ok (.getfield 9, 3) := by decide +kernel
theorem d_Fd_times_86 : decode c_Fd_times 86 = .ok (.if_icmp .ge 38, 3) := by decide +kernel
theorem d_Fd_times_89 : decode c_Fd_times 89 = .ok (.aload_n 3, 1) := by decide +kernel
theorem d_Fd_times_90 : decode c_Fd_times 90 = .ok (.iload 4, 2) := by decide +kernel
theorem d_Fd_times_92 : decode c_Fd_times 92 = .ok (.aload_n 0, 1) := by decide +kernel
theorem d_Fd_times_93 : decode c_Fd_times 93 = .ok (.getfield 23, 3) := by decide +kernel
theorem d_Fd_times_96 : decode c_Fd_times 96 = .ok (.iload 4, 2) := by decide +kernel
theorem d_Fd_times_98 : decode c_Fd_times 98 = .ok (.laload, 1) := by decide +kernel
theorem d_Fd_times_99 : decode c_Fd_times 99 = .ok (.aload_n 0, 1) := by decide +kernel
theorem d_Fd_times_100 : decode c_Fd_times 100 = .ok (.getfield 20, 3) := by decide +kernel
theorem d_Fd_times_103 : decode c_Fd_times 103 = .ok (.aload_n 0, 1) := by decide +kernel
theorem d_Fd_times_104 : decode c_Fd_times 104 = .ok (.getfield 23, 3) := by decide +kernel
theorem d_Fd_times_107 : decode c_Fd_times 107 = .ok (.aload_n 0, 1) := by decide +kernel
theorem d_Fd_times_108 : decode c_Fd_times 108 = .ok (.getfield 9, 3) := by decide +kernel
theorem d_Fd_times_111 : decode c_Fd_times 111 = .ok (.iload 4, 2) := by decide +kernel
theorem d_Fd_times_113 : decode c_Fd_times 113 = .ok (.iadd, 1) := by decide +kernel
theorem d_Fd_times_114 : decode c_Fd_times 114 = .ok (.laload, 1) := by decide +kernel
theorem d_Fd_times_115 : decode c_Fd_times 115 = .ok (.lmul, 1) := by decide +kernel
theorem d_Fd_times_116 : decode c_Fd_times 116 = .ok (.ladd, 1) := by decide +kernel
theorem d_Fd_times_117 : decode c_Fd_times 117 = .ok (.lastore, 1) := by decide +kernel
theorem d_Fd_times_118 : decode c_Fd_times 118 = .ok (.iinc 4 1, 3) := by decide +kernel
theorem d_Fd_times_121 : decode c_Fd_times 121 = .ok (.goto (-41), 3) := by decide +kernel
theorem d_Fd_times_124 : decode c_Fd_times 124 = .ok (.aload_n 0, 1) := by decide +kernel
theorem d_Fd_times_125 : decode c_Fd_times 125 = .ok (.aload_n 3, 1) := by decide +kernel
theorem d_Fd_times_126 : decode c_Fd_times 126 = .ok (.invokevirtual 39, 3) := by decide +kernel
theorem d_Fd_times_129 : decode c_Fd_times 129 = .ok (.return_, 1) := by decide +kernel
set_option maxRecDepth 100000 in
set_option maxHeartbeats 4000000 in
/-- row times row, as remainders -/
theorem m_Fd_times (l : Launch) (G : wG) (A : Nat → Prop) (ad : Nat → Nat) (ev : Nat → va_E) (qF qw nl tb : Nat) (low fold : Int64) (hqF : qF < 52) (hF : ev qF = eO 1 [.int (nI nl), .int (nI tb), .long low, .long fold, .ref (ad qw)]) (hnl : 2 ≤ nl) (hnl2 : nl < 100) (qx qy qt : Nat) (X Y T W0 : Nat → Int64) (hqw : qw < 52) (hqx : qx < 52) (hqy : qy < 52) (hqt : qt < 52) (hX : ev qx = eJ G nl X) (hY : ev qy = eJ G nl Y) (hT : ev qt = eJ G nl T) (hW : ev qw = eJ G (nl + nl) W0) (nFw : qF ≠ qw) (nxw : qx ≠ qw) (nyw : qy ≠ qw) (ntw : qt ≠ qw) (nFt : qF ≠ qt) : wM l y_Fd_times w_Fd_times ({ frames := 9, cells := 0, slots := 0, locals := 300 }) G A 52 ad ev [.ref (ad qF), .ref (ad qx), .ref (ad qy), .ref (ad qt)] (fun ov ev' => ov = none ∧ ev' = va_up (va_up ev qw (eJ G (nl + nl) (wdC X Y nl))) qt (eJ G nl (tms nl tb low fold X Y))) := by
  refine wv_ofW (cc := c_Fd_times) (maxL := 8) (ret := none) (by decide) rfl (Nat.le_of_ble_eq_true rfl) ?_
  intro p e s m below meth c ls hx hb hr hml hts hown hlocks hini h hl
  have hl : lv_has ls 8 [(0, .ref (ad qF)), (1, .ref (ad qx)), (2, .ref (ad qy)), (3, .ref (ad qt))] := hl
  refine lv_aload_n hx hb d_Fd_times_0 rfl (lv_at hl 0 rfl) ?_
  refine wv_getf hx hb h qF hqF (fs := [.int (nI (nl)), .int (nI (tb)), .long (low), .long (fold), .ref (ad qw)]) hF hts (fun w hw => List.mem_cons_of_mem _ (fW_Fd w hw)) hown (ci := 1) (C := "NonceBox$Field") (T := fT_Fd) (N := 5) rfl 4 (by decide) (hts _ (List.mem_cons_of_mem _ kf_Fd_23)) rfl (v := .ref (ad qw)) rfl d_Fd_times_1 ?_
  refine lv_lconst (v := 0) hx hb d_Fd_times_4 (by decide) ?_
  refine wv_Sx (As := [.ref (ad qw), .long (0)]) (rest := []) (k := 2) ⟨hx, hb, hml, hown, hts⟩ h (m_Ar_fill1 l G A ad ev qw (nl + nl) W0 0 hqw hW (by omega)) kc_Ar_fill1 kl_Fd_27 ks_Ar_fill1 ki_Ar (by decide +kernel) ⟨rfl, rfl, Nat.le_of_ble_eq_true rfl, Nat.le_of_ble_eq_true rfl⟩ hl.1 rfl rfl (Nat.le_of_ble_eq_true rfl) ⟨Nat.le_refl _, Nat.le_refl _⟩ d_Fd_times_5 ?_
  intro ov ev1 H locs hp h
  rw [hp.1]
  refine W.eq (g2 := F0 m 8 ls []) rfl ?_
  have o1 : ev1 = (va_up ev qw (eJ G (nl + nl) (fun _ => 0))) := hp.2
  have t1_qw : ev1 qw = eJ G (nl + nl) (fun _ => 0) := by rw [o1, va_up_self]
  have t1_qx := (show ev1 qx = ev qx by rw [o1, va_up_ne _ _ nxw]).trans hX
  have t1_qy := (show ev1 qy = ev qy by rw [o1, va_up_ne _ _ nyw]).trans hY
  have t1_qt := (show ev1 qt = ev qt by rw [o1, va_up_ne _ _ ntw]).trans hT
  have t1_qF := (show ev1 qF = ev qF by rw [o1, va_up_ne _ _ nFw]).trans hF
  refine lv_iconst (v := nI (0)) hx hb d_Fd_times_8 (by decide) ?_
  refine lv_istore (lv' := [(4, .int (nI (0))), (0, .ref (ad qF)), (1, .ref (ad qx)), (2, .ref (ad qy)), (3, .ref (ad qt))]) hx hb d_Fd_times_9 hl (by decide) rfl (fun ls hl => ?_)
  have loop2 : ∀ (d k : Nat), k + d = nl →  ∀ (ev2 : Nat → va_E) (H : Heap) (locs : List Loc) (ls : Array Slot), ev2 = (va_up ev1 qw (eJ G (nl + nl) (mulW X Y nl k))) → wT G A 52 ad ev2 s H locs → lv_has ls 8 [(4, .int (nI (k))), (0, .ref (ad qF)), (1, .ref (ad qx)), (2, .ref (ad qy)), (3, .ref (ad qt))] → W p l e ({ frames := 9, cells := 0, slots := 0, locals := 300 }) s m ([.ref (ad qF), .ref (ad qx), .ref (ad qy), .ref (ad qt)] : List Value).toArray below meth c H locs 0 0 (MQ below (wQc G A 52 ad (fun ov ev' => ov = none ∧ ev' = va_up (va_up ev qw (eJ G (nl + nl) (wdC X Y nl))) qt (eJ G nl (tms nl tb low fold X Y)))) ([.ref (ad qF), .ref (ad qx), .ref (ad qy), .ref (ad qt)] : List Value).toArray s 0 0 A) (F0 m 11 ls []) := by
    intro d
    induction d with
    | zero =>
      intro k hk_k  ev2 H locs ls  o2 h hl
      have t2_qw : ev2 qw = eJ G (nl + nl) (mulW X Y nl k) := by rw [o2, va_up_self]
      have t2_qx := (show ev2 qx = ev1 qx by rw [o2, va_up_ne _ _ nxw]).trans t1_qx
      have t2_qy := (show ev2 qy = ev1 qy by rw [o2, va_up_ne _ _ nyw]).trans t1_qy
      have t2_qt := (show ev2 qt = ev1 qt by rw [o2, va_up_ne _ _ ntw]).trans t1_qt
      have t2_qF := (show ev2 qF = ev1 qF by rw [o2, va_up_ne _ _ nFw]).trans t1_qF
      refine lv_iload hx hb d_Fd_times_11 (lv_at hl 0 rfl) ?_
      refine lv_aload_n hx hb d_Fd_times_13 rfl (lv_at hl 1 rfl) ?_
      refine wv_getf hx hb h qF hqF (fs := [.int (nI (nl)), .int (nI (tb)), .long (low), .long (fold), .ref (ad qw)]) t2_qF hts (fun w hw => List.mem_cons_of_mem _ (fW_Fd w hw)) hown (ci := 1) (C := "NonceBox$Field") (T := fT_Fd) (N := 5) rfl 0 (by decide) (hts _ (List.mem_cons_of_mem _ kf_Fd_9)) rfl (v := .int (nI (nl))) rfl d_Fd_times_14 ?_
      refine lv_icmp_ge (tgt := 70) hx hb d_Fd_times_17 (by decide) (fun _ => ?_) (fun hc => absurd ((nI_leI (by omega) (by omega)).mpr (by omega)) hc)
      refine lv_aload_n hx hb d_Fd_times_70 rfl (lv_at hl 1 rfl) ?_
      refine wv_getf hx hb h qF hqF (fs := [.int (nI (nl)), .int (nI (tb)), .long (low), .long (fold), .ref (ad qw)]) t2_qF hts (fun w hw => List.mem_cons_of_mem _ (fW_Fd w hw)) hown (ci := 1) (C := "NonceBox$Field") (T := fT_Fd) (N := 5) rfl 4 (by decide) (hts _ (List.mem_cons_of_mem _ kf_Fd_23)) rfl (v := .ref (ad qw)) rfl d_Fd_times_71 ?_
      refine wv_Sx (As := [.ref (ad qw)]) (rest := []) (k := 1) ⟨hx, hb, hml, hown, hts⟩ h (m_Fd_carry l G A ad ev2 qw (nl + nl) (mulW X Y nl k) hqw t2_qw (by omega) (by omega)) kc_Fd_carry kl_Fd_43 ks_Fd_carry ki_Fd (by decide +kernel) ⟨rfl, rfl, Nat.le_of_ble_eq_true rfl, Nat.le_of_ble_eq_true rfl⟩ hl.1 rfl rfl (Nat.le_of_ble_eq_true rfl) ⟨Nat.le_refl _, Nat.le_refl _⟩ d_Fd_times_74 ?_
      intro ov ev3 H locs hp h
      rw [hp.1]
      refine W.eq (g2 := F0 m 77 ls []) rfl ?_
      have o3 : ev3 = (va_up ev2 qw (eJ G (nl + nl) (cry (mulW X Y nl k) (nl + nl - 1)))) := hp.2
      have t3_qw : ev3 qw = eJ G (nl + nl) (cry (mulW X Y nl k) (nl + nl - 1)) := by rw [o3, va_up_self]
      have t3_qx := (show ev3 qx = ev2 qx by rw [o3, va_up_ne _ _ nxw]).trans t2_qx
      have t3_qy := (show ev3 qy = ev2 qy by rw [o3, va_up_ne _ _ nyw]).trans t2_qy
      have t3_qt := (show ev3 qt = ev2 qt by rw [o3, va_up_ne _ _ ntw]).trans t2_qt
      have t3_qF := (show ev3 qF = ev2 qF by rw [o3, va_up_ne _ _ nFw]).trans t2_qF
      rw [show k = nl by omega] at o3 t3_qw
      refine lv_iconst (v := nI (0)) hx hb d_Fd_times_77 (by decide) ?_
      refine lv_istore (lv' := [(4, .int (nI (0))), (0, .ref (ad qF)), (1, .ref (ad qx)), (2, .ref (ad qy)), (3, .ref (ad qt))]) hx hb d_Fd_times_78 hl (by decide) rfl (fun ls hl => ?_)
      have loop4 : ∀ (d i : Nat), i + d = nl →  ∀ (ev4 : Nat → va_E) (H : Heap) (locs : List Loc) (ls : Array Slot), ev4 = (va_up ev3 qt (eJ G nl (fil 0 i (fld nl fold (wdC X Y nl)) T))) → wT G A 52 ad ev4 s H locs → lv_has ls 8 [(4, .int (nI (i))), (0, .ref (ad qF)), (1, .ref (ad qx)), (2, .ref (ad qy)), (3, .ref (ad qt))] → W p l e ({ frames := 9, cells := 0, slots := 0, locals := 300 }) s m ([.ref (ad qF), .ref (ad qx), .ref (ad qy), .ref (ad qt)] : List Value).toArray below meth c H locs 0 0 (MQ below (wQc G A 52 ad (fun ov ev' => ov = none ∧ ev' = va_up (va_up ev qw (eJ G (nl + nl) (wdC X Y nl))) qt (eJ G nl (tms nl tb low fold X Y)))) ([.ref (ad qF), .ref (ad qx), .ref (ad qy), .ref (ad qt)] : List Value).toArray s 0 0 A) (F0 m 80 ls []) := by
        intro d
        induction d with
        | zero =>
          intro i hk_i  ev4 H locs ls  o4 h hl
          have t4_qt : ev4 qt = eJ G nl (fil 0 i (fld nl fold (wdC X Y nl)) T) := by rw [o4, va_up_self]
          have t4_qw := (show ev4 qw = ev3 qw by rw [o4, va_up_ne _ _ (Ne.symm ntw)]).trans t3_qw
          have t4_qF := (show ev4 qF = ev3 qF by rw [o4, va_up_ne _ _ nFt]).trans t3_qF
          refine lv_iload hx hb d_Fd_times_80 (lv_at hl 0 rfl) ?_
          refine lv_aload_n hx hb d_Fd_times_82 rfl (lv_at hl 1 rfl) ?_
          refine wv_getf hx hb h qF hqF (fs := [.int (nI (nl)), .int (nI (tb)), .long (low), .long (fold), .ref (ad qw)]) t4_qF hts (fun w hw => List.mem_cons_of_mem _ (fW_Fd w hw)) hown (ci := 1) (C := "NonceBox$Field") (T := fT_Fd) (N := 5) rfl 0 (by decide) (hts _ (List.mem_cons_of_mem _ kf_Fd_9)) rfl (v := .int (nI (nl))) rfl d_Fd_times_83 ?_
          refine lv_icmp_ge (tgt := 124) hx hb d_Fd_times_86 (by decide) (fun _ => ?_) (fun hc => absurd ((nI_leI (by omega) (by omega)).mpr (by omega)) hc)
          have h := wT_eqJ (g := (fld nl fold (wdC X Y nl))) h qt hqt t4_qt (fun j hj => by unfold fil; rw [if_pos (by omega), Nat.sub_zero])
          obtain ⟨ev5, o5⟩ : ∃ z, z = va_up ev4 qt (eJ G nl (fld nl fold (wdC X Y nl))) := ⟨_, rfl⟩
          rw [← o5] at h
          have t5_qt : ev5 qt = eJ G nl (fld nl fold (wdC X Y nl)) := by rw [o5, va_up_self]
          have t5_qw := (show ev5 qw = ev4 qw by rw [o5, va_up_ne _ _ (Ne.symm ntw)]).trans t4_qw
          have t5_qF := (show ev5 qF = ev4 qF by rw [o5, va_up_ne _ _ nFt]).trans t4_qF
          refine lv_aload_n hx hb d_Fd_times_124 rfl (lv_at hl 1 rfl) ?_
          refine lv_aload_n hx hb d_Fd_times_125 rfl (lv_at hl 4 rfl) ?_
          refine wv_V (As := [.ref (ad qt)]) (rest := []) (k := 1) ⟨hx, hb, hml, hown, hts⟩ h qF hqF (C := "NonceBox$Field") t5_qF rfl (m_Fd_foldTop l G A ad ev5 qF qw nl tb low fold hqF t5_qF hnl hnl2 qt (fld nl fold (wdC X Y nl)) hqt t5_qt nFt) kc_Fd_foldTop kl_Fd_39 km_Fd_foldTop kv_Fd_foldTop ki_Fd (by decide +kernel) ⟨rfl, rfl, Nat.le_of_ble_eq_true rfl, Nat.le_of_ble_eq_true rfl⟩ hl.1 rfl rfl (Nat.le_of_ble_eq_true rfl) ⟨Nat.le_refl _, Nat.le_refl _⟩ d_Fd_times_126 ?_
          intro ov ev6 H locs hp h
          rw [hp.1]
          refine W.eq (g2 := F0 m 129 ls []) rfl ?_
          have o6 : ev6 = (va_up ev5 qt (eJ G nl (tms nl tb low fold X Y))) := hp.2
          have t6_qt : ev6 qt = eJ G nl (tms nl tb low fold X Y) := by rw [o6, va_up_self]
          have t6_qw := (show ev6 qw = ev5 qw by rw [o6, va_up_ne _ _ (Ne.symm ntw)]).trans t5_qw
          have t6_qF := (show ev6 qF = ev5 qF by rw [o6, va_up_ne _ _ nFt]).trans t5_qF
          refine wv_vret hx hb hr hlocks h d_Fd_times_129 ⟨rfl, ?_⟩
          rw [o6, o5, o4, va_up2, va_up2, o3, o2, o1, va_up2, va_up2]
          rfl
        | succ d ih =>
          intro i hk_i  ev4 H locs ls  o4 h hl
          have t4_qt : ev4 qt = eJ G nl (fil 0 i (fld nl fold (wdC X Y nl)) T) := by rw [o4, va_up_self]
          have t4_qw := (show ev4 qw = ev3 qw by rw [o4, va_up_ne _ _ (Ne.symm ntw)]).trans t3_qw
          have t4_qF := (show ev4 qF = ev3 qF by rw [o4, va_up_ne _ _ nFt]).trans t3_qF
          refine lv_iload hx hb d_Fd_times_80 (lv_at hl 0 rfl) ?_
          refine lv_aload_n hx hb d_Fd_times_82 rfl (lv_at hl 1 rfl) ?_
          refine wv_getf hx hb h qF hqF (fs := [.int (nI (nl)), .int (nI (tb)), .long (low), .long (fold), .ref (ad qw)]) t4_qF hts (fun w hw => List.mem_cons_of_mem _ (fW_Fd w hw)) hown (ci := 1) (C := "NonceBox$Field") (T := fT_Fd) (N := 5) rfl 0 (by decide) (hts _ (List.mem_cons_of_mem _ kf_Fd_9)) rfl (v := .int (nI (nl))) rfl d_Fd_times_83 ?_
          refine lv_icmp_ge (tgt := 124) hx hb d_Fd_times_86 (by decide) (fun hc => absurd ((nI_leI (by omega) (by omega)).mp hc) (by omega)) (fun _ => ?_)
          refine lv_aload_n hx hb d_Fd_times_89 rfl (lv_at hl 4 rfl) ?_
          refine lv_iload hx hb d_Fd_times_90 (lv_at hl 0 rfl) ?_
          refine lv_aload_n hx hb d_Fd_times_92 rfl (lv_at hl 1 rfl) ?_
          refine wv_getf hx hb h qF hqF (fs := [.int (nI (nl)), .int (nI (tb)), .long (low), .long (fold), .ref (ad qw)]) t4_qF hts (fun w hw => List.mem_cons_of_mem _ (fW_Fd w hw)) hown (ci := 1) (C := "NonceBox$Field") (T := fT_Fd) (N := 5) rfl 4 (by decide) (hts _ (List.mem_cons_of_mem _ kf_Fd_23)) rfl (v := .ref (ad qw)) rfl d_Fd_times_93 ?_
          refine lv_iload hx hb d_Fd_times_96 (lv_at hl 0 rfl) ?_
          refine wv_lald hx hb h qw hqw (f := (wdC X Y nl)) t4_qw (k := i) rfl (by omega) (by omega) d_Fd_times_98 ?_
          refine lv_aload_n hx hb d_Fd_times_99 rfl (lv_at hl 1 rfl) ?_
          refine wv_getf hx hb h qF hqF (fs := [.int (nI (nl)), .int (nI (tb)), .long (low), .long (fold), .ref (ad qw)]) t4_qF hts (fun w hw => List.mem_cons_of_mem _ (fW_Fd w hw)) hown (ci := 1) (C := "NonceBox$Field") (T := fT_Fd) (N := 5) rfl 3 (by decide) (hts _ (List.mem_cons_of_mem _ kf_Fd_20)) rfl (v := .long (fold)) rfl d_Fd_times_100 ?_
          refine lv_aload_n hx hb d_Fd_times_103 rfl (lv_at hl 1 rfl) ?_
          refine wv_getf hx hb h qF hqF (fs := [.int (nI (nl)), .int (nI (tb)), .long (low), .long (fold), .ref (ad qw)]) t4_qF hts (fun w hw => List.mem_cons_of_mem _ (fW_Fd w hw)) hown (ci := 1) (C := "NonceBox$Field") (T := fT_Fd) (N := 5) rfl 4 (by decide) (hts _ (List.mem_cons_of_mem _ kf_Fd_23)) rfl (v := .ref (ad qw)) rfl d_Fd_times_104 ?_
          refine lv_aload_n hx hb d_Fd_times_107 rfl (lv_at hl 1 rfl) ?_
          refine wv_getf hx hb h qF hqF (fs := [.int (nI (nl)), .int (nI (tb)), .long (low), .long (fold), .ref (ad qw)]) t4_qF hts (fun w hw => List.mem_cons_of_mem _ (fW_Fd w hw)) hown (ci := 1) (C := "NonceBox$Field") (T := fT_Fd) (N := 5) rfl 0 (by decide) (hts _ (List.mem_cons_of_mem _ kf_Fd_9)) rfl (v := .int (nI (nl))) rfl d_Fd_times_108 ?_
          refine lv_iload hx hb d_Fd_times_111 (lv_at hl 0 rfl) ?_
          refine lv_iadd hx hb d_Fd_times_113 ?_
          refine wv_top (nI_add _ _) ?_
          refine wv_lald hx hb h qw hqw (f := (wdC X Y nl)) t4_qw (k := nl + i) rfl (by omega) (by omega) d_Fd_times_114 ?_
          refine lv_lmul hx hb d_Fd_times_115 ?_
          refine lv_ladd hx hb d_Fd_times_116 ?_
          refine wv_last hx hb h qt hqt (f := (fil 0 i (fld nl fold (wdC X Y nl)) T)) t4_qt (k := i) rfl (by omega) (by omega) d_Fd_times_117 (fun H locs h => ?_)
          obtain ⟨ev5, o5⟩ : ∃ z, z = va_up ev4 qt (eJ G nl (va_up ((fil 0 i (fld nl fold (wdC X Y nl)) T)) i ((((wdC X Y nl)) i) + (fold * (((wdC X Y nl)) (nl + i)))))) := ⟨_, rfl⟩
          rw [← o5] at h
          have t5_qt : ev5 qt = eJ G nl (va_up ((fil 0 i (fld nl fold (wdC X Y nl)) T)) i ((((wdC X Y nl)) i) + (fold * (((wdC X Y nl)) (nl + i))))) := by rw [o5, va_up_self]
          have t5_qw := (show ev5 qw = ev4 qw by rw [o5, va_up_ne _ _ (Ne.symm ntw)]).trans t4_qw
          have t5_qF := (show ev5 qF = ev4 qF by rw [o5, va_up_ne _ _ nFt]).trans t4_qF
          refine lv_iinc (v := nI (i + 1)) (lv' := [(4, .int (nI (i + 1))), (0, .ref (ad qF)), (1, .ref (ad qx)), (2, .ref (ad qy)), (3, .ref (ad qt))]) hx hb d_Fd_times_118 hl (k := 0) rfl (nI_add _ _) (by decide) rfl (fun ls hl => ?_)
          refine lv_goto (tgt := 80) hx hb d_Fd_times_121 (by decide) ?_
          refine ih (i + 1) (by omega) ev5 H locs ls ?_ h (lv_sub hl [0, 1, 2, 3, 4] rfl)
          rw [o5, o4, va_up2, ← fil_s 0 i (fld nl fold (wdC X Y nl)) T rfl, Nat.zero_add]
          rfl
      exact loop4 nl 0 (by omega) ev3 H locs ls (by rw [fil_0, va_upi _ _ t3_qt]) h (lv_sub hl [0, 1, 2, 3, 4] rfl)
    | succ d ih =>
      intro k hk_k  ev2 H locs ls  o2 h hl
      have t2_qw : ev2 qw = eJ G (nl + nl) (mulW X Y nl k) := by rw [o2, va_up_self]
      have t2_qx := (show ev2 qx = ev1 qx by rw [o2, va_up_ne _ _ nxw]).trans t1_qx
      have t2_qy := (show ev2 qy = ev1 qy by rw [o2, va_up_ne _ _ nyw]).trans t1_qy
      have t2_qt := (show ev2 qt = ev1 qt by rw [o2, va_up_ne _ _ ntw]).trans t1_qt
      have t2_qF := (show ev2 qF = ev1 qF by rw [o2, va_up_ne _ _ nFw]).trans t1_qF
      refine lv_iload hx hb d_Fd_times_11 (lv_at hl 0 rfl) ?_
      refine lv_aload_n hx hb d_Fd_times_13 rfl (lv_at hl 1 rfl) ?_
      refine wv_getf hx hb h qF hqF (fs := [.int (nI (nl)), .int (nI (tb)), .long (low), .long (fold), .ref (ad qw)]) t2_qF hts (fun w hw => List.mem_cons_of_mem _ (fW_Fd w hw)) hown (ci := 1) (C := "NonceBox$Field") (T := fT_Fd) (N := 5) rfl 0 (by decide) (hts _ (List.mem_cons_of_mem _ kf_Fd_9)) rfl (v := .int (nI (nl))) rfl d_Fd_times_14 ?_
      refine lv_icmp_ge (tgt := 70) hx hb d_Fd_times_17 (by decide) (fun hc => absurd ((nI_leI (by omega) (by omega)).mp hc) (by omega)) (fun _ => ?_)
      refine lv_aload_n hx hb d_Fd_times_20 rfl (lv_at hl 2 rfl) ?_
      refine lv_iload hx hb d_Fd_times_21 (lv_at hl 0 rfl) ?_
      refine wv_lald hx hb h qx hqx (f := X) t2_qx (k := k) rfl (by omega) (by omega) d_Fd_times_23 ?_
      refine lv_lstore (lv' := [(5, .long (X k)), (4, .int (nI (k))), (0, .ref (ad qF)), (1, .ref (ad qx)), (2, .ref (ad qy)), (3, .ref (ad qt))]) hx hb d_Fd_times_24 hl (by decide) rfl (fun ls hl => ?_)
      refine lv_iconst (v := nI (0)) hx hb d_Fd_times_26 (by decide) ?_
      refine lv_istore (lv' := [(7, .int (nI (0))), (5, .long (X k)), (4, .int (nI (k))), (0, .ref (ad qF)), (1, .ref (ad qx)), (2, .ref (ad qy)), (3, .ref (ad qt))]) hx hb d_Fd_times_27 hl (by decide) rfl (fun ls hl => ?_)
      have loop3 : ∀ (d j : Nat), j + d = nl →  ∀ (ev3 : Nat → va_E) (H : Heap) (locs : List Loc) (ls : Array Slot), ev3 = (va_up ev2 qw (eJ G (nl + nl) (mulR X Y (mulW X Y nl k) k j))) → wT G A 52 ad ev3 s H locs → lv_has ls 8 [(7, .int (nI (j))), (4, .int (nI (k))), (5, .long (X k)), (0, .ref (ad qF)), (1, .ref (ad qx)), (2, .ref (ad qy)), (3, .ref (ad qt))] → W p l e ({ frames := 9, cells := 0, slots := 0, locals := 300 }) s m ([.ref (ad qF), .ref (ad qx), .ref (ad qy), .ref (ad qt)] : List Value).toArray below meth c H locs 0 0 (MQ below (wQc G A 52 ad (fun ov ev' => ov = none ∧ ev' = va_up (va_up ev qw (eJ G (nl + nl) (wdC X Y nl))) qt (eJ G nl (tms nl tb low fold X Y)))) ([.ref (ad qF), .ref (ad qx), .ref (ad qy), .ref (ad qt)] : List Value).toArray s 0 0 A) (F0 m 29 ls []) := by
        intro d
        induction d with
        | zero =>
          intro j hk_j  ev3 H locs ls  o3 h hl
          have t3_qw : ev3 qw = eJ G (nl + nl) (mulR X Y (mulW X Y nl k) k j) := by rw [o3, va_up_self]
          have t3_qx := (show ev3 qx = ev2 qx by rw [o3, va_up_ne _ _ nxw]).trans t2_qx
          have t3_qy := (show ev3 qy = ev2 qy by rw [o3, va_up_ne _ _ nyw]).trans t2_qy
          have t3_qt := (show ev3 qt = ev2 qt by rw [o3, va_up_ne _ _ ntw]).trans t2_qt
          have t3_qF := (show ev3 qF = ev2 qF by rw [o3, va_up_ne _ _ nFw]).trans t2_qF
          refine lv_iload hx hb d_Fd_times_29 (lv_at hl 0 rfl) ?_
          refine lv_aload_n hx hb d_Fd_times_31 rfl (lv_at hl 3 rfl) ?_
          refine wv_getf hx hb h qF hqF (fs := [.int (nI (nl)), .int (nI (tb)), .long (low), .long (fold), .ref (ad qw)]) t3_qF hts (fun w hw => List.mem_cons_of_mem _ (fW_Fd w hw)) hown (ci := 1) (C := "NonceBox$Field") (T := fT_Fd) (N := 5) rfl 0 (by decide) (hts _ (List.mem_cons_of_mem _ kf_Fd_9)) rfl (v := .int (nI (nl))) rfl d_Fd_times_32 ?_
          refine lv_icmp_ge (tgt := 64) hx hb d_Fd_times_35 (by decide) (fun _ => ?_) (fun hc => absurd ((nI_leI (by omega) (by omega)).mpr (by omega)) hc)
          refine lv_iinc (v := nI (k + 1)) (lv' := [(4, .int (nI (k + 1))), (7, .int (nI (j))), (5, .long (X k)), (0, .ref (ad qF)), (1, .ref (ad qx)), (2, .ref (ad qy)), (3, .ref (ad qt))]) hx hb d_Fd_times_64 hl (k := 1) rfl (nI_add _ _) (by decide) rfl (fun ls hl => ?_)
          refine lv_goto (tgt := 11) hx hb d_Fd_times_67 (by decide) ?_
          refine ih (k + 1) (by omega) ev3 H locs ls ?_ h (lv_sub hl [0, 3, 4, 5, 6] rfl)
          rw [o3, o2, va_up2, show j = nl by omega]
          rfl
        | succ d ih1 =>
          intro j hk_j  ev3 H locs ls  o3 h hl
          have t3_qw : ev3 qw = eJ G (nl + nl) (mulR X Y (mulW X Y nl k) k j) := by rw [o3, va_up_self]
          have t3_qx := (show ev3 qx = ev2 qx by rw [o3, va_up_ne _ _ nxw]).trans t2_qx
          have t3_qy := (show ev3 qy = ev2 qy by rw [o3, va_up_ne _ _ nyw]).trans t2_qy
          have t3_qt := (show ev3 qt = ev2 qt by rw [o3, va_up_ne _ _ ntw]).trans t2_qt
          have t3_qF := (show ev3 qF = ev2 qF by rw [o3, va_up_ne _ _ nFw]).trans t2_qF
          refine lv_iload hx hb d_Fd_times_29 (lv_at hl 0 rfl) ?_
          refine lv_aload_n hx hb d_Fd_times_31 rfl (lv_at hl 3 rfl) ?_
          refine wv_getf hx hb h qF hqF (fs := [.int (nI (nl)), .int (nI (tb)), .long (low), .long (fold), .ref (ad qw)]) t3_qF hts (fun w hw => List.mem_cons_of_mem _ (fW_Fd w hw)) hown (ci := 1) (C := "NonceBox$Field") (T := fT_Fd) (N := 5) rfl 0 (by decide) (hts _ (List.mem_cons_of_mem _ kf_Fd_9)) rfl (v := .int (nI (nl))) rfl d_Fd_times_32 ?_
          refine lv_icmp_ge (tgt := 64) hx hb d_Fd_times_35 (by decide) (fun hc => absurd ((nI_leI (by omega) (by omega)).mp hc) (by omega)) (fun _ => ?_)
          refine lv_aload_n hx hb d_Fd_times_38 rfl (lv_at hl 3 rfl) ?_
          refine wv_getf hx hb h qF hqF (fs := [.int (nI (nl)), .int (nI (tb)), .long (low), .long (fold), .ref (ad qw)]) t3_qF hts (fun w hw => List.mem_cons_of_mem _ (fW_Fd w hw)) hown (ci := 1) (C := "NonceBox$Field") (T := fT_Fd) (N := 5) rfl 4 (by decide) (hts _ (List.mem_cons_of_mem _ kf_Fd_23)) rfl (v := .ref (ad qw)) rfl d_Fd_times_39 ?_
          refine lv_iload hx hb d_Fd_times_42 (lv_at hl 1 rfl) ?_
          refine lv_iload hx hb d_Fd_times_44 (lv_at hl 0 rfl) ?_
          refine lv_iadd hx hb d_Fd_times_46 ?_
          refine wv_top (nI_add _ _) ?_
          refine lv_dup2_11 hx hb d_Fd_times_47 rfl rfl ?_
          refine wv_lald hx hb h qw hqw (f := (mulR X Y (mulW X Y nl k) k j)) t3_qw (k := k + j) rfl (by omega) (by omega) d_Fd_times_48 ?_
          refine lv_lload hx hb d_Fd_times_49 (lv_at hl 2 rfl) ?_
          refine lv_aload_n hx hb d_Fd_times_51 rfl (lv_at hl 5 rfl) ?_
          refine lv_iload hx hb d_Fd_times_52 (lv_at hl 0 rfl) ?_
          refine wv_lald hx hb h qy hqy (f := Y) t3_qy (k := j) rfl (by omega) (by omega) d_Fd_times_54 ?_
          refine lv_lmul hx hb d_Fd_times_55 ?_
          refine lv_ladd hx hb d_Fd_times_56 ?_
          refine wv_last hx hb h qw hqw (f := (mulR X Y (mulW X Y nl k) k j)) t3_qw (k := k + j) rfl (by omega) (by omega) d_Fd_times_57 (fun H locs h => ?_)
          obtain ⟨ev4, o4⟩ : ∃ z, z = va_up ev3 qw (eJ G (nl + nl) (va_up ((mulR X Y (mulW X Y nl k) k j)) (k + j) ((((mulR X Y (mulW X Y nl k) k j)) (k + j)) + ((X k) * (Y j))))) := ⟨_, rfl⟩
          rw [← o4] at h
          have t4_qw : ev4 qw = eJ G (nl + nl) (va_up ((mulR X Y (mulW X Y nl k) k j)) (k + j) ((((mulR X Y (mulW X Y nl k) k j)) (k + j)) + ((X k) * (Y j)))) := by rw [o4, va_up_self]
          have t4_qx := (show ev4 qx = ev3 qx by rw [o4, va_up_ne _ _ nxw]).trans t3_qx
          have t4_qy := (show ev4 qy = ev3 qy by rw [o4, va_up_ne _ _ nyw]).trans t3_qy
          have t4_qt := (show ev4 qt = ev3 qt by rw [o4, va_up_ne _ _ ntw]).trans t3_qt
          have t4_qF := (show ev4 qF = ev3 qF by rw [o4, va_up_ne _ _ nFw]).trans t3_qF
          refine lv_iinc (v := nI (j + 1)) (lv' := [(7, .int (nI (j + 1))), (4, .int (nI (k))), (5, .long (X k)), (0, .ref (ad qF)), (1, .ref (ad qx)), (2, .ref (ad qy)), (3, .ref (ad qt))]) hx hb d_Fd_times_58 hl (k := 0) rfl (nI_add _ _) (by decide) rfl (fun ls hl => ?_)
          refine lv_goto (tgt := 29) hx hb d_Fd_times_61 (by decide) ?_
          refine ih1 (j + 1) (by omega) ev4 H locs ls ?_ h (lv_sub hl [0, 1, 2, 3, 4, 5, 6] rfl)
          rw [o4, o3, va_up2]
          rfl
      exact loop3 nl 0 (by omega) ev2 H locs ls (va_upi _ _ t2_qw).symm h (lv_sub hl [0, 2, 1, 3, 4, 5, 6] rfl)
  exact loop2 nl 0 (by omega) ev1 H locs ls (va_upi _ _ t1_qw).symm h (lv_sub hl [0, 1, 2, 3, 4] rfl)
theorem d_Fd_addByte_0 : decode c_Fd_addByte 0 = .ok (.aload 4, 2) := by decide +kernel
theorem d_Fd_addByte_2 : decode c_Fd_addByte 2 = .ok (.bipush 8, 2) := by decide +kernel
theorem d_Fd_addByte_4 : decode c_Fd_addByte 4 = .ok (.iload_n 3, 1) := by decide +kernel
theorem d_Fd_addByte_5 : decode c_Fd_addByte 5 = .ok (.imul, 1) := by decide +kernel
theorem d_Fd_addByte_6 : decode c_Fd_addByte 6 = .ok (.bipush 26, 2) := by decide +kernel
theorem d_Fd_addByte_8 : decode c_Fd_addByte 8 = .ok (.idiv, 1) := by decide +kernel
theorem d_Fd_addByte_9 : decode c_Fd_addByte 9 = .ok (.dup2, 1) := by decide +kernel
theorem d_Fd_addByte_10 : decode c_Fd_addByte 10 = .ok (.laload, 1) := by decide +kernel
theorem d_Fd_addByte_11 : decode c_Fd_addByte 11 = .ok (.lload_n 1, 1) := by decide +kernel
theorem d_Fd_addByte_12 : decode c_Fd_addByte 12 = .ok (.bipush 8, 2) := by decide +kernel
theorem d_Fd_addByte_14 : decode c_Fd_addByte 14 = .ok (.iload_n 3, 1) := by decide +kernel
theorem d_Fd_addByte_15 : decode c_Fd_addByte 15 = .ok (.imul, 1) := by decide +kernel
theorem d_Fd_addByte_16 : decode c_Fd_addByte 16 = .ok (.bipush 26, 2) := by decide +kernel
theorem d_Fd_addByte_18 : decode c_Fd_addByte 18 = .ok (.irem, 1) := by decide +kernel
theorem d_Fd_addByte_19 : decode c_Fd_addByte 19 = .ok (.lshl, 1) := by decide +kernel
theorem d_Fd_addByte_20 : decode c_Fd_addByte 20 = .ok (.ladd, 1) := by decide +kernel
theorem d_Fd_addByte_21 : decode c_Fd_addByte 21 = .ok (.lastore, 1) := by decide +kernel
theorem d_Fd_addByte_22 : decode c_Fd_addByte 22 = .ok (.return_, 1) := by decide +kernel
set_option maxRecDepth 100000 in
set_option maxHeartbeats 4000000 in
/-- a byte added at its place -/
theorem m_Fd_addByte (l : Launch) (G : wG) (A : Nat → Prop) (ad : Nat → Nat) (ev : Nat → va_E) (qF q M i : Nat) (v : Int64) (f : Nat → Int64) (hq : q < 52) (hev : ev q = eJ G M f) (hi : 8 * i / 26 < M) (hi2 : i < 1000) (hM : M < 2 ^ 30) : wM l y_Fd_addByte w_Fd_addByte ({ frames := 0, cells := 0, slots := 0, locals := 0 }) G A 52 ad ev [.ref (ad qF), .long (v), .int (nI (i)), .ref (ad q)] (fun ov ev' => ov = none ∧ ev' = va_up ev q (eJ G M (adB f v i))) := by
  refine wv_ofW (cc := c_Fd_addByte) (maxL := 5) (ret := none) (by decide) rfl (Nat.le_of_ble_eq_true rfl) ?_
  intro p e s m below meth c ls hx hb hr hml hts hown hlocks hini h hl
  have hl : lv_has ls 5 [(0, .ref (ad qF)), (1, .long (v)), (3, .int (nI (i))), (4, .ref (ad q))] := hl
  refine lv_aload hx hb d_Fd_addByte_0 (lv_at hl 3 rfl) ?_
  refine lv_bipush (v := nI (8)) hx hb d_Fd_addByte_2 (by decide) ?_
  refine lv_iload_n hx hb d_Fd_addByte_4 rfl (lv_at hl 2 rfl) ?_
  refine lv_imul hx hb d_Fd_addByte_5 ?_
  refine wv_top (pk_mul _ _) ?_
  refine lv_bipush (v := nI (26)) hx hb d_Fd_addByte_6 (by decide) ?_
  refine lv_idiv hx hb d_Fd_addByte_8 (by decide) ?_
  refine wv_top (pk_div (by omega) (by omega) (by omega)) ?_
  refine lv_dup2_11 hx hb d_Fd_addByte_9 rfl rfl ?_
  refine wv_lald hx hb h q hq (f := f) hev (k := (8 * i) / 26) rfl (by omega) (by omega) d_Fd_addByte_10 ?_
  refine lv_lload_n hx hb d_Fd_addByte_11 rfl (lv_at hl 1 rfl) ?_
  refine lv_bipush (v := nI (8)) hx hb d_Fd_addByte_12 (by decide) ?_
  refine lv_iload_n hx hb d_Fd_addByte_14 rfl (lv_at hl 2 rfl) ?_
  refine lv_imul hx hb d_Fd_addByte_15 ?_
  refine wv_top (pk_mul _ _) ?_
  refine lv_bipush (v := nI (26)) hx hb d_Fd_addByte_16 (by decide) ?_
  refine lv_irem hx hb d_Fd_addByte_18 (by decide) ?_
  refine wv_top (pk_rem (by omega) (by omega) (by omega)) ?_
  refine lv_lshl (v := sal v ((8 * i) % 26)) hx hb d_Fd_addByte_19 rfl ?_
  refine lv_ladd hx hb d_Fd_addByte_20 ?_
  refine wv_last hx hb h q hq (f := f) hev (k := (8 * i) / 26) rfl (by omega) (by omega) d_Fd_addByte_21 (fun H locs h => ?_)
  obtain ⟨ev1, o1⟩ : ∃ z, z = va_up ev q (eJ G M (va_up f ((8 * i) / 26) ((f ((8 * i) / 26)) + (sal v ((8 * i) % 26))))) := ⟨_, rfl⟩
  rw [← o1] at h
  have t1_q : ev1 q = eJ G M (va_up f ((8 * i) / 26) ((f ((8 * i) / 26)) + (sal v ((8 * i) % 26)))) := by rw [o1, va_up_self]
  exact wv_vret hx hb hr hlocks h d_Fd_addByte_22 ⟨rfl, o1⟩
theorem d_Fd_addBytes_0 : decode c_Fd_addBytes 0 = .ok (.iconst 0, 1) := by decide +kernel
theorem d_Fd_addBytes_1 : decode c_Fd_addBytes 1 = .ok (.istore 5, 2) := by decide +kernel
theorem d_Fd_addBytes_3 : decode c_Fd_addBytes 3 = .ok (.iload 5, 2) := by decide +kernel
theorem d_Fd_addBytes_5 : decode c_Fd_addBytes 5 = .ok (.iload_n 3, 1) := by decide +kernel
theorem d_Fd_addBytes_6 : decode c_Fd_addBytes 6 = .ok (.if_icmp .ge 28, 3) := by decide +kernel
theorem d_Fd_addBytes_9 : decode c_Fd_addBytes 9 = .ok (.aload_n 0, 1) := by decide +kernel
theorem d_Fd_addBytes_10 : decode c_Fd_addBytes 10 = .ok (.aload_n 1, 1) := by decide +kernel
theorem d_Fd_addBytes_11 : decode c_Fd_addBytes 11 = .ok (.iload_n 2, 1) := by decide +kernel
theorem d_Fd_addBytes_12 : decode c_Fd_addBytes 12 = .ok (.iload 5, 2) := by decide +kernel
theorem d_Fd_addBytes_14 : decode c_Fd_addBytes 14 = .ok (.iadd, 1) := by decide +kernel
theorem d_Fd_addBytes_15 : decode c_Fd_addBytes 15 = .ok (.baload, 1) := by decide +kernel
theorem d_Fd_addBytes_16 : decode c_Fd_addBytes 16 = .ok (.sipush 255, 3) := by decide +kernel
theorem d_Fd_addBytes_19 : decode c_Fd_addBytes 19 = .ok (.iand, 1) := by decide +kernel
theorem d_Fd_addBytes_20 : decode c_Fd_addBytes 20 = .ok (.i2l, 1) := by decide +kernel
theorem d_Fd_addBytes_21 : decode c_Fd_addBytes 21 = .ok (.iload 5, 2) := by decide +kernel
theorem d_Fd_addBytes_23 : decode c_Fd_addBytes 23 = .ok (.aload 4, 2) := by decide +kernel
theorem d_Fd_addBytes_25 : decode c_Fd_addBytes 25 = .ok (.invokevirtual 46, 3) := by decide +kernel
theorem d_Fd_addBytes_28 : decode c_Fd_addBytes 28 = .ok (.iinc 5 1, 3) := by decide +kernel
theorem d_Fd_addBytes_31 : decode c_Fd_addBytes 31 = .ok (.goto (-28), 3) := by decide +kernel
theorem d_Fd_addBytes_34 : decode c_Fd_addBytes 34 = .ok (.aload 4, 2) := by decide +kernel
theorem d_Fd_addBytes_36 : decode c_Fd_addBytes 36 = .ok (.invokestatic 43, 3) := by decide +kernel
theorem d_Fd_addBytes_39 : decode c_Fd_addBytes 39 = .ok (.return_, 1) := by decide +kernel
set_option maxRecDepth 100000 in
set_option maxHeartbeats 4000000 in
/-- the number in n bytes added -/
theorem m_Fd_addBytes (l : Launch) (G : wG) (A : Nat → Prop) (ad : Nat → Nat) (ev : Nat → va_E) (qF ci : Nat) (fs : List Value) (hqF : qF < 52) (hF : ev qF = eO 1 fs) (qb q M Mb o n : Nat) (B : Nat → Nat) (f : Nat → Int64) (hqb : qb < 52) (hq : q < 52) (hb' : ev qb = eB G Mb (bs B)) (hB : ∀ j, B j < 256) (hev : ev q = eJ G M f) (nFq : qF ≠ q) (nbq : qb ≠ q) (hn : 8 * n ≤ 26 * M) (hn2 : n < 1000) (ho : o + n ≤ Mb) (hMb : Mb < 2 ^ 30) (h1 : 1 ≤ M) (hM : M < 2 ^ 30) : wM l y_Fd_addBytes w_Fd_addBytes ({ frames := 3, cells := 0, slots := 0, locals := 100 }) G A 52 ad ev [.ref (ad qF), .ref (ad qb), .int (nI (o)), .int (nI (n)), .ref (ad q)] (fun ov ev' => ov = none ∧ ev' = va_up ev q (eJ G M (cry (adBs B o f n) (M - 1)))) := by
  refine wv_ofW (cc := c_Fd_addBytes) (maxL := 6) (ret := none) (by decide) rfl (Nat.le_of_ble_eq_true rfl) ?_
  intro p e s m below meth c ls hx hb hr hml hts hown hlocks hini h hl
  have hl : lv_has ls 6 [(0, .ref (ad qF)), (1, .ref (ad qb)), (2, .int (nI (o))), (3, .int (nI (n))), (4, .ref (ad q))] := hl
  refine lv_iconst (v := nI (0)) hx hb d_Fd_addBytes_0 (by decide) ?_
  refine lv_istore (lv' := [(5, .int (nI (0))), (0, .ref (ad qF)), (1, .ref (ad qb)), (2, .int (nI (o))), (3, .int (nI (n))), (4, .ref (ad q))]) hx hb d_Fd_addBytes_1 hl (by decide) rfl (fun ls hl => ?_)
  have loop1 : ∀ (d k : Nat), k + d = n →  ∀ (ev1 : Nat → va_E) (H : Heap) (locs : List Loc) (ls : Array Slot), ev1 = (va_up ev q (eJ G M (adBs B o f k))) → wT G A 52 ad ev1 s H locs → lv_has ls 6 [(5, .int (nI (k))), (0, .ref (ad qF)), (1, .ref (ad qb)), (2, .int (nI (o))), (3, .int (nI (n))), (4, .ref (ad q))] → W p l e ({ frames := 3, cells := 0, slots := 0, locals := 100 }) s m ([.ref (ad qF), .ref (ad qb), .int (nI (o)), .int (nI (n)), .ref (ad q)] : List Value).toArray below meth c H locs 0 0 (MQ below (wQc G A 52 ad (fun ov ev' => ov = none ∧ ev' = va_up ev q (eJ G M (cry (adBs B o f n) (M - 1))))) ([.ref (ad qF), .ref (ad qb), .int (nI (o)), .int (nI (n)), .ref (ad q)] : List Value).toArray s 0 0 A) (F0 m 3 ls []) := by
    intro d
    induction d with
    | zero =>
      intro k hk_k  ev1 H locs ls  o1 h hl
      have t1_q : ev1 q = eJ G M (adBs B o f k) := by rw [o1, va_up_self]
      have t1_qb := (show ev1 qb = ev qb by rw [o1, va_up_ne _ _ nbq]).trans hb'
      have t1_qF := (show ev1 qF = ev qF by rw [o1, va_up_ne _ _ nFq]).trans hF
      refine lv_iload hx hb d_Fd_addBytes_3 (lv_at hl 0 rfl) ?_
      refine lv_iload_n hx hb d_Fd_addBytes_5 rfl (lv_at hl 4 rfl) ?_
      refine lv_icmp_ge (tgt := 34) hx hb d_Fd_addBytes_6 (by decide) (fun _ => ?_) (fun hc => absurd ((nI_leI (by omega) (by omega)).mpr (by omega)) hc)
      refine lv_aload hx hb d_Fd_addBytes_34 (lv_at hl 5 rfl) ?_
      refine wv_Sx (As := [.ref (ad q)]) (rest := []) (k := 1) ⟨hx, hb, hml, hown, hts⟩ h (m_Fd_carry l G A ad ev1 q M (adBs B o f k) hq t1_q (by omega) (by omega)) kc_Fd_carry kl_Fd_43 ks_Fd_carry ki_Fd (by decide +kernel) ⟨rfl, rfl, Nat.le_of_ble_eq_true rfl, Nat.le_of_ble_eq_true rfl⟩ hl.1 rfl rfl (Nat.le_of_ble_eq_true rfl) ⟨Nat.le_refl _, Nat.le_refl _⟩ d_Fd_addBytes_36 ?_
      intro ov ev2 H locs hp h
      rw [hp.1]
      refine W.eq (g2 := F0 m 39 ls []) rfl ?_
      have o2 : ev2 = (va_up ev1 q (eJ G M (cry (adBs B o f k) (M - 1)))) := hp.2
      have t2_q : ev2 q = eJ G M (cry (adBs B o f k) (M - 1)) := by rw [o2, va_up_self]
      have t2_qb := (show ev2 qb = ev1 qb by rw [o2, va_up_ne _ _ nbq]).trans t1_qb
      have t2_qF := (show ev2 qF = ev1 qF by rw [o2, va_up_ne _ _ nFq]).trans t1_qF
      refine wv_vret hx hb hr hlocks h d_Fd_addBytes_39 ⟨rfl, ?_⟩
      rw [o2, o1, va_up2, show k = n by omega]
    | succ d ih =>
      intro k hk_k  ev1 H locs ls  o1 h hl
      have t1_q : ev1 q = eJ G M (adBs B o f k) := by rw [o1, va_up_self]
      have t1_qb := (show ev1 qb = ev qb by rw [o1, va_up_ne _ _ nbq]).trans hb'
      have t1_qF := (show ev1 qF = ev qF by rw [o1, va_up_ne _ _ nFq]).trans hF
      refine lv_iload hx hb d_Fd_addBytes_3 (lv_at hl 0 rfl) ?_
      refine lv_iload_n hx hb d_Fd_addBytes_5 rfl (lv_at hl 4 rfl) ?_
      refine lv_icmp_ge (tgt := 34) hx hb d_Fd_addBytes_6 (by decide) (fun hc => absurd ((nI_leI (by omega) (by omega)).mp hc) (by omega)) (fun _ => ?_)
      refine lv_aload_n hx hb d_Fd_addBytes_9 rfl (lv_at hl 1 rfl) ?_
      refine lv_aload_n hx hb d_Fd_addBytes_10 rfl (lv_at hl 2 rfl) ?_
      refine lv_iload_n hx hb d_Fd_addBytes_11 rfl (lv_at hl 3 rfl) ?_
      refine lv_iload hx hb d_Fd_addBytes_12 (lv_at hl 0 rfl) ?_
      refine lv_iadd hx hb d_Fd_addBytes_14 ?_
      refine wv_top (nI_add _ _) ?_
      refine wv_bald hx hb h qb hqb (f := (bs B)) t1_qb (k := o + k) rfl (by omega) (by omega) d_Fd_addBytes_15 ?_
      refine lv_sipush (v := (255 : Int32)) hx hb d_Fd_addBytes_16 (by decide) ?_
      refine lv_iand hx hb d_Fd_addBytes_19 ?_
      refine wv_top (bs_and (hB _)) ?_
      refine lv_i2l hx hb d_Fd_addBytes_20 rfl ?_
      refine lv_iload hx hb d_Fd_addBytes_21 (lv_at hl 0 rfl) ?_
      refine lv_aload hx hb d_Fd_addBytes_23 (lv_at hl 5 rfl) ?_
      refine wv_V (As := [.long ((nI (B (o + k))).toInt64), .int (nI (k)), .ref (ad q)]) (rest := []) (k := 3) ⟨hx, hb, hml, hown, hts⟩ h qF hqF (C := "NonceBox$Field") t1_qF rfl (m_Fd_addByte l G A ad ev1 qF q M k (nI (B (o + k))).toInt64 (adBs B o f k) hq t1_q (by omega) (by omega) hM) kc_Fd_addByte kl_Fd_46 km_Fd_addByte kv_Fd_addByte ki_Fd (by decide +kernel) ⟨rfl, rfl, Nat.le_of_ble_eq_true rfl, Nat.le_of_ble_eq_true rfl⟩ hl.1 rfl rfl (Nat.le_of_ble_eq_true rfl) ⟨Nat.le_refl _, Nat.le_refl _⟩ d_Fd_addBytes_25 ?_
      intro ov ev2 H locs hp h
      rw [hp.1]
      refine W.eq (g2 := F0 m 28 ls []) rfl ?_
      have o2 : ev2 = (va_up ev1 q (eJ G M (adBs B o f (k + 1)))) := hp.2
      have t2_q : ev2 q = eJ G M (adBs B o f (k + 1)) := by rw [o2, va_up_self]
      have t2_qb := (show ev2 qb = ev1 qb by rw [o2, va_up_ne _ _ nbq]).trans t1_qb
      have t2_qF := (show ev2 qF = ev1 qF by rw [o2, va_up_ne _ _ nFq]).trans t1_qF
      refine lv_iinc (v := nI (k + 1)) (lv' := [(5, .int (nI (k + 1))), (0, .ref (ad qF)), (1, .ref (ad qb)), (2, .int (nI (o))), (3, .int (nI (n))), (4, .ref (ad q))]) hx hb d_Fd_addBytes_28 hl (k := 0) rfl (nI_add _ _) (by decide) rfl (fun ls hl => ?_)
      refine lv_goto (tgt := 3) hx hb d_Fd_addBytes_31 (by decide) ?_
      refine ih (k + 1) (by omega) ev2 H locs ls ?_ h (lv_sub hl [0, 1, 2, 3, 4, 5] rfl)
      rw [o2, o1, va_up2]
  exact loop1 n 0 (by omega) ev s.heap [] ls (va_upi _ _ hev).symm h (lv_sub hl [0, 1, 2, 3, 4, 5] rfl)
theorem d_Fd_writeBytes_0 : decode c_Fd_writeBytes 0 = .ok (.iconst 0, 1) := by decide +kernel
theorem d_Fd_writeBytes_1 : decode c_Fd_writeBytes 1 = .ok (.istore 4, 2) := by decide +kernel
theorem d_Fd_writeBytes_3 : decode c_Fd_writeBytes 3 = .ok (.iload 4, 2) := by decide +kernel
theorem d_Fd_writeBytes_5 : decode c_Fd_writeBytes 5 = .ok (.iload_n 3, 1) := by decide +kernel
theorem d_Fd_writeBytes_6 : decode c_Fd_writeBytes 6 = .ok (.if_icmp .ge 74, 3) := by decide +kernel
theorem d_Fd_writeBytes_9 : decode c_Fd_writeBytes 9 = .ok (.bipush 8, 2) := by decide +kernel
theorem d_Fd_writeBytes_11 : decode c_Fd_writeBytes 11 = .ok (.iload 4, 2) := by decide +kernel
theorem d_Fd_writeBytes_13 : decode c_Fd_writeBytes 13 = .ok (.imul, 1) := by decide +kernel
theorem d_Fd_writeBytes_14 : decode c_Fd_writeBytes 14 = .ok (.bipush 26, 2) := by decide +kernel
theorem d_Fd_writeBytes_16 : decode c_Fd_writeBytes 16 = .ok (.idiv, 1) := by decide +kernel
theorem d_Fd_writeBytes_17 : decode c_Fd_writeBytes 17 = .ok (.istore 5, 2) := by decide +kernel
theorem d_Fd_writeBytes_19 : decode c_Fd_writeBytes 19 = .ok (.bipush 8, 2) := by decide +kernel
theorem d_Fd_writeBytes_21 : decode c_Fd_writeBytes 21 = .ok (.iload 4, 2) := by decide +kernel
theorem d_Fd_writeBytes_23 : decode c_Fd_writeBytes 23 = .ok (.imul, 1) := by decide +kernel
theorem d_Fd_writeBytes_24 : decode c_Fd_writeBytes 24 = .ok (.bipush 26, 2) := by decide +kernel
theorem d_Fd_writeBytes_26 : decode c_Fd_writeBytes 26 = .ok (.irem, 1) := by decide +kernel
theorem d_Fd_writeBytes_27 : decode c_Fd_writeBytes 27 = .ok (.istore 6, 2) := by decide +kernel
theorem d_Fd_writeBytes_29 : decode c_Fd_writeBytes 29 = .ok (.aload_n 1, 1) := by decide +kernel
theorem d_Fd_writeBytes_30 : decode c_Fd_writeBytes 30 = .ok (.iload 5, 2) := by decide +kernel
theorem d_Fd_writeBytes_32 : decode c_Fd_writeBytes 32 = .ok (.laload, 1) := by decide +kernel
theorem d_Fd_writeBytes_33 : decode c_Fd_writeBytes 33 = .ok (.iload 6, 2) := by decide +kernel
theorem d_Fd_writeBytes_35 : decode c_Fd_writeBytes 35 = .ok (.lshr, 1) := by decide +kernel
theorem d_Fd_writeBytes_36 : decode c_Fd_writeBytes 36 = .ok (.lstore 7, 2) := by decide +kernel
theorem d_Fd_writeBytes_38 : decode c_Fd_writeBytes 38 = .ok (.iload 5, 2) := by decide +kernel
theorem d_Fd_writeBytes_40 : decode c_Fd_writeBytes 40 = .ok (.iconst 1, 1) := by decide +kernel
theorem d_Fd_writeBytes_41 : decode c_Fd_writeBytes 41 = .ok (.iadd, 1) := by decide +kernel
theorem d_Fd_writeBytes_42 : decode c_Fd_writeBytes 42 = .ok (.aload_n 0, 1) := by decide +kernel
theorem d_Fd_writeBytes_43 : decode c_Fd_writeBytes 43 = .ok (.getfield 9, 3) := by decide +kernel
theorem d_Fd_writeBytes_46 : decode c_Fd_writeBytes 46 = .ok (.if_icmp .ge 20, 3) := by decide +kernel
theorem d_Fd_writeBytes_49 : decode c_Fd_writeBytes 49 = .ok (.lload 7, 2) := by decide +kernel
theorem d_Fd_writeBytes_51 : decode c_Fd_writeBytes 51 = .ok (.aload_n 1, 1) := by decide +kernel
theorem d_Fd_writeBytes_52 : decode c_Fd_writeBytes 52 = .ok (.iload 5, 2) := by decide +kernel
theorem d_Fd_writeBytes_54 : decode c_Fd_writeBytes 54 = .ok (.iconst 1, 1) := by decide +kernel
theorem d_Fd_writeBytes_55 : decode c_Fd_writeBytes 55 = .ok (.iadd, 1) := by decide +kernel
theorem d_Fd_writeBytes_56 : decode c_Fd_writeBytes 56 = .ok (.laload, 1) := by decide +kernel
theorem d_Fd_writeBytes_57 : decode c_Fd_writeBytes 57 = .ok (.bipush 26, 2) := by decide +kernel
theorem d_Fd_writeBytes_59 : decode c_Fd_writeBytes 59 = .ok (.iload 6, 2) := by decide +kernel
theorem d_Fd_writeBytes_61 : decode c_Fd_writeBytes 61 = .ok (.isub, 1) := by decide +kernel
theorem d_Fd_writeBytes_62 : decode c_Fd_writeBytes 62 = .ok (.lshl, 1) := by decide +kernel
theorem d_Fd_writeBytes_63 : decode c_Fd_writeBytes 63 = .ok (.lor, 1) := by decide +kernel
theorem d_Fd_writeBytes_64 : decode c_Fd_writeBytes 64 = .ok (.lstore 7, 2) := by decide +kernel
theorem d_Fd_writeBytes_66 : decode c_Fd_writeBytes 66 = .ok (.aload_n 2, 1) := by decide +kernel
theorem d_Fd_writeBytes_67 : decode c_Fd_writeBytes 67 = .ok (.iload 4, 2) := by decide +kernel
theorem d_Fd_writeBytes_69 : decode c_Fd_writeBytes 69 = .ok (.lload 7, 2) := by decide +kernel
theorem d_Fd_writeBytes_71 : decode c_Fd_writeBytes 71 = .ok (.l2i, 1) := by decide +kernel
theorem d_Fd_writeBytes_72 : decode c_Fd_writeBytes 72 = .ok (.i2b, 1) := by decide +kernel
theorem d_Fd_writeBytes_73 : decode c_Fd_writeBytes 73 = .ok (.bastore, 1) := by decide +kernel
theorem d_Fd_writeBytes_74 : decode c_Fd_writeBytes 74 = .ok (.iinc 4 1, 3) := by decide +kernel
theorem d_Fd_writeBytes_77 : decode c_Fd_writeBytes 77 = .ok (.goto (-74), 3) := by decide +kernel
theorem d_Fd_writeBytes_80 : decode c_Fd_writeBytes 80 = .ok (.return_, 1) := by decide +kernel
set_option maxRecDepth 100000 in
set_option maxHeartbeats 4000000 in
/-- the lowest n bytes of a carried row -/
theorem m_Fd_writeBytes (l : Launch) (G : wG) (A : Nat → Prop) (ad : Nat → Nat) (ev : Nat → va_E) (qF qw nl tb : Nat) (low fold : Int64) (hqF : qF < 52) (hF : ev qF = eO 1 [.int (nI nl), .int (nI tb), .long low, .long fold, .ref (ad qw)]) (hnl : 2 ≤ nl) (hnl2 : nl < 100) (qx qt Mt n : Nat) (X : Nat → Int64) (T : Nat → Nat) (hqx : qx < 52) (hqt : qt < 52) (hX : ev qx = eJ G nl X) (hT : ev qt = eB G Mt (bs T)) (nFt : qF ≠ qt) (nxt : qx ≠ qt) (hn : 8 * n ≤ 26 * nl) (hn2 : n ≤ Mt) (hMt : Mt < 2 ^ 30) : wM l y_Fd_writeBytes w_Fd_writeBytes ({ frames := 0, cells := 0, slots := 0, locals := 0 }) G A 52 ad ev [.ref (ad qF), .ref (ad qx), .ref (ad qt), .int (nI (n))] (fun ov ev' => ov = none ∧ ev' = va_up ev qt (eB G Mt (bs (fil 0 n (wbB nl X) T)))) := by
  refine wv_ofW (cc := c_Fd_writeBytes) (maxL := 9) (ret := none) (by decide) rfl (Nat.le_of_ble_eq_true rfl) ?_
  intro p e s m below meth c ls hx hb hr hml hts hown hlocks hini h hl
  have hl : lv_has ls 9 [(0, .ref (ad qF)), (1, .ref (ad qx)), (2, .ref (ad qt)), (3, .int (nI (n)))] := hl
  refine lv_iconst (v := nI (0)) hx hb d_Fd_writeBytes_0 (by decide) ?_
  refine lv_istore (lv' := [(4, .int (nI (0))), (0, .ref (ad qF)), (1, .ref (ad qx)), (2, .ref (ad qt)), (3, .int (nI (n)))]) hx hb d_Fd_writeBytes_1 hl (by decide) rfl (fun ls hl => ?_)
  have loop1 : ∀ (d k : Nat), k + d = n →  ∀ (ev1 : Nat → va_E) (H : Heap) (locs : List Loc) (ls : Array Slot), ev1 = (va_up ev qt (eB G Mt (bs (fil 0 k (wbB nl X) T)))) → wT G A 52 ad ev1 s H locs → lv_has ls 9 [(4, .int (nI (k))), (0, .ref (ad qF)), (1, .ref (ad qx)), (2, .ref (ad qt)), (3, .int (nI (n)))] → W p l e ({ frames := 0, cells := 0, slots := 0, locals := 0 }) s m ([.ref (ad qF), .ref (ad qx), .ref (ad qt), .int (nI (n))] : List Value).toArray below meth c H locs 0 0 (MQ below (wQc G A 52 ad (fun ov ev' => ov = none ∧ ev' = va_up ev qt (eB G Mt (bs (fil 0 n (wbB nl X) T))))) ([.ref (ad qF), .ref (ad qx), .ref (ad qt), .int (nI (n))] : List Value).toArray s 0 0 A) (F0 m 3 ls []) := by
    intro d
    induction d with
    | zero =>
      intro k hk_k  ev1 H locs ls  o1 h hl
      have t1_qt : ev1 qt = eB G Mt (bs (fil 0 k (wbB nl X) T)) := by rw [o1, va_up_self]
      have t1_qx := (show ev1 qx = ev qx by rw [o1, va_up_ne _ _ nxt]).trans hX
      have t1_qF := (show ev1 qF = ev qF by rw [o1, va_up_ne _ _ nFt]).trans hF
      refine lv_iload hx hb d_Fd_writeBytes_3 (lv_at hl 0 rfl) ?_
      refine lv_iload_n hx hb d_Fd_writeBytes_5 rfl (lv_at hl 4 rfl) ?_
      refine lv_icmp_ge (tgt := 80) hx hb d_Fd_writeBytes_6 (by decide) (fun _ => ?_) (fun hc => absurd ((nI_leI (by omega) (by omega)).mpr (by omega)) hc)
      refine wv_vret hx hb hr hlocks h d_Fd_writeBytes_80 ⟨rfl, ?_⟩
      rw [o1, show k = n by omega]
    | succ d ih =>
      intro k hk_k  ev1 H locs ls  o1 h hl
      have t1_qt : ev1 qt = eB G Mt (bs (fil 0 k (wbB nl X) T)) := by rw [o1, va_up_self]
      have t1_qx := (show ev1 qx = ev qx by rw [o1, va_up_ne _ _ nxt]).trans hX
      have t1_qF := (show ev1 qF = ev qF by rw [o1, va_up_ne _ _ nFt]).trans hF
      refine lv_iload hx hb d_Fd_writeBytes_3 (lv_at hl 0 rfl) ?_
      refine lv_iload_n hx hb d_Fd_writeBytes_5 rfl (lv_at hl 4 rfl) ?_
      refine lv_icmp_ge (tgt := 80) hx hb d_Fd_writeBytes_6 (by decide) (fun hc => absurd ((nI_leI (by omega) (by omega)).mp hc) (by omega)) (fun _ => ?_)
      refine lv_bipush (v := nI (8)) hx hb d_Fd_writeBytes_9 (by decide) ?_
      refine lv_iload hx hb d_Fd_writeBytes_11 (lv_at hl 0 rfl) ?_
      refine lv_imul hx hb d_Fd_writeBytes_13 ?_
      refine wv_top (pk_mul _ _) ?_
      refine lv_bipush (v := nI (26)) hx hb d_Fd_writeBytes_14 (by decide) ?_
      refine lv_idiv hx hb d_Fd_writeBytes_16 (by decide) ?_
      refine wv_top (pk_div (by omega) (by omega) (by omega)) ?_
      refine lv_istore (lv' := [(5, .int (nI ((8 * k) / 26))), (4, .int (nI (k))), (0, .ref (ad qF)), (1, .ref (ad qx)), (2, .ref (ad qt)), (3, .int (nI (n)))]) hx hb d_Fd_writeBytes_17 hl (by decide) rfl (fun ls hl => ?_)
      refine lv_bipush (v := nI (8)) hx hb d_Fd_writeBytes_19 (by decide) ?_
      refine lv_iload hx hb d_Fd_writeBytes_21 (lv_at hl 1 rfl) ?_
      refine lv_imul hx hb d_Fd_writeBytes_23 ?_
      refine wv_top (pk_mul _ _) ?_
      refine lv_bipush (v := nI (26)) hx hb d_Fd_writeBytes_24 (by decide) ?_
      refine lv_irem hx hb d_Fd_writeBytes_26 (by decide) ?_
      refine wv_top (pk_rem (by omega) (by omega) (by omega)) ?_
      refine lv_istore (lv' := [(6, .int (nI ((8 * k) % 26))), (5, .int (nI ((8 * k) / 26))), (4, .int (nI (k))), (0, .ref (ad qF)), (1, .ref (ad qx)), (2, .ref (ad qt)), (3, .int (nI (n)))]) hx hb d_Fd_writeBytes_27 hl (by decide) rfl (fun ls hl => ?_)
      refine lv_aload_n hx hb d_Fd_writeBytes_29 rfl (lv_at hl 4 rfl) ?_
      refine lv_iload hx hb d_Fd_writeBytes_30 (lv_at hl 1 rfl) ?_
      refine wv_lald hx hb h qx hqx (f := X) t1_qx (k := (8 * k) / 26) rfl (by omega) (by omega) d_Fd_writeBytes_32 ?_
      refine lv_iload hx hb d_Fd_writeBytes_33 (lv_at hl 0 rfl) ?_
      refine lv_lshr (v := sar (X ((8 * k) / 26)) ((8 * k) % 26)) hx hb d_Fd_writeBytes_35 rfl ?_
      refine lv_lstore (lv' := [(7, .long (sar (X ((8 * k) / 26)) ((8 * k) % 26))), (6, .int (nI ((8 * k) % 26))), (5, .int (nI ((8 * k) / 26))), (4, .int (nI (k))), (0, .ref (ad qF)), (1, .ref (ad qx)), (2, .ref (ad qt)), (3, .int (nI (n)))]) hx hb d_Fd_writeBytes_36 hl (by decide) rfl (fun ls hl => ?_)
      refine lv_iload hx hb d_Fd_writeBytes_38 (lv_at hl 2 rfl) ?_
      refine lv_iconst (v := nI (1)) hx hb d_Fd_writeBytes_40 (by decide) ?_
      refine lv_iadd hx hb d_Fd_writeBytes_41 ?_
      refine wv_top (nI_add _ _) ?_
      refine lv_aload_n hx hb d_Fd_writeBytes_42 rfl (lv_at hl 4 rfl) ?_
      refine wv_getf hx hb h qF hqF (fs := [.int (nI (nl)), .int (nI (tb)), .long (low), .long (fold), .ref (ad qw)]) t1_qF hts (fun w hw => List.mem_cons_of_mem _ (fW_Fd w hw)) hown (ci := 1) (C := "NonceBox$Field") (T := fT_Fd) (N := 5) rfl 0 (by decide) (hts _ (List.mem_cons_of_mem _ kf_Fd_9)) rfl (v := .int (nI (nl))) rfl d_Fd_writeBytes_43 ?_
      refine lv_icmp_ge (tgt := 66) hx hb d_Fd_writeBytes_46 (by decide) (fun hc => ?_) (fun hc => ?_)
      · have hc := (nI_leI (by omega) (by omega)).mp hc
        refine lv_aload_n hx hb d_Fd_writeBytes_66 rfl (lv_at hl 6 rfl) ?_
        refine lv_iload hx hb d_Fd_writeBytes_67 (lv_at hl 3 rfl) ?_
        refine lv_lload hx hb d_Fd_writeBytes_69 (lv_at hl 0 rfl) ?_
        refine lv_l2i hx hb d_Fd_writeBytes_71 rfl ?_
        refine lv_i2b hx hb d_Fd_writeBytes_72 rfl ?_
        refine wv_bast hx hb h qt hqt (f := (bs (fil 0 k (wbB nl X) T))) t1_qt (k := k) rfl (by omega) (by omega) d_Fd_writeBytes_73 (fun H locs h => ?_)
        obtain ⟨ev2, o2⟩ : ∃ z, z = va_up ev1 qt (eB G Mt (va_up ((bs (fil 0 k (wbB nl X) T))) k (vp_nar .byte (((sar (X ((8 * k) / 26)) ((8 * k) % 26)).toInt32).toInt8.toInt32)))) := ⟨_, rfl⟩
        rw [← o2] at h
        have t2_qt : ev2 qt = eB G Mt (va_up ((bs (fil 0 k (wbB nl X) T))) k (vp_nar .byte (((sar (X ((8 * k) / 26)) ((8 * k) % 26)).toInt32).toInt8.toInt32))) := by rw [o2, va_up_self]
        have t2_qx := (show ev2 qx = ev1 qx by rw [o2, va_up_ne _ _ nxt]).trans t1_qx
        have t2_qF := (show ev2 qF = ev1 qF by rw [o2, va_up_ne _ _ nFt]).trans t1_qF
        refine lv_iinc (v := nI (k + 1)) (lv' := [(4, .int (nI (k + 1))), (7, .long (sar (X ((8 * k) / 26)) ((8 * k) % 26))), (6, .int (nI ((8 * k) % 26))), (5, .int (nI ((8 * k) / 26))), (0, .ref (ad qF)), (1, .ref (ad qx)), (2, .ref (ad qt)), (3, .int (nI (n)))]) hx hb d_Fd_writeBytes_74 hl (k := 3) rfl (nI_add _ _) (by decide) rfl (fun ls hl => ?_)
        refine lv_goto (tgt := 3) hx hb d_Fd_writeBytes_77 (by decide) ?_
        refine ih (k + 1) (by omega) ev2 H locs ls ?_ h (lv_sub hl [0, 4, 5, 6, 7] rfl)
        rw [o2, o1, va_up2, bs_up _ _ (wbB nl X k) (by rw [nar_i8]; unfold wbB bitsW; rw [if_neg (by omega)]), ← fil_s 0 k (wbB nl X) T rfl, Nat.zero_add]
      · have hc := Nat.lt_of_not_le (fun q => hc ((nI_leI (by omega) (by omega)).mpr q))
        refine lv_lload hx hb d_Fd_writeBytes_49 (lv_at hl 0 rfl) ?_
        refine lv_aload_n hx hb d_Fd_writeBytes_51 rfl (lv_at hl 5 rfl) ?_
        refine lv_iload hx hb d_Fd_writeBytes_52 (lv_at hl 2 rfl) ?_
        refine lv_iconst (v := nI (1)) hx hb d_Fd_writeBytes_54 (by decide) ?_
        refine lv_iadd hx hb d_Fd_writeBytes_55 ?_
        refine wv_top (nI_add _ _) ?_
        refine wv_lald hx hb h qx hqx (f := X) t1_qx (k := ((8 * k) / 26) + 1) rfl (by omega) (by omega) d_Fd_writeBytes_56 ?_
        refine lv_bipush (v := nI (26)) hx hb d_Fd_writeBytes_57 (by decide) ?_
        refine lv_iload hx hb d_Fd_writeBytes_59 (lv_at hl 1 rfl) ?_
        refine lv_isub hx hb d_Fd_writeBytes_61 ?_
        refine wv_top (pk_sub (by omega)) ?_
        refine lv_lshl (v := sal (X (((8 * k) / 26) + 1)) (26 - ((8 * k) % 26))) hx hb d_Fd_writeBytes_62 rfl ?_
        refine lv_lor hx hb d_Fd_writeBytes_63 ?_
        refine lv_lstore (lv' := [(7, .long ((sar (X ((8 * k) / 26)) ((8 * k) % 26)) ||| (sal (X (((8 * k) / 26) + 1)) (26 - ((8 * k) % 26))))), (6, .int (nI ((8 * k) % 26))), (5, .int (nI ((8 * k) / 26))), (4, .int (nI (k))), (0, .ref (ad qF)), (1, .ref (ad qx)), (2, .ref (ad qt)), (3, .int (nI (n)))]) hx hb d_Fd_writeBytes_64 hl (by decide) rfl (fun ls hl => ?_)
        refine lv_aload_n hx hb d_Fd_writeBytes_66 rfl (lv_at hl 6 rfl) ?_
        refine lv_iload hx hb d_Fd_writeBytes_67 (lv_at hl 3 rfl) ?_
        refine lv_lload hx hb d_Fd_writeBytes_69 (lv_at hl 0 rfl) ?_
        refine lv_l2i hx hb d_Fd_writeBytes_71 rfl ?_
        refine lv_i2b hx hb d_Fd_writeBytes_72 rfl ?_
        refine wv_bast hx hb h qt hqt (f := (bs (fil 0 k (wbB nl X) T))) t1_qt (k := k) rfl (by omega) (by omega) d_Fd_writeBytes_73 (fun H locs h => ?_)
        obtain ⟨ev2, o2⟩ : ∃ z, z = va_up ev1 qt (eB G Mt (va_up ((bs (fil 0 k (wbB nl X) T))) k (vp_nar .byte ((((sar (X ((8 * k) / 26)) ((8 * k) % 26)) ||| (sal (X (((8 * k) / 26) + 1)) (26 - ((8 * k) % 26)))).toInt32).toInt8.toInt32)))) := ⟨_, rfl⟩
        rw [← o2] at h
        have t2_qt : ev2 qt = eB G Mt (va_up ((bs (fil 0 k (wbB nl X) T))) k (vp_nar .byte ((((sar (X ((8 * k) / 26)) ((8 * k) % 26)) ||| (sal (X (((8 * k) / 26) + 1)) (26 - ((8 * k) % 26)))).toInt32).toInt8.toInt32))) := by rw [o2, va_up_self]
        have t2_qx := (show ev2 qx = ev1 qx by rw [o2, va_up_ne _ _ nxt]).trans t1_qx
        have t2_qF := (show ev2 qF = ev1 qF by rw [o2, va_up_ne _ _ nFt]).trans t1_qF
        refine lv_iinc (v := nI (k + 1)) (lv' := [(4, .int (nI (k + 1))), (7, .long ((sar (X ((8 * k) / 26)) ((8 * k) % 26)) ||| (sal (X (((8 * k) / 26) + 1)) (26 - ((8 * k) % 26))))), (6, .int (nI ((8 * k) % 26))), (5, .int (nI ((8 * k) / 26))), (0, .ref (ad qF)), (1, .ref (ad qx)), (2, .ref (ad qt)), (3, .int (nI (n)))]) hx hb d_Fd_writeBytes_74 hl (k := 3) rfl (nI_add _ _) (by decide) rfl (fun ls hl => ?_)
        refine lv_goto (tgt := 3) hx hb d_Fd_writeBytes_77 (by decide) ?_
        refine ih (k + 1) (by omega) ev2 H locs ls ?_ h (lv_sub hl [0, 4, 5, 6, 7] rfl)
        rw [o2, o1, va_up2, bs_up _ _ (wbB nl X k) (by rw [nar_i8]; unfold wbB bitsW; rw [if_pos (by omega)]), ← fil_s 0 k (wbB nl X) T rfl, Nat.zero_add]
  exact loop1 n 0 (by omega) ev s.heap [] ls (by rw [fil_0, va_upi _ _ hT]) h (lv_sub hl [0, 1, 2, 3, 4] rfl)
theorem d_Fd_settle_0 : decode c_Fd_settle 0 = .ok (.aload_n 0, 1) := by decide +kernel
theorem d_Fd_settle_1 : decode c_Fd_settle 1 = .ok (.aload_n 1, 1) := by decide +kernel
theorem d_Fd_settle_2 : decode c_Fd_settle 2 = .ok (.invokevirtual 39, 3) := by decide +kernel
theorem d_Fd_settle_5 : decode c_Fd_settle 5 = .ok (.aload_n 1, 1) := by decide +kernel
theorem d_Fd_settle_6 : decode c_Fd_settle 6 = .ok (.iconst 0, 1) := by decide +kernel
theorem d_Fd_settle_7 : decode c_Fd_settle 7 = .ok (.dup2, 1) := by decide +kernel
theorem d_Fd_settle_8 : decode c_Fd_settle 8 = .ok (.laload, 1) := by decide +kernel
theorem d_Fd_settle_9 : decode c_Fd_settle 9 = .ok (.aload_n 0, 1) := by decide +kernel
theorem d_Fd_settle_10 : decode c_Fd_settle 10 = .ok (.getfield 16, 3) := by decide +kernel
theorem d_Fd_settle_13 : decode c_Fd_settle 13 = .ok (.ladd, 1) := by decide +kernel
theorem d_Fd_settle_14 : decode c_Fd_settle 14 = .ok (.lastore, 1) := by decide +kernel
theorem d_Fd_settle_15 : decode c_Fd_settle 15 = .ok (.aload_n 0, 1) := by decide +kernel
theorem d_Fd_settle_16 : decode c_Fd_settle 16 = .ok (.aload_n 1, 1) := by decide +kernel
theorem d_Fd_settle_17 : decode c_Fd_settle 17 = .ok (.invokevirtual 39, 3) := by decide +kernel
theorem d_Fd_settle_20 : decode c_Fd_settle 20 = .ok (.aload_n 1, 1) := by decide +kernel
theorem d_Fd_settle_21 : decode c_Fd_settle 21 = .ok (.iconst 0, 1) := by decide +kernel
theorem d_Fd_settle_22 : decode c_Fd_settle 22 = .ok (.dup2, 1) := by decide +kernel
theorem d_Fd_settle_23 : decode c_Fd_settle 23 = .ok (.laload, 1) := by decide +kernel
theorem d_Fd_settle_24 : decode c_Fd_settle 24 = .ok (.aload_n 0, 1) := by decide +kernel
theorem d_Fd_settle_25 : decode c_Fd_settle 25 = .ok (.getfield 16, 3) := by decide +kernel
theorem d_Fd_settle_28 : decode c_Fd_settle 28 = .ok (.lsub, 1) := by decide +kernel
theorem d_Fd_settle_29 : decode c_Fd_settle 29 = .ok (.lastore, 1) := by decide +kernel
theorem d_Fd_settle_30 : decode c_Fd_settle 30 = .ok (.aload_n 1, 1) := by decide +kernel
theorem d_Fd_settle_31 : decode c_Fd_settle 31 = .ok (.invokestatic 43, 3) := by decide +kernel
theorem d_Fd_settle_34 : decode c_Fd_settle 34 = .ok (.return_, 1) := by decide +kernel
set_option maxRecDepth 100000 in
set_option maxHeartbeats 4000000 in
/-- the one row that stands for the remainder -/
theorem m_Fd_settle (l : Launch) (G : wG) (A : Nat → Prop) (ad : Nat → Nat) (ev : Nat → va_E) (qF qw nl tb : Nat) (low fold : Int64) (hqF : qF < 52) (hF : ev qF = eO 1 [.int (nI nl), .int (nI tb), .long low, .long fold, .ref (ad qw)]) (hnl : 2 ≤ nl) (hnl2 : nl < 100) (q : Nat) (f : Nat → Int64) (hq : q < 52) (hev : ev q = eJ G nl f) (nFq : qF ≠ q) : wM l y_Fd_settle w_Fd_settle ({ frames := 6, cells := 0, slots := 0, locals := 200 }) G A 52 ad ev [.ref (ad qF), .ref (ad q)] (fun ov ev' => ov = none ∧ ev' = va_up ev q (eJ G nl (stl nl tb low f))) := by
  refine wv_ofW (cc := c_Fd_settle) (maxL := 2) (ret := none) (by decide) rfl (Nat.le_of_ble_eq_true rfl) ?_
  intro p e s m below meth c ls hx hb hr hml hts hown hlocks hini h hl
  have hl : lv_has ls 2 [(0, .ref (ad qF)), (1, .ref (ad q))] := hl
  obtain ⟨f1, ef1⟩ : ∃ z, z = fTop nl tb low f := ⟨_, rfl⟩
  obtain ⟨f2, ef2⟩ : ∃ z, z = fTop nl tb low (va_up f1 0 (f1 0 + low)) := ⟨_, rfl⟩
  refine lv_aload_n hx hb d_Fd_settle_0 rfl (lv_at hl 0 rfl) ?_
  refine lv_aload_n hx hb d_Fd_settle_1 rfl (lv_at hl 1 rfl) ?_
  refine wv_V (As := [.ref (ad q)]) (rest := []) (k := 1) ⟨hx, hb, hml, hown, hts⟩ h qF hqF (C := "NonceBox$Field") hF rfl (m_Fd_foldTop l G A ad ev qF qw nl tb low fold hqF hF hnl hnl2 q f hq hev nFq) kc_Fd_foldTop kl_Fd_39 km_Fd_foldTop kv_Fd_foldTop ki_Fd (by decide +kernel) ⟨rfl, rfl, Nat.le_of_ble_eq_true rfl, Nat.le_of_ble_eq_true rfl⟩ hl.1 rfl rfl (Nat.le_of_ble_eq_true rfl) ⟨Nat.le_refl _, Nat.le_refl _⟩ d_Fd_settle_2 ?_
  intro ov ev1 H locs hp h
  rw [hp.1]
  refine W.eq (g2 := F0 m 5 ls []) rfl ?_
  have o1 : ev1 = (va_up ev q (eJ G nl (fTop nl tb low f))) := hp.2
  have t1_q : ev1 q = eJ G nl (fTop nl tb low f) := by rw [o1, va_up_self]
  have t1_qF := (show ev1 qF = ev qF by rw [o1, va_up_ne _ _ nFq]).trans hF
  rw [← ef1] at o1 t1_q
  refine lv_aload_n hx hb d_Fd_settle_5 rfl (lv_at hl 1 rfl) ?_
  refine lv_iconst (v := nI (0)) hx hb d_Fd_settle_6 (by decide) ?_
  refine lv_dup2_11 hx hb d_Fd_settle_7 rfl rfl ?_
  refine wv_lald hx hb h q hq (f := f1) t1_q (k := 0) rfl (by omega) (by omega) d_Fd_settle_8 ?_
  refine lv_aload_n hx hb d_Fd_settle_9 rfl (lv_at hl 0 rfl) ?_
  refine wv_getf hx hb h qF hqF (fs := [.int (nI (nl)), .int (nI (tb)), .long (low), .long (fold), .ref (ad qw)]) t1_qF hts (fun w hw => List.mem_cons_of_mem _ (fW_Fd w hw)) hown (ci := 1) (C := "NonceBox$Field") (T := fT_Fd) (N := 5) rfl 2 (by decide) (hts _ (List.mem_cons_of_mem _ kf_Fd_16)) rfl (v := .long (low)) rfl d_Fd_settle_10 ?_
  refine lv_ladd hx hb d_Fd_settle_13 ?_
  refine wv_last hx hb h q hq (f := f1) t1_q (k := 0) rfl (by omega) (by omega) d_Fd_settle_14 (fun H locs h => ?_)
  obtain ⟨ev2, o2⟩ : ∃ z, z = va_up ev1 q (eJ G nl (va_up f1 0 ((f1 0) + low))) := ⟨_, rfl⟩
  rw [← o2] at h
  have t2_q : ev2 q = eJ G nl (va_up f1 0 ((f1 0) + low)) := by rw [o2, va_up_self]
  have t2_qF := (show ev2 qF = ev1 qF by rw [o2, va_up_ne _ _ nFq]).trans t1_qF
  refine lv_aload_n hx hb d_Fd_settle_15 rfl (lv_at hl 0 rfl) ?_
  refine lv_aload_n hx hb d_Fd_settle_16 rfl (lv_at hl 1 rfl) ?_
  refine wv_V (As := [.ref (ad q)]) (rest := []) (k := 1) ⟨hx, hb, hml, hown, hts⟩ h qF hqF (C := "NonceBox$Field") t2_qF rfl (m_Fd_foldTop l G A ad ev2 qF qw nl tb low fold hqF t2_qF hnl hnl2 q (va_up f1 0 (f1 0 + low)) hq t2_q nFq) kc_Fd_foldTop kl_Fd_39 km_Fd_foldTop kv_Fd_foldTop ki_Fd (by decide +kernel) ⟨rfl, rfl, Nat.le_of_ble_eq_true rfl, Nat.le_of_ble_eq_true rfl⟩ hl.1 rfl rfl (Nat.le_of_ble_eq_true rfl) ⟨Nat.le_refl _, Nat.le_refl _⟩ d_Fd_settle_17 ?_
  intro ov ev3 H locs hp h
  rw [hp.1]
  refine W.eq (g2 := F0 m 20 ls []) rfl ?_
  have o3 : ev3 = (va_up ev2 q (eJ G nl (fTop nl tb low (va_up f1 0 (f1 0 + low))))) := hp.2
  have t3_q : ev3 q = eJ G nl (fTop nl tb low (va_up f1 0 (f1 0 + low))) := by rw [o3, va_up_self]
  have t3_qF := (show ev3 qF = ev2 qF by rw [o3, va_up_ne _ _ nFq]).trans t2_qF
  rw [← ef2] at o3 t3_q
  refine lv_aload_n hx hb d_Fd_settle_20 rfl (lv_at hl 1 rfl) ?_
  refine lv_iconst (v := nI (0)) hx hb d_Fd_settle_21 (by decide) ?_
  refine lv_dup2_11 hx hb d_Fd_settle_22 rfl rfl ?_
  refine wv_lald hx hb h q hq (f := f2) t3_q (k := 0) rfl (by omega) (by omega) d_Fd_settle_23 ?_
  refine lv_aload_n hx hb d_Fd_settle_24 rfl (lv_at hl 0 rfl) ?_
  refine wv_getf hx hb h qF hqF (fs := [.int (nI (nl)), .int (nI (tb)), .long (low), .long (fold), .ref (ad qw)]) t3_qF hts (fun w hw => List.mem_cons_of_mem _ (fW_Fd w hw)) hown (ci := 1) (C := "NonceBox$Field") (T := fT_Fd) (N := 5) rfl 2 (by decide) (hts _ (List.mem_cons_of_mem _ kf_Fd_16)) rfl (v := .long (low)) rfl d_Fd_settle_25 ?_
  refine lv_lsub hx hb d_Fd_settle_28 ?_
  refine wv_last hx hb h q hq (f := f2) t3_q (k := 0) rfl (by omega) (by omega) d_Fd_settle_29 (fun H locs h => ?_)
  obtain ⟨ev4, o4⟩ : ∃ z, z = va_up ev3 q (eJ G nl (va_up f2 0 ((f2 0) - low))) := ⟨_, rfl⟩
  rw [← o4] at h
  have t4_q : ev4 q = eJ G nl (va_up f2 0 ((f2 0) - low)) := by rw [o4, va_up_self]
  have t4_qF := (show ev4 qF = ev3 qF by rw [o4, va_up_ne _ _ nFq]).trans t3_qF
  refine lv_aload_n hx hb d_Fd_settle_30 rfl (lv_at hl 1 rfl) ?_
  refine wv_Sx (As := [.ref (ad q)]) (rest := []) (k := 1) ⟨hx, hb, hml, hown, hts⟩ h (m_Fd_carry l G A ad ev4 q nl (va_up f2 0 (f2 0 - low)) hq t4_q (by omega) (by omega)) kc_Fd_carry kl_Fd_43 ks_Fd_carry ki_Fd (by decide +kernel) ⟨rfl, rfl, Nat.le_of_ble_eq_true rfl, Nat.le_of_ble_eq_true rfl⟩ hl.1 rfl rfl (Nat.le_of_ble_eq_true rfl) ⟨Nat.le_refl _, Nat.le_refl _⟩ d_Fd_settle_31 ?_
  intro ov ev5 H locs hp h
  rw [hp.1]
  refine W.eq (g2 := F0 m 34 ls []) rfl ?_
  have o5 : ev5 = (va_up ev4 q (eJ G nl (cry (va_up f2 0 (f2 0 - low)) (nl - 1)))) := hp.2
  have t5_q : ev5 q = eJ G nl (cry (va_up f2 0 (f2 0 - low)) (nl - 1)) := by rw [o5, va_up_self]
  have t5_qF := (show ev5 qF = ev4 qF by rw [o5, va_up_ne _ _ nFq]).trans t4_qF
  refine wv_vret hx hb hr hlocks h d_Fd_settle_34 ⟨rfl, ?_⟩
  rw [o5, o4, o3, o2, o1, va_up2, va_up2, va_up2, va_up2, ef2, ef1]
  rfl
