theorem d_NB_move_0 : decode c_NB_move 0 = .ok (.iload_n 1, 1) := by decide +kernel
theorem d_NB_move_1 : decode c_NB_move 1 = .ok (.iconst 3, 1) := by decide +kernel
theorem d_NB_move_2 : decode c_NB_move 2 = .ok (.if_icmp .ne 30, 3) := by decide +kernel
theorem d_NB_move_5 : decode c_NB_move 5 = .ok (.aload_n 0, 1) := by decide +kernel
theorem d_NB_move_6 : decode c_NB_move 6 = .ok (.getfield 22, 3) := by decide +kernel
theorem d_NB_move_9 : decode c_NB_move 9 = .ok (.iconst 0, 1) := by decide +kernel
theorem d_NB_move_10 : decode c_NB_move 10 = .ok (.aload_n 0, 1) := by decide +kernel
theorem d_NB_move_11 : decode c_NB_move 11 = .ok (.getfield 19, 3) := by decide +kernel
theorem d_NB_move_14 : decode c_NB_move 14 = .ok (.iconst 0, 1) := by decide +kernel
theorem d_NB_move_15 : decode c_NB_move 15 = .ok (.aload_n 0, 1) := by decide +kernel
theorem d_NB_move_16 : decode c_NB_move 16 = .ok (.getfield 29, 3) := by decide +kernel
theorem d_NB_move_19 : decode c_NB_move 19 = .ok (.invokestatic 70, 3) := by decide +kernel
theorem d_NB_move_22 : decode c_NB_move 22 = .ok (.aload_n 0, 1) := by decide +kernel
theorem d_NB_move_23 : decode c_NB_move 23 = .ok (.aload_n 0, 1) := by decide +kernel
theorem d_NB_move_24 : decode c_NB_move 24 = .ok (.getfield 29, 3) := by decide +kernel
theorem d_NB_move_27 : decode c_NB_move 27 = .ok (.putfield 25, 3) := by decide +kernel
theorem d_NB_move_30 : decode c_NB_move 30 = .ok (.iconst 1, 1) := by decide +kernel
theorem d_NB_move_31 : decode c_NB_move 31 = .ok (.ireturn, 1) := by decide +kernel
theorem d_NB_move_32 : decode c_NB_move 32 = .ok (.aload_n 0, 1) := by decide +kernel
theorem d_NB_move_33 : decode c_NB_move 33 = .ok (.getfield 29, 3) := by decide +kernel
theorem d_NB_move_36 : decode c_NB_move 36 = .ok (.bipush 32, 2) := by decide +kernel
theorem d_NB_move_38 : decode c_NB_move 38 = .ok (.if_icmp .ne 12, 3) := by decide +kernel
theorem d_NB_move_41 : decode c_NB_move 41 = .ok (.iload_n 1, 1) := by decide +kernel
theorem d_NB_move_42 : decode c_NB_move 42 = .ok (.ifCond .eq 10, 3) := by decide +kernel
theorem d_NB_move_45 : decode c_NB_move 45 = .ok (.iload_n 1, 1) := by decide +kernel
theorem d_NB_move_46 : decode c_NB_move 46 = .ok (.iconst 2, 1) := by decide +kernel
theorem d_NB_move_47 : decode c_NB_move 47 = .ok (.if_icmp .eq 5, 3) := by decide +kernel
theorem d_NB_move_50 : decode c_NB_move 50 = .ok (.iconst 0, 1) := by decide +kernel
theorem d_NB_move_51 : decode c_NB_move 51 = .ok (.ireturn, 1) := by decide +kernel
theorem d_NB_move_52 : decode c_NB_move 52 = .ok (.aload_n 0, 1) := by decide +kernel
theorem d_NB_move_53 : decode c_NB_move 53 = .ok (.getfield 22, 3) := by decide +kernel
theorem d_NB_move_56 : decode c_NB_move 56 = .ok (.iconst 0, 1) := by decide +kernel
theorem d_NB_move_57 : decode c_NB_move 57 = .ok (.iload_n 1, 1) := by decide +kernel
theorem d_NB_move_58 : decode c_NB_move 58 = .ok (.ifCond .ne 10, 3) := by decide +kernel
theorem d_NB_move_61 : decode c_NB_move 61 = .ok (.aload_n 0, 1) := by decide +kernel
theorem d_NB_move_62 : decode c_NB_move 62 = .ok (.getfield 9, 3) := by decide +kernel
theorem d_NB_move_65 : decode c_NB_move 65 = .ok (.goto 7, 3) := by decide +kernel
theorem d_NB_move_68 : decode c_NB_move 68 = .ok (.aload_n 0, 1) := by decide +kernel
theorem d_NB_move_69 : decode c_NB_move 69 = .ok (.getfield 16, 3) := by decide +kernel
theorem d_NB_move_72 : decode c_NB_move 72 = .ok (.iconst 0, 1) := by decide +kernel
theorem d_NB_move_73 : decode c_NB_move 73 = .ok (.bipush 32, 2) := by decide +kernel
theorem d_NB_move_75 : decode c_NB_move 75 = .ok (.invokestatic 70, 3) := by decide +kernel
theorem d_NB_move_78 : decode c_NB_move 78 = .ok (.iconst 1, 1) := by decide +kernel
theorem d_NB_move_79 : decode c_NB_move 79 = .ok (.ireturn, 1) := by decide +kernel
set_option maxRecDepth 100000 in
set_option maxHeartbeats 4000000 in
/-- move -/
theorem m_NB_move (l : Launch) (G : wG) (A : Nat → Prop) (ad : Nat → Nat) (ev : Nat → va_E) (x : Int32) (Bf : Nat → Nat → Nat) (tl ol : Nat) (hNB : NB G ad ev Bf tl ol) : wM l y_NB_move w_NB_move ({ frames := 3, cells := 0, slots := 0, locals := 100 }) G A 52 ad ev [.ref (ad 0), .int (x)] (fun ov ev' => ∃ (ans : Int32) (Bf' : Nat → Nat → Nat) (tl' : Nat), ov = some (.int ans) ∧ spMove x Bf tl ol ans Bf' tl' ∧ NB G ad ev' Bf' tl' ol ∧ ∀ j, 37 ≤ j → ev' j = ev j) := by
  refine wv_ofW (cc := c_NB_move) (maxL := 2) (ret := (Option.some FieldType.boolean)) (by decide) rfl (Nat.le_of_ble_eq_true rfl) ?_
  intro p e s m below meth c ls hx hb hr hml hts hown hlocks hini h hl
  have hl : lv_has ls 2 [(0, .ref (ad 0)), (1, .int (x))] := hl
  have hNB0 := hNB
  obtain ⟨g0, g1, g2, g3, g4, g5, g6, ⟨x7, g7⟩, ⟨x8, g8⟩, ⟨x9, g9⟩, ⟨x10, b10, z10, g10⟩, ⟨x11, b11, g11⟩, g12, g13, ⟨x14, g14⟩, ⟨x15, g15⟩, ⟨x16, g16⟩, ⟨x17, g17⟩, g18, g19, ⟨x20, g20⟩, ⟨x21, g21⟩, ⟨x22, g22⟩, ⟨x23, g23⟩, ⟨x24, g24⟩, ⟨x25, g25⟩, ⟨x26, g26⟩, ⟨x27, g27⟩, ⟨x28, g28⟩, ⟨x29, g29⟩, ⟨x30, g30⟩, ⟨x31, g31⟩, ⟨x32, g32⟩, ⟨x33, g33⟩, ⟨x34, b34, g34⟩, g35, ⟨x36, b36, g36⟩, hB, htl, hol⟩ := hNB
  refine lv_iload_n hx hb d_NB_move_0 rfl (lv_at hl 1 rfl) ?_
  refine lv_iconst (v := nI (3)) hx hb d_NB_move_1 (by decide) ?_
  refine lv_icmp_ne (tgt := 32) hx hb d_NB_move_2 (by decide) (fun hc3 => ?_) (fun hc3 => ?_)
  · skip
    refine lv_aload_n hx hb d_NB_move_32 rfl (lv_at hl 0 rfl) ?_
    refine wv_getf hx hb h 0 (by decide) (fs := [.ref (ad 1), .ref (ad 2), .ref (ad 3), .ref (ad 4), .ref (ad 5), .int (nI (tl)), .int (nI (ol)), .ref (ad 6), .ref (ad 12), .ref (ad 18), .ref (ad 34), .ref (ad 35), .ref (ad 36)]) g0 hts (fun w hw => List.mem_cons_of_mem _ (fW_NB w hw)) hown (ci := 4) (C := "NonceBox") (T := fT_NB) (N := 13) rfl 6 (by decide) (hts _ (List.mem_cons_of_mem _ kf_NB_29)) rfl (v := .int (nI (ol))) rfl d_NB_move_33 ?_
    refine lv_bipush (v := nI (32)) hx hb d_NB_move_36 (by decide) ?_
    refine lv_icmp_ne (tgt := 50) hx hb d_NB_move_38 (by decide) (fun hc => ?_) (fun hc => ?_)
    · have ho : ol ≠ 32 := fun e => hc (by rw [e])
      refine lv_iconst (v := nI (0)) hx hb d_NB_move_50 (by decide) ?_
      exact wv_zret hx hb hr hlocks h d_NB_move_51 rfl ⟨_, _, _, rfl, Or.inr (Or.inr ⟨hc3, Or.inl ho, rfl, rfl, rfl⟩), hNB0, fun _ _ => rfl⟩
    · have ho : ol = 32 := (nI_eq (by omega) (by decide)).mp hc
      refine lv_iload_n hx hb d_NB_move_41 rfl (lv_at hl 1 rfl) ?_
      refine lv_if_eq (tgt := 52) hx hb d_NB_move_42 (by decide) (fun hc0 => ?_) (fun hc0 => ?_)
      · obtain rfl : x = nI 0 := hc0
        refine lv_aload_n hx hb d_NB_move_52 rfl (lv_at hl 0 rfl) ?_
        refine wv_getf hx hb h 0 (by decide) (fs := [.ref (ad 1), .ref (ad 2), .ref (ad 3), .ref (ad 4), .ref (ad 5), .int (nI (tl)), .int (nI (ol)), .ref (ad 6), .ref (ad 12), .ref (ad 18), .ref (ad 34), .ref (ad 35), .ref (ad 36)]) g0 hts (fun w hw => List.mem_cons_of_mem _ (fW_NB w hw)) hown (ci := 4) (C := "NonceBox") (T := fT_NB) (N := 13) rfl 4 (by decide) (hts _ (List.mem_cons_of_mem _ kf_NB_22)) rfl (v := .ref (ad 5)) rfl d_NB_move_53 ?_
        refine lv_iconst (v := nI (0)) hx hb d_NB_move_56 (by decide) ?_
        refine lv_iload_n hx hb d_NB_move_57 rfl (lv_at hl 1 rfl) ?_
        refine lv_if_ne (tgt := 68) hx hb d_NB_move_58 (by decide) (fun hc => absurd (by decide) hc) (fun _ => ?_)
        refine lv_aload_n hx hb d_NB_move_61 rfl (lv_at hl 0 rfl) ?_
        refine wv_getf hx hb h 0 (by decide) (fs := [.ref (ad 1), .ref (ad 2), .ref (ad 3), .ref (ad 4), .ref (ad 5), .int (nI (tl)), .int (nI (ol)), .ref (ad 6), .ref (ad 12), .ref (ad 18), .ref (ad 34), .ref (ad 35), .ref (ad 36)]) g0 hts (fun w hw => List.mem_cons_of_mem _ (fW_NB w hw)) hown (ci := 4) (C := "NonceBox") (T := fT_NB) (N := 13) rfl 0 (by decide) (hts _ (List.mem_cons_of_mem _ kf_NB_9)) rfl (v := .ref (ad 1)) rfl d_NB_move_62 ?_
        refine lv_goto (tgt := 72) hx hb d_NB_move_65 (by decide) ?_
        refine lv_iconst (v := nI (0)) hx hb d_NB_move_72 (by decide) ?_
        refine lv_bipush (v := nI (32)) hx hb d_NB_move_73 (by decide) ?_
        refine wv_copyb hx hb (hml.trans hl.1.symm) h hown (hts _ (List.mem_cons_of_mem _ kl_NB_70)) (hts _ (List.mem_cons_of_mem _ kn_Sy_arraycopy)) (hts _ (List.mem_cons_of_mem _ ks_Sy_arraycopy)) (hts _ (List.mem_cons_of_mem _ ki_Sy)) 5 1 (by decide) (by decide) (f := (bs (Bf 4))) (g := (bs (Bf 0))) g5 g1 (a := 0) (b := 0) (d := 32) rfl rfl rfl (by omega) (by omega) (by decide) (by decide) (fun i _ => bs_fit _ _) (by decide) (by decide) d_NB_move_75 (fun H locs h => ?_)
        obtain ⟨ev1, o1⟩ : ∃ z, z = va_up ev 1 (eB G 32 (va_cpy (bs (Bf 4)) (bs (Bf 0)) 0 0 32)) := ⟨_, rfl⟩
        rw [← o1] at h
        have t1_1 : ev1 1 = eB G 32 (va_cpy (bs (Bf 4)) (bs (Bf 0)) 0 0 32) := by rw [o1, va_up_self]
        have t1_2 := (show ev1 2 = ev 2 by rw [o1, va_up_ne _ _ (by decide)]).trans g2
        have t1_3 := (show ev1 3 = ev 3 by rw [o1, va_up_ne _ _ (by decide)]).trans g3
        have t1_4 := (show ev1 4 = ev 4 by rw [o1, va_up_ne _ _ (by decide)]).trans g4
        have t1_5 := (show ev1 5 = ev 5 by rw [o1, va_up_ne _ _ (by decide)]).trans g5
        have t1_35 := (show ev1 35 = ev 35 by rw [o1, va_up_ne _ _ (by decide)]).trans g35
        have t1_7 := (show ev1 7 = ev 7 by rw [o1, va_up_ne _ _ (by decide)]).trans g7
        have t1_8 := (show ev1 8 = ev 8 by rw [o1, va_up_ne _ _ (by decide)]).trans g8
        have t1_9 := (show ev1 9 = ev 9 by rw [o1, va_up_ne _ _ (by decide)]).trans g9
        have t1_10 := (show ev1 10 = ev 10 by rw [o1, va_up_ne _ _ (by decide)]).trans g10
        have t1_11 := (show ev1 11 = ev 11 by rw [o1, va_up_ne _ _ (by decide)]).trans g11
        have t1_14 := (show ev1 14 = ev 14 by rw [o1, va_up_ne _ _ (by decide)]).trans g14
        have t1_15 := (show ev1 15 = ev 15 by rw [o1, va_up_ne _ _ (by decide)]).trans g15
        have t1_16 := (show ev1 16 = ev 16 by rw [o1, va_up_ne _ _ (by decide)]).trans g16
        have t1_17 := (show ev1 17 = ev 17 by rw [o1, va_up_ne _ _ (by decide)]).trans g17
        have t1_20 := (show ev1 20 = ev 20 by rw [o1, va_up_ne _ _ (by decide)]).trans g20
        have t1_21 := (show ev1 21 = ev 21 by rw [o1, va_up_ne _ _ (by decide)]).trans g21
        have t1_34 := (show ev1 34 = ev 34 by rw [o1, va_up_ne _ _ (by decide)]).trans g34
        have t1_36 := (show ev1 36 = ev 36 by rw [o1, va_up_ne _ _ (by decide)]).trans g36
        have t1_22 := (show ev1 22 = ev 22 by rw [o1, va_up_ne _ _ (by decide)]).trans g22
        have t1_23 := (show ev1 23 = ev 23 by rw [o1, va_up_ne _ _ (by decide)]).trans g23
        have t1_24 := (show ev1 24 = ev 24 by rw [o1, va_up_ne _ _ (by decide)]).trans g24
        have t1_25 := (show ev1 25 = ev 25 by rw [o1, va_up_ne _ _ (by decide)]).trans g25
        have t1_26 := (show ev1 26 = ev 26 by rw [o1, va_up_ne _ _ (by decide)]).trans g26
        have t1_27 := (show ev1 27 = ev 27 by rw [o1, va_up_ne _ _ (by decide)]).trans g27
        have t1_28 := (show ev1 28 = ev 28 by rw [o1, va_up_ne _ _ (by decide)]).trans g28
        have t1_29 := (show ev1 29 = ev 29 by rw [o1, va_up_ne _ _ (by decide)]).trans g29
        have t1_30 := (show ev1 30 = ev 30 by rw [o1, va_up_ne _ _ (by decide)]).trans g30
        have t1_31 := (show ev1 31 = ev 31 by rw [o1, va_up_ne _ _ (by decide)]).trans g31
        have t1_32 := (show ev1 32 = ev 32 by rw [o1, va_up_ne _ _ (by decide)]).trans g32
        have t1_33 := (show ev1 33 = ev 33 by rw [o1, va_up_ne _ _ (by decide)]).trans g33
        have t1_0 := (show ev1 0 = ev 0 by rw [o1, va_up_ne _ _ (by decide)]).trans g0
        have t1_6 := (show ev1 6 = ev 6 by rw [o1, va_up_ne _ _ (by decide)]).trans g6
        have t1_12 := (show ev1 12 = ev 12 by rw [o1, va_up_ne _ _ (by decide)]).trans g12
        have t1_13 := (show ev1 13 = ev 13 by rw [o1, va_up_ne _ _ (by decide)]).trans g13
        have t1_18 := (show ev1 18 = ev 18 by rw [o1, va_up_ne _ _ (by decide)]).trans g18
        have t1_19 := (show ev1 19 = ev 19 by rw [o1, va_up_ne _ _ (by decide)]).trans g19
        have h := wT_eqB (g := (bs (fil 0 32 (Bf 4) (Bf 0)))) h 1 (by decide) t1_1 (fun j hj => by
            unfold va_cpy bs fil
            by_cases c : j < 32
            · rw [if_pos (by omega), if_pos (by omega), Nat.zero_add]
            · rw [if_neg (by omega), if_neg (by omega)])
        obtain ⟨ev2, o2⟩ : ∃ z, z = va_up ev1 1 (eB G 32 (bs (fil 0 32 (Bf 4) (Bf 0)))) := ⟨_, rfl⟩
        rw [← o2] at h
        have t2_1 : ev2 1 = eB G 32 (bs (fil 0 32 (Bf 4) (Bf 0))) := by rw [o2, va_up_self]
        have t2_2 := (show ev2 2 = ev1 2 by rw [o2, va_up_ne _ _ (by decide)]).trans t1_2
        have t2_3 := (show ev2 3 = ev1 3 by rw [o2, va_up_ne _ _ (by decide)]).trans t1_3
        have t2_4 := (show ev2 4 = ev1 4 by rw [o2, va_up_ne _ _ (by decide)]).trans t1_4
        have t2_5 := (show ev2 5 = ev1 5 by rw [o2, va_up_ne _ _ (by decide)]).trans t1_5
        have t2_35 := (show ev2 35 = ev1 35 by rw [o2, va_up_ne _ _ (by decide)]).trans t1_35
        have t2_7 := (show ev2 7 = ev1 7 by rw [o2, va_up_ne _ _ (by decide)]).trans t1_7
        have t2_8 := (show ev2 8 = ev1 8 by rw [o2, va_up_ne _ _ (by decide)]).trans t1_8
        have t2_9 := (show ev2 9 = ev1 9 by rw [o2, va_up_ne _ _ (by decide)]).trans t1_9
        have t2_10 := (show ev2 10 = ev1 10 by rw [o2, va_up_ne _ _ (by decide)]).trans t1_10
        have t2_11 := (show ev2 11 = ev1 11 by rw [o2, va_up_ne _ _ (by decide)]).trans t1_11
        have t2_14 := (show ev2 14 = ev1 14 by rw [o2, va_up_ne _ _ (by decide)]).trans t1_14
        have t2_15 := (show ev2 15 = ev1 15 by rw [o2, va_up_ne _ _ (by decide)]).trans t1_15
        have t2_16 := (show ev2 16 = ev1 16 by rw [o2, va_up_ne _ _ (by decide)]).trans t1_16
        have t2_17 := (show ev2 17 = ev1 17 by rw [o2, va_up_ne _ _ (by decide)]).trans t1_17
        have t2_20 := (show ev2 20 = ev1 20 by rw [o2, va_up_ne _ _ (by decide)]).trans t1_20
        have t2_21 := (show ev2 21 = ev1 21 by rw [o2, va_up_ne _ _ (by decide)]).trans t1_21
        have t2_34 := (show ev2 34 = ev1 34 by rw [o2, va_up_ne _ _ (by decide)]).trans t1_34
        have t2_36 := (show ev2 36 = ev1 36 by rw [o2, va_up_ne _ _ (by decide)]).trans t1_36
        have t2_22 := (show ev2 22 = ev1 22 by rw [o2, va_up_ne _ _ (by decide)]).trans t1_22
        have t2_23 := (show ev2 23 = ev1 23 by rw [o2, va_up_ne _ _ (by decide)]).trans t1_23
        have t2_24 := (show ev2 24 = ev1 24 by rw [o2, va_up_ne _ _ (by decide)]).trans t1_24
        have t2_25 := (show ev2 25 = ev1 25 by rw [o2, va_up_ne _ _ (by decide)]).trans t1_25
        have t2_26 := (show ev2 26 = ev1 26 by rw [o2, va_up_ne _ _ (by decide)]).trans t1_26
        have t2_27 := (show ev2 27 = ev1 27 by rw [o2, va_up_ne _ _ (by decide)]).trans t1_27
        have t2_28 := (show ev2 28 = ev1 28 by rw [o2, va_up_ne _ _ (by decide)]).trans t1_28
        have t2_29 := (show ev2 29 = ev1 29 by rw [o2, va_up_ne _ _ (by decide)]).trans t1_29
        have t2_30 := (show ev2 30 = ev1 30 by rw [o2, va_up_ne _ _ (by decide)]).trans t1_30
        have t2_31 := (show ev2 31 = ev1 31 by rw [o2, va_up_ne _ _ (by decide)]).trans t1_31
        have t2_32 := (show ev2 32 = ev1 32 by rw [o2, va_up_ne _ _ (by decide)]).trans t1_32
        have t2_33 := (show ev2 33 = ev1 33 by rw [o2, va_up_ne _ _ (by decide)]).trans t1_33
        have t2_0 := (show ev2 0 = ev1 0 by rw [o2, va_up_ne _ _ (by decide)]).trans t1_0
        have t2_6 := (show ev2 6 = ev1 6 by rw [o2, va_up_ne _ _ (by decide)]).trans t1_6
        have t2_12 := (show ev2 12 = ev1 12 by rw [o2, va_up_ne _ _ (by decide)]).trans t1_12
        have t2_13 := (show ev2 13 = ev1 13 by rw [o2, va_up_ne _ _ (by decide)]).trans t1_13
        have t2_18 := (show ev2 18 = ev1 18 by rw [o2, va_up_ne _ _ (by decide)]).trans t1_18
        have t2_19 := (show ev2 19 = ev1 19 by rw [o2, va_up_ne _ _ (by decide)]).trans t1_19
        refine lv_iconst (v := nI (1)) hx hb d_NB_move_78 (by decide) ?_
        exact wv_zret hx hb hr hlocks h d_NB_move_79 rfl ⟨_, _, _, rfl, Or.inr (Or.inl ⟨ho, ⟨0, by decide, rfl, rfl, rfl⟩, rfl⟩), ⟨t2_0, t2_1, t2_2, t2_3, t2_4, t2_5, t2_6, ⟨_, t2_7⟩, ⟨_, t2_8⟩, ⟨_, t2_9⟩, ⟨_, b10, z10, t2_10⟩, ⟨_, b11, t2_11⟩, t2_12, t2_13, ⟨_, t2_14⟩, ⟨_, t2_15⟩, ⟨_, t2_16⟩, ⟨_, t2_17⟩, t2_18, t2_19, ⟨_, t2_20⟩, ⟨_, t2_21⟩, ⟨_, t2_22⟩, ⟨_, t2_23⟩, ⟨_, t2_24⟩, ⟨_, t2_25⟩, ⟨_, t2_26⟩, ⟨_, t2_27⟩, ⟨_, t2_28⟩, ⟨_, t2_29⟩, ⟨_, t2_30⟩, ⟨_, t2_31⟩, ⟨_, t2_32⟩, ⟨_, t2_33⟩, ⟨_, b34, t2_34⟩, t2_35, ⟨_, b36, t2_36⟩, Bf_lt hB (fil_lt (hB 4) (hB 0)) 0, htl, hol⟩, (fun j hj => by rw [o2, va_up_ne _ _ (by omega), o1, va_up_ne _ _ (by omega)])⟩
      · skip
        refine lv_iload_n hx hb d_NB_move_45 rfl (lv_at hl 1 rfl) ?_
        refine lv_iconst (v := nI (2)) hx hb d_NB_move_46 (by decide) ?_
        refine lv_icmp_eq (tgt := 52) hx hb d_NB_move_47 (by decide) (fun hc2 => ?_) (fun hc2 => ?_)
        · subst hc2
          refine lv_aload_n hx hb d_NB_move_52 rfl (lv_at hl 0 rfl) ?_
          refine wv_getf hx hb h 0 (by decide) (fs := [.ref (ad 1), .ref (ad 2), .ref (ad 3), .ref (ad 4), .ref (ad 5), .int (nI (tl)), .int (nI (ol)), .ref (ad 6), .ref (ad 12), .ref (ad 18), .ref (ad 34), .ref (ad 35), .ref (ad 36)]) g0 hts (fun w hw => List.mem_cons_of_mem _ (fW_NB w hw)) hown (ci := 4) (C := "NonceBox") (T := fT_NB) (N := 13) rfl 4 (by decide) (hts _ (List.mem_cons_of_mem _ kf_NB_22)) rfl (v := .ref (ad 5)) rfl d_NB_move_53 ?_
          refine lv_iconst (v := nI (0)) hx hb d_NB_move_56 (by decide) ?_
          refine lv_iload_n hx hb d_NB_move_57 rfl (lv_at hl 1 rfl) ?_
          refine lv_if_ne (tgt := 68) hx hb d_NB_move_58 (by decide) (fun _ => ?_) (fun hc => absurd hc (by decide))
          refine lv_aload_n hx hb d_NB_move_68 rfl (lv_at hl 0 rfl) ?_
          refine wv_getf hx hb h 0 (by decide) (fs := [.ref (ad 1), .ref (ad 2), .ref (ad 3), .ref (ad 4), .ref (ad 5), .int (nI (tl)), .int (nI (ol)), .ref (ad 6), .ref (ad 12), .ref (ad 18), .ref (ad 34), .ref (ad 35), .ref (ad 36)]) g0 hts (fun w hw => List.mem_cons_of_mem _ (fW_NB w hw)) hown (ci := 4) (C := "NonceBox") (T := fT_NB) (N := 13) rfl 2 (by decide) (hts _ (List.mem_cons_of_mem _ kf_NB_16)) rfl (v := .ref (ad 3)) rfl d_NB_move_69 ?_
          refine lv_iconst (v := nI (0)) hx hb d_NB_move_72 (by decide) ?_
          refine lv_bipush (v := nI (32)) hx hb d_NB_move_73 (by decide) ?_
          refine wv_copyb hx hb (hml.trans hl.1.symm) h hown (hts _ (List.mem_cons_of_mem _ kl_NB_70)) (hts _ (List.mem_cons_of_mem _ kn_Sy_arraycopy)) (hts _ (List.mem_cons_of_mem _ ks_Sy_arraycopy)) (hts _ (List.mem_cons_of_mem _ ki_Sy)) 5 3 (by decide) (by decide) (f := (bs (Bf 4))) (g := (bs (Bf 2))) g5 g3 (a := 0) (b := 0) (d := 32) rfl rfl rfl (by omega) (by omega) (by decide) (by decide) (fun i _ => bs_fit _ _) (by decide) (by decide) d_NB_move_75 (fun H locs h => ?_)
          obtain ⟨ev1, o1⟩ : ∃ z, z = va_up ev 3 (eB G 32 (va_cpy (bs (Bf 4)) (bs (Bf 2)) 0 0 32)) := ⟨_, rfl⟩
          rw [← o1] at h
          have t1_3 : ev1 3 = eB G 32 (va_cpy (bs (Bf 4)) (bs (Bf 2)) 0 0 32) := by rw [o1, va_up_self]
          have t1_1 := (show ev1 1 = ev 1 by rw [o1, va_up_ne _ _ (by decide)]).trans g1
          have t1_2 := (show ev1 2 = ev 2 by rw [o1, va_up_ne _ _ (by decide)]).trans g2
          have t1_4 := (show ev1 4 = ev 4 by rw [o1, va_up_ne _ _ (by decide)]).trans g4
          have t1_5 := (show ev1 5 = ev 5 by rw [o1, va_up_ne _ _ (by decide)]).trans g5
          have t1_35 := (show ev1 35 = ev 35 by rw [o1, va_up_ne _ _ (by decide)]).trans g35
          have t1_7 := (show ev1 7 = ev 7 by rw [o1, va_up_ne _ _ (by decide)]).trans g7
          have t1_8 := (show ev1 8 = ev 8 by rw [o1, va_up_ne _ _ (by decide)]).trans g8
          have t1_9 := (show ev1 9 = ev 9 by rw [o1, va_up_ne _ _ (by decide)]).trans g9
          have t1_10 := (show ev1 10 = ev 10 by rw [o1, va_up_ne _ _ (by decide)]).trans g10
          have t1_11 := (show ev1 11 = ev 11 by rw [o1, va_up_ne _ _ (by decide)]).trans g11
          have t1_14 := (show ev1 14 = ev 14 by rw [o1, va_up_ne _ _ (by decide)]).trans g14
          have t1_15 := (show ev1 15 = ev 15 by rw [o1, va_up_ne _ _ (by decide)]).trans g15
          have t1_16 := (show ev1 16 = ev 16 by rw [o1, va_up_ne _ _ (by decide)]).trans g16
          have t1_17 := (show ev1 17 = ev 17 by rw [o1, va_up_ne _ _ (by decide)]).trans g17
          have t1_20 := (show ev1 20 = ev 20 by rw [o1, va_up_ne _ _ (by decide)]).trans g20
          have t1_21 := (show ev1 21 = ev 21 by rw [o1, va_up_ne _ _ (by decide)]).trans g21
          have t1_34 := (show ev1 34 = ev 34 by rw [o1, va_up_ne _ _ (by decide)]).trans g34
          have t1_36 := (show ev1 36 = ev 36 by rw [o1, va_up_ne _ _ (by decide)]).trans g36
          have t1_22 := (show ev1 22 = ev 22 by rw [o1, va_up_ne _ _ (by decide)]).trans g22
          have t1_23 := (show ev1 23 = ev 23 by rw [o1, va_up_ne _ _ (by decide)]).trans g23
          have t1_24 := (show ev1 24 = ev 24 by rw [o1, va_up_ne _ _ (by decide)]).trans g24
          have t1_25 := (show ev1 25 = ev 25 by rw [o1, va_up_ne _ _ (by decide)]).trans g25
          have t1_26 := (show ev1 26 = ev 26 by rw [o1, va_up_ne _ _ (by decide)]).trans g26
          have t1_27 := (show ev1 27 = ev 27 by rw [o1, va_up_ne _ _ (by decide)]).trans g27
          have t1_28 := (show ev1 28 = ev 28 by rw [o1, va_up_ne _ _ (by decide)]).trans g28
          have t1_29 := (show ev1 29 = ev 29 by rw [o1, va_up_ne _ _ (by decide)]).trans g29
          have t1_30 := (show ev1 30 = ev 30 by rw [o1, va_up_ne _ _ (by decide)]).trans g30
          have t1_31 := (show ev1 31 = ev 31 by rw [o1, va_up_ne _ _ (by decide)]).trans g31
          have t1_32 := (show ev1 32 = ev 32 by rw [o1, va_up_ne _ _ (by decide)]).trans g32
          have t1_33 := (show ev1 33 = ev 33 by rw [o1, va_up_ne _ _ (by decide)]).trans g33
          have t1_0 := (show ev1 0 = ev 0 by rw [o1, va_up_ne _ _ (by decide)]).trans g0
          have t1_6 := (show ev1 6 = ev 6 by rw [o1, va_up_ne _ _ (by decide)]).trans g6
          have t1_12 := (show ev1 12 = ev 12 by rw [o1, va_up_ne _ _ (by decide)]).trans g12
          have t1_13 := (show ev1 13 = ev 13 by rw [o1, va_up_ne _ _ (by decide)]).trans g13
          have t1_18 := (show ev1 18 = ev 18 by rw [o1, va_up_ne _ _ (by decide)]).trans g18
          have t1_19 := (show ev1 19 = ev 19 by rw [o1, va_up_ne _ _ (by decide)]).trans g19
          have h := wT_eqB (g := (bs (fil 0 32 (Bf 4) (Bf 2)))) h 3 (by decide) t1_3 (fun j hj => by
              unfold va_cpy bs fil
              by_cases c : j < 32
              · rw [if_pos (by omega), if_pos (by omega), Nat.zero_add]
              · rw [if_neg (by omega), if_neg (by omega)])
          obtain ⟨ev2, o2⟩ : ∃ z, z = va_up ev1 3 (eB G 32 (bs (fil 0 32 (Bf 4) (Bf 2)))) := ⟨_, rfl⟩
          rw [← o2] at h
          have t2_3 : ev2 3 = eB G 32 (bs (fil 0 32 (Bf 4) (Bf 2))) := by rw [o2, va_up_self]
          have t2_1 := (show ev2 1 = ev1 1 by rw [o2, va_up_ne _ _ (by decide)]).trans t1_1
          have t2_2 := (show ev2 2 = ev1 2 by rw [o2, va_up_ne _ _ (by decide)]).trans t1_2
          have t2_4 := (show ev2 4 = ev1 4 by rw [o2, va_up_ne _ _ (by decide)]).trans t1_4
          have t2_5 := (show ev2 5 = ev1 5 by rw [o2, va_up_ne _ _ (by decide)]).trans t1_5
          have t2_35 := (show ev2 35 = ev1 35 by rw [o2, va_up_ne _ _ (by decide)]).trans t1_35
          have t2_7 := (show ev2 7 = ev1 7 by rw [o2, va_up_ne _ _ (by decide)]).trans t1_7
          have t2_8 := (show ev2 8 = ev1 8 by rw [o2, va_up_ne _ _ (by decide)]).trans t1_8
          have t2_9 := (show ev2 9 = ev1 9 by rw [o2, va_up_ne _ _ (by decide)]).trans t1_9
          have t2_10 := (show ev2 10 = ev1 10 by rw [o2, va_up_ne _ _ (by decide)]).trans t1_10
          have t2_11 := (show ev2 11 = ev1 11 by rw [o2, va_up_ne _ _ (by decide)]).trans t1_11
          have t2_14 := (show ev2 14 = ev1 14 by rw [o2, va_up_ne _ _ (by decide)]).trans t1_14
          have t2_15 := (show ev2 15 = ev1 15 by rw [o2, va_up_ne _ _ (by decide)]).trans t1_15
          have t2_16 := (show ev2 16 = ev1 16 by rw [o2, va_up_ne _ _ (by decide)]).trans t1_16
          have t2_17 := (show ev2 17 = ev1 17 by rw [o2, va_up_ne _ _ (by decide)]).trans t1_17
          have t2_20 := (show ev2 20 = ev1 20 by rw [o2, va_up_ne _ _ (by decide)]).trans t1_20
          have t2_21 := (show ev2 21 = ev1 21 by rw [o2, va_up_ne _ _ (by decide)]).trans t1_21
          have t2_34 := (show ev2 34 = ev1 34 by rw [o2, va_up_ne _ _ (by decide)]).trans t1_34
          have t2_36 := (show ev2 36 = ev1 36 by rw [o2, va_up_ne _ _ (by decide)]).trans t1_36
          have t2_22 := (show ev2 22 = ev1 22 by rw [o2, va_up_ne _ _ (by decide)]).trans t1_22
          have t2_23 := (show ev2 23 = ev1 23 by rw [o2, va_up_ne _ _ (by decide)]).trans t1_23
          have t2_24 := (show ev2 24 = ev1 24 by rw [o2, va_up_ne _ _ (by decide)]).trans t1_24
          have t2_25 := (show ev2 25 = ev1 25 by rw [o2, va_up_ne _ _ (by decide)]).trans t1_25
          have t2_26 := (show ev2 26 = ev1 26 by rw [o2, va_up_ne _ _ (by decide)]).trans t1_26
          have t2_27 := (show ev2 27 = ev1 27 by rw [o2, va_up_ne _ _ (by decide)]).trans t1_27
          have t2_28 := (show ev2 28 = ev1 28 by rw [o2, va_up_ne _ _ (by decide)]).trans t1_28
          have t2_29 := (show ev2 29 = ev1 29 by rw [o2, va_up_ne _ _ (by decide)]).trans t1_29
          have t2_30 := (show ev2 30 = ev1 30 by rw [o2, va_up_ne _ _ (by decide)]).trans t1_30
          have t2_31 := (show ev2 31 = ev1 31 by rw [o2, va_up_ne _ _ (by decide)]).trans t1_31
          have t2_32 := (show ev2 32 = ev1 32 by rw [o2, va_up_ne _ _ (by decide)]).trans t1_32
          have t2_33 := (show ev2 33 = ev1 33 by rw [o2, va_up_ne _ _ (by decide)]).trans t1_33
          have t2_0 := (show ev2 0 = ev1 0 by rw [o2, va_up_ne _ _ (by decide)]).trans t1_0
          have t2_6 := (show ev2 6 = ev1 6 by rw [o2, va_up_ne _ _ (by decide)]).trans t1_6
          have t2_12 := (show ev2 12 = ev1 12 by rw [o2, va_up_ne _ _ (by decide)]).trans t1_12
          have t2_13 := (show ev2 13 = ev1 13 by rw [o2, va_up_ne _ _ (by decide)]).trans t1_13
          have t2_18 := (show ev2 18 = ev1 18 by rw [o2, va_up_ne _ _ (by decide)]).trans t1_18
          have t2_19 := (show ev2 19 = ev1 19 by rw [o2, va_up_ne _ _ (by decide)]).trans t1_19
          refine lv_iconst (v := nI (1)) hx hb d_NB_move_78 (by decide) ?_
          exact wv_zret hx hb hr hlocks h d_NB_move_79 rfl ⟨_, _, _, rfl, Or.inr (Or.inl ⟨ho, ⟨2, by decide, rfl, rfl, rfl⟩, rfl⟩), ⟨t2_0, t2_1, t2_2, t2_3, t2_4, t2_5, t2_6, ⟨_, t2_7⟩, ⟨_, t2_8⟩, ⟨_, t2_9⟩, ⟨_, b10, z10, t2_10⟩, ⟨_, b11, t2_11⟩, t2_12, t2_13, ⟨_, t2_14⟩, ⟨_, t2_15⟩, ⟨_, t2_16⟩, ⟨_, t2_17⟩, t2_18, t2_19, ⟨_, t2_20⟩, ⟨_, t2_21⟩, ⟨_, t2_22⟩, ⟨_, t2_23⟩, ⟨_, t2_24⟩, ⟨_, t2_25⟩, ⟨_, t2_26⟩, ⟨_, t2_27⟩, ⟨_, t2_28⟩, ⟨_, t2_29⟩, ⟨_, t2_30⟩, ⟨_, t2_31⟩, ⟨_, t2_32⟩, ⟨_, t2_33⟩, ⟨_, b34, t2_34⟩, t2_35, ⟨_, b36, t2_36⟩, Bf_lt hB (fil_lt (hB 4) (hB 2)) 2, htl, hol⟩, (fun j hj => by rw [o2, va_up_ne _ _ (by omega), o1, va_up_ne _ _ (by omega)])⟩
        · skip
          refine lv_iconst (v := nI (0)) hx hb d_NB_move_50 (by decide) ?_
          exact wv_zret hx hb hr hlocks h d_NB_move_51 rfl ⟨_, _, _, rfl, Or.inr (Or.inr ⟨hc3, Or.inr ⟨hc0, hc2⟩, rfl, rfl, rfl⟩), hNB0, fun _ _ => rfl⟩
  · subst hc3
    refine lv_aload_n hx hb d_NB_move_5 rfl (lv_at hl 0 rfl) ?_
    refine wv_getf hx hb h 0 (by decide) (fs := [.ref (ad 1), .ref (ad 2), .ref (ad 3), .ref (ad 4), .ref (ad 5), .int (nI (tl)), .int (nI (ol)), .ref (ad 6), .ref (ad 12), .ref (ad 18), .ref (ad 34), .ref (ad 35), .ref (ad 36)]) g0 hts (fun w hw => List.mem_cons_of_mem _ (fW_NB w hw)) hown (ci := 4) (C := "NonceBox") (T := fT_NB) (N := 13) rfl 4 (by decide) (hts _ (List.mem_cons_of_mem _ kf_NB_22)) rfl (v := .ref (ad 5)) rfl d_NB_move_6 ?_
    refine lv_iconst (v := nI (0)) hx hb d_NB_move_9 (by decide) ?_
    refine lv_aload_n hx hb d_NB_move_10 rfl (lv_at hl 0 rfl) ?_
    refine wv_getf hx hb h 0 (by decide) (fs := [.ref (ad 1), .ref (ad 2), .ref (ad 3), .ref (ad 4), .ref (ad 5), .int (nI (tl)), .int (nI (ol)), .ref (ad 6), .ref (ad 12), .ref (ad 18), .ref (ad 34), .ref (ad 35), .ref (ad 36)]) g0 hts (fun w hw => List.mem_cons_of_mem _ (fW_NB w hw)) hown (ci := 4) (C := "NonceBox") (T := fT_NB) (N := 13) rfl 3 (by decide) (hts _ (List.mem_cons_of_mem _ kf_NB_19)) rfl (v := .ref (ad 4)) rfl d_NB_move_11 ?_
    refine lv_iconst (v := nI (0)) hx hb d_NB_move_14 (by decide) ?_
    refine lv_aload_n hx hb d_NB_move_15 rfl (lv_at hl 0 rfl) ?_
    refine wv_getf hx hb h 0 (by decide) (fs := [.ref (ad 1), .ref (ad 2), .ref (ad 3), .ref (ad 4), .ref (ad 5), .int (nI (tl)), .int (nI (ol)), .ref (ad 6), .ref (ad 12), .ref (ad 18), .ref (ad 34), .ref (ad 35), .ref (ad 36)]) g0 hts (fun w hw => List.mem_cons_of_mem _ (fW_NB w hw)) hown (ci := 4) (C := "NonceBox") (T := fT_NB) (N := 13) rfl 6 (by decide) (hts _ (List.mem_cons_of_mem _ kf_NB_29)) rfl (v := .int (nI (ol))) rfl d_NB_move_16 ?_
    refine wv_copyb hx hb (hml.trans hl.1.symm) h hown (hts _ (List.mem_cons_of_mem _ kl_NB_70)) (hts _ (List.mem_cons_of_mem _ kn_Sy_arraycopy)) (hts _ (List.mem_cons_of_mem _ ks_Sy_arraycopy)) (hts _ (List.mem_cons_of_mem _ ki_Sy)) 5 4 (by decide) (by decide) (f := (bs (Bf 4))) (g := (bs (Bf 3))) g5 g4 (a := 0) (b := 0) (d := ol) rfl rfl rfl (by omega) (by omega) (by decide) (by decide) (fun i _ => bs_fit _ _) (by decide) (by decide) d_NB_move_19 (fun H locs h => ?_)
    obtain ⟨ev1, o1⟩ : ∃ z, z = va_up ev 4 (eB G 112 (va_cpy (bs (Bf 4)) (bs (Bf 3)) 0 0 ol)) := ⟨_, rfl⟩
    rw [← o1] at h
    have t1_4 : ev1 4 = eB G 112 (va_cpy (bs (Bf 4)) (bs (Bf 3)) 0 0 ol) := by rw [o1, va_up_self]
    have t1_1 := (show ev1 1 = ev 1 by rw [o1, va_up_ne _ _ (by decide)]).trans g1
    have t1_2 := (show ev1 2 = ev 2 by rw [o1, va_up_ne _ _ (by decide)]).trans g2
    have t1_3 := (show ev1 3 = ev 3 by rw [o1, va_up_ne _ _ (by decide)]).trans g3
    have t1_5 := (show ev1 5 = ev 5 by rw [o1, va_up_ne _ _ (by decide)]).trans g5
    have t1_35 := (show ev1 35 = ev 35 by rw [o1, va_up_ne _ _ (by decide)]).trans g35
    have t1_7 := (show ev1 7 = ev 7 by rw [o1, va_up_ne _ _ (by decide)]).trans g7
    have t1_8 := (show ev1 8 = ev 8 by rw [o1, va_up_ne _ _ (by decide)]).trans g8
    have t1_9 := (show ev1 9 = ev 9 by rw [o1, va_up_ne _ _ (by decide)]).trans g9
    have t1_10 := (show ev1 10 = ev 10 by rw [o1, va_up_ne _ _ (by decide)]).trans g10
    have t1_11 := (show ev1 11 = ev 11 by rw [o1, va_up_ne _ _ (by decide)]).trans g11
    have t1_14 := (show ev1 14 = ev 14 by rw [o1, va_up_ne _ _ (by decide)]).trans g14
    have t1_15 := (show ev1 15 = ev 15 by rw [o1, va_up_ne _ _ (by decide)]).trans g15
    have t1_16 := (show ev1 16 = ev 16 by rw [o1, va_up_ne _ _ (by decide)]).trans g16
    have t1_17 := (show ev1 17 = ev 17 by rw [o1, va_up_ne _ _ (by decide)]).trans g17
    have t1_20 := (show ev1 20 = ev 20 by rw [o1, va_up_ne _ _ (by decide)]).trans g20
    have t1_21 := (show ev1 21 = ev 21 by rw [o1, va_up_ne _ _ (by decide)]).trans g21
    have t1_34 := (show ev1 34 = ev 34 by rw [o1, va_up_ne _ _ (by decide)]).trans g34
    have t1_36 := (show ev1 36 = ev 36 by rw [o1, va_up_ne _ _ (by decide)]).trans g36
    have t1_22 := (show ev1 22 = ev 22 by rw [o1, va_up_ne _ _ (by decide)]).trans g22
    have t1_23 := (show ev1 23 = ev 23 by rw [o1, va_up_ne _ _ (by decide)]).trans g23
    have t1_24 := (show ev1 24 = ev 24 by rw [o1, va_up_ne _ _ (by decide)]).trans g24
    have t1_25 := (show ev1 25 = ev 25 by rw [o1, va_up_ne _ _ (by decide)]).trans g25
    have t1_26 := (show ev1 26 = ev 26 by rw [o1, va_up_ne _ _ (by decide)]).trans g26
    have t1_27 := (show ev1 27 = ev 27 by rw [o1, va_up_ne _ _ (by decide)]).trans g27
    have t1_28 := (show ev1 28 = ev 28 by rw [o1, va_up_ne _ _ (by decide)]).trans g28
    have t1_29 := (show ev1 29 = ev 29 by rw [o1, va_up_ne _ _ (by decide)]).trans g29
    have t1_30 := (show ev1 30 = ev 30 by rw [o1, va_up_ne _ _ (by decide)]).trans g30
    have t1_31 := (show ev1 31 = ev 31 by rw [o1, va_up_ne _ _ (by decide)]).trans g31
    have t1_32 := (show ev1 32 = ev 32 by rw [o1, va_up_ne _ _ (by decide)]).trans g32
    have t1_33 := (show ev1 33 = ev 33 by rw [o1, va_up_ne _ _ (by decide)]).trans g33
    have t1_0 := (show ev1 0 = ev 0 by rw [o1, va_up_ne _ _ (by decide)]).trans g0
    have t1_6 := (show ev1 6 = ev 6 by rw [o1, va_up_ne _ _ (by decide)]).trans g6
    have t1_12 := (show ev1 12 = ev 12 by rw [o1, va_up_ne _ _ (by decide)]).trans g12
    have t1_13 := (show ev1 13 = ev 13 by rw [o1, va_up_ne _ _ (by decide)]).trans g13
    have t1_18 := (show ev1 18 = ev 18 by rw [o1, va_up_ne _ _ (by decide)]).trans g18
    have t1_19 := (show ev1 19 = ev 19 by rw [o1, va_up_ne _ _ (by decide)]).trans g19
    have h := wT_eqB (g := (bs (fil 0 ol (Bf 4) (Bf 3)))) h 4 (by decide) t1_4 (fun j hj => by
        unfold va_cpy bs fil
        by_cases c : j < ol
        · rw [if_pos (by omega), if_pos (by omega), Nat.zero_add]
        · rw [if_neg (by omega), if_neg (by omega)])
    obtain ⟨ev2, o2⟩ : ∃ z, z = va_up ev1 4 (eB G 112 (bs (fil 0 ol (Bf 4) (Bf 3)))) := ⟨_, rfl⟩
    rw [← o2] at h
    have t2_4 : ev2 4 = eB G 112 (bs (fil 0 ol (Bf 4) (Bf 3))) := by rw [o2, va_up_self]
    have t2_1 := (show ev2 1 = ev1 1 by rw [o2, va_up_ne _ _ (by decide)]).trans t1_1
    have t2_2 := (show ev2 2 = ev1 2 by rw [o2, va_up_ne _ _ (by decide)]).trans t1_2
    have t2_3 := (show ev2 3 = ev1 3 by rw [o2, va_up_ne _ _ (by decide)]).trans t1_3
    have t2_5 := (show ev2 5 = ev1 5 by rw [o2, va_up_ne _ _ (by decide)]).trans t1_5
    have t2_35 := (show ev2 35 = ev1 35 by rw [o2, va_up_ne _ _ (by decide)]).trans t1_35
    have t2_7 := (show ev2 7 = ev1 7 by rw [o2, va_up_ne _ _ (by decide)]).trans t1_7
    have t2_8 := (show ev2 8 = ev1 8 by rw [o2, va_up_ne _ _ (by decide)]).trans t1_8
    have t2_9 := (show ev2 9 = ev1 9 by rw [o2, va_up_ne _ _ (by decide)]).trans t1_9
    have t2_10 := (show ev2 10 = ev1 10 by rw [o2, va_up_ne _ _ (by decide)]).trans t1_10
    have t2_11 := (show ev2 11 = ev1 11 by rw [o2, va_up_ne _ _ (by decide)]).trans t1_11
    have t2_14 := (show ev2 14 = ev1 14 by rw [o2, va_up_ne _ _ (by decide)]).trans t1_14
    have t2_15 := (show ev2 15 = ev1 15 by rw [o2, va_up_ne _ _ (by decide)]).trans t1_15
    have t2_16 := (show ev2 16 = ev1 16 by rw [o2, va_up_ne _ _ (by decide)]).trans t1_16
    have t2_17 := (show ev2 17 = ev1 17 by rw [o2, va_up_ne _ _ (by decide)]).trans t1_17
    have t2_20 := (show ev2 20 = ev1 20 by rw [o2, va_up_ne _ _ (by decide)]).trans t1_20
    have t2_21 := (show ev2 21 = ev1 21 by rw [o2, va_up_ne _ _ (by decide)]).trans t1_21
    have t2_34 := (show ev2 34 = ev1 34 by rw [o2, va_up_ne _ _ (by decide)]).trans t1_34
    have t2_36 := (show ev2 36 = ev1 36 by rw [o2, va_up_ne _ _ (by decide)]).trans t1_36
    have t2_22 := (show ev2 22 = ev1 22 by rw [o2, va_up_ne _ _ (by decide)]).trans t1_22
    have t2_23 := (show ev2 23 = ev1 23 by rw [o2, va_up_ne _ _ (by decide)]).trans t1_23
    have t2_24 := (show ev2 24 = ev1 24 by rw [o2, va_up_ne _ _ (by decide)]).trans t1_24
    have t2_25 := (show ev2 25 = ev1 25 by rw [o2, va_up_ne _ _ (by decide)]).trans t1_25
    have t2_26 := (show ev2 26 = ev1 26 by rw [o2, va_up_ne _ _ (by decide)]).trans t1_26
    have t2_27 := (show ev2 27 = ev1 27 by rw [o2, va_up_ne _ _ (by decide)]).trans t1_27
    have t2_28 := (show ev2 28 = ev1 28 by rw [o2, va_up_ne _ _ (by decide)]).trans t1_28
    have t2_29 := (show ev2 29 = ev1 29 by rw [o2, va_up_ne _ _ (by decide)]).trans t1_29
    have t2_30 := (show ev2 30 = ev1 30 by rw [o2, va_up_ne _ _ (by decide)]).trans t1_30
    have t2_31 := (show ev2 31 = ev1 31 by rw [o2, va_up_ne _ _ (by decide)]).trans t1_31
    have t2_32 := (show ev2 32 = ev1 32 by rw [o2, va_up_ne _ _ (by decide)]).trans t1_32
    have t2_33 := (show ev2 33 = ev1 33 by rw [o2, va_up_ne _ _ (by decide)]).trans t1_33
    have t2_0 := (show ev2 0 = ev1 0 by rw [o2, va_up_ne _ _ (by decide)]).trans t1_0
    have t2_6 := (show ev2 6 = ev1 6 by rw [o2, va_up_ne _ _ (by decide)]).trans t1_6
    have t2_12 := (show ev2 12 = ev1 12 by rw [o2, va_up_ne _ _ (by decide)]).trans t1_12
    have t2_13 := (show ev2 13 = ev1 13 by rw [o2, va_up_ne _ _ (by decide)]).trans t1_13
    have t2_18 := (show ev2 18 = ev1 18 by rw [o2, va_up_ne _ _ (by decide)]).trans t1_18
    have t2_19 := (show ev2 19 = ev1 19 by rw [o2, va_up_ne _ _ (by decide)]).trans t1_19
    refine lv_aload_n hx hb d_NB_move_22 rfl (lv_at hl 0 rfl) ?_
    refine lv_aload_n hx hb d_NB_move_23 rfl (lv_at hl 0 rfl) ?_
    refine wv_getf hx hb h 0 (by decide) (fs := [.ref (ad 1), .ref (ad 2), .ref (ad 3), .ref (ad 4), .ref (ad 5), .int (nI (tl)), .int (nI (ol)), .ref (ad 6), .ref (ad 12), .ref (ad 18), .ref (ad 34), .ref (ad 35), .ref (ad 36)]) t2_0 hts (fun w hw => List.mem_cons_of_mem _ (fW_NB w hw)) hown (ci := 4) (C := "NonceBox") (T := fT_NB) (N := 13) rfl 6 (by decide) (hts _ (List.mem_cons_of_mem _ kf_NB_29)) rfl (v := .int (nI (ol))) rfl d_NB_move_24 ?_
    refine wv_putf hx hb h 0 (by decide) (fs := [.ref (ad 1), .ref (ad 2), .ref (ad 3), .ref (ad 4), .ref (ad 5), .int (nI (tl)), .int (nI (ol)), .ref (ad 6), .ref (ad 12), .ref (ad 18), .ref (ad 34), .ref (ad 35), .ref (ad 36)]) t2_0 hts (fun w hw => List.mem_cons_of_mem _ (fW_NB w hw)) fY_NB fK_NB fN_NB hown (ci := 4) (C := "NonceBox") (T := fT_NB) (N := 13) rfl 5 (by decide) (hts _ (List.mem_cons_of_mem _ kf_NB_25)) rfl rfl (v := .int (nI (ol))) rfl rfl (Nat.le_of_ble_eq_true rfl) d_NB_move_27 (fun H locs h => ?_)
    have h : wT G A 52 ad (va_up ev2 0 (eO 4 [.ref (ad 1), .ref (ad 2), .ref (ad 3), .ref (ad 4), .ref (ad 5), .int (nI (ol)), .int (nI (ol)), .ref (ad 6), .ref (ad 12), .ref (ad 18), .ref (ad 34), .ref (ad 35), .ref (ad 36)])) s H locs := h
    obtain ⟨ev3, o3⟩ : ∃ z, z = va_up ev2 0 (eO 4 [.ref (ad 1), .ref (ad 2), .ref (ad 3), .ref (ad 4), .ref (ad 5), .int (nI (ol)), .int (nI (ol)), .ref (ad 6), .ref (ad 12), .ref (ad 18), .ref (ad 34), .ref (ad 35), .ref (ad 36)]) := ⟨_, rfl⟩
    rw [← o3] at h
    have t3_0 : ev3 0 = eO 4 [.ref (ad 1), .ref (ad 2), .ref (ad 3), .ref (ad 4), .ref (ad 5), .int (nI (ol)), .int (nI (ol)), .ref (ad 6), .ref (ad 12), .ref (ad 18), .ref (ad 34), .ref (ad 35), .ref (ad 36)] := by rw [o3, va_up_self]
    have t3_1 := (show ev3 1 = ev2 1 by rw [o3, va_up_ne _ _ (by decide)]).trans t2_1
    have t3_2 := (show ev3 2 = ev2 2 by rw [o3, va_up_ne _ _ (by decide)]).trans t2_2
    have t3_3 := (show ev3 3 = ev2 3 by rw [o3, va_up_ne _ _ (by decide)]).trans t2_3
    have t3_4 := (show ev3 4 = ev2 4 by rw [o3, va_up_ne _ _ (by decide)]).trans t2_4
    have t3_5 := (show ev3 5 = ev2 5 by rw [o3, va_up_ne _ _ (by decide)]).trans t2_5
    have t3_35 := (show ev3 35 = ev2 35 by rw [o3, va_up_ne _ _ (by decide)]).trans t2_35
    have t3_7 := (show ev3 7 = ev2 7 by rw [o3, va_up_ne _ _ (by decide)]).trans t2_7
    have t3_8 := (show ev3 8 = ev2 8 by rw [o3, va_up_ne _ _ (by decide)]).trans t2_8
    have t3_9 := (show ev3 9 = ev2 9 by rw [o3, va_up_ne _ _ (by decide)]).trans t2_9
    have t3_10 := (show ev3 10 = ev2 10 by rw [o3, va_up_ne _ _ (by decide)]).trans t2_10
    have t3_11 := (show ev3 11 = ev2 11 by rw [o3, va_up_ne _ _ (by decide)]).trans t2_11
    have t3_14 := (show ev3 14 = ev2 14 by rw [o3, va_up_ne _ _ (by decide)]).trans t2_14
    have t3_15 := (show ev3 15 = ev2 15 by rw [o3, va_up_ne _ _ (by decide)]).trans t2_15
    have t3_16 := (show ev3 16 = ev2 16 by rw [o3, va_up_ne _ _ (by decide)]).trans t2_16
    have t3_17 := (show ev3 17 = ev2 17 by rw [o3, va_up_ne _ _ (by decide)]).trans t2_17
    have t3_20 := (show ev3 20 = ev2 20 by rw [o3, va_up_ne _ _ (by decide)]).trans t2_20
    have t3_21 := (show ev3 21 = ev2 21 by rw [o3, va_up_ne _ _ (by decide)]).trans t2_21
    have t3_34 := (show ev3 34 = ev2 34 by rw [o3, va_up_ne _ _ (by decide)]).trans t2_34
    have t3_36 := (show ev3 36 = ev2 36 by rw [o3, va_up_ne _ _ (by decide)]).trans t2_36
    have t3_22 := (show ev3 22 = ev2 22 by rw [o3, va_up_ne _ _ (by decide)]).trans t2_22
    have t3_23 := (show ev3 23 = ev2 23 by rw [o3, va_up_ne _ _ (by decide)]).trans t2_23
    have t3_24 := (show ev3 24 = ev2 24 by rw [o3, va_up_ne _ _ (by decide)]).trans t2_24
    have t3_25 := (show ev3 25 = ev2 25 by rw [o3, va_up_ne _ _ (by decide)]).trans t2_25
    have t3_26 := (show ev3 26 = ev2 26 by rw [o3, va_up_ne _ _ (by decide)]).trans t2_26
    have t3_27 := (show ev3 27 = ev2 27 by rw [o3, va_up_ne _ _ (by decide)]).trans t2_27
    have t3_28 := (show ev3 28 = ev2 28 by rw [o3, va_up_ne _ _ (by decide)]).trans t2_28
    have t3_29 := (show ev3 29 = ev2 29 by rw [o3, va_up_ne _ _ (by decide)]).trans t2_29
    have t3_30 := (show ev3 30 = ev2 30 by rw [o3, va_up_ne _ _ (by decide)]).trans t2_30
    have t3_31 := (show ev3 31 = ev2 31 by rw [o3, va_up_ne _ _ (by decide)]).trans t2_31
    have t3_32 := (show ev3 32 = ev2 32 by rw [o3, va_up_ne _ _ (by decide)]).trans t2_32
    have t3_33 := (show ev3 33 = ev2 33 by rw [o3, va_up_ne _ _ (by decide)]).trans t2_33
    have t3_6 := (show ev3 6 = ev2 6 by rw [o3, va_up_ne _ _ (by decide)]).trans t2_6
    have t3_12 := (show ev3 12 = ev2 12 by rw [o3, va_up_ne _ _ (by decide)]).trans t2_12
    have t3_13 := (show ev3 13 = ev2 13 by rw [o3, va_up_ne _ _ (by decide)]).trans t2_13
    have t3_18 := (show ev3 18 = ev2 18 by rw [o3, va_up_ne _ _ (by decide)]).trans t2_18
    have t3_19 := (show ev3 19 = ev2 19 by rw [o3, va_up_ne _ _ (by decide)]).trans t2_19
    refine lv_iconst (v := nI (1)) hx hb d_NB_move_30 (by decide) ?_
    exact wv_zret hx hb hr hlocks h d_NB_move_31 rfl ⟨_, _, _, rfl, Or.inl ⟨rfl, rfl, rfl, rfl⟩, ⟨t3_0, t3_1, t3_2, t3_3, t3_4, t3_5, t3_6, ⟨_, t3_7⟩, ⟨_, t3_8⟩, ⟨_, t3_9⟩, ⟨_, b10, z10, t3_10⟩, ⟨_, b11, t3_11⟩, t3_12, t3_13, ⟨_, t3_14⟩, ⟨_, t3_15⟩, ⟨_, t3_16⟩, ⟨_, t3_17⟩, t3_18, t3_19, ⟨_, t3_20⟩, ⟨_, t3_21⟩, ⟨_, t3_22⟩, ⟨_, t3_23⟩, ⟨_, t3_24⟩, ⟨_, t3_25⟩, ⟨_, t3_26⟩, ⟨_, t3_27⟩, ⟨_, t3_28⟩, ⟨_, t3_29⟩, ⟨_, t3_30⟩, ⟨_, t3_31⟩, ⟨_, t3_32⟩, ⟨_, t3_33⟩, ⟨_, b34, t3_34⟩, t3_35, ⟨_, b36, t3_36⟩, Bf_lt hB (fil_lt (hB 4) (hB 3)) 3, hol, hol⟩, (fun j hj => by rw [o3, va_up_ne _ _ (by omega), o2, va_up_ne _ _ (by omega), o1, va_up_ne _ _ (by omega)])⟩
theorem or_xor0 (a b c : Int32) : a ||| (b ^^^ c) = 0 ↔ a = 0 ∧ b = c := by
  constructor
  · intro h
    have h := congrArg Int32.toBitVec h
    rw [Int32.toBitVec_or, Int32.toBitVec_xor] at h
    have h2 := BitVec.or_eq_zero_iff.mp h
    refine ⟨Int32.toBitVec_inj.mp h2.1, Int32.toBitVec_inj.mp ?_⟩
    exact BitVec.xor_eq_zero_iff.mp h2.2
  · rintro ⟨rfl, rfl⟩
    apply Int32.toBitVec_inj.mp
    rw [Int32.toBitVec_or, Int32.toBitVec_xor, BitVec.xor_self]
    rfl
theorem sb_inj {a b : Nat} (ha : a < 256) (hb : b < 256) : sb_b a = sb_b b ↔ a = b := by
  constructor
  · intro h
    have h1 := (sb_byte a ha).1
    rw [h, (sb_byte b hb).1] at h1
    exact ((nI_eq (by omega) (by omega)).mp h1).symm
  · exact fun h => by rw [h]
theorem d_NB_textBeginsAsWork_0 : decode c_NB_textBeginsAsWork 0 = .ok (.iconst 0, 1) := by decide +kernel
theorem d_NB_textBeginsAsWork_1 : decode c_NB_textBeginsAsWork 1 = .ok (.istore_n 1, 1) := by decide +kernel
theorem d_NB_textBeginsAsWork_2 : decode c_NB_textBeginsAsWork 2 = .ok (.iconst 0, 1) := by decide +kernel
theorem d_NB_textBeginsAsWork_3 : decode c_NB_textBeginsAsWork 3 = .ok (.istore_n 2, 1) := by decide +kernel
theorem d_NB_textBeginsAsWork_4 : decode c_NB_textBeginsAsWork 4 = .ok (.iload_n 2, 1) := by decide +kernel
theorem d_NB_textBeginsAsWork_5 : decode c_NB_textBeginsAsWork 5 = .ok (.bipush 16, 2) := by decide +kernel
theorem d_NB_textBeginsAsWork_7 : decode c_NB_textBeginsAsWork 7 = .ok (.if_icmp .ge 25, 3) := by decide +kernel
theorem d_NB_textBeginsAsWork_10 : decode c_NB_textBeginsAsWork 10 = .ok (.iload_n 1, 1) := by decide +kernel
theorem d_NB_textBeginsAsWork_11 : decode c_NB_textBeginsAsWork 11 = .ok (.aload_n 0, 1) := by decide +kernel
theorem d_NB_textBeginsAsWork_12 : decode c_NB_textBeginsAsWork 12 = .ok (.getfield 19, 3) := by decide +kernel
theorem d_NB_textBeginsAsWork_15 : decode c_NB_textBeginsAsWork 15 = .ok (.iload_n 2, 1) := by decide +kernel
theorem d_NB_textBeginsAsWork_16 : decode c_NB_textBeginsAsWork 16 = .ok (.baload, 1) := by decide +kernel
theorem d_NB_textBeginsAsWork_17 : decode c_NB_textBeginsAsWork 17 = .ok (.aload_n 0, 1) := by decide +kernel
theorem d_NB_textBeginsAsWork_18 : decode c_NB_textBeginsAsWork 18 = .ok (.getfield 59, 3) := by decide +kernel
theorem d_NB_textBeginsAsWork_21 : decode c_NB_textBeginsAsWork 21 = .ok (.iload_n 2, 1) := by decide +kernel
theorem d_NB_textBeginsAsWork_22 : decode c_NB_textBeginsAsWork 22 = .ok (.baload, 1) := by decide +kernel
theorem d_NB_textBeginsAsWork_23 : decode c_NB_textBeginsAsWork 23 = .ok (.ixor, 1) := by decide +kernel
theorem d_NB_textBeginsAsWork_24 : decode c_NB_textBeginsAsWork 24 = .ok (.ior, 1) := by decide +kernel
theorem d_NB_textBeginsAsWork_25 : decode c_NB_textBeginsAsWork 25 = .ok (.istore_n 1, 1) := by decide +kernel
theorem d_NB_textBeginsAsWork_26 : decode c_NB_textBeginsAsWork 26 = .ok (.iinc 2 1, 3) := by decide +kernel
theorem d_NB_textBeginsAsWork_29 : decode c_NB_textBeginsAsWork 29 = .ok (.goto (-25), 3) := by decide +kernel
theorem d_NB_textBeginsAsWork_32 : decode c_NB_textBeginsAsWork 32 = .ok (.iload_n 1, 1) := by decide +kernel
theorem d_NB_textBeginsAsWork_33 : decode c_NB_textBeginsAsWork 33 = .ok (.ifCond .ne 7, 3) := by decide +kernel
theorem d_NB_textBeginsAsWork_36 : decode c_NB_textBeginsAsWork 36 = .ok (.iconst 1, 1) := by decide +kernel
theorem d_NB_textBeginsAsWork_37 : decode c_NB_textBeginsAsWork 37 = .ok (.goto 4, 3) := by decide +kernel
theorem d_NB_textBeginsAsWork_40 : decode c_NB_textBeginsAsWork 40 = .ok (.iconst 0, 1) := by decide +kernel
theorem d_NB_textBeginsAsWork_41 : decode c_NB_textBeginsAsWork 41 = .ok (.ireturn, 1) := by decide +kernel
set_option maxRecDepth 100000 in
set_option maxHeartbeats 4000000 in
/-- has TEXT the tag in front -/
theorem m_NB_textBeginsAsWork (l : Launch) (G : wG) (A : Nat → Prop) (ad : Nat → Nat) (ev : Nat → va_E) (tl ol : Nat) (T X : Nat → Nat) (g0 : ev 0 = eO 4 [.ref (ad 1), .ref (ad 2), .ref (ad 3), .ref (ad 4), .ref (ad 5), .int (nI tl), .int (nI ol), .ref (ad 6), .ref (ad 12), .ref (ad 18), .ref (ad 34), .ref (ad 35), .ref (ad 36)]) (g4 : ev 4 = eB G 112 (bs T)) (g36 : ev 36 = eB G 112 (bs X)) (hT : ∀ j, T j < 256) (hX : ∀ j, X j < 256) : wM l y_NB_textBeginsAsWork w_NB_textBeginsAsWork ({ frames := 0, cells := 0, slots := 0, locals := 0 }) G A 52 ad ev [.ref (ad 0)] (fun ov ev' => ∃ ans : Int32, ov = some (.int ans) ∧ ev' = ev ∧ ((ans = nI 1 ∧ ∀ j, j < 16 → T j = X j) ∨ (ans = nI 0 ∧ ¬ ∀ j, j < 16 → T j = X j))) := by
  refine wv_ofW (cc := c_NB_textBeginsAsWork) (maxL := 3) (ret := (Option.some FieldType.boolean)) (by decide) rfl (Nat.le_of_ble_eq_true rfl) ?_
  intro p e s m below meth c ls hx hb hr hml hts hown hlocks hini h hl
  have hl : lv_has ls 3 [(0, .ref (ad 0))] := hl
  refine lv_iconst (v := nI (0)) hx hb d_NB_textBeginsAsWork_0 (by decide) ?_
  refine lv_istore_n (lv' := [(1, .int (nI (0))), (0, .ref (ad 0))]) hx hb d_NB_textBeginsAsWork_1 rfl hl (by decide) rfl (fun ls hl => ?_)
  refine lv_iconst (v := nI (0)) hx hb d_NB_textBeginsAsWork_2 (by decide) ?_
  refine lv_istore_n (lv' := [(2, .int (nI (0))), (1, .int (nI (0))), (0, .ref (ad 0))]) hx hb d_NB_textBeginsAsWork_3 rfl hl (by decide) rfl (fun ls hl => ?_)
  have loop : ∀ (d k : Nat), k + d = 16 → ∀ (dv : Int32) (ls : Array Slot), (dv = 0 ↔ ∀ j, j < k → T j = X j) → lv_has ls 3 [(2, .int (nI k)), (1, .int dv), (0, .ref (ad 0))] → W p l e ({ frames := 0, cells := 0, slots := 0, locals := 0 }) s m ([.ref (ad 0)] : List Value).toArray below meth c s.heap [] 0 0 (MQ below (wQc G A 52 ad (fun ov ev' => ∃ ans : Int32, ov = some (.int ans) ∧ ev' = ev ∧ ((ans = nI 1 ∧ ∀ j, j < 16 → T j = X j) ∨ (ans = nI 0 ∧ ¬ ∀ j, j < 16 → T j = X j)))) ([.ref (ad 0)] : List Value).toArray s 0 0 A) (F0 m 4 ls []) := by
    intro d
    induction d with
    | zero =>
      intro k hk dv ls hd hl
      refine lv_iload_n hx hb d_NB_textBeginsAsWork_4 rfl (lv_at hl 0 rfl) ?_
      refine lv_bipush (v := nI (16)) hx hb d_NB_textBeginsAsWork_5 (by decide) ?_
      refine lv_icmp_ge (tgt := 32) hx hb d_NB_textBeginsAsWork_7 (by decide) (fun _ => ?_) (fun hc => absurd ((nI_leI (by omega) (by omega)).mpr (by omega)) hc)
      rw [show k = 16 by omega] at hd
      refine lv_iload_n hx hb d_NB_textBeginsAsWork_32 rfl (lv_at hl 1 rfl) ?_
      refine lv_if_ne (tgt := 40) hx hb d_NB_textBeginsAsWork_33 (by decide) (fun hc => ?_) (fun hc => ?_)
      · skip
        refine lv_iconst (v := nI (0)) hx hb d_NB_textBeginsAsWork_40 (by decide) ?_
        exact wv_zret hx hb hr hlocks h d_NB_textBeginsAsWork_41 rfl ⟨_, rfl, rfl, Or.inr ⟨rfl, fun q => hc (hd.mpr q)⟩⟩
      · skip
        refine lv_iconst (v := nI (1)) hx hb d_NB_textBeginsAsWork_36 (by decide) ?_
        refine lv_goto (tgt := 41) hx hb d_NB_textBeginsAsWork_37 (by decide) ?_
        exact wv_zret hx hb hr hlocks h d_NB_textBeginsAsWork_41 rfl ⟨_, rfl, rfl, Or.inl ⟨rfl, hd.mp hc⟩⟩
    | succ d ih =>
      intro k hk dv ls hd hl
      refine lv_iload_n hx hb d_NB_textBeginsAsWork_4 rfl (lv_at hl 0 rfl) ?_
      refine lv_bipush (v := nI (16)) hx hb d_NB_textBeginsAsWork_5 (by decide) ?_
      refine lv_icmp_ge (tgt := 32) hx hb d_NB_textBeginsAsWork_7 (by decide) (fun hc => absurd ((nI_leI (by omega) (by omega)).mp hc) (by omega)) (fun _ => ?_)
      refine lv_iload_n hx hb d_NB_textBeginsAsWork_10 rfl (lv_at hl 1 rfl) ?_
      refine lv_aload_n hx hb d_NB_textBeginsAsWork_11 rfl (lv_at hl 2 rfl) ?_
      refine wv_getf hx hb h 0 (by decide) (fs := [.ref (ad 1), .ref (ad 2), .ref (ad 3), .ref (ad 4), .ref (ad 5), .int (nI (tl)), .int (nI (ol)), .ref (ad 6), .ref (ad 12), .ref (ad 18), .ref (ad 34), .ref (ad 35), .ref (ad 36)]) g0 hts (fun w hw => List.mem_cons_of_mem _ (fW_NB w hw)) hown (ci := 4) (C := "NonceBox") (T := fT_NB) (N := 13) rfl 3 (by decide) (hts _ (List.mem_cons_of_mem _ kf_NB_19)) rfl (v := .ref (ad 4)) rfl d_NB_textBeginsAsWork_12 ?_
      refine lv_iload_n hx hb d_NB_textBeginsAsWork_15 rfl (lv_at hl 0 rfl) ?_
      refine wv_bald hx hb h 4 (by decide) (f := (bs T)) g4 (k := k) rfl (by omega) (by decide) d_NB_textBeginsAsWork_16 ?_
      refine lv_aload_n hx hb d_NB_textBeginsAsWork_17 rfl (lv_at hl 2 rfl) ?_
      refine wv_getf hx hb h 0 (by decide) (fs := [.ref (ad 1), .ref (ad 2), .ref (ad 3), .ref (ad 4), .ref (ad 5), .int (nI (tl)), .int (nI (ol)), .ref (ad 6), .ref (ad 12), .ref (ad 18), .ref (ad 34), .ref (ad 35), .ref (ad 36)]) g0 hts (fun w hw => List.mem_cons_of_mem _ (fW_NB w hw)) hown (ci := 4) (C := "NonceBox") (T := fT_NB) (N := 13) rfl 12 (by decide) (hts _ (List.mem_cons_of_mem _ kf_NB_59)) rfl (v := .ref (ad 36)) rfl d_NB_textBeginsAsWork_18 ?_
      refine lv_iload_n hx hb d_NB_textBeginsAsWork_21 rfl (lv_at hl 0 rfl) ?_
      refine wv_bald hx hb h 36 (by decide) (f := (bs X)) g36 (k := k) rfl (by omega) (by decide) d_NB_textBeginsAsWork_22 ?_
      refine lv_ixor hx hb d_NB_textBeginsAsWork_23 ?_
      refine lv_ior hx hb d_NB_textBeginsAsWork_24 ?_
      refine lv_topi (fun dw edw => ?_)
      refine lv_istore_n (lv' := [(1, .int (dw)), (2, .int (nI (k))), (0, .ref (ad 0))]) hx hb d_NB_textBeginsAsWork_25 rfl hl (by decide) rfl (fun ls hl => ?_)
      refine lv_iinc (v := nI (k + 1)) (lv' := [(2, .int (nI (k + 1))), (1, .int (dw)), (0, .ref (ad 0))]) hx hb d_NB_textBeginsAsWork_26 hl (k := 1) rfl (nI_add _ _) (by decide) rfl (fun ls hl => ?_)
      refine lv_goto (tgt := 4) hx hb d_NB_textBeginsAsWork_29 (by decide) ?_
      refine ih (k + 1) (by omega) dw ls ?_ (lv_sub hl [0, 1, 2] rfl)
      rw [edw, or_xor0, hd]
      show _ ∧ sb_b (T k) = sb_b (X k) ↔ _
      rw [sb_inj (hT k) (hX k)]
      constructor
      · rintro ⟨h1, h2⟩ j hj
        rcases Nat.lt_or_ge j k with c | c
        · exact h1 j c
        · rw [show j = k by omega]; exact h2
      · exact fun h1 => ⟨fun j hj => h1 j (by omega), h1 k (by omega)⟩
  exact loop 16 0 rfl (nI 0) ls ⟨fun _ j hj => absurd hj (by omega), fun _ => rfl⟩ (lv_sub hl [0, 1, 2] rfl)
