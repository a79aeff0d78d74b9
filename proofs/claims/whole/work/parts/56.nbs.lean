/-- SEALED's bytes: the tag, and behind it what the stream hid -/
def HIDB (S N T : Nat → Nat) : Nat → Nat := fun i => T i ^^^ STRB S N (32 + i)
def SEALB (S N T : Nat → Nat) (n : Nat) : Nat → Nat := fun j => if j < 16 then TAGM (STRB S N) (HIDB S N T) 0 n j else HIDB S N T (j - 16)
theorem HIDB_lt (S N : Nat → Nat) {T : Nat → Nat} (hT : ∀ j, T j < 256) (i : Nat) : HIDB S N T i < 256 := xor_lt256 (hT i) (STRB_lt _ _ _)
theorem SEALB_lt (S N : Nat → Nat) {T : Nat → Nat} (hT : ∀ j, T j < 256) (n j : Nat) : SEALB S N T n j < 256 := by
  unfold SEALB
  by_cases h : j < 16
  · rw [if_pos h]; exact TAGM_lt _ _ _ _ _
  · rw [if_neg h]; exact HIDB_lt _ _ hT _
/-- what comes out of TEXT, behind the tag -/
def OPNB (S N T : Nat → Nat) : Nat → Nat := fun i => T (16 + i) ^^^ STRB S N (32 + i)
theorem OPNB_lt (S N : Nat → Nat) {T : Nat → Nat} (hT : ∀ j, T j < 256) (i : Nat) : OPNB S N T i < 256 := xor_lt256 (hT _) (STRB_lt _ _ _)
def tagOK (S N T : Nat → Nat) (n : Nat) : Prop := ∀ j, j < 16 → T j = TAGM (STRB S N) T 16 n j
theorem d_NB_sealBy_0 : decode c_NB_sealBy 0 = .ok (.aload_n 0, 1) := by decide +kernel
theorem d_NB_sealBy_1 : decode c_NB_sealBy 1 = .ok (.getfield 25, 3) := by decide +kernel
theorem d_NB_sealBy_4 : decode c_NB_sealBy 4 = .ok (.istore_n 2, 1) := by decide +kernel
theorem d_NB_sealBy_5 : decode c_NB_sealBy 5 = .ok (.aload_n 0, 1) := by decide +kernel
theorem d_NB_sealBy_6 : decode c_NB_sealBy 6 = .ok (.getfield 35, 3) := by decide +kernel
theorem d_NB_sealBy_9 : decode c_NB_sealBy 9 = .ok (.aload_n 1, 1) := by decide +kernel
theorem d_NB_sealBy_10 : decode c_NB_sealBy 10 = .ok (.aload_n 0, 1) := by decide +kernel
theorem d_NB_sealBy_11 : decode c_NB_sealBy 11 = .ok (.getfield 13, 3) := by decide +kernel
theorem d_NB_sealBy_14 : decode c_NB_sealBy 14 = .ok (.bipush 32, 2) := by decide +kernel
theorem d_NB_sealBy_16 : decode c_NB_sealBy 16 = .ok (.iload_n 2, 1) := by decide +kernel
theorem d_NB_sealBy_17 : decode c_NB_sealBy 17 = .ok (.iadd, 1) := by decide +kernel
theorem d_NB_sealBy_18 : decode c_NB_sealBy 18 = .ok (.invokevirtual 84, 3) := by decide +kernel
theorem d_NB_sealBy_21 : decode c_NB_sealBy 21 = .ok (.astore_n 3, 1) := by decide +kernel
theorem d_NB_sealBy_22 : decode c_NB_sealBy 22 = .ok (.iconst 0, 1) := by decide +kernel
theorem d_NB_sealBy_23 : decode c_NB_sealBy 23 = .ok (.istore 4, 2) := by decide +kernel
theorem d_NB_sealBy_25 : decode c_NB_sealBy 25 = .ok (.iload 4, 2) := by decide +kernel
theorem d_NB_sealBy_27 : decode c_NB_sealBy 27 = .ok (.iload_n 2, 1) := by decide +kernel
theorem d_NB_sealBy_28 : decode c_NB_sealBy 28 = .ok (.if_icmp .ge 35, 3) := by decide +kernel
theorem d_NB_sealBy_31 : decode c_NB_sealBy 31 = .ok (.aload_n 0, 1) := by decide +kernel
theorem d_NB_sealBy_32 : decode c_NB_sealBy 32 = .ok (.getfield 59, 3) := by decide +kernel
theorem d_NB_sealBy_35 : decode c_NB_sealBy 35 = .ok (.bipush 16, 2) := by decide +kernel
theorem d_NB_sealBy_37 : decode c_NB_sealBy 37 = .ok (.iload 4, 2) := by decide +kernel
theorem d_NB_sealBy_39 : decode c_NB_sealBy 39 = .ok (.iadd, 1) := by decide +kernel
theorem d_NB_sealBy_40 : decode c_NB_sealBy 40 = .ok (.aload_n 0, 1) := by decide +kernel
theorem d_NB_sealBy_41 : decode c_NB_sealBy 41 = .ok (.getfield 19, 3) := by decide +kernel
theorem d_NB_sealBy_44 : decode c_NB_sealBy 44 = .ok (.iload 4, 2) := by decide +kernel
theorem d_NB_sealBy_46 : decode c_NB_sealBy 46 = .ok (.baload, 1) := by decide +kernel
theorem d_NB_sealBy_47 : decode c_NB_sealBy 47 = .ok (.aload_n 3, 1) := by decide +kernel
theorem d_NB_sealBy_48 : decode c_NB_sealBy 48 = .ok (.bipush 32, 2) := by decide +kernel
theorem d_NB_sealBy_50 : decode c_NB_sealBy 50 = .ok (.iload 4, 2) := by decide +kernel
theorem d_NB_sealBy_52 : decode c_NB_sealBy 52 = .ok (.iadd, 1) := by decide +kernel
theorem d_NB_sealBy_53 : decode c_NB_sealBy 53 = .ok (.baload, 1) := by decide +kernel
theorem d_NB_sealBy_54 : decode c_NB_sealBy 54 = .ok (.ixor, 1) := by decide +kernel
theorem d_NB_sealBy_55 : decode c_NB_sealBy 55 = .ok (.i2b, 1) := by decide +kernel
theorem d_NB_sealBy_56 : decode c_NB_sealBy 56 = .ok (.bastore, 1) := by decide +kernel
theorem d_NB_sealBy_57 : decode c_NB_sealBy 57 = .ok (.iinc 4 1, 3) := by decide +kernel
theorem d_NB_sealBy_60 : decode c_NB_sealBy 60 = .ok (.goto (-35), 3) := by decide +kernel
theorem d_NB_sealBy_63 : decode c_NB_sealBy 63 = .ok (.aload_n 0, 1) := by decide +kernel
theorem d_NB_sealBy_64 : decode c_NB_sealBy 64 = .ok (.getfield 42, 3) := by decide +kernel
theorem d_NB_sealBy_67 : decode c_NB_sealBy 67 = .ok (.aload_n 3, 1) := by decide +kernel
theorem d_NB_sealBy_68 : decode c_NB_sealBy 68 = .ok (.aload_n 0, 1) := by decide +kernel
theorem d_NB_sealBy_69 : decode c_NB_sealBy 69 = .ok (.getfield 59, 3) := by decide +kernel
theorem d_NB_sealBy_72 : decode c_NB_sealBy 72 = .ok (.bipush 16, 2) := by decide +kernel
theorem d_NB_sealBy_74 : decode c_NB_sealBy 74 = .ok (.iload_n 2, 1) := by decide +kernel
theorem d_NB_sealBy_75 : decode c_NB_sealBy 75 = .ok (.aload_n 0, 1) := by decide +kernel
theorem d_NB_sealBy_76 : decode c_NB_sealBy 76 = .ok (.getfield 59, 3) := by decide +kernel
theorem d_NB_sealBy_79 : decode c_NB_sealBy 79 = .ok (.invokevirtual 88, 3) := by decide +kernel
theorem d_NB_sealBy_82 : decode c_NB_sealBy 82 = .ok (.aload_n 0, 1) := by decide +kernel
theorem d_NB_sealBy_83 : decode c_NB_sealBy 83 = .ok (.bipush 16, 2) := by decide +kernel
theorem d_NB_sealBy_85 : decode c_NB_sealBy 85 = .ok (.iload_n 2, 1) := by decide +kernel
theorem d_NB_sealBy_86 : decode c_NB_sealBy 86 = .ok (.iadd, 1) := by decide +kernel
theorem d_NB_sealBy_87 : decode c_NB_sealBy 87 = .ok (.invokevirtual 80, 3) := by decide +kernel
theorem d_NB_sealBy_90 : decode c_NB_sealBy 90 = .ok (.return_, 1) := by decide +kernel
set_option maxRecDepth 100000 in
set_option maxHeartbeats 4000000 in
/-- SEALED into OUT -/
theorem m_NB_sealBy (l : Launch) (G : wG) (A : Nat → Prop) (ad : Nat → Nat) (ev : Nat → va_E) (Bf : Nat → Nat → Nat) (tl ol : Nat) (hNB : NB G ad ev Bf tl ol) (h96 : tl ≤ 96) (qs : Nat) (S : Nat → Nat) (hqs : qs = 1 ∨ qs = 34) (hs : ev qs = eB G 32 (bs S)) (hS : ∀ j, S j < 256) : wM l y_NB_sealBy w_NB_sealBy ({ frames := 24, cells := 0, slots := 0, locals := 800 }) G A 52 ad ev [.ref (ad 0), .ref (ad qs)] (fun ov ev' => ov = none ∧ NB G ad ev' (va_up Bf 4 (outF (16 + tl) (SEALB S (Bf 1) (Bf 3) tl))) tl (16 + tl) ∧ ∀ j, 37 ≤ j → ev' j = ev j) := by
  refine wv_ofW (cc := c_NB_sealBy) (maxL := 5) (ret := none) (by decide) rfl (Nat.le_of_ble_eq_true rfl) ?_
  intro p e s m below meth c ls hx hb hr hml hts hown hlocks hini h hl
  have hl : lv_has ls 5 [(0, .ref (ad 0)), (1, .ref (ad qs))] := hl
  obtain ⟨g0, g1, g2, g3, g4, g5, g6, ⟨x7, g7⟩, ⟨x8, g8⟩, ⟨x9, g9⟩, ⟨x10, b10, z10, g10⟩, ⟨x11, b11, g11⟩, g12, g13, ⟨x14, g14⟩, ⟨x15, g15⟩, ⟨x16, g16⟩, ⟨x17, g17⟩, g18, g19, ⟨x20, g20⟩, ⟨x21, g21⟩, ⟨x22, g22⟩, ⟨x23, g23⟩, ⟨x24, g24⟩, ⟨x25, g25⟩, ⟨x26, g26⟩, ⟨x27, g27⟩, ⟨x28, g28⟩, ⟨x29, g29⟩, ⟨x30, g30⟩, ⟨x31, g31⟩, ⟨x32, g32⟩, ⟨x33, g33⟩, ⟨x34, b34, g34⟩, g35, ⟨x36, b36, g36⟩, hB, htl, hol⟩ := hNB
  refine lv_aload_n hx hb d_NB_sealBy_0 rfl (lv_at hl 0 rfl) ?_
  refine wv_getf hx hb h 0 (by decide) (fs := [.ref (ad 1), .ref (ad 2), .ref (ad 3), .ref (ad 4), .ref (ad 5), .int (nI (tl)), .int (nI (ol)), .ref (ad 6), .ref (ad 12), .ref (ad 18), .ref (ad 34), .ref (ad 35), .ref (ad 36)]) g0 hts (fun w hw => List.mem_cons_of_mem _ (fW_NB w hw)) hown (ci := 4) (C := "NonceBox") (T := fT_NB) (N := 13) rfl 5 (by decide) (hts _ (List.mem_cons_of_mem _ kf_NB_25)) rfl (v := .int (nI (tl))) rfl d_NB_sealBy_1 ?_
  refine lv_istore_n (lv' := [(2, .int (nI (tl))), (0, .ref (ad 0)), (1, .ref (ad qs))]) hx hb d_NB_sealBy_4 rfl hl (by decide) rfl (fun ls hl => ?_)
  refine lv_aload_n hx hb d_NB_sealBy_5 rfl (lv_at hl 1 rfl) ?_
  refine wv_getf hx hb h 0 (by decide) (fs := [.ref (ad 1), .ref (ad 2), .ref (ad 3), .ref (ad 4), .ref (ad 5), .int (nI (tl)), .int (nI (ol)), .ref (ad 6), .ref (ad 12), .ref (ad 18), .ref (ad 34), .ref (ad 35), .ref (ad 36)]) g0 hts (fun w hw => List.mem_cons_of_mem _ (fW_NB w hw)) hown (ci := 4) (C := "NonceBox") (T := fT_NB) (N := 13) rfl 7 (by decide) (hts _ (List.mem_cons_of_mem _ kf_NB_35)) rfl (v := .ref (ad 6)) rfl d_NB_sealBy_6 ?_
  refine lv_aload_n hx hb d_NB_sealBy_9 rfl (lv_at hl 2 rfl) ?_
  refine lv_aload_n hx hb d_NB_sealBy_10 rfl (lv_at hl 1 rfl) ?_
  refine wv_getf hx hb h 0 (by decide) (fs := [.ref (ad 1), .ref (ad 2), .ref (ad 3), .ref (ad 4), .ref (ad 5), .int (nI (tl)), .int (nI (ol)), .ref (ad 6), .ref (ad 12), .ref (ad 18), .ref (ad 34), .ref (ad 35), .ref (ad 36)]) g0 hts (fun w hw => List.mem_cons_of_mem _ (fW_NB w hw)) hown (ci := 4) (C := "NonceBox") (T := fT_NB) (N := 13) rfl 1 (by decide) (hts _ (List.mem_cons_of_mem _ kf_NB_13)) rfl (v := .ref (ad 2)) rfl d_NB_sealBy_11 ?_
  refine lv_bipush (v := nI (32)) hx hb d_NB_sealBy_14 (by decide) ?_
  refine lv_iload_n hx hb d_NB_sealBy_16 rfl (lv_at hl 0 rfl) ?_
  refine lv_iadd hx hb d_NB_sealBy_17 ?_
  refine wv_top (w := nI (32 + tl)) (nI_add _ _) ?_
  refine wv_V (As := [.ref (ad qs), .ref (ad 2), .int (nI (32 + tl))]) (rest := []) (k := 3) ⟨hx, hb, hml, hown, hts⟩ h 6 (by decide) (C := "NonceBox$Mixer") g6 rfl (m_Mx_streamOf l G A ad ev qs 2 32 24 (32 + tl) S (Bf 1) x9 x10 x11 x7 x8 (by omega) (by decide) g6 g7 g8 g9 g10 g11 hs g2 (by omega) (by decide) hS (hB 1) b10 z10 b11 (by decide) (by decide) (by omega) (by decide) (by decide)) kc_Mx_streamOf kl_NB_84 km_Mx_streamOf kv_Mx_streamOf ki_Mx (by decide +kernel) ⟨rfl, rfl, Nat.le_of_ble_eq_true rfl, Nat.le_of_ble_eq_true rfl⟩ hl.1 rfl rfl (Nat.le_of_ble_eq_true rfl) ⟨Nat.le_refl _, Nat.le_refl _⟩ d_NB_sealBy_18 ?_
  intro ov ev1 H locs hp h
  obtain ⟨f7, f8, vv, S2, ho, o1, hvv, hS2, hS3⟩ := hp
  rw [ho]
  refine W.eq (g2 := F0 m 21 ls [.ref (ad 11)]) rfl ?_
  have t1_7 : ev1 7 = eI G 16 f7 := by rw [o1, va_up_ne _ _ (by decide), va_up_ne _ _ (by decide), va_up_ne _ _ (by decide), va_up_ne _ _ (by decide), va_up_self]
  have t1_8 : ev1 8 = eI G 16 f8 := by rw [o1, va_up_ne _ _ (by decide), va_up_ne _ _ (by decide), va_up_ne _ _ (by decide), va_up_self]
  have t1_9 : ev1 9 = eB G 32 (bs (MIXB S (Bf 1))) := by rw [o1, va_up_ne _ _ (by decide), va_up_ne _ _ (by decide), va_up_self]
  have t1_10 : ev1 10 = eB G 16 (bs (PLC (Bf 1) vv)) := by rw [o1, va_up_ne _ _ (by decide), va_up_self]
  have t1_11 : ev1 11 = eB G 128 (bs S2) := by rw [o1, va_up_self]
  have t1_1 := (show ev1 1 = ev 1 by rw [o1, va_up_ne _ _ (by decide), va_up_ne _ _ (by decide), va_up_ne _ _ (by decide), va_up_ne _ _ (by decide), va_up_ne _ _ (by decide)]).trans g1
  have t1_2 := (show ev1 2 = ev 2 by rw [o1, va_up_ne _ _ (by decide), va_up_ne _ _ (by decide), va_up_ne _ _ (by decide), va_up_ne _ _ (by decide), va_up_ne _ _ (by decide)]).trans g2
  have t1_3 := (show ev1 3 = ev 3 by rw [o1, va_up_ne _ _ (by decide), va_up_ne _ _ (by decide), va_up_ne _ _ (by decide), va_up_ne _ _ (by decide), va_up_ne _ _ (by decide)]).trans g3
  have t1_4 := (show ev1 4 = ev 4 by rw [o1, va_up_ne _ _ (by decide), va_up_ne _ _ (by decide), va_up_ne _ _ (by decide), va_up_ne _ _ (by decide), va_up_ne _ _ (by decide)]).trans g4
  have t1_5 := (show ev1 5 = ev 5 by rw [o1, va_up_ne _ _ (by decide), va_up_ne _ _ (by decide), va_up_ne _ _ (by decide), va_up_ne _ _ (by decide), va_up_ne _ _ (by decide)]).trans g5
  have t1_35 := (show ev1 35 = ev 35 by rw [o1, va_up_ne _ _ (by decide), va_up_ne _ _ (by decide), va_up_ne _ _ (by decide), va_up_ne _ _ (by decide), va_up_ne _ _ (by decide)]).trans g35
  have t1_14 := (show ev1 14 = ev 14 by rw [o1, va_up_ne _ _ (by decide), va_up_ne _ _ (by decide), va_up_ne _ _ (by decide), va_up_ne _ _ (by decide), va_up_ne _ _ (by decide)]).trans g14
  have t1_15 := (show ev1 15 = ev 15 by rw [o1, va_up_ne _ _ (by decide), va_up_ne _ _ (by decide), va_up_ne _ _ (by decide), va_up_ne _ _ (by decide), va_up_ne _ _ (by decide)]).trans g15
  have t1_16 := (show ev1 16 = ev 16 by rw [o1, va_up_ne _ _ (by decide), va_up_ne _ _ (by decide), va_up_ne _ _ (by decide), va_up_ne _ _ (by decide), va_up_ne _ _ (by decide)]).trans g16
  have t1_17 := (show ev1 17 = ev 17 by rw [o1, va_up_ne _ _ (by decide), va_up_ne _ _ (by decide), va_up_ne _ _ (by decide), va_up_ne _ _ (by decide), va_up_ne _ _ (by decide)]).trans g17
  have t1_20 := (show ev1 20 = ev 20 by rw [o1, va_up_ne _ _ (by decide), va_up_ne _ _ (by decide), va_up_ne _ _ (by decide), va_up_ne _ _ (by decide), va_up_ne _ _ (by decide)]).trans g20
  have t1_21 := (show ev1 21 = ev 21 by rw [o1, va_up_ne _ _ (by decide), va_up_ne _ _ (by decide), va_up_ne _ _ (by decide), va_up_ne _ _ (by decide), va_up_ne _ _ (by decide)]).trans g21
  have t1_34 := (show ev1 34 = ev 34 by rw [o1, va_up_ne _ _ (by decide), va_up_ne _ _ (by decide), va_up_ne _ _ (by decide), va_up_ne _ _ (by decide), va_up_ne _ _ (by decide)]).trans g34
  have t1_36 := (show ev1 36 = ev 36 by rw [o1, va_up_ne _ _ (by decide), va_up_ne _ _ (by decide), va_up_ne _ _ (by decide), va_up_ne _ _ (by decide), va_up_ne _ _ (by decide)]).trans g36
  have t1_22 := (show ev1 22 = ev 22 by rw [o1, va_up_ne _ _ (by decide), va_up_ne _ _ (by decide), va_up_ne _ _ (by decide), va_up_ne _ _ (by decide), va_up_ne _ _ (by decide)]).trans g22
  have t1_23 := (show ev1 23 = ev 23 by rw [o1, va_up_ne _ _ (by decide), va_up_ne _ _ (by decide), va_up_ne _ _ (by decide), va_up_ne _ _ (by decide), va_up_ne _ _ (by decide)]).trans g23
  have t1_24 := (show ev1 24 = ev 24 by rw [o1, va_up_ne _ _ (by decide), va_up_ne _ _ (by decide), va_up_ne _ _ (by decide), va_up_ne _ _ (by decide), va_up_ne _ _ (by decide)]).trans g24
  have t1_25 := (show ev1 25 = ev 25 by rw [o1, va_up_ne _ _ (by decide), va_up_ne _ _ (by decide), va_up_ne _ _ (by decide), va_up_ne _ _ (by decide), va_up_ne _ _ (by decide)]).trans g25
  have t1_26 := (show ev1 26 = ev 26 by rw [o1, va_up_ne _ _ (by decide), va_up_ne _ _ (by decide), va_up_ne _ _ (by decide), va_up_ne _ _ (by decide), va_up_ne _ _ (by decide)]).trans g26
  have t1_27 := (show ev1 27 = ev 27 by rw [o1, va_up_ne _ _ (by decide), va_up_ne _ _ (by decide), va_up_ne _ _ (by decide), va_up_ne _ _ (by decide), va_up_ne _ _ (by decide)]).trans g27
  have t1_28 := (show ev1 28 = ev 28 by rw [o1, va_up_ne _ _ (by decide), va_up_ne _ _ (by decide), va_up_ne _ _ (by decide), va_up_ne _ _ (by decide), va_up_ne _ _ (by decide)]).trans g28
  have t1_29 := (show ev1 29 = ev 29 by rw [o1, va_up_ne _ _ (by decide), va_up_ne _ _ (by decide), va_up_ne _ _ (by decide), va_up_ne _ _ (by decide), va_up_ne _ _ (by decide)]).trans g29
  have t1_30 := (show ev1 30 = ev 30 by rw [o1, va_up_ne _ _ (by decide), va_up_ne _ _ (by decide), va_up_ne _ _ (by decide), va_up_ne _ _ (by decide), va_up_ne _ _ (by decide)]).trans g30
  have t1_31 := (show ev1 31 = ev 31 by rw [o1, va_up_ne _ _ (by decide), va_up_ne _ _ (by decide), va_up_ne _ _ (by decide), va_up_ne _ _ (by decide), va_up_ne _ _ (by decide)]).trans g31
  have t1_32 := (show ev1 32 = ev 32 by rw [o1, va_up_ne _ _ (by decide), va_up_ne _ _ (by decide), va_up_ne _ _ (by decide), va_up_ne _ _ (by decide), va_up_ne _ _ (by decide)]).trans g32
  have t1_33 := (show ev1 33 = ev 33 by rw [o1, va_up_ne _ _ (by decide), va_up_ne _ _ (by decide), va_up_ne _ _ (by decide), va_up_ne _ _ (by decide), va_up_ne _ _ (by decide)]).trans g33
  have t1_0 := (show ev1 0 = ev 0 by rw [o1, va_up_ne _ _ (by decide), va_up_ne _ _ (by decide), va_up_ne _ _ (by decide), va_up_ne _ _ (by decide), va_up_ne _ _ (by decide)]).trans g0
  have t1_6 := (show ev1 6 = ev 6 by rw [o1, va_up_ne _ _ (by decide), va_up_ne _ _ (by decide), va_up_ne _ _ (by decide), va_up_ne _ _ (by decide), va_up_ne _ _ (by decide)]).trans g6
  have t1_12 := (show ev1 12 = ev 12 by rw [o1, va_up_ne _ _ (by decide), va_up_ne _ _ (by decide), va_up_ne _ _ (by decide), va_up_ne _ _ (by decide), va_up_ne _ _ (by decide)]).trans g12
  have t1_13 := (show ev1 13 = ev 13 by rw [o1, va_up_ne _ _ (by decide), va_up_ne _ _ (by decide), va_up_ne _ _ (by decide), va_up_ne _ _ (by decide), va_up_ne _ _ (by decide)]).trans g13
  have t1_18 := (show ev1 18 = ev 18 by rw [o1, va_up_ne _ _ (by decide), va_up_ne _ _ (by decide), va_up_ne _ _ (by decide), va_up_ne _ _ (by decide), va_up_ne _ _ (by decide)]).trans g18
  have t1_19 := (show ev1 19 = ev 19 by rw [o1, va_up_ne _ _ (by decide), va_up_ne _ _ (by decide), va_up_ne _ _ (by decide), va_up_ne _ _ (by decide), va_up_ne _ _ (by decide)]).trans g19
  refine lv_astore_n (lv' := [(3, .ref (ad 11)), (2, .int (nI (tl))), (0, .ref (ad 0)), (1, .ref (ad qs))]) hx hb d_NB_sealBy_21 rfl hl (by decide) rfl (fun ls hl => ?_)
  refine lv_iconst (v := nI (0)) hx hb d_NB_sealBy_22 (by decide) ?_
  refine lv_istore (lv' := [(4, .int (nI (0))), (3, .ref (ad 11)), (2, .int (nI (tl))), (0, .ref (ad 0)), (1, .ref (ad qs))]) hx hb d_NB_sealBy_23 hl (by decide) rfl (fun ls hl => ?_)
  have loop2 : ∀ (d k : Nat), k + d = tl →  ∀ (ev2 : Nat → va_E) (H : Heap) (locs : List Loc) (ls : Array Slot), ev2 = (va_up ev1 36 (eB G 112 (bs (fil 16 k (fun i => Bf 3 i ^^^ S2 (32 + i)) x36)))) → wT G A 52 ad ev2 s H locs → lv_has ls 5 [(4, .int (nI (k))), (3, .ref (ad 11)), (2, .int (nI (tl))), (0, .ref (ad 0)), (1, .ref (ad qs))] → W p l e ({ frames := 24, cells := 0, slots := 0, locals := 800 }) s m ([.ref (ad 0), .ref (ad qs)] : List Value).toArray below meth c H locs 0 0 (MQ below (wQc G A 52 ad (fun ov ev' => ov = none ∧ NB G ad ev' (va_up Bf 4 (outF (16 + tl) (SEALB S (Bf 1) (Bf 3) tl))) tl (16 + tl) ∧ ∀ j, 37 ≤ j → ev' j = ev j)) ([.ref (ad 0), .ref (ad qs)] : List Value).toArray s 0 0 A) (F0 m 25 ls []) := by
    intro d
    induction d with
    | zero =>
      intro k hk_k  ev2 H locs ls  o2 h hl
      have t2_36 : ev2 36 = eB G 112 (bs (fil 16 k (fun i => Bf 3 i ^^^ S2 (32 + i)) x36)) := by rw [o2, va_up_self]
      have t2_1 := (show ev2 1 = ev1 1 by rw [o2, va_up_ne _ _ (by decide)]).trans t1_1
      have t2_2 := (show ev2 2 = ev1 2 by rw [o2, va_up_ne _ _ (by decide)]).trans t1_2
      have t2_3 := (show ev2 3 = ev1 3 by rw [o2, va_up_ne _ _ (by decide)]).trans t1_3
      have t2_4 := (show ev2 4 = ev1 4 by rw [o2, va_up_ne _ _ (by decide)]).trans t1_4
      have t2_5 := (show ev2 5 = ev1 5 by rw [o2, va_up_ne _ _ (by decide)]).trans t1_5
      have t2_35 := (show ev2 35 = ev1 35 by rw [o2, va_up_ne _ _ (by decide)]).trans t1_35
      have t2_7 := (show ev2 7 = ev1 7 by rw [o2, va_up_ne _ _ (by decide)]).trans t1_7
      have t2_8 := (show ev2 8 = ev1 8 by rw [o2, va_up_ne _ _ (by decide)]).trans t1_8
      have t2_9 := (show ev2 9 = ev1 9 by rw [o2, va_up_ne _ _ (by decide)]).trans t1_9
      have t2_10 := (show ev2 10 = ev1 10 by rw [o2, va_up_ne _ _ (by decide)]).trans t1_10
      have t2_11 := (show ev2 11 = ev1 11 by rw [o2, va_up_ne _ _ (by decide)]).trans t1_11
      have t2_14 := (show ev2 14 = ev1 14 by rw [o2, va_up_ne _ _ (by decide)]).trans t1_14
      have t2_15 := (show ev2 15 = ev1 15 by rw [o2, va_up_ne _ _ (by decide)]).trans t1_15
      have t2_16 := (show ev2 16 = ev1 16 by rw [o2, va_up_ne _ _ (by decide)]).trans t1_16
      have t2_17 := (show ev2 17 = ev1 17 by rw [o2, va_up_ne _ _ (by decide)]).trans t1_17
      have t2_20 := (show ev2 20 = ev1 20 by rw [o2, va_up_ne _ _ (by decide)]).trans t1_20
      have t2_21 := (show ev2 21 = ev1 21 by rw [o2, va_up_ne _ _ (by decide)]).trans t1_21
      have t2_34 := (show ev2 34 = ev1 34 by rw [o2, va_up_ne _ _ (by decide)]).trans t1_34
      have t2_22 := (show ev2 22 = ev1 22 by rw [o2, va_up_ne _ _ (by decide)]).trans t1_22
      have t2_23 := (show ev2 23 = ev1 23 by rw [o2, va_up_ne _ _ (by decide)]).trans t1_23
      have t2_24 := (show ev2 24 = ev1 24 by rw [o2, va_up_ne _ _ (by decide)]).trans t1_24
      have t2_25 := (show ev2 25 = ev1 25 by rw [o2, va_up_ne _ _ (by decide)]).trans t1_25
      have t2_26 := (show ev2 26 = ev1 26 by rw [o2, va_up_ne _ _ (by decide)]).trans t1_26
      have t2_27 := (show ev2 27 = ev1 27 by rw [o2, va_up_ne _ _ (by decide)]).trans t1_27
      have t2_28 := (show ev2 28 = ev1 28 by rw [o2, va_up_ne _ _ (by decide)]).trans t1_28
      have t2_29 := (show ev2 29 = ev1 29 by rw [o2, va_up_ne _ _ (by decide)]).trans t1_29
      have t2_30 := (show ev2 30 = ev1 30 by rw [o2, va_up_ne _ _ (by decide)]).trans t1_30
      have t2_31 := (show ev2 31 = ev1 31 by rw [o2, va_up_ne _ _ (by decide)]).trans t1_31
      have t2_32 := (show ev2 32 = ev1 32 by rw [o2, va_up_ne _ _ (by decide)]).trans t1_32
      have t2_33 := (show ev2 33 = ev1 33 by rw [o2, va_up_ne _ _ (by decide)]).trans t1_33
      have t2_0 := (show ev2 0 = ev1 0 by rw [o2, va_up_ne _ _ (by decide)]).trans t1_0
      have t2_6 := (show ev2 6 = ev1 6 by rw [o2, va_up_ne _ _ (by decide)]).trans t1_6
      have t2_12 := (show ev2 12 = ev1 12 by rw [o2, va_up_ne _ _ (by decide)]).trans t1_12
      have t2_13 := (show ev2 13 = ev1 13 by rw [o2, va_up_ne _ _ (by decide)]).trans t1_13
      have t2_18 := (show ev2 18 = ev1 18 by rw [o2, va_up_ne _ _ (by decide)]).trans t1_18
      have t2_19 := (show ev2 19 = ev1 19 by rw [o2, va_up_ne _ _ (by decide)]).trans t1_19
      refine lv_iload hx hb d_NB_sealBy_25 (lv_at hl 0 rfl) ?_
      refine lv_iload_n hx hb d_NB_sealBy_27 rfl (lv_at hl 2 rfl) ?_
      refine lv_icmp_ge (tgt := 63) hx hb d_NB_sealBy_28 (by decide) (fun _ => ?_) (fun hc => absurd ((nI_leI (by omega) (by omega)).mpr (by omega)) hc)
      obtain rfl : k = tl := by omega
      have hW1 : ∀ j, (fil 16 k (fun i => Bf 3 i ^^^ S2 (32 + i)) x36) j < 256 := fil_lt (fun j => xor_lt256 (hB 3 _) (hS2 _)) b36
      refine lv_aload_n hx hb d_NB_sealBy_63 rfl (lv_at hl 3 rfl) ?_
      refine wv_getf hx hb h 0 (by decide) (fs := [.ref (ad 1), .ref (ad 2), .ref (ad 3), .ref (ad 4), .ref (ad 5), .int (nI (k)), .int (nI (ol)), .ref (ad 6), .ref (ad 12), .ref (ad 18), .ref (ad 34), .ref (ad 35), .ref (ad 36)]) t2_0 hts (fun w hw => List.mem_cons_of_mem _ (fW_NB w hw)) hown (ci := 4) (C := "NonceBox") (T := fT_NB) (N := 13) rfl 8 (by decide) (hts _ (List.mem_cons_of_mem _ kf_NB_42)) rfl (v := .ref (ad 12)) rfl d_NB_sealBy_64 ?_
      refine lv_aload_n hx hb d_NB_sealBy_67 rfl (lv_at hl 1 rfl) ?_
      refine lv_aload_n hx hb d_NB_sealBy_68 rfl (lv_at hl 3 rfl) ?_
      refine wv_getf hx hb h 0 (by decide) (fs := [.ref (ad 1), .ref (ad 2), .ref (ad 3), .ref (ad 4), .ref (ad 5), .int (nI (k)), .int (nI (ol)), .ref (ad 6), .ref (ad 12), .ref (ad 18), .ref (ad 34), .ref (ad 35), .ref (ad 36)]) t2_0 hts (fun w hw => List.mem_cons_of_mem _ (fW_NB w hw)) hown (ci := 4) (C := "NonceBox") (T := fT_NB) (N := 13) rfl 12 (by decide) (hts _ (List.mem_cons_of_mem _ kf_NB_59)) rfl (v := .ref (ad 36)) rfl d_NB_sealBy_69 ?_
      refine lv_bipush (v := nI (16)) hx hb d_NB_sealBy_72 (by decide) ?_
      refine lv_iload_n hx hb d_NB_sealBy_74 rfl (lv_at hl 2 rfl) ?_
      refine lv_aload_n hx hb d_NB_sealBy_75 rfl (lv_at hl 3 rfl) ?_
      refine wv_getf hx hb h 0 (by decide) (fs := [.ref (ad 1), .ref (ad 2), .ref (ad 3), .ref (ad 4), .ref (ad 5), .int (nI (k)), .int (nI (ol)), .ref (ad 6), .ref (ad 12), .ref (ad 18), .ref (ad 34), .ref (ad 35), .ref (ad 36)]) t2_0 hts (fun w hw => List.mem_cons_of_mem _ (fW_NB w hw)) hown (ci := 4) (C := "NonceBox") (T := fT_NB) (N := 13) rfl 12 (by decide) (hts _ (List.mem_cons_of_mem _ kf_NB_59)) rfl (v := .ref (ad 36)) rfl d_NB_sealBy_76 ?_
      refine wv_V (As := [.ref (ad 11), .ref (ad 36), .int (nI (16)), .int (nI (k)), .ref (ad 36)]) (rest := []) (k := 5) ⟨hx, hb, hml, hown, hts⟩ h 12 (by decide) (C := "NonceBox$Tagger") t2_12 rfl (m_Tg_tagInto l G A ad ev2 11 36 36 128 112 112 16 k S2 (fil 16 k (fun i => Bf 3 i ^^^ S2 (32 + i)) x36) (fil 16 k (fun i => Bf 3 i ^^^ S2 (32 + i)) x36) x17 x14 x15 x16 t2_12 t2_13 (by decide) (by decide) (by decide) t2_11 t2_36 t2_36 hS2 hW1 t2_14 t2_15 t2_16 t2_17 (by decide) (by decide) (by omega) (by decide) (by decide) (by decide) (by decide) (by decide) (by decide)) kc_Tg_tagInto kl_NB_88 km_Tg_tagInto kv_Tg_tagInto ki_Tg (by decide +kernel) ⟨rfl, rfl, Nat.le_of_ble_eq_true rfl, Nat.le_of_ble_eq_true rfl⟩ hl.1 rfl rfl (Nat.le_of_ble_eq_true rfl) ⟨Nat.le_refl _, Nat.le_refl _⟩ d_NB_sealBy_79 ?_
      intro ov ev3 H locs hp h
      obtain ⟨Wd, hp⟩ := hp
      rw [hp.1]
      refine W.eq (g2 := F0 m 82 ls []) rfl ?_
      have o3 : ev3 = (va_up (va_up (va_up (va_up (va_up ev2 14 (eJ G 10 Wd)) 15 (eJ G 5 (tagRow S2 (fil 16 k (fun i => Bf 3 i ^^^ S2 (32 + i)) x36) 16 k))) 16 (eJ G 5 (fRow S2))) 17 (eB G 16 (bs (FCT S2)))) 36 (eB G 112 (bs (fil 0 16 (TAGB S2 (fil 16 k (fun i => Bf 3 i ^^^ S2 (32 + i)) x36) 16 k) (fil 16 k (fun i => Bf 3 i ^^^ S2 (32 + i)) x36))))) := hp.2
      have t3_14 : ev3 14 = eJ G 10 Wd := by rw [o3, va_up_ne _ _ (by decide), va_up_ne _ _ (by decide), va_up_ne _ _ (by decide), va_up_ne _ _ (by decide), va_up_self]
      have t3_15 : ev3 15 = eJ G 5 (tagRow S2 (fil 16 k (fun i => Bf 3 i ^^^ S2 (32 + i)) x36) 16 k) := by rw [o3, va_up_ne _ _ (by decide), va_up_ne _ _ (by decide), va_up_ne _ _ (by decide), va_up_self]
      have t3_16 : ev3 16 = eJ G 5 (fRow S2) := by rw [o3, va_up_ne _ _ (by decide), va_up_ne _ _ (by decide), va_up_self]
      have t3_17 : ev3 17 = eB G 16 (bs (FCT S2)) := by rw [o3, va_up_ne _ _ (by decide), va_up_self]
      have t3_36 : ev3 36 = eB G 112 (bs (fil 0 16 (TAGB S2 (fil 16 k (fun i => Bf 3 i ^^^ S2 (32 + i)) x36) 16 k) (fil 16 k (fun i => Bf 3 i ^^^ S2 (32 + i)) x36))) := by rw [o3, va_up_self]
      have t3_1 := (show ev3 1 = ev2 1 by rw [o3, va_up_ne _ _ (by decide), va_up_ne _ _ (by decide), va_up_ne _ _ (by decide), va_up_ne _ _ (by decide), va_up_ne _ _ (by decide)]).trans t2_1
      have t3_2 := (show ev3 2 = ev2 2 by rw [o3, va_up_ne _ _ (by decide), va_up_ne _ _ (by decide), va_up_ne _ _ (by decide), va_up_ne _ _ (by decide), va_up_ne _ _ (by decide)]).trans t2_2
      have t3_3 := (show ev3 3 = ev2 3 by rw [o3, va_up_ne _ _ (by decide), va_up_ne _ _ (by decide), va_up_ne _ _ (by decide), va_up_ne _ _ (by decide), va_up_ne _ _ (by decide)]).trans t2_3
      have t3_4 := (show ev3 4 = ev2 4 by rw [o3, va_up_ne _ _ (by decide), va_up_ne _ _ (by decide), va_up_ne _ _ (by decide), va_up_ne _ _ (by decide), va_up_ne _ _ (by decide)]).trans t2_4
      have t3_5 := (show ev3 5 = ev2 5 by rw [o3, va_up_ne _ _ (by decide), va_up_ne _ _ (by decide), va_up_ne _ _ (by decide), va_up_ne _ _ (by decide), va_up_ne _ _ (by decide)]).trans t2_5
      have t3_35 := (show ev3 35 = ev2 35 by rw [o3, va_up_ne _ _ (by decide), va_up_ne _ _ (by decide), va_up_ne _ _ (by decide), va_up_ne _ _ (by decide), va_up_ne _ _ (by decide)]).trans t2_35
      have t3_7 := (show ev3 7 = ev2 7 by rw [o3, va_up_ne _ _ (by decide), va_up_ne _ _ (by decide), va_up_ne _ _ (by decide), va_up_ne _ _ (by decide), va_up_ne _ _ (by decide)]).trans t2_7
      have t3_8 := (show ev3 8 = ev2 8 by rw [o3, va_up_ne _ _ (by decide), va_up_ne _ _ (by decide), va_up_ne _ _ (by decide), va_up_ne _ _ (by decide), va_up_ne _ _ (by decide)]).trans t2_8
      have t3_9 := (show ev3 9 = ev2 9 by rw [o3, va_up_ne _ _ (by decide), va_up_ne _ _ (by decide), va_up_ne _ _ (by decide), va_up_ne _ _ (by decide), va_up_ne _ _ (by decide)]).trans t2_9
      have t3_10 := (show ev3 10 = ev2 10 by rw [o3, va_up_ne _ _ (by decide), va_up_ne _ _ (by decide), va_up_ne _ _ (by decide), va_up_ne _ _ (by decide), va_up_ne _ _ (by decide)]).trans t2_10
      have t3_11 := (show ev3 11 = ev2 11 by rw [o3, va_up_ne _ _ (by decide), va_up_ne _ _ (by decide), va_up_ne _ _ (by decide), va_up_ne _ _ (by decide), va_up_ne _ _ (by decide)]).trans t2_11
      have t3_20 := (show ev3 20 = ev2 20 by rw [o3, va_up_ne _ _ (by decide), va_up_ne _ _ (by decide), va_up_ne _ _ (by decide), va_up_ne _ _ (by decide), va_up_ne _ _ (by decide)]).trans t2_20
      have t3_21 := (show ev3 21 = ev2 21 by rw [o3, va_up_ne _ _ (by decide), va_up_ne _ _ (by decide), va_up_ne _ _ (by decide), va_up_ne _ _ (by decide), va_up_ne _ _ (by decide)]).trans t2_21
      have t3_34 := (show ev3 34 = ev2 34 by rw [o3, va_up_ne _ _ (by decide), va_up_ne _ _ (by decide), va_up_ne _ _ (by decide), va_up_ne _ _ (by decide), va_up_ne _ _ (by decide)]).trans t2_34
      have t3_22 := (show ev3 22 = ev2 22 by rw [o3, va_up_ne _ _ (by decide), va_up_ne _ _ (by decide), va_up_ne _ _ (by decide), va_up_ne _ _ (by decide), va_up_ne _ _ (by decide)]).trans t2_22
      have t3_23 := (show ev3 23 = ev2 23 by rw [o3, va_up_ne _ _ (by decide), va_up_ne _ _ (by decide), va_up_ne _ _ (by decide), va_up_ne _ _ (by decide), va_up_ne _ _ (by decide)]).trans t2_23
      have t3_24 := (show ev3 24 = ev2 24 by rw [o3, va_up_ne _ _ (by decide), va_up_ne _ _ (by decide), va_up_ne _ _ (by decide), va_up_ne _ _ (by decide), va_up_ne _ _ (by decide)]).trans t2_24
      have t3_25 := (show ev3 25 = ev2 25 by rw [o3, va_up_ne _ _ (by decide), va_up_ne _ _ (by decide), va_up_ne _ _ (by decide), va_up_ne _ _ (by decide), va_up_ne _ _ (by decide)]).trans t2_25
      have t3_26 := (show ev3 26 = ev2 26 by rw [o3, va_up_ne _ _ (by decide), va_up_ne _ _ (by decide), va_up_ne _ _ (by decide), va_up_ne _ _ (by decide), va_up_ne _ _ (by decide)]).trans t2_26
      have t3_27 := (show ev3 27 = ev2 27 by rw [o3, va_up_ne _ _ (by decide), va_up_ne _ _ (by decide), va_up_ne _ _ (by decide), va_up_ne _ _ (by decide), va_up_ne _ _ (by decide)]).trans t2_27
      have t3_28 := (show ev3 28 = ev2 28 by rw [o3, va_up_ne _ _ (by decide), va_up_ne _ _ (by decide), va_up_ne _ _ (by decide), va_up_ne _ _ (by decide), va_up_ne _ _ (by decide)]).trans t2_28
      have t3_29 := (show ev3 29 = ev2 29 by rw [o3, va_up_ne _ _ (by decide), va_up_ne _ _ (by decide), va_up_ne _ _ (by decide), va_up_ne _ _ (by decide), va_up_ne _ _ (by decide)]).trans t2_29
      have t3_30 := (show ev3 30 = ev2 30 by rw [o3, va_up_ne _ _ (by decide), va_up_ne _ _ (by decide), va_up_ne _ _ (by decide), va_up_ne _ _ (by decide), va_up_ne _ _ (by decide)]).trans t2_30
      have t3_31 := (show ev3 31 = ev2 31 by rw [o3, va_up_ne _ _ (by decide), va_up_ne _ _ (by decide), va_up_ne _ _ (by decide), va_up_ne _ _ (by decide), va_up_ne _ _ (by decide)]).trans t2_31
      have t3_32 := (show ev3 32 = ev2 32 by rw [o3, va_up_ne _ _ (by decide), va_up_ne _ _ (by decide), va_up_ne _ _ (by decide), va_up_ne _ _ (by decide), va_up_ne _ _ (by decide)]).trans t2_32
      have t3_33 := (show ev3 33 = ev2 33 by rw [o3, va_up_ne _ _ (by decide), va_up_ne _ _ (by decide), va_up_ne _ _ (by decide), va_up_ne _ _ (by decide), va_up_ne _ _ (by decide)]).trans t2_33
      have t3_0 := (show ev3 0 = ev2 0 by rw [o3, va_up_ne _ _ (by decide), va_up_ne _ _ (by decide), va_up_ne _ _ (by decide), va_up_ne _ _ (by decide), va_up_ne _ _ (by decide)]).trans t2_0
      have t3_6 := (show ev3 6 = ev2 6 by rw [o3, va_up_ne _ _ (by decide), va_up_ne _ _ (by decide), va_up_ne _ _ (by decide), va_up_ne _ _ (by decide), va_up_ne _ _ (by decide)]).trans t2_6
      have t3_12 := (show ev3 12 = ev2 12 by rw [o3, va_up_ne _ _ (by decide), va_up_ne _ _ (by decide), va_up_ne _ _ (by decide), va_up_ne _ _ (by decide), va_up_ne _ _ (by decide)]).trans t2_12
      have t3_13 := (show ev3 13 = ev2 13 by rw [o3, va_up_ne _ _ (by decide), va_up_ne _ _ (by decide), va_up_ne _ _ (by decide), va_up_ne _ _ (by decide), va_up_ne _ _ (by decide)]).trans t2_13
      have t3_18 := (show ev3 18 = ev2 18 by rw [o3, va_up_ne _ _ (by decide), va_up_ne _ _ (by decide), va_up_ne _ _ (by decide), va_up_ne _ _ (by decide), va_up_ne _ _ (by decide)]).trans t2_18
      have t3_19 := (show ev3 19 = ev2 19 by rw [o3, va_up_ne _ _ (by decide), va_up_ne _ _ (by decide), va_up_ne _ _ (by decide), va_up_ne _ _ (by decide), va_up_ne _ _ (by decide)]).trans t2_19
      refine lv_aload_n hx hb d_NB_sealBy_82 rfl (lv_at hl 3 rfl) ?_
      refine lv_bipush (v := nI (16)) hx hb d_NB_sealBy_83 (by decide) ?_
      refine lv_iload_n hx hb d_NB_sealBy_85 rfl (lv_at hl 2 rfl) ?_
      refine lv_iadd hx hb d_NB_sealBy_86 ?_
      refine wv_top (w := nI (16 + k)) (nI_add _ _) ?_
      refine wv_V (As := [.int (nI (16 + k))]) (rest := []) (k := 1) ⟨hx, hb, hml, hown, hts⟩ h 0 (by decide) (C := "NonceBox") t3_0 rfl (m_NB_showWork l G A ad ev3 k ol (16 + k) (Bf 4) (fil 0 16 (TAGB S2 (fil 16 k (fun i => Bf 3 i ^^^ S2 (32 + i)) x36) 16 k) (fil 16 k (fun i => Bf 3 i ^^^ S2 (32 + i)) x36)) t3_0 t3_5 t3_36 (by omega)) kc_NB_showWork kl_NB_80 km_NB_showWork kv_NB_showWork ki_NB (by decide +kernel) ⟨rfl, rfl, Nat.le_of_ble_eq_true rfl, Nat.le_of_ble_eq_true rfl⟩ hl.1 rfl rfl (Nat.le_of_ble_eq_true rfl) ⟨Nat.le_refl _, Nat.le_refl _⟩ d_NB_sealBy_87 ?_
      intro ov ev4 H locs hp h
      rw [hp.1]
      refine W.eq (g2 := F0 m 90 ls []) rfl ?_
      have o4 : ev4 = va_up (va_up ev3 5 (eB G 112 (bs (outF (16 + k) (fil 0 16 (TAGB S2 (fil 16 k (fun i => Bf 3 i ^^^ S2 (32 + i)) x36) 16 k) (fil 16 k (fun i => Bf 3 i ^^^ S2 (32 + i)) x36)))))) 0 (eO 4 [.ref (ad 1), .ref (ad 2), .ref (ad 3), .ref (ad 4), .ref (ad 5), .int (nI k), .int (nI (16 + k)), .ref (ad 6), .ref (ad 12), .ref (ad 18), .ref (ad 34), .ref (ad 35), .ref (ad 36)]) := hp.2
      have t4_5 : ev4 5 = eB G 112 (bs (outF (16 + k) (fil 0 16 (TAGB S2 (fil 16 k (fun i => Bf 3 i ^^^ S2 (32 + i)) x36) 16 k) (fil 16 k (fun i => Bf 3 i ^^^ S2 (32 + i)) x36)))) := by rw [o4, va_up_ne _ _ (by decide), va_up_self]
      have t4_0 : ev4 0 = eO 4 [.ref (ad 1), .ref (ad 2), .ref (ad 3), .ref (ad 4), .ref (ad 5), .int (nI k), .int (nI (16 + k)), .ref (ad 6), .ref (ad 12), .ref (ad 18), .ref (ad 34), .ref (ad 35), .ref (ad 36)] := by rw [o4, va_up_self]
      have t4_1 := (show ev4 1 = ev3 1 by rw [o4, va_up_ne _ _ (by decide), va_up_ne _ _ (by decide)]).trans t3_1
      have t4_2 := (show ev4 2 = ev3 2 by rw [o4, va_up_ne _ _ (by decide), va_up_ne _ _ (by decide)]).trans t3_2
      have t4_3 := (show ev4 3 = ev3 3 by rw [o4, va_up_ne _ _ (by decide), va_up_ne _ _ (by decide)]).trans t3_3
      have t4_4 := (show ev4 4 = ev3 4 by rw [o4, va_up_ne _ _ (by decide), va_up_ne _ _ (by decide)]).trans t3_4
      have t4_35 := (show ev4 35 = ev3 35 by rw [o4, va_up_ne _ _ (by decide), va_up_ne _ _ (by decide)]).trans t3_35
      have t4_7 := (show ev4 7 = ev3 7 by rw [o4, va_up_ne _ _ (by decide), va_up_ne _ _ (by decide)]).trans t3_7
      have t4_8 := (show ev4 8 = ev3 8 by rw [o4, va_up_ne _ _ (by decide), va_up_ne _ _ (by decide)]).trans t3_8
      have t4_9 := (show ev4 9 = ev3 9 by rw [o4, va_up_ne _ _ (by decide), va_up_ne _ _ (by decide)]).trans t3_9
      have t4_10 := (show ev4 10 = ev3 10 by rw [o4, va_up_ne _ _ (by decide), va_up_ne _ _ (by decide)]).trans t3_10
      have t4_11 := (show ev4 11 = ev3 11 by rw [o4, va_up_ne _ _ (by decide), va_up_ne _ _ (by decide)]).trans t3_11
      have t4_14 := (show ev4 14 = ev3 14 by rw [o4, va_up_ne _ _ (by decide), va_up_ne _ _ (by decide)]).trans t3_14
      have t4_15 := (show ev4 15 = ev3 15 by rw [o4, va_up_ne _ _ (by decide), va_up_ne _ _ (by decide)]).trans t3_15
      have t4_16 := (show ev4 16 = ev3 16 by rw [o4, va_up_ne _ _ (by decide), va_up_ne _ _ (by decide)]).trans t3_16
      have t4_17 := (show ev4 17 = ev3 17 by rw [o4, va_up_ne _ _ (by decide), va_up_ne _ _ (by decide)]).trans t3_17
      have t4_20 := (show ev4 20 = ev3 20 by rw [o4, va_up_ne _ _ (by decide), va_up_ne _ _ (by decide)]).trans t3_20
      have t4_21 := (show ev4 21 = ev3 21 by rw [o4, va_up_ne _ _ (by decide), va_up_ne _ _ (by decide)]).trans t3_21
      have t4_34 := (show ev4 34 = ev3 34 by rw [o4, va_up_ne _ _ (by decide), va_up_ne _ _ (by decide)]).trans t3_34
      have t4_36 := (show ev4 36 = ev3 36 by rw [o4, va_up_ne _ _ (by decide), va_up_ne _ _ (by decide)]).trans t3_36
      have t4_22 := (show ev4 22 = ev3 22 by rw [o4, va_up_ne _ _ (by decide), va_up_ne _ _ (by decide)]).trans t3_22
      have t4_23 := (show ev4 23 = ev3 23 by rw [o4, va_up_ne _ _ (by decide), va_up_ne _ _ (by decide)]).trans t3_23
      have t4_24 := (show ev4 24 = ev3 24 by rw [o4, va_up_ne _ _ (by decide), va_up_ne _ _ (by decide)]).trans t3_24
      have t4_25 := (show ev4 25 = ev3 25 by rw [o4, va_up_ne _ _ (by decide), va_up_ne _ _ (by decide)]).trans t3_25
      have t4_26 := (show ev4 26 = ev3 26 by rw [o4, va_up_ne _ _ (by decide), va_up_ne _ _ (by decide)]).trans t3_26
      have t4_27 := (show ev4 27 = ev3 27 by rw [o4, va_up_ne _ _ (by decide), va_up_ne _ _ (by decide)]).trans t3_27
      have t4_28 := (show ev4 28 = ev3 28 by rw [o4, va_up_ne _ _ (by decide), va_up_ne _ _ (by decide)]).trans t3_28
      have t4_29 := (show ev4 29 = ev3 29 by rw [o4, va_up_ne _ _ (by decide), va_up_ne _ _ (by decide)]).trans t3_29
      have t4_30 := (show ev4 30 = ev3 30 by rw [o4, va_up_ne _ _ (by decide), va_up_ne _ _ (by decide)]).trans t3_30
      have t4_31 := (show ev4 31 = ev3 31 by rw [o4, va_up_ne _ _ (by decide), va_up_ne _ _ (by decide)]).trans t3_31
      have t4_32 := (show ev4 32 = ev3 32 by rw [o4, va_up_ne _ _ (by decide), va_up_ne _ _ (by decide)]).trans t3_32
      have t4_33 := (show ev4 33 = ev3 33 by rw [o4, va_up_ne _ _ (by decide), va_up_ne _ _ (by decide)]).trans t3_33
      have t4_6 := (show ev4 6 = ev3 6 by rw [o4, va_up_ne _ _ (by decide), va_up_ne _ _ (by decide)]).trans t3_6
      have t4_12 := (show ev4 12 = ev3 12 by rw [o4, va_up_ne _ _ (by decide), va_up_ne _ _ (by decide)]).trans t3_12
      have t4_13 := (show ev4 13 = ev3 13 by rw [o4, va_up_ne _ _ (by decide), va_up_ne _ _ (by decide)]).trans t3_13
      have t4_18 := (show ev4 18 = ev3 18 by rw [o4, va_up_ne _ _ (by decide), va_up_ne _ _ (by decide)]).trans t3_18
      have t4_19 := (show ev4 19 = ev3 19 by rw [o4, va_up_ne _ _ (by decide), va_up_ne _ _ (by decide)]).trans t3_19
      have eo : outF (16 + k) (fil 0 16 (TAGB S2 (fil 16 k (fun i => Bf 3 i ^^^ S2 (32 + i)) x36) 16 k) (fil 16 k (fun i => Bf 3 i ^^^ S2 (32 + i)) x36)) = outF (16 + k) (SEALB S (Bf 1) (Bf 3) k) := outF_congr (fun j hj => by
          unfold SEALB
          by_cases c : j < 16
          · rw [if_pos c, ← Nat.zero_add j, fil_in (by omega), Nat.zero_add, TAGB_eq hS2 hW1 j c, TAGM_congr (L := STRB S (Bf 1)) (Y := HIDB S (Bf 1) (Bf 3)) (o2 := 0) (fun i hi => hS3 i (by omega)) (fun i hi => by
              rw [fil_in hi, Nat.zero_add]
              show Bf 3 i ^^^ S2 (32 + i) = Bf 3 i ^^^ STRB S (Bf 1) (32 + i)
              rw [hS3 _ (by omega)])]
          · rw [if_neg c, fil_out (Or.inr (by omega)), show j = 16 + (j - 16) by omega, fil_in (by omega), show 16 + (j - 16) - 16 = j - 16 by omega]
            show Bf 3 (j - 16) ^^^ S2 (32 + (j - 16)) = Bf 3 (j - 16) ^^^ STRB S (Bf 1) (32 + (j - 16))
            rw [hS3 _ (by omega)])
      rw [eo] at t4_5
      exact wv_vret hx hb hr hlocks h d_NB_sealBy_90 ⟨rfl, ⟨t4_0, t4_1, t4_2, t4_3, t4_4, t4_5, t4_6, ⟨_, t4_7⟩, ⟨_, t4_8⟩, ⟨_, t4_9⟩, ⟨_, (plc_lt (hB 1) hvv), (fun j hj => by unfold PLC; rw [if_neg (by omega), if_neg (by omega)]), t4_10⟩, ⟨_, hS2, t4_11⟩, t4_12, t4_13, ⟨_, t4_14⟩, ⟨_, t4_15⟩, ⟨_, t4_16⟩, ⟨_, t4_17⟩, t4_18, t4_19, ⟨_, t4_20⟩, ⟨_, t4_21⟩, ⟨_, t4_22⟩, ⟨_, t4_23⟩, ⟨_, t4_24⟩, ⟨_, t4_25⟩, ⟨_, t4_26⟩, ⟨_, t4_27⟩, ⟨_, t4_28⟩, ⟨_, t4_29⟩, ⟨_, t4_30⟩, ⟨_, t4_31⟩, ⟨_, t4_32⟩, ⟨_, t4_33⟩, ⟨_, b34, t4_34⟩, t4_35, ⟨_, (fil_lt (TAGB_lt _ _ _ _) hW1), t4_36⟩, Bf_lt hB (outF_lt (SEALB_lt _ _ (hB 3) _)) 4, htl, (by omega)⟩, (fun j hj => by rw [o4, va_up_ne _ _ (by omega), va_up_ne _ _ (by omega), o3, va_up_ne _ _ (by omega), va_up_ne _ _ (by omega), va_up_ne _ _ (by omega), va_up_ne _ _ (by omega), va_up_ne _ _ (by omega), o2, va_up_ne _ _ (by omega), o1, va_up_ne _ _ (by omega), va_up_ne _ _ (by omega), va_up_ne _ _ (by omega), va_up_ne _ _ (by omega), va_up_ne _ _ (by omega)])⟩
    | succ d ih =>
      intro k hk_k  ev2 H locs ls  o2 h hl
      have t2_36 : ev2 36 = eB G 112 (bs (fil 16 k (fun i => Bf 3 i ^^^ S2 (32 + i)) x36)) := by rw [o2, va_up_self]
      have t2_1 := (show ev2 1 = ev1 1 by rw [o2, va_up_ne _ _ (by decide)]).trans t1_1
      have t2_2 := (show ev2 2 = ev1 2 by rw [o2, va_up_ne _ _ (by decide)]).trans t1_2
      have t2_3 := (show ev2 3 = ev1 3 by rw [o2, va_up_ne _ _ (by decide)]).trans t1_3
      have t2_4 := (show ev2 4 = ev1 4 by rw [o2, va_up_ne _ _ (by decide)]).trans t1_4
      have t2_5 := (show ev2 5 = ev1 5 by rw [o2, va_up_ne _ _ (by decide)]).trans t1_5
      have t2_35 := (show ev2 35 = ev1 35 by rw [o2, va_up_ne _ _ (by decide)]).trans t1_35
      have t2_7 := (show ev2 7 = ev1 7 by rw [o2, va_up_ne _ _ (by decide)]).trans t1_7
      have t2_8 := (show ev2 8 = ev1 8 by rw [o2, va_up_ne _ _ (by decide)]).trans t1_8
      have t2_9 := (show ev2 9 = ev1 9 by rw [o2, va_up_ne _ _ (by decide)]).trans t1_9
      have t2_10 := (show ev2 10 = ev1 10 by rw [o2, va_up_ne _ _ (by decide)]).trans t1_10
      have t2_11 := (show ev2 11 = ev1 11 by rw [o2, va_up_ne _ _ (by decide)]).trans t1_11
      have t2_14 := (show ev2 14 = ev1 14 by rw [o2, va_up_ne _ _ (by decide)]).trans t1_14
      have t2_15 := (show ev2 15 = ev1 15 by rw [o2, va_up_ne _ _ (by decide)]).trans t1_15
      have t2_16 := (show ev2 16 = ev1 16 by rw [o2, va_up_ne _ _ (by decide)]).trans t1_16
      have t2_17 := (show ev2 17 = ev1 17 by rw [o2, va_up_ne _ _ (by decide)]).trans t1_17
      have t2_20 := (show ev2 20 = ev1 20 by rw [o2, va_up_ne _ _ (by decide)]).trans t1_20
      have t2_21 := (show ev2 21 = ev1 21 by rw [o2, va_up_ne _ _ (by decide)]).trans t1_21
      have t2_34 := (show ev2 34 = ev1 34 by rw [o2, va_up_ne _ _ (by decide)]).trans t1_34
      have t2_22 := (show ev2 22 = ev1 22 by rw [o2, va_up_ne _ _ (by decide)]).trans t1_22
      have t2_23 := (show ev2 23 = ev1 23 by rw [o2, va_up_ne _ _ (by decide)]).trans t1_23
      have t2_24 := (show ev2 24 = ev1 24 by rw [o2, va_up_ne _ _ (by decide)]).trans t1_24
      have t2_25 := (show ev2 25 = ev1 25 by rw [o2, va_up_ne _ _ (by decide)]).trans t1_25
      have t2_26 := (show ev2 26 = ev1 26 by rw [o2, va_up_ne _ _ (by decide)]).trans t1_26
      have t2_27 := (show ev2 27 = ev1 27 by rw [o2, va_up_ne _ _ (by decide)]).trans t1_27
      have t2_28 := (show ev2 28 = ev1 28 by rw [o2, va_up_ne _ _ (by decide)]).trans t1_28
      have t2_29 := (show ev2 29 = ev1 29 by rw [o2, va_up_ne _ _ (by decide)]).trans t1_29
      have t2_30 := (show ev2 30 = ev1 30 by rw [o2, va_up_ne _ _ (by decide)]).trans t1_30
      have t2_31 := (show ev2 31 = ev1 31 by rw [o2, va_up_ne _ _ (by decide)]).trans t1_31
      have t2_32 := (show ev2 32 = ev1 32 by rw [o2, va_up_ne _ _ (by decide)]).trans t1_32
      have t2_33 := (show ev2 33 = ev1 33 by rw [o2, va_up_ne _ _ (by decide)]).trans t1_33
      have t2_0 := (show ev2 0 = ev1 0 by rw [o2, va_up_ne _ _ (by decide)]).trans t1_0
      have t2_6 := (show ev2 6 = ev1 6 by rw [o2, va_up_ne _ _ (by decide)]).trans t1_6
      have t2_12 := (show ev2 12 = ev1 12 by rw [o2, va_up_ne _ _ (by decide)]).trans t1_12
      have t2_13 := (show ev2 13 = ev1 13 by rw [o2, va_up_ne _ _ (by decide)]).trans t1_13
      have t2_18 := (show ev2 18 = ev1 18 by rw [o2, va_up_ne _ _ (by decide)]).trans t1_18
      have t2_19 := (show ev2 19 = ev1 19 by rw [o2, va_up_ne _ _ (by decide)]).trans t1_19
      refine lv_iload hx hb d_NB_sealBy_25 (lv_at hl 0 rfl) ?_
      refine lv_iload_n hx hb d_NB_sealBy_27 rfl (lv_at hl 2 rfl) ?_
      refine lv_icmp_ge (tgt := 63) hx hb d_NB_sealBy_28 (by decide) (fun hc => absurd ((nI_leI (by omega) (by omega)).mp hc) (by omega)) (fun _ => ?_)
      refine lv_aload_n hx hb d_NB_sealBy_31 rfl (lv_at hl 3 rfl) ?_
      refine wv_getf hx hb h 0 (by decide) (fs := [.ref (ad 1), .ref (ad 2), .ref (ad 3), .ref (ad 4), .ref (ad 5), .int (nI (tl)), .int (nI (ol)), .ref (ad 6), .ref (ad 12), .ref (ad 18), .ref (ad 34), .ref (ad 35), .ref (ad 36)]) t2_0 hts (fun w hw => List.mem_cons_of_mem _ (fW_NB w hw)) hown (ci := 4) (C := "NonceBox") (T := fT_NB) (N := 13) rfl 12 (by decide) (hts _ (List.mem_cons_of_mem _ kf_NB_59)) rfl (v := .ref (ad 36)) rfl d_NB_sealBy_32 ?_
      refine lv_bipush (v := nI (16)) hx hb d_NB_sealBy_35 (by decide) ?_
      refine lv_iload hx hb d_NB_sealBy_37 (lv_at hl 0 rfl) ?_
      refine lv_iadd hx hb d_NB_sealBy_39 ?_
      refine wv_top (w := nI (16 + k)) (nI_add _ _) ?_
      refine lv_aload_n hx hb d_NB_sealBy_40 rfl (lv_at hl 3 rfl) ?_
      refine wv_getf hx hb h 0 (by decide) (fs := [.ref (ad 1), .ref (ad 2), .ref (ad 3), .ref (ad 4), .ref (ad 5), .int (nI (tl)), .int (nI (ol)), .ref (ad 6), .ref (ad 12), .ref (ad 18), .ref (ad 34), .ref (ad 35), .ref (ad 36)]) t2_0 hts (fun w hw => List.mem_cons_of_mem _ (fW_NB w hw)) hown (ci := 4) (C := "NonceBox") (T := fT_NB) (N := 13) rfl 3 (by decide) (hts _ (List.mem_cons_of_mem _ kf_NB_19)) rfl (v := .ref (ad 4)) rfl d_NB_sealBy_41 ?_
      refine lv_iload hx hb d_NB_sealBy_44 (lv_at hl 0 rfl) ?_
      refine wv_bald hx hb h 4 (by decide) (f := (bs (Bf 3))) t2_4 (k := k) rfl (by omega) (by decide) d_NB_sealBy_46 ?_
      refine lv_aload_n hx hb d_NB_sealBy_47 rfl (lv_at hl 1 rfl) ?_
      refine lv_bipush (v := nI (32)) hx hb d_NB_sealBy_48 (by decide) ?_
      refine lv_iload hx hb d_NB_sealBy_50 (lv_at hl 0 rfl) ?_
      refine lv_iadd hx hb d_NB_sealBy_52 ?_
      refine wv_top (w := nI (32 + k)) (nI_add _ _) ?_
      refine wv_bald hx hb h 11 (by decide) (f := (bs S2)) t2_11 (k := 32 + k) rfl (by omega) (by decide) d_NB_sealBy_53 ?_
      refine lv_ixor hx hb d_NB_sealBy_54 ?_
      refine lv_i2b hx hb d_NB_sealBy_55 rfl ?_
      refine wv_bast hx hb h 36 (by decide) (f := (bs (fil 16 k (fun i => Bf 3 i ^^^ S2 (32 + i)) x36))) t2_36 (k := 16 + k) rfl (by omega) (by decide) d_NB_sealBy_56 (fun H locs h => ?_)
      obtain ⟨ev3, o3⟩ : ∃ z, z = va_up ev2 36 (eB G 112 (va_up ((bs (fil 16 k (fun i => Bf 3 i ^^^ S2 (32 + i)) x36))) (16 + k) (vp_nar .byte (((((bs (Bf 3))) k) ^^^ (((bs S2)) (32 + k))).toInt8.toInt32)))) := ⟨_, rfl⟩
      rw [← o3] at h
      have t3_36 : ev3 36 = eB G 112 (va_up ((bs (fil 16 k (fun i => Bf 3 i ^^^ S2 (32 + i)) x36))) (16 + k) (vp_nar .byte (((((bs (Bf 3))) k) ^^^ (((bs S2)) (32 + k))).toInt8.toInt32))) := by rw [o3, va_up_self]
      have t3_1 := (show ev3 1 = ev2 1 by rw [o3, va_up_ne _ _ (by decide)]).trans t2_1
      have t3_2 := (show ev3 2 = ev2 2 by rw [o3, va_up_ne _ _ (by decide)]).trans t2_2
      have t3_3 := (show ev3 3 = ev2 3 by rw [o3, va_up_ne _ _ (by decide)]).trans t2_3
      have t3_4 := (show ev3 4 = ev2 4 by rw [o3, va_up_ne _ _ (by decide)]).trans t2_4
      have t3_5 := (show ev3 5 = ev2 5 by rw [o3, va_up_ne _ _ (by decide)]).trans t2_5
      have t3_35 := (show ev3 35 = ev2 35 by rw [o3, va_up_ne _ _ (by decide)]).trans t2_35
      have t3_7 := (show ev3 7 = ev2 7 by rw [o3, va_up_ne _ _ (by decide)]).trans t2_7
      have t3_8 := (show ev3 8 = ev2 8 by rw [o3, va_up_ne _ _ (by decide)]).trans t2_8
      have t3_9 := (show ev3 9 = ev2 9 by rw [o3, va_up_ne _ _ (by decide)]).trans t2_9
      have t3_10 := (show ev3 10 = ev2 10 by rw [o3, va_up_ne _ _ (by decide)]).trans t2_10
      have t3_11 := (show ev3 11 = ev2 11 by rw [o3, va_up_ne _ _ (by decide)]).trans t2_11
      have t3_14 := (show ev3 14 = ev2 14 by rw [o3, va_up_ne _ _ (by decide)]).trans t2_14
      have t3_15 := (show ev3 15 = ev2 15 by rw [o3, va_up_ne _ _ (by decide)]).trans t2_15
      have t3_16 := (show ev3 16 = ev2 16 by rw [o3, va_up_ne _ _ (by decide)]).trans t2_16
      have t3_17 := (show ev3 17 = ev2 17 by rw [o3, va_up_ne _ _ (by decide)]).trans t2_17
      have t3_20 := (show ev3 20 = ev2 20 by rw [o3, va_up_ne _ _ (by decide)]).trans t2_20
      have t3_21 := (show ev3 21 = ev2 21 by rw [o3, va_up_ne _ _ (by decide)]).trans t2_21
      have t3_34 := (show ev3 34 = ev2 34 by rw [o3, va_up_ne _ _ (by decide)]).trans t2_34
      have t3_22 := (show ev3 22 = ev2 22 by rw [o3, va_up_ne _ _ (by decide)]).trans t2_22
      have t3_23 := (show ev3 23 = ev2 23 by rw [o3, va_up_ne _ _ (by decide)]).trans t2_23
      have t3_24 := (show ev3 24 = ev2 24 by rw [o3, va_up_ne _ _ (by decide)]).trans t2_24
      have t3_25 := (show ev3 25 = ev2 25 by rw [o3, va_up_ne _ _ (by decide)]).trans t2_25
      have t3_26 := (show ev3 26 = ev2 26 by rw [o3, va_up_ne _ _ (by decide)]).trans t2_26
      have t3_27 := (show ev3 27 = ev2 27 by rw [o3, va_up_ne _ _ (by decide)]).trans t2_27
      have t3_28 := (show ev3 28 = ev2 28 by rw [o3, va_up_ne _ _ (by decide)]).trans t2_28
      have t3_29 := (show ev3 29 = ev2 29 by rw [o3, va_up_ne _ _ (by decide)]).trans t2_29
      have t3_30 := (show ev3 30 = ev2 30 by rw [o3, va_up_ne _ _ (by decide)]).trans t2_30
      have t3_31 := (show ev3 31 = ev2 31 by rw [o3, va_up_ne _ _ (by decide)]).trans t2_31
      have t3_32 := (show ev3 32 = ev2 32 by rw [o3, va_up_ne _ _ (by decide)]).trans t2_32
      have t3_33 := (show ev3 33 = ev2 33 by rw [o3, va_up_ne _ _ (by decide)]).trans t2_33
      have t3_0 := (show ev3 0 = ev2 0 by rw [o3, va_up_ne _ _ (by decide)]).trans t2_0
      have t3_6 := (show ev3 6 = ev2 6 by rw [o3, va_up_ne _ _ (by decide)]).trans t2_6
      have t3_12 := (show ev3 12 = ev2 12 by rw [o3, va_up_ne _ _ (by decide)]).trans t2_12
      have t3_13 := (show ev3 13 = ev2 13 by rw [o3, va_up_ne _ _ (by decide)]).trans t2_13
      have t3_18 := (show ev3 18 = ev2 18 by rw [o3, va_up_ne _ _ (by decide)]).trans t2_18
      have t3_19 := (show ev3 19 = ev2 19 by rw [o3, va_up_ne _ _ (by decide)]).trans t2_19
      rw [bs_up _ _ (Bf 3 k ^^^ S2 (32 + k)) (show vp_nar .byte (bs (Bf 3) k ^^^ bs S2 (32 + k)).toInt8.toInt32 = sb_b (Bf 3 k ^^^ S2 (32 + k)) from sb_x _ (hB 3 k) _ (hS2 _)), fil_s 16 k (fun i => Bf 3 i ^^^ S2 (32 + i)) x36 rfl] at o3
      refine lv_iinc (v := nI (k + 1)) (lv' := [(4, .int (nI (k + 1))), (3, .ref (ad 11)), (2, .int (nI (tl))), (0, .ref (ad 0)), (1, .ref (ad qs))]) hx hb d_NB_sealBy_57 hl (k := 0) rfl (nI_add _ _) (by decide) rfl (fun ls hl => ?_)
      refine lv_goto (tgt := 25) hx hb d_NB_sealBy_60 (by decide) ?_
      refine ih (k + 1) (by omega) ev3 H locs ls ?_ h (lv_sub hl [0, 1, 2, 3, 4] rfl)
      rw [o3, o2, va_up2]
  exact loop2 tl 0 (by omega) ev1 H locs ls (by rw [fil_0, va_upi _ _ t1_36]) h (lv_sub hl [0, 1, 2, 3, 4] rfl)
theorem d_NB_openBy_0 : decode c_NB_openBy 0 = .ok (.aload_n 0, 1) := by decide +kernel
theorem d_NB_openBy_1 : decode c_NB_openBy 1 = .ok (.getfield 25, 3) := by decide +kernel
theorem d_NB_openBy_4 : decode c_NB_openBy 4 = .ok (.bipush 16, 2) := by decide +kernel
theorem d_NB_openBy_6 : decode c_NB_openBy 6 = .ok (.isub, 1) := by decide +kernel
theorem d_NB_openBy_7 : decode c_NB_openBy 7 = .ok (.istore_n 2, 1) := by decide +kernel
theorem d_NB_openBy_8 : decode c_NB_openBy 8 = .ok (.aload_n 0, 1) := by decide +kernel
theorem d_NB_openBy_9 : decode c_NB_openBy 9 = .ok (.getfield 35, 3) := by decide +kernel
theorem d_NB_openBy_12 : decode c_NB_openBy 12 = .ok (.aload_n 1, 1) := by decide +kernel
theorem d_NB_openBy_13 : decode c_NB_openBy 13 = .ok (.aload_n 0, 1) := by decide +kernel
theorem d_NB_openBy_14 : decode c_NB_openBy 14 = .ok (.getfield 13, 3) := by decide +kernel
theorem d_NB_openBy_17 : decode c_NB_openBy 17 = .ok (.bipush 32, 2) := by decide +kernel
theorem d_NB_openBy_19 : decode c_NB_openBy 19 = .ok (.iload_n 2, 1) := by decide +kernel
theorem d_NB_openBy_20 : decode c_NB_openBy 20 = .ok (.iadd, 1) := by decide +kernel
theorem d_NB_openBy_21 : decode c_NB_openBy 21 = .ok (.invokevirtual 84, 3) := by decide +kernel
theorem d_NB_openBy_24 : decode c_NB_openBy 24 = .ok (.astore_n 3, 1) := by decide +kernel
theorem d_NB_openBy_25 : decode c_NB_openBy 25 = .ok (.aload_n 0, 1) := by decide +kernel
theorem d_NB_openBy_26 : decode c_NB_openBy 26 = .ok (.getfield 42, 3) := by decide +kernel
theorem d_NB_openBy_29 : decode c_NB_openBy 29 = .ok (.aload_n 3, 1) := by decide +kernel
theorem d_NB_openBy_30 : decode c_NB_openBy 30 = .ok (.aload_n 0, 1) := by decide +kernel
theorem d_NB_openBy_31 : decode c_NB_openBy 31 = .ok (.getfield 19, 3) := by decide +kernel
theorem d_NB_openBy_34 : decode c_NB_openBy 34 = .ok (.bipush 16, 2) := by decide +kernel
theorem d_NB_openBy_36 : decode c_NB_openBy 36 = .ok (.iload_n 2, 1) := by decide +kernel
theorem d_NB_openBy_37 : decode c_NB_openBy 37 = .ok (.aload_n 0, 1) := by decide +kernel
theorem d_NB_openBy_38 : decode c_NB_openBy 38 = .ok (.getfield 59, 3) := by decide +kernel
theorem d_NB_openBy_41 : decode c_NB_openBy 41 = .ok (.invokevirtual 88, 3) := by decide +kernel
theorem d_NB_openBy_44 : decode c_NB_openBy 44 = .ok (.aload_n 0, 1) := by decide +kernel
theorem d_NB_openBy_45 : decode c_NB_openBy 45 = .ok (.invokevirtual 126, 3) := by decide +kernel
theorem d_NB_openBy_48 : decode c_NB_openBy 48 = .ok (.ifCond .ne 5, 3) := by decide +kernel
theorem d_NB_openBy_51 : decode c_NB_openBy 51 = .ok (.iconst 0, 1) := by decide +kernel
theorem d_NB_openBy_52 : decode c_NB_openBy 52 = .ok (.ireturn, 1) := by decide +kernel
theorem d_NB_openBy_53 : decode c_NB_openBy 53 = .ok (.iconst 0, 1) := by decide +kernel
theorem d_NB_openBy_54 : decode c_NB_openBy 54 = .ok (.istore 4, 2) := by decide +kernel
theorem d_NB_openBy_56 : decode c_NB_openBy 56 = .ok (.iload 4, 2) := by decide +kernel
theorem d_NB_openBy_58 : decode c_NB_openBy 58 = .ok (.iload_n 2, 1) := by decide +kernel
theorem d_NB_openBy_59 : decode c_NB_openBy 59 = .ok (.if_icmp .ge 35, 3) := by decide +kernel
theorem d_NB_openBy_62 : decode c_NB_openBy 62 = .ok (.aload_n 0, 1) := by decide +kernel
theorem d_NB_openBy_63 : decode c_NB_openBy 63 = .ok (.getfield 59, 3) := by decide +kernel
theorem d_NB_openBy_66 : decode c_NB_openBy 66 = .ok (.iload 4, 2) := by decide +kernel
theorem d_NB_openBy_68 : decode c_NB_openBy 68 = .ok (.aload_n 0, 1) := by decide +kernel
theorem d_NB_openBy_69 : decode c_NB_openBy 69 = .ok (.getfield 19, 3) := by decide +kernel
theorem d_NB_openBy_72 : decode c_NB_openBy 72 = .ok (.bipush 16, 2) := by decide +kernel
theorem d_NB_openBy_74 : decode c_NB_openBy 74 = .ok (.iload 4, 2) := by decide +kernel
theorem d_NB_openBy_76 : decode c_NB_openBy 76 = .ok (.iadd, 1) := by decide +kernel
theorem d_NB_openBy_77 : decode c_NB_openBy 77 = .ok (.baload, 1) := by decide +kernel
theorem d_NB_openBy_78 : decode c_NB_openBy 78 = .ok (.aload_n 3, 1) := by decide +kernel
theorem d_NB_openBy_79 : decode c_NB_openBy 79 = .ok (.bipush 32, 2) := by decide +kernel
theorem d_NB_openBy_81 : decode c_NB_openBy 81 = .ok (.iload 4, 2) := by decide +kernel
theorem d_NB_openBy_83 : decode c_NB_openBy 83 = .ok (.iadd, 1) := by decide +kernel
theorem d_NB_openBy_84 : decode c_NB_openBy 84 = .ok (.baload, 1) := by decide +kernel
theorem d_NB_openBy_85 : decode c_NB_openBy 85 = .ok (.ixor, 1) := by decide +kernel
theorem d_NB_openBy_86 : decode c_NB_openBy 86 = .ok (.i2b, 1) := by decide +kernel
theorem d_NB_openBy_87 : decode c_NB_openBy 87 = .ok (.bastore, 1) := by decide +kernel
theorem d_NB_openBy_88 : decode c_NB_openBy 88 = .ok (.iinc 4 1, 3) := by decide +kernel
theorem d_NB_openBy_91 : decode c_NB_openBy 91 = .ok (.goto (-35), 3) := by decide +kernel
theorem d_NB_openBy_94 : decode c_NB_openBy 94 = .ok (.aload_n 0, 1) := by decide +kernel
theorem d_NB_openBy_95 : decode c_NB_openBy 95 = .ok (.iload_n 2, 1) := by decide +kernel
theorem d_NB_openBy_96 : decode c_NB_openBy 96 = .ok (.invokevirtual 80, 3) := by decide +kernel
theorem d_NB_openBy_99 : decode c_NB_openBy 99 = .ok (.iconst 1, 1) := by decide +kernel
theorem d_NB_openBy_100 : decode c_NB_openBy 100 = .ok (.ireturn, 1) := by decide +kernel
set_option maxRecDepth 100000 in
set_option maxHeartbeats 4000000 in
/-- what was sealed, into OUT -/
theorem m_NB_openBy (l : Launch) (G : wG) (A : Nat → Prop) (ad : Nat → Nat) (ev : Nat → va_E) (Bf : Nat → Nat → Nat) (tl ol : Nat) (hNB : NB G ad ev Bf tl ol) (h16 : 16 ≤ tl) (qs : Nat) (S : Nat → Nat) (hqs : qs = 1 ∨ qs = 34) (hs : ev qs = eB G 32 (bs S)) (hS : ∀ j, S j < 256) : wM l y_NB_openBy w_NB_openBy ({ frames := 24, cells := 0, slots := 0, locals := 800 }) G A 52 ad ev [.ref (ad 0), .ref (ad qs)] (fun ov ev' => ∃ (ans : Int32) (Bf' : Nat → Nat → Nat) (ol' : Nat), ov = some (.int ans) ∧ ((ans = nI 1 ∧ tagOK S (Bf 1) (Bf 3) (tl - 16) ∧ Bf' = va_up Bf 4 (outF (tl - 16) (OPNB S (Bf 1) (Bf 3))) ∧ ol' = tl - 16) ∨ (ans = nI 0 ∧ ¬ tagOK S (Bf 1) (Bf 3) (tl - 16) ∧ Bf' = Bf ∧ ol' = ol)) ∧ NB G ad ev' Bf' tl ol' ∧ ∀ j, 37 ≤ j → ev' j = ev j) := by
  refine wv_ofW (cc := c_NB_openBy) (maxL := 5) (ret := (Option.some FieldType.boolean)) (by decide) rfl (Nat.le_of_ble_eq_true rfl) ?_
  intro p e s m below meth c ls hx hb hr hml hts hown hlocks hini h hl
  have hl : lv_has ls 5 [(0, .ref (ad 0)), (1, .ref (ad qs))] := hl
  obtain ⟨g0, g1, g2, g3, g4, g5, g6, ⟨x7, g7⟩, ⟨x8, g8⟩, ⟨x9, g9⟩, ⟨x10, b10, z10, g10⟩, ⟨x11, b11, g11⟩, g12, g13, ⟨x14, g14⟩, ⟨x15, g15⟩, ⟨x16, g16⟩, ⟨x17, g17⟩, g18, g19, ⟨x20, g20⟩, ⟨x21, g21⟩, ⟨x22, g22⟩, ⟨x23, g23⟩, ⟨x24, g24⟩, ⟨x25, g25⟩, ⟨x26, g26⟩, ⟨x27, g27⟩, ⟨x28, g28⟩, ⟨x29, g29⟩, ⟨x30, g30⟩, ⟨x31, g31⟩, ⟨x32, g32⟩, ⟨x33, g33⟩, ⟨x34, b34, g34⟩, g35, ⟨x36, b36, g36⟩, hB, htl, hol⟩ := hNB
  refine lv_aload_n hx hb d_NB_openBy_0 rfl (lv_at hl 0 rfl) ?_
  refine wv_getf hx hb h 0 (by decide) (fs := [.ref (ad 1), .ref (ad 2), .ref (ad 3), .ref (ad 4), .ref (ad 5), .int (nI (tl)), .int (nI (ol)), .ref (ad 6), .ref (ad 12), .ref (ad 18), .ref (ad 34), .ref (ad 35), .ref (ad 36)]) g0 hts (fun w hw => List.mem_cons_of_mem _ (fW_NB w hw)) hown (ci := 4) (C := "NonceBox") (T := fT_NB) (N := 13) rfl 5 (by decide) (hts _ (List.mem_cons_of_mem _ kf_NB_25)) rfl (v := .int (nI (tl))) rfl d_NB_openBy_1 ?_
  refine lv_bipush (v := nI (16)) hx hb d_NB_openBy_4 (by decide) ?_
  refine lv_isub hx hb d_NB_openBy_6 ?_
  refine wv_top (w := nI (tl - 16)) (pk_sub (by omega)) ?_
  refine lv_istore_n (lv' := [(2, .int (nI (tl - 16))), (0, .ref (ad 0)), (1, .ref (ad qs))]) hx hb d_NB_openBy_7 rfl hl (by decide) rfl (fun ls hl => ?_)
  refine lv_aload_n hx hb d_NB_openBy_8 rfl (lv_at hl 1 rfl) ?_
  refine wv_getf hx hb h 0 (by decide) (fs := [.ref (ad 1), .ref (ad 2), .ref (ad 3), .ref (ad 4), .ref (ad 5), .int (nI (tl)), .int (nI (ol)), .ref (ad 6), .ref (ad 12), .ref (ad 18), .ref (ad 34), .ref (ad 35), .ref (ad 36)]) g0 hts (fun w hw => List.mem_cons_of_mem _ (fW_NB w hw)) hown (ci := 4) (C := "NonceBox") (T := fT_NB) (N := 13) rfl 7 (by decide) (hts _ (List.mem_cons_of_mem _ kf_NB_35)) rfl (v := .ref (ad 6)) rfl d_NB_openBy_9 ?_
  refine lv_aload_n hx hb d_NB_openBy_12 rfl (lv_at hl 2 rfl) ?_
  refine lv_aload_n hx hb d_NB_openBy_13 rfl (lv_at hl 1 rfl) ?_
  refine wv_getf hx hb h 0 (by decide) (fs := [.ref (ad 1), .ref (ad 2), .ref (ad 3), .ref (ad 4), .ref (ad 5), .int (nI (tl)), .int (nI (ol)), .ref (ad 6), .ref (ad 12), .ref (ad 18), .ref (ad 34), .ref (ad 35), .ref (ad 36)]) g0 hts (fun w hw => List.mem_cons_of_mem _ (fW_NB w hw)) hown (ci := 4) (C := "NonceBox") (T := fT_NB) (N := 13) rfl 1 (by decide) (hts _ (List.mem_cons_of_mem _ kf_NB_13)) rfl (v := .ref (ad 2)) rfl d_NB_openBy_14 ?_
  refine lv_bipush (v := nI (32)) hx hb d_NB_openBy_17 (by decide) ?_
  refine lv_iload_n hx hb d_NB_openBy_19 rfl (lv_at hl 0 rfl) ?_
  refine lv_iadd hx hb d_NB_openBy_20 ?_
  refine wv_top (w := nI (32 + (tl - 16))) (nI_add _ _) ?_
  refine wv_V (As := [.ref (ad qs), .ref (ad 2), .int (nI (32 + (tl - 16)))]) (rest := []) (k := 3) ⟨hx, hb, hml, hown, hts⟩ h 6 (by decide) (C := "NonceBox$Mixer") g6 rfl (m_Mx_streamOf l G A ad ev qs 2 32 24 (32 + (tl - 16)) S (Bf 1) x9 x10 x11 x7 x8 (by omega) (by decide) g6 g7 g8 g9 g10 g11 hs g2 (by omega) (by decide) hS (hB 1) b10 z10 b11 (by decide) (by decide) (by omega) (by decide) (by decide)) kc_Mx_streamOf kl_NB_84 km_Mx_streamOf kv_Mx_streamOf ki_Mx (by decide +kernel) ⟨rfl, rfl, Nat.le_of_ble_eq_true rfl, Nat.le_of_ble_eq_true rfl⟩ hl.1 rfl rfl (Nat.le_of_ble_eq_true rfl) ⟨Nat.le_refl _, Nat.le_refl _⟩ d_NB_openBy_21 ?_
  intro ov ev1 H locs hp h
  obtain ⟨f7, f8, vv, S2, ho, o1, hvv, hS2, hS3⟩ := hp
  rw [ho]
  refine W.eq (g2 := F0 m 24 ls [.ref (ad 11)]) rfl ?_
  have t1_7 : ev1 7 = eI G 16 f7 := by rw [o1, va_up_ne _ _ (by decide), va_up_ne _ _ (by decide), va_up_ne _ _ (by decide), va_up_ne _ _ (by decide), va_up_self]
  have t1_8 : ev1 8 = eI G 16 f8 := by rw [o1, va_up_ne _ _ (by decide), va_up_ne _ _ (by decide), va_up_ne _ _ (by decide), va_up_self]
  have t1_9 : ev1 9 = eB G 32 (bs (MIXB S (Bf 1))) := by rw [o1, va_up_ne _ _ (by decide), va_up_ne _ _ (by decide), va_up_self]
  have t1_10 : ev1 10 = eB G 16 (bs (PLC (Bf 1) vv)) := by rw [o1, va_up_ne _ _ (by decide), va_up_self]
  have t1_11 : ev1 11 = eB G 128 (bs S2) := by rw [o1, va_up_self]
  have t1_1 := (show ev1 1 = ev 1 by rw [o1, va_up_ne _ _ (by decide), va_up_ne _ _ (by decide), va_up_ne _ _ (by decide), va_up_ne _ _ (by decide), va_up_ne _ _ (by decide)]).trans g1
  have t1_2 := (show ev1 2 = ev 2 by rw [o1, va_up_ne _ _ (by decide), va_up_ne _ _ (by decide), va_up_ne _ _ (by decide), va_up_ne _ _ (by decide), va_up_ne _ _ (by decide)]).trans g2
  have t1_3 := (show ev1 3 = ev 3 by rw [o1, va_up_ne _ _ (by decide), va_up_ne _ _ (by decide), va_up_ne _ _ (by decide), va_up_ne _ _ (by decide), va_up_ne _ _ (by decide)]).trans g3
  have t1_4 := (show ev1 4 = ev 4 by rw [o1, va_up_ne _ _ (by decide), va_up_ne _ _ (by decide), va_up_ne _ _ (by decide), va_up_ne _ _ (by decide), va_up_ne _ _ (by decide)]).trans g4
  have t1_5 := (show ev1 5 = ev 5 by rw [o1, va_up_ne _ _ (by decide), va_up_ne _ _ (by decide), va_up_ne _ _ (by decide), va_up_ne _ _ (by decide), va_up_ne _ _ (by decide)]).trans g5
  have t1_35 := (show ev1 35 = ev 35 by rw [o1, va_up_ne _ _ (by decide), va_up_ne _ _ (by decide), va_up_ne _ _ (by decide), va_up_ne _ _ (by decide), va_up_ne _ _ (by decide)]).trans g35
  have t1_14 := (show ev1 14 = ev 14 by rw [o1, va_up_ne _ _ (by decide), va_up_ne _ _ (by decide), va_up_ne _ _ (by decide), va_up_ne _ _ (by decide), va_up_ne _ _ (by decide)]).trans g14
  have t1_15 := (show ev1 15 = ev 15 by rw [o1, va_up_ne _ _ (by decide), va_up_ne _ _ (by decide), va_up_ne _ _ (by decide), va_up_ne _ _ (by decide), va_up_ne _ _ (by decide)]).trans g15
  have t1_16 := (show ev1 16 = ev 16 by rw [o1, va_up_ne _ _ (by decide), va_up_ne _ _ (by decide), va_up_ne _ _ (by decide), va_up_ne _ _ (by decide), va_up_ne _ _ (by decide)]).trans g16
  have t1_17 := (show ev1 17 = ev 17 by rw [o1, va_up_ne _ _ (by decide), va_up_ne _ _ (by decide), va_up_ne _ _ (by decide), va_up_ne _ _ (by decide), va_up_ne _ _ (by decide)]).trans g17
  have t1_20 := (show ev1 20 = ev 20 by rw [o1, va_up_ne _ _ (by decide), va_up_ne _ _ (by decide), va_up_ne _ _ (by decide), va_up_ne _ _ (by decide), va_up_ne _ _ (by decide)]).trans g20
  have t1_21 := (show ev1 21 = ev 21 by rw [o1, va_up_ne _ _ (by decide), va_up_ne _ _ (by decide), va_up_ne _ _ (by decide), va_up_ne _ _ (by decide), va_up_ne _ _ (by decide)]).trans g21
  have t1_34 := (show ev1 34 = ev 34 by rw [o1, va_up_ne _ _ (by decide), va_up_ne _ _ (by decide), va_up_ne _ _ (by decide), va_up_ne _ _ (by decide), va_up_ne _ _ (by decide)]).trans g34
  have t1_36 := (show ev1 36 = ev 36 by rw [o1, va_up_ne _ _ (by decide), va_up_ne _ _ (by decide), va_up_ne _ _ (by decide), va_up_ne _ _ (by decide), va_up_ne _ _ (by decide)]).trans g36
  have t1_22 := (show ev1 22 = ev 22 by rw [o1, va_up_ne _ _ (by decide), va_up_ne _ _ (by decide), va_up_ne _ _ (by decide), va_up_ne _ _ (by decide), va_up_ne _ _ (by decide)]).trans g22
  have t1_23 := (show ev1 23 = ev 23 by rw [o1, va_up_ne _ _ (by decide), va_up_ne _ _ (by decide), va_up_ne _ _ (by decide), va_up_ne _ _ (by decide), va_up_ne _ _ (by decide)]).trans g23
  have t1_24 := (show ev1 24 = ev 24 by rw [o1, va_up_ne _ _ (by decide), va_up_ne _ _ (by decide), va_up_ne _ _ (by decide), va_up_ne _ _ (by decide), va_up_ne _ _ (by decide)]).trans g24
  have t1_25 := (show ev1 25 = ev 25 by rw [o1, va_up_ne _ _ (by decide), va_up_ne _ _ (by decide), va_up_ne _ _ (by decide), va_up_ne _ _ (by decide), va_up_ne _ _ (by decide)]).trans g25
  have t1_26 := (show ev1 26 = ev 26 by rw [o1, va_up_ne _ _ (by decide), va_up_ne _ _ (by decide), va_up_ne _ _ (by decide), va_up_ne _ _ (by decide), va_up_ne _ _ (by decide)]).trans g26
  have t1_27 := (show ev1 27 = ev 27 by rw [o1, va_up_ne _ _ (by decide), va_up_ne _ _ (by decide), va_up_ne _ _ (by decide), va_up_ne _ _ (by decide), va_up_ne _ _ (by decide)]).trans g27
  have t1_28 := (show ev1 28 = ev 28 by rw [o1, va_up_ne _ _ (by decide), va_up_ne _ _ (by decide), va_up_ne _ _ (by decide), va_up_ne _ _ (by decide), va_up_ne _ _ (by decide)]).trans g28
  have t1_29 := (show ev1 29 = ev 29 by rw [o1, va_up_ne _ _ (by decide), va_up_ne _ _ (by decide), va_up_ne _ _ (by decide), va_up_ne _ _ (by decide), va_up_ne _ _ (by decide)]).trans g29
  have t1_30 := (show ev1 30 = ev 30 by rw [o1, va_up_ne _ _ (by decide), va_up_ne _ _ (by decide), va_up_ne _ _ (by decide), va_up_ne _ _ (by decide), va_up_ne _ _ (by decide)]).trans g30
  have t1_31 := (show ev1 31 = ev 31 by rw [o1, va_up_ne _ _ (by decide), va_up_ne _ _ (by decide), va_up_ne _ _ (by decide), va_up_ne _ _ (by decide), va_up_ne _ _ (by decide)]).trans g31
  have t1_32 := (show ev1 32 = ev 32 by rw [o1, va_up_ne _ _ (by decide), va_up_ne _ _ (by decide), va_up_ne _ _ (by decide), va_up_ne _ _ (by decide), va_up_ne _ _ (by decide)]).trans g32
  have t1_33 := (show ev1 33 = ev 33 by rw [o1, va_up_ne _ _ (by decide), va_up_ne _ _ (by decide), va_up_ne _ _ (by decide), va_up_ne _ _ (by decide), va_up_ne _ _ (by decide)]).trans g33
  have t1_0 := (show ev1 0 = ev 0 by rw [o1, va_up_ne _ _ (by decide), va_up_ne _ _ (by decide), va_up_ne _ _ (by decide), va_up_ne _ _ (by decide), va_up_ne _ _ (by decide)]).trans g0
  have t1_6 := (show ev1 6 = ev 6 by rw [o1, va_up_ne _ _ (by decide), va_up_ne _ _ (by decide), va_up_ne _ _ (by decide), va_up_ne _ _ (by decide), va_up_ne _ _ (by decide)]).trans g6
  have t1_12 := (show ev1 12 = ev 12 by rw [o1, va_up_ne _ _ (by decide), va_up_ne _ _ (by decide), va_up_ne _ _ (by decide), va_up_ne _ _ (by decide), va_up_ne _ _ (by decide)]).trans g12
  have t1_13 := (show ev1 13 = ev 13 by rw [o1, va_up_ne _ _ (by decide), va_up_ne _ _ (by decide), va_up_ne _ _ (by decide), va_up_ne _ _ (by decide), va_up_ne _ _ (by decide)]).trans g13
  have t1_18 := (show ev1 18 = ev 18 by rw [o1, va_up_ne _ _ (by decide), va_up_ne _ _ (by decide), va_up_ne _ _ (by decide), va_up_ne _ _ (by decide), va_up_ne _ _ (by decide)]).trans g18
  have t1_19 := (show ev1 19 = ev 19 by rw [o1, va_up_ne _ _ (by decide), va_up_ne _ _ (by decide), va_up_ne _ _ (by decide), va_up_ne _ _ (by decide), va_up_ne _ _ (by decide)]).trans g19
  refine lv_astore_n (lv' := [(3, .ref (ad 11)), (2, .int (nI (tl - 16))), (0, .ref (ad 0)), (1, .ref (ad qs))]) hx hb d_NB_openBy_24 rfl hl (by decide) rfl (fun ls hl => ?_)
  refine lv_aload_n hx hb d_NB_openBy_25 rfl (lv_at hl 2 rfl) ?_
  refine wv_getf hx hb h 0 (by decide) (fs := [.ref (ad 1), .ref (ad 2), .ref (ad 3), .ref (ad 4), .ref (ad 5), .int (nI (tl)), .int (nI (ol)), .ref (ad 6), .ref (ad 12), .ref (ad 18), .ref (ad 34), .ref (ad 35), .ref (ad 36)]) t1_0 hts (fun w hw => List.mem_cons_of_mem _ (fW_NB w hw)) hown (ci := 4) (C := "NonceBox") (T := fT_NB) (N := 13) rfl 8 (by decide) (hts _ (List.mem_cons_of_mem _ kf_NB_42)) rfl (v := .ref (ad 12)) rfl d_NB_openBy_26 ?_
  refine lv_aload_n hx hb d_NB_openBy_29 rfl (lv_at hl 0 rfl) ?_
  refine lv_aload_n hx hb d_NB_openBy_30 rfl (lv_at hl 2 rfl) ?_
  refine wv_getf hx hb h 0 (by decide) (fs := [.ref (ad 1), .ref (ad 2), .ref (ad 3), .ref (ad 4), .ref (ad 5), .int (nI (tl)), .int (nI (ol)), .ref (ad 6), .ref (ad 12), .ref (ad 18), .ref (ad 34), .ref (ad 35), .ref (ad 36)]) t1_0 hts (fun w hw => List.mem_cons_of_mem _ (fW_NB w hw)) hown (ci := 4) (C := "NonceBox") (T := fT_NB) (N := 13) rfl 3 (by decide) (hts _ (List.mem_cons_of_mem _ kf_NB_19)) rfl (v := .ref (ad 4)) rfl d_NB_openBy_31 ?_
  refine lv_bipush (v := nI (16)) hx hb d_NB_openBy_34 (by decide) ?_
  refine lv_iload_n hx hb d_NB_openBy_36 rfl (lv_at hl 1 rfl) ?_
  refine lv_aload_n hx hb d_NB_openBy_37 rfl (lv_at hl 2 rfl) ?_
  refine wv_getf hx hb h 0 (by decide) (fs := [.ref (ad 1), .ref (ad 2), .ref (ad 3), .ref (ad 4), .ref (ad 5), .int (nI (tl)), .int (nI (ol)), .ref (ad 6), .ref (ad 12), .ref (ad 18), .ref (ad 34), .ref (ad 35), .ref (ad 36)]) t1_0 hts (fun w hw => List.mem_cons_of_mem _ (fW_NB w hw)) hown (ci := 4) (C := "NonceBox") (T := fT_NB) (N := 13) rfl 12 (by decide) (hts _ (List.mem_cons_of_mem _ kf_NB_59)) rfl (v := .ref (ad 36)) rfl d_NB_openBy_38 ?_
  refine wv_V (As := [.ref (ad 11), .ref (ad 4), .int (nI (16)), .int (nI (tl - 16)), .ref (ad 36)]) (rest := []) (k := 5) ⟨hx, hb, hml, hown, hts⟩ h 12 (by decide) (C := "NonceBox$Tagger") t1_12 rfl (m_Tg_tagInto l G A ad ev1 11 4 36 128 112 112 16 (tl - 16) S2 (Bf 3) x36 x17 x14 x15 x16 t1_12 t1_13 (by decide) (by decide) (by decide) t1_11 t1_4 t1_36 hS2 (hB 3) t1_14 t1_15 t1_16 t1_17 (by decide) (by decide) (by omega) (by decide) (by decide) (by decide) (by decide) (by decide) (by decide)) kc_Tg_tagInto kl_NB_88 km_Tg_tagInto kv_Tg_tagInto ki_Tg (by decide +kernel) ⟨rfl, rfl, Nat.le_of_ble_eq_true rfl, Nat.le_of_ble_eq_true rfl⟩ hl.1 rfl rfl (Nat.le_of_ble_eq_true rfl) ⟨Nat.le_refl _, Nat.le_refl _⟩ d_NB_openBy_41 ?_
  intro ov ev2 H locs hp h
  obtain ⟨Wd, hp⟩ := hp
  rw [hp.1]
  refine W.eq (g2 := F0 m 44 ls []) rfl ?_
  have o2 : ev2 = (va_up (va_up (va_up (va_up (va_up ev1 14 (eJ G 10 Wd)) 15 (eJ G 5 (tagRow S2 (Bf 3) 16 (tl - 16)))) 16 (eJ G 5 (fRow S2))) 17 (eB G 16 (bs (FCT S2)))) 36 (eB G 112 (bs (fil 0 16 (TAGB S2 (Bf 3) 16 (tl - 16)) x36)))) := hp.2
  have t2_14 : ev2 14 = eJ G 10 Wd := by rw [o2, va_up_ne _ _ (by decide), va_up_ne _ _ (by decide), va_up_ne _ _ (by decide), va_up_ne _ _ (by decide), va_up_self]
  have t2_15 : ev2 15 = eJ G 5 (tagRow S2 (Bf 3) 16 (tl - 16)) := by rw [o2, va_up_ne _ _ (by decide), va_up_ne _ _ (by decide), va_up_ne _ _ (by decide), va_up_self]
  have t2_16 : ev2 16 = eJ G 5 (fRow S2) := by rw [o2, va_up_ne _ _ (by decide), va_up_ne _ _ (by decide), va_up_self]
  have t2_17 : ev2 17 = eB G 16 (bs (FCT S2)) := by rw [o2, va_up_ne _ _ (by decide), va_up_self]
  have t2_36 : ev2 36 = eB G 112 (bs (fil 0 16 (TAGB S2 (Bf 3) 16 (tl - 16)) x36)) := by rw [o2, va_up_self]
  have t2_1 := (show ev2 1 = ev1 1 by rw [o2, va_up_ne _ _ (by decide), va_up_ne _ _ (by decide), va_up_ne _ _ (by decide), va_up_ne _ _ (by decide), va_up_ne _ _ (by decide)]).trans t1_1
  have t2_2 := (show ev2 2 = ev1 2 by rw [o2, va_up_ne _ _ (by decide), va_up_ne _ _ (by decide), va_up_ne _ _ (by decide), va_up_ne _ _ (by decide), va_up_ne _ _ (by decide)]).trans t1_2
  have t2_3 := (show ev2 3 = ev1 3 by rw [o2, va_up_ne _ _ (by decide), va_up_ne _ _ (by decide), va_up_ne _ _ (by decide), va_up_ne _ _ (by decide), va_up_ne _ _ (by decide)]).trans t1_3
  have t2_4 := (show ev2 4 = ev1 4 by rw [o2, va_up_ne _ _ (by decide), va_up_ne _ _ (by decide), va_up_ne _ _ (by decide), va_up_ne _ _ (by decide), va_up_ne _ _ (by decide)]).trans t1_4
  have t2_5 := (show ev2 5 = ev1 5 by rw [o2, va_up_ne _ _ (by decide), va_up_ne _ _ (by decide), va_up_ne _ _ (by decide), va_up_ne _ _ (by decide), va_up_ne _ _ (by decide)]).trans t1_5
  have t2_35 := (show ev2 35 = ev1 35 by rw [o2, va_up_ne _ _ (by decide), va_up_ne _ _ (by decide), va_up_ne _ _ (by decide), va_up_ne _ _ (by decide), va_up_ne _ _ (by decide)]).trans t1_35
  have t2_7 := (show ev2 7 = ev1 7 by rw [o2, va_up_ne _ _ (by decide), va_up_ne _ _ (by decide), va_up_ne _ _ (by decide), va_up_ne _ _ (by decide), va_up_ne _ _ (by decide)]).trans t1_7
  have t2_8 := (show ev2 8 = ev1 8 by rw [o2, va_up_ne _ _ (by decide), va_up_ne _ _ (by decide), va_up_ne _ _ (by decide), va_up_ne _ _ (by decide), va_up_ne _ _ (by decide)]).trans t1_8
  have t2_9 := (show ev2 9 = ev1 9 by rw [o2, va_up_ne _ _ (by decide), va_up_ne _ _ (by decide), va_up_ne _ _ (by decide), va_up_ne _ _ (by decide), va_up_ne _ _ (by decide)]).trans t1_9
  have t2_10 := (show ev2 10 = ev1 10 by rw [o2, va_up_ne _ _ (by decide), va_up_ne _ _ (by decide), va_up_ne _ _ (by decide), va_up_ne _ _ (by decide), va_up_ne _ _ (by decide)]).trans t1_10
  have t2_11 := (show ev2 11 = ev1 11 by rw [o2, va_up_ne _ _ (by decide), va_up_ne _ _ (by decide), va_up_ne _ _ (by decide), va_up_ne _ _ (by decide), va_up_ne _ _ (by decide)]).trans t1_11
  have t2_20 := (show ev2 20 = ev1 20 by rw [o2, va_up_ne _ _ (by decide), va_up_ne _ _ (by decide), va_up_ne _ _ (by decide), va_up_ne _ _ (by decide), va_up_ne _ _ (by decide)]).trans t1_20
  have t2_21 := (show ev2 21 = ev1 21 by rw [o2, va_up_ne _ _ (by decide), va_up_ne _ _ (by decide), va_up_ne _ _ (by decide), va_up_ne _ _ (by decide), va_up_ne _ _ (by decide)]).trans t1_21
  have t2_34 := (show ev2 34 = ev1 34 by rw [o2, va_up_ne _ _ (by decide), va_up_ne _ _ (by decide), va_up_ne _ _ (by decide), va_up_ne _ _ (by decide), va_up_ne _ _ (by decide)]).trans t1_34
  have t2_22 := (show ev2 22 = ev1 22 by rw [o2, va_up_ne _ _ (by decide), va_up_ne _ _ (by decide), va_up_ne _ _ (by decide), va_up_ne _ _ (by decide), va_up_ne _ _ (by decide)]).trans t1_22
  have t2_23 := (show ev2 23 = ev1 23 by rw [o2, va_up_ne _ _ (by decide), va_up_ne _ _ (by decide), va_up_ne _ _ (by decide), va_up_ne _ _ (by decide), va_up_ne _ _ (by decide)]).trans t1_23
  have t2_24 := (show ev2 24 = ev1 24 by rw [o2, va_up_ne _ _ (by decide), va_up_ne _ _ (by decide), va_up_ne _ _ (by decide), va_up_ne _ _ (by decide), va_up_ne _ _ (by decide)]).trans t1_24
  have t2_25 := (show ev2 25 = ev1 25 by rw [o2, va_up_ne _ _ (by decide), va_up_ne _ _ (by decide), va_up_ne _ _ (by decide), va_up_ne _ _ (by decide), va_up_ne _ _ (by decide)]).trans t1_25
  have t2_26 := (show ev2 26 = ev1 26 by rw [o2, va_up_ne _ _ (by decide), va_up_ne _ _ (by decide), va_up_ne _ _ (by decide), va_up_ne _ _ (by decide), va_up_ne _ _ (by decide)]).trans t1_26
  have t2_27 := (show ev2 27 = ev1 27 by rw [o2, va_up_ne _ _ (by decide), va_up_ne _ _ (by decide), va_up_ne _ _ (by decide), va_up_ne _ _ (by decide), va_up_ne _ _ (by decide)]).trans t1_27
  have t2_28 := (show ev2 28 = ev1 28 by rw [o2, va_up_ne _ _ (by decide), va_up_ne _ _ (by decide), va_up_ne _ _ (by decide), va_up_ne _ _ (by decide), va_up_ne _ _ (by decide)]).trans t1_28
  have t2_29 := (show ev2 29 = ev1 29 by rw [o2, va_up_ne _ _ (by decide), va_up_ne _ _ (by decide), va_up_ne _ _ (by decide), va_up_ne _ _ (by decide), va_up_ne _ _ (by decide)]).trans t1_29
  have t2_30 := (show ev2 30 = ev1 30 by rw [o2, va_up_ne _ _ (by decide), va_up_ne _ _ (by decide), va_up_ne _ _ (by decide), va_up_ne _ _ (by decide), va_up_ne _ _ (by decide)]).trans t1_30
  have t2_31 := (show ev2 31 = ev1 31 by rw [o2, va_up_ne _ _ (by decide), va_up_ne _ _ (by decide), va_up_ne _ _ (by decide), va_up_ne _ _ (by decide), va_up_ne _ _ (by decide)]).trans t1_31
  have t2_32 := (show ev2 32 = ev1 32 by rw [o2, va_up_ne _ _ (by decide), va_up_ne _ _ (by decide), va_up_ne _ _ (by decide), va_up_ne _ _ (by decide), va_up_ne _ _ (by decide)]).trans t1_32
  have t2_33 := (show ev2 33 = ev1 33 by rw [o2, va_up_ne _ _ (by decide), va_up_ne _ _ (by decide), va_up_ne _ _ (by decide), va_up_ne _ _ (by decide), va_up_ne _ _ (by decide)]).trans t1_33
  have t2_0 := (show ev2 0 = ev1 0 by rw [o2, va_up_ne _ _ (by decide), va_up_ne _ _ (by decide), va_up_ne _ _ (by decide), va_up_ne _ _ (by decide), va_up_ne _ _ (by decide)]).trans t1_0
  have t2_6 := (show ev2 6 = ev1 6 by rw [o2, va_up_ne _ _ (by decide), va_up_ne _ _ (by decide), va_up_ne _ _ (by decide), va_up_ne _ _ (by decide), va_up_ne _ _ (by decide)]).trans t1_6
  have t2_12 := (show ev2 12 = ev1 12 by rw [o2, va_up_ne _ _ (by decide), va_up_ne _ _ (by decide), va_up_ne _ _ (by decide), va_up_ne _ _ (by decide), va_up_ne _ _ (by decide)]).trans t1_12
  have t2_13 := (show ev2 13 = ev1 13 by rw [o2, va_up_ne _ _ (by decide), va_up_ne _ _ (by decide), va_up_ne _ _ (by decide), va_up_ne _ _ (by decide), va_up_ne _ _ (by decide)]).trans t1_13
  have t2_18 := (show ev2 18 = ev1 18 by rw [o2, va_up_ne _ _ (by decide), va_up_ne _ _ (by decide), va_up_ne _ _ (by decide), va_up_ne _ _ (by decide), va_up_ne _ _ (by decide)]).trans t1_18
  have t2_19 := (show ev2 19 = ev1 19 by rw [o2, va_up_ne _ _ (by decide), va_up_ne _ _ (by decide), va_up_ne _ _ (by decide), va_up_ne _ _ (by decide), va_up_ne _ _ (by decide)]).trans t1_19
  refine lv_aload_n hx hb d_NB_openBy_44 rfl (lv_at hl 2 rfl) ?_
  refine wv_V (As := []) (rest := []) (k := 0) ⟨hx, hb, hml, hown, hts⟩ h 0 (by decide) (C := "NonceBox") t2_0 rfl (m_NB_textBeginsAsWork l G A ad ev2 tl ol (Bf 3) (fil 0 16 (TAGB S2 (Bf 3) 16 (tl - 16)) x36) t2_0 t2_4 t2_36 (hB 3) (fil_lt (TAGB_lt _ _ _ _) b36)) kc_NB_textBeginsAsWork kl_NB_126 km_NB_textBeginsAsWork kv_NB_textBeginsAsWork ki_NB (by decide +kernel) ⟨rfl, rfl, Nat.le_of_ble_eq_true rfl, Nat.le_of_ble_eq_true rfl⟩ hl.1 rfl rfl (Nat.le_of_ble_eq_true rfl) ⟨Nat.le_refl _, Nat.le_refl _⟩ d_NB_openBy_45 ?_
  intro ov ev8 H locs hp h
  obtain ⟨ans, ho, he, hp⟩ := hp
  rw [he] at h
  have ek : (∀ j, j < 16 → Bf 3 j = (fil 0 16 (TAGB S2 (Bf 3) 16 (tl - 16)) x36) j) ↔ tagOK S (Bf 1) (Bf 3) (tl - 16) := by
    have e : ∀ j, j < 16 → (fil 0 16 (TAGB S2 (Bf 3) 16 (tl - 16)) x36) j = TAGM (STRB S (Bf 1)) (Bf 3) 16 (tl - 16) j := by
      intro j hj
      rw [← Nat.zero_add j, fil_in hj, Nat.zero_add, TAGB_eq hS2 (hB 3) j hj, TAGM_congr (L := STRB S (Bf 1)) (Y := Bf 3) (o2 := 16) (fun i hi => hS3 i (by omega)) (fun _ _ => rfl)]
    exact ⟨fun q j hj => (q j hj).trans (e j hj), fun q j hj => (q j hj).trans (e j hj).symm⟩
  rw [ek] at hp
  rcases hp with ⟨rfl, hok⟩ | ⟨rfl, hok⟩
  · rw [ho]
    refine W.eq (g2 := F0 m 48 ls [.int (nI 1)]) rfl ?_
    refine lv_if_ne (tgt := 53) hx hb d_NB_openBy_48 (by decide) (fun _ => ?_) (fun hc => absurd hc (by decide))
    refine lv_iconst (v := nI (0)) hx hb d_NB_openBy_53 (by decide) ?_
    refine lv_istore (lv' := [(4, .int (nI (0))), (3, .ref (ad 11)), (2, .int (nI (tl - 16))), (0, .ref (ad 0)), (1, .ref (ad qs))]) hx hb d_NB_openBy_54 hl (by decide) rfl (fun ls hl => ?_)
    obtain ⟨x37, ex37⟩ : ∃ z, z = (fil 0 16 (TAGB S2 (Bf 3) 16 (tl - 16)) x36) := ⟨_, rfl⟩
    have b37 : ∀ j, x37 j < 256 := by rw [ex37]; exact (fil_lt (TAGB_lt _ _ _ _) b36)
    have g37 : ev2 36 = eB G 112 (bs x37) := by rw [ex37]; exact t2_36
    have loop3 : ∀ (d t0 : Nat), t0 + d = tl - 16 →  ∀ (ev3 : Nat → va_E) (H : Heap) (locs : List Loc) (ls : Array Slot), ev3 = (va_up ev2 36 (eB G 112 (bs (fil 0 t0 (fun i => Bf 3 (16 + i) ^^^ S2 (32 + i)) x37)))) → wT G A 52 ad ev3 s H locs → lv_has ls 5 [(4, .int (nI (t0))), (3, .ref (ad 11)), (2, .int (nI (tl - 16))), (0, .ref (ad 0)), (1, .ref (ad qs))] → W p l e ({ frames := 24, cells := 0, slots := 0, locals := 800 }) s m ([.ref (ad 0), .ref (ad qs)] : List Value).toArray below meth c H locs 0 0 (MQ below (wQc G A 52 ad (fun ov ev' => ∃ (ans : Int32) (Bf' : Nat → Nat → Nat) (ol' : Nat), ov = some (.int ans) ∧ ((ans = nI 1 ∧ tagOK S (Bf 1) (Bf 3) (tl - 16) ∧ Bf' = va_up Bf 4 (outF (tl - 16) (OPNB S (Bf 1) (Bf 3))) ∧ ol' = tl - 16) ∨ (ans = nI 0 ∧ ¬ tagOK S (Bf 1) (Bf 3) (tl - 16) ∧ Bf' = Bf ∧ ol' = ol)) ∧ NB G ad ev' Bf' tl ol' ∧ ∀ j, 37 ≤ j → ev' j = ev j)) ([.ref (ad 0), .ref (ad qs)] : List Value).toArray s 0 0 A) (F0 m 56 ls []) := by
      intro d
      induction d with
      | zero =>
        intro t0 hk_t0  ev3 H locs ls  o3 h hl
        have t3_36 : ev3 36 = eB G 112 (bs (fil 0 t0 (fun i => Bf 3 (16 + i) ^^^ S2 (32 + i)) x37)) := by rw [o3, va_up_self]
        have t3_1 := (show ev3 1 = ev2 1 by rw [o3, va_up_ne _ _ (by decide)]).trans t2_1
        have t3_2 := (show ev3 2 = ev2 2 by rw [o3, va_up_ne _ _ (by decide)]).trans t2_2
        have t3_3 := (show ev3 3 = ev2 3 by rw [o3, va_up_ne _ _ (by decide)]).trans t2_3
        have t3_4 := (show ev3 4 = ev2 4 by rw [o3, va_up_ne _ _ (by decide)]).trans t2_4
        have t3_5 := (show ev3 5 = ev2 5 by rw [o3, va_up_ne _ _ (by decide)]).trans t2_5
        have t3_35 := (show ev3 35 = ev2 35 by rw [o3, va_up_ne _ _ (by decide)]).trans t2_35
        have t3_7 := (show ev3 7 = ev2 7 by rw [o3, va_up_ne _ _ (by decide)]).trans t2_7
        have t3_8 := (show ev3 8 = ev2 8 by rw [o3, va_up_ne _ _ (by decide)]).trans t2_8
        have t3_9 := (show ev3 9 = ev2 9 by rw [o3, va_up_ne _ _ (by decide)]).trans t2_9
        have t3_10 := (show ev3 10 = ev2 10 by rw [o3, va_up_ne _ _ (by decide)]).trans t2_10
        have t3_11 := (show ev3 11 = ev2 11 by rw [o3, va_up_ne _ _ (by decide)]).trans t2_11
        have t3_14 := (show ev3 14 = ev2 14 by rw [o3, va_up_ne _ _ (by decide)]).trans t2_14
        have t3_15 := (show ev3 15 = ev2 15 by rw [o3, va_up_ne _ _ (by decide)]).trans t2_15
        have t3_16 := (show ev3 16 = ev2 16 by rw [o3, va_up_ne _ _ (by decide)]).trans t2_16
        have t3_17 := (show ev3 17 = ev2 17 by rw [o3, va_up_ne _ _ (by decide)]).trans t2_17
        have t3_20 := (show ev3 20 = ev2 20 by rw [o3, va_up_ne _ _ (by decide)]).trans t2_20
        have t3_21 := (show ev3 21 = ev2 21 by rw [o3, va_up_ne _ _ (by decide)]).trans t2_21
        have t3_34 := (show ev3 34 = ev2 34 by rw [o3, va_up_ne _ _ (by decide)]).trans t2_34
        have t3_22 := (show ev3 22 = ev2 22 by rw [o3, va_up_ne _ _ (by decide)]).trans t2_22
        have t3_23 := (show ev3 23 = ev2 23 by rw [o3, va_up_ne _ _ (by decide)]).trans t2_23
        have t3_24 := (show ev3 24 = ev2 24 by rw [o3, va_up_ne _ _ (by decide)]).trans t2_24
        have t3_25 := (show ev3 25 = ev2 25 by rw [o3, va_up_ne _ _ (by decide)]).trans t2_25
        have t3_26 := (show ev3 26 = ev2 26 by rw [o3, va_up_ne _ _ (by decide)]).trans t2_26
        have t3_27 := (show ev3 27 = ev2 27 by rw [o3, va_up_ne _ _ (by decide)]).trans t2_27
        have t3_28 := (show ev3 28 = ev2 28 by rw [o3, va_up_ne _ _ (by decide)]).trans t2_28
        have t3_29 := (show ev3 29 = ev2 29 by rw [o3, va_up_ne _ _ (by decide)]).trans t2_29
        have t3_30 := (show ev3 30 = ev2 30 by rw [o3, va_up_ne _ _ (by decide)]).trans t2_30
        have t3_31 := (show ev3 31 = ev2 31 by rw [o3, va_up_ne _ _ (by decide)]).trans t2_31
        have t3_32 := (show ev3 32 = ev2 32 by rw [o3, va_up_ne _ _ (by decide)]).trans t2_32
        have t3_33 := (show ev3 33 = ev2 33 by rw [o3, va_up_ne _ _ (by decide)]).trans t2_33
        have t3_0 := (show ev3 0 = ev2 0 by rw [o3, va_up_ne _ _ (by decide)]).trans t2_0
        have t3_6 := (show ev3 6 = ev2 6 by rw [o3, va_up_ne _ _ (by decide)]).trans t2_6
        have t3_12 := (show ev3 12 = ev2 12 by rw [o3, va_up_ne _ _ (by decide)]).trans t2_12
        have t3_13 := (show ev3 13 = ev2 13 by rw [o3, va_up_ne _ _ (by decide)]).trans t2_13
        have t3_18 := (show ev3 18 = ev2 18 by rw [o3, va_up_ne _ _ (by decide)]).trans t2_18
        have t3_19 := (show ev3 19 = ev2 19 by rw [o3, va_up_ne _ _ (by decide)]).trans t2_19
        refine lv_iload hx hb d_NB_openBy_56 (lv_at hl 0 rfl) ?_
        refine lv_iload_n hx hb d_NB_openBy_58 rfl (lv_at hl 2 rfl) ?_
        refine lv_icmp_ge (tgt := 94) hx hb d_NB_openBy_59 (by decide) (fun _ => ?_) (fun hc => absurd ((nI_leI (by omega) (by omega)).mpr (by omega)) hc)
        have et : t0 = tl - 16 := by omega
        rw [et] at t3_36
        refine lv_aload_n hx hb d_NB_openBy_94 rfl (lv_at hl 3 rfl) ?_
        refine lv_iload_n hx hb d_NB_openBy_95 rfl (lv_at hl 2 rfl) ?_
        refine wv_V (As := [.int (nI (tl - 16))]) (rest := []) (k := 1) ⟨hx, hb, hml, hown, hts⟩ h 0 (by decide) (C := "NonceBox") t3_0 rfl (m_NB_showWork l G A ad ev3 tl ol (tl - 16) (Bf 4) (fil 0 (tl - 16) (fun i => Bf 3 (16 + i) ^^^ S2 (32 + i)) x37) t3_0 t3_5 t3_36 (by omega)) kc_NB_showWork kl_NB_80 km_NB_showWork kv_NB_showWork ki_NB (by decide +kernel) ⟨rfl, rfl, Nat.le_of_ble_eq_true rfl, Nat.le_of_ble_eq_true rfl⟩ hl.1 rfl rfl (Nat.le_of_ble_eq_true rfl) ⟨Nat.le_refl _, Nat.le_refl _⟩ d_NB_openBy_96 ?_
        intro ov ev4 H locs hp h
        rw [hp.1]
        refine W.eq (g2 := F0 m 99 ls []) rfl ?_
        have o4 : ev4 = va_up (va_up ev3 5 (eB G 112 (bs (outF (tl - 16) (fil 0 (tl - 16) (fun i => Bf 3 (16 + i) ^^^ S2 (32 + i)) x37))))) 0 (eO 4 [.ref (ad 1), .ref (ad 2), .ref (ad 3), .ref (ad 4), .ref (ad 5), .int (nI tl), .int (nI ((tl - 16))), .ref (ad 6), .ref (ad 12), .ref (ad 18), .ref (ad 34), .ref (ad 35), .ref (ad 36)]) := hp.2
        have t4_5 : ev4 5 = eB G 112 (bs (outF (tl - 16) (fil 0 (tl - 16) (fun i => Bf 3 (16 + i) ^^^ S2 (32 + i)) x37))) := by rw [o4, va_up_ne _ _ (by decide), va_up_self]
        have t4_0 : ev4 0 = eO 4 [.ref (ad 1), .ref (ad 2), .ref (ad 3), .ref (ad 4), .ref (ad 5), .int (nI tl), .int (nI ((tl - 16))), .ref (ad 6), .ref (ad 12), .ref (ad 18), .ref (ad 34), .ref (ad 35), .ref (ad 36)] := by rw [o4, va_up_self]
        have t4_1 := (show ev4 1 = ev3 1 by rw [o4, va_up_ne _ _ (by decide), va_up_ne _ _ (by decide)]).trans t3_1
        have t4_2 := (show ev4 2 = ev3 2 by rw [o4, va_up_ne _ _ (by decide), va_up_ne _ _ (by decide)]).trans t3_2
        have t4_3 := (show ev4 3 = ev3 3 by rw [o4, va_up_ne _ _ (by decide), va_up_ne _ _ (by decide)]).trans t3_3
        have t4_4 := (show ev4 4 = ev3 4 by rw [o4, va_up_ne _ _ (by decide), va_up_ne _ _ (by decide)]).trans t3_4
        have t4_35 := (show ev4 35 = ev3 35 by rw [o4, va_up_ne _ _ (by decide), va_up_ne _ _ (by decide)]).trans t3_35
        have t4_7 := (show ev4 7 = ev3 7 by rw [o4, va_up_ne _ _ (by decide), va_up_ne _ _ (by decide)]).trans t3_7
        have t4_8 := (show ev4 8 = ev3 8 by rw [o4, va_up_ne _ _ (by decide), va_up_ne _ _ (by decide)]).trans t3_8
        have t4_9 := (show ev4 9 = ev3 9 by rw [o4, va_up_ne _ _ (by decide), va_up_ne _ _ (by decide)]).trans t3_9
        have t4_10 := (show ev4 10 = ev3 10 by rw [o4, va_up_ne _ _ (by decide), va_up_ne _ _ (by decide)]).trans t3_10
        have t4_11 := (show ev4 11 = ev3 11 by rw [o4, va_up_ne _ _ (by decide), va_up_ne _ _ (by decide)]).trans t3_11
        have t4_14 := (show ev4 14 = ev3 14 by rw [o4, va_up_ne _ _ (by decide), va_up_ne _ _ (by decide)]).trans t3_14
        have t4_15 := (show ev4 15 = ev3 15 by rw [o4, va_up_ne _ _ (by decide), va_up_ne _ _ (by decide)]).trans t3_15
        have t4_16 := (show ev4 16 = ev3 16 by rw [o4, va_up_ne _ _ (by decide), va_up_ne _ _ (by decide)]).trans t3_16
        have t4_17 := (show ev4 17 = ev3 17 by rw [o4, va_up_ne _ _ (by decide), va_up_ne _ _ (by decide)]).trans t3_17
        have t4_20 := (show ev4 20 = ev3 20 by rw [o4, va_up_ne _ _ (by decide), va_up_ne _ _ (by decide)]).trans t3_20
        have t4_21 := (show ev4 21 = ev3 21 by rw [o4, va_up_ne _ _ (by decide), va_up_ne _ _ (by decide)]).trans t3_21
        have t4_34 := (show ev4 34 = ev3 34 by rw [o4, va_up_ne _ _ (by decide), va_up_ne _ _ (by decide)]).trans t3_34
        have t4_36 := (show ev4 36 = ev3 36 by rw [o4, va_up_ne _ _ (by decide), va_up_ne _ _ (by decide)]).trans t3_36
        have t4_22 := (show ev4 22 = ev3 22 by rw [o4, va_up_ne _ _ (by decide), va_up_ne _ _ (by decide)]).trans t3_22
        have t4_23 := (show ev4 23 = ev3 23 by rw [o4, va_up_ne _ _ (by decide), va_up_ne _ _ (by decide)]).trans t3_23
        have t4_24 := (show ev4 24 = ev3 24 by rw [o4, va_up_ne _ _ (by decide), va_up_ne _ _ (by decide)]).trans t3_24
        have t4_25 := (show ev4 25 = ev3 25 by rw [o4, va_up_ne _ _ (by decide), va_up_ne _ _ (by decide)]).trans t3_25
        have t4_26 := (show ev4 26 = ev3 26 by rw [o4, va_up_ne _ _ (by decide), va_up_ne _ _ (by decide)]).trans t3_26
        have t4_27 := (show ev4 27 = ev3 27 by rw [o4, va_up_ne _ _ (by decide), va_up_ne _ _ (by decide)]).trans t3_27
        have t4_28 := (show ev4 28 = ev3 28 by rw [o4, va_up_ne _ _ (by decide), va_up_ne _ _ (by decide)]).trans t3_28
        have t4_29 := (show ev4 29 = ev3 29 by rw [o4, va_up_ne _ _ (by decide), va_up_ne _ _ (by decide)]).trans t3_29
        have t4_30 := (show ev4 30 = ev3 30 by rw [o4, va_up_ne _ _ (by decide), va_up_ne _ _ (by decide)]).trans t3_30
        have t4_31 := (show ev4 31 = ev3 31 by rw [o4, va_up_ne _ _ (by decide), va_up_ne _ _ (by decide)]).trans t3_31
        have t4_32 := (show ev4 32 = ev3 32 by rw [o4, va_up_ne _ _ (by decide), va_up_ne _ _ (by decide)]).trans t3_32
        have t4_33 := (show ev4 33 = ev3 33 by rw [o4, va_up_ne _ _ (by decide), va_up_ne _ _ (by decide)]).trans t3_33
        have t4_6 := (show ev4 6 = ev3 6 by rw [o4, va_up_ne _ _ (by decide), va_up_ne _ _ (by decide)]).trans t3_6
        have t4_12 := (show ev4 12 = ev3 12 by rw [o4, va_up_ne _ _ (by decide), va_up_ne _ _ (by decide)]).trans t3_12
        have t4_13 := (show ev4 13 = ev3 13 by rw [o4, va_up_ne _ _ (by decide), va_up_ne _ _ (by decide)]).trans t3_13
        have t4_18 := (show ev4 18 = ev3 18 by rw [o4, va_up_ne _ _ (by decide), va_up_ne _ _ (by decide)]).trans t3_18
        have t4_19 := (show ev4 19 = ev3 19 by rw [o4, va_up_ne _ _ (by decide), va_up_ne _ _ (by decide)]).trans t3_19
        have eo : outF (tl - 16) (fil 0 (tl - 16) (fun i => Bf 3 (16 + i) ^^^ S2 (32 + i)) x37) = outF (tl - 16) (OPNB S (Bf 1) (Bf 3)) := outF_congr (fun j hj => by
            rw [← Nat.zero_add j, fil_in hj, Nat.zero_add]
            show Bf 3 (16 + j) ^^^ S2 (32 + j) = Bf 3 (16 + j) ^^^ STRB S (Bf 1) (32 + j)
            rw [hS3 _ (by omega)])
        rw [eo] at t4_5
        refine lv_iconst (v := nI (1)) hx hb d_NB_openBy_99 (by decide) ?_
        exact wv_zret hx hb hr hlocks h d_NB_openBy_100 rfl ⟨_, _, _, rfl, Or.inl ⟨rfl, hok, rfl, rfl⟩, ⟨t4_0, t4_1, t4_2, t4_3, t4_4, t4_5, t4_6, ⟨_, t4_7⟩, ⟨_, t4_8⟩, ⟨_, t4_9⟩, ⟨_, (plc_lt (hB 1) hvv), (fun j hj => by unfold PLC; rw [if_neg (by omega), if_neg (by omega)]), t4_10⟩, ⟨_, hS2, t4_11⟩, t4_12, t4_13, ⟨_, t4_14⟩, ⟨_, t4_15⟩, ⟨_, t4_16⟩, ⟨_, t4_17⟩, t4_18, t4_19, ⟨_, t4_20⟩, ⟨_, t4_21⟩, ⟨_, t4_22⟩, ⟨_, t4_23⟩, ⟨_, t4_24⟩, ⟨_, t4_25⟩, ⟨_, t4_26⟩, ⟨_, t4_27⟩, ⟨_, t4_28⟩, ⟨_, t4_29⟩, ⟨_, t4_30⟩, ⟨_, t4_31⟩, ⟨_, t4_32⟩, ⟨_, t4_33⟩, ⟨_, b34, t4_34⟩, t4_35, ⟨_, (fil_lt (fun j => xor_lt256 (hB 3 _) (hS2 _)) b37), t4_36⟩, Bf_lt hB (outF_lt (OPNB_lt _ _ (hB 3))) 4, htl, (by omega)⟩, (fun j hj => by rw [o4, va_up_ne _ _ (by omega), va_up_ne _ _ (by omega), o3, va_up_ne _ _ (by omega), o2, va_up_ne _ _ (by omega), va_up_ne _ _ (by omega), va_up_ne _ _ (by omega), va_up_ne _ _ (by omega), va_up_ne _ _ (by omega), o1, va_up_ne _ _ (by omega), va_up_ne _ _ (by omega), va_up_ne _ _ (by omega), va_up_ne _ _ (by omega), va_up_ne _ _ (by omega)])⟩
      | succ d ih =>
        intro t0 hk_t0  ev3 H locs ls  o3 h hl
        have t3_36 : ev3 36 = eB G 112 (bs (fil 0 t0 (fun i => Bf 3 (16 + i) ^^^ S2 (32 + i)) x37)) := by rw [o3, va_up_self]
        have t3_1 := (show ev3 1 = ev2 1 by rw [o3, va_up_ne _ _ (by decide)]).trans t2_1
        have t3_2 := (show ev3 2 = ev2 2 by rw [o3, va_up_ne _ _ (by decide)]).trans t2_2
        have t3_3 := (show ev3 3 = ev2 3 by rw [o3, va_up_ne _ _ (by decide)]).trans t2_3
        have t3_4 := (show ev3 4 = ev2 4 by rw [o3, va_up_ne _ _ (by decide)]).trans t2_4
        have t3_5 := (show ev3 5 = ev2 5 by rw [o3, va_up_ne _ _ (by decide)]).trans t2_5
        have t3_35 := (show ev3 35 = ev2 35 by rw [o3, va_up_ne _ _ (by decide)]).trans t2_35
        have t3_7 := (show ev3 7 = ev2 7 by rw [o3, va_up_ne _ _ (by decide)]).trans t2_7
        have t3_8 := (show ev3 8 = ev2 8 by rw [o3, va_up_ne _ _ (by decide)]).trans t2_8
        have t3_9 := (show ev3 9 = ev2 9 by rw [o3, va_up_ne _ _ (by decide)]).trans t2_9
        have t3_10 := (show ev3 10 = ev2 10 by rw [o3, va_up_ne _ _ (by decide)]).trans t2_10
        have t3_11 := (show ev3 11 = ev2 11 by rw [o3, va_up_ne _ _ (by decide)]).trans t2_11
        have t3_14 := (show ev3 14 = ev2 14 by rw [o3, va_up_ne _ _ (by decide)]).trans t2_14
        have t3_15 := (show ev3 15 = ev2 15 by rw [o3, va_up_ne _ _ (by decide)]).trans t2_15
        have t3_16 := (show ev3 16 = ev2 16 by rw [o3, va_up_ne _ _ (by decide)]).trans t2_16
        have t3_17 := (show ev3 17 = ev2 17 by rw [o3, va_up_ne _ _ (by decide)]).trans t2_17
        have t3_20 := (show ev3 20 = ev2 20 by rw [o3, va_up_ne _ _ (by decide)]).trans t2_20
        have t3_21 := (show ev3 21 = ev2 21 by rw [o3, va_up_ne _ _ (by decide)]).trans t2_21
        have t3_34 := (show ev3 34 = ev2 34 by rw [o3, va_up_ne _ _ (by decide)]).trans t2_34
        have t3_22 := (show ev3 22 = ev2 22 by rw [o3, va_up_ne _ _ (by decide)]).trans t2_22
        have t3_23 := (show ev3 23 = ev2 23 by rw [o3, va_up_ne _ _ (by decide)]).trans t2_23
        have t3_24 := (show ev3 24 = ev2 24 by rw [o3, va_up_ne _ _ (by decide)]).trans t2_24
        have t3_25 := (show ev3 25 = ev2 25 by rw [o3, va_up_ne _ _ (by decide)]).trans t2_25
        have t3_26 := (show ev3 26 = ev2 26 by rw [o3, va_up_ne _ _ (by decide)]).trans t2_26
        have t3_27 := (show ev3 27 = ev2 27 by rw [o3, va_up_ne _ _ (by decide)]).trans t2_27
        have t3_28 := (show ev3 28 = ev2 28 by rw [o3, va_up_ne _ _ (by decide)]).trans t2_28
        have t3_29 := (show ev3 29 = ev2 29 by rw [o3, va_up_ne _ _ (by decide)]).trans t2_29
        have t3_30 := (show ev3 30 = ev2 30 by rw [o3, va_up_ne _ _ (by decide)]).trans t2_30
        have t3_31 := (show ev3 31 = ev2 31 by rw [o3, va_up_ne _ _ (by decide)]).trans t2_31
        have t3_32 := (show ev3 32 = ev2 32 by rw [o3, va_up_ne _ _ (by decide)]).trans t2_32
        have t3_33 := (show ev3 33 = ev2 33 by rw [o3, va_up_ne _ _ (by decide)]).trans t2_33
        have t3_0 := (show ev3 0 = ev2 0 by rw [o3, va_up_ne _ _ (by decide)]).trans t2_0
        have t3_6 := (show ev3 6 = ev2 6 by rw [o3, va_up_ne _ _ (by decide)]).trans t2_6
        have t3_12 := (show ev3 12 = ev2 12 by rw [o3, va_up_ne _ _ (by decide)]).trans t2_12
        have t3_13 := (show ev3 13 = ev2 13 by rw [o3, va_up_ne _ _ (by decide)]).trans t2_13
        have t3_18 := (show ev3 18 = ev2 18 by rw [o3, va_up_ne _ _ (by decide)]).trans t2_18
        have t3_19 := (show ev3 19 = ev2 19 by rw [o3, va_up_ne _ _ (by decide)]).trans t2_19
        refine lv_iload hx hb d_NB_openBy_56 (lv_at hl 0 rfl) ?_
        refine lv_iload_n hx hb d_NB_openBy_58 rfl (lv_at hl 2 rfl) ?_
        refine lv_icmp_ge (tgt := 94) hx hb d_NB_openBy_59 (by decide) (fun hc => absurd ((nI_leI (by omega) (by omega)).mp hc) (by omega)) (fun _ => ?_)
        refine lv_aload_n hx hb d_NB_openBy_62 rfl (lv_at hl 3 rfl) ?_
        refine wv_getf hx hb h 0 (by decide) (fs := [.ref (ad 1), .ref (ad 2), .ref (ad 3), .ref (ad 4), .ref (ad 5), .int (nI (tl)), .int (nI (ol)), .ref (ad 6), .ref (ad 12), .ref (ad 18), .ref (ad 34), .ref (ad 35), .ref (ad 36)]) t3_0 hts (fun w hw => List.mem_cons_of_mem _ (fW_NB w hw)) hown (ci := 4) (C := "NonceBox") (T := fT_NB) (N := 13) rfl 12 (by decide) (hts _ (List.mem_cons_of_mem _ kf_NB_59)) rfl (v := .ref (ad 36)) rfl d_NB_openBy_63 ?_
        refine lv_iload hx hb d_NB_openBy_66 (lv_at hl 0 rfl) ?_
        refine lv_aload_n hx hb d_NB_openBy_68 rfl (lv_at hl 3 rfl) ?_
        refine wv_getf hx hb h 0 (by decide) (fs := [.ref (ad 1), .ref (ad 2), .ref (ad 3), .ref (ad 4), .ref (ad 5), .int (nI (tl)), .int (nI (ol)), .ref (ad 6), .ref (ad 12), .ref (ad 18), .ref (ad 34), .ref (ad 35), .ref (ad 36)]) t3_0 hts (fun w hw => List.mem_cons_of_mem _ (fW_NB w hw)) hown (ci := 4) (C := "NonceBox") (T := fT_NB) (N := 13) rfl 3 (by decide) (hts _ (List.mem_cons_of_mem _ kf_NB_19)) rfl (v := .ref (ad 4)) rfl d_NB_openBy_69 ?_
        refine lv_bipush (v := nI (16)) hx hb d_NB_openBy_72 (by decide) ?_
        refine lv_iload hx hb d_NB_openBy_74 (lv_at hl 0 rfl) ?_
        refine lv_iadd hx hb d_NB_openBy_76 ?_
        refine wv_top (w := nI (16 + t0)) (nI_add _ _) ?_
        refine wv_bald hx hb h 4 (by decide) (f := (bs (Bf 3))) t3_4 (k := 16 + t0) rfl (by omega) (by decide) d_NB_openBy_77 ?_
        refine lv_aload_n hx hb d_NB_openBy_78 rfl (lv_at hl 1 rfl) ?_
        refine lv_bipush (v := nI (32)) hx hb d_NB_openBy_79 (by decide) ?_
        refine lv_iload hx hb d_NB_openBy_81 (lv_at hl 0 rfl) ?_
        refine lv_iadd hx hb d_NB_openBy_83 ?_
        refine wv_top (w := nI (32 + t0)) (nI_add _ _) ?_
        refine wv_bald hx hb h 11 (by decide) (f := (bs S2)) t3_11 (k := 32 + t0) rfl (by omega) (by decide) d_NB_openBy_84 ?_
        refine lv_ixor hx hb d_NB_openBy_85 ?_
        refine lv_i2b hx hb d_NB_openBy_86 rfl ?_
        refine wv_bast hx hb h 36 (by decide) (f := (bs (fil 0 t0 (fun i => Bf 3 (16 + i) ^^^ S2 (32 + i)) x37))) t3_36 (k := t0) rfl (by omega) (by decide) d_NB_openBy_87 (fun H locs h => ?_)
        obtain ⟨ev4, o4⟩ : ∃ z, z = va_up ev3 36 (eB G 112 (va_up ((bs (fil 0 t0 (fun i => Bf 3 (16 + i) ^^^ S2 (32 + i)) x37))) t0 (vp_nar .byte (((((bs (Bf 3))) (16 + t0)) ^^^ (((bs S2)) (32 + t0))).toInt8.toInt32)))) := ⟨_, rfl⟩
        rw [← o4] at h
        have t4_36 : ev4 36 = eB G 112 (va_up ((bs (fil 0 t0 (fun i => Bf 3 (16 + i) ^^^ S2 (32 + i)) x37))) t0 (vp_nar .byte (((((bs (Bf 3))) (16 + t0)) ^^^ (((bs S2)) (32 + t0))).toInt8.toInt32))) := by rw [o4, va_up_self]
        have t4_1 := (show ev4 1 = ev3 1 by rw [o4, va_up_ne _ _ (by decide)]).trans t3_1
        have t4_2 := (show ev4 2 = ev3 2 by rw [o4, va_up_ne _ _ (by decide)]).trans t3_2
        have t4_3 := (show ev4 3 = ev3 3 by rw [o4, va_up_ne _ _ (by decide)]).trans t3_3
        have t4_4 := (show ev4 4 = ev3 4 by rw [o4, va_up_ne _ _ (by decide)]).trans t3_4
        have t4_5 := (show ev4 5 = ev3 5 by rw [o4, va_up_ne _ _ (by decide)]).trans t3_5
        have t4_35 := (show ev4 35 = ev3 35 by rw [o4, va_up_ne _ _ (by decide)]).trans t3_35
        have t4_7 := (show ev4 7 = ev3 7 by rw [o4, va_up_ne _ _ (by decide)]).trans t3_7
        have t4_8 := (show ev4 8 = ev3 8 by rw [o4, va_up_ne _ _ (by decide)]).trans t3_8
        have t4_9 := (show ev4 9 = ev3 9 by rw [o4, va_up_ne _ _ (by decide)]).trans t3_9
        have t4_10 := (show ev4 10 = ev3 10 by rw [o4, va_up_ne _ _ (by decide)]).trans t3_10
        have t4_11 := (show ev4 11 = ev3 11 by rw [o4, va_up_ne _ _ (by decide)]).trans t3_11
        have t4_14 := (show ev4 14 = ev3 14 by rw [o4, va_up_ne _ _ (by decide)]).trans t3_14
        have t4_15 := (show ev4 15 = ev3 15 by rw [o4, va_up_ne _ _ (by decide)]).trans t3_15
        have t4_16 := (show ev4 16 = ev3 16 by rw [o4, va_up_ne _ _ (by decide)]).trans t3_16
        have t4_17 := (show ev4 17 = ev3 17 by rw [o4, va_up_ne _ _ (by decide)]).trans t3_17
        have t4_20 := (show ev4 20 = ev3 20 by rw [o4, va_up_ne _ _ (by decide)]).trans t3_20
        have t4_21 := (show ev4 21 = ev3 21 by rw [o4, va_up_ne _ _ (by decide)]).trans t3_21
        have t4_34 := (show ev4 34 = ev3 34 by rw [o4, va_up_ne _ _ (by decide)]).trans t3_34
        have t4_22 := (show ev4 22 = ev3 22 by rw [o4, va_up_ne _ _ (by decide)]).trans t3_22
        have t4_23 := (show ev4 23 = ev3 23 by rw [o4, va_up_ne _ _ (by decide)]).trans t3_23
        have t4_24 := (show ev4 24 = ev3 24 by rw [o4, va_up_ne _ _ (by decide)]).trans t3_24
        have t4_25 := (show ev4 25 = ev3 25 by rw [o4, va_up_ne _ _ (by decide)]).trans t3_25
        have t4_26 := (show ev4 26 = ev3 26 by rw [o4, va_up_ne _ _ (by decide)]).trans t3_26
        have t4_27 := (show ev4 27 = ev3 27 by rw [o4, va_up_ne _ _ (by decide)]).trans t3_27
        have t4_28 := (show ev4 28 = ev3 28 by rw [o4, va_up_ne _ _ (by decide)]).trans t3_28
        have t4_29 := (show ev4 29 = ev3 29 by rw [o4, va_up_ne _ _ (by decide)]).trans t3_29
        have t4_30 := (show ev4 30 = ev3 30 by rw [o4, va_up_ne _ _ (by decide)]).trans t3_30
        have t4_31 := (show ev4 31 = ev3 31 by rw [o4, va_up_ne _ _ (by decide)]).trans t3_31
        have t4_32 := (show ev4 32 = ev3 32 by rw [o4, va_up_ne _ _ (by decide)]).trans t3_32
        have t4_33 := (show ev4 33 = ev3 33 by rw [o4, va_up_ne _ _ (by decide)]).trans t3_33
        have t4_0 := (show ev4 0 = ev3 0 by rw [o4, va_up_ne _ _ (by decide)]).trans t3_0
        have t4_6 := (show ev4 6 = ev3 6 by rw [o4, va_up_ne _ _ (by decide)]).trans t3_6
        have t4_12 := (show ev4 12 = ev3 12 by rw [o4, va_up_ne _ _ (by decide)]).trans t3_12
        have t4_13 := (show ev4 13 = ev3 13 by rw [o4, va_up_ne _ _ (by decide)]).trans t3_13
        have t4_18 := (show ev4 18 = ev3 18 by rw [o4, va_up_ne _ _ (by decide)]).trans t3_18
        have t4_19 := (show ev4 19 = ev3 19 by rw [o4, va_up_ne _ _ (by decide)]).trans t3_19
        rw [bs_up _ _ (Bf 3 (16 + t0) ^^^ S2 (32 + t0)) (show vp_nar .byte (bs (Bf 3) (16 + t0) ^^^ bs S2 (32 + t0)).toInt8.toInt32 = sb_b (Bf 3 (16 + t0) ^^^ S2 (32 + t0)) from sb_x _ (hB 3 _) _ (hS2 _))] at o4
        refine lv_iinc (v := nI (t0 + 1)) (lv' := [(4, .int (nI (t0 + 1))), (3, .ref (ad 11)), (2, .int (nI (tl - 16))), (0, .ref (ad 0)), (1, .ref (ad qs))]) hx hb d_NB_openBy_88 hl (k := 0) rfl (nI_add _ _) (by decide) rfl (fun ls hl => ?_)
        refine lv_goto (tgt := 56) hx hb d_NB_openBy_91 (by decide) ?_
        refine ih (t0 + 1) (by omega) ev4 H locs ls ?_ h (lv_sub hl [0, 1, 2, 3, 4] rfl)
        rw [o4, o3, va_up2, ← fil_s 0 t0 (fun i => Bf 3 (16 + i) ^^^ S2 (32 + i)) x37 rfl, Nat.zero_add]
    exact loop3 (tl - 16) 0 (by omega) ev2 H locs ls (by rw [fil_0, va_upi _ _ g37]) h (lv_sub hl [0, 1, 2, 3, 4] rfl)
  · rw [ho]
    refine W.eq (g2 := F0 m 48 ls [.int (nI 0)]) rfl ?_
    refine lv_if_ne (tgt := 53) hx hb d_NB_openBy_48 (by decide) (fun hc => absurd (by decide) hc) (fun _ => ?_)
    refine lv_iconst (v := nI (0)) hx hb d_NB_openBy_51 (by decide) ?_
    exact wv_zret hx hb hr hlocks h d_NB_openBy_52 rfl ⟨_, _, _, rfl, Or.inr ⟨rfl, hok, rfl, rfl⟩, ⟨t2_0, t2_1, t2_2, t2_3, t2_4, t2_5, t2_6, ⟨_, t2_7⟩, ⟨_, t2_8⟩, ⟨_, t2_9⟩, ⟨_, (plc_lt (hB 1) hvv), (fun j hj => by unfold PLC; rw [if_neg (by omega), if_neg (by omega)]), t2_10⟩, ⟨_, hS2, t2_11⟩, t2_12, t2_13, ⟨_, t2_14⟩, ⟨_, t2_15⟩, ⟨_, t2_16⟩, ⟨_, t2_17⟩, t2_18, t2_19, ⟨_, t2_20⟩, ⟨_, t2_21⟩, ⟨_, t2_22⟩, ⟨_, t2_23⟩, ⟨_, t2_24⟩, ⟨_, t2_25⟩, ⟨_, t2_26⟩, ⟨_, t2_27⟩, ⟨_, t2_28⟩, ⟨_, t2_29⟩, ⟨_, t2_30⟩, ⟨_, t2_31⟩, ⟨_, t2_32⟩, ⟨_, t2_33⟩, ⟨_, b34, t2_34⟩, t2_35, ⟨_, (fil_lt (TAGB_lt _ _ _ _) b36), t2_36⟩, hB, htl, hol⟩, (fun j hj => by rw [o2, va_up_ne _ _ (by omega), va_up_ne _ _ (by omega), va_up_ne _ _ (by omega), va_up_ne _ _ (by omega), va_up_ne _ _ (by omega), o1, va_up_ne _ _ (by omega), va_up_ne _ _ (by omega), va_up_ne _ _ (by omega), va_up_ne _ _ (by omega), va_up_ne _ _ (by omega)])⟩
