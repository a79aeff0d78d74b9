theorem d_Mx_rotated_0 : decode c_Mx_rotated 0 = .ok (.iload_n 0, 1) := by decide +kernel
theorem d_Mx_rotated_1 : decode c_Mx_rotated 1 = .ok (.iload_n 1, 1) := by decide +kernel
theorem d_Mx_rotated_2 : decode c_Mx_rotated 2 = .ok (.ishl, 1) := by decide +kernel
theorem d_Mx_rotated_3 : decode c_Mx_rotated 3 = .ok (.iload_n 0, 1) := by decide +kernel
theorem d_Mx_rotated_4 : decode c_Mx_rotated 4 = .ok (.bipush 32, 2) := by decide +kernel
theorem d_Mx_rotated_6 : decode c_Mx_rotated 6 = .ok (.iload_n 1, 1) := by decide +kernel
theorem d_Mx_rotated_7 : decode c_Mx_rotated 7 = .ok (.isub, 1) := by decide +kernel
theorem d_Mx_rotated_8 : decode c_Mx_rotated 8 = .ok (.iushr, 1) := by decide +kernel
theorem d_Mx_rotated_9 : decode c_Mx_rotated 9 = .ok (.ior, 1) := by decide +kernel
theorem d_Mx_rotated_10 : decode c_Mx_rotated 10 = .ok (.ireturn, 1) := by decide +kernel
set_option maxRecDepth 100000 in
set_option maxHeartbeats 4000000 in
/-- x turned up by k bits -/
theorem m_Mx_rotated (l : Launch) (G : wG) (A : Nat → Prop) (ad : Nat → Nat) (ev : Nat → va_E) (x k : Int32) : wM l y_Mx_rotated w_Mx_rotated ({ frames := 0, cells := 0, slots := 0, locals := 0 }) G A 52 ad ev [.int (x), .int (k)] (fun ov ev' => ov = some (.int (rot x k)) ∧ ev' = ev) := by
  refine wv_ofW (cc := c_Mx_rotated) (maxL := 2) (ret := (Option.some FieldType.int)) (by decide) rfl (Nat.le_of_ble_eq_true rfl) ?_
  intro p e s m below meth c ls hx hb hr hml hts hown hlocks hini h hl
  have hl : lv_has ls 2 [(0, .int (x)), (1, .int (k))] := hl
  refine lv_iload_n hx hb d_Mx_rotated_0 rfl (lv_at hl 0 rfl) ?_
  refine lv_iload_n hx hb d_Mx_rotated_1 rfl (lv_at hl 1 rfl) ?_
  refine lv_ishl hx hb d_Mx_rotated_2 ?_
  refine lv_iload_n hx hb d_Mx_rotated_3 rfl (lv_at hl 0 rfl) ?_
  refine lv_bipush (v := nI (32)) hx hb d_Mx_rotated_4 (by decide) ?_
  refine lv_iload_n hx hb d_Mx_rotated_6 rfl (lv_at hl 1 rfl) ?_
  refine lv_isub hx hb d_Mx_rotated_7 ?_
  refine lv_iushr hx hb d_Mx_rotated_8 rfl ?_
  refine lv_ior hx hb d_Mx_rotated_9 ?_
  exact wv_iret hx hb hr hlocks h d_Mx_rotated_10 ⟨rfl, rfl⟩
theorem d_Md_rotated_0 : decode c_Md_rotated 0 = .ok (.iload_n 0, 1) := by decide +kernel
theorem d_Md_rotated_1 : decode c_Md_rotated 1 = .ok (.iload_n 1, 1) := by decide +kernel
theorem d_Md_rotated_2 : decode c_Md_rotated 2 = .ok (.ishl, 1) := by decide +kernel
theorem d_Md_rotated_3 : decode c_Md_rotated 3 = .ok (.iload_n 0, 1) := by decide +kernel
theorem d_Md_rotated_4 : decode c_Md_rotated 4 = .ok (.bipush 32, 2) := by decide +kernel
theorem d_Md_rotated_6 : decode c_Md_rotated 6 = .ok (.iload_n 1, 1) := by decide +kernel
theorem d_Md_rotated_7 : decode c_Md_rotated 7 = .ok (.isub, 1) := by decide +kernel
theorem d_Md_rotated_8 : decode c_Md_rotated 8 = .ok (.iushr, 1) := by decide +kernel
theorem d_Md_rotated_9 : decode c_Md_rotated 9 = .ok (.ior, 1) := by decide +kernel
theorem d_Md_rotated_10 : decode c_Md_rotated 10 = .ok (.ireturn, 1) := by decide +kernel
set_option maxRecDepth 100000 in
set_option maxHeartbeats 4000000 in
/-- x turned up by k bits -/
theorem m_Md_rotated (l : Launch) (G : wG) (A : Nat → Prop) (ad : Nat → Nat) (ev : Nat → va_E) (x k : Int32) : wM l y_Md_rotated w_Md_rotated ({ frames := 0, cells := 0, slots := 0, locals := 0 }) G A 52 ad ev [.int (x), .int (k)] (fun ov ev' => ov = some (.int (rot x k)) ∧ ev' = ev) := by
  refine wv_ofW (cc := c_Md_rotated) (maxL := 2) (ret := (Option.some FieldType.int)) (by decide) rfl (Nat.le_of_ble_eq_true rfl) ?_
  intro p e s m below meth c ls hx hb hr hml hts hown hlocks hini h hl
  have hl : lv_has ls 2 [(0, .int (x)), (1, .int (k))] := hl
  refine lv_iload_n hx hb d_Md_rotated_0 rfl (lv_at hl 0 rfl) ?_
  refine lv_iload_n hx hb d_Md_rotated_1 rfl (lv_at hl 1 rfl) ?_
  refine lv_ishl hx hb d_Md_rotated_2 ?_
  refine lv_iload_n hx hb d_Md_rotated_3 rfl (lv_at hl 0 rfl) ?_
  refine lv_bipush (v := nI (32)) hx hb d_Md_rotated_4 (by decide) ?_
  refine lv_iload_n hx hb d_Md_rotated_6 rfl (lv_at hl 1 rfl) ?_
  refine lv_isub hx hb d_Md_rotated_7 ?_
  refine lv_iushr hx hb d_Md_rotated_8 rfl ?_
  refine lv_ior hx hb d_Md_rotated_9 ?_
  exact wv_iret hx hb hr hlocks h d_Md_rotated_10 ⟨rfl, rfl⟩
theorem d_Mx_readWord_0 : decode c_Mx_readWord 0 = .ok (.aload_n 0, 1) := by decide +kernel
theorem d_Mx_readWord_1 : decode c_Mx_readWord 1 = .ok (.iload_n 1, 1) := by decide +kernel
theorem d_Mx_readWord_2 : decode c_Mx_readWord 2 = .ok (.baload, 1) := by decide +kernel
theorem d_Mx_readWord_3 : decode c_Mx_readWord 3 = .ok (.sipush 255, 3) := by decide +kernel
theorem d_Mx_readWord_6 : decode c_Mx_readWord 6 = .ok (.iand, 1) := by decide +kernel
theorem d_Mx_readWord_7 : decode c_Mx_readWord 7 = .ok (.aload_n 0, 1) := by decide +kernel
theorem d_Mx_readWord_8 : decode c_Mx_readWord 8 = .ok (.iload_n 1, 1) := by decide +kernel
theorem d_Mx_readWord_9 : decode c_Mx_readWord 9 = .ok (.iconst 1, 1) := by decide +kernel
theorem d_Mx_readWord_10 : decode c_Mx_readWord 10 = .ok (.iadd, 1) := by decide +kernel
theorem d_Mx_readWord_11 : decode c_Mx_readWord 11 = .ok (.baload, 1) := by decide +kernel
theorem d_Mx_readWord_12 : decode c_Mx_readWord 12 = .ok (.sipush 255, 3) := by decide +kernel
theorem d_Mx_readWord_15 : decode c_Mx_readWord 15 = .ok (.iand, 1) := by decide +kernel
theorem d_Mx_readWord_16 : decode c_Mx_readWord 16 = .ok (.bipush 8, 2) := by decide +kernel
theorem d_Mx_readWord_18 : decode c_Mx_readWord 18 = .ok (.ishl, 1) := by decide +kernel
theorem d_Mx_readWord_19 : decode c_Mx_readWord 19 = .ok (.ior, 1) := by decide +kernel
theorem d_Mx_readWord_20 : decode c_Mx_readWord 20 = .ok (.aload_n 0, 1) := by decide +kernel
theorem d_Mx_readWord_21 : decode c_Mx_readWord 21 = .ok (.iload_n 1, 1) := by decide +kernel
theorem d_Mx_readWord_22 : decode c_Mx_readWord 22 = .ok (.iconst 2, 1) := by decide +kernel
theorem d_Mx_readWord_23 : decode c_Mx_readWord 23 = .ok (.iadd, 1) := by decide +kernel
theorem d_Mx_readWord_24 : decode c_Mx_readWord 24 = .ok (.baload, 1) := by decide +kernel
theorem d_Mx_readWord_25 : decode c_Mx_readWord 25 = .ok (.sipush 255, 3) := by decide +kernel
theorem d_Mx_readWord_28 : decode c_Mx_readWord 28 = .ok (.iand, 1) := by decide +kernel
theorem d_Mx_readWord_29 : decode c_Mx_readWord 29 = .ok (.bipush 16, 2) := by decide +kernel
theorem d_Mx_readWord_31 : decode c_Mx_readWord 31 = .ok (.ishl, 1) := by decide +kernel
theorem d_Mx_readWord_32 : decode c_Mx_readWord 32 = .ok (.ior, 1) := by decide +kernel
theorem d_Mx_readWord_33 : decode c_Mx_readWord 33 = .ok (.aload_n 0, 1) := by decide +kernel
theorem d_Mx_readWord_34 : decode c_Mx_readWord 34 = .ok (.iload_n 1, 1) := by decide +kernel
theorem d_Mx_readWord_35 : decode c_Mx_readWord 35 = .ok (.iconst 3, 1) := by decide +kernel
theorem d_Mx_readWord_36 : decode c_Mx_readWord 36 = .ok (.iadd, 1) := by decide +kernel
theorem d_Mx_readWord_37 : decode c_Mx_readWord 37 = .ok (.baload, 1) := by decide +kernel
theorem d_Mx_readWord_38 : decode c_Mx_readWord 38 = .ok (.sipush 255, 3) := by decide +kernel
theorem d_Mx_readWord_41 : decode c_Mx_readWord 41 = .ok (.iand, 1) := by decide +kernel
theorem d_Mx_readWord_42 : decode c_Mx_readWord 42 = .ok (.bipush 24, 2) := by decide +kernel
theorem d_Mx_readWord_44 : decode c_Mx_readWord 44 = .ok (.ishl, 1) := by decide +kernel
theorem d_Mx_readWord_45 : decode c_Mx_readWord 45 = .ok (.ior, 1) := by decide +kernel
theorem d_Mx_readWord_46 : decode c_Mx_readWord 46 = .ok (.ireturn, 1) := by decide +kernel
set_option maxRecDepth 100000 in
set_option maxHeartbeats 4000000 in
/-- four bytes as a word -/
theorem m_Mx_readWord (l : Launch) (G : wG) (A : Nat → Prop) (ad : Nat → Nat) (ev : Nat → va_E) (q N o : Nat) (B : Nat → Nat) (hq : q < 52) (hev : ev q = eB G N (bs B)) (hB : ∀ j, B j < 256) (ho : o + 4 ≤ N) (hN : N < 2 ^ 31) : wM l y_Mx_readWord w_Mx_readWord ({ frames := 0, cells := 0, slots := 0, locals := 0 }) G A 52 ad ev [.ref (ad q), .int (nI (o))] (fun ov ev' => ov = some (.int (wordN B o)) ∧ ev' = ev) := by
  refine wv_ofW (cc := c_Mx_readWord) (maxL := 2) (ret := (Option.some FieldType.int)) (by decide) rfl (Nat.le_of_ble_eq_true rfl) ?_
  intro p e s m below meth c ls hx hb hr hml hts hown hlocks hini h hl
  have hl : lv_has ls 2 [(0, .ref (ad q)), (1, .int (nI (o)))] := hl
  refine lv_aload_n hx hb d_Mx_readWord_0 rfl (lv_at hl 0 rfl) ?_
  refine lv_iload_n hx hb d_Mx_readWord_1 rfl (lv_at hl 1 rfl) ?_
  refine wv_bald hx hb h q hq (f := (bs B)) hev (k := o) rfl (by omega) hN d_Mx_readWord_2 ?_
  refine lv_sipush (v := 255) hx hb d_Mx_readWord_3 (by decide) ?_
  refine lv_iand hx hb d_Mx_readWord_6 ?_
  refine wv_top (bs_and (hB _)) ?_
  refine lv_aload_n hx hb d_Mx_readWord_7 rfl (lv_at hl 0 rfl) ?_
  refine lv_iload_n hx hb d_Mx_readWord_8 rfl (lv_at hl 1 rfl) ?_
  refine lv_iconst (v := nI (1)) hx hb d_Mx_readWord_9 (by decide) ?_
  refine lv_iadd hx hb d_Mx_readWord_10 ?_
  refine wv_top (nI_add _ _) ?_
  refine wv_bald hx hb h q hq (f := (bs B)) hev (k := o + 1) rfl (by omega) hN d_Mx_readWord_11 ?_
  refine lv_sipush (v := 255) hx hb d_Mx_readWord_12 (by decide) ?_
  refine lv_iand hx hb d_Mx_readWord_15 ?_
  refine wv_top (bs_and (hB _)) ?_
  refine lv_bipush (v := 8) hx hb d_Mx_readWord_16 (by decide) ?_
  refine lv_ishl hx hb d_Mx_readWord_18 ?_
  refine lv_ior hx hb d_Mx_readWord_19 ?_
  refine lv_aload_n hx hb d_Mx_readWord_20 rfl (lv_at hl 0 rfl) ?_
  refine lv_iload_n hx hb d_Mx_readWord_21 rfl (lv_at hl 1 rfl) ?_
  refine lv_iconst (v := nI (2)) hx hb d_Mx_readWord_22 (by decide) ?_
  refine lv_iadd hx hb d_Mx_readWord_23 ?_
  refine wv_top (nI_add _ _) ?_
  refine wv_bald hx hb h q hq (f := (bs B)) hev (k := o + 2) rfl (by omega) hN d_Mx_readWord_24 ?_
  refine lv_sipush (v := 255) hx hb d_Mx_readWord_25 (by decide) ?_
  refine lv_iand hx hb d_Mx_readWord_28 ?_
  refine wv_top (bs_and (hB _)) ?_
  refine lv_bipush (v := 16) hx hb d_Mx_readWord_29 (by decide) ?_
  refine lv_ishl hx hb d_Mx_readWord_31 ?_
  refine lv_ior hx hb d_Mx_readWord_32 ?_
  refine lv_aload_n hx hb d_Mx_readWord_33 rfl (lv_at hl 0 rfl) ?_
  refine lv_iload_n hx hb d_Mx_readWord_34 rfl (lv_at hl 1 rfl) ?_
  refine lv_iconst (v := nI (3)) hx hb d_Mx_readWord_35 (by decide) ?_
  refine lv_iadd hx hb d_Mx_readWord_36 ?_
  refine wv_top (nI_add _ _) ?_
  refine wv_bald hx hb h q hq (f := (bs B)) hev (k := o + 3) rfl (by omega) hN d_Mx_readWord_37 ?_
  refine lv_sipush (v := 255) hx hb d_Mx_readWord_38 (by decide) ?_
  refine lv_iand hx hb d_Mx_readWord_41 ?_
  refine wv_top (bs_and (hB _)) ?_
  refine lv_bipush (v := 24) hx hb d_Mx_readWord_42 (by decide) ?_
  refine lv_ishl hx hb d_Mx_readWord_44 ?_
  refine lv_ior hx hb d_Mx_readWord_45 ?_
  exact wv_iret hx hb hr hlocks h d_Mx_readWord_46 ⟨rfl, rfl⟩
theorem d_Mx_writeWord_0 : decode c_Mx_writeWord 0 = .ok (.iconst 0, 1) := by decide +kernel
theorem d_Mx_writeWord_1 : decode c_Mx_writeWord 1 = .ok (.istore_n 3, 1) := by decide +kernel
theorem d_Mx_writeWord_2 : decode c_Mx_writeWord 2 = .ok (.iload_n 3, 1) := by decide +kernel
theorem d_Mx_writeWord_3 : decode c_Mx_writeWord 3 = .ok (.iconst 4, 1) := by decide +kernel
theorem d_Mx_writeWord_4 : decode c_Mx_writeWord 4 = .ok (.if_icmp .ge 21, 3) := by decide +kernel
theorem d_Mx_writeWord_7 : decode c_Mx_writeWord 7 = .ok (.aload_n 1, 1) := by decide +kernel
theorem d_Mx_writeWord_8 : decode c_Mx_writeWord 8 = .ok (.iload_n 2, 1) := by decide +kernel
theorem d_Mx_writeWord_9 : decode c_Mx_writeWord 9 = .ok (.iload_n 3, 1) := by decide +kernel
theorem d_Mx_writeWord_10 : decode c_Mx_writeWord 10 = .ok (.iadd, 1) := by decide +kernel
theorem d_Mx_writeWord_11 : decode c_Mx_writeWord 11 = .ok (.iload_n 0, 1) := by decide +kernel
theorem d_Mx_writeWord_12 : decode c_Mx_writeWord 12 = .ok (.bipush 8, 2) := by decide +kernel
theorem d_Mx_writeWord_14 : decode c_Mx_writeWord 14 = .ok (.iload_n 3, 1) := by decide +kernel
theorem d_Mx_writeWord_15 : decode c_Mx_writeWord 15 = .ok (.imul, 1) := by decide +kernel
theorem d_Mx_writeWord_16 : decode c_Mx_writeWord 16 = .ok (.iushr, 1) := by decide +kernel
theorem d_Mx_writeWord_17 : decode c_Mx_writeWord 17 = .ok (.i2b, 1) := by decide +kernel
theorem d_Mx_writeWord_18 : decode c_Mx_writeWord 18 = .ok (.bastore, 1) := by decide +kernel
theorem d_Mx_writeWord_19 : decode c_Mx_writeWord 19 = .ok (.iinc 3 1, 3) := by decide +kernel
theorem d_Mx_writeWord_22 : decode c_Mx_writeWord 22 = .ok (.goto (-20), 3) := by decide +kernel
theorem d_Mx_writeWord_25 : decode c_Mx_writeWord 25 = .ok (.return_, 1) := by decide +kernel
set_option maxRecDepth 100000 in
set_option maxHeartbeats 4000000 in
/-- a word as four bytes -/
theorem m_Mx_writeWord (l : Launch) (G : wG) (A : Nat → Prop) (ad : Nat → Nat) (ev : Nat → va_E) (x : Int32) (q N o : Nat) (B : Nat → Nat) (hq : q < 52) (hev : ev q = eB G N (bs B)) (ho : o + 4 ≤ N) (hN : N < 2 ^ 31) : wM l y_Mx_writeWord w_Mx_writeWord ({ frames := 0, cells := 0, slots := 0, locals := 0 }) G A 52 ad ev [.int (x), .ref (ad q), .int (nI (o))] (fun ov ev' => ov = none ∧ ev' = va_up ev q (eB G N (bs (fil o 4 (byN x) B)))) := by
  refine wv_ofW (cc := c_Mx_writeWord) (maxL := 4) (ret := none) (by decide) rfl (Nat.le_of_ble_eq_true rfl) ?_
  intro p e s m below meth c ls hx hb hr hml hts hown hlocks hini h hl
  have hl : lv_has ls 4 [(0, .int (x)), (1, .ref (ad q)), (2, .int (nI (o)))] := hl
  refine lv_iconst (v := nI (0)) hx hb d_Mx_writeWord_0 (by decide) ?_
  refine lv_istore_n (lv' := [(3, .int (nI (0))), (0, .int (x)), (1, .ref (ad q)), (2, .int (nI (o)))]) hx hb d_Mx_writeWord_1 rfl hl (by decide) rfl (fun ls hl => ?_)
  have loop : ∀ (d k : Nat), k + d = 4 → ∀ (ev1 : Nat → va_E) (H : Heap) (locs : List Loc) (ls : Array Slot), ev1 = va_up ev q (eB G N (bs (fil o k (byN x) B))) → wT G A 52 ad ev1 s H locs → lv_has ls 4 [(3, .int (nI k)), (0, .int x), (1, .ref (ad q)), (2, .int (nI o))] → W p l e ({ frames := 0, cells := 0, slots := 0, locals := 0 }) s m ([.int (x), .ref (ad q), .int (nI (o))] : List Value).toArray below meth c H locs 0 0 (MQ below (wQc G A 52 ad (fun ov ev' => ov = none ∧ ev' = va_up ev q (eB G N (bs (fil o 4 (byN x) B))))) ([.int (x), .ref (ad q), .int (nI (o))] : List Value).toArray s 0 0 A) (F0 m 2 ls []) := by
    intro d
    induction d with
    | zero =>
      intro k hk ev1 H locs ls o1 h hl
      obtain rfl : k = 4 := by omega
      refine lv_iload_n hx hb d_Mx_writeWord_2 rfl (lv_at hl 0 rfl) ?_
      refine lv_iconst (v := nI (4)) hx hb d_Mx_writeWord_3 (by decide) ?_
      refine lv_icmp_ge (tgt := 25) hx hb d_Mx_writeWord_4 (by decide) (fun _ => ?_) (fun hc => absurd (by decide) hc)
      exact wv_vret hx hb hr hlocks h d_Mx_writeWord_25 ⟨rfl, o1⟩
    | succ d ih =>
      intro k hk ev1 H locs ls o1 h hl
      refine lv_iload_n hx hb d_Mx_writeWord_2 rfl (lv_at hl 0 rfl) ?_
      refine lv_iconst (v := nI (4)) hx hb d_Mx_writeWord_3 (by decide) ?_
      refine lv_icmp_ge (tgt := 25) hx hb d_Mx_writeWord_4 (by decide) (fun hc => absurd ((nI_leI (by omega) (by omega)).mp hc) (by omega)) (fun _ => ?_)
      have t1 : ev1 q = eB G N (bs (fil o k (byN x) B)) := by rw [o1, va_up_self]
      refine lv_aload_n hx hb d_Mx_writeWord_7 rfl (lv_at hl 2 rfl) ?_
      refine lv_iload_n hx hb d_Mx_writeWord_8 rfl (lv_at hl 3 rfl) ?_
      refine lv_iload_n hx hb d_Mx_writeWord_9 rfl (lv_at hl 0 rfl) ?_
      refine lv_iadd hx hb d_Mx_writeWord_10 ?_
      refine wv_top (nI_add _ _) ?_
      refine lv_iload_n hx hb d_Mx_writeWord_11 rfl (lv_at hl 1 rfl) ?_
      refine lv_bipush (v := nI (8)) hx hb d_Mx_writeWord_12 (by decide) ?_
      refine lv_iload_n hx hb d_Mx_writeWord_14 rfl (lv_at hl 0 rfl) ?_
      refine lv_imul hx hb d_Mx_writeWord_15 ?_
      refine wv_top (pk_mul _ _) ?_
      refine lv_iushr hx hb d_Mx_writeWord_16 rfl ?_
      refine lv_i2b hx hb d_Mx_writeWord_17 rfl ?_
      refine wv_bast hx hb h q hq (f := (bs (fil o k (byN x) B))) t1 (k := o + k) rfl (by omega) hN d_Mx_writeWord_18 (fun H locs h => ?_)
      obtain ⟨ev2, o2⟩ : ∃ z, z = va_up ev1 q (eB G N (va_up ((bs (fil o k (byN x) B))) (o + k) (vp_nar .byte (((x.toUInt32 >>> ((nI (8 * k)).toUInt32 &&& Int32.toUInt32 31)).toInt32).toInt8.toInt32)))) := ⟨_, rfl⟩
      rw [← o2] at h
      have t2_s : ev2 q = eB G N (va_up ((bs (fil o k (byN x) B))) (o + k) (vp_nar .byte (((x.toUInt32 >>> ((nI (8 * k)).toUInt32 &&& Int32.toUInt32 31)).toInt32).toInt8.toInt32))) := by rw [o2, va_up_self]
      refine lv_iinc (v := nI (k + 1)) (lv' := [(3, .int (nI (k + 1))), (0, .int (x)), (1, .ref (ad q)), (2, .int (nI (o)))]) hx hb d_Mx_writeWord_19 hl (k := 0) rfl (nI_add _ _) (by decide) rfl (fun ls hl => ?_)
      refine lv_goto (tgt := 2) hx hb d_Mx_writeWord_22 (by decide) ?_
      refine ih (k + 1) (by omega) ev2 H locs ls ?_ h (lv_sub hl [0, 1, 2, 3] rfl)
      rw [o2, o1, va_up2, bs_up _ _ (byN x k) (wr_byte x k (by omega)), fil_s _ _ _ _ rfl]
  exact loop 4 0 rfl ev s.heap [] ls (by rw [fil_0, va_upi _ _ hev]) h (lv_sub hl [0, 1, 2, 3] rfl)
