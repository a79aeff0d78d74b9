theorem lu8 (w : Int64) {k : Nat} (hk : k < 8) : (w.toUInt64 >>> ((nI (8 * k)).toInt64.toUInt64 &&& Int64.toUInt64 63)).toInt64 = lN (w.toBitVec.toNat / 2 ^ (8 * k)) := by
  obtain ⟨n, hn, rfl⟩ := wb_of w
  rw [wb_shr hn (by omega), wb_tn hn]
theorem wr_by8 (w : Int64) {k : Nat} (hk : k < 8) : vp_nar .byte (w.toUInt64 >>> ((nI (8 * k)).toInt64.toUInt64 &&& Int64.toUInt64 63)).toInt64.toInt32.toInt8.toInt32 = sb_b (by8 w k) := by
  rw [nar_i8, lu8 w hk, lN_i32]
  rfl
def hw (B : Nat → Nat) (o : Nat) : Nat → Nat
  | 0 => 0
  | m + 1 => hw B o m * 256 + B (o + (7 - m))
theorem hw_lt {B : Nat → Nat} (hB : ∀ j, B j < 256) (o : Nat) : ∀ m, hw B o m < 2 ^ (8 * m)
  | 0 => by simp [hw]
  | m + 1 => by
    have h := hw_lt hB o m
    have h2 := hB (o + (7 - m))
    rw [show 8 * (m + 1) = 8 * m + 8 by omega, Nat.pow_add]
    show hw B o m * 256 + B (o + (7 - m)) < _
    omega
theorem hw_8 (B : Nat → Nat) (o : Nat) : hw B o 8 = wd8 B o 8 := by
  simp only [hw, wd8, Nat.reduceMul, Nat.reducePow, Nat.reduceSub]
  omega
theorem hw_s {B : Nat → Nat} (hB : ∀ j, B j < 256) (o : Nat) {k : Nat} (hk : k < 8) : sal (lN (hw B o k)) 8 ||| (nI (B (o + (7 - k)))).toInt64 = lN (hw B o (k + 1)) := by
  have h1 := hw_lt hB o k
  have h2 := hB (o + (7 - k))
  have h3 : hw B o k < 2 ^ 56 := Nat.lt_of_lt_of_le h1 (Nat.pow_le_pow_right (by decide) (by omega))
  unfold sal
  rw [wb_shl _ (by decide), nI_l (by omega)]
  exact g_or (k := 8) (p := 2 ^ 8) rfl h2 (by omega)
theorem sb_x : ∀ a, a < 256 → ∀ b, b < 256 → vp_nar .byte (sb_b a ^^^ sb_b b).toInt8.toInt32 = sb_b (a ^^^ b) := by
  intro a ha b hb
  rw [pk_vb]
  unfold sb_b nI
  apply Int32.toBitVec_inj.mp
  rw [Int8.toBitVec_toInt32, Int8.toBitVec_toInt32]
  congr 1
  rw [Int32.toBitVec_toInt8, Int32.toBitVec_toInt8, Int32.toBitVec_xor, Int8.toBitVec_toInt32, Int8.toBitVec_toInt32, Int32.toBitVec_toInt8, Int32.toBitVec_toInt8]
  have e8 : ∀ y : BitVec 32, y.signExtend 8 = y.setWidth 8 := fun y => BitVec.signExtend_eq_setWidth_of_le y (by decide)
  rw [e8, e8, e8, e8, BitVec.setWidth_xor]
  have e : ∀ x : BitVec 8, BitVec.setWidth 8 (BitVec.signExtend 32 x) = x := by decide +kernel
  rw [e, e, ← BitVec.setWidth_xor]
  apply BitVec.eq_of_toNat_eq
  rw [BitVec.toNat_setWidth, BitVec.toNat_setWidth, BitVec.toNat_xor, pk_tn', pk_tn', pk_tn', Nat.mod_eq_of_lt (show a < 2 ^ 32 by omega), Nat.mod_eq_of_lt (show b < 2 ^ 32 by omega), Nat.mod_eq_of_lt (Nat.xor_lt_two_pow (n := 32) (by omega) (by omega))]
theorem xor_lt256 {a b : Nat} (ha : a < 256) (hb : b < 256) : a ^^^ b < 256 := Nat.xor_lt_two_pow (n := 8) ha hb
theorem d_NB_put_0 : decode c_NB_put 0 = .ok (.aload_n 0, 1) := by decide +kernel
theorem d_NB_put_1 : decode c_NB_put 1 = .ok (.iload_n 1, 1) := by decide +kernel
theorem d_NB_put_2 : decode c_NB_put 2 = .ok (.invokevirtual 62, 3) := by decide +kernel
theorem d_NB_put_5 : decode c_NB_put 5 = .ok (.astore 5, 2) := by decide +kernel
theorem d_NB_put_7 : decode c_NB_put 7 = .ok (.iload_n 1, 1) := by decide +kernel
theorem d_NB_put_8 : decode c_NB_put 8 = .ok (.iconst 4, 1) := by decide +kernel
theorem d_NB_put_9 : decode c_NB_put 9 = .ok (.if_icmp .eq 12, 3) := by decide +kernel
theorem d_NB_put_12 : decode c_NB_put 12 = .ok (.aload 5, 2) := by decide +kernel
theorem d_NB_put_14 : decode c_NB_put 14 = .ok (.iload_n 2, 1) := by decide +kernel
theorem d_NB_put_15 : decode c_NB_put 15 = .ok (.invokestatic 66, 3) := by decide +kernel
theorem d_NB_put_18 : decode c_NB_put 18 = .ok (.ifCond .ne 5, 3) := by decide +kernel
theorem d_NB_put_21 : decode c_NB_put 21 = .ok (.iconst 0, 1) := by decide +kernel
theorem d_NB_put_22 : decode c_NB_put 22 = .ok (.ireturn, 1) := by decide +kernel
theorem d_NB_put_23 : decode c_NB_put 23 = .ok (.iconst 0, 1) := by decide +kernel
theorem d_NB_put_24 : decode c_NB_put 24 = .ok (.istore 6, 2) := by decide +kernel
theorem d_NB_put_26 : decode c_NB_put 26 = .ok (.iload 6, 2) := by decide +kernel
theorem d_NB_put_28 : decode c_NB_put 28 = .ok (.bipush 8, 2) := by decide +kernel
theorem d_NB_put_30 : decode c_NB_put 30 = .ok (.if_icmp .ge 28, 3) := by decide +kernel
theorem d_NB_put_33 : decode c_NB_put 33 = .ok (.aload 5, 2) := by decide +kernel
theorem d_NB_put_35 : decode c_NB_put 35 = .ok (.bipush 8, 2) := by decide +kernel
theorem d_NB_put_37 : decode c_NB_put 37 = .ok (.iload_n 2, 1) := by decide +kernel
theorem d_NB_put_38 : decode c_NB_put 38 = .ok (.imul, 1) := by decide +kernel
theorem d_NB_put_39 : decode c_NB_put 39 = .ok (.iload 6, 2) := by decide +kernel
theorem d_NB_put_41 : decode c_NB_put 41 = .ok (.iadd, 1) := by decide +kernel
theorem d_NB_put_42 : decode c_NB_put 42 = .ok (.lload_n 3, 1) := by decide +kernel
theorem d_NB_put_43 : decode c_NB_put 43 = .ok (.bipush 8, 2) := by decide +kernel
theorem d_NB_put_45 : decode c_NB_put 45 = .ok (.iload 6, 2) := by decide +kernel
theorem d_NB_put_47 : decode c_NB_put 47 = .ok (.imul, 1) := by decide +kernel
theorem d_NB_put_48 : decode c_NB_put 48 = .ok (.lushr, 1) := by decide +kernel
theorem d_NB_put_49 : decode c_NB_put 49 = .ok (.l2i, 1) := by decide +kernel
theorem d_NB_put_50 : decode c_NB_put 50 = .ok (.i2b, 1) := by decide +kernel
theorem d_NB_put_51 : decode c_NB_put 51 = .ok (.bastore, 1) := by decide +kernel
theorem d_NB_put_52 : decode c_NB_put 52 = .ok (.iinc 6 1, 3) := by decide +kernel
theorem d_NB_put_55 : decode c_NB_put 55 = .ok (.goto (-29), 3) := by decide +kernel
theorem d_NB_put_58 : decode c_NB_put 58 = .ok (.iconst 1, 1) := by decide +kernel
theorem d_NB_put_59 : decode c_NB_put 59 = .ok (.ireturn, 1) := by decide +kernel
set_option maxRecDepth 100000 in
set_option maxHeartbeats 4000000 in
/-- put -/
theorem m_NB_put (l : Launch) (G : wG) (A : Nat → Prop) (ad : Nat → Nat) (ev : Nat → va_E) (x i : Int32) (v : Int64) (Bf : Nat → Nat → Nat) (tl ol : Nat) (hNB : NB G ad ev Bf tl ol) : wM l y_NB_put w_NB_put ({ frames := 6, cells := 0, slots := 0, locals := 200 }) G A 52 ad ev [.ref (ad 0), .int (x), .int (i), .long (v)] (fun ov ev' => ∃ (ans : Int32) (Bf' : Nat → Nat → Nat), ov = some (.int ans) ∧ spPut x i v Bf ans Bf' ∧ NB G ad ev' Bf' tl ol ∧ ∀ j, 37 ≤ j → ev' j = ev j) := by
  refine wv_ofW (cc := c_NB_put) (maxL := 7) (ret := (Option.some FieldType.boolean)) (by decide) rfl (Nat.le_of_ble_eq_true rfl) ?_
  intro p e s m below meth c ls hx hb hr hml hts hown hlocks hini h hl
  have hl : lv_has ls 7 [(0, .ref (ad 0)), (1, .int (x)), (2, .int (i)), (3, .long (v))] := hl
  have hNB0 := hNB
  obtain ⟨g0, g1, g2, g3, g4, g5, g6, ⟨x7, g7⟩, ⟨x8, g8⟩, ⟨x9, g9⟩, ⟨x10, b10, z10, g10⟩, ⟨x11, b11, g11⟩, g12, g13, ⟨x14, g14⟩, ⟨x15, g15⟩, ⟨x16, g16⟩, ⟨x17, g17⟩, g18, g19, ⟨x20, g20⟩, ⟨x21, g21⟩, ⟨x22, g22⟩, ⟨x23, g23⟩, ⟨x24, g24⟩, ⟨x25, g25⟩, ⟨x26, g26⟩, ⟨x27, g27⟩, ⟨x28, g28⟩, ⟨x29, g29⟩, ⟨x30, g30⟩, ⟨x31, g31⟩, ⟨x32, g32⟩, ⟨x33, g33⟩, ⟨x34, b34, g34⟩, g35, ⟨x36, b36, g36⟩, hB, htl, hol⟩ := hNB
  refine lv_aload_n hx hb d_NB_put_0 rfl (lv_at hl 0 rfl) ?_
  refine lv_iload_n hx hb d_NB_put_1 rfl (lv_at hl 1 rfl) ?_
  refine wv_V (As := [.int (x)]) (rest := []) (k := 1) ⟨hx, hb, hml, hown, hts⟩ h 0 (by decide) (C := "NonceBox") g0 rfl (m_NB_rowOf l G A ad ev x Bf tl ol hNB0) kc_NB_rowOf kl_NB_62 km_NB_rowOf kv_NB_rowOf ki_NB (by decide +kernel) ⟨rfl, rfl, Nat.le_of_ble_eq_true rfl, Nat.le_of_ble_eq_true rfl⟩ hl.1 rfl rfl (Nat.le_of_ble_eq_true rfl) ⟨Nat.le_refl _, Nat.le_refl _⟩ d_NB_put_2 ?_
  intro ov ev1 H locs hp h
  obtain ⟨he, hp⟩ := hp
  rw [he] at h
  rcases hp with ⟨b, hb5, hxb, ho⟩ | ⟨far, ho⟩
  · subst hxb
    obtain ⟨q, hqb⟩ : ∃ q, q = b + 1 := ⟨_, rfl⟩
    have hev : ev q = eB G (bsz b) (bs (Bf b)) := by rw [hqb]; exact NB_row hNB0 b hb5
    have hq : q < 52 := by omega
    have hbs := bsz_in b
    rw [← hqb] at ho
    rw [ho]
    refine W.eq (g2 := F0 m 5 ls [.ref (ad q)]) rfl ?_
    refine lv_astore (lv' := [(5, .ref (ad q)), (0, .ref (ad 0)), (1, .int (nI (b))), (2, .int (i)), (3, .long (v))]) hx hb d_NB_put_5 hl (by decide) rfl (fun ls hl => ?_)
    refine lv_iload_n hx hb d_NB_put_7 rfl (lv_at hl 2 rfl) ?_
    refine lv_iconst (v := nI (4)) hx hb d_NB_put_8 (by decide) ?_
    refine lv_icmp_eq (tgt := 21) hx hb d_NB_put_9 (by decide) (fun hc => ?_) (fun hc => ?_)
    · have hc := (nI_eq (by omega) (by omega)).mp hc
      refine lv_iconst (v := nI (0)) hx hb d_NB_put_21 (by decide) ?_
      exact wv_zret hx hb hr hlocks h d_NB_put_22 rfl ⟨_, _, rfl, Or.inr ⟨fun b2 k hb2 _ e _ => absurd ((nI_eq (by omega) (by omega)).mp e) (by omega), rfl, rfl⟩, hNB0, fun _ _ => rfl⟩
    · have hb4 : b < 4 := by
        have : b ≠ 4 := fun e => hc (by rw [e])
        omega
      refine lv_aload hx hb d_NB_put_12 (lv_at hl 0 rfl) ?_
      refine lv_iload_n hx hb d_NB_put_14 rfl (lv_at hl 3 rfl) ?_
      refine wv_Sx (As := [.ref (ad q), .int (i)]) (rest := []) (k := 2) ⟨hx, hb, hml, hown, hts⟩ h (m_NB_hasRoom l G A ad ev i q (bsz b) (Bf b) hq hev (by omega)) kc_NB_hasRoom kl_NB_66 ks_NB_hasRoom ki_NB (by decide +kernel) ⟨rfl, rfl, Nat.le_of_ble_eq_true rfl, Nat.le_of_ble_eq_true rfl⟩ hl.1 rfl rfl (Nat.le_of_ble_eq_true rfl) ⟨Nat.le_refl _, Nat.le_refl _⟩ d_NB_put_15 ?_
      intro ov ev1 H locs hp h
      obtain ⟨he, hp⟩ := hp
      rw [he] at h
      rcases hp with ⟨k, hk, hik, ho⟩ | ⟨far, ho⟩
      · subst hik
        rw [ho]
        refine W.eq (g2 := F0 m 18 ls [.int (nI 1)]) rfl ?_
        refine lv_if_ne (tgt := 23) hx hb d_NB_put_18 (by decide) (fun _ => ?_) (fun hc => absurd hc (by decide))
        refine lv_iconst (v := nI (0)) hx hb d_NB_put_23 (by decide) ?_
        refine lv_istore (lv' := [(6, .int (nI (0))), (5, .ref (ad q)), (0, .ref (ad 0)), (1, .int (nI (b))), (2, .int (nI (k))), (3, .long (v))]) hx hb d_NB_put_24 hl (by decide) rfl (fun ls hl => ?_)
        have loop1 : ∀ (d t0 : Nat), t0 + d = 8 →  ∀ (ev1 : Nat → va_E) (H : Heap) (locs : List Loc) (ls : Array Slot), ev1 = (va_up ev q (eB G (bsz b) (bs (fil (8 * k) t0 (by8 v) (Bf b))))) → wT G A 52 ad ev1 s H locs → lv_has ls 7 [(6, .int (nI (t0))), (5, .ref (ad q)), (0, .ref (ad 0)), (1, .int (nI (b))), (2, .int (nI (k))), (3, .long (v))] → W p l e ({ frames := 6, cells := 0, slots := 0, locals := 200 }) s m ([.ref (ad 0), .int (nI b), .int (nI k), .long (v)] : List Value).toArray below meth c H locs 0 0 (MQ below (wQc G A 52 ad (fun ov ev' => ∃ (ans : Int32) (Bf' : Nat → Nat → Nat), ov = some (.int ans) ∧ spPut (nI b) (nI k) v Bf ans Bf' ∧ NB G ad ev' Bf' tl ol ∧ ∀ j, 37 ≤ j → ev' j = ev j)) ([.ref (ad 0), .int (nI b), .int (nI k), .long (v)] : List Value).toArray s 0 0 A) (F0 m 26 ls []) := by
          intro d
          induction d with
          | zero =>
            intro t0 hk_t0  ev1 H locs ls  o1 h hl
            have t1_q : ev1 q = eB G (bsz b) (bs (fil (8 * k) t0 (by8 v) (Bf b))) := by rw [o1, va_up_self]
            refine lv_iload hx hb d_NB_put_26 (lv_at hl 0 rfl) ?_
            refine lv_bipush (v := nI (8)) hx hb d_NB_put_28 (by decide) ?_
            refine lv_icmp_ge (tgt := 58) hx hb d_NB_put_30 (by decide) (fun _ => ?_) (fun hc => absurd ((nI_leI (by omega) (by omega)).mpr (by omega)) hc)
            refine lv_iconst (v := nI (1)) hx hb d_NB_put_58 (by decide) ?_
            have et : t0 = 8 := by omega
            rw [et] at o1
            refine wv_zret hx hb hr hlocks h d_NB_put_59 rfl ⟨_, _, rfl, Or.inl ⟨b, k, hb4, hk, rfl, rfl, rfl, rfl⟩, ?_, (fun j hj => by rw [o1, va_up_ne _ _ (by omega)])⟩
            rw [o1, hqb]
            exact NB_set hNB0 (fil_lt (by8_lt v) (hB b)) b hb5
          | succ d ih =>
            intro t0 hk_t0  ev1 H locs ls  o1 h hl
            have t1_q : ev1 q = eB G (bsz b) (bs (fil (8 * k) t0 (by8 v) (Bf b))) := by rw [o1, va_up_self]
            refine lv_iload hx hb d_NB_put_26 (lv_at hl 0 rfl) ?_
            refine lv_bipush (v := nI (8)) hx hb d_NB_put_28 (by decide) ?_
            refine lv_icmp_ge (tgt := 58) hx hb d_NB_put_30 (by decide) (fun hc => absurd ((nI_leI (by omega) (by omega)).mp hc) (by omega)) (fun _ => ?_)
            refine lv_aload hx hb d_NB_put_33 (lv_at hl 1 rfl) ?_
            refine lv_bipush (v := nI (8)) hx hb d_NB_put_35 (by decide) ?_
            refine lv_iload_n hx hb d_NB_put_37 rfl (lv_at hl 4 rfl) ?_
            refine lv_imul hx hb d_NB_put_38 ?_
            refine wv_top (w := nI (8 * k)) (pk_mul _ _) ?_
            refine lv_iload hx hb d_NB_put_39 (lv_at hl 0 rfl) ?_
            refine lv_iadd hx hb d_NB_put_41 ?_
            refine wv_top (w := nI ((8 * k) + t0)) (nI_add _ _) ?_
            refine lv_lload_n hx hb d_NB_put_42 rfl (lv_at hl 5 rfl) ?_
            refine lv_bipush (v := nI (8)) hx hb d_NB_put_43 (by decide) ?_
            refine lv_iload hx hb d_NB_put_45 (lv_at hl 0 rfl) ?_
            refine lv_imul hx hb d_NB_put_47 ?_
            refine wv_top (w := nI (8 * t0)) (pk_mul _ _) ?_
            refine lv_lushr hx hb d_NB_put_48 rfl ?_
            refine lv_l2i hx hb d_NB_put_49 rfl ?_
            refine lv_i2b hx hb d_NB_put_50 rfl ?_
            refine wv_bast hx hb h q hq (f := (bs (fil (8 * k) t0 (by8 v) (Bf b)))) t1_q (k := (8 * k) + t0) rfl (by omega) (by omega) d_NB_put_51 (fun H locs h => ?_)
            obtain ⟨ev2, o2⟩ : ∃ z, z = va_up ev1 q (eB G (bsz b) (va_up ((bs (fil (8 * k) t0 (by8 v) (Bf b)))) ((8 * k) + t0) (vp_nar .byte ((((v.toUInt64 >>> ((nI (8 * t0)).toInt64.toUInt64 &&& Int64.toUInt64 63)).toInt64).toInt32).toInt8.toInt32)))) := ⟨_, rfl⟩
            rw [← o2] at h
            have t2_q : ev2 q = eB G (bsz b) (va_up ((bs (fil (8 * k) t0 (by8 v) (Bf b)))) ((8 * k) + t0) (vp_nar .byte ((((v.toUInt64 >>> ((nI (8 * t0)).toInt64.toUInt64 &&& Int64.toUInt64 63)).toInt64).toInt32).toInt8.toInt32))) := by rw [o2, va_up_self]
            rw [bs_up _ _ (by8 v t0) (wr_by8 v (by omega)), fil_s _ _ _ _ rfl] at o2
            refine lv_iinc (v := nI (t0 + 1)) (lv' := [(6, .int (nI (t0 + 1))), (5, .ref (ad q)), (0, .ref (ad 0)), (1, .int (nI (b))), (2, .int (nI (k))), (3, .long (v))]) hx hb d_NB_put_52 hl (k := 0) rfl (nI_add _ _) (by decide) rfl (fun ls hl => ?_)
            refine lv_goto (tgt := 26) hx hb d_NB_put_55 (by decide) ?_
            refine ih (t0 + 1) (by omega) ev2 H locs ls ?_ h (lv_sub hl [0, 1, 2, 3, 4, 5] rfl)
            rw [o2, o1, va_up2]
        exact loop1 8 0 rfl ev H locs ls (by rw [fil_0, va_upi _ _ hev]) h (lv_sub hl [0, 1, 2, 3, 4, 5] rfl)
      · rw [ho]
        refine W.eq (g2 := F0 m 18 ls [.int (nI 0)]) rfl ?_
        refine lv_if_ne (tgt := 23) hx hb d_NB_put_18 (by decide) (fun hc => absurd (by decide) hc) (fun _ => ?_)
        refine lv_iconst (v := nI (0)) hx hb d_NB_put_21 (by decide) ?_
        exact wv_zret hx hb hr hlocks h d_NB_put_22 rfl ⟨_, _, rfl, Or.inr ⟨fun b2 k hb2 hk2 e => by
            obtain rfl := (nI_eq (by omega) (by omega)).mp e
            exact far k hk2, rfl, rfl⟩, hNB0, fun _ _ => rfl⟩
  · rw [ho]
    refine W.eq (g2 := F0 m 5 ls [.null]) rfl ?_
    refine lv_astoreN (lv' := [(5, .null), (0, .ref (ad 0)), (1, .int (x)), (2, .int (i)), (3, .long (v))]) hx hb d_NB_put_5 hl (by decide) rfl (fun ls hl => ?_)
    refine lv_iload_n hx hb d_NB_put_7 rfl (lv_at hl 2 rfl) ?_
    refine lv_iconst (v := nI (4)) hx hb d_NB_put_8 (by decide) ?_
    refine lv_icmp_eq (tgt := 21) hx hb d_NB_put_9 (by decide) (fun hc => absurd hc (far 4 (by decide))) (fun _ => ?_)
    refine lv_aloadN hx hb d_NB_put_12 (lv_at hl 0 rfl) ?_
    refine lv_iload_n hx hb d_NB_put_14 rfl (lv_at hl 3 rfl) ?_
    refine wv_Sx (As := [.null, .int (i)]) (rest := []) (k := 2) ⟨hx, hb, hml, hown, hts⟩ h (m_NB_hasRoom0 l G A ad ev i) kc_NB_hasRoom kl_NB_66 ks_NB_hasRoom ki_NB (by decide +kernel) ⟨rfl, rfl, Nat.le_of_ble_eq_true rfl, Nat.le_of_ble_eq_true rfl⟩ hl.1 rfl rfl (Nat.le_of_ble_eq_true rfl) ⟨Nat.le_refl _, Nat.le_refl _⟩ d_NB_put_15 ?_
    intro ov ev3 H locs hp h
    rw [hp.1]
    refine W.eq (g2 := F0 m 18 ls [.int (nI (0))]) rfl ?_
    rw [hp.2] at h
    refine lv_if_ne (tgt := 23) hx hb d_NB_put_18 (by decide) (fun hc => absurd (by decide) hc) (fun _ => ?_)
    refine lv_iconst (v := nI (0)) hx hb d_NB_put_21 (by decide) ?_
    exact wv_zret hx hb hr hlocks h d_NB_put_22 rfl ⟨_, _, rfl, Or.inr ⟨fun b2 k hb2 _ e => absurd e (far b2 (by omega)), rfl, rfl⟩, hNB0, fun _ _ => rfl⟩
theorem d_NB_word_0 : decode c_NB_word 0 = .ok (.aload_n 0, 1) := by decide +kernel
theorem d_NB_word_1 : decode c_NB_word 1 = .ok (.iload_n 1, 1) := by decide +kernel
theorem d_NB_word_2 : decode c_NB_word 2 = .ok (.invokevirtual 62, 3) := by decide +kernel
theorem d_NB_word_5 : decode c_NB_word 5 = .ok (.astore_n 3, 1) := by decide +kernel
theorem d_NB_word_6 : decode c_NB_word 6 = .ok (.aload_n 3, 1) := by decide +kernel
theorem d_NB_word_7 : decode c_NB_word 7 = .ok (.iload_n 2, 1) := by decide +kernel
theorem d_NB_word_8 : decode c_NB_word 8 = .ok (.invokestatic 66, 3) := by decide +kernel
theorem d_NB_word_11 : decode c_NB_word 11 = .ok (.ifCond .ne 5, 3) := by decide +kernel
theorem d_NB_word_14 : decode c_NB_word 14 = .ok (.lconst 0, 1) := by decide +kernel
theorem d_NB_word_15 : decode c_NB_word 15 = .ok (.lreturn, 1) := by decide +kernel
theorem d_NB_word_16 : decode c_NB_word 16 = .ok (.lconst 0, 1) := by decide +kernel
theorem d_NB_word_17 : decode c_NB_word 17 = .ok (.lstore 4, 2) := by decide +kernel
theorem d_NB_word_19 : decode c_NB_word 19 = .ok (.bipush 7, 2) := by decide +kernel
theorem d_NB_word_21 : decode c_NB_word 21 = .ok (.istore 6, 2) := by decide +kernel
theorem d_NB_word_23 : decode c_NB_word 23 = .ok (.iload 6, 2) := by decide +kernel
theorem d_NB_word_25 : decode c_NB_word 25 = .ok (.ifCond .lt 31, 3) := by decide +kernel
theorem d_NB_word_28 : decode c_NB_word 28 = .ok (.lload 4, 2) := by decide +kernel
theorem d_NB_word_30 : decode c_NB_word 30 = .ok (.bipush 8, 2) := by decide +kernel
theorem d_NB_word_32 : decode c_NB_word 32 = .ok (.lshl, 1) := by decide +kernel
theorem d_NB_word_33 : decode c_NB_word 33 = .ok (.aload_n 3, 1) := by decide +kernel
theorem d_NB_word_34 : decode c_NB_word 34 = .ok (.bipush 8, 2) := by decide +kernel
theorem d_NB_word_36 : decode c_NB_word 36 = .ok (.iload_n 2, 1) := by decide +kernel
theorem d_NB_word_37 : decode c_NB_word 37 = .ok (.imul, 1) := by decide +kernel
theorem d_NB_word_38 : decode c_NB_word 38 = .ok (.iload 6, 2) := by decide +kernel
theorem d_NB_word_40 : decode c_NB_word 40 = .ok (.iadd, 1) := by decide +kernel
theorem d_NB_word_41 : decode c_NB_word 41 = .ok (.baload, 1) := by decide +kernel
theorem d_NB_word_42 : decode c_NB_word 42 = .ok (.sipush 255, 3) := by decide +kernel
theorem d_NB_word_45 : decode c_NB_word 45 = .ok (.iand, 1) := by decide +kernel
theorem d_NB_word_46 : decode c_NB_word 46 = .ok (.i2l, 1) := by decide +kernel
theorem d_NB_word_47 : decode c_NB_word 47 = .ok (.lor, 1) := by decide +kernel
theorem d_NB_word_48 : decode c_NB_word 48 = .ok (.lstore 4, 2) := by decide +kernel
theorem d_NB_word_50 : decode c_NB_word 50 = .ok (.iinc 6 (-1), 3) := by decide +kernel
theorem d_NB_word_53 : decode c_NB_word 53 = .ok (.goto (-30), 3) := by decide +kernel
theorem d_NB_word_56 : decode c_NB_word 56 = .ok (.lload 4, 2) := by decide +kernel
theorem d_NB_word_58 : decode c_NB_word 58 = .ok (.lreturn, 1) := by decide +kernel
set_option maxRecDepth 100000 in
set_option maxHeartbeats 4000000 in
/-- word -/
theorem m_NB_word (l : Launch) (G : wG) (A : Nat → Prop) (ad : Nat → Nat) (ev : Nat → va_E) (x i : Int32) (Bf : Nat → Nat → Nat) (tl ol : Nat) (hNB : NB G ad ev Bf tl ol) : wM l y_NB_word w_NB_word ({ frames := 6, cells := 0, slots := 0, locals := 200 }) G A 52 ad ev [.ref (ad 0), .int (x), .int (i)] (fun ov ev' => ∃ ans : Int64, ov = some (.long ans) ∧ spWord x i Bf ans ∧ ev' = ev) := by
  refine wv_ofW (cc := c_NB_word) (maxL := 7) (ret := (Option.some FieldType.long)) (by decide) rfl (Nat.le_of_ble_eq_true rfl) ?_
  intro p e s m below meth c ls hx hb hr hml hts hown hlocks hini h hl
  have hl : lv_has ls 7 [(0, .ref (ad 0)), (1, .int (x)), (2, .int (i))] := hl
  have hNB0 := hNB
  obtain ⟨g0, g1, g2, g3, g4, g5, g6, ⟨x7, g7⟩, ⟨x8, g8⟩, ⟨x9, g9⟩, ⟨x10, b10, z10, g10⟩, ⟨x11, b11, g11⟩, g12, g13, ⟨x14, g14⟩, ⟨x15, g15⟩, ⟨x16, g16⟩, ⟨x17, g17⟩, g18, g19, ⟨x20, g20⟩, ⟨x21, g21⟩, ⟨x22, g22⟩, ⟨x23, g23⟩, ⟨x24, g24⟩, ⟨x25, g25⟩, ⟨x26, g26⟩, ⟨x27, g27⟩, ⟨x28, g28⟩, ⟨x29, g29⟩, ⟨x30, g30⟩, ⟨x31, g31⟩, ⟨x32, g32⟩, ⟨x33, g33⟩, ⟨x34, b34, g34⟩, g35, ⟨x36, b36, g36⟩, hB, htl, hol⟩ := hNB
  refine lv_aload_n hx hb d_NB_word_0 rfl (lv_at hl 0 rfl) ?_
  refine lv_iload_n hx hb d_NB_word_1 rfl (lv_at hl 1 rfl) ?_
  refine wv_V (As := [.int (x)]) (rest := []) (k := 1) ⟨hx, hb, hml, hown, hts⟩ h 0 (by decide) (C := "NonceBox") g0 rfl (m_NB_rowOf l G A ad ev x Bf tl ol hNB0) kc_NB_rowOf kl_NB_62 km_NB_rowOf kv_NB_rowOf ki_NB (by decide +kernel) ⟨rfl, rfl, Nat.le_of_ble_eq_true rfl, Nat.le_of_ble_eq_true rfl⟩ hl.1 rfl rfl (Nat.le_of_ble_eq_true rfl) ⟨Nat.le_refl _, Nat.le_refl _⟩ d_NB_word_2 ?_
  intro ov ev1 H locs hp h
  obtain ⟨he, hp⟩ := hp
  rw [he] at h
  rcases hp with ⟨b, hb5, hxb, ho⟩ | ⟨far, ho⟩
  · subst hxb
    obtain ⟨q, hqb⟩ : ∃ q, q = b + 1 := ⟨_, rfl⟩
    have hev : ev q = eB G (bsz b) (bs (Bf b)) := by rw [hqb]; exact NB_row hNB0 b hb5
    have hq : q < 52 := by omega
    have hbs := bsz_in b
    rw [← hqb] at ho
    rw [ho]
    refine W.eq (g2 := F0 m 5 ls [.ref (ad q)]) rfl ?_
    refine lv_astore_n (lv' := [(3, .ref (ad q)), (0, .ref (ad 0)), (1, .int (nI (b))), (2, .int (i))]) hx hb d_NB_word_5 rfl hl (by decide) rfl (fun ls hl => ?_)
    refine lv_aload_n hx hb d_NB_word_6 rfl (lv_at hl 0 rfl) ?_
    refine lv_iload_n hx hb d_NB_word_7 rfl (lv_at hl 3 rfl) ?_
    refine wv_Sx (As := [.ref (ad q), .int (i)]) (rest := []) (k := 2) ⟨hx, hb, hml, hown, hts⟩ h (m_NB_hasRoom l G A ad ev i q (bsz b) (Bf b) hq hev (by omega)) kc_NB_hasRoom kl_NB_66 ks_NB_hasRoom ki_NB (by decide +kernel) ⟨rfl, rfl, Nat.le_of_ble_eq_true rfl, Nat.le_of_ble_eq_true rfl⟩ hl.1 rfl rfl (Nat.le_of_ble_eq_true rfl) ⟨Nat.le_refl _, Nat.le_refl _⟩ d_NB_word_8 ?_
    intro ov ev1 H locs hp h
    obtain ⟨he, hp⟩ := hp
    rw [he] at h
    rcases hp with ⟨k, hk, hik, ho⟩ | ⟨far, ho⟩
    · subst hik
      rw [ho]
      refine W.eq (g2 := F0 m 11 ls [.int (nI 1)]) rfl ?_
      refine lv_if_ne (tgt := 16) hx hb d_NB_word_11 (by decide) (fun _ => ?_) (fun hc => absurd hc (by decide))
      refine lv_lconst (v := 0) hx hb d_NB_word_16 (by decide) ?_
      refine lv_lstore (lv' := [(4, .long (0)), (3, .ref (ad q)), (0, .ref (ad 0)), (1, .int (nI (b))), (2, .int (nI (k)))]) hx hb d_NB_word_17 hl (by decide) rfl (fun ls hl => ?_)
      refine lv_bipush (v := nI (7)) hx hb d_NB_word_19 (by decide) ?_
      refine lv_istore (lv' := [(6, .int (nI (7))), (4, .long (0)), (3, .ref (ad q)), (0, .ref (ad 0)), (1, .int (nI (b))), (2, .int (nI (k)))]) hx hb d_NB_word_21 hl (by decide) rfl (fun ls hl => ?_)
      have loop : ∀ (d t0 : Nat), t0 + d = 8 → ∀ (ls : Array Slot), lv_has ls 7 [(6, .int (dn d)), (4, .long (lN (hw (Bf b) (8 * k) t0))), (3, .ref (ad q)), (0, .ref (ad 0)), (1, .int (nI (b))), (2, .int (nI (k)))] → W p l e ({ frames := 6, cells := 0, slots := 0, locals := 200 }) s m ([.ref (ad 0), .int (nI b), .int (nI k)] : List Value).toArray below meth c H locs 0 0 (MQ below (wQc G A 52 ad (fun ov ev' => ∃ ans : Int64, ov = some (.long ans) ∧ spWord (nI b) (nI k) Bf ans ∧ ev' = ev)) ([.ref (ad 0), .int (nI b), .int (nI k)] : List Value).toArray s 0 0 A) (F0 m 23 ls []) := by
        intro d
        induction d with
        | zero =>
          intro t0 ht0 ls hl
          have hl : lv_has ls 7 [(6, .int ((-1 : Int32))), (4, .long (lN (hw (Bf b) (8 * k) t0))), (3, .ref (ad q)), (0, .ref (ad 0)), (1, .int (nI (b))), (2, .int (nI (k)))] := hl
          refine lv_iload hx hb d_NB_word_23 (lv_at hl 0 rfl) ?_
          refine lv_if_lt (tgt := 56) hx hb d_NB_word_25 (by decide) (fun _ => ?_) (fun hc => absurd (by decide) hc)
          refine lv_lload hx hb d_NB_word_56 (lv_at hl 1 rfl) ?_
          exact wv_lret hx hb hr hlocks h d_NB_word_58 ⟨_, rfl, Or.inl ⟨b, k, hb5, hk, rfl, rfl, by rw [show t0 = 8 by omega, hw_8]⟩, rfl⟩
        | succ d ih =>
          intro t0 ht0 ls hl
          have hl : lv_has ls 7 [(6, .int (nI (d))), (4, .long (lN (hw (Bf b) (8 * k) t0))), (3, .ref (ad q)), (0, .ref (ad 0)), (1, .int (nI (b))), (2, .int (nI (k)))] := hl
          refine lv_iload hx hb d_NB_word_23 (lv_at hl 0 rfl) ?_
          refine lv_if_lt (tgt := 56) hx hb d_NB_word_25 (by decide) (fun hc => absurd hc (nI_pos (by omega))) (fun _ => ?_)
          refine lv_lload hx hb d_NB_word_28 (lv_at hl 1 rfl) ?_
          refine lv_bipush (v := nI (8)) hx hb d_NB_word_30 (by decide) ?_
          refine lv_lshl (v := sal (lN (hw (Bf b) (8 * k) t0)) 8) hx hb d_NB_word_32 rfl ?_
          refine lv_aload_n hx hb d_NB_word_33 rfl (lv_at hl 2 rfl) ?_
          refine lv_bipush (v := nI (8)) hx hb d_NB_word_34 (by decide) ?_
          refine lv_iload_n hx hb d_NB_word_36 rfl (lv_at hl 5 rfl) ?_
          refine lv_imul hx hb d_NB_word_37 ?_
          refine wv_top (w := nI (8 * k)) (pk_mul _ _) ?_
          refine lv_iload hx hb d_NB_word_38 (lv_at hl 0 rfl) ?_
          refine lv_iadd hx hb d_NB_word_40 ?_
          refine wv_top (w := nI ((8 * k) + d)) (nI_add _ _) ?_
          refine wv_bald hx hb h q hq (f := (bs (Bf b))) hev (k := (8 * k) + d) rfl (by omega) (by omega) d_NB_word_41 ?_
          refine lv_sipush (v := (255 : Int32)) hx hb d_NB_word_42 (by decide) ?_
          refine lv_iand hx hb d_NB_word_45 ?_
          refine wv_top (w := nI (Bf b (8 * k + d))) (bs_and (hB b _)) ?_
          refine lv_i2l hx hb d_NB_word_46 rfl ?_
          refine lv_lor hx hb d_NB_word_47 ?_
          refine wv_topl (w := lN (hw (Bf b) (8 * k) (t0 + 1))) (by rw [show d = 7 - t0 by omega]; exact hw_s (hB b) _ (by omega)) ?_
          refine lv_lstore (lv' := [(4, .long (lN (hw (Bf b) (8 * k) (t0 + 1)))), (6, .int (nI (d))), (3, .ref (ad q)), (0, .ref (ad 0)), (1, .int (nI (b))), (2, .int (nI (k)))]) hx hb d_NB_word_48 hl (by decide) rfl (fun ls hl => ?_)
          refine lv_iinc (v := dn d) (lv' := [(6, .int (dn d)), (4, .long (lN (hw (Bf b) (8 * k) (t0 + 1)))), (3, .ref (ad q)), (0, .ref (ad 0)), (1, .int (nI (b))), (2, .int (nI (k)))]) hx hb d_NB_word_50 hl (k := 1) rfl (dn_dec d) (by decide) rfl (fun ls hl => ?_)
          refine lv_goto (tgt := 23) hx hb d_NB_word_53 (by decide) ?_
          exact ih (t0 + 1) (by omega) ls (lv_sub hl [0, 1, 2, 3, 4, 5] rfl)
      exact loop 8 0 rfl ls (lv_sub hl [0, 1, 2, 3, 4, 5] rfl)
    · rw [ho]
      refine W.eq (g2 := F0 m 11 ls [.int (nI 0)]) rfl ?_
      refine lv_if_ne (tgt := 16) hx hb d_NB_word_11 (by decide) (fun hc => absurd (by decide) hc) (fun _ => ?_)
      refine lv_lconst (v := 0) hx hb d_NB_word_14 (by decide) ?_
      exact wv_lret hx hb hr hlocks h d_NB_word_15 ⟨_, rfl, Or.inr ⟨fun b2 k hb2 hk2 e => by
          obtain rfl := (nI_eq (by omega) (by omega)).mp e
          exact far k hk2, rfl⟩, rfl⟩
  · rw [ho]
    refine W.eq (g2 := F0 m 5 ls [.null]) rfl ?_
    refine lv_astore_nN (lv' := [(3, .null), (0, .ref (ad 0)), (1, .int (x)), (2, .int (i))]) hx hb d_NB_word_5 rfl hl (by decide) rfl (fun ls hl => ?_)
    refine lv_aload_nN hx hb d_NB_word_6 rfl (lv_at hl 0 rfl) ?_
    refine lv_iload_n hx hb d_NB_word_7 rfl (lv_at hl 3 rfl) ?_
    refine wv_Sx (As := [.null, .int (i)]) (rest := []) (k := 2) ⟨hx, hb, hml, hown, hts⟩ h (m_NB_hasRoom0 l G A ad ev i) kc_NB_hasRoom kl_NB_66 ks_NB_hasRoom ki_NB (by decide +kernel) ⟨rfl, rfl, Nat.le_of_ble_eq_true rfl, Nat.le_of_ble_eq_true rfl⟩ hl.1 rfl rfl (Nat.le_of_ble_eq_true rfl) ⟨Nat.le_refl _, Nat.le_refl _⟩ d_NB_word_8 ?_
    intro ov ev1 H locs hp h
    rw [hp.1]
    refine W.eq (g2 := F0 m 11 ls [.int (nI (0))]) rfl ?_
    rw [hp.2] at h
    refine lv_if_ne (tgt := 16) hx hb d_NB_word_11 (by decide) (fun hc => absurd (by decide) hc) (fun _ => ?_)
    refine lv_lconst (v := 0) hx hb d_NB_word_14 (by decide) ?_
    exact wv_lret hx hb hr hlocks h d_NB_word_15 ⟨_, rfl, Or.inr ⟨fun b2 k hb2 _ e => absurd e (far b2 (by omega)), rfl⟩, rfl⟩
