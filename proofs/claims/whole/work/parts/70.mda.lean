/-! the reference: rows of ints 0 .. 255 -/
theorem i32_rel (x : Int32) : x.toInt = (x.toBitVec.toNat : Int) ∨ x.toInt = (x.toBitVec.toNat : Int) - 4294967296 := by
  have c := BitVec.toInt_eq_toNat_cond x.toBitVec
  show x.toBitVec.toInt = _ ∨ x.toBitVec.toInt = _
  rw [c]
  by_cases q : 2 * x.toBitVec.toNat < 2 ^ 32
  · rw [if_pos q]; exact Or.inl rfl
  · rw [if_neg q]; exact Or.inr rfl
theorem sh_by (x : Int32) {k : Nat} (hk : k < 4) : x >>> (nI (8 * k) &&& 31) &&& (255 : Int32) = nI (byN x k) := by
  rw [pk_and _ 8 (by decide)]
  have h1 := pk_shr x (nI (8 * k) &&& 31) (8 * k) (by rcases (show k = 0 ∨ k = 1 ∨ k = 2 ∨ k = 3 by omega) with rfl | rfl | rfl | rfl <;> decide)
  rw [Int.shiftRight_eq_div_pow] at h1
  have r1 := i32_rel x
  have r2 := i32_rel (x >>> (nI (8 * k) &&& 31))
  rw [h1] at r2
  unfold byN
  congr 1
  have hb := x.toBitVec.isLt
  have hb2 := (x >>> (nI (8 * k) &&& 31)).toBitVec.isLt
  generalize (x >>> (nI (8 * k) &&& 31)).toBitVec.toNat = b at r2 hb2 ⊢
  generalize x.toBitVec.toNat = a at r1 hb ⊢
  rcases (show k = 0 ∨ k = 1 ∨ k = 2 ∨ k = 3 by omega) with rfl | rfl | rfl | rfl
  · rw [show ((2 ^ (8 * 0) : Nat) : Int) = 1 from rfl] at r2; rw [show 2 ^ (8 * 0) = 1 from rfl]; omega
  · rw [show ((2 ^ (8 * 1) : Nat) : Int) = 256 from rfl] at r2; rw [show 2 ^ (8 * 1) = 256 from rfl]; omega
  · rw [show ((2 ^ (8 * 2) : Nat) : Int) = 65536 from rfl] at r2; rw [show 2 ^ (8 * 2) = 65536 from rfl]; omega
  · rw [show ((2 ^ (8 * 3) : Nat) : Int) = 16777216 from rfl] at r2; rw [show 2 ^ (8 * 3) = 16777216 from rfl]; omega
def layT (K X : Nat → Nat) (f : Nat → Int32) : Nat → (Nat → Int32)
  | 0 => f
  | k + 1 => va_up (va_up (va_up (layT K X f k) (1 + k) (wordN K (4 * k))) (11 + k) (wordN K (16 + 4 * k))) (6 + k) (wordN X (4 * k))
theorem layT_4 (K X : Nat → Nat) (f : Nat → Int32) : ∀ j, j < 16 → layT K X (va_up (va_up (va_up (va_up f 0 1634760805) 5 857760878) 10 2036477234) 15 1797285236) 4 j = LAY K X j := by
  intro j hj
  match j, hj with
  | 0, _ => rfl
  | 1, _ => rfl
  | 2, _ => rfl
  | 3, _ => rfl
  | 4, _ => rfl
  | 5, _ => rfl
  | 6, _ => rfl
  | 7, _ => rfl
  | 8, _ => rfl
  | 9, _ => rfl
  | 10, _ => rfl
  | 11, _ => rfl
  | 12, _ => rfl
  | 13, _ => rfl
  | 14, _ => rfl
  | 15, _ => rfl
  | j + 16, h => exact absurd h (by omega)
theorem d_Md_wordAt_0 : decode c_Md_wordAt 0 = .ok (.aload_n 0, 1) := by decide +kernel
theorem d_Md_wordAt_1 : decode c_Md_wordAt 1 = .ok (.iload_n 1, 1) := by decide +kernel
theorem d_Md_wordAt_2 : decode c_Md_wordAt 2 = .ok (.iaload, 1) := by decide +kernel
theorem d_Md_wordAt_3 : decode c_Md_wordAt 3 = .ok (.aload_n 0, 1) := by decide +kernel
theorem d_Md_wordAt_4 : decode c_Md_wordAt 4 = .ok (.iload_n 1, 1) := by decide +kernel
theorem d_Md_wordAt_5 : decode c_Md_wordAt 5 = .ok (.iconst 1, 1) := by decide +kernel
theorem d_Md_wordAt_6 : decode c_Md_wordAt 6 = .ok (.iadd, 1) := by decide +kernel
theorem d_Md_wordAt_7 : decode c_Md_wordAt 7 = .ok (.iaload, 1) := by decide +kernel
theorem d_Md_wordAt_8 : decode c_Md_wordAt 8 = .ok (.bipush 8, 2) := by decide +kernel
theorem d_Md_wordAt_10 : decode c_Md_wordAt 10 = .ok (.ishl, 1) := by decide +kernel
theorem d_Md_wordAt_11 : decode c_Md_wordAt 11 = .ok (.ior, 1) := by decide +kernel
theorem d_Md_wordAt_12 : decode c_Md_wordAt 12 = .ok (.aload_n 0, 1) := by decide +kernel
theorem d_Md_wordAt_13 : decode c_Md_wordAt 13 = .ok (.iload_n 1, 1) := by decide +kernel
theorem d_Md_wordAt_14 : decode c_Md_wordAt 14 = .ok (.iconst 2, 1) := by decide +kernel
theorem d_Md_wordAt_15 : decode c_Md_wordAt 15 = .ok (.iadd, 1) := by decide +kernel
theorem d_Md_wordAt_16 : decode c_Md_wordAt 16 = .ok (.iaload, 1) := by decide +kernel
theorem d_Md_wordAt_17 : decode c_Md_wordAt 17 = .ok (.bipush 16, 2) := by decide +kernel
theorem d_Md_wordAt_19 : decode c_Md_wordAt 19 = .ok (.ishl, 1) := by decide +kernel
theorem d_Md_wordAt_20 : decode c_Md_wordAt 20 = .ok (.ior, 1) := by decide +kernel
theorem d_Md_wordAt_21 : decode c_Md_wordAt 21 = .ok (.aload_n 0, 1) := by decide +kernel
theorem d_Md_wordAt_22 : decode c_Md_wordAt 22 = .ok (.iload_n 1, 1) := by decide +kernel
theorem d_Md_wordAt_23 : decode c_Md_wordAt 23 = .ok (.iconst 3, 1) := by decide +kernel
theorem d_Md_wordAt_24 : decode c_Md_wordAt 24 = .ok (.iadd, 1) := by decide +kernel
theorem d_Md_wordAt_25 : decode c_Md_wordAt 25 = .ok (.iaload, 1) := by decide +kernel
theorem d_Md_wordAt_26 : decode c_Md_wordAt 26 = .ok (.bipush 24, 2) := by decide +kernel
theorem d_Md_wordAt_28 : decode c_Md_wordAt 28 = .ok (.ishl, 1) := by decide +kernel
theorem d_Md_wordAt_29 : decode c_Md_wordAt 29 = .ok (.ior, 1) := by decide +kernel
theorem d_Md_wordAt_30 : decode c_Md_wordAt 30 = .ok (.ireturn, 1) := by decide +kernel
set_option maxRecDepth 100000 in
set_option maxHeartbeats 4000000 in
/-- four bytes as a word -/
theorem m_Md_wordAt (l : Launch) (G : wG) (A : Nat → Prop) (ad : Nat → Nat) (ev : Nat → va_E) (q M o : Nat) (B : Nat → Nat) (hq : q < 52) (hev : ev q = eI G M (ns B)) (ho : o + 4 ≤ M) (hM : M < 2 ^ 31) : wM l y_Md_wordAt w_Md_wordAt ({ frames := 0, cells := 0, slots := 0, locals := 0 }) G A 52 ad ev [.ref (ad q), .int (nI (o))] (fun ov ev' => ov = some (.int (wordN B o)) ∧ ev' = ev) := by
  refine wv_ofW (cc := c_Md_wordAt) (maxL := 2) (ret := (Option.some FieldType.int)) (by decide) rfl (Nat.le_of_ble_eq_true rfl) ?_
  intro p e s m below meth c ls hx hb hr hml hts hown hlocks hini h hl
  have hl : lv_has ls 2 [(0, .ref (ad q)), (1, .int (nI (o)))] := hl
  refine lv_aload_n hx hb d_Md_wordAt_0 rfl (lv_at hl 0 rfl) ?_
  refine lv_iload_n hx hb d_Md_wordAt_1 rfl (lv_at hl 1 rfl) ?_
  refine wv_iald hx hb h q hq (f := (ns B)) hev (k := o) rfl (by omega) hM d_Md_wordAt_2 ?_
  refine lv_aload_n hx hb d_Md_wordAt_3 rfl (lv_at hl 0 rfl) ?_
  refine lv_iload_n hx hb d_Md_wordAt_4 rfl (lv_at hl 1 rfl) ?_
  refine lv_iconst (v := nI (1)) hx hb d_Md_wordAt_5 (by decide) ?_
  refine lv_iadd hx hb d_Md_wordAt_6 ?_
  refine wv_top (w := nI (o + 1)) (nI_add _ _) ?_
  refine wv_iald hx hb h q hq (f := (ns B)) hev (k := o + 1) rfl (by omega) hM d_Md_wordAt_7 ?_
  refine lv_bipush (v := (8 : Int32)) hx hb d_Md_wordAt_8 (by decide) ?_
  refine lv_ishl hx hb d_Md_wordAt_10 ?_
  refine lv_ior hx hb d_Md_wordAt_11 ?_
  refine lv_aload_n hx hb d_Md_wordAt_12 rfl (lv_at hl 0 rfl) ?_
  refine lv_iload_n hx hb d_Md_wordAt_13 rfl (lv_at hl 1 rfl) ?_
  refine lv_iconst (v := nI (2)) hx hb d_Md_wordAt_14 (by decide) ?_
  refine lv_iadd hx hb d_Md_wordAt_15 ?_
  refine wv_top (w := nI (o + 2)) (nI_add _ _) ?_
  refine wv_iald hx hb h q hq (f := (ns B)) hev (k := o + 2) rfl (by omega) hM d_Md_wordAt_16 ?_
  refine lv_bipush (v := (16 : Int32)) hx hb d_Md_wordAt_17 (by decide) ?_
  refine lv_ishl hx hb d_Md_wordAt_19 ?_
  refine lv_ior hx hb d_Md_wordAt_20 ?_
  refine lv_aload_n hx hb d_Md_wordAt_21 rfl (lv_at hl 0 rfl) ?_
  refine lv_iload_n hx hb d_Md_wordAt_22 rfl (lv_at hl 1 rfl) ?_
  refine lv_iconst (v := nI (3)) hx hb d_Md_wordAt_23 (by decide) ?_
  refine lv_iadd hx hb d_Md_wordAt_24 ?_
  refine wv_top (w := nI (o + 3)) (nI_add _ _) ?_
  refine wv_iald hx hb h q hq (f := (ns B)) hev (k := o + 3) rfl (by omega) hM d_Md_wordAt_25 ?_
  refine lv_bipush (v := (24 : Int32)) hx hb d_Md_wordAt_26 (by decide) ?_
  refine lv_ishl hx hb d_Md_wordAt_28 ?_
  refine lv_ior hx hb d_Md_wordAt_29 ?_
  exact wv_iret hx hb hr hlocks h d_Md_wordAt_30 ⟨rfl, rfl⟩
theorem d_Md_setWord_0 : decode c_Md_setWord 0 = .ok (.iconst 0, 1) := by decide +kernel
theorem d_Md_setWord_1 : decode c_Md_setWord 1 = .ok (.istore_n 3, 1) := by decide +kernel
theorem d_Md_setWord_2 : decode c_Md_setWord 2 = .ok (.iload_n 3, 1) := by decide +kernel
theorem d_Md_setWord_3 : decode c_Md_setWord 3 = .ok (.iconst 4, 1) := by decide +kernel
theorem d_Md_setWord_4 : decode c_Md_setWord 4 = .ok (.if_icmp .ge 24, 3) := by decide +kernel
theorem d_Md_setWord_7 : decode c_Md_setWord 7 = .ok (.aload_n 0, 1) := by decide +kernel
theorem d_Md_setWord_8 : decode c_Md_setWord 8 = .ok (.iload_n 1, 1) := by decide +kernel
theorem d_Md_setWord_9 : decode c_Md_setWord 9 = .ok (.iload_n 3, 1) := by decide +kernel
theorem d_Md_setWord_10 : decode c_Md_setWord 10 = .ok (.iadd, 1) := by decide +kernel
theorem d_Md_setWord_11 : decode c_Md_setWord 11 = .ok (.iload_n 2, 1) := by decide +kernel
theorem d_Md_setWord_12 : decode c_Md_setWord 12 = .ok (.bipush 8, 2) := by decide +kernel
theorem d_Md_setWord_14 : decode c_Md_setWord 14 = .ok (.iload_n 3, 1) := by decide +kernel
theorem d_Md_setWord_15 : decode c_Md_setWord 15 = .ok (.imul, 1) := by decide +kernel
theorem d_Md_setWord_16 : decode c_Md_setWord 16 = .ok (.ishr, 1) := by decide +kernel
theorem d_Md_setWord_17 : decode c_Md_setWord 17 = .ok (.sipush 255, 3) := by decide +kernel
theorem d_Md_setWord_20 : decode c_Md_setWord 20 = .ok (.iand, 1) := by decide +kernel
theorem d_Md_setWord_21 : decode c_Md_setWord 21 = .ok (.iastore, 1) := by decide +kernel
theorem d_Md_setWord_22 : decode c_Md_setWord 22 = .ok (.iinc 3 1, 3) := by decide +kernel
theorem d_Md_setWord_25 : decode c_Md_setWord 25 = .ok (.goto (-23), 3) := by decide +kernel
theorem d_Md_setWord_28 : decode c_Md_setWord 28 = .ok (.return_, 1) := by decide +kernel
set_option maxRecDepth 100000 in
set_option maxHeartbeats 4000000 in
/-- a word as four bytes -/
theorem m_Md_setWord (l : Launch) (G : wG) (A : Nat → Prop) (ad : Nat → Nat) (ev : Nat → va_E) (x : Int32) (q M o : Nat) (B : Nat → Nat) (hq : q < 52) (hev : ev q = eI G M (ns B)) (ho : o + 4 ≤ M) (hM : M < 2 ^ 31) : wM l y_Md_setWord w_Md_setWord ({ frames := 0, cells := 0, slots := 0, locals := 0 }) G A 52 ad ev [.ref (ad q), .int (nI (o)), .int (x)] (fun ov ev' => ov = none ∧ ev' = va_up ev q (eI G M (ns (fil o 4 (byN x) B)))) := by
  refine wv_ofW (cc := c_Md_setWord) (maxL := 4) (ret := none) (by decide) rfl (Nat.le_of_ble_eq_true rfl) ?_
  intro p e s m below meth c ls hx hb hr hml hts hown hlocks hini h hl
  have hl : lv_has ls 4 [(0, .ref (ad q)), (1, .int (nI (o))), (2, .int (x))] := hl
  refine lv_iconst (v := nI (0)) hx hb d_Md_setWord_0 (by decide) ?_
  refine lv_istore_n (lv' := [(3, .int (nI (0))), (0, .ref (ad q)), (1, .int (nI (o))), (2, .int (x))]) hx hb d_Md_setWord_1 rfl hl (by decide) rfl (fun ls hl => ?_)
  have loop1 : ∀ (d k : Nat), k + d = 4 →  ∀ (ev1 : Nat → va_E) (H : Heap) (locs : List Loc) (ls : Array Slot), ev1 = (va_up ev q (eI G M (ns (fil o k (byN x) B)))) → wT G A 52 ad ev1 s H locs → lv_has ls 4 [(3, .int (nI (k))), (0, .ref (ad q)), (1, .int (nI (o))), (2, .int (x))] → W p l e ({ frames := 0, cells := 0, slots := 0, locals := 0 }) s m ([.ref (ad q), .int (nI (o)), .int (x)] : List Value).toArray below meth c H locs 0 0 (MQ below (wQc G A 52 ad (fun ov ev' => ov = none ∧ ev' = va_up ev q (eI G M (ns (fil o 4 (byN x) B))))) ([.ref (ad q), .int (nI (o)), .int (x)] : List Value).toArray s 0 0 A) (F0 m 2 ls []) := by
    intro d
    induction d with
    | zero =>
      intro k hk_k  ev1 H locs ls  o1 h hl
      have t1_q : ev1 q = eI G M (ns (fil o k (byN x) B)) := by rw [o1, va_up_self]
      refine lv_iload_n hx hb d_Md_setWord_2 rfl (lv_at hl 0 rfl) ?_
      refine lv_iconst (v := nI (4)) hx hb d_Md_setWord_3 (by decide) ?_
      refine lv_icmp_ge (tgt := 28) hx hb d_Md_setWord_4 (by decide) (fun _ => ?_) (fun hc => absurd ((nI_leI (by omega) (by omega)).mpr (by omega)) hc)
      refine wv_vret hx hb hr hlocks h d_Md_setWord_28 ⟨rfl, ?_⟩
      rw [o1, show k = 4 by omega]
    | succ d ih =>
      intro k hk_k  ev1 H locs ls  o1 h hl
      have t1_q : ev1 q = eI G M (ns (fil o k (byN x) B)) := by rw [o1, va_up_self]
      refine lv_iload_n hx hb d_Md_setWord_2 rfl (lv_at hl 0 rfl) ?_
      refine lv_iconst (v := nI (4)) hx hb d_Md_setWord_3 (by decide) ?_
      refine lv_icmp_ge (tgt := 28) hx hb d_Md_setWord_4 (by decide) (fun hc => absurd ((nI_leI (by omega) (by omega)).mp hc) (by omega)) (fun _ => ?_)
      refine lv_aload_n hx hb d_Md_setWord_7 rfl (lv_at hl 1 rfl) ?_
      refine lv_iload_n hx hb d_Md_setWord_8 rfl (lv_at hl 2 rfl) ?_
      refine lv_iload_n hx hb d_Md_setWord_9 rfl (lv_at hl 0 rfl) ?_
      refine lv_iadd hx hb d_Md_setWord_10 ?_
      refine wv_top (w := nI (o + k)) (nI_add _ _) ?_
      refine lv_iload_n hx hb d_Md_setWord_11 rfl (lv_at hl 3 rfl) ?_
      refine lv_bipush (v := nI (8)) hx hb d_Md_setWord_12 (by decide) ?_
      refine lv_iload_n hx hb d_Md_setWord_14 rfl (lv_at hl 0 rfl) ?_
      refine lv_imul hx hb d_Md_setWord_15 ?_
      refine wv_top (w := nI (8 * k)) (pk_mul _ _) ?_
      refine lv_ishr hx hb d_Md_setWord_16 ?_
      refine lv_sipush (v := (255 : Int32)) hx hb d_Md_setWord_17 (by decide) ?_
      refine lv_iand hx hb d_Md_setWord_20 ?_
      refine wv_iast hx hb h q hq (f := (ns (fil o k (byN x) B))) t1_q (k := o + k) rfl (by omega) hM d_Md_setWord_21 (fun H locs h => ?_)
      obtain ⟨ev2, o2⟩ : ∃ z, z = va_up ev1 q (eI G M (va_up ((ns (fil o k (byN x) B))) (o + k) ((x >>> ((nI (8 * k)) &&& 31)) &&& (255 : Int32)))) := ⟨_, rfl⟩
      rw [← o2] at h
      have t2_q : ev2 q = eI G M (va_up ((ns (fil o k (byN x) B))) (o + k) ((x >>> ((nI (8 * k)) &&& 31)) &&& (255 : Int32))) := by rw [o2, va_up_self]
      rw [ns_up _ _ (byN x k) (sh_by x (by omega)), fil_s _ _ _ _ rfl] at o2
      refine lv_iinc (v := nI (k + 1)) (lv' := [(3, .int (nI (k + 1))), (0, .ref (ad q)), (1, .int (nI (o))), (2, .int (x))]) hx hb d_Md_setWord_22 hl (k := 0) rfl (nI_add _ _) (by decide) rfl (fun ls hl => ?_)
      refine lv_goto (tgt := 2) hx hb d_Md_setWord_25 (by decide) ?_
      refine ih (k + 1) (by omega) ev2 H locs ls ?_ h (lv_sub hl [0, 1, 2, 3] rfl)
      rw [o2, o1, va_up2]
  exact loop1 4 0 rfl ev s.heap [] ls (by rw [fil_0, va_upi _ _ hev]) h (lv_sub hl [0, 1, 2, 3] rfl)
theorem d_Md_quarter_0 : decode c_Md_quarter 0 = .ok (.aload_n 0, 1) := by decide +kernel
theorem d_Md_quarter_1 : decode c_Md_quarter 1 = .ok (.getfield 22, 3) := by decide +kernel
theorem d_Md_quarter_4 : decode c_Md_quarter 4 = .ok (.iload_n 2, 1) := by decide +kernel
theorem d_Md_quarter_5 : decode c_Md_quarter 5 = .ok (.aload_n 0, 1) := by decide +kernel
theorem d_Md_quarter_6 : decode c_Md_quarter 6 = .ok (.getfield 22, 3) := by decide +kernel
theorem d_Md_quarter_9 : decode c_Md_quarter 9 = .ok (.iload_n 2, 1) := by decide +kernel
theorem d_Md_quarter_10 : decode c_Md_quarter 10 = .ok (.iaload, 1) := by decide +kernel
theorem d_Md_quarter_11 : decode c_Md_quarter 11 = .ok (.aload_n 0, 1) := by decide +kernel
theorem d_Md_quarter_12 : decode c_Md_quarter 12 = .ok (.getfield 22, 3) := by decide +kernel
theorem d_Md_quarter_15 : decode c_Md_quarter 15 = .ok (.iload_n 1, 1) := by decide +kernel
theorem d_Md_quarter_16 : decode c_Md_quarter 16 = .ok (.iaload, 1) := by decide +kernel
theorem d_Md_quarter_17 : decode c_Md_quarter 17 = .ok (.aload_n 0, 1) := by decide +kernel
theorem d_Md_quarter_18 : decode c_Md_quarter 18 = .ok (.getfield 22, 3) := by decide +kernel
theorem d_Md_quarter_21 : decode c_Md_quarter 21 = .ok (.iload 4, 2) := by decide +kernel
theorem d_Md_quarter_23 : decode c_Md_quarter 23 = .ok (.iaload, 1) := by decide +kernel
theorem d_Md_quarter_24 : decode c_Md_quarter 24 = .ok (.iadd, 1) := by decide +kernel
theorem d_Md_quarter_25 : decode c_Md_quarter 25 = .ok (.bipush 7, 2) := by decide +kernel
theorem d_Md_quarter_27 : decode c_Md_quarter 27 = .ok (.invokestatic 73, 3) := by decide +kernel
theorem d_Md_quarter_30 : decode c_Md_quarter 30 = .ok (.ixor, 1) := by decide +kernel
theorem d_Md_quarter_31 : decode c_Md_quarter 31 = .ok (.iastore, 1) := by decide +kernel
theorem d_Md_quarter_32 : decode c_Md_quarter 32 = .ok (.aload_n 0, 1) := by decide +kernel
theorem d_Md_quarter_33 : decode c_Md_quarter 33 = .ok (.getfield 22, 3) := by decide +kernel
theorem d_Md_quarter_36 : decode c_Md_quarter 36 = .ok (.iload_n 3, 1) := by decide +kernel
theorem d_Md_quarter_37 : decode c_Md_quarter 37 = .ok (.aload_n 0, 1) := by decide +kernel
theorem d_Md_quarter_38 : decode c_Md_quarter 38 = .ok (.getfield 22, 3) := by decide +kernel
theorem d_Md_quarter_41 : decode c_Md_quarter 41 = .ok (.iload_n 3, 1) := by decide +kernel
theorem d_Md_quarter_42 : decode c_Md_quarter 42 = .ok (.iaload, 1) := by decide +kernel
theorem d_Md_quarter_43 : decode c_Md_quarter 43 = .ok (.aload_n 0, 1) := by decide +kernel
theorem d_Md_quarter_44 : decode c_Md_quarter 44 = .ok (.getfield 22, 3) := by decide +kernel
theorem d_Md_quarter_47 : decode c_Md_quarter 47 = .ok (.iload_n 2, 1) := by decide +kernel
theorem d_Md_quarter_48 : decode c_Md_quarter 48 = .ok (.iaload, 1) := by decide +kernel
theorem d_Md_quarter_49 : decode c_Md_quarter 49 = .ok (.aload_n 0, 1) := by decide +kernel
theorem d_Md_quarter_50 : decode c_Md_quarter 50 = .ok (.getfield 22, 3) := by decide +kernel
theorem d_Md_quarter_53 : decode c_Md_quarter 53 = .ok (.iload_n 1, 1) := by decide +kernel
theorem d_Md_quarter_54 : decode c_Md_quarter 54 = .ok (.iaload, 1) := by decide +kernel
theorem d_Md_quarter_55 : decode c_Md_quarter 55 = .ok (.iadd, 1) := by decide +kernel
theorem d_Md_quarter_56 : decode c_Md_quarter 56 = .ok (.bipush 9, 2) := by decide +kernel
theorem d_Md_quarter_58 : decode c_Md_quarter 58 = .ok (.invokestatic 73, 3) := by decide +kernel
theorem d_Md_quarter_61 : decode c_Md_quarter 61 = .ok (.ixor, 1) := by decide +kernel
theorem d_Md_quarter_62 : decode c_Md_quarter 62 = .ok (.iastore, 1) := by decide +kernel
theorem d_Md_quarter_63 : decode c_Md_quarter 63 = .ok (.aload_n 0, 1) := by decide +kernel
theorem d_Md_quarter_64 : decode c_Md_quarter 64 = .ok (.getfield 22, 3) := by decide +kernel
theorem d_Md_quarter_67 : decode c_Md_quarter 67 = .ok (.iload 4, 2) := by decide +kernel
theorem d_Md_quarter_69 : decode c_Md_quarter 69 = .ok (.aload_n 0, 1) := by decide +kernel
theorem d_Md_quarter_70 : decode c_Md_quarter 70 = .ok (.getfield 22, 3) := by decide +kernel
theorem d_Md_quarter_73 : decode c_Md_quarter 73 = .ok (.iload 4, 2) := by decide +kernel
theorem d_Md_quarter_75 : decode c_Md_quarter 75 = .ok (.iaload, 1) := by decide +kernel
theorem d_Md_quarter_76 : decode c_Md_quarter 76 = .ok (.aload_n 0, 1) := by decide +kernel
theorem d_Md_quarter_77 : decode c_Md_quarter 77 = .ok (.getfield 22, 3) := by decide +kernel
theorem d_Md_quarter_80 : decode c_Md_quarter 80 = .ok (.iload_n 3, 1) := by decide +kernel
theorem d_Md_quarter_81 : decode c_Md_quarter 81 = .ok (.iaload, 1) := by decide +kernel
theorem d_Md_quarter_82 : decode c_Md_quarter 82 = .ok (.aload_n 0, 1) := by decide +kernel
theorem d_Md_quarter_83 : decode c_Md_quarter 83 = .ok (.getfield 22, 3) := by decide +kernel
theorem d_Md_quarter_86 : decode c_Md_quarter 86 = .ok (.iload_n 2, 1) := by decide +kernel
theorem d_Md_quarter_87 : decode c_Md_quarter 87 = .ok (.iaload, 1) := by decide +kernel
theorem d_Md_quarter_88 : decode c_Md_quarter 88 = .ok (.iadd, 1) := by decide +kernel
theorem d_Md_quarter_89 : decode c_Md_quarter 89 = .ok (.bipush 13, 2) := by decide +kernel
theorem d_Md_quarter_91 : decode c_Md_quarter 91 = .ok (.invokestatic 73, 3) := by decide +kernel
theorem d_Md_quarter_94 : decode c_Md_quarter 94 = .ok (.ixor, 1) := by decide +kernel
theorem d_Md_quarter_95 : decode c_Md_quarter 95 = .ok (.iastore, 1) := by decide +kernel
theorem d_Md_quarter_96 : decode c_Md_quarter 96 = .ok (.aload_n 0, 1) := by decide +kernel
theorem d_Md_quarter_97 : decode c_Md_quarter 97 = .ok (.getfield 22, 3) := by decide +kernel
theorem d_Md_quarter_100 : decode c_Md_quarter 100 = .ok (.iload_n 1, 1) := by decide +kernel
theorem d_Md_quarter_101 : decode c_Md_quarter 101 = .ok (.aload_n 0, 1) := by decide +kernel
theorem d_Md_quarter_102 : decode c_Md_quarter 102 = .ok (.getfield 22, 3) := by decide +kernel
theorem d_Md_quarter_105 : decode c_Md_quarter 105 = .ok (.iload_n 1, 1) := by decide +kernel
theorem d_Md_quarter_106 : decode c_Md_quarter 106 = .ok (.iaload, 1) := by decide +kernel
theorem d_Md_quarter_107 : decode c_Md_quarter 107 = .ok (.aload_n 0, 1) := by decide +kernel
theorem d_Md_quarter_108 : decode c_Md_quarter 108 = .ok (.getfield 22, 3) := by decide +kernel
theorem d_Md_quarter_111 : decode c_Md_quarter 111 = .ok (.iload 4, 2) := by decide +kernel
theorem d_Md_quarter_113 : decode c_Md_quarter 113 = .ok (.iaload, 1) := by decide +kernel
theorem d_Md_quarter_114 : decode c_Md_quarter 114 = .ok (.aload_n 0, 1) := by decide +kernel
theorem d_Md_quarter_115 : decode c_Md_quarter 115 = .ok (.getfield 22, 3) := by decide +kernel
theorem d_Md_quarter_118 : decode c_Md_quarter 118 = .ok (.iload_n 3, 1) := by decide +kernel
theorem d_Md_quarter_119 : decode c_Md_quarter 119 = .ok (.iaload, 1) := by decide +kernel
theorem d_Md_quarter_120 : decode c_Md_quarter 120 = .ok (.iadd, 1) := by decide +kernel
theorem d_Md_quarter_121 : decode c_Md_quarter 121 = .ok (.bipush 18, 2) := by decide +kernel
theorem d_Md_quarter_123 : decode c_Md_quarter 123 = .ok (.invokestatic 73, 3) := by decide +kernel
theorem d_Md_quarter_126 : decode c_Md_quarter 126 = .ok (.ixor, 1) := by decide +kernel
theorem d_Md_quarter_127 : decode c_Md_quarter 127 = .ok (.iastore, 1) := by decide +kernel
theorem d_Md_quarter_128 : decode c_Md_quarter 128 = .ok (.return_, 1) := by decide +kernel
set_option maxRecDepth 100000 in
set_option maxHeartbeats 4000000 in
/-- QUARTER -/
theorem m_Md_quarter (l : Launch) (G : wG) (A : Nat → Prop) (ad : Nat → Nat) (ev : Nat → va_E) (i0 i1 i2 i3 : Nat) (ha0 : i0 < 16) (ha1 : i1 < 16) (ha2 : i2 < 16) (ha3 : i3 < 16) (f : Nat → Int32) (tl ol cd : Nat) (h37 : ev 37 = eO 5 [.ref (ad 38), .int (nI tl), .int (nI ol), .int (nI cd), .ref (ad 39), .ref (ad 40), .ref (ad 41), .ref (ad 42), .ref (ad 43), .ref (ad 44), .ref (ad 45), .ref (ad 46), .ref (ad 47), .ref (ad 48), .ref (ad 49), .ref (ad 50)]) (h42 : ev 42 = eI G 16 f) : wM l y_Md_quarter w_Md_quarter ({ frames := 3, cells := 0, slots := 0, locals := 100 }) G A 52 ad ev [.ref (ad 37), .int (nI (i0)), .int (nI (i1)), .int (nI (i2)), .int (nI (i3))] (fun ov ev' => ov = none ∧ ev' = va_up ev 42 (eI G 16 (qtr i0 i1 i2 i3 f))) := by
  refine wv_ofW (cc := c_Md_quarter) (maxL := 5) (ret := none) (by decide) rfl (Nat.le_of_ble_eq_true rfl) ?_
  intro p e s m below meth c ls hx hb hr hml hts hown hlocks hini h hl
  have hl : lv_has ls 5 [(0, .ref (ad 37)), (1, .int (nI (i0))), (2, .int (nI (i1))), (3, .int (nI (i2))), (4, .int (nI (i3)))] := hl
  obtain ⟨f1, ef1⟩ : ∃ z, z = va_up f i1 (f i1 ^^^ rot (f i0 + f i3) (nI 7)) := ⟨_, rfl⟩
  obtain ⟨f2, ef2⟩ : ∃ z, z = va_up f1 i2 (f1 i2 ^^^ rot (f1 i1 + f1 i0) (nI 9)) := ⟨_, rfl⟩
  obtain ⟨f3, ef3⟩ : ∃ z, z = va_up f2 i3 (f2 i3 ^^^ rot (f2 i2 + f2 i1) (nI 13)) := ⟨_, rfl⟩
  refine lv_aload_n hx hb d_Md_quarter_0 rfl (lv_at hl 0 rfl) ?_
  refine wv_getf hx hb h 37 (by decide) (fs := [.ref (ad 38), .int (nI (tl)), .int (nI (ol)), .int (nI (cd)), .ref (ad 39), .ref (ad 40), .ref (ad 41), .ref (ad 42), .ref (ad 43), .ref (ad 44), .ref (ad 45), .ref (ad 46), .ref (ad 47), .ref (ad 48), .ref (ad 49), .ref (ad 50)]) h37 hts (fun w hw => List.mem_cons_of_mem _ (fW_Md w hw)) hown (ci := 5) (C := "NonceBoxModel") (T := fT_Md) (N := 16) rfl 7 (by decide) (hts _ (List.mem_cons_of_mem _ kf_Md_22)) rfl (v := .ref (ad 42)) rfl d_Md_quarter_1 ?_
  refine lv_iload_n hx hb d_Md_quarter_4 rfl (lv_at hl 2 rfl) ?_
  refine lv_aload_n hx hb d_Md_quarter_5 rfl (lv_at hl 0 rfl) ?_
  refine wv_getf hx hb h 37 (by decide) (fs := [.ref (ad 38), .int (nI (tl)), .int (nI (ol)), .int (nI (cd)), .ref (ad 39), .ref (ad 40), .ref (ad 41), .ref (ad 42), .ref (ad 43), .ref (ad 44), .ref (ad 45), .ref (ad 46), .ref (ad 47), .ref (ad 48), .ref (ad 49), .ref (ad 50)]) h37 hts (fun w hw => List.mem_cons_of_mem _ (fW_Md w hw)) hown (ci := 5) (C := "NonceBoxModel") (T := fT_Md) (N := 16) rfl 7 (by decide) (hts _ (List.mem_cons_of_mem _ kf_Md_22)) rfl (v := .ref (ad 42)) rfl d_Md_quarter_6 ?_
  refine lv_iload_n hx hb d_Md_quarter_9 rfl (lv_at hl 2 rfl) ?_
  refine wv_iald hx hb h 42 (by decide) (f := f) h42 (k := i1) rfl (by omega) (by decide) d_Md_quarter_10 ?_
  refine lv_aload_n hx hb d_Md_quarter_11 rfl (lv_at hl 0 rfl) ?_
  refine wv_getf hx hb h 37 (by decide) (fs := [.ref (ad 38), .int (nI (tl)), .int (nI (ol)), .int (nI (cd)), .ref (ad 39), .ref (ad 40), .ref (ad 41), .ref (ad 42), .ref (ad 43), .ref (ad 44), .ref (ad 45), .ref (ad 46), .ref (ad 47), .ref (ad 48), .ref (ad 49), .ref (ad 50)]) h37 hts (fun w hw => List.mem_cons_of_mem _ (fW_Md w hw)) hown (ci := 5) (C := "NonceBoxModel") (T := fT_Md) (N := 16) rfl 7 (by decide) (hts _ (List.mem_cons_of_mem _ kf_Md_22)) rfl (v := .ref (ad 42)) rfl d_Md_quarter_12 ?_
  refine lv_iload_n hx hb d_Md_quarter_15 rfl (lv_at hl 1 rfl) ?_
  refine wv_iald hx hb h 42 (by decide) (f := f) h42 (k := i0) rfl (by omega) (by decide) d_Md_quarter_16 ?_
  refine lv_aload_n hx hb d_Md_quarter_17 rfl (lv_at hl 0 rfl) ?_
  refine wv_getf hx hb h 37 (by decide) (fs := [.ref (ad 38), .int (nI (tl)), .int (nI (ol)), .int (nI (cd)), .ref (ad 39), .ref (ad 40), .ref (ad 41), .ref (ad 42), .ref (ad 43), .ref (ad 44), .ref (ad 45), .ref (ad 46), .ref (ad 47), .ref (ad 48), .ref (ad 49), .ref (ad 50)]) h37 hts (fun w hw => List.mem_cons_of_mem _ (fW_Md w hw)) hown (ci := 5) (C := "NonceBoxModel") (T := fT_Md) (N := 16) rfl 7 (by decide) (hts _ (List.mem_cons_of_mem _ kf_Md_22)) rfl (v := .ref (ad 42)) rfl d_Md_quarter_18 ?_
  refine lv_iload hx hb d_Md_quarter_21 (lv_at hl 4 rfl) ?_
  refine wv_iald hx hb h 42 (by decide) (f := f) h42 (k := i3) rfl (by omega) (by decide) d_Md_quarter_23 ?_
  refine lv_iadd hx hb d_Md_quarter_24 ?_
  refine lv_bipush (v := nI (7)) hx hb d_Md_quarter_25 (by decide) ?_
  refine wv_Sx (As := [.int ((f i0) + (f i3)), .int (nI (7))]) (rest := [.int (f i1), .int (nI (i1)), .ref (ad 42)]) (k := 2) ⟨hx, hb, hml, hown, hts⟩ h (m_Md_rotated l G A ad ev _ _) kc_Md_rotated kl_Md_73 ks_Md_rotated ki_Md (by decide +kernel) ⟨rfl, rfl, Nat.le_of_ble_eq_true rfl, Nat.le_of_ble_eq_true rfl⟩ hl.1 rfl rfl (Nat.le_of_ble_eq_true rfl) ⟨Nat.le_refl _, Nat.le_refl _⟩ d_Md_quarter_27 ?_
  intro ov ev1 H locs hp h
  rw [hp.1]
  refine W.eq (g2 := F0 m 30 ls [.int (rot (f i0 + f i3) (nI 7)), .int (f i1), .int (nI (i1)), .ref (ad 42)]) rfl ?_
  rw [hp.2] at h
  refine lv_ixor hx hb d_Md_quarter_30 ?_
  refine wv_iast hx hb h 42 (by decide) (f := f) h42 (k := i1) rfl (by omega) (by decide) d_Md_quarter_31 (fun H locs h => ?_)
  obtain ⟨ev1, o1⟩ : ∃ z, z = va_up ev 42 (eI G 16 (va_up f i1 ((f i1) ^^^ (rot (f i0 + f i3) (nI 7))))) := ⟨_, rfl⟩
  rw [← o1] at h
  have t1_42 : ev1 42 = eI G 16 (va_up f i1 ((f i1) ^^^ (rot (f i0 + f i3) (nI 7)))) := by rw [o1, va_up_self]
  have t1_37 := (show ev1 37 = ev 37 by rw [o1, va_up_ne _ _ (by decide)]).trans h37
  rw [← ef1] at o1 t1_42
  refine lv_aload_n hx hb d_Md_quarter_32 rfl (lv_at hl 0 rfl) ?_
  refine wv_getf hx hb h 37 (by decide) (fs := [.ref (ad 38), .int (nI (tl)), .int (nI (ol)), .int (nI (cd)), .ref (ad 39), .ref (ad 40), .ref (ad 41), .ref (ad 42), .ref (ad 43), .ref (ad 44), .ref (ad 45), .ref (ad 46), .ref (ad 47), .ref (ad 48), .ref (ad 49), .ref (ad 50)]) t1_37 hts (fun w hw => List.mem_cons_of_mem _ (fW_Md w hw)) hown (ci := 5) (C := "NonceBoxModel") (T := fT_Md) (N := 16) rfl 7 (by decide) (hts _ (List.mem_cons_of_mem _ kf_Md_22)) rfl (v := .ref (ad 42)) rfl d_Md_quarter_33 ?_
  refine lv_iload_n hx hb d_Md_quarter_36 rfl (lv_at hl 3 rfl) ?_
  refine lv_aload_n hx hb d_Md_quarter_37 rfl (lv_at hl 0 rfl) ?_
  refine wv_getf hx hb h 37 (by decide) (fs := [.ref (ad 38), .int (nI (tl)), .int (nI (ol)), .int (nI (cd)), .ref (ad 39), .ref (ad 40), .ref (ad 41), .ref (ad 42), .ref (ad 43), .ref (ad 44), .ref (ad 45), .ref (ad 46), .ref (ad 47), .ref (ad 48), .ref (ad 49), .ref (ad 50)]) t1_37 hts (fun w hw => List.mem_cons_of_mem _ (fW_Md w hw)) hown (ci := 5) (C := "NonceBoxModel") (T := fT_Md) (N := 16) rfl 7 (by decide) (hts _ (List.mem_cons_of_mem _ kf_Md_22)) rfl (v := .ref (ad 42)) rfl d_Md_quarter_38 ?_
  refine lv_iload_n hx hb d_Md_quarter_41 rfl (lv_at hl 3 rfl) ?_
  refine wv_iald hx hb h 42 (by decide) (f := f1) t1_42 (k := i2) rfl (by omega) (by decide) d_Md_quarter_42 ?_
  refine lv_aload_n hx hb d_Md_quarter_43 rfl (lv_at hl 0 rfl) ?_
  refine wv_getf hx hb h 37 (by decide) (fs := [.ref (ad 38), .int (nI (tl)), .int (nI (ol)), .int (nI (cd)), .ref (ad 39), .ref (ad 40), .ref (ad 41), .ref (ad 42), .ref (ad 43), .ref (ad 44), .ref (ad 45), .ref (ad 46), .ref (ad 47), .ref (ad 48), .ref (ad 49), .ref (ad 50)]) t1_37 hts (fun w hw => List.mem_cons_of_mem _ (fW_Md w hw)) hown (ci := 5) (C := "NonceBoxModel") (T := fT_Md) (N := 16) rfl 7 (by decide) (hts _ (List.mem_cons_of_mem _ kf_Md_22)) rfl (v := .ref (ad 42)) rfl d_Md_quarter_44 ?_
  refine lv_iload_n hx hb d_Md_quarter_47 rfl (lv_at hl 2 rfl) ?_
  refine wv_iald hx hb h 42 (by decide) (f := f1) t1_42 (k := i1) rfl (by omega) (by decide) d_Md_quarter_48 ?_
  refine lv_aload_n hx hb d_Md_quarter_49 rfl (lv_at hl 0 rfl) ?_
  refine wv_getf hx hb h 37 (by decide) (fs := [.ref (ad 38), .int (nI (tl)), .int (nI (ol)), .int (nI (cd)), .ref (ad 39), .ref (ad 40), .ref (ad 41), .ref (ad 42), .ref (ad 43), .ref (ad 44), .ref (ad 45), .ref (ad 46), .ref (ad 47), .ref (ad 48), .ref (ad 49), .ref (ad 50)]) t1_37 hts (fun w hw => List.mem_cons_of_mem _ (fW_Md w hw)) hown (ci := 5) (C := "NonceBoxModel") (T := fT_Md) (N := 16) rfl 7 (by decide) (hts _ (List.mem_cons_of_mem _ kf_Md_22)) rfl (v := .ref (ad 42)) rfl d_Md_quarter_50 ?_
  refine lv_iload_n hx hb d_Md_quarter_53 rfl (lv_at hl 1 rfl) ?_
  refine wv_iald hx hb h 42 (by decide) (f := f1) t1_42 (k := i0) rfl (by omega) (by decide) d_Md_quarter_54 ?_
  refine lv_iadd hx hb d_Md_quarter_55 ?_
  refine lv_bipush (v := nI (9)) hx hb d_Md_quarter_56 (by decide) ?_
  refine wv_Sx (As := [.int ((f1 i1) + (f1 i0)), .int (nI (9))]) (rest := [.int (f1 i2), .int (nI (i2)), .ref (ad 42)]) (k := 2) ⟨hx, hb, hml, hown, hts⟩ h (m_Md_rotated l G A ad ev1 _ _) kc_Md_rotated kl_Md_73 ks_Md_rotated ki_Md (by decide +kernel) ⟨rfl, rfl, Nat.le_of_ble_eq_true rfl, Nat.le_of_ble_eq_true rfl⟩ hl.1 rfl rfl (Nat.le_of_ble_eq_true rfl) ⟨Nat.le_refl _, Nat.le_refl _⟩ d_Md_quarter_58 ?_
  intro ov ev2 H locs hp h
  rw [hp.1]
  refine W.eq (g2 := F0 m 61 ls [.int (rot (f1 i1 + f1 i0) (nI 9)), .int (f1 i2), .int (nI (i2)), .ref (ad 42)]) rfl ?_
  rw [hp.2] at h
  refine lv_ixor hx hb d_Md_quarter_61 ?_
  refine wv_iast hx hb h 42 (by decide) (f := f1) t1_42 (k := i2) rfl (by omega) (by decide) d_Md_quarter_62 (fun H locs h => ?_)
  obtain ⟨ev2, o2⟩ : ∃ z, z = va_up ev1 42 (eI G 16 (va_up f1 i2 ((f1 i2) ^^^ (rot (f1 i1 + f1 i0) (nI 9))))) := ⟨_, rfl⟩
  rw [← o2] at h
  have t2_42 : ev2 42 = eI G 16 (va_up f1 i2 ((f1 i2) ^^^ (rot (f1 i1 + f1 i0) (nI 9)))) := by rw [o2, va_up_self]
  have t2_37 := (show ev2 37 = ev1 37 by rw [o2, va_up_ne _ _ (by decide)]).trans t1_37
  rw [← ef2] at o2 t2_42
  refine lv_aload_n hx hb d_Md_quarter_63 rfl (lv_at hl 0 rfl) ?_
  refine wv_getf hx hb h 37 (by decide) (fs := [.ref (ad 38), .int (nI (tl)), .int (nI (ol)), .int (nI (cd)), .ref (ad 39), .ref (ad 40), .ref (ad 41), .ref (ad 42), .ref (ad 43), .ref (ad 44), .ref (ad 45), .ref (ad 46), .ref (ad 47), .ref (ad 48), .ref (ad 49), .ref (ad 50)]) t2_37 hts (fun w hw => List.mem_cons_of_mem _ (fW_Md w hw)) hown (ci := 5) (C := "NonceBoxModel") (T := fT_Md) (N := 16) rfl 7 (by decide) (hts _ (List.mem_cons_of_mem _ kf_Md_22)) rfl (v := .ref (ad 42)) rfl d_Md_quarter_64 ?_
  refine lv_iload hx hb d_Md_quarter_67 (lv_at hl 4 rfl) ?_
  refine lv_aload_n hx hb d_Md_quarter_69 rfl (lv_at hl 0 rfl) ?_
  refine wv_getf hx hb h 37 (by decide) (fs := [.ref (ad 38), .int (nI (tl)), .int (nI (ol)), .int (nI (cd)), .ref (ad 39), .ref (ad 40), .ref (ad 41), .ref (ad 42), .ref (ad 43), .ref (ad 44), .ref (ad 45), .ref (ad 46), .ref (ad 47), .ref (ad 48), .ref (ad 49), .ref (ad 50)]) t2_37 hts (fun w hw => List.mem_cons_of_mem _ (fW_Md w hw)) hown (ci := 5) (C := "NonceBoxModel") (T := fT_Md) (N := 16) rfl 7 (by decide) (hts _ (List.mem_cons_of_mem _ kf_Md_22)) rfl (v := .ref (ad 42)) rfl d_Md_quarter_70 ?_
  refine lv_iload hx hb d_Md_quarter_73 (lv_at hl 4 rfl) ?_
  refine wv_iald hx hb h 42 (by decide) (f := f2) t2_42 (k := i3) rfl (by omega) (by decide) d_Md_quarter_75 ?_
  refine lv_aload_n hx hb d_Md_quarter_76 rfl (lv_at hl 0 rfl) ?_
  refine wv_getf hx hb h 37 (by decide) (fs := [.ref (ad 38), .int (nI (tl)), .int (nI (ol)), .int (nI (cd)), .ref (ad 39), .ref (ad 40), .ref (ad 41), .ref (ad 42), .ref (ad 43), .ref (ad 44), .ref (ad 45), .ref (ad 46), .ref (ad 47), .ref (ad 48), .ref (ad 49), .ref (ad 50)]) t2_37 hts (fun w hw => List.mem_cons_of_mem _ (fW_Md w hw)) hown (ci := 5) (C := "NonceBoxModel") (T := fT_Md) (N := 16) rfl 7 (by decide) (hts _ (List.mem_cons_of_mem _ kf_Md_22)) rfl (v := .ref (ad 42)) rfl d_Md_quarter_77 ?_
  refine lv_iload_n hx hb d_Md_quarter_80 rfl (lv_at hl 3 rfl) ?_
  refine wv_iald hx hb h 42 (by decide) (f := f2) t2_42 (k := i2) rfl (by omega) (by decide) d_Md_quarter_81 ?_
  refine lv_aload_n hx hb d_Md_quarter_82 rfl (lv_at hl 0 rfl) ?_
  refine wv_getf hx hb h 37 (by decide) (fs := [.ref (ad 38), .int (nI (tl)), .int (nI (ol)), .int (nI (cd)), .ref (ad 39), .ref (ad 40), .ref (ad 41), .ref (ad 42), .ref (ad 43), .ref (ad 44), .ref (ad 45), .ref (ad 46), .ref (ad 47), .ref (ad 48), .ref (ad 49), .ref (ad 50)]) t2_37 hts (fun w hw => List.mem_cons_of_mem _ (fW_Md w hw)) hown (ci := 5) (C := "NonceBoxModel") (T := fT_Md) (N := 16) rfl 7 (by decide) (hts _ (List.mem_cons_of_mem _ kf_Md_22)) rfl (v := .ref (ad 42)) rfl d_Md_quarter_83 ?_
  refine lv_iload_n hx hb d_Md_quarter_86 rfl (lv_at hl 2 rfl) ?_
  refine wv_iald hx hb h 42 (by decide) (f := f2) t2_42 (k := i1) rfl (by omega) (by decide) d_Md_quarter_87 ?_
  refine lv_iadd hx hb d_Md_quarter_88 ?_
  refine lv_bipush (v := nI (13)) hx hb d_Md_quarter_89 (by decide) ?_
  refine wv_Sx (As := [.int ((f2 i2) + (f2 i1)), .int (nI (13))]) (rest := [.int (f2 i3), .int (nI (i3)), .ref (ad 42)]) (k := 2) ⟨hx, hb, hml, hown, hts⟩ h (m_Md_rotated l G A ad ev2 _ _) kc_Md_rotated kl_Md_73 ks_Md_rotated ki_Md (by decide +kernel) ⟨rfl, rfl, Nat.le_of_ble_eq_true rfl, Nat.le_of_ble_eq_true rfl⟩ hl.1 rfl rfl (Nat.le_of_ble_eq_true rfl) ⟨Nat.le_refl _, Nat.le_refl _⟩ d_Md_quarter_91 ?_
  intro ov ev3 H locs hp h
  rw [hp.1]
  refine W.eq (g2 := F0 m 94 ls [.int (rot (f2 i2 + f2 i1) (nI 13)), .int (f2 i3), .int (nI (i3)), .ref (ad 42)]) rfl ?_
  rw [hp.2] at h
  refine lv_ixor hx hb d_Md_quarter_94 ?_
  refine wv_iast hx hb h 42 (by decide) (f := f2) t2_42 (k := i3) rfl (by omega) (by decide) d_Md_quarter_95 (fun H locs h => ?_)
  obtain ⟨ev3, o3⟩ : ∃ z, z = va_up ev2 42 (eI G 16 (va_up f2 i3 ((f2 i3) ^^^ (rot (f2 i2 + f2 i1) (nI 13))))) := ⟨_, rfl⟩
  rw [← o3] at h
  have t3_42 : ev3 42 = eI G 16 (va_up f2 i3 ((f2 i3) ^^^ (rot (f2 i2 + f2 i1) (nI 13)))) := by rw [o3, va_up_self]
  have t3_37 := (show ev3 37 = ev2 37 by rw [o3, va_up_ne _ _ (by decide)]).trans t2_37
  rw [← ef3] at o3 t3_42
  refine lv_aload_n hx hb d_Md_quarter_96 rfl (lv_at hl 0 rfl) ?_
  refine wv_getf hx hb h 37 (by decide) (fs := [.ref (ad 38), .int (nI (tl)), .int (nI (ol)), .int (nI (cd)), .ref (ad 39), .ref (ad 40), .ref (ad 41), .ref (ad 42), .ref (ad 43), .ref (ad 44), .ref (ad 45), .ref (ad 46), .ref (ad 47), .ref (ad 48), .ref (ad 49), .ref (ad 50)]) t3_37 hts (fun w hw => List.mem_cons_of_mem _ (fW_Md w hw)) hown (ci := 5) (C := "NonceBoxModel") (T := fT_Md) (N := 16) rfl 7 (by decide) (hts _ (List.mem_cons_of_mem _ kf_Md_22)) rfl (v := .ref (ad 42)) rfl d_Md_quarter_97 ?_
  refine lv_iload_n hx hb d_Md_quarter_100 rfl (lv_at hl 1 rfl) ?_
  refine lv_aload_n hx hb d_Md_quarter_101 rfl (lv_at hl 0 rfl) ?_
  refine wv_getf hx hb h 37 (by decide) (fs := [.ref (ad 38), .int (nI (tl)), .int (nI (ol)), .int (nI (cd)), .ref (ad 39), .ref (ad 40), .ref (ad 41), .ref (ad 42), .ref (ad 43), .ref (ad 44), .ref (ad 45), .ref (ad 46), .ref (ad 47), .ref (ad 48), .ref (ad 49), .ref (ad 50)]) t3_37 hts (fun w hw => List.mem_cons_of_mem _ (fW_Md w hw)) hown (ci := 5) (C := "NonceBoxModel") (T := fT_Md) (N := 16) rfl 7 (by decide) (hts _ (List.mem_cons_of_mem _ kf_Md_22)) rfl (v := .ref (ad 42)) rfl d_Md_quarter_102 ?_
  refine lv_iload_n hx hb d_Md_quarter_105 rfl (lv_at hl 1 rfl) ?_
  refine wv_iald hx hb h 42 (by decide) (f := f3) t3_42 (k := i0) rfl (by omega) (by decide) d_Md_quarter_106 ?_
  refine lv_aload_n hx hb d_Md_quarter_107 rfl (lv_at hl 0 rfl) ?_
  refine wv_getf hx hb h 37 (by decide) (fs := [.ref (ad 38), .int (nI (tl)), .int (nI (ol)), .int (nI (cd)), .ref (ad 39), .ref (ad 40), .ref (ad 41), .ref (ad 42), .ref (ad 43), .ref (ad 44), .ref (ad 45), .ref (ad 46), .ref (ad 47), .ref (ad 48), .ref (ad 49), .ref (ad 50)]) t3_37 hts (fun w hw => List.mem_cons_of_mem _ (fW_Md w hw)) hown (ci := 5) (C := "NonceBoxModel") (T := fT_Md) (N := 16) rfl 7 (by decide) (hts _ (List.mem_cons_of_mem _ kf_Md_22)) rfl (v := .ref (ad 42)) rfl d_Md_quarter_108 ?_
  refine lv_iload hx hb d_Md_quarter_111 (lv_at hl 4 rfl) ?_
  refine wv_iald hx hb h 42 (by decide) (f := f3) t3_42 (k := i3) rfl (by omega) (by decide) d_Md_quarter_113 ?_
  refine lv_aload_n hx hb d_Md_quarter_114 rfl (lv_at hl 0 rfl) ?_
  refine wv_getf hx hb h 37 (by decide) (fs := [.ref (ad 38), .int (nI (tl)), .int (nI (ol)), .int (nI (cd)), .ref (ad 39), .ref (ad 40), .ref (ad 41), .ref (ad 42), .ref (ad 43), .ref (ad 44), .ref (ad 45), .ref (ad 46), .ref (ad 47), .ref (ad 48), .ref (ad 49), .ref (ad 50)]) t3_37 hts (fun w hw => List.mem_cons_of_mem _ (fW_Md w hw)) hown (ci := 5) (C := "NonceBoxModel") (T := fT_Md) (N := 16) rfl 7 (by decide) (hts _ (List.mem_cons_of_mem _ kf_Md_22)) rfl (v := .ref (ad 42)) rfl d_Md_quarter_115 ?_
  refine lv_iload_n hx hb d_Md_quarter_118 rfl (lv_at hl 3 rfl) ?_
  refine wv_iald hx hb h 42 (by decide) (f := f3) t3_42 (k := i2) rfl (by omega) (by decide) d_Md_quarter_119 ?_
  refine lv_iadd hx hb d_Md_quarter_120 ?_
  refine lv_bipush (v := nI (18)) hx hb d_Md_quarter_121 (by decide) ?_
  refine wv_Sx (As := [.int ((f3 i3) + (f3 i2)), .int (nI (18))]) (rest := [.int (f3 i0), .int (nI (i0)), .ref (ad 42)]) (k := 2) ⟨hx, hb, hml, hown, hts⟩ h (m_Md_rotated l G A ad ev3 _ _) kc_Md_rotated kl_Md_73 ks_Md_rotated ki_Md (by decide +kernel) ⟨rfl, rfl, Nat.le_of_ble_eq_true rfl, Nat.le_of_ble_eq_true rfl⟩ hl.1 rfl rfl (Nat.le_of_ble_eq_true rfl) ⟨Nat.le_refl _, Nat.le_refl _⟩ d_Md_quarter_123 ?_
  intro ov ev4 H locs hp h
  rw [hp.1]
  refine W.eq (g2 := F0 m 126 ls [.int (rot (f3 i3 + f3 i2) (nI 18)), .int (f3 i0), .int (nI (i0)), .ref (ad 42)]) rfl ?_
  rw [hp.2] at h
  refine lv_ixor hx hb d_Md_quarter_126 ?_
  refine wv_iast hx hb h 42 (by decide) (f := f3) t3_42 (k := i0) rfl (by omega) (by decide) d_Md_quarter_127 (fun H locs h => ?_)
  obtain ⟨ev4, o4⟩ : ∃ z, z = va_up ev3 42 (eI G 16 (va_up f3 i0 ((f3 i0) ^^^ (rot (f3 i3 + f3 i2) (nI 18))))) := ⟨_, rfl⟩
  rw [← o4] at h
  have t4_42 : ev4 42 = eI G 16 (va_up f3 i0 ((f3 i0) ^^^ (rot (f3 i3 + f3 i2) (nI 18)))) := by rw [o4, va_up_self]
  have t4_37 := (show ev4 37 = ev3 37 by rw [o4, va_up_ne _ _ (by decide)]).trans t3_37
  refine wv_vret hx hb hr hlocks h d_Md_quarter_128 ⟨rfl, ?_⟩
  rw [o4, o3, o2, o1, va_up2, va_up2, va_up2, ef3, ef2, ef1]
  rfl
theorem d_Md_stir_0 : decode c_Md_stir 0 = .ok (.aload_n 0, 1) := by decide +kernel
theorem d_Md_stir_1 : decode c_Md_stir 1 = .ok (.getfield 19, 3) := by decide +kernel
theorem d_Md_stir_4 : decode c_Md_stir 4 = .ok (.iconst 0, 1) := by decide +kernel
theorem d_Md_stir_5 : decode c_Md_stir 5 = .ok (.ldc 77, 2) := by decide +kernel
theorem d_Md_stir_7 : decode c_Md_stir 7 = .ok (.iastore, 1) := by decide +kernel
theorem d_Md_stir_8 : decode c_Md_stir 8 = .ok (.aload_n 0, 1) := by decide +kernel
theorem d_Md_stir_9 : decode c_Md_stir 9 = .ok (.getfield 19, 3) := by decide +kernel
theorem d_Md_stir_12 : decode c_Md_stir 12 = .ok (.iconst 5, 1) := by decide +kernel
theorem d_Md_stir_13 : decode c_Md_stir 13 = .ok (.ldc 78, 2) := by decide +kernel
theorem d_Md_stir_15 : decode c_Md_stir 15 = .ok (.iastore, 1) := by decide +kernel
theorem d_Md_stir_16 : decode c_Md_stir 16 = .ok (.aload_n 0, 1) := by decide +kernel
theorem d_Md_stir_17 : decode c_Md_stir 17 = .ok (.getfield 19, 3) := by decide +kernel
theorem d_Md_stir_20 : decode c_Md_stir 20 = .ok (.bipush 10, 2) := by decide +kernel
theorem d_Md_stir_22 : decode c_Md_stir 22 = .ok (.ldc 79, 2) := by decide +kernel
theorem d_Md_stir_24 : decode c_Md_stir 24 = .ok (.iastore, 1) := by decide +kernel
theorem d_Md_stir_25 : decode c_Md_stir 25 = .ok (.aload_n 0, 1) := by decide +kernel
theorem d_Md_stir_26 : decode c_Md_stir 26 = .ok (.getfield 19, 3) := by decide +kernel
theorem d_Md_stir_29 : decode c_Md_stir 29 = .ok (.bipush 15, 2) := by decide +kernel
theorem d_Md_stir_31 : decode c_Md_stir 31 = .ok (.ldc 80, 2) := by decide +kernel
theorem d_Md_stir_33 : decode c_Md_stir 33 = .ok (.iastore, 1) := by decide +kernel
theorem d_Md_stir_34 : decode c_Md_stir 34 = .ok (.iconst 0, 1) := by decide +kernel
theorem d_Md_stir_35 : decode c_Md_stir 35 = .ok (.istore_n 1, 1) := by decide +kernel
theorem d_Md_stir_36 : decode c_Md_stir 36 = .ok (.iload_n 1, 1) := by decide +kernel
theorem d_Md_stir_37 : decode c_Md_stir 37 = .ok (.iconst 4, 1) := by decide +kernel
theorem d_Md_stir_38 : decode c_Md_stir 38 = .ok (.if_icmp .ge 68, 3) := by decide +kernel
theorem d_Md_stir_41 : decode c_Md_stir 41 = .ok (.aload_n 0, 1) := by decide +kernel
theorem d_Md_stir_42 : decode c_Md_stir 42 = .ok (.getfield 19, 3) := by decide +kernel
theorem d_Md_stir_45 : decode c_Md_stir 45 = .ok (.iconst 1, 1) := by decide +kernel
theorem d_Md_stir_46 : decode c_Md_stir 46 = .ok (.iload_n 1, 1) := by decide +kernel
theorem d_Md_stir_47 : decode c_Md_stir 47 = .ok (.iadd, 1) := by decide +kernel
theorem d_Md_stir_48 : decode c_Md_stir 48 = .ok (.aload_n 0, 1) := by decide +kernel
theorem d_Md_stir_49 : decode c_Md_stir 49 = .ok (.getfield 13, 3) := by decide +kernel
theorem d_Md_stir_52 : decode c_Md_stir 52 = .ok (.iconst 4, 1) := by decide +kernel
theorem d_Md_stir_53 : decode c_Md_stir 53 = .ok (.iload_n 1, 1) := by decide +kernel
theorem d_Md_stir_54 : decode c_Md_stir 54 = .ok (.imul, 1) := by decide +kernel
theorem d_Md_stir_55 : decode c_Md_stir 55 = .ok (.invokestatic 81, 3) := by decide +kernel
theorem d_Md_stir_58 : decode c_Md_stir 58 = .ok (.iastore, 1) := by decide +kernel
theorem d_Md_stir_59 : decode c_Md_stir 59 = .ok (.aload_n 0, 1) := by decide +kernel
theorem d_Md_stir_60 : decode c_Md_stir 60 = .ok (.getfield 19, 3) := by decide +kernel
theorem d_Md_stir_63 : decode c_Md_stir 63 = .ok (.bipush 11, 2) := by decide +kernel
theorem d_Md_stir_65 : decode c_Md_stir 65 = .ok (.iload_n 1, 1) := by decide +kernel
theorem d_Md_stir_66 : decode c_Md_stir 66 = .ok (.iadd, 1) := by decide +kernel
theorem d_Md_stir_67 : decode c_Md_stir 67 = .ok (.aload_n 0, 1) := by decide +kernel
theorem d_Md_stir_68 : decode c_Md_stir 68 = .ok (.getfield 13, 3) := by decide +kernel
theorem d_Md_stir_71 : decode c_Md_stir 71 = .ok (.bipush 16, 2) := by decide +kernel
theorem d_Md_stir_73 : decode c_Md_stir 73 = .ok (.iconst 4, 1) := by decide +kernel
theorem d_Md_stir_74 : decode c_Md_stir 74 = .ok (.iload_n 1, 1) := by decide +kernel
theorem d_Md_stir_75 : decode c_Md_stir 75 = .ok (.imul, 1) := by decide +kernel
theorem d_Md_stir_76 : decode c_Md_stir 76 = .ok (.iadd, 1) := by decide +kernel
theorem d_Md_stir_77 : decode c_Md_stir 77 = .ok (.invokestatic 81, 3) := by decide +kernel
theorem d_Md_stir_80 : decode c_Md_stir 80 = .ok (.iastore, 1) := by decide +kernel
theorem d_Md_stir_81 : decode c_Md_stir 81 = .ok (.aload_n 0, 1) := by decide +kernel
theorem d_Md_stir_82 : decode c_Md_stir 82 = .ok (.getfield 19, 3) := by decide +kernel
theorem d_Md_stir_85 : decode c_Md_stir 85 = .ok (.bipush 6, 2) := by decide +kernel
theorem d_Md_stir_87 : decode c_Md_stir 87 = .ok (.iload_n 1, 1) := by decide +kernel
theorem d_Md_stir_88 : decode c_Md_stir 88 = .ok (.iadd, 1) := by decide +kernel
theorem d_Md_stir_89 : decode c_Md_stir 89 = .ok (.aload_n 0, 1) := by decide +kernel
theorem d_Md_stir_90 : decode c_Md_stir 90 = .ok (.getfield 16, 3) := by decide +kernel
theorem d_Md_stir_93 : decode c_Md_stir 93 = .ok (.iconst 4, 1) := by decide +kernel
theorem d_Md_stir_94 : decode c_Md_stir 94 = .ok (.iload_n 1, 1) := by decide +kernel
theorem d_Md_stir_95 : decode c_Md_stir 95 = .ok (.imul, 1) := by decide +kernel
theorem d_Md_stir_96 : decode c_Md_stir 96 = .ok (.invokestatic 81, 3) := by decide +kernel
theorem d_Md_stir_99 : decode c_Md_stir 99 = .ok (.iastore, 1) := by decide +kernel
theorem d_Md_stir_100 : decode c_Md_stir 100 = .ok (.iinc 1 1, 3) := by decide +kernel
theorem d_Md_stir_103 : decode c_Md_stir 103 = .ok (.goto (-67), 3) := by decide +kernel
theorem d_Md_stir_106 : decode c_Md_stir 106 = .ok (.iconst 0, 1) := by decide +kernel
theorem d_Md_stir_107 : decode c_Md_stir 107 = .ok (.istore_n 1, 1) := by decide +kernel
theorem d_Md_stir_108 : decode c_Md_stir 108 = .ok (.iload_n 1, 1) := by decide +kernel
theorem d_Md_stir_109 : decode c_Md_stir 109 = .ok (.bipush 16, 2) := by decide +kernel
theorem d_Md_stir_111 : decode c_Md_stir 111 = .ok (.if_icmp .ge 21, 3) := by decide +kernel
theorem d_Md_stir_114 : decode c_Md_stir 114 = .ok (.aload_n 0, 1) := by decide +kernel
theorem d_Md_stir_115 : decode c_Md_stir 115 = .ok (.getfield 22, 3) := by decide +kernel
theorem d_Md_stir_118 : decode c_Md_stir 118 = .ok (.iload_n 1, 1) := by decide +kernel
theorem d_Md_stir_119 : decode c_Md_stir 119 = .ok (.aload_n 0, 1) := by decide +kernel
theorem d_Md_stir_120 : decode c_Md_stir 120 = .ok (.getfield 19, 3) := by decide +kernel
theorem d_Md_stir_123 : decode c_Md_stir 123 = .ok (.iload_n 1, 1) := by decide +kernel
theorem d_Md_stir_124 : decode c_Md_stir 124 = .ok (.iaload, 1) := by decide +kernel
theorem d_Md_stir_125 : decode c_Md_stir 125 = .ok (.iastore, 1) := by decide +kernel
theorem d_Md_stir_126 : decode c_Md_stir 126 = .ok (.iinc 1 1, 3) := by decide +kernel
theorem d_Md_stir_129 : decode c_Md_stir 129 = .ok (.goto (-21), 3) := by decide +kernel
theorem d_Md_stir_132 : decode c_Md_stir 132 = .ok (.iconst 0, 1) := by decide +kernel
theorem d_Md_stir_133 : decode c_Md_stir 133 = .ok (.istore_n 1, 1) := by decide +kernel
theorem d_Md_stir_134 : decode c_Md_stir 134 = .ok (.iload_n 1, 1) := by decide +kernel
theorem d_Md_stir_135 : decode c_Md_stir 135 = .ok (.bipush 10, 2) := by decide +kernel
theorem d_Md_stir_137 : decode c_Md_stir 137 = .ok (.if_icmp .ge 93, 3) := by decide +kernel
theorem d_Md_stir_140 : decode c_Md_stir 140 = .ok (.aload_n 0, 1) := by decide +kernel
theorem d_Md_stir_141 : decode c_Md_stir 141 = .ok (.iconst 0, 1) := by decide +kernel
theorem d_Md_stir_142 : decode c_Md_stir 142 = .ok (.iconst 4, 1) := by decide +kernel
theorem d_Md_stir_143 : decode c_Md_stir 143 = .ok (.bipush 8, 2) := by decide +kernel
theorem d_Md_stir_145 : decode c_Md_stir 145 = .ok (.bipush 12, 2) := by decide +kernel
theorem d_Md_stir_147 : decode c_Md_stir 147 = .ok (.invokevirtual 85, 3) := by decide +kernel
theorem d_Md_stir_150 : decode c_Md_stir 150 = .ok (.aload_n 0, 1) := by decide +kernel
theorem d_Md_stir_151 : decode c_Md_stir 151 = .ok (.iconst 5, 1) := by decide +kernel
theorem d_Md_stir_152 : decode c_Md_stir 152 = .ok (.bipush 9, 2) := by decide +kernel
theorem d_Md_stir_154 : decode c_Md_stir 154 = .ok (.bipush 13, 2) := by decide +kernel
theorem d_Md_stir_156 : decode c_Md_stir 156 = .ok (.iconst 1, 1) := by decide +kernel
theorem d_Md_stir_157 : decode c_Md_stir 157 = .ok (.invokevirtual 85, 3) := by decide +kernel
theorem d_Md_stir_160 : decode c_Md_stir 160 = .ok (.aload_n 0, 1) := by decide +kernel
theorem d_Md_stir_161 : decode c_Md_stir 161 = .ok (.bipush 10, 2) := by decide +kernel
theorem d_Md_stir_163 : decode c_Md_stir 163 = .ok (.bipush 14, 2) := by decide +kernel
theorem d_Md_stir_165 : decode c_Md_stir 165 = .ok (.iconst 2, 1) := by decide +kernel
theorem d_Md_stir_166 : decode c_Md_stir 166 = .ok (.bipush 6, 2) := by decide +kernel
theorem d_Md_stir_168 : decode c_Md_stir 168 = .ok (.invokevirtual 85, 3) := by decide +kernel
theorem d_Md_stir_171 : decode c_Md_stir 171 = .ok (.aload_n 0, 1) := by decide +kernel
theorem d_Md_stir_172 : decode c_Md_stir 172 = .ok (.bipush 15, 2) := by decide +kernel
theorem d_Md_stir_174 : decode c_Md_stir 174 = .ok (.iconst 3, 1) := by decide +kernel
theorem d_Md_stir_175 : decode c_Md_stir 175 = .ok (.bipush 7, 2) := by decide +kernel
theorem d_Md_stir_177 : decode c_Md_stir 177 = .ok (.bipush 11, 2) := by decide +kernel
theorem d_Md_stir_179 : decode c_Md_stir 179 = .ok (.invokevirtual 85, 3) := by decide +kernel
theorem d_Md_stir_182 : decode c_Md_stir 182 = .ok (.aload_n 0, 1) := by decide +kernel
theorem d_Md_stir_183 : decode c_Md_stir 183 = .ok (.iconst 0, 1) := by decide +kernel
theorem d_Md_stir_184 : decode c_Md_stir 184 = .ok (.iconst 1, 1) := by decide +kernel
theorem d_Md_stir_185 : decode c_Md_stir 185 = .ok (.iconst 2, 1) := by decide +kernel
theorem d_Md_stir_186 : decode c_Md_stir 186 = .ok (.iconst 3, 1) := by decide +kernel
theorem d_Md_stir_187 : decode c_Md_stir 187 = .ok (.invokevirtual 85, 3) := by decide +kernel
theorem d_Md_stir_190 : decode c_Md_stir 190 = .ok (.aload_n 0, 1) := by decide +kernel
theorem d_Md_stir_191 : decode c_Md_stir 191 = .ok (.iconst 5, 1) := by decide +kernel
theorem d_Md_stir_192 : decode c_Md_stir 192 = .ok (.bipush 6, 2) := by decide +kernel
theorem d_Md_stir_194 : decode c_Md_stir 194 = .ok (.bipush 7, 2) := by decide +kernel
theorem d_Md_stir_196 : decode c_Md_stir 196 = .ok (.iconst 4, 1) := by decide +kernel
theorem d_Md_stir_197 : decode c_Md_stir 197 = .ok (.invokevirtual 85, 3) := by decide +kernel
theorem d_Md_stir_200 : decode c_Md_stir 200 = .ok (.aload_n 0, 1) := by decide +kernel
theorem d_Md_stir_201 : decode c_Md_stir 201 = .ok (.bipush 10, 2) := by decide +kernel
theorem d_Md_stir_203 : decode c_Md_stir 203 = .ok (.bipush 11, 2) := by decide +kernel
theorem d_Md_stir_205 : decode c_Md_stir 205 = .ok (.bipush 8, 2) := by decide +kernel
theorem d_Md_stir_207 : decode c_Md_stir 207 = .ok (.bipush 9, 2) := by decide +kernel
theorem d_Md_stir_209 : decode c_Md_stir 209 = .ok (.invokevirtual 85, 3) := by decide +kernel
theorem d_Md_stir_212 : decode c_Md_stir 212 = .ok (.aload_n 0, 1) := by decide +kernel
theorem d_Md_stir_213 : decode c_Md_stir 213 = .ok (.bipush 15, 2) := by decide +kernel
theorem d_Md_stir_215 : decode c_Md_stir 215 = .ok (.bipush 12, 2) := by decide +kernel
theorem d_Md_stir_217 : decode c_Md_stir 217 = .ok (.bipush 13, 2) := by decide +kernel
theorem d_Md_stir_219 : decode c_Md_stir 219 = .ok (.bipush 14, 2) := by decide +kernel
theorem d_Md_stir_221 : decode c_Md_stir 221 = .ok (.invokevirtual 85, 3) := by decide +kernel
theorem d_Md_stir_224 : decode c_Md_stir 224 = .ok (.iinc 1 1, 3) := by decide +kernel
theorem d_Md_stir_227 : decode c_Md_stir 227 = .ok (.goto (-93), 3) := by decide +kernel
theorem d_Md_stir_230 : decode c_Md_stir 230 = .ok (.return_, 1) := by decide +kernel
set_option maxRecDepth 100000 in
set_option maxHeartbeats 4000000 in
/-- LAID OUT and rounds -/
theorem m_Md_stir (l : Launch) (G : wG) (A : Nat → Prop) (ad : Nat → Nat) (ev : Nat → va_E) (K X : Nat → Nat) (f g : Nat → Int32) (tl ol cd : Nat) (h37 : ev 37 = eO 5 [.ref (ad 38), .int (nI tl), .int (nI ol), .int (nI cd), .ref (ad 39), .ref (ad 40), .ref (ad 41), .ref (ad 42), .ref (ad 43), .ref (ad 44), .ref (ad 45), .ref (ad 46), .ref (ad 47), .ref (ad 48), .ref (ad 49), .ref (ad 50)]) (h39 : ev 39 = eI G 32 (ns K)) (h40 : ev 40 = eI G 16 (ns X)) (h41 : ev 41 = eI G 16 f) (h42 : ev 42 = eI G 16 g) : wM l y_Md_stir w_Md_stir ({ frames := 6, cells := 0, slots := 0, locals := 200 }) G A 52 ad ev [.ref (ad 37)] (fun ov ev' => ov = none ∧ ev' = va_up (va_up ev 41 (eI G 16 (LAY K X))) 42 (eI G 16 (RND K X))) := by
  refine wv_ofW (cc := c_Md_stir) (maxL := 2) (ret := none) (by decide) rfl (Nat.le_of_ble_eq_true rfl) ?_
  intro p e s m below meth c ls hx hb hr hml hts hown hlocks hini h hl
  have hl : lv_has ls 2 [(0, .ref (ad 37))] := hl
  refine lv_aload_n hx hb d_Md_stir_0 rfl (lv_at hl 0 rfl) ?_
  refine wv_getf hx hb h 37 (by decide) (fs := [.ref (ad 38), .int (nI (tl)), .int (nI (ol)), .int (nI (cd)), .ref (ad 39), .ref (ad 40), .ref (ad 41), .ref (ad 42), .ref (ad 43), .ref (ad 44), .ref (ad 45), .ref (ad 46), .ref (ad 47), .ref (ad 48), .ref (ad 49), .ref (ad 50)]) h37 hts (fun w hw => List.mem_cons_of_mem _ (fW_Md w hw)) hown (ci := 5) (C := "NonceBoxModel") (T := fT_Md) (N := 16) rfl 6 (by decide) (hts _ (List.mem_cons_of_mem _ kf_Md_19)) rfl (v := .ref (ad 41)) rfl d_Md_stir_1 ?_
  refine lv_iconst (v := nI (0)) hx hb d_Md_stir_4 (by decide) ?_
  refine lv_ldc (v := 1634760805) hx hb hown (hts _ (List.mem_cons_of_mem _ ko_Md_77)) d_Md_stir_5 ?_
  refine wv_iast hx hb h 41 (by decide) (f := f) h41 (k := 0) rfl (by decide) (by decide) d_Md_stir_7 (fun H locs h => ?_)
  obtain ⟨ev1, o1⟩ : ∃ z, z = va_up ev 41 (eI G 16 (va_up f 0 1634760805)) := ⟨_, rfl⟩
  rw [← o1] at h
  have t1_41 : ev1 41 = eI G 16 (va_up f 0 1634760805) := by rw [o1, va_up_self]
  have t1_39 := (show ev1 39 = ev 39 by rw [o1, va_up_ne _ _ (by decide)]).trans h39
  have t1_40 := (show ev1 40 = ev 40 by rw [o1, va_up_ne _ _ (by decide)]).trans h40
  have t1_42 := (show ev1 42 = ev 42 by rw [o1, va_up_ne _ _ (by decide)]).trans h42
  have t1_37 := (show ev1 37 = ev 37 by rw [o1, va_up_ne _ _ (by decide)]).trans h37
  refine lv_aload_n hx hb d_Md_stir_8 rfl (lv_at hl 0 rfl) ?_
  refine wv_getf hx hb h 37 (by decide) (fs := [.ref (ad 38), .int (nI (tl)), .int (nI (ol)), .int (nI (cd)), .ref (ad 39), .ref (ad 40), .ref (ad 41), .ref (ad 42), .ref (ad 43), .ref (ad 44), .ref (ad 45), .ref (ad 46), .ref (ad 47), .ref (ad 48), .ref (ad 49), .ref (ad 50)]) t1_37 hts (fun w hw => List.mem_cons_of_mem _ (fW_Md w hw)) hown (ci := 5) (C := "NonceBoxModel") (T := fT_Md) (N := 16) rfl 6 (by decide) (hts _ (List.mem_cons_of_mem _ kf_Md_19)) rfl (v := .ref (ad 41)) rfl d_Md_stir_9 ?_
  refine lv_iconst (v := nI (5)) hx hb d_Md_stir_12 (by decide) ?_
  refine lv_ldc (v := 857760878) hx hb hown (hts _ (List.mem_cons_of_mem _ ko_Md_78)) d_Md_stir_13 ?_
  refine wv_iast hx hb h 41 (by decide) (f := (va_up f 0 1634760805)) t1_41 (k := 5) rfl (by decide) (by decide) d_Md_stir_15 (fun H locs h => ?_)
  obtain ⟨ev2, o2⟩ : ∃ z, z = va_up ev1 41 (eI G 16 (va_up ((va_up f 0 1634760805)) 5 857760878)) := ⟨_, rfl⟩
  rw [← o2] at h
  have t2_41 : ev2 41 = eI G 16 (va_up ((va_up f 0 1634760805)) 5 857760878) := by rw [o2, va_up_self]
  have t2_39 := (show ev2 39 = ev1 39 by rw [o2, va_up_ne _ _ (by decide)]).trans t1_39
  have t2_40 := (show ev2 40 = ev1 40 by rw [o2, va_up_ne _ _ (by decide)]).trans t1_40
  have t2_42 := (show ev2 42 = ev1 42 by rw [o2, va_up_ne _ _ (by decide)]).trans t1_42
  have t2_37 := (show ev2 37 = ev1 37 by rw [o2, va_up_ne _ _ (by decide)]).trans t1_37
  refine lv_aload_n hx hb d_Md_stir_16 rfl (lv_at hl 0 rfl) ?_
  refine wv_getf hx hb h 37 (by decide) (fs := [.ref (ad 38), .int (nI (tl)), .int (nI (ol)), .int (nI (cd)), .ref (ad 39), .ref (ad 40), .ref (ad 41), .ref (ad 42), .ref (ad 43), .ref (ad 44), .ref (ad 45), .ref (ad 46), .ref (ad 47), .ref (ad 48), .ref (ad 49), .ref (ad 50)]) t2_37 hts (fun w hw => List.mem_cons_of_mem _ (fW_Md w hw)) hown (ci := 5) (C := "NonceBoxModel") (T := fT_Md) (N := 16) rfl 6 (by decide) (hts _ (List.mem_cons_of_mem _ kf_Md_19)) rfl (v := .ref (ad 41)) rfl d_Md_stir_17 ?_
  refine lv_bipush (v := nI (10)) hx hb d_Md_stir_20 (by decide) ?_
  refine lv_ldc (v := 2036477234) hx hb hown (hts _ (List.mem_cons_of_mem _ ko_Md_79)) d_Md_stir_22 ?_
  refine wv_iast hx hb h 41 (by decide) (f := (va_up ((va_up f 0 1634760805)) 5 857760878)) t2_41 (k := 10) rfl (by decide) (by decide) d_Md_stir_24 (fun H locs h => ?_)
  obtain ⟨ev3, o3⟩ : ∃ z, z = va_up ev2 41 (eI G 16 (va_up ((va_up ((va_up f 0 1634760805)) 5 857760878)) 10 2036477234)) := ⟨_, rfl⟩
  rw [← o3] at h
  have t3_41 : ev3 41 = eI G 16 (va_up ((va_up ((va_up f 0 1634760805)) 5 857760878)) 10 2036477234) := by rw [o3, va_up_self]
  have t3_39 := (show ev3 39 = ev2 39 by rw [o3, va_up_ne _ _ (by decide)]).trans t2_39
  have t3_40 := (show ev3 40 = ev2 40 by rw [o3, va_up_ne _ _ (by decide)]).trans t2_40
  have t3_42 := (show ev3 42 = ev2 42 by rw [o3, va_up_ne _ _ (by decide)]).trans t2_42
  have t3_37 := (show ev3 37 = ev2 37 by rw [o3, va_up_ne _ _ (by decide)]).trans t2_37
  refine lv_aload_n hx hb d_Md_stir_25 rfl (lv_at hl 0 rfl) ?_
  refine wv_getf hx hb h 37 (by decide) (fs := [.ref (ad 38), .int (nI (tl)), .int (nI (ol)), .int (nI (cd)), .ref (ad 39), .ref (ad 40), .ref (ad 41), .ref (ad 42), .ref (ad 43), .ref (ad 44), .ref (ad 45), .ref (ad 46), .ref (ad 47), .ref (ad 48), .ref (ad 49), .ref (ad 50)]) t3_37 hts (fun w hw => List.mem_cons_of_mem _ (fW_Md w hw)) hown (ci := 5) (C := "NonceBoxModel") (T := fT_Md) (N := 16) rfl 6 (by decide) (hts _ (List.mem_cons_of_mem _ kf_Md_19)) rfl (v := .ref (ad 41)) rfl d_Md_stir_26 ?_
  refine lv_bipush (v := nI (15)) hx hb d_Md_stir_29 (by decide) ?_
  refine lv_ldc (v := 1797285236) hx hb hown (hts _ (List.mem_cons_of_mem _ ko_Md_80)) d_Md_stir_31 ?_
  refine wv_iast hx hb h 41 (by decide) (f := (va_up ((va_up ((va_up f 0 1634760805)) 5 857760878)) 10 2036477234)) t3_41 (k := 15) rfl (by decide) (by decide) d_Md_stir_33 (fun H locs h => ?_)
  obtain ⟨ev4, o4⟩ : ∃ z, z = va_up ev3 41 (eI G 16 (va_up ((va_up ((va_up ((va_up f 0 1634760805)) 5 857760878)) 10 2036477234)) 15 1797285236)) := ⟨_, rfl⟩
  rw [← o4] at h
  have t4_41 : ev4 41 = eI G 16 (va_up ((va_up ((va_up ((va_up f 0 1634760805)) 5 857760878)) 10 2036477234)) 15 1797285236) := by rw [o4, va_up_self]
  have t4_39 := (show ev4 39 = ev3 39 by rw [o4, va_up_ne _ _ (by decide)]).trans t3_39
  have t4_40 := (show ev4 40 = ev3 40 by rw [o4, va_up_ne _ _ (by decide)]).trans t3_40
  have t4_42 := (show ev4 42 = ev3 42 by rw [o4, va_up_ne _ _ (by decide)]).trans t3_42
  have t4_37 := (show ev4 37 = ev3 37 by rw [o4, va_up_ne _ _ (by decide)]).trans t3_37
  refine lv_iconst (v := nI (0)) hx hb d_Md_stir_34 (by decide) ?_
  refine lv_istore_n (lv' := [(1, .int (nI (0))), (0, .ref (ad 37))]) hx hb d_Md_stir_35 rfl hl (by decide) rfl (fun ls hl => ?_)
  obtain ⟨f0, ef0⟩ : ∃ z, z = va_up (va_up (va_up (va_up f 0 1634760805) 5 857760878) 10 2036477234) 15 1797285236 := ⟨_, rfl⟩
  have o4' : ev4 = va_up ev 41 (eI G 16 f0) := by rw [o4, o3, o2, o1, va_up2, va_up2, va_up2, ef0]
  have t4' : ev4 41 = eI G 16 f0 := by rw [o4', va_up_self]
  have loop5 : ∀ (d k : Nat), k + d = 4 →  ∀ (ev5 : Nat → va_E) (H : Heap) (locs : List Loc) (ls : Array Slot), ev5 = (va_up ev4 41 (eI G 16 (layT K X f0 k))) → wT G A 52 ad ev5 s H locs → lv_has ls 2 [(1, .int (nI (k))), (0, .ref (ad 37))] → W p l e ({ frames := 6, cells := 0, slots := 0, locals := 200 }) s m ([.ref (ad 37)] : List Value).toArray below meth c H locs 0 0 (MQ below (wQc G A 52 ad (fun ov ev' => ov = none ∧ ev' = va_up (va_up ev 41 (eI G 16 (LAY K X))) 42 (eI G 16 (RND K X)))) ([.ref (ad 37)] : List Value).toArray s 0 0 A) (F0 m 36 ls []) := by
    intro d
    induction d with
    | zero =>
      intro k hk_k  ev5 H locs ls  o5 h hl
      have t5_41 : ev5 41 = eI G 16 (layT K X f0 k) := by rw [o5, va_up_self]
      have t5_39 := (show ev5 39 = ev4 39 by rw [o5, va_up_ne _ _ (by decide)]).trans t4_39
      have t5_40 := (show ev5 40 = ev4 40 by rw [o5, va_up_ne _ _ (by decide)]).trans t4_40
      have t5_42 := (show ev5 42 = ev4 42 by rw [o5, va_up_ne _ _ (by decide)]).trans t4_42
      have t5_37 := (show ev5 37 = ev4 37 by rw [o5, va_up_ne _ _ (by decide)]).trans t4_37
      refine lv_iload_n hx hb d_Md_stir_36 rfl (lv_at hl 0 rfl) ?_
      refine lv_iconst (v := nI (4)) hx hb d_Md_stir_37 (by decide) ?_
      refine lv_icmp_ge (tgt := 106) hx hb d_Md_stir_38 (by decide) (fun _ => ?_) (fun hc => absurd ((nI_leI (by omega) (by omega)).mpr (by omega)) hc)
      have h := wT_eqI (g := (LAY K X)) h 41 (by decide) t5_41 (fun j hj => by rw [show k = 4 by omega, ef0]; exact layT_4 K X f j hj)
      obtain ⟨ev6, o6⟩ : ∃ z, z = va_up ev5 41 (eI G 16 (LAY K X)) := ⟨_, rfl⟩
      rw [← o6] at h
      have t6_41 : ev6 41 = eI G 16 (LAY K X) := by rw [o6, va_up_self]
      have t6_39 := (show ev6 39 = ev5 39 by rw [o6, va_up_ne _ _ (by decide)]).trans t5_39
      have t6_40 := (show ev6 40 = ev5 40 by rw [o6, va_up_ne _ _ (by decide)]).trans t5_40
      have t6_42 := (show ev6 42 = ev5 42 by rw [o6, va_up_ne _ _ (by decide)]).trans t5_42
      have t6_37 := (show ev6 37 = ev5 37 by rw [o6, va_up_ne _ _ (by decide)]).trans t5_37
      refine lv_iconst (v := nI (0)) hx hb d_Md_stir_106 (by decide) ?_
      refine lv_istore_n (lv' := [(1, .int (nI (0))), (0, .ref (ad 37))]) hx hb d_Md_stir_107 rfl hl (by decide) rfl (fun ls hl => ?_)
      have loop7 : ∀ (d j1 : Nat), j1 + d = 16 →  ∀ (ev7 : Nat → va_E) (H : Heap) (locs : List Loc) (ls : Array Slot), ev7 = (va_up ev6 42 (eI G 16 (fil 0 j1 (LAY K X) g))) → wT G A 52 ad ev7 s H locs → lv_has ls 2 [(1, .int (nI (j1))), (0, .ref (ad 37))] → W p l e ({ frames := 6, cells := 0, slots := 0, locals := 200 }) s m ([.ref (ad 37)] : List Value).toArray below meth c H locs 0 0 (MQ below (wQc G A 52 ad (fun ov ev' => ov = none ∧ ev' = va_up (va_up ev 41 (eI G 16 (LAY K X))) 42 (eI G 16 (RND K X)))) ([.ref (ad 37)] : List Value).toArray s 0 0 A) (F0 m 108 ls []) := by
        intro d
        induction d with
        | zero =>
          intro j1 hk_j1  ev7 H locs ls  o7 h hl
          have t7_42 : ev7 42 = eI G 16 (fil 0 j1 (LAY K X) g) := by rw [o7, va_up_self]
          have t7_39 := (show ev7 39 = ev6 39 by rw [o7, va_up_ne _ _ (by decide)]).trans t6_39
          have t7_40 := (show ev7 40 = ev6 40 by rw [o7, va_up_ne _ _ (by decide)]).trans t6_40
          have t7_41 := (show ev7 41 = ev6 41 by rw [o7, va_up_ne _ _ (by decide)]).trans t6_41
          have t7_37 := (show ev7 37 = ev6 37 by rw [o7, va_up_ne _ _ (by decide)]).trans t6_37
          refine lv_iload_n hx hb d_Md_stir_108 rfl (lv_at hl 0 rfl) ?_
          refine lv_bipush (v := nI (16)) hx hb d_Md_stir_109 (by decide) ?_
          refine lv_icmp_ge (tgt := 132) hx hb d_Md_stir_111 (by decide) (fun _ => ?_) (fun hc => absurd ((nI_leI (by omega) (by omega)).mpr (by omega)) hc)
          have h := wT_eqI (g := (LAY K X)) h 42 (by decide) t7_42 (fun j hj => by unfold fil; rw [if_pos (by omega), Nat.sub_zero])
          obtain ⟨ev8, o8⟩ : ∃ z, z = va_up ev7 42 (eI G 16 (LAY K X)) := ⟨_, rfl⟩
          rw [← o8] at h
          have t8_42 : ev8 42 = eI G 16 (LAY K X) := by rw [o8, va_up_self]
          have t8_39 := (show ev8 39 = ev7 39 by rw [o8, va_up_ne _ _ (by decide)]).trans t7_39
          have t8_40 := (show ev8 40 = ev7 40 by rw [o8, va_up_ne _ _ (by decide)]).trans t7_40
          have t8_41 := (show ev8 41 = ev7 41 by rw [o8, va_up_ne _ _ (by decide)]).trans t7_41
          have t8_37 := (show ev8 37 = ev7 37 by rw [o8, va_up_ne _ _ (by decide)]).trans t7_37
          refine lv_iconst (v := nI (0)) hx hb d_Md_stir_132 (by decide) ?_
          refine lv_istore_n (lv' := [(1, .int (nI (0))), (0, .ref (ad 37))]) hx hb d_Md_stir_133 rfl hl (by decide) rfl (fun ls hl => ?_)
          have loop9 : ∀ (d j2 : Nat), j2 + d = 10 →  ∀ (ev9 : Nat → va_E) (H : Heap) (locs : List Loc) (ls : Array Slot), ev9 = (va_up ev8 42 (eI G 16 (rnds j2 (LAY K X)))) → wT G A 52 ad ev9 s H locs → lv_has ls 2 [(1, .int (nI (j2))), (0, .ref (ad 37))] → W p l e ({ frames := 6, cells := 0, slots := 0, locals := 200 }) s m ([.ref (ad 37)] : List Value).toArray below meth c H locs 0 0 (MQ below (wQc G A 52 ad (fun ov ev' => ov = none ∧ ev' = va_up (va_up ev 41 (eI G 16 (LAY K X))) 42 (eI G 16 (RND K X)))) ([.ref (ad 37)] : List Value).toArray s 0 0 A) (F0 m 134 ls []) := by
            intro d
            induction d with
            | zero =>
              intro j2 hk_j2  ev9 H locs ls  o9 h hl
              have t9_42 : ev9 42 = eI G 16 (rnds j2 (LAY K X)) := by rw [o9, va_up_self]
              have t9_39 := (show ev9 39 = ev8 39 by rw [o9, va_up_ne _ _ (by decide)]).trans t8_39
              have t9_40 := (show ev9 40 = ev8 40 by rw [o9, va_up_ne _ _ (by decide)]).trans t8_40
              have t9_41 := (show ev9 41 = ev8 41 by rw [o9, va_up_ne _ _ (by decide)]).trans t8_41
              have t9_37 := (show ev9 37 = ev8 37 by rw [o9, va_up_ne _ _ (by decide)]).trans t8_37
              refine lv_iload_n hx hb d_Md_stir_134 rfl (lv_at hl 0 rfl) ?_
              refine lv_bipush (v := nI (10)) hx hb d_Md_stir_135 (by decide) ?_
              refine lv_icmp_ge (tgt := 230) hx hb d_Md_stir_137 (by decide) (fun _ => ?_) (fun hc => absurd ((nI_leI (by omega) (by omega)).mpr (by omega)) hc)
              refine wv_vret hx hb hr hlocks h d_Md_stir_230 ⟨rfl, ?_⟩
              rw [o9, show j2 = 10 by omega, o8, o7, o6, o5, o4', va_up2, va_up2, va_up2, va_up2]
              rfl
            | succ d ih =>
              intro j2 hk_j2  ev9 H locs ls  o9 h hl
              have t9_42 : ev9 42 = eI G 16 (rnds j2 (LAY K X)) := by rw [o9, va_up_self]
              have t9_39 := (show ev9 39 = ev8 39 by rw [o9, va_up_ne _ _ (by decide)]).trans t8_39
              have t9_40 := (show ev9 40 = ev8 40 by rw [o9, va_up_ne _ _ (by decide)]).trans t8_40
              have t9_41 := (show ev9 41 = ev8 41 by rw [o9, va_up_ne _ _ (by decide)]).trans t8_41
              have t9_37 := (show ev9 37 = ev8 37 by rw [o9, va_up_ne _ _ (by decide)]).trans t8_37
              refine lv_iload_n hx hb d_Md_stir_134 rfl (lv_at hl 0 rfl) ?_
              refine lv_bipush (v := nI (10)) hx hb d_Md_stir_135 (by decide) ?_
              refine lv_icmp_ge (tgt := 230) hx hb d_Md_stir_137 (by decide) (fun hc => absurd ((nI_leI (by omega) (by omega)).mp hc) (by omega)) (fun _ => ?_)
              refine lv_aload_n hx hb d_Md_stir_140 rfl (lv_at hl 1 rfl) ?_
              refine lv_iconst (v := nI (0)) hx hb d_Md_stir_141 (by decide) ?_
              refine lv_iconst (v := nI (4)) hx hb d_Md_stir_142 (by decide) ?_
              refine lv_bipush (v := nI (8)) hx hb d_Md_stir_143 (by decide) ?_
              refine lv_bipush (v := nI (12)) hx hb d_Md_stir_145 (by decide) ?_
              refine wv_V (As := [.int (nI (0)), .int (nI (4)), .int (nI (8)), .int (nI (12))]) (rest := []) (k := 4) ⟨hx, hb, hml, hown, hts⟩ h 37 (by decide) (C := "NonceBoxModel") t9_37 rfl (m_Md_quarter l G A ad ev9 0 4 8 12 (by decide) (by decide) (by decide) (by decide) (rnds j2 (LAY K X)) tl ol cd t9_37 t9_42) kc_Md_quarter kl_Md_85 km_Md_quarter kv_Md_quarter ki_Md (by decide +kernel) ⟨rfl, rfl, Nat.le_of_ble_eq_true rfl, Nat.le_of_ble_eq_true rfl⟩ hl.1 rfl rfl (Nat.le_of_ble_eq_true rfl) ⟨Nat.le_refl _, Nat.le_refl _⟩ d_Md_stir_147 ?_
              intro ov ev10 H locs hp h
              rw [hp.1]
              refine W.eq (g2 := F0 m 150 ls []) rfl ?_
              have o10 : ev10 = (va_up ev9 42 (eI G 16 (qtr 0 4 8 12 (rnds j2 (LAY K X))))) := hp.2
              have t10_42 : ev10 42 = eI G 16 (qtr 0 4 8 12 (rnds j2 (LAY K X))) := by rw [o10, va_up_self]
              have t10_39 := (show ev10 39 = ev9 39 by rw [o10, va_up_ne _ _ (by decide)]).trans t9_39
              have t10_40 := (show ev10 40 = ev9 40 by rw [o10, va_up_ne _ _ (by decide)]).trans t9_40
              have t10_41 := (show ev10 41 = ev9 41 by rw [o10, va_up_ne _ _ (by decide)]).trans t9_41
              have t10_37 := (show ev10 37 = ev9 37 by rw [o10, va_up_ne _ _ (by decide)]).trans t9_37
              refine lv_aload_n hx hb d_Md_stir_150 rfl (lv_at hl 1 rfl) ?_
              refine lv_iconst (v := nI (5)) hx hb d_Md_stir_151 (by decide) ?_
              refine lv_bipush (v := nI (9)) hx hb d_Md_stir_152 (by decide) ?_
              refine lv_bipush (v := nI (13)) hx hb d_Md_stir_154 (by decide) ?_
              refine lv_iconst (v := nI (1)) hx hb d_Md_stir_156 (by decide) ?_
              refine wv_V (As := [.int (nI (5)), .int (nI (9)), .int (nI (13)), .int (nI (1))]) (rest := []) (k := 4) ⟨hx, hb, hml, hown, hts⟩ h 37 (by decide) (C := "NonceBoxModel") t10_37 rfl (m_Md_quarter l G A ad ev10 5 9 13 1 (by decide) (by decide) (by decide) (by decide) (qtr 0 4 8 12 (rnds j2 (LAY K X))) tl ol cd t10_37 t10_42) kc_Md_quarter kl_Md_85 km_Md_quarter kv_Md_quarter ki_Md (by decide +kernel) ⟨rfl, rfl, Nat.le_of_ble_eq_true rfl, Nat.le_of_ble_eq_true rfl⟩ hl.1 rfl rfl (Nat.le_of_ble_eq_true rfl) ⟨Nat.le_refl _, Nat.le_refl _⟩ d_Md_stir_157 ?_
              intro ov ev11 H locs hp h
              rw [hp.1]
              refine W.eq (g2 := F0 m 160 ls []) rfl ?_
              have o11 : ev11 = (va_up ev10 42 (eI G 16 (qtr 5 9 13 1 (qtr 0 4 8 12 (rnds j2 (LAY K X)))))) := hp.2
              have t11_42 : ev11 42 = eI G 16 (qtr 5 9 13 1 (qtr 0 4 8 12 (rnds j2 (LAY K X)))) := by rw [o11, va_up_self]
              have t11_39 := (show ev11 39 = ev10 39 by rw [o11, va_up_ne _ _ (by decide)]).trans t10_39
              have t11_40 := (show ev11 40 = ev10 40 by rw [o11, va_up_ne _ _ (by decide)]).trans t10_40
              have t11_41 := (show ev11 41 = ev10 41 by rw [o11, va_up_ne _ _ (by decide)]).trans t10_41
              have t11_37 := (show ev11 37 = ev10 37 by rw [o11, va_up_ne _ _ (by decide)]).trans t10_37
              refine lv_aload_n hx hb d_Md_stir_160 rfl (lv_at hl 1 rfl) ?_
              refine lv_bipush (v := nI (10)) hx hb d_Md_stir_161 (by decide) ?_
              refine lv_bipush (v := nI (14)) hx hb d_Md_stir_163 (by decide) ?_
              refine lv_iconst (v := nI (2)) hx hb d_Md_stir_165 (by decide) ?_
              refine lv_bipush (v := nI (6)) hx hb d_Md_stir_166 (by decide) ?_
              refine wv_V (As := [.int (nI (10)), .int (nI (14)), .int (nI (2)), .int (nI (6))]) (rest := []) (k := 4) ⟨hx, hb, hml, hown, hts⟩ h 37 (by decide) (C := "NonceBoxModel") t11_37 rfl (m_Md_quarter l G A ad ev11 10 14 2 6 (by decide) (by decide) (by decide) (by decide) (qtr 5 9 13 1 (qtr 0 4 8 12 (rnds j2 (LAY K X)))) tl ol cd t11_37 t11_42) kc_Md_quarter kl_Md_85 km_Md_quarter kv_Md_quarter ki_Md (by decide +kernel) ⟨rfl, rfl, Nat.le_of_ble_eq_true rfl, Nat.le_of_ble_eq_true rfl⟩ hl.1 rfl rfl (Nat.le_of_ble_eq_true rfl) ⟨Nat.le_refl _, Nat.le_refl _⟩ d_Md_stir_168 ?_
              intro ov ev12 H locs hp h
              rw [hp.1]
              refine W.eq (g2 := F0 m 171 ls []) rfl ?_
              have o12 : ev12 = (va_up ev11 42 (eI G 16 (qtr 10 14 2 6 (qtr 5 9 13 1 (qtr 0 4 8 12 (rnds j2 (LAY K X))))))) := hp.2
              have t12_42 : ev12 42 = eI G 16 (qtr 10 14 2 6 (qtr 5 9 13 1 (qtr 0 4 8 12 (rnds j2 (LAY K X))))) := by rw [o12, va_up_self]
              have t12_39 := (show ev12 39 = ev11 39 by rw [o12, va_up_ne _ _ (by decide)]).trans t11_39
              have t12_40 := (show ev12 40 = ev11 40 by rw [o12, va_up_ne _ _ (by decide)]).trans t11_40
              have t12_41 := (show ev12 41 = ev11 41 by rw [o12, va_up_ne _ _ (by decide)]).trans t11_41
              have t12_37 := (show ev12 37 = ev11 37 by rw [o12, va_up_ne _ _ (by decide)]).trans t11_37
              refine lv_aload_n hx hb d_Md_stir_171 rfl (lv_at hl 1 rfl) ?_
              refine lv_bipush (v := nI (15)) hx hb d_Md_stir_172 (by decide) ?_
              refine lv_iconst (v := nI (3)) hx hb d_Md_stir_174 (by decide) ?_
              refine lv_bipush (v := nI (7)) hx hb d_Md_stir_175 (by decide) ?_
              refine lv_bipush (v := nI (11)) hx hb d_Md_stir_177 (by decide) ?_
              refine wv_V (As := [.int (nI (15)), .int (nI (3)), .int (nI (7)), .int (nI (11))]) (rest := []) (k := 4) ⟨hx, hb, hml, hown, hts⟩ h 37 (by decide) (C := "NonceBoxModel") t12_37 rfl (m_Md_quarter l G A ad ev12 15 3 7 11 (by decide) (by decide) (by decide) (by decide) (qtr 10 14 2 6 (qtr 5 9 13 1 (qtr 0 4 8 12 (rnds j2 (LAY K X))))) tl ol cd t12_37 t12_42) kc_Md_quarter kl_Md_85 km_Md_quarter kv_Md_quarter ki_Md (by decide +kernel) ⟨rfl, rfl, Nat.le_of_ble_eq_true rfl, Nat.le_of_ble_eq_true rfl⟩ hl.1 rfl rfl (Nat.le_of_ble_eq_true rfl) ⟨Nat.le_refl _, Nat.le_refl _⟩ d_Md_stir_179 ?_
              intro ov ev13 H locs hp h
              rw [hp.1]
              refine W.eq (g2 := F0 m 182 ls []) rfl ?_
              have o13 : ev13 = (va_up ev12 42 (eI G 16 (qtr 15 3 7 11 (qtr 10 14 2 6 (qtr 5 9 13 1 (qtr 0 4 8 12 (rnds j2 (LAY K X)))))))) := hp.2
              have t13_42 : ev13 42 = eI G 16 (qtr 15 3 7 11 (qtr 10 14 2 6 (qtr 5 9 13 1 (qtr 0 4 8 12 (rnds j2 (LAY K X)))))) := by rw [o13, va_up_self]
              have t13_39 := (show ev13 39 = ev12 39 by rw [o13, va_up_ne _ _ (by decide)]).trans t12_39
              have t13_40 := (show ev13 40 = ev12 40 by rw [o13, va_up_ne _ _ (by decide)]).trans t12_40
              have t13_41 := (show ev13 41 = ev12 41 by rw [o13, va_up_ne _ _ (by decide)]).trans t12_41
              have t13_37 := (show ev13 37 = ev12 37 by rw [o13, va_up_ne _ _ (by decide)]).trans t12_37
              refine lv_aload_n hx hb d_Md_stir_182 rfl (lv_at hl 1 rfl) ?_
              refine lv_iconst (v := nI (0)) hx hb d_Md_stir_183 (by decide) ?_
              refine lv_iconst (v := nI (1)) hx hb d_Md_stir_184 (by decide) ?_
              refine lv_iconst (v := nI (2)) hx hb d_Md_stir_185 (by decide) ?_
              refine lv_iconst (v := nI (3)) hx hb d_Md_stir_186 (by decide) ?_
              refine wv_V (As := [.int (nI (0)), .int (nI (1)), .int (nI (2)), .int (nI (3))]) (rest := []) (k := 4) ⟨hx, hb, hml, hown, hts⟩ h 37 (by decide) (C := "NonceBoxModel") t13_37 rfl (m_Md_quarter l G A ad ev13 0 1 2 3 (by decide) (by decide) (by decide) (by decide) (qtr 15 3 7 11 (qtr 10 14 2 6 (qtr 5 9 13 1 (qtr 0 4 8 12 (rnds j2 (LAY K X)))))) tl ol cd t13_37 t13_42) kc_Md_quarter kl_Md_85 km_Md_quarter kv_Md_quarter ki_Md (by decide +kernel) ⟨rfl, rfl, Nat.le_of_ble_eq_true rfl, Nat.le_of_ble_eq_true rfl⟩ hl.1 rfl rfl (Nat.le_of_ble_eq_true rfl) ⟨Nat.le_refl _, Nat.le_refl _⟩ d_Md_stir_187 ?_
              intro ov ev14 H locs hp h
              rw [hp.1]
              refine W.eq (g2 := F0 m 190 ls []) rfl ?_
              have o14 : ev14 = (va_up ev13 42 (eI G 16 (qtr 0 1 2 3 (qtr 15 3 7 11 (qtr 10 14 2 6 (qtr 5 9 13 1 (qtr 0 4 8 12 (rnds j2 (LAY K X))))))))) := hp.2
              have t14_42 : ev14 42 = eI G 16 (qtr 0 1 2 3 (qtr 15 3 7 11 (qtr 10 14 2 6 (qtr 5 9 13 1 (qtr 0 4 8 12 (rnds j2 (LAY K X))))))) := by rw [o14, va_up_self]
              have t14_39 := (show ev14 39 = ev13 39 by rw [o14, va_up_ne _ _ (by decide)]).trans t13_39
              have t14_40 := (show ev14 40 = ev13 40 by rw [o14, va_up_ne _ _ (by decide)]).trans t13_40
              have t14_41 := (show ev14 41 = ev13 41 by rw [o14, va_up_ne _ _ (by decide)]).trans t13_41
              have t14_37 := (show ev14 37 = ev13 37 by rw [o14, va_up_ne _ _ (by decide)]).trans t13_37
              refine lv_aload_n hx hb d_Md_stir_190 rfl (lv_at hl 1 rfl) ?_
              refine lv_iconst (v := nI (5)) hx hb d_Md_stir_191 (by decide) ?_
              refine lv_bipush (v := nI (6)) hx hb d_Md_stir_192 (by decide) ?_
              refine lv_bipush (v := nI (7)) hx hb d_Md_stir_194 (by decide) ?_
              refine lv_iconst (v := nI (4)) hx hb d_Md_stir_196 (by decide) ?_
              refine wv_V (As := [.int (nI (5)), .int (nI (6)), .int (nI (7)), .int (nI (4))]) (rest := []) (k := 4) ⟨hx, hb, hml, hown, hts⟩ h 37 (by decide) (C := "NonceBoxModel") t14_37 rfl (m_Md_quarter l G A ad ev14 5 6 7 4 (by decide) (by decide) (by decide) (by decide) (qtr 0 1 2 3 (qtr 15 3 7 11 (qtr 10 14 2 6 (qtr 5 9 13 1 (qtr 0 4 8 12 (rnds j2 (LAY K X))))))) tl ol cd t14_37 t14_42) kc_Md_quarter kl_Md_85 km_Md_quarter kv_Md_quarter ki_Md (by decide +kernel) ⟨rfl, rfl, Nat.le_of_ble_eq_true rfl, Nat.le_of_ble_eq_true rfl⟩ hl.1 rfl rfl (Nat.le_of_ble_eq_true rfl) ⟨Nat.le_refl _, Nat.le_refl _⟩ d_Md_stir_197 ?_
              intro ov ev15 H locs hp h
              rw [hp.1]
              refine W.eq (g2 := F0 m 200 ls []) rfl ?_
              have o15 : ev15 = (va_up ev14 42 (eI G 16 (qtr 5 6 7 4 (qtr 0 1 2 3 (qtr 15 3 7 11 (qtr 10 14 2 6 (qtr 5 9 13 1 (qtr 0 4 8 12 (rnds j2 (LAY K X)))))))))) := hp.2
              have t15_42 : ev15 42 = eI G 16 (qtr 5 6 7 4 (qtr 0 1 2 3 (qtr 15 3 7 11 (qtr 10 14 2 6 (qtr 5 9 13 1 (qtr 0 4 8 12 (rnds j2 (LAY K X)))))))) := by rw [o15, va_up_self]
              have t15_39 := (show ev15 39 = ev14 39 by rw [o15, va_up_ne _ _ (by decide)]).trans t14_39
              have t15_40 := (show ev15 40 = ev14 40 by rw [o15, va_up_ne _ _ (by decide)]).trans t14_40
              have t15_41 := (show ev15 41 = ev14 41 by rw [o15, va_up_ne _ _ (by decide)]).trans t14_41
              have t15_37 := (show ev15 37 = ev14 37 by rw [o15, va_up_ne _ _ (by decide)]).trans t14_37
              refine lv_aload_n hx hb d_Md_stir_200 rfl (lv_at hl 1 rfl) ?_
              refine lv_bipush (v := nI (10)) hx hb d_Md_stir_201 (by decide) ?_
              refine lv_bipush (v := nI (11)) hx hb d_Md_stir_203 (by decide) ?_
              refine lv_bipush (v := nI (8)) hx hb d_Md_stir_205 (by decide) ?_
              refine lv_bipush (v := nI (9)) hx hb d_Md_stir_207 (by decide) ?_
              refine wv_V (As := [.int (nI (10)), .int (nI (11)), .int (nI (8)), .int (nI (9))]) (rest := []) (k := 4) ⟨hx, hb, hml, hown, hts⟩ h 37 (by decide) (C := "NonceBoxModel") t15_37 rfl (m_Md_quarter l G A ad ev15 10 11 8 9 (by decide) (by decide) (by decide) (by decide) (qtr 5 6 7 4 (qtr 0 1 2 3 (qtr 15 3 7 11 (qtr 10 14 2 6 (qtr 5 9 13 1 (qtr 0 4 8 12 (rnds j2 (LAY K X)))))))) tl ol cd t15_37 t15_42) kc_Md_quarter kl_Md_85 km_Md_quarter kv_Md_quarter ki_Md (by decide +kernel) ⟨rfl, rfl, Nat.le_of_ble_eq_true rfl, Nat.le_of_ble_eq_true rfl⟩ hl.1 rfl rfl (Nat.le_of_ble_eq_true rfl) ⟨Nat.le_refl _, Nat.le_refl _⟩ d_Md_stir_209 ?_
              intro ov ev16 H locs hp h
              rw [hp.1]
              refine W.eq (g2 := F0 m 212 ls []) rfl ?_
              have o16 : ev16 = (va_up ev15 42 (eI G 16 (qtr 10 11 8 9 (qtr 5 6 7 4 (qtr 0 1 2 3 (qtr 15 3 7 11 (qtr 10 14 2 6 (qtr 5 9 13 1 (qtr 0 4 8 12 (rnds j2 (LAY K X))))))))))) := hp.2
              have t16_42 : ev16 42 = eI G 16 (qtr 10 11 8 9 (qtr 5 6 7 4 (qtr 0 1 2 3 (qtr 15 3 7 11 (qtr 10 14 2 6 (qtr 5 9 13 1 (qtr 0 4 8 12 (rnds j2 (LAY K X))))))))) := by rw [o16, va_up_self]
              have t16_39 := (show ev16 39 = ev15 39 by rw [o16, va_up_ne _ _ (by decide)]).trans t15_39
              have t16_40 := (show ev16 40 = ev15 40 by rw [o16, va_up_ne _ _ (by decide)]).trans t15_40
              have t16_41 := (show ev16 41 = ev15 41 by rw [o16, va_up_ne _ _ (by decide)]).trans t15_41
              have t16_37 := (show ev16 37 = ev15 37 by rw [o16, va_up_ne _ _ (by decide)]).trans t15_37
              refine lv_aload_n hx hb d_Md_stir_212 rfl (lv_at hl 1 rfl) ?_
              refine lv_bipush (v := nI (15)) hx hb d_Md_stir_213 (by decide) ?_
              refine lv_bipush (v := nI (12)) hx hb d_Md_stir_215 (by decide) ?_
              refine lv_bipush (v := nI (13)) hx hb d_Md_stir_217 (by decide) ?_
              refine lv_bipush (v := nI (14)) hx hb d_Md_stir_219 (by decide) ?_
              refine wv_V (As := [.int (nI (15)), .int (nI (12)), .int (nI (13)), .int (nI (14))]) (rest := []) (k := 4) ⟨hx, hb, hml, hown, hts⟩ h 37 (by decide) (C := "NonceBoxModel") t16_37 rfl (m_Md_quarter l G A ad ev16 15 12 13 14 (by decide) (by decide) (by decide) (by decide) (qtr 10 11 8 9 (qtr 5 6 7 4 (qtr 0 1 2 3 (qtr 15 3 7 11 (qtr 10 14 2 6 (qtr 5 9 13 1 (qtr 0 4 8 12 (rnds j2 (LAY K X))))))))) tl ol cd t16_37 t16_42) kc_Md_quarter kl_Md_85 km_Md_quarter kv_Md_quarter ki_Md (by decide +kernel) ⟨rfl, rfl, Nat.le_of_ble_eq_true rfl, Nat.le_of_ble_eq_true rfl⟩ hl.1 rfl rfl (Nat.le_of_ble_eq_true rfl) ⟨Nat.le_refl _, Nat.le_refl _⟩ d_Md_stir_221 ?_
              intro ov ev17 H locs hp h
              rw [hp.1]
              refine W.eq (g2 := F0 m 224 ls []) rfl ?_
              have o17 : ev17 = (va_up ev16 42 (eI G 16 (qtr 15 12 13 14 (qtr 10 11 8 9 (qtr 5 6 7 4 (qtr 0 1 2 3 (qtr 15 3 7 11 (qtr 10 14 2 6 (qtr 5 9 13 1 (qtr 0 4 8 12 (rnds j2 (LAY K X)))))))))))) := hp.2
              have t17_42 : ev17 42 = eI G 16 (qtr 15 12 13 14 (qtr 10 11 8 9 (qtr 5 6 7 4 (qtr 0 1 2 3 (qtr 15 3 7 11 (qtr 10 14 2 6 (qtr 5 9 13 1 (qtr 0 4 8 12 (rnds j2 (LAY K X)))))))))) := by rw [o17, va_up_self]
              have t17_39 := (show ev17 39 = ev16 39 by rw [o17, va_up_ne _ _ (by decide)]).trans t16_39
              have t17_40 := (show ev17 40 = ev16 40 by rw [o17, va_up_ne _ _ (by decide)]).trans t16_40
              have t17_41 := (show ev17 41 = ev16 41 by rw [o17, va_up_ne _ _ (by decide)]).trans t16_41
              have t17_37 := (show ev17 37 = ev16 37 by rw [o17, va_up_ne _ _ (by decide)]).trans t16_37
              refine lv_iinc (v := nI (j2 + 1)) (lv' := [(1, .int (nI (j2 + 1))), (0, .ref (ad 37))]) hx hb d_Md_stir_224 hl (k := 0) rfl (nI_add _ _) (by decide) rfl (fun ls hl => ?_)
              refine lv_goto (tgt := 134) hx hb d_Md_stir_227 (by decide) ?_
              refine ih (j2 + 1) (by omega) ev17 H locs ls ?_ h (lv_sub hl [0, 1] rfl)
              rw [o17, o16, o15, o14, o13, o12, o11, o10, o9, va_up2, va_up2, va_up2, va_up2, va_up2, va_up2, va_up2, va_up2]
              rfl
          exact loop9 10 0 rfl ev8 H locs ls (va_upi _ _ t8_42).symm h (lv_sub hl [0, 1] rfl)
        | succ d ih =>
          intro j1 hk_j1  ev7 H locs ls  o7 h hl
          have t7_42 : ev7 42 = eI G 16 (fil 0 j1 (LAY K X) g) := by rw [o7, va_up_self]
          have t7_39 := (show ev7 39 = ev6 39 by rw [o7, va_up_ne _ _ (by decide)]).trans t6_39
          have t7_40 := (show ev7 40 = ev6 40 by rw [o7, va_up_ne _ _ (by decide)]).trans t6_40
          have t7_41 := (show ev7 41 = ev6 41 by rw [o7, va_up_ne _ _ (by decide)]).trans t6_41
          have t7_37 := (show ev7 37 = ev6 37 by rw [o7, va_up_ne _ _ (by decide)]).trans t6_37
          refine lv_iload_n hx hb d_Md_stir_108 rfl (lv_at hl 0 rfl) ?_
          refine lv_bipush (v := nI (16)) hx hb d_Md_stir_109 (by decide) ?_
          refine lv_icmp_ge (tgt := 132) hx hb d_Md_stir_111 (by decide) (fun hc => absurd ((nI_leI (by omega) (by omega)).mp hc) (by omega)) (fun _ => ?_)
          refine lv_aload_n hx hb d_Md_stir_114 rfl (lv_at hl 1 rfl) ?_
          refine wv_getf hx hb h 37 (by decide) (fs := [.ref (ad 38), .int (nI (tl)), .int (nI (ol)), .int (nI (cd)), .ref (ad 39), .ref (ad 40), .ref (ad 41), .ref (ad 42), .ref (ad 43), .ref (ad 44), .ref (ad 45), .ref (ad 46), .ref (ad 47), .ref (ad 48), .ref (ad 49), .ref (ad 50)]) t7_37 hts (fun w hw => List.mem_cons_of_mem _ (fW_Md w hw)) hown (ci := 5) (C := "NonceBoxModel") (T := fT_Md) (N := 16) rfl 7 (by decide) (hts _ (List.mem_cons_of_mem _ kf_Md_22)) rfl (v := .ref (ad 42)) rfl d_Md_stir_115 ?_
          refine lv_iload_n hx hb d_Md_stir_118 rfl (lv_at hl 0 rfl) ?_
          refine lv_aload_n hx hb d_Md_stir_119 rfl (lv_at hl 1 rfl) ?_
          refine wv_getf hx hb h 37 (by decide) (fs := [.ref (ad 38), .int (nI (tl)), .int (nI (ol)), .int (nI (cd)), .ref (ad 39), .ref (ad 40), .ref (ad 41), .ref (ad 42), .ref (ad 43), .ref (ad 44), .ref (ad 45), .ref (ad 46), .ref (ad 47), .ref (ad 48), .ref (ad 49), .ref (ad 50)]) t7_37 hts (fun w hw => List.mem_cons_of_mem _ (fW_Md w hw)) hown (ci := 5) (C := "NonceBoxModel") (T := fT_Md) (N := 16) rfl 6 (by decide) (hts _ (List.mem_cons_of_mem _ kf_Md_19)) rfl (v := .ref (ad 41)) rfl d_Md_stir_120 ?_
          refine lv_iload_n hx hb d_Md_stir_123 rfl (lv_at hl 0 rfl) ?_
          refine wv_iald hx hb h 41 (by decide) (f := (LAY K X)) t7_41 (k := j1) rfl (by omega) (by decide) d_Md_stir_124 ?_
          refine wv_iast hx hb h 42 (by decide) (f := (fil 0 j1 (LAY K X) g)) t7_42 (k := j1) rfl (by omega) (by decide) d_Md_stir_125 (fun H locs h => ?_)
          obtain ⟨ev8, o8⟩ : ∃ z, z = va_up ev7 42 (eI G 16 (va_up ((fil 0 j1 (LAY K X) g)) j1 (((LAY K X)) j1))) := ⟨_, rfl⟩
          rw [← o8] at h
          have t8_42 : ev8 42 = eI G 16 (va_up ((fil 0 j1 (LAY K X) g)) j1 (((LAY K X)) j1)) := by rw [o8, va_up_self]
          have t8_39 := (show ev8 39 = ev7 39 by rw [o8, va_up_ne _ _ (by decide)]).trans t7_39
          have t8_40 := (show ev8 40 = ev7 40 by rw [o8, va_up_ne _ _ (by decide)]).trans t7_40
          have t8_41 := (show ev8 41 = ev7 41 by rw [o8, va_up_ne _ _ (by decide)]).trans t7_41
          have t8_37 := (show ev8 37 = ev7 37 by rw [o8, va_up_ne _ _ (by decide)]).trans t7_37
          refine lv_iinc (v := nI (j1 + 1)) (lv' := [(1, .int (nI (j1 + 1))), (0, .ref (ad 37))]) hx hb d_Md_stir_126 hl (k := 0) rfl (nI_add _ _) (by decide) rfl (fun ls hl => ?_)
          refine lv_goto (tgt := 108) hx hb d_Md_stir_129 (by decide) ?_
          refine ih (j1 + 1) (by omega) ev8 H locs ls ?_ h (lv_sub hl [0, 1] rfl)
          rw [o8, o7, va_up2, ← fil_s 0 j1 (LAY K X) g rfl, Nat.zero_add]
      exact loop7 16 0 rfl ev6 H locs ls (by rw [fil_0, va_upi _ _ t6_42]) h (lv_sub hl [0, 1] rfl)
    | succ d ih =>
      intro k hk_k  ev5 H locs ls  o5 h hl
      have t5_41 : ev5 41 = eI G 16 (layT K X f0 k) := by rw [o5, va_up_self]
      have t5_39 := (show ev5 39 = ev4 39 by rw [o5, va_up_ne _ _ (by decide)]).trans t4_39
      have t5_40 := (show ev5 40 = ev4 40 by rw [o5, va_up_ne _ _ (by decide)]).trans t4_40
      have t5_42 := (show ev5 42 = ev4 42 by rw [o5, va_up_ne _ _ (by decide)]).trans t4_42
      have t5_37 := (show ev5 37 = ev4 37 by rw [o5, va_up_ne _ _ (by decide)]).trans t4_37
      refine lv_iload_n hx hb d_Md_stir_36 rfl (lv_at hl 0 rfl) ?_
      refine lv_iconst (v := nI (4)) hx hb d_Md_stir_37 (by decide) ?_
      refine lv_icmp_ge (tgt := 106) hx hb d_Md_stir_38 (by decide) (fun hc => absurd ((nI_leI (by omega) (by omega)).mp hc) (by omega)) (fun _ => ?_)
      refine lv_aload_n hx hb d_Md_stir_41 rfl (lv_at hl 1 rfl) ?_
      refine wv_getf hx hb h 37 (by decide) (fs := [.ref (ad 38), .int (nI (tl)), .int (nI (ol)), .int (nI (cd)), .ref (ad 39), .ref (ad 40), .ref (ad 41), .ref (ad 42), .ref (ad 43), .ref (ad 44), .ref (ad 45), .ref (ad 46), .ref (ad 47), .ref (ad 48), .ref (ad 49), .ref (ad 50)]) t5_37 hts (fun w hw => List.mem_cons_of_mem _ (fW_Md w hw)) hown (ci := 5) (C := "NonceBoxModel") (T := fT_Md) (N := 16) rfl 6 (by decide) (hts _ (List.mem_cons_of_mem _ kf_Md_19)) rfl (v := .ref (ad 41)) rfl d_Md_stir_42 ?_
      refine lv_iconst (v := nI (1)) hx hb d_Md_stir_45 (by decide) ?_
      refine lv_iload_n hx hb d_Md_stir_46 rfl (lv_at hl 0 rfl) ?_
      refine lv_iadd hx hb d_Md_stir_47 ?_
      refine wv_top (w := nI (1 + k)) (nI_add _ _) ?_
      refine lv_aload_n hx hb d_Md_stir_48 rfl (lv_at hl 1 rfl) ?_
      refine wv_getf hx hb h 37 (by decide) (fs := [.ref (ad 38), .int (nI (tl)), .int (nI (ol)), .int (nI (cd)), .ref (ad 39), .ref (ad 40), .ref (ad 41), .ref (ad 42), .ref (ad 43), .ref (ad 44), .ref (ad 45), .ref (ad 46), .ref (ad 47), .ref (ad 48), .ref (ad 49), .ref (ad 50)]) t5_37 hts (fun w hw => List.mem_cons_of_mem _ (fW_Md w hw)) hown (ci := 5) (C := "NonceBoxModel") (T := fT_Md) (N := 16) rfl 4 (by decide) (hts _ (List.mem_cons_of_mem _ kf_Md_13)) rfl (v := .ref (ad 39)) rfl d_Md_stir_49 ?_
      refine lv_iconst (v := nI (4)) hx hb d_Md_stir_52 (by decide) ?_
      refine lv_iload_n hx hb d_Md_stir_53 rfl (lv_at hl 0 rfl) ?_
      refine lv_imul hx hb d_Md_stir_54 ?_
      refine wv_top (w := nI (4 * k)) (pk_mul _ _) ?_
      refine wv_Sx (As := [.ref (ad 39), .int (nI (4 * k))]) (rest := [.int (nI (1 + k)), .ref (ad 41)]) (k := 2) ⟨hx, hb, hml, hown, hts⟩ h (m_Md_wordAt l G A ad ev5 39 32 (4 * k) K (by decide) t5_39 (by omega) (by decide)) kc_Md_wordAt kl_Md_81 ks_Md_wordAt ki_Md (by decide +kernel) ⟨rfl, rfl, Nat.le_of_ble_eq_true rfl, Nat.le_of_ble_eq_true rfl⟩ hl.1 rfl rfl (Nat.le_of_ble_eq_true rfl) ⟨Nat.le_refl _, Nat.le_refl _⟩ d_Md_stir_55 ?_
      intro ov ev6 H locs hp h
      rw [hp.1]
      refine W.eq (g2 := F0 m 58 ls [.int (wordN K (4 * k)), .int (nI (1 + k)), .ref (ad 41)]) rfl ?_
      rw [hp.2] at h
      refine wv_iast hx hb h 41 (by decide) (f := (layT K X f0 k)) t5_41 (k := 1 + k) rfl (by omega) (by decide) d_Md_stir_58 (fun H locs h => ?_)
      obtain ⟨ev6, o6⟩ : ∃ z, z = va_up ev5 41 (eI G 16 (va_up ((layT K X f0 k)) (1 + k) (wordN K (4 * k)))) := ⟨_, rfl⟩
      rw [← o6] at h
      have t6_41 : ev6 41 = eI G 16 (va_up ((layT K X f0 k)) (1 + k) (wordN K (4 * k))) := by rw [o6, va_up_self]
      have t6_39 := (show ev6 39 = ev5 39 by rw [o6, va_up_ne _ _ (by decide)]).trans t5_39
      have t6_40 := (show ev6 40 = ev5 40 by rw [o6, va_up_ne _ _ (by decide)]).trans t5_40
      have t6_42 := (show ev6 42 = ev5 42 by rw [o6, va_up_ne _ _ (by decide)]).trans t5_42
      have t6_37 := (show ev6 37 = ev5 37 by rw [o6, va_up_ne _ _ (by decide)]).trans t5_37
      refine lv_aload_n hx hb d_Md_stir_59 rfl (lv_at hl 1 rfl) ?_
      refine wv_getf hx hb h 37 (by decide) (fs := [.ref (ad 38), .int (nI (tl)), .int (nI (ol)), .int (nI (cd)), .ref (ad 39), .ref (ad 40), .ref (ad 41), .ref (ad 42), .ref (ad 43), .ref (ad 44), .ref (ad 45), .ref (ad 46), .ref (ad 47), .ref (ad 48), .ref (ad 49), .ref (ad 50)]) t6_37 hts (fun w hw => List.mem_cons_of_mem _ (fW_Md w hw)) hown (ci := 5) (C := "NonceBoxModel") (T := fT_Md) (N := 16) rfl 6 (by decide) (hts _ (List.mem_cons_of_mem _ kf_Md_19)) rfl (v := .ref (ad 41)) rfl d_Md_stir_60 ?_
      refine lv_bipush (v := nI (11)) hx hb d_Md_stir_63 (by decide) ?_
      refine lv_iload_n hx hb d_Md_stir_65 rfl (lv_at hl 0 rfl) ?_
      refine lv_iadd hx hb d_Md_stir_66 ?_
      refine wv_top (w := nI (11 + k)) (nI_add _ _) ?_
      refine lv_aload_n hx hb d_Md_stir_67 rfl (lv_at hl 1 rfl) ?_
      refine wv_getf hx hb h 37 (by decide) (fs := [.ref (ad 38), .int (nI (tl)), .int (nI (ol)), .int (nI (cd)), .ref (ad 39), .ref (ad 40), .ref (ad 41), .ref (ad 42), .ref (ad 43), .ref (ad 44), .ref (ad 45), .ref (ad 46), .ref (ad 47), .ref (ad 48), .ref (ad 49), .ref (ad 50)]) t6_37 hts (fun w hw => List.mem_cons_of_mem _ (fW_Md w hw)) hown (ci := 5) (C := "NonceBoxModel") (T := fT_Md) (N := 16) rfl 4 (by decide) (hts _ (List.mem_cons_of_mem _ kf_Md_13)) rfl (v := .ref (ad 39)) rfl d_Md_stir_68 ?_
      refine lv_bipush (v := nI (16)) hx hb d_Md_stir_71 (by decide) ?_
      refine lv_iconst (v := nI (4)) hx hb d_Md_stir_73 (by decide) ?_
      refine lv_iload_n hx hb d_Md_stir_74 rfl (lv_at hl 0 rfl) ?_
      refine lv_imul hx hb d_Md_stir_75 ?_
      refine wv_top (w := nI (4 * k)) (pk_mul _ _) ?_
      refine lv_iadd hx hb d_Md_stir_76 ?_
      refine wv_top (w := nI (16 + (4 * k))) (nI_add _ _) ?_
      refine wv_Sx (As := [.ref (ad 39), .int (nI (16 + (4 * k)))]) (rest := [.int (nI (11 + k)), .ref (ad 41)]) (k := 2) ⟨hx, hb, hml, hown, hts⟩ h (m_Md_wordAt l G A ad ev6 39 32 (16 + 4 * k) K (by decide) t6_39 (by omega) (by decide)) kc_Md_wordAt kl_Md_81 ks_Md_wordAt ki_Md (by decide +kernel) ⟨rfl, rfl, Nat.le_of_ble_eq_true rfl, Nat.le_of_ble_eq_true rfl⟩ hl.1 rfl rfl (Nat.le_of_ble_eq_true rfl) ⟨Nat.le_refl _, Nat.le_refl _⟩ d_Md_stir_77 ?_
      intro ov ev7 H locs hp h
      rw [hp.1]
      refine W.eq (g2 := F0 m 80 ls [.int (wordN K (16 + 4 * k)), .int (nI (11 + k)), .ref (ad 41)]) rfl ?_
      rw [hp.2] at h
      refine wv_iast hx hb h 41 (by decide) (f := (va_up ((layT K X f0 k)) (1 + k) (wordN K (4 * k)))) t6_41 (k := 11 + k) rfl (by omega) (by decide) d_Md_stir_80 (fun H locs h => ?_)
      obtain ⟨ev7, o7⟩ : ∃ z, z = va_up ev6 41 (eI G 16 (va_up ((va_up ((layT K X f0 k)) (1 + k) (wordN K (4 * k)))) (11 + k) (wordN K (16 + 4 * k)))) := ⟨_, rfl⟩
      rw [← o7] at h
      have t7_41 : ev7 41 = eI G 16 (va_up ((va_up ((layT K X f0 k)) (1 + k) (wordN K (4 * k)))) (11 + k) (wordN K (16 + 4 * k))) := by rw [o7, va_up_self]
      have t7_39 := (show ev7 39 = ev6 39 by rw [o7, va_up_ne _ _ (by decide)]).trans t6_39
      have t7_40 := (show ev7 40 = ev6 40 by rw [o7, va_up_ne _ _ (by decide)]).trans t6_40
      have t7_42 := (show ev7 42 = ev6 42 by rw [o7, va_up_ne _ _ (by decide)]).trans t6_42
      have t7_37 := (show ev7 37 = ev6 37 by rw [o7, va_up_ne _ _ (by decide)]).trans t6_37
      refine lv_aload_n hx hb d_Md_stir_81 rfl (lv_at hl 1 rfl) ?_
      refine wv_getf hx hb h 37 (by decide) (fs := [.ref (ad 38), .int (nI (tl)), .int (nI (ol)), .int (nI (cd)), .ref (ad 39), .ref (ad 40), .ref (ad 41), .ref (ad 42), .ref (ad 43), .ref (ad 44), .ref (ad 45), .ref (ad 46), .ref (ad 47), .ref (ad 48), .ref (ad 49), .ref (ad 50)]) t7_37 hts (fun w hw => List.mem_cons_of_mem _ (fW_Md w hw)) hown (ci := 5) (C := "NonceBoxModel") (T := fT_Md) (N := 16) rfl 6 (by decide) (hts _ (List.mem_cons_of_mem _ kf_Md_19)) rfl (v := .ref (ad 41)) rfl d_Md_stir_82 ?_
      refine lv_bipush (v := nI (6)) hx hb d_Md_stir_85 (by decide) ?_
      refine lv_iload_n hx hb d_Md_stir_87 rfl (lv_at hl 0 rfl) ?_
      refine lv_iadd hx hb d_Md_stir_88 ?_
      refine wv_top (w := nI (6 + k)) (nI_add _ _) ?_
      refine lv_aload_n hx hb d_Md_stir_89 rfl (lv_at hl 1 rfl) ?_
      refine wv_getf hx hb h 37 (by decide) (fs := [.ref (ad 38), .int (nI (tl)), .int (nI (ol)), .int (nI (cd)), .ref (ad 39), .ref (ad 40), .ref (ad 41), .ref (ad 42), .ref (ad 43), .ref (ad 44), .ref (ad 45), .ref (ad 46), .ref (ad 47), .ref (ad 48), .ref (ad 49), .ref (ad 50)]) t7_37 hts (fun w hw => List.mem_cons_of_mem _ (fW_Md w hw)) hown (ci := 5) (C := "NonceBoxModel") (T := fT_Md) (N := 16) rfl 5 (by decide) (hts _ (List.mem_cons_of_mem _ kf_Md_16)) rfl (v := .ref (ad 40)) rfl d_Md_stir_90 ?_
      refine lv_iconst (v := nI (4)) hx hb d_Md_stir_93 (by decide) ?_
      refine lv_iload_n hx hb d_Md_stir_94 rfl (lv_at hl 0 rfl) ?_
      refine lv_imul hx hb d_Md_stir_95 ?_
      refine wv_top (w := nI (4 * k)) (pk_mul _ _) ?_
      refine wv_Sx (As := [.ref (ad 40), .int (nI (4 * k))]) (rest := [.int (nI (6 + k)), .ref (ad 41)]) (k := 2) ⟨hx, hb, hml, hown, hts⟩ h (m_Md_wordAt l G A ad ev7 40 16 (4 * k) X (by decide) t7_40 (by omega) (by decide)) kc_Md_wordAt kl_Md_81 ks_Md_wordAt ki_Md (by decide +kernel) ⟨rfl, rfl, Nat.le_of_ble_eq_true rfl, Nat.le_of_ble_eq_true rfl⟩ hl.1 rfl rfl (Nat.le_of_ble_eq_true rfl) ⟨Nat.le_refl _, Nat.le_refl _⟩ d_Md_stir_96 ?_
      intro ov ev8 H locs hp h
      rw [hp.1]
      refine W.eq (g2 := F0 m 99 ls [.int (wordN X (4 * k)), .int (nI (6 + k)), .ref (ad 41)]) rfl ?_
      rw [hp.2] at h
      refine wv_iast hx hb h 41 (by decide) (f := (va_up ((va_up ((layT K X f0 k)) (1 + k) (wordN K (4 * k)))) (11 + k) (wordN K (16 + 4 * k)))) t7_41 (k := 6 + k) rfl (by omega) (by decide) d_Md_stir_99 (fun H locs h => ?_)
      obtain ⟨ev8, o8⟩ : ∃ z, z = va_up ev7 41 (eI G 16 (va_up ((va_up ((va_up ((layT K X f0 k)) (1 + k) (wordN K (4 * k)))) (11 + k) (wordN K (16 + 4 * k)))) (6 + k) (wordN X (4 * k)))) := ⟨_, rfl⟩
      rw [← o8] at h
      have t8_41 : ev8 41 = eI G 16 (va_up ((va_up ((va_up ((layT K X f0 k)) (1 + k) (wordN K (4 * k)))) (11 + k) (wordN K (16 + 4 * k)))) (6 + k) (wordN X (4 * k))) := by rw [o8, va_up_self]
      have t8_39 := (show ev8 39 = ev7 39 by rw [o8, va_up_ne _ _ (by decide)]).trans t7_39
      have t8_40 := (show ev8 40 = ev7 40 by rw [o8, va_up_ne _ _ (by decide)]).trans t7_40
      have t8_42 := (show ev8 42 = ev7 42 by rw [o8, va_up_ne _ _ (by decide)]).trans t7_42
      have t8_37 := (show ev8 37 = ev7 37 by rw [o8, va_up_ne _ _ (by decide)]).trans t7_37
      refine lv_iinc (v := nI (k + 1)) (lv' := [(1, .int (nI (k + 1))), (0, .ref (ad 37))]) hx hb d_Md_stir_100 hl (k := 0) rfl (nI_add _ _) (by decide) rfl (fun ls hl => ?_)
      refine lv_goto (tgt := 36) hx hb d_Md_stir_103 (by decide) ?_
      refine ih (k + 1) (by omega) ev8 H locs ls ?_ h (lv_sub hl [0, 1] rfl)
      rw [o8, o7, o6, o5, va_up2, va_up2, va_up2]
      rfl
  exact loop5 4 0 rfl ev4 H locs ls (va_upi _ _ t4').symm h (lv_sub hl [0, 1] rfl)
theorem d_Md_mixKey_0 : decode c_Md_mixKey 0 = .ok (.aload_n 0, 1) := by decide +kernel
theorem d_Md_mixKey_1 : decode c_Md_mixKey 1 = .ok (.invokevirtual 89, 3) := by decide +kernel
theorem d_Md_mixKey_4 : decode c_Md_mixKey 4 = .ok (.iconst 0, 1) := by decide +kernel
theorem d_Md_mixKey_5 : decode c_Md_mixKey 5 = .ok (.istore_n 1, 1) := by decide +kernel
theorem d_Md_mixKey_6 : decode c_Md_mixKey 6 = .ok (.iload_n 1, 1) := by decide +kernel
theorem d_Md_mixKey_7 : decode c_Md_mixKey 7 = .ok (.iconst 4, 1) := by decide +kernel
theorem d_Md_mixKey_8 : decode c_Md_mixKey 8 = .ok (.if_icmp .ge 49, 3) := by decide +kernel
theorem d_Md_mixKey_11 : decode c_Md_mixKey 11 = .ok (.aload_n 0, 1) := by decide +kernel
theorem d_Md_mixKey_12 : decode c_Md_mixKey 12 = .ok (.getfield 13, 3) := by decide +kernel
theorem d_Md_mixKey_15 : decode c_Md_mixKey 15 = .ok (.iconst 4, 1) := by decide +kernel
theorem d_Md_mixKey_16 : decode c_Md_mixKey 16 = .ok (.iload_n 1, 1) := by decide +kernel
theorem d_Md_mixKey_17 : decode c_Md_mixKey 17 = .ok (.imul, 1) := by decide +kernel
theorem d_Md_mixKey_18 : decode c_Md_mixKey 18 = .ok (.aload_n 0, 1) := by decide +kernel
theorem d_Md_mixKey_19 : decode c_Md_mixKey 19 = .ok (.getfield 22, 3) := by decide +kernel
theorem d_Md_mixKey_22 : decode c_Md_mixKey 22 = .ok (.iconst 5, 1) := by decide +kernel
theorem d_Md_mixKey_23 : decode c_Md_mixKey 23 = .ok (.iload_n 1, 1) := by decide +kernel
theorem d_Md_mixKey_24 : decode c_Md_mixKey 24 = .ok (.imul, 1) := by decide +kernel
theorem d_Md_mixKey_25 : decode c_Md_mixKey 25 = .ok (.iaload, 1) := by decide +kernel
theorem d_Md_mixKey_26 : decode c_Md_mixKey 26 = .ok (.invokestatic 92, 3) := by decide +kernel
theorem d_Md_mixKey_29 : decode c_Md_mixKey 29 = .ok (.aload_n 0, 1) := by decide +kernel
theorem d_Md_mixKey_30 : decode c_Md_mixKey 30 = .ok (.getfield 13, 3) := by decide +kernel
theorem d_Md_mixKey_33 : decode c_Md_mixKey 33 = .ok (.bipush 16, 2) := by decide +kernel
theorem d_Md_mixKey_35 : decode c_Md_mixKey 35 = .ok (.iconst 4, 1) := by decide +kernel
theorem d_Md_mixKey_36 : decode c_Md_mixKey 36 = .ok (.iload_n 1, 1) := by decide +kernel
theorem d_Md_mixKey_37 : decode c_Md_mixKey 37 = .ok (.imul, 1) := by decide +kernel
theorem d_Md_mixKey_38 : decode c_Md_mixKey 38 = .ok (.iadd, 1) := by decide +kernel
theorem d_Md_mixKey_39 : decode c_Md_mixKey 39 = .ok (.aload_n 0, 1) := by decide +kernel
theorem d_Md_mixKey_40 : decode c_Md_mixKey 40 = .ok (.getfield 22, 3) := by decide +kernel
theorem d_Md_mixKey_43 : decode c_Md_mixKey 43 = .ok (.bipush 6, 2) := by decide +kernel
theorem d_Md_mixKey_45 : decode c_Md_mixKey 45 = .ok (.iload_n 1, 1) := by decide +kernel
theorem d_Md_mixKey_46 : decode c_Md_mixKey 46 = .ok (.iadd, 1) := by decide +kernel
theorem d_Md_mixKey_47 : decode c_Md_mixKey 47 = .ok (.iaload, 1) := by decide +kernel
theorem d_Md_mixKey_48 : decode c_Md_mixKey 48 = .ok (.invokestatic 92, 3) := by decide +kernel
theorem d_Md_mixKey_51 : decode c_Md_mixKey 51 = .ok (.iinc 1 1, 3) := by decide +kernel
theorem d_Md_mixKey_54 : decode c_Md_mixKey 54 = .ok (.goto (-48), 3) := by decide +kernel
theorem d_Md_mixKey_57 : decode c_Md_mixKey 57 = .ok (.return_, 1) := by decide +kernel
set_option maxRecDepth 100000 in
set_option maxHeartbeats 4000000 in
/-- MIX in place -/
theorem m_Md_mixKey (l : Launch) (G : wG) (A : Nat → Prop) (ad : Nat → Nat) (ev : Nat → va_E) (K X : Nat → Nat) (f g : Nat → Int32) (tl ol cd : Nat) (h37 : ev 37 = eO 5 [.ref (ad 38), .int (nI tl), .int (nI ol), .int (nI cd), .ref (ad 39), .ref (ad 40), .ref (ad 41), .ref (ad 42), .ref (ad 43), .ref (ad 44), .ref (ad 45), .ref (ad 46), .ref (ad 47), .ref (ad 48), .ref (ad 49), .ref (ad 50)]) (h39 : ev 39 = eI G 32 (ns K)) (h40 : ev 40 = eI G 16 (ns X)) (h41 : ev 41 = eI G 16 f) (h42 : ev 42 = eI G 16 g) : wM l y_Md_mixKey w_Md_mixKey ({ frames := 9, cells := 0, slots := 0, locals := 300 }) G A 52 ad ev [.ref (ad 37)] (fun ov ev' => ov = none ∧ ev' = va_up (va_up (va_up ev 41 (eI G 16 (LAY K X))) 42 (eI G 16 (RND K X))) 39 (eI G 32 (ns (MIXB K X)))) := by
  refine wv_ofW (cc := c_Md_mixKey) (maxL := 2) (ret := none) (by decide) rfl (Nat.le_of_ble_eq_true rfl) ?_
  intro p e s m below meth c ls hx hb hr hml hts hown hlocks hini h hl
  have hl : lv_has ls 2 [(0, .ref (ad 37))] := hl
  refine lv_aload_n hx hb d_Md_mixKey_0 rfl (lv_at hl 0 rfl) ?_
  refine wv_V (As := []) (rest := []) (k := 0) ⟨hx, hb, hml, hown, hts⟩ h 37 (by decide) (C := "NonceBoxModel") h37 rfl (m_Md_stir l G A ad ev K X f g tl ol cd h37 h39 h40 h41 h42) kc_Md_stir kl_Md_89 km_Md_stir kv_Md_stir ki_Md (by decide +kernel) ⟨rfl, rfl, Nat.le_of_ble_eq_true rfl, Nat.le_of_ble_eq_true rfl⟩ hl.1 rfl rfl (Nat.le_of_ble_eq_true rfl) ⟨Nat.le_refl _, Nat.le_refl _⟩ d_Md_mixKey_1 ?_
  intro ov ev1 H locs hp h
  rw [hp.1]
  refine W.eq (g2 := F0 m 4 ls []) rfl ?_
  have o1 : ev1 = (va_up (va_up ev 41 (eI G 16 (LAY K X))) 42 (eI G 16 (RND K X))) := hp.2
  have t1_41 : ev1 41 = eI G 16 (LAY K X) := by rw [o1, va_up_ne _ _ (by decide), va_up_self]
  have t1_42 : ev1 42 = eI G 16 (RND K X) := by rw [o1, va_up_self]
  have t1_39 := (show ev1 39 = ev 39 by rw [o1, va_up_ne _ _ (by decide), va_up_ne _ _ (by decide)]).trans h39
  have t1_37 := (show ev1 37 = ev 37 by rw [o1, va_up_ne _ _ (by decide), va_up_ne _ _ (by decide)]).trans h37
  refine lv_iconst (v := nI (0)) hx hb d_Md_mixKey_4 (by decide) ?_
  refine lv_istore_n (lv' := [(1, .int (nI (0))), (0, .ref (ad 37))]) hx hb d_Md_mixKey_5 rfl hl (by decide) rfl (fun ls hl => ?_)
  have loop2 : ∀ (d k : Nat), k + d = 4 →  ∀ (ev2 : Nat → va_E) (H : Heap) (locs : List Loc) (ls : Array Slot), ev2 = (va_up ev1 39 (eI G 32 (ns (mixP K X K k)))) → wT G A 52 ad ev2 s H locs → lv_has ls 2 [(1, .int (nI (k))), (0, .ref (ad 37))] → W p l e ({ frames := 9, cells := 0, slots := 0, locals := 300 }) s m ([.ref (ad 37)] : List Value).toArray below meth c H locs 0 0 (MQ below (wQc G A 52 ad (fun ov ev' => ov = none ∧ ev' = va_up (va_up (va_up ev 41 (eI G 16 (LAY K X))) 42 (eI G 16 (RND K X))) 39 (eI G 32 (ns (MIXB K X))))) ([.ref (ad 37)] : List Value).toArray s 0 0 A) (F0 m 6 ls []) := by
    intro d
    induction d with
    | zero =>
      intro k hk_k  ev2 H locs ls  o2 h hl
      have t2_39 : ev2 39 = eI G 32 (ns (mixP K X K k)) := by rw [o2, va_up_self]
      have t2_41 := (show ev2 41 = ev1 41 by rw [o2, va_up_ne _ _ (by decide)]).trans t1_41
      have t2_42 := (show ev2 42 = ev1 42 by rw [o2, va_up_ne _ _ (by decide)]).trans t1_42
      have t2_37 := (show ev2 37 = ev1 37 by rw [o2, va_up_ne _ _ (by decide)]).trans t1_37
      refine lv_iload_n hx hb d_Md_mixKey_6 rfl (lv_at hl 0 rfl) ?_
      refine lv_iconst (v := nI (4)) hx hb d_Md_mixKey_7 (by decide) ?_
      refine lv_icmp_ge (tgt := 57) hx hb d_Md_mixKey_8 (by decide) (fun _ => ?_) (fun hc => absurd ((nI_leI (by omega) (by omega)).mpr (by omega)) hc)
      have h := wT_eqI (g := (ns (MIXB K X))) h 39 (by decide) t2_39 (fun j hj => by unfold ns; rw [show k = 4 by omega, mixP_4]; unfold fil; rw [if_pos (by omega), Nat.sub_zero])
      obtain ⟨ev3, o3⟩ : ∃ z, z = va_up ev2 39 (eI G 32 (ns (MIXB K X))) := ⟨_, rfl⟩
      rw [← o3] at h
      have t3_39 : ev3 39 = eI G 32 (ns (MIXB K X)) := by rw [o3, va_up_self]
      have t3_41 := (show ev3 41 = ev2 41 by rw [o3, va_up_ne _ _ (by decide)]).trans t2_41
      have t3_42 := (show ev3 42 = ev2 42 by rw [o3, va_up_ne _ _ (by decide)]).trans t2_42
      have t3_37 := (show ev3 37 = ev2 37 by rw [o3, va_up_ne _ _ (by decide)]).trans t2_37
      refine wv_vret hx hb hr hlocks h d_Md_mixKey_57 ⟨rfl, ?_⟩
      rw [o3, o2, o1, va_up2]
    | succ d ih =>
      intro k hk_k  ev2 H locs ls  o2 h hl
      have t2_39 : ev2 39 = eI G 32 (ns (mixP K X K k)) := by rw [o2, va_up_self]
      have t2_41 := (show ev2 41 = ev1 41 by rw [o2, va_up_ne _ _ (by decide)]).trans t1_41
      have t2_42 := (show ev2 42 = ev1 42 by rw [o2, va_up_ne _ _ (by decide)]).trans t1_42
      have t2_37 := (show ev2 37 = ev1 37 by rw [o2, va_up_ne _ _ (by decide)]).trans t1_37
      refine lv_iload_n hx hb d_Md_mixKey_6 rfl (lv_at hl 0 rfl) ?_
      refine lv_iconst (v := nI (4)) hx hb d_Md_mixKey_7 (by decide) ?_
      refine lv_icmp_ge (tgt := 57) hx hb d_Md_mixKey_8 (by decide) (fun hc => absurd ((nI_leI (by omega) (by omega)).mp hc) (by omega)) (fun _ => ?_)
      refine lv_aload_n hx hb d_Md_mixKey_11 rfl (lv_at hl 1 rfl) ?_
      refine wv_getf hx hb h 37 (by decide) (fs := [.ref (ad 38), .int (nI (tl)), .int (nI (ol)), .int (nI (cd)), .ref (ad 39), .ref (ad 40), .ref (ad 41), .ref (ad 42), .ref (ad 43), .ref (ad 44), .ref (ad 45), .ref (ad 46), .ref (ad 47), .ref (ad 48), .ref (ad 49), .ref (ad 50)]) t2_37 hts (fun w hw => List.mem_cons_of_mem _ (fW_Md w hw)) hown (ci := 5) (C := "NonceBoxModel") (T := fT_Md) (N := 16) rfl 4 (by decide) (hts _ (List.mem_cons_of_mem _ kf_Md_13)) rfl (v := .ref (ad 39)) rfl d_Md_mixKey_12 ?_
      refine lv_iconst (v := nI (4)) hx hb d_Md_mixKey_15 (by decide) ?_
      refine lv_iload_n hx hb d_Md_mixKey_16 rfl (lv_at hl 0 rfl) ?_
      refine lv_imul hx hb d_Md_mixKey_17 ?_
      refine wv_top (w := nI (4 * k)) (pk_mul _ _) ?_
      refine lv_aload_n hx hb d_Md_mixKey_18 rfl (lv_at hl 1 rfl) ?_
      refine wv_getf hx hb h 37 (by decide) (fs := [.ref (ad 38), .int (nI (tl)), .int (nI (ol)), .int (nI (cd)), .ref (ad 39), .ref (ad 40), .ref (ad 41), .ref (ad 42), .ref (ad 43), .ref (ad 44), .ref (ad 45), .ref (ad 46), .ref (ad 47), .ref (ad 48), .ref (ad 49), .ref (ad 50)]) t2_37 hts (fun w hw => List.mem_cons_of_mem _ (fW_Md w hw)) hown (ci := 5) (C := "NonceBoxModel") (T := fT_Md) (N := 16) rfl 7 (by decide) (hts _ (List.mem_cons_of_mem _ kf_Md_22)) rfl (v := .ref (ad 42)) rfl d_Md_mixKey_19 ?_
      refine lv_iconst (v := nI (5)) hx hb d_Md_mixKey_22 (by decide) ?_
      refine lv_iload_n hx hb d_Md_mixKey_23 rfl (lv_at hl 0 rfl) ?_
      refine lv_imul hx hb d_Md_mixKey_24 ?_
      refine wv_top (w := nI (5 * k)) (pk_mul _ _) ?_
      refine wv_iald hx hb h 42 (by decide) (f := (RND K X)) t2_42 (k := 5 * k) rfl (by omega) (by decide) d_Md_mixKey_25 ?_
      refine wv_Sx (As := [.ref (ad 39), .int (nI (4 * k)), .int (((RND K X)) (5 * k))]) (rest := []) (k := 3) ⟨hx, hb, hml, hown, hts⟩ h (m_Md_setWord l G A ad ev2 (RND K X (5 * k)) 39 32 (4 * k) (mixP K X K k) (by decide) t2_39 (by omega) (by decide)) kc_Md_setWord kl_Md_92 ks_Md_setWord ki_Md (by decide +kernel) ⟨rfl, rfl, Nat.le_of_ble_eq_true rfl, Nat.le_of_ble_eq_true rfl⟩ hl.1 rfl rfl (Nat.le_of_ble_eq_true rfl) ⟨Nat.le_refl _, Nat.le_refl _⟩ d_Md_mixKey_26 ?_
      intro ov ev3 H locs hp h
      rw [hp.1]
      refine W.eq (g2 := F0 m 29 ls []) rfl ?_
      have o3 : ev3 = (va_up ev2 39 (eI G 32 (ns (fil (4 * k) 4 (byN (RND K X (5 * k))) (mixP K X K k))))) := hp.2
      have t3_39 : ev3 39 = eI G 32 (ns (fil (4 * k) 4 (byN (RND K X (5 * k))) (mixP K X K k))) := by rw [o3, va_up_self]
      have t3_41 := (show ev3 41 = ev2 41 by rw [o3, va_up_ne _ _ (by decide)]).trans t2_41
      have t3_42 := (show ev3 42 = ev2 42 by rw [o3, va_up_ne _ _ (by decide)]).trans t2_42
      have t3_37 := (show ev3 37 = ev2 37 by rw [o3, va_up_ne _ _ (by decide)]).trans t2_37
      refine lv_aload_n hx hb d_Md_mixKey_29 rfl (lv_at hl 1 rfl) ?_
      refine wv_getf hx hb h 37 (by decide) (fs := [.ref (ad 38), .int (nI (tl)), .int (nI (ol)), .int (nI (cd)), .ref (ad 39), .ref (ad 40), .ref (ad 41), .ref (ad 42), .ref (ad 43), .ref (ad 44), .ref (ad 45), .ref (ad 46), .ref (ad 47), .ref (ad 48), .ref (ad 49), .ref (ad 50)]) t3_37 hts (fun w hw => List.mem_cons_of_mem _ (fW_Md w hw)) hown (ci := 5) (C := "NonceBoxModel") (T := fT_Md) (N := 16) rfl 4 (by decide) (hts _ (List.mem_cons_of_mem _ kf_Md_13)) rfl (v := .ref (ad 39)) rfl d_Md_mixKey_30 ?_
      refine lv_bipush (v := nI (16)) hx hb d_Md_mixKey_33 (by decide) ?_
      refine lv_iconst (v := nI (4)) hx hb d_Md_mixKey_35 (by decide) ?_
      refine lv_iload_n hx hb d_Md_mixKey_36 rfl (lv_at hl 0 rfl) ?_
      refine lv_imul hx hb d_Md_mixKey_37 ?_
      refine wv_top (w := nI (4 * k)) (pk_mul _ _) ?_
      refine lv_iadd hx hb d_Md_mixKey_38 ?_
      refine wv_top (w := nI (16 + (4 * k))) (nI_add _ _) ?_
      refine lv_aload_n hx hb d_Md_mixKey_39 rfl (lv_at hl 1 rfl) ?_
      refine wv_getf hx hb h 37 (by decide) (fs := [.ref (ad 38), .int (nI (tl)), .int (nI (ol)), .int (nI (cd)), .ref (ad 39), .ref (ad 40), .ref (ad 41), .ref (ad 42), .ref (ad 43), .ref (ad 44), .ref (ad 45), .ref (ad 46), .ref (ad 47), .ref (ad 48), .ref (ad 49), .ref (ad 50)]) t3_37 hts (fun w hw => List.mem_cons_of_mem _ (fW_Md w hw)) hown (ci := 5) (C := "NonceBoxModel") (T := fT_Md) (N := 16) rfl 7 (by decide) (hts _ (List.mem_cons_of_mem _ kf_Md_22)) rfl (v := .ref (ad 42)) rfl d_Md_mixKey_40 ?_
      refine lv_bipush (v := nI (6)) hx hb d_Md_mixKey_43 (by decide) ?_
      refine lv_iload_n hx hb d_Md_mixKey_45 rfl (lv_at hl 0 rfl) ?_
      refine lv_iadd hx hb d_Md_mixKey_46 ?_
      refine wv_top (w := nI (6 + k)) (nI_add _ _) ?_
      refine wv_iald hx hb h 42 (by decide) (f := (RND K X)) t3_42 (k := 6 + k) rfl (by omega) (by decide) d_Md_mixKey_47 ?_
      refine wv_Sx (As := [.ref (ad 39), .int (nI (16 + (4 * k))), .int (((RND K X)) (6 + k))]) (rest := []) (k := 3) ⟨hx, hb, hml, hown, hts⟩ h (m_Md_setWord l G A ad ev3 (RND K X (6 + k)) 39 32 (16 + 4 * k) (fil (4 * k) 4 (byN (RND K X (5 * k))) (mixP K X K k)) (by decide) t3_39 (by omega) (by decide)) kc_Md_setWord kl_Md_92 ks_Md_setWord ki_Md (by decide +kernel) ⟨rfl, rfl, Nat.le_of_ble_eq_true rfl, Nat.le_of_ble_eq_true rfl⟩ hl.1 rfl rfl (Nat.le_of_ble_eq_true rfl) ⟨Nat.le_refl _, Nat.le_refl _⟩ d_Md_mixKey_48 ?_
      intro ov ev4 H locs hp h
      rw [hp.1]
      refine W.eq (g2 := F0 m 51 ls []) rfl ?_
      have o4 : ev4 = (va_up ev3 39 (eI G 32 (ns (fil (16 + 4 * k) 4 (byN (RND K X (6 + k))) (fil (4 * k) 4 (byN (RND K X (5 * k))) (mixP K X K k)))))) := hp.2
      have t4_39 : ev4 39 = eI G 32 (ns (fil (16 + 4 * k) 4 (byN (RND K X (6 + k))) (fil (4 * k) 4 (byN (RND K X (5 * k))) (mixP K X K k)))) := by rw [o4, va_up_self]
      have t4_41 := (show ev4 41 = ev3 41 by rw [o4, va_up_ne _ _ (by decide)]).trans t3_41
      have t4_42 := (show ev4 42 = ev3 42 by rw [o4, va_up_ne _ _ (by decide)]).trans t3_42
      have t4_37 := (show ev4 37 = ev3 37 by rw [o4, va_up_ne _ _ (by decide)]).trans t3_37
      refine lv_iinc (v := nI (k + 1)) (lv' := [(1, .int (nI (k + 1))), (0, .ref (ad 37))]) hx hb d_Md_mixKey_51 hl (k := 0) rfl (nI_add _ _) (by decide) rfl (fun ls hl => ?_)
      refine lv_goto (tgt := 6) hx hb d_Md_mixKey_54 (by decide) ?_
      refine ih (k + 1) (by omega) ev4 H locs ls ?_ h (lv_sub hl [0, 1] rfl)
      rw [o4, o3, o2, va_up2, va_up2, mixP_s K X K (by omega)]
  exact loop2 4 0 rfl ev1 H locs ls (by rw [mixP_0, va_upi _ _ t1_39]) h (lv_sub hl [0, 1] rfl)
theorem d_Md_takeKey_0 : decode c_Md_takeKey 0 = .ok (.iconst 0, 1) := by decide +kernel
theorem d_Md_takeKey_1 : decode c_Md_takeKey 1 = .ok (.istore_n 1, 1) := by decide +kernel
theorem d_Md_takeKey_2 : decode c_Md_takeKey 2 = .ok (.iload_n 1, 1) := by decide +kernel
theorem d_Md_takeKey_3 : decode c_Md_takeKey 3 = .ok (.bipush 32, 2) := by decide +kernel
theorem d_Md_takeKey_5 : decode c_Md_takeKey 5 = .ok (.if_icmp .ge 23, 3) := by decide +kernel
theorem d_Md_takeKey_8 : decode c_Md_takeKey 8 = .ok (.aload_n 0, 1) := by decide +kernel
theorem d_Md_takeKey_9 : decode c_Md_takeKey 9 = .ok (.getfield 13, 3) := by decide +kernel
theorem d_Md_takeKey_12 : decode c_Md_takeKey 12 = .ok (.iload_n 1, 1) := by decide +kernel
theorem d_Md_takeKey_13 : decode c_Md_takeKey 13 = .ok (.aload_n 0, 1) := by decide +kernel
theorem d_Md_takeKey_14 : decode c_Md_takeKey 14 = .ok (.getfield 7, 3) := by decide +kernel
theorem d_Md_takeKey_17 : decode c_Md_takeKey 17 = .ok (.iconst 0, 1) := by decide +kernel
theorem d_Md_takeKey_18 : decode c_Md_takeKey 18 = .ok (.iload_n 1, 1) := by decide +kernel
theorem d_Md_takeKey_19 : decode c_Md_takeKey 19 = .ok (.iadd, 1) := by decide +kernel
theorem d_Md_takeKey_20 : decode c_Md_takeKey 20 = .ok (.iaload, 1) := by decide +kernel
theorem d_Md_takeKey_21 : decode c_Md_takeKey 21 = .ok (.iastore, 1) := by decide +kernel
theorem d_Md_takeKey_22 : decode c_Md_takeKey 22 = .ok (.iinc 1 1, 3) := by decide +kernel
theorem d_Md_takeKey_25 : decode c_Md_takeKey 25 = .ok (.goto (-23), 3) := by decide +kernel
theorem d_Md_takeKey_28 : decode c_Md_takeKey 28 = .ok (.return_, 1) := by decide +kernel
set_option maxRecDepth 100000 in
set_option maxHeartbeats 4000000 in
/-- the key from KEY -/
theorem m_Md_takeKey (l : Launch) (G : wG) (A : Nat → Prop) (ad : Nat → Nat) (ev : Nat → va_E) (F K Z : Nat → Nat) (tl ol cd : Nat) (h37 : ev 37 = eO 5 [.ref (ad 38), .int (nI tl), .int (nI ol), .int (nI cd), .ref (ad 39), .ref (ad 40), .ref (ad 41), .ref (ad 42), .ref (ad 43), .ref (ad 44), .ref (ad 45), .ref (ad 46), .ref (ad 47), .ref (ad 48), .ref (ad 49), .ref (ad 50)]) (h38 : ev 38 = eI G 312 (ns F)) (h39 : ev 39 = eI G 32 (ns Z)) (hF : ∀ j, j < 32 → F j = K j) : wM l y_Md_takeKey w_Md_takeKey ({ frames := 0, cells := 0, slots := 0, locals := 0 }) G A 52 ad ev [.ref (ad 37)] (fun ov ev' => ov = none ∧ ev' = va_up ev 39 (eI G 32 (ns K))) := by
  refine wv_ofW (cc := c_Md_takeKey) (maxL := 2) (ret := none) (by decide) rfl (Nat.le_of_ble_eq_true rfl) ?_
  intro p e s m below meth c ls hx hb hr hml hts hown hlocks hini h hl
  have hl : lv_has ls 2 [(0, .ref (ad 37))] := hl
  refine lv_iconst (v := nI (0)) hx hb d_Md_takeKey_0 (by decide) ?_
  refine lv_istore_n (lv' := [(1, .int (nI (0))), (0, .ref (ad 37))]) hx hb d_Md_takeKey_1 rfl hl (by decide) rfl (fun ls hl => ?_)
  have loop1 : ∀ (d k : Nat), k + d = 32 →  ∀ (ev1 : Nat → va_E) (H : Heap) (locs : List Loc) (ls : Array Slot), ev1 = (va_up ev 39 (eI G 32 (ns (fil 0 k F Z)))) → wT G A 52 ad ev1 s H locs → lv_has ls 2 [(1, .int (nI (k))), (0, .ref (ad 37))] → W p l e ({ frames := 0, cells := 0, slots := 0, locals := 0 }) s m ([.ref (ad 37)] : List Value).toArray below meth c H locs 0 0 (MQ below (wQc G A 52 ad (fun ov ev' => ov = none ∧ ev' = va_up ev 39 (eI G 32 (ns K)))) ([.ref (ad 37)] : List Value).toArray s 0 0 A) (F0 m 2 ls []) := by
    intro d
    induction d with
    | zero =>
      intro k hk_k  ev1 H locs ls  o1 h hl
      have t1_39 : ev1 39 = eI G 32 (ns (fil 0 k F Z)) := by rw [o1, va_up_self]
      have t1_38 := (show ev1 38 = ev 38 by rw [o1, va_up_ne _ _ (by decide)]).trans h38
      have t1_37 := (show ev1 37 = ev 37 by rw [o1, va_up_ne _ _ (by decide)]).trans h37
      refine lv_iload_n hx hb d_Md_takeKey_2 rfl (lv_at hl 0 rfl) ?_
      refine lv_bipush (v := nI (32)) hx hb d_Md_takeKey_3 (by decide) ?_
      refine lv_icmp_ge (tgt := 28) hx hb d_Md_takeKey_5 (by decide) (fun _ => ?_) (fun hc => absurd ((nI_leI (by omega) (by omega)).mpr (by omega)) hc)
      have h := wT_eqI (g := (ns K)) h 39 (by decide) t1_39 (fun j hj => by unfold ns fil; rw [if_pos (by omega), Nat.sub_zero, hF j hj])
      obtain ⟨ev2, o2⟩ : ∃ z, z = va_up ev1 39 (eI G 32 (ns K)) := ⟨_, rfl⟩
      rw [← o2] at h
      have t2_39 : ev2 39 = eI G 32 (ns K) := by rw [o2, va_up_self]
      have t2_38 := (show ev2 38 = ev1 38 by rw [o2, va_up_ne _ _ (by decide)]).trans t1_38
      have t2_37 := (show ev2 37 = ev1 37 by rw [o2, va_up_ne _ _ (by decide)]).trans t1_37
      refine wv_vret hx hb hr hlocks h d_Md_takeKey_28 ⟨rfl, ?_⟩
      rw [o2, o1, va_up2]
    | succ d ih =>
      intro k hk_k  ev1 H locs ls  o1 h hl
      have t1_39 : ev1 39 = eI G 32 (ns (fil 0 k F Z)) := by rw [o1, va_up_self]
      have t1_38 := (show ev1 38 = ev 38 by rw [o1, va_up_ne _ _ (by decide)]).trans h38
      have t1_37 := (show ev1 37 = ev 37 by rw [o1, va_up_ne _ _ (by decide)]).trans h37
      refine lv_iload_n hx hb d_Md_takeKey_2 rfl (lv_at hl 0 rfl) ?_
      refine lv_bipush (v := nI (32)) hx hb d_Md_takeKey_3 (by decide) ?_
      refine lv_icmp_ge (tgt := 28) hx hb d_Md_takeKey_5 (by decide) (fun hc => absurd ((nI_leI (by omega) (by omega)).mp hc) (by omega)) (fun _ => ?_)
      refine lv_aload_n hx hb d_Md_takeKey_8 rfl (lv_at hl 1 rfl) ?_
      refine wv_getf hx hb h 37 (by decide) (fs := [.ref (ad 38), .int (nI (tl)), .int (nI (ol)), .int (nI (cd)), .ref (ad 39), .ref (ad 40), .ref (ad 41), .ref (ad 42), .ref (ad 43), .ref (ad 44), .ref (ad 45), .ref (ad 46), .ref (ad 47), .ref (ad 48), .ref (ad 49), .ref (ad 50)]) t1_37 hts (fun w hw => List.mem_cons_of_mem _ (fW_Md w hw)) hown (ci := 5) (C := "NonceBoxModel") (T := fT_Md) (N := 16) rfl 4 (by decide) (hts _ (List.mem_cons_of_mem _ kf_Md_13)) rfl (v := .ref (ad 39)) rfl d_Md_takeKey_9 ?_
      refine lv_iload_n hx hb d_Md_takeKey_12 rfl (lv_at hl 0 rfl) ?_
      refine lv_aload_n hx hb d_Md_takeKey_13 rfl (lv_at hl 1 rfl) ?_
      refine wv_getf hx hb h 37 (by decide) (fs := [.ref (ad 38), .int (nI (tl)), .int (nI (ol)), .int (nI (cd)), .ref (ad 39), .ref (ad 40), .ref (ad 41), .ref (ad 42), .ref (ad 43), .ref (ad 44), .ref (ad 45), .ref (ad 46), .ref (ad 47), .ref (ad 48), .ref (ad 49), .ref (ad 50)]) t1_37 hts (fun w hw => List.mem_cons_of_mem _ (fW_Md w hw)) hown (ci := 5) (C := "NonceBoxModel") (T := fT_Md) (N := 16) rfl 0 (by decide) (hts _ (List.mem_cons_of_mem _ kf_Md_7)) rfl (v := .ref (ad 38)) rfl d_Md_takeKey_14 ?_
      refine lv_iconst (v := nI (0)) hx hb d_Md_takeKey_17 (by decide) ?_
      refine lv_iload_n hx hb d_Md_takeKey_18 rfl (lv_at hl 0 rfl) ?_
      refine lv_iadd hx hb d_Md_takeKey_19 ?_
      refine wv_top (w := nI (0 + k)) (nI_add _ _) ?_
      refine wv_iald hx hb h 38 (by decide) (f := (ns F)) t1_38 (k := 0 + k) rfl (by omega) (by decide) d_Md_takeKey_20 ?_
      refine wv_iast hx hb h 39 (by decide) (f := (ns (fil 0 k F Z))) t1_39 (k := k) rfl (by omega) (by decide) d_Md_takeKey_21 (fun H locs h => ?_)
      obtain ⟨ev2, o2⟩ : ∃ z, z = va_up ev1 39 (eI G 32 (va_up ((ns (fil 0 k F Z))) k (((ns F)) (0 + k)))) := ⟨_, rfl⟩
      rw [← o2] at h
      have t2_39 : ev2 39 = eI G 32 (va_up ((ns (fil 0 k F Z))) k (((ns F)) (0 + k))) := by rw [o2, va_up_self]
      have t2_38 := (show ev2 38 = ev1 38 by rw [o2, va_up_ne _ _ (by decide)]).trans t1_38
      have t2_37 := (show ev2 37 = ev1 37 by rw [o2, va_up_ne _ _ (by decide)]).trans t1_37
      rw [ns_up _ _ (F (0 + k)) (x := ns F (0 + k)) rfl] at o2
      refine lv_iinc (v := nI (k + 1)) (lv' := [(1, .int (nI (k + 1))), (0, .ref (ad 37))]) hx hb d_Md_takeKey_22 hl (k := 0) rfl (nI_add _ _) (by decide) rfl (fun ls hl => ?_)
      refine lv_goto (tgt := 2) hx hb d_Md_takeKey_25 (by decide) ?_
      refine ih (k + 1) (by omega) ev2 H locs ls ?_ h (lv_sub hl [0, 1] rfl)
      rw [o2, o1, va_up2, ← fil_s 0 k F Z (show F (0 + k) = F k by rw [Nat.zero_add]), Nat.zero_add]
  exact loop1 32 0 rfl ev s.heap [] ls (by rw [fil_0, va_upi _ _ h39]) h (lv_sub hl [0, 1] rfl)
theorem d_Md_beginOut_0 : decode c_Md_beginOut 0 = .ok (.iconst 0, 1) := by decide +kernel
theorem d_Md_beginOut_1 : decode c_Md_beginOut 1 = .ok (.istore_n 2, 1) := by decide +kernel
theorem d_Md_beginOut_2 : decode c_Md_beginOut 2 = .ok (.iload_n 2, 1) := by decide +kernel
theorem d_Md_beginOut_3 : decode c_Md_beginOut 3 = .ok (.bipush 112, 2) := by decide +kernel
theorem d_Md_beginOut_5 : decode c_Md_beginOut 5 = .ok (.if_icmp .ge 20, 3) := by decide +kernel
theorem d_Md_beginOut_8 : decode c_Md_beginOut 8 = .ok (.aload_n 0, 1) := by decide +kernel
theorem d_Md_beginOut_9 : decode c_Md_beginOut 9 = .ok (.getfield 7, 3) := by decide +kernel
theorem d_Md_beginOut_12 : decode c_Md_beginOut 12 = .ok (.sipush 200, 3) := by decide +kernel
theorem d_Md_beginOut_15 : decode c_Md_beginOut 15 = .ok (.iload_n 2, 1) := by decide +kernel
theorem d_Md_beginOut_16 : decode c_Md_beginOut 16 = .ok (.iadd, 1) := by decide +kernel
theorem d_Md_beginOut_17 : decode c_Md_beginOut 17 = .ok (.iconst 0, 1) := by decide +kernel
theorem d_Md_beginOut_18 : decode c_Md_beginOut 18 = .ok (.iastore, 1) := by decide +kernel
theorem d_Md_beginOut_19 : decode c_Md_beginOut 19 = .ok (.iinc 2 1, 3) := by decide +kernel
theorem d_Md_beginOut_22 : decode c_Md_beginOut 22 = .ok (.goto (-20), 3) := by decide +kernel
theorem d_Md_beginOut_25 : decode c_Md_beginOut 25 = .ok (.aload_n 0, 1) := by decide +kernel
theorem d_Md_beginOut_26 : decode c_Md_beginOut 26 = .ok (.iload_n 1, 1) := by decide +kernel
theorem d_Md_beginOut_27 : decode c_Md_beginOut 27 = .ok (.putfield 70, 3) := by decide +kernel
theorem d_Md_beginOut_30 : decode c_Md_beginOut 30 = .ok (.return_, 1) := by decide +kernel
set_option maxRecDepth 100000 in
set_option maxHeartbeats 4000000 in
/-- OUT is empty -/
theorem m_Md_beginOut (l : Launch) (G : wG) (A : Nat → Prop) (ad : Nat → Nat) (ev : Nat → va_E) (n : Nat) (F : Nat → Nat) (tl ol cd : Nat) (h37 : ev 37 = eO 5 [.ref (ad 38), .int (nI tl), .int (nI ol), .int (nI cd), .ref (ad 39), .ref (ad 40), .ref (ad 41), .ref (ad 42), .ref (ad 43), .ref (ad 44), .ref (ad 45), .ref (ad 46), .ref (ad 47), .ref (ad 48), .ref (ad 49), .ref (ad 50)]) (h38 : ev 38 = eI G 312 (ns F)) : wM l y_Md_beginOut w_Md_beginOut ({ frames := 0, cells := 0, slots := 0, locals := 0 }) G A 52 ad ev [.ref (ad 37), .int (nI (n))] (fun ov ev' => ov = none ∧ ev' = va_up (va_up ev 38 (eI G 312 (ns (fil 200 112 (fun _ => 0) F)))) 37 (eO 5 [.ref (ad 38), .int (nI tl), .int (nI n), .int (nI cd), .ref (ad 39), .ref (ad 40), .ref (ad 41), .ref (ad 42), .ref (ad 43), .ref (ad 44), .ref (ad 45), .ref (ad 46), .ref (ad 47), .ref (ad 48), .ref (ad 49), .ref (ad 50)])) := by
  refine wv_ofW (cc := c_Md_beginOut) (maxL := 3) (ret := none) (by decide) rfl (Nat.le_of_ble_eq_true rfl) ?_
  intro p e s m below meth c ls hx hb hr hml hts hown hlocks hini h hl
  have hl : lv_has ls 3 [(0, .ref (ad 37)), (1, .int (nI (n)))] := hl
  refine lv_iconst (v := nI (0)) hx hb d_Md_beginOut_0 (by decide) ?_
  refine lv_istore_n (lv' := [(2, .int (nI (0))), (0, .ref (ad 37)), (1, .int (nI (n)))]) hx hb d_Md_beginOut_1 rfl hl (by decide) rfl (fun ls hl => ?_)
  have loop1 : ∀ (d k : Nat), k + d = 112 →  ∀ (ev1 : Nat → va_E) (H : Heap) (locs : List Loc) (ls : Array Slot), ev1 = (va_up ev 38 (eI G 312 (ns (fil 200 k (fun _ => 0) F)))) → wT G A 52 ad ev1 s H locs → lv_has ls 3 [(2, .int (nI (k))), (0, .ref (ad 37)), (1, .int (nI (n)))] → W p l e ({ frames := 0, cells := 0, slots := 0, locals := 0 }) s m ([.ref (ad 37), .int (nI (n))] : List Value).toArray below meth c H locs 0 0 (MQ below (wQc G A 52 ad (fun ov ev' => ov = none ∧ ev' = va_up (va_up ev 38 (eI G 312 (ns (fil 200 112 (fun _ => 0) F)))) 37 (eO 5 [.ref (ad 38), .int (nI tl), .int (nI n), .int (nI cd), .ref (ad 39), .ref (ad 40), .ref (ad 41), .ref (ad 42), .ref (ad 43), .ref (ad 44), .ref (ad 45), .ref (ad 46), .ref (ad 47), .ref (ad 48), .ref (ad 49), .ref (ad 50)]))) ([.ref (ad 37), .int (nI (n))] : List Value).toArray s 0 0 A) (F0 m 2 ls []) := by
    intro d
    induction d with
    | zero =>
      intro k hk_k  ev1 H locs ls  o1 h hl
      have t1_38 : ev1 38 = eI G 312 (ns (fil 200 k (fun _ => 0) F)) := by rw [o1, va_up_self]
      have t1_37 := (show ev1 37 = ev 37 by rw [o1, va_up_ne _ _ (by decide)]).trans h37
      refine lv_iload_n hx hb d_Md_beginOut_2 rfl (lv_at hl 0 rfl) ?_
      refine lv_bipush (v := nI (112)) hx hb d_Md_beginOut_3 (by decide) ?_
      refine lv_icmp_ge (tgt := 25) hx hb d_Md_beginOut_5 (by decide) (fun _ => ?_) (fun hc => absurd ((nI_leI (by omega) (by omega)).mpr (by omega)) hc)
      rw [show k = 112 by omega] at t1_38 o1
      refine lv_aload_n hx hb d_Md_beginOut_25 rfl (lv_at hl 1 rfl) ?_
      refine lv_iload_n hx hb d_Md_beginOut_26 rfl (lv_at hl 2 rfl) ?_
      refine wv_putf hx hb h 37 (by decide) (fs := [.ref (ad 38), .int (nI (tl)), .int (nI (ol)), .int (nI (cd)), .ref (ad 39), .ref (ad 40), .ref (ad 41), .ref (ad 42), .ref (ad 43), .ref (ad 44), .ref (ad 45), .ref (ad 46), .ref (ad 47), .ref (ad 48), .ref (ad 49), .ref (ad 50)]) t1_37 hts (fun w hw => List.mem_cons_of_mem _ (fW_Md w hw)) fY_Md fK_Md fN_Md hown (ci := 5) (C := "NonceBoxModel") (T := fT_Md) (N := 16) rfl 2 (by decide) (hts _ (List.mem_cons_of_mem _ kf_Md_70)) rfl rfl (v := .int (nI (n))) rfl rfl (Nat.le_of_ble_eq_true rfl) d_Md_beginOut_27 (fun H locs h => ?_)
      have h : wT G A 52 ad (va_up ev1 37 (eO 5 [.ref (ad 38), .int (nI (tl)), .int (nI (n)), .int (nI (cd)), .ref (ad 39), .ref (ad 40), .ref (ad 41), .ref (ad 42), .ref (ad 43), .ref (ad 44), .ref (ad 45), .ref (ad 46), .ref (ad 47), .ref (ad 48), .ref (ad 49), .ref (ad 50)])) s H locs := h
      obtain ⟨ev2, o2⟩ : ∃ z, z = va_up ev1 37 (eO 5 [.ref (ad 38), .int (nI (tl)), .int (nI (n)), .int (nI (cd)), .ref (ad 39), .ref (ad 40), .ref (ad 41), .ref (ad 42), .ref (ad 43), .ref (ad 44), .ref (ad 45), .ref (ad 46), .ref (ad 47), .ref (ad 48), .ref (ad 49), .ref (ad 50)]) := ⟨_, rfl⟩
      rw [← o2] at h
      have t2_37 : ev2 37 = eO 5 [.ref (ad 38), .int (nI (tl)), .int (nI (n)), .int (nI (cd)), .ref (ad 39), .ref (ad 40), .ref (ad 41), .ref (ad 42), .ref (ad 43), .ref (ad 44), .ref (ad 45), .ref (ad 46), .ref (ad 47), .ref (ad 48), .ref (ad 49), .ref (ad 50)] := by rw [o2, va_up_self]
      have t2_38 := (show ev2 38 = ev1 38 by rw [o2, va_up_ne _ _ (by decide)]).trans t1_38
      refine wv_vret hx hb hr hlocks h d_Md_beginOut_30 ⟨rfl, ?_⟩
      rw [o2, o1]
    | succ d ih =>
      intro k hk_k  ev1 H locs ls  o1 h hl
      have t1_38 : ev1 38 = eI G 312 (ns (fil 200 k (fun _ => 0) F)) := by rw [o1, va_up_self]
      have t1_37 := (show ev1 37 = ev 37 by rw [o1, va_up_ne _ _ (by decide)]).trans h37
      refine lv_iload_n hx hb d_Md_beginOut_2 rfl (lv_at hl 0 rfl) ?_
      refine lv_bipush (v := nI (112)) hx hb d_Md_beginOut_3 (by decide) ?_
      refine lv_icmp_ge (tgt := 25) hx hb d_Md_beginOut_5 (by decide) (fun hc => absurd ((nI_leI (by omega) (by omega)).mp hc) (by omega)) (fun _ => ?_)
      refine lv_aload_n hx hb d_Md_beginOut_8 rfl (lv_at hl 1 rfl) ?_
      refine wv_getf hx hb h 37 (by decide) (fs := [.ref (ad 38), .int (nI (tl)), .int (nI (ol)), .int (nI (cd)), .ref (ad 39), .ref (ad 40), .ref (ad 41), .ref (ad 42), .ref (ad 43), .ref (ad 44), .ref (ad 45), .ref (ad 46), .ref (ad 47), .ref (ad 48), .ref (ad 49), .ref (ad 50)]) t1_37 hts (fun w hw => List.mem_cons_of_mem _ (fW_Md w hw)) hown (ci := 5) (C := "NonceBoxModel") (T := fT_Md) (N := 16) rfl 0 (by decide) (hts _ (List.mem_cons_of_mem _ kf_Md_7)) rfl (v := .ref (ad 38)) rfl d_Md_beginOut_9 ?_
      refine lv_sipush (v := nI (200)) hx hb d_Md_beginOut_12 (by decide) ?_
      refine lv_iload_n hx hb d_Md_beginOut_15 rfl (lv_at hl 0 rfl) ?_
      refine lv_iadd hx hb d_Md_beginOut_16 ?_
      refine wv_top (w := nI (200 + k)) (nI_add _ _) ?_
      refine lv_iconst (v := nI (0)) hx hb d_Md_beginOut_17 (by decide) ?_
      refine wv_iast hx hb h 38 (by decide) (f := (ns (fil 200 k (fun _ => 0) F))) t1_38 (k := 200 + k) rfl (by omega) (by decide) d_Md_beginOut_18 (fun H locs h => ?_)
      obtain ⟨ev2, o2⟩ : ∃ z, z = va_up ev1 38 (eI G 312 (va_up ((ns (fil 200 k (fun _ => 0) F))) (200 + k) (nI (0)))) := ⟨_, rfl⟩
      rw [← o2] at h
      have t2_38 : ev2 38 = eI G 312 (va_up ((ns (fil 200 k (fun _ => 0) F))) (200 + k) (nI (0))) := by rw [o2, va_up_self]
      have t2_37 := (show ev2 37 = ev1 37 by rw [o2, va_up_ne _ _ (by decide)]).trans t1_37
      rw [ns_up _ _ 0 rfl, fil_s 200 k (fun _ => 0) F rfl] at o2
      refine lv_iinc (v := nI (k + 1)) (lv' := [(2, .int (nI (k + 1))), (0, .ref (ad 37)), (1, .int (nI (n)))]) hx hb d_Md_beginOut_19 hl (k := 0) rfl (nI_add _ _) (by decide) rfl (fun ls hl => ?_)
      refine lv_goto (tgt := 2) hx hb d_Md_beginOut_22 (by decide) ?_
      refine ih (k + 1) (by omega) ev2 H locs ls ?_ h (lv_sub hl [0, 1, 2] rfl)
      rw [o2, o1, va_up2]
  exact loop1 112 0 rfl ev s.heap [] ls (by rw [fil_0, va_upi _ _ h38]) h (lv_sub hl [0, 1, 2] rfl)
theorem out_eq (F B : Nat → Nat) {n : Nat} (hn : n ≤ 112) : fil 200 n B (fil 200 112 (fun _ => 0) F) = fil 200 112 (outF n B) F := by
  funext j
  unfold fil outF
  by_cases c : 200 ≤ j ∧ j < 200 + n
  · rw [if_pos c, if_pos (by omega), if_pos (by omega)]
  · rw [if_neg c]
    by_cases c2 : 200 ≤ j ∧ j < 200 + 112
    · rw [if_pos c2, if_pos c2, if_neg (by omega)]
    · rw [if_neg c2, if_neg c2]
theorem d_Md_outFrom_0 : decode c_Md_outFrom 0 = .ok (.aload_n 0, 1) := by decide +kernel
theorem d_Md_outFrom_1 : decode c_Md_outFrom 1 = .ok (.iload_n 2, 1) := by decide +kernel
theorem d_Md_outFrom_2 : decode c_Md_outFrom 2 = .ok (.invokevirtual 99, 3) := by decide +kernel
theorem d_Md_outFrom_5 : decode c_Md_outFrom 5 = .ok (.iconst 0, 1) := by decide +kernel
theorem d_Md_outFrom_6 : decode c_Md_outFrom 6 = .ok (.istore_n 3, 1) := by decide +kernel
theorem d_Md_outFrom_7 : decode c_Md_outFrom 7 = .ok (.iload_n 3, 1) := by decide +kernel
theorem d_Md_outFrom_8 : decode c_Md_outFrom 8 = .ok (.iload_n 2, 1) := by decide +kernel
theorem d_Md_outFrom_9 : decode c_Md_outFrom 9 = .ok (.if_icmp .ge 22, 3) := by decide +kernel
theorem d_Md_outFrom_12 : decode c_Md_outFrom 12 = .ok (.aload_n 0, 1) := by decide +kernel
theorem d_Md_outFrom_13 : decode c_Md_outFrom 13 = .ok (.getfield 7, 3) := by decide +kernel
theorem d_Md_outFrom_16 : decode c_Md_outFrom 16 = .ok (.sipush 200, 3) := by decide +kernel
theorem d_Md_outFrom_19 : decode c_Md_outFrom 19 = .ok (.iload_n 3, 1) := by decide +kernel
theorem d_Md_outFrom_20 : decode c_Md_outFrom 20 = .ok (.iadd, 1) := by decide +kernel
theorem d_Md_outFrom_21 : decode c_Md_outFrom 21 = .ok (.aload_n 1, 1) := by decide +kernel
theorem d_Md_outFrom_22 : decode c_Md_outFrom 22 = .ok (.iload_n 3, 1) := by decide +kernel
theorem d_Md_outFrom_23 : decode c_Md_outFrom 23 = .ok (.iaload, 1) := by decide +kernel
theorem d_Md_outFrom_24 : decode c_Md_outFrom 24 = .ok (.iastore, 1) := by decide +kernel
theorem d_Md_outFrom_25 : decode c_Md_outFrom 25 = .ok (.iinc 3 1, 3) := by decide +kernel
theorem d_Md_outFrom_28 : decode c_Md_outFrom 28 = .ok (.goto (-21), 3) := by decide +kernel
theorem d_Md_outFrom_31 : decode c_Md_outFrom 31 = .ok (.return_, 1) := by decide +kernel
set_option maxRecDepth 100000 in
set_option maxHeartbeats 4000000 in
/-- OUT from a row -/
theorem m_Md_outFrom (l : Launch) (G : wG) (A : Nat → Prop) (ad : Nat → Nat) (ev : Nat → va_E) (q M n : Nat) (F B : Nat → Nat) (tl ol cd : Nat) (h37 : ev 37 = eO 5 [.ref (ad 38), .int (nI tl), .int (nI ol), .int (nI cd), .ref (ad 39), .ref (ad 40), .ref (ad 41), .ref (ad 42), .ref (ad 43), .ref (ad 44), .ref (ad 45), .ref (ad 46), .ref (ad 47), .ref (ad 48), .ref (ad 49), .ref (ad 50)]) (hq : 38 < q ∧ q < 52) (h38 : ev 38 = eI G 312 (ns F)) (hev : ev q = eI G M (ns B)) (hn : n ≤ 112) (hnM : n ≤ M) (hM : M < 2 ^ 31) : wM l y_Md_outFrom w_Md_outFrom ({ frames := 3, cells := 0, slots := 0, locals := 100 }) G A 52 ad ev [.ref (ad 37), .ref (ad q), .int (nI (n))] (fun ov ev' => ov = none ∧ ev' = va_up (va_up ev 38 (eI G 312 (ns (fil 200 112 (outF n B) F)))) 37 (eO 5 [.ref (ad 38), .int (nI tl), .int (nI n), .int (nI cd), .ref (ad 39), .ref (ad 40), .ref (ad 41), .ref (ad 42), .ref (ad 43), .ref (ad 44), .ref (ad 45), .ref (ad 46), .ref (ad 47), .ref (ad 48), .ref (ad 49), .ref (ad 50)])) := by
  refine wv_ofW (cc := c_Md_outFrom) (maxL := 4) (ret := none) (by decide) rfl (Nat.le_of_ble_eq_true rfl) ?_
  intro p e s m below meth c ls hx hb hr hml hts hown hlocks hini h hl
  have hl : lv_has ls 4 [(0, .ref (ad 37)), (1, .ref (ad q)), (2, .int (nI (n)))] := hl
  refine lv_aload_n hx hb d_Md_outFrom_0 rfl (lv_at hl 0 rfl) ?_
  refine lv_iload_n hx hb d_Md_outFrom_1 rfl (lv_at hl 2 rfl) ?_
  refine wv_V (As := [.int (nI (n))]) (rest := []) (k := 1) ⟨hx, hb, hml, hown, hts⟩ h 37 (by decide) (C := "NonceBoxModel") h37 rfl (m_Md_beginOut l G A ad ev n F tl ol cd h37 h38) kc_Md_beginOut kl_Md_99 km_Md_beginOut kv_Md_beginOut ki_Md (by decide +kernel) ⟨rfl, rfl, Nat.le_of_ble_eq_true rfl, Nat.le_of_ble_eq_true rfl⟩ hl.1 rfl rfl (Nat.le_of_ble_eq_true rfl) ⟨Nat.le_refl _, Nat.le_refl _⟩ d_Md_outFrom_2 ?_
  intro ov ev1 H locs hp h
  rw [hp.1]
  refine W.eq (g2 := F0 m 5 ls []) rfl ?_
  have o1 := hp.2
  have t1_38 : ev1 38 = eI G 312 (ns (fil 200 112 (fun _ => 0) F)) := by rw [o1, va_up_ne _ _ (by decide), va_up_self]
  have t1_37 : ev1 37 = eO 5 [.ref (ad 38), .int (nI tl), .int (nI n), .int (nI cd), .ref (ad 39), .ref (ad 40), .ref (ad 41), .ref (ad 42), .ref (ad 43), .ref (ad 44), .ref (ad 45), .ref (ad 46), .ref (ad 47), .ref (ad 48), .ref (ad 49), .ref (ad 50)] := by rw [o1, va_up_self]
  have t1_q := (show ev1 q = ev q by rw [o1, va_up_ne _ _ (by omega), va_up_ne _ _ (by omega)]).trans hev
  refine lv_iconst (v := nI (0)) hx hb d_Md_outFrom_5 (by decide) ?_
  refine lv_istore_n (lv' := [(3, .int (nI (0))), (0, .ref (ad 37)), (1, .ref (ad q)), (2, .int (nI (n)))]) hx hb d_Md_outFrom_6 rfl hl (by decide) rfl (fun ls hl => ?_)
  have loop2 : ∀ (d k : Nat), k + d = n →  ∀ (ev2 : Nat → va_E) (H : Heap) (locs : List Loc) (ls : Array Slot), ev2 = (va_up ev1 38 (eI G 312 (ns (fil 200 k B (fil 200 112 (fun _ => 0) F))))) → wT G A 52 ad ev2 s H locs → lv_has ls 4 [(3, .int (nI (k))), (0, .ref (ad 37)), (1, .ref (ad q)), (2, .int (nI (n)))] → W p l e ({ frames := 3, cells := 0, slots := 0, locals := 100 }) s m ([.ref (ad 37), .ref (ad q), .int (nI (n))] : List Value).toArray below meth c H locs 0 0 (MQ below (wQc G A 52 ad (fun ov ev' => ov = none ∧ ev' = va_up (va_up ev 38 (eI G 312 (ns (fil 200 112 (outF n B) F)))) 37 (eO 5 [.ref (ad 38), .int (nI tl), .int (nI n), .int (nI cd), .ref (ad 39), .ref (ad 40), .ref (ad 41), .ref (ad 42), .ref (ad 43), .ref (ad 44), .ref (ad 45), .ref (ad 46), .ref (ad 47), .ref (ad 48), .ref (ad 49), .ref (ad 50)]))) ([.ref (ad 37), .ref (ad q), .int (nI (n))] : List Value).toArray s 0 0 A) (F0 m 7 ls []) := by
    intro d
    induction d with
    | zero =>
      intro k hk_k  ev2 H locs ls  o2 h hl
      have t2_38 : ev2 38 = eI G 312 (ns (fil 200 k B (fil 200 112 (fun _ => 0) F))) := by rw [o2, va_up_self]
      have t2_q := (show ev2 q = ev1 q by rw [o2, va_up_ne _ _ (by omega)]).trans t1_q
      have t2_37 := (show ev2 37 = ev1 37 by rw [o2, va_up_ne _ _ (by decide)]).trans t1_37
      refine lv_iload_n hx hb d_Md_outFrom_7 rfl (lv_at hl 0 rfl) ?_
      refine lv_iload_n hx hb d_Md_outFrom_8 rfl (lv_at hl 3 rfl) ?_
      refine lv_icmp_ge (tgt := 31) hx hb d_Md_outFrom_9 (by decide) (fun _ => ?_) (fun hc => absurd ((nI_leI (by omega) (by omega)).mpr (by omega)) hc)
      refine wv_vret hx hb hr hlocks h d_Md_outFrom_31 ⟨rfl, ?_⟩
      rw [o2, o1, show k = n by omega, out_eq F B hn]
      funext j
      by_cases c0 : j = 38
      · subst c0; simp [va_up]
      by_cases c1 : j = 37
      · subst c1; simp [va_up]
      simp only [va_up, c0, c1, if_false]
    | succ d ih =>
      intro k hk_k  ev2 H locs ls  o2 h hl
      have t2_38 : ev2 38 = eI G 312 (ns (fil 200 k B (fil 200 112 (fun _ => 0) F))) := by rw [o2, va_up_self]
      have t2_q := (show ev2 q = ev1 q by rw [o2, va_up_ne _ _ (by omega)]).trans t1_q
      have t2_37 := (show ev2 37 = ev1 37 by rw [o2, va_up_ne _ _ (by decide)]).trans t1_37
      refine lv_iload_n hx hb d_Md_outFrom_7 rfl (lv_at hl 0 rfl) ?_
      refine lv_iload_n hx hb d_Md_outFrom_8 rfl (lv_at hl 3 rfl) ?_
      refine lv_icmp_ge (tgt := 31) hx hb d_Md_outFrom_9 (by decide) (fun hc => absurd ((nI_leI (by omega) (by omega)).mp hc) (by omega)) (fun _ => ?_)
      refine lv_aload_n hx hb d_Md_outFrom_12 rfl (lv_at hl 1 rfl) ?_
      refine wv_getf hx hb h 37 (by decide) (fs := [.ref (ad 38), .int (nI (tl)), .int (nI (n)), .int (nI (cd)), .ref (ad 39), .ref (ad 40), .ref (ad 41), .ref (ad 42), .ref (ad 43), .ref (ad 44), .ref (ad 45), .ref (ad 46), .ref (ad 47), .ref (ad 48), .ref (ad 49), .ref (ad 50)]) t2_37 hts (fun w hw => List.mem_cons_of_mem _ (fW_Md w hw)) hown (ci := 5) (C := "NonceBoxModel") (T := fT_Md) (N := 16) rfl 0 (by decide) (hts _ (List.mem_cons_of_mem _ kf_Md_7)) rfl (v := .ref (ad 38)) rfl d_Md_outFrom_13 ?_
      refine lv_sipush (v := nI (200)) hx hb d_Md_outFrom_16 (by decide) ?_
      refine lv_iload_n hx hb d_Md_outFrom_19 rfl (lv_at hl 0 rfl) ?_
      refine lv_iadd hx hb d_Md_outFrom_20 ?_
      refine wv_top (w := nI (200 + k)) (nI_add _ _) ?_
      refine lv_aload_n hx hb d_Md_outFrom_21 rfl (lv_at hl 2 rfl) ?_
      refine lv_iload_n hx hb d_Md_outFrom_22 rfl (lv_at hl 0 rfl) ?_
      refine wv_iald hx hb h q hq.2 (f := (ns B)) t2_q (k := k) rfl (by omega) hM d_Md_outFrom_23 ?_
      refine wv_iast hx hb h 38 (by decide) (f := (ns (fil 200 k B (fil 200 112 (fun _ => 0) F)))) t2_38 (k := 200 + k) rfl (by omega) (by decide) d_Md_outFrom_24 (fun H locs h => ?_)
      obtain ⟨ev3, o3⟩ : ∃ z, z = va_up ev2 38 (eI G 312 (va_up ((ns (fil 200 k B (fil 200 112 (fun _ => 0) F)))) (200 + k) (((ns B)) k))) := ⟨_, rfl⟩
      rw [← o3] at h
      have t3_38 : ev3 38 = eI G 312 (va_up ((ns (fil 200 k B (fil 200 112 (fun _ => 0) F)))) (200 + k) (((ns B)) k)) := by rw [o3, va_up_self]
      have t3_q := (show ev3 q = ev2 q by rw [o3, va_up_ne _ _ (by omega)]).trans t2_q
      have t3_37 := (show ev3 37 = ev2 37 by rw [o3, va_up_ne _ _ (by decide)]).trans t2_37
      rw [ns_up _ _ (B k) (x := ns B k) rfl, fil_s 200 k B _ rfl] at o3
      refine lv_iinc (v := nI (k + 1)) (lv' := [(3, .int (nI (k + 1))), (0, .ref (ad 37)), (1, .ref (ad q)), (2, .int (nI (n)))]) hx hb d_Md_outFrom_25 hl (k := 0) rfl (nI_add _ _) (by decide) rfl (fun ls hl => ?_)
      refine lv_goto (tgt := 7) hx hb d_Md_outFrom_28 (by decide) ?_
      refine ih (k + 1) (by omega) ev3 H locs ls ?_ h (lv_sub hl [0, 1, 2, 3] rfl)
      rw [o3, o2, va_up2]
  exact loop2 n 0 (by omega) ev1 H locs ls (by rw [fil_0, va_upi _ _ t1_38]) h (lv_sub hl [0, 1, 2, 3] rfl)
