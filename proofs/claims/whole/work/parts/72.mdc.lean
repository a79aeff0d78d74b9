/-! the reference's bytes and the five rows -/
def bgn (b : Nat) : Nat := if b = 0 then 0 else if b = 1 then 32 else if b = 2 then 56 else if b = 3 then 88 else 200
def FB (F : Nat → Nat) (Bf : Nat → Nat → Nat) : Prop := ∀ b, b < 5 → ∀ j, j < bsz b → F (bgn b + j) = Bf b j
theorem bgn_sep : ∀ b, b < 5 → ∀ c, c < 5 → b ≠ c → bgn b + bsz b ≤ bgn c ∨ bgn c + bsz c ≤ bgn b := by decide
theorem bgn_in : ∀ b, b < 5 → bgn b + bsz b ≤ 312 := by decide
theorem FB_fil {F X : Nat → Nat} {Bf : Nat → Nat → Nat} (h : FB F Bf) {b o n : Nat} (hb : b < 5) (hn : o + n ≤ bsz b) : FB (fil (bgn b + o) n X F) (va_up Bf b (fil o n X (Bf b))) := by
  intro c hc j hj
  by_cases e : c = b
  · subst e
    rw [va_up_self]
    unfold fil
    by_cases q : o ≤ j ∧ j < o + n
    · rw [if_pos (by omega), if_pos q, show bgn c + j - (bgn c + o) = j - o by omega]
    · rw [if_neg (by omega), if_neg q]
      exact h c hc j hj
  · rw [va_up_ne _ _ e]
    have := bgn_sep b hb c hc (Ne.symm e)
    rw [fil_out (by omega)]
    exact h c hc j hj
theorem FB_congr {F : Nat → Nat} {Bf Bg : Nat → Nat → Nat} (h : FB F Bf) (he : ∀ b, b < 5 → ∀ j, j < bsz b → Bf b j = Bg b j) : FB F Bg := fun b hb j hj => (h b hb j hj).trans (he b hb j hj)
theorem FB_out {F X : Nat → Nat} {Bf : Nat → Nat → Nat} (h : FB F Bf) : FB (fil 200 112 X F) (va_up Bf 4 X) :=
  FB_congr (FB_fil (X := X) h (b := 4) (o := 0) (n := 112) (by decide) (by decide)) (fun b hb j hj => by
    by_cases e : b = 4
    · subst e
      rw [va_up_self, va_up_self]
      have hj : j < 112 := hj
      unfold fil
      rw [if_pos (by omega), Nat.sub_zero]
    · rw [va_up_ne _ _ e, va_up_ne _ _ e])
def MD (G : wG) (ad : Nat → Nat) (ev : Nat → va_E) (Bf : Nat → Nat → Nat) (tl ol cd : Nat) : Prop :=
  (ev 37 = eO 5 [.ref (ad 38), .int (nI tl), .int (nI ol), .int (nI cd), .ref (ad 39), .ref (ad 40), .ref (ad 41), .ref (ad 42), .ref (ad 43), .ref (ad 44), .ref (ad 45), .ref (ad 46), .ref (ad 47), .ref (ad 48), .ref (ad 49), .ref (ad 50)]) ∧
  (∃ F : Nat → Nat, FB F Bf ∧ ev 38 = eI G 312 (ns F)) ∧
  (∃ B : Nat → Nat, ev 39 = eI G 32 (ns B)) ∧
  (∃ B : Nat → Nat, ev 40 = eI G 16 (ns B)) ∧
  (∃ f : Nat → Int32, ev 41 = eI G 16 f) ∧
  (∃ f : Nat → Int32, ev 42 = eI G 16 f) ∧
  (∃ B : Nat → Nat, ev 43 = eI G 128 (ns B)) ∧
  (∃ r : Row, ev 44 = eJ G 160 r) ∧
  (∃ r : Row, ev 45 = eJ G 20 r) ∧
  (∃ r : Row, ev 46 = eJ G 5 r) ∧
  (∃ r : Row, ev 47 = eJ G 5 r) ∧
  (∃ r : Row, ev 48 = eJ G 5 r) ∧
  (∃ B : Nat → Nat, ev 49 = eI G 16 (ns B)) ∧
  (∃ B : Nat → Nat, (∀ j, B j < 256) ∧ ev 50 = eI G 112 (ns B)) ∧
  (∀ b j, Bf b j < 256) ∧ tl ≤ 112 ∧ ol ≤ 112
theorem i64_rel (x : Int64) : x.toInt = (x.toBitVec.toNat : Int) ∨ x.toInt = (x.toBitVec.toNat : Int) - 18446744073709551616 := by
  have c := BitVec.toInt_eq_toNat_cond x.toBitVec
  show x.toBitVec.toInt = _ ∨ x.toBitVec.toInt = _
  rw [c]
  by_cases q : 2 * x.toBitVec.toNat < 2 ^ 64
  · rw [if_pos q]; exact Or.inl rfl
  · rw [if_neg q]; exact Or.inr rfl
theorem m255 (x : Int64) : (x &&& 255).toInt32 = nI (x.toBitVec.toNat % 256) := by
  obtain ⟨n, hn, rfl⟩ := wb_of x
  have h : lN n &&& 255 = lN (n % 256) := g_mask (s := 8) (p := 256) rfl (by decide) hn
  rw [h, lN_i, wb_tn hn]
theorem sh_by8 (x : Int64) {k : Nat} (hk : k < 8) : (sar x (8 * k) &&& 255).toInt32 = nI (by8 x k) := by
  rw [m255]
  unfold by8
  congr 1
  have h1 := sar_i x (k := 8 * k) (by omega)
  have r1 := i64_rel x
  have r2 := i64_rel (sar x (8 * k))
  rw [h1] at r2
  have hb := x.toBitVec.isLt
  have hb2 := (sar x (8 * k)).toBitVec.isLt
  generalize (sar x (8 * k)).toBitVec.toNat = b at r2 hb2 ⊢
  generalize x.toBitVec.toNat = a at r1 hb ⊢
  rcases (show k = 0 ∨ k = 1 ∨ k = 2 ∨ k = 3 ∨ k = 4 ∨ k = 5 ∨ k = 6 ∨ k = 7 by omega) with rfl | rfl | rfl | rfl | rfl | rfl | rfl | rfl
  · rw [show (2 : Int) ^ (8 * 0) = 1 from by decide] at r2; rw [show 2 ^ (8 * 0) = 1 from by decide]; omega
  · rw [show (2 : Int) ^ (8 * 1) = 256 from by decide] at r2; rw [show 2 ^ (8 * 1) = 256 from by decide]; omega
  · rw [show (2 : Int) ^ (8 * 2) = 65536 from by decide] at r2; rw [show 2 ^ (8 * 2) = 65536 from by decide]; omega
  · rw [show (2 : Int) ^ (8 * 3) = 16777216 from by decide] at r2; rw [show 2 ^ (8 * 3) = 16777216 from by decide]; omega
  · rw [show (2 : Int) ^ (8 * 4) = 4294967296 from by decide] at r2; rw [show 2 ^ (8 * 4) = 4294967296 from by decide]; omega
  · rw [show (2 : Int) ^ (8 * 5) = 1099511627776 from by decide] at r2; rw [show 2 ^ (8 * 5) = 1099511627776 from by decide]; omega
  · rw [show (2 : Int) ^ (8 * 6) = 281474976710656 from by decide] at r2; rw [show 2 ^ (8 * 6) = 281474976710656 from by decide]; omega
  · rw [show (2 : Int) ^ (8 * 7) = 72057594037927936 from by decide] at r2; rw [show 2 ^ (8 * 7) = 72057594037927936 from by decide]; omega
theorem wd_s {B : Nat → Nat} (hB : ∀ j, B j < 256) (o : Nat) {k : Nat} (hk : k < 8) : lN (wd8 B o k) ||| sal (nI (B (o + k))).toInt64 (8 * k) = lN (wd8 B o (k + 1)) := by
  have h1 := wd8_lt hB o k
  have h2 := hB (o + k)
  have h3 := wd8_lt hB o (k + 1)
  have h4 : 2 ^ (8 * (k + 1)) ≤ 2 ^ 64 := Nat.pow_le_pow_right (by decide) (by omega)
  unfold sal
  rw [nI_l (by omega), wb_shl _ (by omega)]
  rw [wd8] at h3 ⊢
  exact g_or' (k := 8 * k) rfl h1 (by omega)
theorem d_Md_room_0 : decode c_Md_room 0 = .ok (.iload_n 0, 1) := by decide +kernel
theorem d_Md_room_1 : decode c_Md_room 1 = .ok (.iconst 1, 1) := by decide +kernel
theorem d_Md_room_2 : decode c_Md_room 2 = .ok (.if_icmp .ne 8, 3) := by decide +kernel
theorem d_Md_room_5 : decode c_Md_room 5 = .ok (.bipush 24, 2) := by decide +kernel
theorem d_Md_room_7 : decode c_Md_room 7 = .ok (.goto 19, 3) := by decide +kernel
theorem d_Md_room_10 : decode c_Md_room 10 = .ok (.iload_n 0, 1) := by decide +kernel
theorem d_Md_room_11 : decode c_Md_room 11 = .ok (.ifCond .eq 8, 3) := by decide +kernel
theorem d_Md_room_14 : decode c_Md_room 14 = .ok (.iload_n 0, 1) := by decide +kernel
theorem d_Md_room_15 : decode c_Md_room 15 = .ok (.iconst 2, 1) := by decide +kernel
theorem d_Md_room_16 : decode c_Md_room 16 = .ok (.if_icmp .ne 8, 3) := by decide +kernel
theorem d_Md_room_19 : decode c_Md_room 19 = .ok (.bipush 32, 2) := by decide +kernel
theorem d_Md_room_21 : decode c_Md_room 21 = .ok (.goto 5, 3) := by decide +kernel
theorem d_Md_room_24 : decode c_Md_room 24 = .ok (.bipush 112, 2) := by decide +kernel
theorem d_Md_room_26 : decode c_Md_room 26 = .ok (.ireturn, 1) := by decide +kernel
set_option maxRecDepth 100000 in
set_option maxHeartbeats 4000000 in
/-- room -/
theorem m_Md_room (l : Launch) (G : wG) (A : Nat → Prop) (ad : Nat → Nat) (ev : Nat → va_E) (b : Nat) (hb5 : b < 5) : wM l y_Md_room w_Md_room ({ frames := 0, cells := 0, slots := 0, locals := 0 }) G A 52 ad ev [.int (nI (b))] (fun ov ev' => ov = some (.int (nI (bsz b))) ∧ ev' = ev) := by
  refine wv_ofW (cc := c_Md_room) (maxL := 1) (ret := (Option.some FieldType.int)) (by decide) rfl (Nat.le_of_ble_eq_true rfl) ?_
  intro p e s m below meth c ls hx hb hr hml hts hown hlocks hini h hl
  have hl : lv_has ls 1 [(0, .int (nI (b)))] := hl
  rcases (show b = 0 ∨ b = 1 ∨ b = 2 ∨ b = 3 ∨ b = 4 by omega) with rfl | rfl | rfl | rfl | rfl
  · skip
    refine lv_iload_n hx hb d_Md_room_0 rfl (lv_at hl 0 rfl) ?_
    refine lv_iconst (v := nI (1)) hx hb d_Md_room_1 (by decide) ?_
    refine lv_icmp_ne (tgt := 10) hx hb d_Md_room_2 (by decide) (fun _ => ?_) (fun hc => absurd hc (by decide))
    refine lv_iload_n hx hb d_Md_room_10 rfl (lv_at hl 0 rfl) ?_
    refine lv_if_eq (tgt := 19) hx hb d_Md_room_11 (by decide) (fun _ => ?_) (fun hc => absurd (by decide) hc)
    refine lv_bipush (v := nI (32)) hx hb d_Md_room_19 (by decide) ?_
    refine lv_goto (tgt := 26) hx hb d_Md_room_21 (by decide) ?_
    exact wv_iret hx hb hr hlocks h d_Md_room_26 ⟨rfl, rfl⟩
  · skip
    refine lv_iload_n hx hb d_Md_room_0 rfl (lv_at hl 0 rfl) ?_
    refine lv_iconst (v := nI (1)) hx hb d_Md_room_1 (by decide) ?_
    refine lv_icmp_ne (tgt := 10) hx hb d_Md_room_2 (by decide) (fun hc => absurd rfl hc) (fun _ => ?_)
    refine lv_bipush (v := nI (24)) hx hb d_Md_room_5 (by decide) ?_
    refine lv_goto (tgt := 26) hx hb d_Md_room_7 (by decide) ?_
    exact wv_iret hx hb hr hlocks h d_Md_room_26 ⟨rfl, rfl⟩
  · skip
    refine lv_iload_n hx hb d_Md_room_0 rfl (lv_at hl 0 rfl) ?_
    refine lv_iconst (v := nI (1)) hx hb d_Md_room_1 (by decide) ?_
    refine lv_icmp_ne (tgt := 10) hx hb d_Md_room_2 (by decide) (fun _ => ?_) (fun hc => absurd hc (by decide))
    refine lv_iload_n hx hb d_Md_room_10 rfl (lv_at hl 0 rfl) ?_
    refine lv_if_eq (tgt := 19) hx hb d_Md_room_11 (by decide) (fun hc => absurd hc (by decide)) (fun _ => ?_)
    refine lv_iload_n hx hb d_Md_room_14 rfl (lv_at hl 0 rfl) ?_
    refine lv_iconst (v := nI (2)) hx hb d_Md_room_15 (by decide) ?_
    refine lv_icmp_ne (tgt := 24) hx hb d_Md_room_16 (by decide) (fun hc => absurd rfl hc) (fun _ => ?_)
    refine lv_bipush (v := nI (32)) hx hb d_Md_room_19 (by decide) ?_
    refine lv_goto (tgt := 26) hx hb d_Md_room_21 (by decide) ?_
    exact wv_iret hx hb hr hlocks h d_Md_room_26 ⟨rfl, rfl⟩
  · skip
    refine lv_iload_n hx hb d_Md_room_0 rfl (lv_at hl 0 rfl) ?_
    refine lv_iconst (v := nI (1)) hx hb d_Md_room_1 (by decide) ?_
    refine lv_icmp_ne (tgt := 10) hx hb d_Md_room_2 (by decide) (fun _ => ?_) (fun hc => absurd hc (by decide))
    refine lv_iload_n hx hb d_Md_room_10 rfl (lv_at hl 0 rfl) ?_
    refine lv_if_eq (tgt := 19) hx hb d_Md_room_11 (by decide) (fun hc => absurd hc (by decide)) (fun _ => ?_)
    refine lv_iload_n hx hb d_Md_room_14 rfl (lv_at hl 0 rfl) ?_
    refine lv_iconst (v := nI (2)) hx hb d_Md_room_15 (by decide) ?_
    refine lv_icmp_ne (tgt := 24) hx hb d_Md_room_16 (by decide) (fun _ => ?_) (fun hc => absurd hc (by decide))
    refine lv_bipush (v := nI (112)) hx hb d_Md_room_24 (by decide) ?_
    exact wv_iret hx hb hr hlocks h d_Md_room_26 ⟨rfl, rfl⟩
  · skip
    refine lv_iload_n hx hb d_Md_room_0 rfl (lv_at hl 0 rfl) ?_
    refine lv_iconst (v := nI (1)) hx hb d_Md_room_1 (by decide) ?_
    refine lv_icmp_ne (tgt := 10) hx hb d_Md_room_2 (by decide) (fun _ => ?_) (fun hc => absurd hc (by decide))
    refine lv_iload_n hx hb d_Md_room_10 rfl (lv_at hl 0 rfl) ?_
    refine lv_if_eq (tgt := 19) hx hb d_Md_room_11 (by decide) (fun hc => absurd hc (by decide)) (fun _ => ?_)
    refine lv_iload_n hx hb d_Md_room_14 rfl (lv_at hl 0 rfl) ?_
    refine lv_iconst (v := nI (2)) hx hb d_Md_room_15 (by decide) ?_
    refine lv_icmp_ne (tgt := 24) hx hb d_Md_room_16 (by decide) (fun _ => ?_) (fun hc => absurd hc (by decide))
    refine lv_bipush (v := nI (112)) hx hb d_Md_room_24 (by decide) ?_
    exact wv_iret hx hb hr hlocks h d_Md_room_26 ⟨rfl, rfl⟩
theorem d_Md_begin_0 : decode c_Md_begin 0 = .ok (.iload_n 0, 1) := by decide +kernel
theorem d_Md_begin_1 : decode c_Md_begin 1 = .ok (.ifCond .ne 7, 3) := by decide +kernel
theorem d_Md_begin_4 : decode c_Md_begin 4 = .ok (.iconst 0, 1) := by decide +kernel
theorem d_Md_begin_5 : decode c_Md_begin 5 = .ok (.goto 36, 3) := by decide +kernel
theorem d_Md_begin_8 : decode c_Md_begin 8 = .ok (.iload_n 0, 1) := by decide +kernel
theorem d_Md_begin_9 : decode c_Md_begin 9 = .ok (.iconst 1, 1) := by decide +kernel
theorem d_Md_begin_10 : decode c_Md_begin 10 = .ok (.if_icmp .ne 8, 3) := by decide +kernel
theorem d_Md_begin_13 : decode c_Md_begin 13 = .ok (.bipush 32, 2) := by decide +kernel
theorem d_Md_begin_15 : decode c_Md_begin 15 = .ok (.goto 26, 3) := by decide +kernel
theorem d_Md_begin_18 : decode c_Md_begin 18 = .ok (.iload_n 0, 1) := by decide +kernel
theorem d_Md_begin_19 : decode c_Md_begin 19 = .ok (.iconst 2, 1) := by decide +kernel
theorem d_Md_begin_20 : decode c_Md_begin 20 = .ok (.if_icmp .ne 8, 3) := by decide +kernel
theorem d_Md_begin_23 : decode c_Md_begin 23 = .ok (.bipush 56, 2) := by decide +kernel
theorem d_Md_begin_25 : decode c_Md_begin 25 = .ok (.goto 16, 3) := by decide +kernel
theorem d_Md_begin_28 : decode c_Md_begin 28 = .ok (.iload_n 0, 1) := by decide +kernel
theorem d_Md_begin_29 : decode c_Md_begin 29 = .ok (.iconst 3, 1) := by decide +kernel
theorem d_Md_begin_30 : decode c_Md_begin 30 = .ok (.if_icmp .ne 8, 3) := by decide +kernel
theorem d_Md_begin_33 : decode c_Md_begin 33 = .ok (.bipush 88, 2) := by decide +kernel
theorem d_Md_begin_35 : decode c_Md_begin 35 = .ok (.goto 6, 3) := by decide +kernel
theorem d_Md_begin_38 : decode c_Md_begin 38 = .ok (.sipush 200, 3) := by decide +kernel
theorem d_Md_begin_41 : decode c_Md_begin 41 = .ok (.ireturn, 1) := by decide +kernel
set_option maxRecDepth 100000 in
set_option maxHeartbeats 4000000 in
/-- begin -/
theorem m_Md_begin (l : Launch) (G : wG) (A : Nat → Prop) (ad : Nat → Nat) (ev : Nat → va_E) (b : Nat) (hb5 : b < 5) : wM l y_Md_begin w_Md_begin ({ frames := 0, cells := 0, slots := 0, locals := 0 }) G A 52 ad ev [.int (nI (b))] (fun ov ev' => ov = some (.int (nI (bgn b))) ∧ ev' = ev) := by
  refine wv_ofW (cc := c_Md_begin) (maxL := 1) (ret := (Option.some FieldType.int)) (by decide) rfl (Nat.le_of_ble_eq_true rfl) ?_
  intro p e s m below meth c ls hx hb hr hml hts hown hlocks hini h hl
  have hl : lv_has ls 1 [(0, .int (nI (b)))] := hl
  rcases (show b = 0 ∨ b = 1 ∨ b = 2 ∨ b = 3 ∨ b = 4 by omega) with rfl | rfl | rfl | rfl | rfl
  · skip
    refine lv_iload_n hx hb d_Md_begin_0 rfl (lv_at hl 0 rfl) ?_
    refine lv_if_ne (tgt := 8) hx hb d_Md_begin_1 (by decide) (fun hc => absurd rfl hc) (fun _ => ?_)
    refine lv_iconst (v := nI (0)) hx hb d_Md_begin_4 (by decide) ?_
    refine lv_goto (tgt := 41) hx hb d_Md_begin_5 (by decide) ?_
    exact wv_iret hx hb hr hlocks h d_Md_begin_41 ⟨rfl, rfl⟩
  · skip
    refine lv_iload_n hx hb d_Md_begin_0 rfl (lv_at hl 0 rfl) ?_
    refine lv_if_ne (tgt := 8) hx hb d_Md_begin_1 (by decide) (fun _ => ?_) (fun hc => absurd hc (by decide))
    refine lv_iload_n hx hb d_Md_begin_8 rfl (lv_at hl 0 rfl) ?_
    refine lv_iconst (v := nI (1)) hx hb d_Md_begin_9 (by decide) ?_
    refine lv_icmp_ne (tgt := 18) hx hb d_Md_begin_10 (by decide) (fun hc => absurd rfl hc) (fun _ => ?_)
    refine lv_bipush (v := nI (32)) hx hb d_Md_begin_13 (by decide) ?_
    refine lv_goto (tgt := 41) hx hb d_Md_begin_15 (by decide) ?_
    exact wv_iret hx hb hr hlocks h d_Md_begin_41 ⟨rfl, rfl⟩
  · skip
    refine lv_iload_n hx hb d_Md_begin_0 rfl (lv_at hl 0 rfl) ?_
    refine lv_if_ne (tgt := 8) hx hb d_Md_begin_1 (by decide) (fun _ => ?_) (fun hc => absurd hc (by decide))
    refine lv_iload_n hx hb d_Md_begin_8 rfl (lv_at hl 0 rfl) ?_
    refine lv_iconst (v := nI (1)) hx hb d_Md_begin_9 (by decide) ?_
    refine lv_icmp_ne (tgt := 18) hx hb d_Md_begin_10 (by decide) (fun _ => ?_) (fun hc => absurd hc (by decide))
    refine lv_iload_n hx hb d_Md_begin_18 rfl (lv_at hl 0 rfl) ?_
    refine lv_iconst (v := nI (2)) hx hb d_Md_begin_19 (by decide) ?_
    refine lv_icmp_ne (tgt := 28) hx hb d_Md_begin_20 (by decide) (fun hc => absurd rfl hc) (fun _ => ?_)
    refine lv_bipush (v := nI (56)) hx hb d_Md_begin_23 (by decide) ?_
    refine lv_goto (tgt := 41) hx hb d_Md_begin_25 (by decide) ?_
    exact wv_iret hx hb hr hlocks h d_Md_begin_41 ⟨rfl, rfl⟩
  · skip
    refine lv_iload_n hx hb d_Md_begin_0 rfl (lv_at hl 0 rfl) ?_
    refine lv_if_ne (tgt := 8) hx hb d_Md_begin_1 (by decide) (fun _ => ?_) (fun hc => absurd hc (by decide))
    refine lv_iload_n hx hb d_Md_begin_8 rfl (lv_at hl 0 rfl) ?_
    refine lv_iconst (v := nI (1)) hx hb d_Md_begin_9 (by decide) ?_
    refine lv_icmp_ne (tgt := 18) hx hb d_Md_begin_10 (by decide) (fun _ => ?_) (fun hc => absurd hc (by decide))
    refine lv_iload_n hx hb d_Md_begin_18 rfl (lv_at hl 0 rfl) ?_
    refine lv_iconst (v := nI (2)) hx hb d_Md_begin_19 (by decide) ?_
    refine lv_icmp_ne (tgt := 28) hx hb d_Md_begin_20 (by decide) (fun _ => ?_) (fun hc => absurd hc (by decide))
    refine lv_iload_n hx hb d_Md_begin_28 rfl (lv_at hl 0 rfl) ?_
    refine lv_iconst (v := nI (3)) hx hb d_Md_begin_29 (by decide) ?_
    refine lv_icmp_ne (tgt := 38) hx hb d_Md_begin_30 (by decide) (fun hc => absurd rfl hc) (fun _ => ?_)
    refine lv_bipush (v := nI (88)) hx hb d_Md_begin_33 (by decide) ?_
    refine lv_goto (tgt := 41) hx hb d_Md_begin_35 (by decide) ?_
    exact wv_iret hx hb hr hlocks h d_Md_begin_41 ⟨rfl, rfl⟩
  · skip
    refine lv_iload_n hx hb d_Md_begin_0 rfl (lv_at hl 0 rfl) ?_
    refine lv_if_ne (tgt := 8) hx hb d_Md_begin_1 (by decide) (fun _ => ?_) (fun hc => absurd hc (by decide))
    refine lv_iload_n hx hb d_Md_begin_8 rfl (lv_at hl 0 rfl) ?_
    refine lv_iconst (v := nI (1)) hx hb d_Md_begin_9 (by decide) ?_
    refine lv_icmp_ne (tgt := 18) hx hb d_Md_begin_10 (by decide) (fun _ => ?_) (fun hc => absurd hc (by decide))
    refine lv_iload_n hx hb d_Md_begin_18 rfl (lv_at hl 0 rfl) ?_
    refine lv_iconst (v := nI (2)) hx hb d_Md_begin_19 (by decide) ?_
    refine lv_icmp_ne (tgt := 28) hx hb d_Md_begin_20 (by decide) (fun _ => ?_) (fun hc => absurd hc (by decide))
    refine lv_iload_n hx hb d_Md_begin_28 rfl (lv_at hl 0 rfl) ?_
    refine lv_iconst (v := nI (3)) hx hb d_Md_begin_29 (by decide) ?_
    refine lv_icmp_ne (tgt := 38) hx hb d_Md_begin_30 (by decide) (fun _ => ?_) (fun hc => absurd hc (by decide))
    refine lv_sipush (v := nI (200)) hx hb d_Md_begin_38 (by decide) ?_
    exact wv_iret hx hb hr hlocks h d_Md_begin_41 ⟨rfl, rfl⟩
theorem d_Md_fits_0 : decode c_Md_fits 0 = .ok (.iload_n 0, 1) := by decide +kernel
theorem d_Md_fits_1 : decode c_Md_fits 1 = .ok (.ifCond .lt 27, 3) := by decide +kernel
theorem d_Md_fits_4 : decode c_Md_fits 4 = .ok (.iload_n 0, 1) := by decide +kernel
theorem d_Md_fits_5 : decode c_Md_fits 5 = .ok (.iload_n 2, 1) := by decide +kernel
theorem d_Md_fits_6 : decode c_Md_fits 6 = .ok (.if_icmp .gt 22, 3) := by decide +kernel
theorem d_Md_fits_9 : decode c_Md_fits 9 = .ok (.iload_n 1, 1) := by decide +kernel
theorem d_Md_fits_10 : decode c_Md_fits 10 = .ok (.ifCond .lt 18, 3) := by decide +kernel
theorem d_Md_fits_13 : decode c_Md_fits 13 = .ok (.iload_n 1, 1) := by decide +kernel
theorem d_Md_fits_14 : decode c_Md_fits 14 = .ok (.iload_n 0, 1) := by decide +kernel
theorem d_Md_fits_15 : decode c_Md_fits 15 = .ok (.invokestatic 54, 3) := by decide +kernel
theorem d_Md_fits_18 : decode c_Md_fits 18 = .ok (.bipush 8, 2) := by decide +kernel
theorem d_Md_fits_20 : decode c_Md_fits 20 = .ok (.idiv, 1) := by decide +kernel
theorem d_Md_fits_21 : decode c_Md_fits 21 = .ok (.if_icmp .ge 7, 3) := by decide +kernel
theorem d_Md_fits_24 : decode c_Md_fits 24 = .ok (.iconst 1, 1) := by decide +kernel
theorem d_Md_fits_25 : decode c_Md_fits 25 = .ok (.goto 4, 3) := by decide +kernel
theorem d_Md_fits_28 : decode c_Md_fits 28 = .ok (.iconst 0, 1) := by decide +kernel
theorem d_Md_fits_29 : decode c_Md_fits 29 = .ok (.ireturn, 1) := by decide +kernel
set_option maxRecDepth 100000 in
set_option maxHeartbeats 4000000 in
/-- is there room -/
theorem m_Md_fits (l : Launch) (G : wG) (A : Nat → Prop) (ad : Nat → Nat) (ev : Nat → va_E) (x i : Int32) (lst : Nat) (hl5 : lst < 5) : wM l y_Md_fits w_Md_fits ({ frames := 3, cells := 0, slots := 0, locals := 100 }) G A 52 ad ev [.int (x), .int (i), .int (nI (lst))] (fun ov ev' => ev' = ev ∧ ((∃ b k, b ≤ lst ∧ k < bsz b / 8 ∧ x = nI b ∧ i = nI k ∧ ov = some (.int (nI 1))) ∨ ((∀ b k, b ≤ lst → k < bsz b / 8 → x = nI b → i ≠ nI k) ∧ ov = some (.int (nI 0))))) := by
  refine wv_ofW (cc := c_Md_fits) (maxL := 3) (ret := (Option.some FieldType.boolean)) (by decide) rfl (Nat.le_of_ble_eq_true rfl) ?_
  intro p e s m below meth c ls hx hb hr hml hts hown hlocks hini h hl
  have hl : lv_has ls 3 [(0, .int (x)), (1, .int (i)), (2, .int (nI (lst)))] := hl
  refine lv_iload_n hx hb d_Md_fits_0 rfl (lv_at hl 0 rfl) ?_
  refine lv_if_lt (tgt := 28) hx hb d_Md_fits_1 (by decide) (fun hc => ?_) (fun hc => ?_)
  · skip
    refine lv_iconst (v := nI (0)) hx hb d_Md_fits_28 (by decide) ?_
    exact wv_zret hx hb hr hlocks h d_Md_fits_29 rfl ⟨rfl, Or.inr ⟨fun b k hb2 _ e _ => absurd e (nI_far (n := 5) (by decide) (Or.inl hc) b (by omega)), rfl⟩⟩
  · obtain ⟨b, hb31, rfl⟩ := nI_of hc
    refine lv_iload_n hx hb d_Md_fits_4 rfl (lv_at hl 0 rfl) ?_
    refine lv_iload_n hx hb d_Md_fits_5 rfl (lv_at hl 2 rfl) ?_
    refine lv_icmp_gt (tgt := 28) hx hb d_Md_fits_6 (by decide) (fun hc => ?_) (fun hc => ?_)
    · have hc := (nI_ltI (by omega) (by omega)).mp hc
      refine lv_iconst (v := nI (0)) hx hb d_Md_fits_28 (by decide) ?_
      exact wv_zret hx hb hr hlocks h d_Md_fits_29 rfl ⟨rfl, Or.inr ⟨fun b2 k hb2 _ e _ => absurd ((nI_eq (by omega) (by omega)).mp e) (by omega), rfl⟩⟩
    · have hbl := Nat.le_of_not_lt (fun q => hc ((nI_ltI (by omega) (by omega)).mpr q))
      have hbs := bsz_in b
      refine lv_iload_n hx hb d_Md_fits_9 rfl (lv_at hl 1 rfl) ?_
      refine lv_if_lt (tgt := 28) hx hb d_Md_fits_10 (by decide) (fun hc => ?_) (fun hc => ?_)
      · skip
        refine lv_iconst (v := nI (0)) hx hb d_Md_fits_28 (by decide) ?_
        exact wv_zret hx hb hr hlocks h d_Md_fits_29 rfl ⟨rfl, Or.inr ⟨fun b2 k hb2 hk e => by
            obtain rfl := (nI_eq (by omega) (by omega)).mp e
            exact nI_far (n := bsz b / 8) (by omega) (Or.inl hc) k hk, rfl⟩⟩
      · obtain ⟨k, hk31, rfl⟩ := nI_of hc
        refine lv_iload_n hx hb d_Md_fits_13 rfl (lv_at hl 1 rfl) ?_
        refine lv_iload_n hx hb d_Md_fits_14 rfl (lv_at hl 0 rfl) ?_
        refine wv_Sx (As := [.int (nI (b))]) (rest := [.int (nI (k))]) (k := 1) ⟨hx, hb, hml, hown, hts⟩ h (m_Md_room l G A ad ev b (by omega)) kc_Md_room kl_Md_54 ks_Md_room ki_Md (by decide +kernel) ⟨rfl, rfl, Nat.le_of_ble_eq_true rfl, Nat.le_of_ble_eq_true rfl⟩ hl.1 rfl rfl (Nat.le_of_ble_eq_true rfl) ⟨Nat.le_refl _, Nat.le_refl _⟩ d_Md_fits_15 ?_
        intro ov ev1 H locs hp h
        rw [hp.1]
        refine W.eq (g2 := F0 m 18 ls [.int (nI (bsz b)), .int (nI (k))]) rfl ?_
        rw [hp.2] at h
        refine lv_bipush (v := nI (8)) hx hb d_Md_fits_18 (by decide) ?_
        refine lv_idiv hx hb d_Md_fits_20 (by decide) ?_
        refine wv_top (w := nI ((bsz b) / 8)) (pk_div (by omega) (by omega) (by omega)) ?_
        refine lv_icmp_ge (tgt := 28) hx hb d_Md_fits_21 (by decide) (fun hc => ?_) (fun hc => ?_)
        · have hc := (nI_leI (by omega) (by omega)).mp hc
          refine lv_iconst (v := nI (0)) hx hb d_Md_fits_28 (by decide) ?_
          exact wv_zret hx hb hr hlocks h d_Md_fits_29 rfl ⟨rfl, Or.inr ⟨fun b2 k2 hb2 hk e e2 => by
              obtain rfl := (nI_eq (by omega) (by omega)).mp e
              have hbs2 := bsz_in b
              exact absurd ((nI_eq (by omega) (by omega)).mp e2) (by omega), rfl⟩⟩
        · have hk := Nat.lt_of_not_le (fun q => hc ((nI_leI (by omega) (by omega)).mpr q))
          refine lv_iconst (v := nI (1)) hx hb d_Md_fits_24 (by decide) ?_
          refine lv_goto (tgt := 29) hx hb d_Md_fits_25 (by decide) ?_
          exact wv_zret hx hb hr hlocks h d_Md_fits_29 rfl ⟨rfl, Or.inl ⟨b, k, hbl, hk, rfl, rfl, rfl⟩⟩
theorem d_Md_length_0 : decode c_Md_length 0 = .ok (.aload_n 0, 1) := by decide +kernel
theorem d_Md_length_1 : decode c_Md_length 1 = .ok (.iconst 0, 1) := by decide +kernel
theorem d_Md_length_2 : decode c_Md_length 2 = .ok (.putfield 50, 3) := by decide +kernel
theorem d_Md_length_5 : decode c_Md_length 5 = .ok (.iload_n 1, 1) := by decide +kernel
theorem d_Md_length_6 : decode c_Md_length 6 = .ok (.ifCond .lt 9, 3) := by decide +kernel
theorem d_Md_length_9 : decode c_Md_length 9 = .ok (.iload_n 1, 1) := by decide +kernel
theorem d_Md_length_10 : decode c_Md_length 10 = .ok (.bipush 112, 2) := by decide +kernel
theorem d_Md_length_12 : decode c_Md_length 12 = .ok (.if_icmp .le 5, 3) := by decide +kernel
theorem d_Md_length_15 : decode c_Md_length 15 = .ok (.iconst 0, 1) := by decide +kernel
theorem d_Md_length_16 : decode c_Md_length 16 = .ok (.ireturn, 1) := by decide +kernel
theorem d_Md_length_17 : decode c_Md_length 17 = .ok (.aload_n 0, 1) := by decide +kernel
theorem d_Md_length_18 : decode c_Md_length 18 = .ok (.iload_n 1, 1) := by decide +kernel
theorem d_Md_length_19 : decode c_Md_length 19 = .ok (.putfield 67, 3) := by decide +kernel
theorem d_Md_length_22 : decode c_Md_length 22 = .ok (.iconst 1, 1) := by decide +kernel
theorem d_Md_length_23 : decode c_Md_length 23 = .ok (.ireturn, 1) := by decide +kernel
set_option maxRecDepth 100000 in
set_option maxHeartbeats 4000000 in
/-- length -/
theorem m_Md_length (l : Launch) (G : wG) (A : Nat → Prop) (ad : Nat → Nat) (ev : Nat → va_E) (x : Int32) (Bf : Nat → Nat → Nat) (tl ol cd : Nat) (hMD : MD G ad ev Bf tl ol cd) : wM l y_Md_length w_Md_length ({ frames := 0, cells := 0, slots := 0, locals := 0 }) G A 52 ad ev [.ref (ad 37), .int (x)] (fun ov ev' => ∃ (ans : Int32) (tl' : Nat), ov = some (.int ans) ∧ spLen x tl ans tl' ∧ MD G ad ev' Bf tl' ol 0 ∧ ∀ j, j < 37 ∨ 50 < j → ev' j = ev j) := by
  refine wv_ofW (cc := c_Md_length) (maxL := 2) (ret := (Option.some FieldType.boolean)) (by decide) rfl (Nat.le_of_ble_eq_true rfl) ?_
  intro p e s m below meth c ls hx hb hr hml hts hown hlocks hini h hl
  have hl : lv_has ls 2 [(0, .ref (ad 37)), (1, .int (x))] := hl
  obtain ⟨g37, ⟨FF, hFB, g38⟩, ⟨x39, g39⟩, ⟨x40, g40⟩, ⟨x41, g41⟩, ⟨x42, g42⟩, ⟨x43, g43⟩, ⟨x44, g44⟩, ⟨x45, g45⟩, ⟨x46, g46⟩, ⟨x47, g47⟩, ⟨x48, g48⟩, ⟨x49, g49⟩, ⟨x50, b50, g50⟩, hB, htl, hol⟩ := hMD
  refine lv_aload_n hx hb d_Md_length_0 rfl (lv_at hl 0 rfl) ?_
  refine lv_iconst (v := nI (0)) hx hb d_Md_length_1 (by decide) ?_
  refine wv_putf hx hb h 37 (by decide) (fs := [.ref (ad 38), .int (nI (tl)), .int (nI (ol)), .int (nI (cd)), .ref (ad 39), .ref (ad 40), .ref (ad 41), .ref (ad 42), .ref (ad 43), .ref (ad 44), .ref (ad 45), .ref (ad 46), .ref (ad 47), .ref (ad 48), .ref (ad 49), .ref (ad 50)]) g37 hts (fun w hw => List.mem_cons_of_mem _ (fW_Md w hw)) fY_Md fK_Md fN_Md hown (ci := 5) (C := "NonceBoxModel") (T := fT_Md) (N := 16) rfl 3 (by decide) (hts _ (List.mem_cons_of_mem _ kf_Md_50)) rfl rfl (v := .int (nI (0))) rfl rfl (Nat.le_of_ble_eq_true rfl) d_Md_length_2 (fun H locs h => ?_)
  have h : wT G A 52 ad (va_up ev 37 (eO 5 [.ref (ad 38), .int (nI (tl)), .int (nI (ol)), .int (nI (0)), .ref (ad 39), .ref (ad 40), .ref (ad 41), .ref (ad 42), .ref (ad 43), .ref (ad 44), .ref (ad 45), .ref (ad 46), .ref (ad 47), .ref (ad 48), .ref (ad 49), .ref (ad 50)])) s H locs := h
  obtain ⟨ev1, o1⟩ : ∃ z, z = va_up ev 37 (eO 5 [.ref (ad 38), .int (nI (tl)), .int (nI (ol)), .int (nI (0)), .ref (ad 39), .ref (ad 40), .ref (ad 41), .ref (ad 42), .ref (ad 43), .ref (ad 44), .ref (ad 45), .ref (ad 46), .ref (ad 47), .ref (ad 48), .ref (ad 49), .ref (ad 50)]) := ⟨_, rfl⟩
  rw [← o1] at h
  have t1_37 : ev1 37 = eO 5 [.ref (ad 38), .int (nI (tl)), .int (nI (ol)), .int (nI (0)), .ref (ad 39), .ref (ad 40), .ref (ad 41), .ref (ad 42), .ref (ad 43), .ref (ad 44), .ref (ad 45), .ref (ad 46), .ref (ad 47), .ref (ad 48), .ref (ad 49), .ref (ad 50)] := by rw [o1, va_up_self]
  have t1_38 := (show ev1 38 = ev 38 by rw [o1, va_up_ne _ _ (by decide)]).trans g38
  have t1_39 := (show ev1 39 = ev 39 by rw [o1, va_up_ne _ _ (by decide)]).trans g39
  have t1_40 := (show ev1 40 = ev 40 by rw [o1, va_up_ne _ _ (by decide)]).trans g40
  have t1_41 := (show ev1 41 = ev 41 by rw [o1, va_up_ne _ _ (by decide)]).trans g41
  have t1_42 := (show ev1 42 = ev 42 by rw [o1, va_up_ne _ _ (by decide)]).trans g42
  have t1_43 := (show ev1 43 = ev 43 by rw [o1, va_up_ne _ _ (by decide)]).trans g43
  have t1_44 := (show ev1 44 = ev 44 by rw [o1, va_up_ne _ _ (by decide)]).trans g44
  have t1_45 := (show ev1 45 = ev 45 by rw [o1, va_up_ne _ _ (by decide)]).trans g45
  have t1_46 := (show ev1 46 = ev 46 by rw [o1, va_up_ne _ _ (by decide)]).trans g46
  have t1_47 := (show ev1 47 = ev 47 by rw [o1, va_up_ne _ _ (by decide)]).trans g47
  have t1_48 := (show ev1 48 = ev 48 by rw [o1, va_up_ne _ _ (by decide)]).trans g48
  have t1_49 := (show ev1 49 = ev 49 by rw [o1, va_up_ne _ _ (by decide)]).trans g49
  have t1_50 := (show ev1 50 = ev 50 by rw [o1, va_up_ne _ _ (by decide)]).trans g50
  refine lv_iload_n hx hb d_Md_length_5 rfl (lv_at hl 1 rfl) ?_
  refine lv_if_lt (tgt := 15) hx hb d_Md_length_6 (by decide) (fun hc => ?_) (fun hc => ?_)
  · have far : ∀ k, k ≤ 112 → x ≠ nI k := fun k hk => nI_far (n := 113) (by decide) (Or.inl hc) k (by omega)
    refine lv_iconst (v := nI (0)) hx hb d_Md_length_15 (by decide) ?_
    exact wv_zret hx hb hr hlocks h d_Md_length_16 rfl ⟨_, _, rfl, Or.inr ⟨far, rfl, rfl⟩, ⟨t1_37, ⟨_, hFB, t1_38⟩, ⟨_, t1_39⟩, ⟨_, t1_40⟩, ⟨_, t1_41⟩, ⟨_, t1_42⟩, ⟨_, t1_43⟩, ⟨_, t1_44⟩, ⟨_, t1_45⟩, ⟨_, t1_46⟩, ⟨_, t1_47⟩, ⟨_, t1_48⟩, ⟨_, t1_49⟩, ⟨_, b50, t1_50⟩, hB, htl, hol⟩, (fun j hj => by rw [o1, va_up_ne _ _ (by omega)])⟩
  · obtain ⟨k, hk31, rfl⟩ := nI_of hc
    refine lv_iload_n hx hb d_Md_length_9 rfl (lv_at hl 1 rfl) ?_
    refine lv_bipush (v := nI (112)) hx hb d_Md_length_10 (by decide) ?_
    refine lv_icmp_le (tgt := 17) hx hb d_Md_length_12 (by decide) (fun hc => ?_) (fun hc => ?_)
    · have hk := (nI_leI (by omega) (by decide)).mp hc
      refine lv_aload_n hx hb d_Md_length_17 rfl (lv_at hl 0 rfl) ?_
      refine lv_iload_n hx hb d_Md_length_18 rfl (lv_at hl 1 rfl) ?_
      refine wv_putf hx hb h 37 (by decide) (fs := [.ref (ad 38), .int (nI (tl)), .int (nI (ol)), .int (nI (0)), .ref (ad 39), .ref (ad 40), .ref (ad 41), .ref (ad 42), .ref (ad 43), .ref (ad 44), .ref (ad 45), .ref (ad 46), .ref (ad 47), .ref (ad 48), .ref (ad 49), .ref (ad 50)]) t1_37 hts (fun w hw => List.mem_cons_of_mem _ (fW_Md w hw)) fY_Md fK_Md fN_Md hown (ci := 5) (C := "NonceBoxModel") (T := fT_Md) (N := 16) rfl 1 (by decide) (hts _ (List.mem_cons_of_mem _ kf_Md_67)) rfl rfl (v := .int (nI (k))) rfl rfl (Nat.le_of_ble_eq_true rfl) d_Md_length_19 (fun H locs h => ?_)
      have h : wT G A 52 ad (va_up ev1 37 (eO 5 [.ref (ad 38), .int (nI (k)), .int (nI (ol)), .int (nI (0)), .ref (ad 39), .ref (ad 40), .ref (ad 41), .ref (ad 42), .ref (ad 43), .ref (ad 44), .ref (ad 45), .ref (ad 46), .ref (ad 47), .ref (ad 48), .ref (ad 49), .ref (ad 50)])) s H locs := h
      obtain ⟨ev2, o2⟩ : ∃ z, z = va_up ev1 37 (eO 5 [.ref (ad 38), .int (nI (k)), .int (nI (ol)), .int (nI (0)), .ref (ad 39), .ref (ad 40), .ref (ad 41), .ref (ad 42), .ref (ad 43), .ref (ad 44), .ref (ad 45), .ref (ad 46), .ref (ad 47), .ref (ad 48), .ref (ad 49), .ref (ad 50)]) := ⟨_, rfl⟩
      rw [← o2] at h
      have t2_37 : ev2 37 = eO 5 [.ref (ad 38), .int (nI (k)), .int (nI (ol)), .int (nI (0)), .ref (ad 39), .ref (ad 40), .ref (ad 41), .ref (ad 42), .ref (ad 43), .ref (ad 44), .ref (ad 45), .ref (ad 46), .ref (ad 47), .ref (ad 48), .ref (ad 49), .ref (ad 50)] := by rw [o2, va_up_self]
      have t2_38 := (show ev2 38 = ev1 38 by rw [o2, va_up_ne _ _ (by decide)]).trans t1_38
      have t2_39 := (show ev2 39 = ev1 39 by rw [o2, va_up_ne _ _ (by decide)]).trans t1_39
      have t2_40 := (show ev2 40 = ev1 40 by rw [o2, va_up_ne _ _ (by decide)]).trans t1_40
      have t2_41 := (show ev2 41 = ev1 41 by rw [o2, va_up_ne _ _ (by decide)]).trans t1_41
      have t2_42 := (show ev2 42 = ev1 42 by rw [o2, va_up_ne _ _ (by decide)]).trans t1_42
      have t2_43 := (show ev2 43 = ev1 43 by rw [o2, va_up_ne _ _ (by decide)]).trans t1_43
      have t2_44 := (show ev2 44 = ev1 44 by rw [o2, va_up_ne _ _ (by decide)]).trans t1_44
      have t2_45 := (show ev2 45 = ev1 45 by rw [o2, va_up_ne _ _ (by decide)]).trans t1_45
      have t2_46 := (show ev2 46 = ev1 46 by rw [o2, va_up_ne _ _ (by decide)]).trans t1_46
      have t2_47 := (show ev2 47 = ev1 47 by rw [o2, va_up_ne _ _ (by decide)]).trans t1_47
      have t2_48 := (show ev2 48 = ev1 48 by rw [o2, va_up_ne _ _ (by decide)]).trans t1_48
      have t2_49 := (show ev2 49 = ev1 49 by rw [o2, va_up_ne _ _ (by decide)]).trans t1_49
      have t2_50 := (show ev2 50 = ev1 50 by rw [o2, va_up_ne _ _ (by decide)]).trans t1_50
      refine lv_iconst (v := nI (1)) hx hb d_Md_length_22 (by decide) ?_
      exact wv_zret hx hb hr hlocks h d_Md_length_23 rfl ⟨_, _, rfl, Or.inl ⟨k, hk, rfl, rfl, rfl⟩, ⟨t2_37, ⟨_, hFB, t2_38⟩, ⟨_, t2_39⟩, ⟨_, t2_40⟩, ⟨_, t2_41⟩, ⟨_, t2_42⟩, ⟨_, t2_43⟩, ⟨_, t2_44⟩, ⟨_, t2_45⟩, ⟨_, t2_46⟩, ⟨_, t2_47⟩, ⟨_, t2_48⟩, ⟨_, t2_49⟩, ⟨_, b50, t2_50⟩, hB, hk, hol⟩, (fun j hj => by rw [o2, va_up_ne _ _ (by omega), o1, va_up_ne _ _ (by omega)])⟩
    · have far : ∀ j, j ≤ 112 → nI k ≠ nI j := fun j hj q => hc (by rw [q]; exact nI_le hj (by decide))
      refine lv_iconst (v := nI (0)) hx hb d_Md_length_15 (by decide) ?_
      exact wv_zret hx hb hr hlocks h d_Md_length_16 rfl ⟨_, _, rfl, Or.inr ⟨far, rfl, rfl⟩, ⟨t1_37, ⟨_, hFB, t1_38⟩, ⟨_, t1_39⟩, ⟨_, t1_40⟩, ⟨_, t1_41⟩, ⟨_, t1_42⟩, ⟨_, t1_43⟩, ⟨_, t1_44⟩, ⟨_, t1_45⟩, ⟨_, t1_46⟩, ⟨_, t1_47⟩, ⟨_, t1_48⟩, ⟨_, t1_49⟩, ⟨_, b50, t1_50⟩, hB, htl, hol⟩, (fun j hj => by rw [o1, va_up_ne _ _ (by omega)])⟩
theorem d_Md_put_0 : decode c_Md_put 0 = .ok (.aload_n 0, 1) := by decide +kernel
theorem d_Md_put_1 : decode c_Md_put 1 = .ok (.iconst 0, 1) := by decide +kernel
theorem d_Md_put_2 : decode c_Md_put 2 = .ok (.putfield 50, 3) := by decide +kernel
theorem d_Md_put_5 : decode c_Md_put 5 = .ok (.iload_n 1, 1) := by decide +kernel
theorem d_Md_put_6 : decode c_Md_put 6 = .ok (.iload_n 2, 1) := by decide +kernel
theorem d_Md_put_7 : decode c_Md_put 7 = .ok (.iconst 3, 1) := by decide +kernel
theorem d_Md_put_8 : decode c_Md_put 8 = .ok (.invokestatic 58, 3) := by decide +kernel
theorem d_Md_put_11 : decode c_Md_put 11 = .ok (.ifCond .ne 5, 3) := by decide +kernel
theorem d_Md_put_14 : decode c_Md_put 14 = .ok (.iconst 0, 1) := by decide +kernel
theorem d_Md_put_15 : decode c_Md_put 15 = .ok (.ireturn, 1) := by decide +kernel
theorem d_Md_put_16 : decode c_Md_put 16 = .ok (.iload_n 1, 1) := by decide +kernel
theorem d_Md_put_17 : decode c_Md_put 17 = .ok (.invokestatic 62, 3) := by decide +kernel
theorem d_Md_put_20 : decode c_Md_put 20 = .ok (.bipush 8, 2) := by decide +kernel
theorem d_Md_put_22 : decode c_Md_put 22 = .ok (.iload_n 2, 1) := by decide +kernel
theorem d_Md_put_23 : decode c_Md_put 23 = .ok (.imul, 1) := by decide +kernel
theorem d_Md_put_24 : decode c_Md_put 24 = .ok (.iadd, 1) := by decide +kernel
theorem d_Md_put_25 : decode c_Md_put 25 = .ok (.istore 5, 2) := by decide +kernel
theorem d_Md_put_27 : decode c_Md_put 27 = .ok (.iconst 0, 1) := by decide +kernel
theorem d_Md_put_28 : decode c_Md_put 28 = .ok (.istore 6, 2) := by decide +kernel
theorem d_Md_put_30 : decode c_Md_put 30 = .ok (.iload 6, 2) := by decide +kernel
theorem d_Md_put_32 : decode c_Md_put 32 = .ok (.bipush 8, 2) := by decide +kernel
theorem d_Md_put_34 : decode c_Md_put 34 = .ok (.if_icmp .ge 31, 3) := by decide +kernel
theorem d_Md_put_37 : decode c_Md_put 37 = .ok (.aload_n 0, 1) := by decide +kernel
theorem d_Md_put_38 : decode c_Md_put 38 = .ok (.getfield 7, 3) := by decide +kernel
theorem d_Md_put_41 : decode c_Md_put 41 = .ok (.iload 5, 2) := by decide +kernel
theorem d_Md_put_43 : decode c_Md_put 43 = .ok (.iload 6, 2) := by decide +kernel
theorem d_Md_put_45 : decode c_Md_put 45 = .ok (.iadd, 1) := by decide +kernel
theorem d_Md_put_46 : decode c_Md_put 46 = .ok (.lload_n 3, 1) := by decide +kernel
theorem d_Md_put_47 : decode c_Md_put 47 = .ok (.bipush 8, 2) := by decide +kernel
theorem d_Md_put_49 : decode c_Md_put 49 = .ok (.iload 6, 2) := by decide +kernel
theorem d_Md_put_51 : decode c_Md_put 51 = .ok (.imul, 1) := by decide +kernel
theorem d_Md_put_52 : decode c_Md_put 52 = .ok (.lshr, 1) := by decide +kernel
theorem d_Md_put_53 : decode c_Md_put 53 = .ok (.ldc2_w 65, 3) := by decide +kernel
theorem d_Md_put_56 : decode c_Md_put 56 = .ok (.land, 1) := by decide +kernel
theorem d_Md_put_57 : decode c_Md_put 57 = .ok (.l2i, 1) := by decide +kernel
theorem d_Md_put_58 : decode c_Md_put 58 = .ok (.iastore, 1) := by decide +kernel
theorem d_Md_put_59 : decode c_Md_put 59 = .ok (.iinc 6 1, 3) := by decide +kernel
theorem d_Md_put_62 : decode c_Md_put 62 = .ok (.goto (-32), 3) := by decide +kernel
theorem d_Md_put_65 : decode c_Md_put 65 = .ok (.iconst 1, 1) := by decide +kernel
theorem d_Md_put_66 : decode c_Md_put 66 = .ok (.ireturn, 1) := by decide +kernel
set_option maxRecDepth 100000 in
set_option maxHeartbeats 4000000 in
/-- put -/
theorem m_Md_put (l : Launch) (G : wG) (A : Nat → Prop) (ad : Nat → Nat) (ev : Nat → va_E) (x i : Int32) (v : Int64) (Bf : Nat → Nat → Nat) (tl ol cd : Nat) (hMD : MD G ad ev Bf tl ol cd) : wM l y_Md_put w_Md_put ({ frames := 6, cells := 0, slots := 0, locals := 200 }) G A 52 ad ev [.ref (ad 37), .int (x), .int (i), .long (v)] (fun ov ev' => ∃ (ans : Int32) (Bf' : Nat → Nat → Nat), ov = some (.int ans) ∧ spPut x i v Bf ans Bf' ∧ MD G ad ev' Bf' tl ol 0 ∧ ∀ j, j < 37 ∨ 50 < j → ev' j = ev j) := by
  refine wv_ofW (cc := c_Md_put) (maxL := 7) (ret := (Option.some FieldType.boolean)) (by decide) rfl (Nat.le_of_ble_eq_true rfl) ?_
  intro p e s m below meth c ls hx hb hr hml hts hown hlocks hini h hl
  have hl : lv_has ls 7 [(0, .ref (ad 37)), (1, .int (x)), (2, .int (i)), (3, .long (v))] := hl
  obtain ⟨g37, ⟨FF, hFB, g38⟩, ⟨x39, g39⟩, ⟨x40, g40⟩, ⟨x41, g41⟩, ⟨x42, g42⟩, ⟨x43, g43⟩, ⟨x44, g44⟩, ⟨x45, g45⟩, ⟨x46, g46⟩, ⟨x47, g47⟩, ⟨x48, g48⟩, ⟨x49, g49⟩, ⟨x50, b50, g50⟩, hB, htl, hol⟩ := hMD
  refine lv_aload_n hx hb d_Md_put_0 rfl (lv_at hl 0 rfl) ?_
  refine lv_iconst (v := nI (0)) hx hb d_Md_put_1 (by decide) ?_
  refine wv_putf hx hb h 37 (by decide) (fs := [.ref (ad 38), .int (nI (tl)), .int (nI (ol)), .int (nI (cd)), .ref (ad 39), .ref (ad 40), .ref (ad 41), .ref (ad 42), .ref (ad 43), .ref (ad 44), .ref (ad 45), .ref (ad 46), .ref (ad 47), .ref (ad 48), .ref (ad 49), .ref (ad 50)]) g37 hts (fun w hw => List.mem_cons_of_mem _ (fW_Md w hw)) fY_Md fK_Md fN_Md hown (ci := 5) (C := "NonceBoxModel") (T := fT_Md) (N := 16) rfl 3 (by decide) (hts _ (List.mem_cons_of_mem _ kf_Md_50)) rfl rfl (v := .int (nI (0))) rfl rfl (Nat.le_of_ble_eq_true rfl) d_Md_put_2 (fun H locs h => ?_)
  have h : wT G A 52 ad (va_up ev 37 (eO 5 [.ref (ad 38), .int (nI (tl)), .int (nI (ol)), .int (nI (0)), .ref (ad 39), .ref (ad 40), .ref (ad 41), .ref (ad 42), .ref (ad 43), .ref (ad 44), .ref (ad 45), .ref (ad 46), .ref (ad 47), .ref (ad 48), .ref (ad 49), .ref (ad 50)])) s H locs := h
  obtain ⟨ev1, o1⟩ : ∃ z, z = va_up ev 37 (eO 5 [.ref (ad 38), .int (nI (tl)), .int (nI (ol)), .int (nI (0)), .ref (ad 39), .ref (ad 40), .ref (ad 41), .ref (ad 42), .ref (ad 43), .ref (ad 44), .ref (ad 45), .ref (ad 46), .ref (ad 47), .ref (ad 48), .ref (ad 49), .ref (ad 50)]) := ⟨_, rfl⟩
  rw [← o1] at h
  have t1_37 : ev1 37 = eO 5 [.ref (ad 38), .int (nI (tl)), .int (nI (ol)), .int (nI (0)), .ref (ad 39), .ref (ad 40), .ref (ad 41), .ref (ad 42), .ref (ad 43), .ref (ad 44), .ref (ad 45), .ref (ad 46), .ref (ad 47), .ref (ad 48), .ref (ad 49), .ref (ad 50)] := by rw [o1, va_up_self]
  have t1_38 := (show ev1 38 = ev 38 by rw [o1, va_up_ne _ _ (by decide)]).trans g38
  have t1_39 := (show ev1 39 = ev 39 by rw [o1, va_up_ne _ _ (by decide)]).trans g39
  have t1_40 := (show ev1 40 = ev 40 by rw [o1, va_up_ne _ _ (by decide)]).trans g40
  have t1_41 := (show ev1 41 = ev 41 by rw [o1, va_up_ne _ _ (by decide)]).trans g41
  have t1_42 := (show ev1 42 = ev 42 by rw [o1, va_up_ne _ _ (by decide)]).trans g42
  have t1_43 := (show ev1 43 = ev 43 by rw [o1, va_up_ne _ _ (by decide)]).trans g43
  have t1_44 := (show ev1 44 = ev 44 by rw [o1, va_up_ne _ _ (by decide)]).trans g44
  have t1_45 := (show ev1 45 = ev 45 by rw [o1, va_up_ne _ _ (by decide)]).trans g45
  have t1_46 := (show ev1 46 = ev 46 by rw [o1, va_up_ne _ _ (by decide)]).trans g46
  have t1_47 := (show ev1 47 = ev 47 by rw [o1, va_up_ne _ _ (by decide)]).trans g47
  have t1_48 := (show ev1 48 = ev 48 by rw [o1, va_up_ne _ _ (by decide)]).trans g48
  have t1_49 := (show ev1 49 = ev 49 by rw [o1, va_up_ne _ _ (by decide)]).trans g49
  have t1_50 := (show ev1 50 = ev 50 by rw [o1, va_up_ne _ _ (by decide)]).trans g50
  refine lv_iload_n hx hb d_Md_put_5 rfl (lv_at hl 1 rfl) ?_
  refine lv_iload_n hx hb d_Md_put_6 rfl (lv_at hl 2 rfl) ?_
  refine lv_iconst (v := nI (3)) hx hb d_Md_put_7 (by decide) ?_
  refine wv_Sx (As := [.int (x), .int (i), .int (nI (3))]) (rest := []) (k := 3) ⟨hx, hb, hml, hown, hts⟩ h (m_Md_fits l G A ad ev1 x i 3 (by decide)) kc_Md_fits kl_Md_58 ks_Md_fits ki_Md (by decide +kernel) ⟨rfl, rfl, Nat.le_of_ble_eq_true rfl, Nat.le_of_ble_eq_true rfl⟩ hl.1 rfl rfl (Nat.le_of_ble_eq_true rfl) ⟨Nat.le_refl _, Nat.le_refl _⟩ d_Md_put_8 ?_
  intro ov ev9 H locs hp h
  obtain ⟨he, hp⟩ := hp
  rw [he] at h
  rcases hp with ⟨b, k, hb4, hk, rfl, rfl, ho⟩ | ⟨far, ho⟩
  · rw [ho]
    refine W.eq (g2 := F0 m 11 ls [.int (nI 1)]) rfl ?_
    refine lv_if_ne (tgt := 16) hx hb d_Md_put_11 (by decide) (fun _ => ?_) (fun hc => absurd hc (by decide))
    have hbs := bsz_in b
    have hbi := bgn_in b (by omega)
    refine lv_iload_n hx hb d_Md_put_16 rfl (lv_at hl 1 rfl) ?_
    refine wv_Sx (As := [.int (nI (b))]) (rest := []) (k := 1) ⟨hx, hb, hml, hown, hts⟩ h (m_Md_begin l G A ad ev1 b (by omega)) kc_Md_begin kl_Md_62 ks_Md_begin ki_Md (by decide +kernel) ⟨rfl, rfl, Nat.le_of_ble_eq_true rfl, Nat.le_of_ble_eq_true rfl⟩ hl.1 rfl rfl (Nat.le_of_ble_eq_true rfl) ⟨Nat.le_refl _, Nat.le_refl _⟩ d_Md_put_17 ?_
    intro ov ev2 H locs hp h
    rw [hp.1]
    refine W.eq (g2 := F0 m 20 ls [.int (nI (bgn b))]) rfl ?_
    rw [hp.2] at h
    refine lv_bipush (v := nI (8)) hx hb d_Md_put_20 (by decide) ?_
    refine lv_iload_n hx hb d_Md_put_22 rfl (lv_at hl 2 rfl) ?_
    refine lv_imul hx hb d_Md_put_23 ?_
    refine wv_top (w := nI (8 * k)) (pk_mul _ _) ?_
    refine lv_iadd hx hb d_Md_put_24 ?_
    refine wv_top (w := nI ((bgn b) + (8 * k))) (nI_add _ _) ?_
    refine lv_istore (lv' := [(5, .int (nI ((bgn b) + (8 * k)))), (0, .ref (ad 37)), (1, .int (nI (b))), (2, .int (nI (k))), (3, .long (v))]) hx hb d_Md_put_25 hl (by decide) rfl (fun ls hl => ?_)
    refine lv_iconst (v := nI (0)) hx hb d_Md_put_27 (by decide) ?_
    refine lv_istore (lv' := [(6, .int (nI (0))), (5, .int (nI ((bgn b) + (8 * k)))), (0, .ref (ad 37)), (1, .int (nI (b))), (2, .int (nI (k))), (3, .long (v))]) hx hb d_Md_put_28 hl (by decide) rfl (fun ls hl => ?_)
    have loop2 : ∀ (d t0 : Nat), t0 + d = 8 →  ∀ (ev2 : Nat → va_E) (H : Heap) (locs : List Loc) (ls : Array Slot), ev2 = (va_up ev1 38 (eI G 312 (ns (fil (bgn b + 8 * k) t0 (by8 v) FF)))) → wT G A 52 ad ev2 s H locs → lv_has ls 7 [(6, .int (nI (t0))), (5, .int (nI (bgn b + 8 * k))), (0, .ref (ad 37)), (1, .int (nI (b))), (2, .int (nI (k))), (3, .long (v))] → W p l e ({ frames := 6, cells := 0, slots := 0, locals := 200 }) s m ([.ref (ad 37), .int (nI b), .int (nI k), .long (v)] : List Value).toArray below meth c H locs 0 0 (MQ below (wQc G A 52 ad (fun ov ev' => ∃ (ans : Int32) (Bf' : Nat → Nat → Nat), ov = some (.int ans) ∧ spPut (nI b) (nI k) v Bf ans Bf' ∧ MD G ad ev' Bf' tl ol 0 ∧ ∀ j, j < 37 ∨ 50 < j → ev' j = ev j)) ([.ref (ad 37), .int (nI b), .int (nI k), .long (v)] : List Value).toArray s 0 0 A) (F0 m 30 ls []) := by
      intro d
      induction d with
      | zero =>
        intro t0 hk_t0  ev2 H locs ls  o2 h hl
        have t2_38 : ev2 38 = eI G 312 (ns (fil (bgn b + 8 * k) t0 (by8 v) FF)) := by rw [o2, va_up_self]
        have t2_39 := (show ev2 39 = ev1 39 by rw [o2, va_up_ne _ _ (by decide)]).trans t1_39
        have t2_40 := (show ev2 40 = ev1 40 by rw [o2, va_up_ne _ _ (by decide)]).trans t1_40
        have t2_41 := (show ev2 41 = ev1 41 by rw [o2, va_up_ne _ _ (by decide)]).trans t1_41
        have t2_42 := (show ev2 42 = ev1 42 by rw [o2, va_up_ne _ _ (by decide)]).trans t1_42
        have t2_43 := (show ev2 43 = ev1 43 by rw [o2, va_up_ne _ _ (by decide)]).trans t1_43
        have t2_44 := (show ev2 44 = ev1 44 by rw [o2, va_up_ne _ _ (by decide)]).trans t1_44
        have t2_45 := (show ev2 45 = ev1 45 by rw [o2, va_up_ne _ _ (by decide)]).trans t1_45
        have t2_46 := (show ev2 46 = ev1 46 by rw [o2, va_up_ne _ _ (by decide)]).trans t1_46
        have t2_47 := (show ev2 47 = ev1 47 by rw [o2, va_up_ne _ _ (by decide)]).trans t1_47
        have t2_48 := (show ev2 48 = ev1 48 by rw [o2, va_up_ne _ _ (by decide)]).trans t1_48
        have t2_49 := (show ev2 49 = ev1 49 by rw [o2, va_up_ne _ _ (by decide)]).trans t1_49
        have t2_50 := (show ev2 50 = ev1 50 by rw [o2, va_up_ne _ _ (by decide)]).trans t1_50
        have t2_37 := (show ev2 37 = ev1 37 by rw [o2, va_up_ne _ _ (by decide)]).trans t1_37
        refine lv_iload hx hb d_Md_put_30 (lv_at hl 0 rfl) ?_
        refine lv_bipush (v := nI (8)) hx hb d_Md_put_32 (by decide) ?_
        refine lv_icmp_ge (tgt := 65) hx hb d_Md_put_34 (by decide) (fun _ => ?_) (fun hc => absurd ((nI_leI (by omega) (by omega)).mpr (by omega)) hc)
        refine lv_iconst (v := nI (1)) hx hb d_Md_put_65 (by decide) ?_
        have et : t0 = 8 := by omega
        rw [et] at t2_38
        exact wv_zret hx hb hr hlocks h d_Md_put_66 rfl ⟨_, _, rfl, Or.inl ⟨b, k, by omega, hk, rfl, rfl, rfl, rfl⟩, ⟨t2_37, ⟨_, FB_fil hFB (by omega) (by omega), t2_38⟩, ⟨_, t2_39⟩, ⟨_, t2_40⟩, ⟨_, t2_41⟩, ⟨_, t2_42⟩, ⟨_, t2_43⟩, ⟨_, t2_44⟩, ⟨_, t2_45⟩, ⟨_, t2_46⟩, ⟨_, t2_47⟩, ⟨_, t2_48⟩, ⟨_, t2_49⟩, ⟨_, b50, t2_50⟩, Bf_lt hB (fil_lt (by8_lt v) (hB b)) b, htl, hol⟩, (fun j hj => by rw [o2, va_up_ne _ _ (by omega), o1, va_up_ne _ _ (by omega)])⟩
      | succ d ih =>
        intro t0 hk_t0  ev2 H locs ls  o2 h hl
        have t2_38 : ev2 38 = eI G 312 (ns (fil (bgn b + 8 * k) t0 (by8 v) FF)) := by rw [o2, va_up_self]
        have t2_39 := (show ev2 39 = ev1 39 by rw [o2, va_up_ne _ _ (by decide)]).trans t1_39
        have t2_40 := (show ev2 40 = ev1 40 by rw [o2, va_up_ne _ _ (by decide)]).trans t1_40
        have t2_41 := (show ev2 41 = ev1 41 by rw [o2, va_up_ne _ _ (by decide)]).trans t1_41
        have t2_42 := (show ev2 42 = ev1 42 by rw [o2, va_up_ne _ _ (by decide)]).trans t1_42
        have t2_43 := (show ev2 43 = ev1 43 by rw [o2, va_up_ne _ _ (by decide)]).trans t1_43
        have t2_44 := (show ev2 44 = ev1 44 by rw [o2, va_up_ne _ _ (by decide)]).trans t1_44
        have t2_45 := (show ev2 45 = ev1 45 by rw [o2, va_up_ne _ _ (by decide)]).trans t1_45
        have t2_46 := (show ev2 46 = ev1 46 by rw [o2, va_up_ne _ _ (by decide)]).trans t1_46
        have t2_47 := (show ev2 47 = ev1 47 by rw [o2, va_up_ne _ _ (by decide)]).trans t1_47
        have t2_48 := (show ev2 48 = ev1 48 by rw [o2, va_up_ne _ _ (by decide)]).trans t1_48
        have t2_49 := (show ev2 49 = ev1 49 by rw [o2, va_up_ne _ _ (by decide)]).trans t1_49
        have t2_50 := (show ev2 50 = ev1 50 by rw [o2, va_up_ne _ _ (by decide)]).trans t1_50
        have t2_37 := (show ev2 37 = ev1 37 by rw [o2, va_up_ne _ _ (by decide)]).trans t1_37
        refine lv_iload hx hb d_Md_put_30 (lv_at hl 0 rfl) ?_
        refine lv_bipush (v := nI (8)) hx hb d_Md_put_32 (by decide) ?_
        refine lv_icmp_ge (tgt := 65) hx hb d_Md_put_34 (by decide) (fun hc => absurd ((nI_leI (by omega) (by omega)).mp hc) (by omega)) (fun _ => ?_)
        refine lv_aload_n hx hb d_Md_put_37 rfl (lv_at hl 2 rfl) ?_
        refine wv_getf hx hb h 37 (by decide) (fs := [.ref (ad 38), .int (nI (tl)), .int (nI (ol)), .int (nI (0)), .ref (ad 39), .ref (ad 40), .ref (ad 41), .ref (ad 42), .ref (ad 43), .ref (ad 44), .ref (ad 45), .ref (ad 46), .ref (ad 47), .ref (ad 48), .ref (ad 49), .ref (ad 50)]) t2_37 hts (fun w hw => List.mem_cons_of_mem _ (fW_Md w hw)) hown (ci := 5) (C := "NonceBoxModel") (T := fT_Md) (N := 16) rfl 0 (by decide) (hts _ (List.mem_cons_of_mem _ kf_Md_7)) rfl (v := .ref (ad 38)) rfl d_Md_put_38 ?_
        refine lv_iload hx hb d_Md_put_41 (lv_at hl 1 rfl) ?_
        refine lv_iload hx hb d_Md_put_43 (lv_at hl 0 rfl) ?_
        refine lv_iadd hx hb d_Md_put_45 ?_
        refine wv_top (w := nI ((bgn b + 8 * k) + t0)) (nI_add _ _) ?_
        refine lv_lload_n hx hb d_Md_put_46 rfl (lv_at hl 5 rfl) ?_
        refine lv_bipush (v := nI (8)) hx hb d_Md_put_47 (by decide) ?_
        refine lv_iload hx hb d_Md_put_49 (lv_at hl 0 rfl) ?_
        refine lv_imul hx hb d_Md_put_51 ?_
        refine wv_top (w := nI (8 * t0)) (pk_mul _ _) ?_
        refine lv_lshr (v := sar v (8 * t0)) hx hb d_Md_put_52 rfl ?_
        refine lv_ldc2 (v := 255) hx hb hown (hts _ (List.mem_cons_of_mem _ ko_Md_65)) d_Md_put_53 ?_
        refine lv_land hx hb d_Md_put_56 ?_
        refine lv_l2i hx hb d_Md_put_57 rfl ?_
        refine wv_iast hx hb h 38 (by decide) (f := (ns (fil (bgn b + 8 * k) t0 (by8 v) FF))) t2_38 (k := (bgn b + 8 * k) + t0) rfl (by omega) (by decide) d_Md_put_58 (fun H locs h => ?_)
        obtain ⟨ev3, o3⟩ : ∃ z, z = va_up ev2 38 (eI G 312 (va_up ((ns (fil (bgn b + 8 * k) t0 (by8 v) FF))) ((bgn b + 8 * k) + t0) (((sar v (8 * t0)) &&& 255).toInt32))) := ⟨_, rfl⟩
        rw [← o3] at h
        have t3_38 : ev3 38 = eI G 312 (va_up ((ns (fil (bgn b + 8 * k) t0 (by8 v) FF))) ((bgn b + 8 * k) + t0) (((sar v (8 * t0)) &&& 255).toInt32)) := by rw [o3, va_up_self]
        have t3_39 := (show ev3 39 = ev2 39 by rw [o3, va_up_ne _ _ (by decide)]).trans t2_39
        have t3_40 := (show ev3 40 = ev2 40 by rw [o3, va_up_ne _ _ (by decide)]).trans t2_40
        have t3_41 := (show ev3 41 = ev2 41 by rw [o3, va_up_ne _ _ (by decide)]).trans t2_41
        have t3_42 := (show ev3 42 = ev2 42 by rw [o3, va_up_ne _ _ (by decide)]).trans t2_42
        have t3_43 := (show ev3 43 = ev2 43 by rw [o3, va_up_ne _ _ (by decide)]).trans t2_43
        have t3_44 := (show ev3 44 = ev2 44 by rw [o3, va_up_ne _ _ (by decide)]).trans t2_44
        have t3_45 := (show ev3 45 = ev2 45 by rw [o3, va_up_ne _ _ (by decide)]).trans t2_45
        have t3_46 := (show ev3 46 = ev2 46 by rw [o3, va_up_ne _ _ (by decide)]).trans t2_46
        have t3_47 := (show ev3 47 = ev2 47 by rw [o3, va_up_ne _ _ (by decide)]).trans t2_47
        have t3_48 := (show ev3 48 = ev2 48 by rw [o3, va_up_ne _ _ (by decide)]).trans t2_48
        have t3_49 := (show ev3 49 = ev2 49 by rw [o3, va_up_ne _ _ (by decide)]).trans t2_49
        have t3_50 := (show ev3 50 = ev2 50 by rw [o3, va_up_ne _ _ (by decide)]).trans t2_50
        have t3_37 := (show ev3 37 = ev2 37 by rw [o3, va_up_ne _ _ (by decide)]).trans t2_37
        rw [ns_up _ _ (by8 v t0) (sh_by8 v (by omega)), fil_s _ _ _ _ rfl] at o3
        refine lv_iinc (v := nI (t0 + 1)) (lv' := [(6, .int (nI (t0 + 1))), (5, .int (nI (bgn b + 8 * k))), (0, .ref (ad 37)), (1, .int (nI (b))), (2, .int (nI (k))), (3, .long (v))]) hx hb d_Md_put_59 hl (k := 0) rfl (nI_add _ _) (by decide) rfl (fun ls hl => ?_)
        refine lv_goto (tgt := 30) hx hb d_Md_put_62 (by decide) ?_
        refine ih (t0 + 1) (by omega) ev3 H locs ls ?_ h (lv_sub hl [0, 1, 2, 3, 4, 5] rfl)
        rw [o3, o2, va_up2]
    exact loop2 8 0 rfl ev1 H locs ls (by rw [fil_0, va_upi _ _ t1_38]) h (lv_sub hl [0, 1, 2, 3, 4, 5] rfl)
  · rw [ho]
    refine W.eq (g2 := F0 m 11 ls [.int (nI 0)]) rfl ?_
    refine lv_if_ne (tgt := 16) hx hb d_Md_put_11 (by decide) (fun hc => absurd rfl hc) (fun _ => ?_)
    refine lv_iconst (v := nI (0)) hx hb d_Md_put_14 (by decide) ?_
    exact wv_zret hx hb hr hlocks h d_Md_put_15 rfl ⟨_, _, rfl, Or.inr ⟨fun b2 k hb2 => far b2 k (by omega), rfl, rfl⟩, ⟨t1_37, ⟨_, hFB, t1_38⟩, ⟨_, t1_39⟩, ⟨_, t1_40⟩, ⟨_, t1_41⟩, ⟨_, t1_42⟩, ⟨_, t1_43⟩, ⟨_, t1_44⟩, ⟨_, t1_45⟩, ⟨_, t1_46⟩, ⟨_, t1_47⟩, ⟨_, t1_48⟩, ⟨_, t1_49⟩, ⟨_, b50, t1_50⟩, hB, htl, hol⟩, (fun j hj => by rw [o1, va_up_ne _ _ (by omega)])⟩
theorem d_Md_word_0 : decode c_Md_word 0 = .ok (.aload_n 0, 1) := by decide +kernel
theorem d_Md_word_1 : decode c_Md_word 1 = .ok (.iconst 0, 1) := by decide +kernel
theorem d_Md_word_2 : decode c_Md_word 2 = .ok (.putfield 50, 3) := by decide +kernel
theorem d_Md_word_5 : decode c_Md_word 5 = .ok (.iload_n 1, 1) := by decide +kernel
theorem d_Md_word_6 : decode c_Md_word 6 = .ok (.iload_n 2, 1) := by decide +kernel
theorem d_Md_word_7 : decode c_Md_word 7 = .ok (.iconst 4, 1) := by decide +kernel
theorem d_Md_word_8 : decode c_Md_word 8 = .ok (.invokestatic 58, 3) := by decide +kernel
theorem d_Md_word_11 : decode c_Md_word 11 = .ok (.ifCond .ne 5, 3) := by decide +kernel
theorem d_Md_word_14 : decode c_Md_word 14 = .ok (.lconst 0, 1) := by decide +kernel
theorem d_Md_word_15 : decode c_Md_word 15 = .ok (.lreturn, 1) := by decide +kernel
theorem d_Md_word_16 : decode c_Md_word 16 = .ok (.iload_n 1, 1) := by decide +kernel
theorem d_Md_word_17 : decode c_Md_word 17 = .ok (.invokestatic 62, 3) := by decide +kernel
theorem d_Md_word_20 : decode c_Md_word 20 = .ok (.bipush 8, 2) := by decide +kernel
theorem d_Md_word_22 : decode c_Md_word 22 = .ok (.iload_n 2, 1) := by decide +kernel
theorem d_Md_word_23 : decode c_Md_word 23 = .ok (.imul, 1) := by decide +kernel
theorem d_Md_word_24 : decode c_Md_word 24 = .ok (.iadd, 1) := by decide +kernel
theorem d_Md_word_25 : decode c_Md_word 25 = .ok (.istore_n 3, 1) := by decide +kernel
theorem d_Md_word_26 : decode c_Md_word 26 = .ok (.lconst 0, 1) := by decide +kernel
theorem d_Md_word_27 : decode c_Md_word 27 = .ok (.lstore 4, 2) := by decide +kernel
theorem d_Md_word_29 : decode c_Md_word 29 = .ok (.iconst 0, 1) := by decide +kernel
theorem d_Md_word_30 : decode c_Md_word 30 = .ok (.istore 6, 2) := by decide +kernel
theorem d_Md_word_32 : decode c_Md_word 32 = .ok (.iload 6, 2) := by decide +kernel
theorem d_Md_word_34 : decode c_Md_word 34 = .ok (.bipush 8, 2) := by decide +kernel
theorem d_Md_word_36 : decode c_Md_word 36 = .ok (.if_icmp .ge 30, 3) := by decide +kernel
theorem d_Md_word_39 : decode c_Md_word 39 = .ok (.lload 4, 2) := by decide +kernel
theorem d_Md_word_41 : decode c_Md_word 41 = .ok (.aload_n 0, 1) := by decide +kernel
theorem d_Md_word_42 : decode c_Md_word 42 = .ok (.getfield 7, 3) := by decide +kernel
theorem d_Md_word_45 : decode c_Md_word 45 = .ok (.iload_n 3, 1) := by decide +kernel
theorem d_Md_word_46 : decode c_Md_word 46 = .ok (.iload 6, 2) := by decide +kernel
theorem d_Md_word_48 : decode c_Md_word 48 = .ok (.iadd, 1) := by decide +kernel
theorem d_Md_word_49 : decode c_Md_word 49 = .ok (.iaload, 1) := by decide +kernel
theorem d_Md_word_50 : decode c_Md_word 50 = .ok (.i2l, 1) := by decide +kernel
theorem d_Md_word_51 : decode c_Md_word 51 = .ok (.bipush 8, 2) := by decide +kernel
theorem d_Md_word_53 : decode c_Md_word 53 = .ok (.iload 6, 2) := by decide +kernel
theorem d_Md_word_55 : decode c_Md_word 55 = .ok (.imul, 1) := by decide +kernel
theorem d_Md_word_56 : decode c_Md_word 56 = .ok (.lshl, 1) := by decide +kernel
theorem d_Md_word_57 : decode c_Md_word 57 = .ok (.lor, 1) := by decide +kernel
theorem d_Md_word_58 : decode c_Md_word 58 = .ok (.lstore 4, 2) := by decide +kernel
theorem d_Md_word_60 : decode c_Md_word 60 = .ok (.iinc 6 1, 3) := by decide +kernel
theorem d_Md_word_63 : decode c_Md_word 63 = .ok (.goto (-31), 3) := by decide +kernel
theorem d_Md_word_66 : decode c_Md_word 66 = .ok (.lload 4, 2) := by decide +kernel
theorem d_Md_word_68 : decode c_Md_word 68 = .ok (.lreturn, 1) := by decide +kernel
set_option maxRecDepth 100000 in
set_option maxHeartbeats 4000000 in
/-- word -/
theorem m_Md_word (l : Launch) (G : wG) (A : Nat → Prop) (ad : Nat → Nat) (ev : Nat → va_E) (x i : Int32) (Bf : Nat → Nat → Nat) (tl ol cd : Nat) (hMD : MD G ad ev Bf tl ol cd) : wM l y_Md_word w_Md_word ({ frames := 6, cells := 0, slots := 0, locals := 200 }) G A 52 ad ev [.ref (ad 37), .int (x), .int (i)] (fun ov ev' => ∃ ans : Int64, ov = some (.long ans) ∧ spWord x i Bf ans ∧ MD G ad ev' Bf tl ol 0 ∧ ∀ j, j < 37 ∨ 50 < j → ev' j = ev j) := by
  refine wv_ofW (cc := c_Md_word) (maxL := 7) (ret := (Option.some FieldType.long)) (by decide) rfl (Nat.le_of_ble_eq_true rfl) ?_
  intro p e s m below meth c ls hx hb hr hml hts hown hlocks hini h hl
  have hl : lv_has ls 7 [(0, .ref (ad 37)), (1, .int (x)), (2, .int (i))] := hl
  obtain ⟨g37, ⟨FF, hFB, g38⟩, ⟨x39, g39⟩, ⟨x40, g40⟩, ⟨x41, g41⟩, ⟨x42, g42⟩, ⟨x43, g43⟩, ⟨x44, g44⟩, ⟨x45, g45⟩, ⟨x46, g46⟩, ⟨x47, g47⟩, ⟨x48, g48⟩, ⟨x49, g49⟩, ⟨x50, b50, g50⟩, hB, htl, hol⟩ := hMD
  refine lv_aload_n hx hb d_Md_word_0 rfl (lv_at hl 0 rfl) ?_
  refine lv_iconst (v := nI (0)) hx hb d_Md_word_1 (by decide) ?_
  refine wv_putf hx hb h 37 (by decide) (fs := [.ref (ad 38), .int (nI (tl)), .int (nI (ol)), .int (nI (cd)), .ref (ad 39), .ref (ad 40), .ref (ad 41), .ref (ad 42), .ref (ad 43), .ref (ad 44), .ref (ad 45), .ref (ad 46), .ref (ad 47), .ref (ad 48), .ref (ad 49), .ref (ad 50)]) g37 hts (fun w hw => List.mem_cons_of_mem _ (fW_Md w hw)) fY_Md fK_Md fN_Md hown (ci := 5) (C := "NonceBoxModel") (T := fT_Md) (N := 16) rfl 3 (by decide) (hts _ (List.mem_cons_of_mem _ kf_Md_50)) rfl rfl (v := .int (nI (0))) rfl rfl (Nat.le_of_ble_eq_true rfl) d_Md_word_2 (fun H locs h => ?_)
  have h : wT G A 52 ad (va_up ev 37 (eO 5 [.ref (ad 38), .int (nI (tl)), .int (nI (ol)), .int (nI (0)), .ref (ad 39), .ref (ad 40), .ref (ad 41), .ref (ad 42), .ref (ad 43), .ref (ad 44), .ref (ad 45), .ref (ad 46), .ref (ad 47), .ref (ad 48), .ref (ad 49), .ref (ad 50)])) s H locs := h
  obtain ⟨ev1, o1⟩ : ∃ z, z = va_up ev 37 (eO 5 [.ref (ad 38), .int (nI (tl)), .int (nI (ol)), .int (nI (0)), .ref (ad 39), .ref (ad 40), .ref (ad 41), .ref (ad 42), .ref (ad 43), .ref (ad 44), .ref (ad 45), .ref (ad 46), .ref (ad 47), .ref (ad 48), .ref (ad 49), .ref (ad 50)]) := ⟨_, rfl⟩
  rw [← o1] at h
  have t1_37 : ev1 37 = eO 5 [.ref (ad 38), .int (nI (tl)), .int (nI (ol)), .int (nI (0)), .ref (ad 39), .ref (ad 40), .ref (ad 41), .ref (ad 42), .ref (ad 43), .ref (ad 44), .ref (ad 45), .ref (ad 46), .ref (ad 47), .ref (ad 48), .ref (ad 49), .ref (ad 50)] := by rw [o1, va_up_self]
  have t1_38 := (show ev1 38 = ev 38 by rw [o1, va_up_ne _ _ (by decide)]).trans g38
  have t1_39 := (show ev1 39 = ev 39 by rw [o1, va_up_ne _ _ (by decide)]).trans g39
  have t1_40 := (show ev1 40 = ev 40 by rw [o1, va_up_ne _ _ (by decide)]).trans g40
  have t1_41 := (show ev1 41 = ev 41 by rw [o1, va_up_ne _ _ (by decide)]).trans g41
  have t1_42 := (show ev1 42 = ev 42 by rw [o1, va_up_ne _ _ (by decide)]).trans g42
  have t1_43 := (show ev1 43 = ev 43 by rw [o1, va_up_ne _ _ (by decide)]).trans g43
  have t1_44 := (show ev1 44 = ev 44 by rw [o1, va_up_ne _ _ (by decide)]).trans g44
  have t1_45 := (show ev1 45 = ev 45 by rw [o1, va_up_ne _ _ (by decide)]).trans g45
  have t1_46 := (show ev1 46 = ev 46 by rw [o1, va_up_ne _ _ (by decide)]).trans g46
  have t1_47 := (show ev1 47 = ev 47 by rw [o1, va_up_ne _ _ (by decide)]).trans g47
  have t1_48 := (show ev1 48 = ev 48 by rw [o1, va_up_ne _ _ (by decide)]).trans g48
  have t1_49 := (show ev1 49 = ev 49 by rw [o1, va_up_ne _ _ (by decide)]).trans g49
  have t1_50 := (show ev1 50 = ev 50 by rw [o1, va_up_ne _ _ (by decide)]).trans g50
  refine lv_iload_n hx hb d_Md_word_5 rfl (lv_at hl 1 rfl) ?_
  refine lv_iload_n hx hb d_Md_word_6 rfl (lv_at hl 2 rfl) ?_
  refine lv_iconst (v := nI (4)) hx hb d_Md_word_7 (by decide) ?_
  refine wv_Sx (As := [.int (x), .int (i), .int (nI (4))]) (rest := []) (k := 3) ⟨hx, hb, hml, hown, hts⟩ h (m_Md_fits l G A ad ev1 x i 4 (by decide)) kc_Md_fits kl_Md_58 ks_Md_fits ki_Md (by decide +kernel) ⟨rfl, rfl, Nat.le_of_ble_eq_true rfl, Nat.le_of_ble_eq_true rfl⟩ hl.1 rfl rfl (Nat.le_of_ble_eq_true rfl) ⟨Nat.le_refl _, Nat.le_refl _⟩ d_Md_word_8 ?_
  intro ov ev9 H locs hp h
  obtain ⟨he, hp⟩ := hp
  rw [he] at h
  rcases hp with ⟨b, k, hb4, hk, rfl, rfl, ho⟩ | ⟨far, ho⟩
  · rw [ho]
    refine W.eq (g2 := F0 m 11 ls [.int (nI 1)]) rfl ?_
    refine lv_if_ne (tgt := 16) hx hb d_Md_word_11 (by decide) (fun _ => ?_) (fun hc => absurd hc (by decide))
    have hbs := bsz_in b
    have hbi := bgn_in b (by omega)
    refine lv_iload_n hx hb d_Md_word_16 rfl (lv_at hl 1 rfl) ?_
    refine wv_Sx (As := [.int (nI (b))]) (rest := []) (k := 1) ⟨hx, hb, hml, hown, hts⟩ h (m_Md_begin l G A ad ev1 b (by omega)) kc_Md_begin kl_Md_62 ks_Md_begin ki_Md (by decide +kernel) ⟨rfl, rfl, Nat.le_of_ble_eq_true rfl, Nat.le_of_ble_eq_true rfl⟩ hl.1 rfl rfl (Nat.le_of_ble_eq_true rfl) ⟨Nat.le_refl _, Nat.le_refl _⟩ d_Md_word_17 ?_
    intro ov ev2 H locs hp h
    rw [hp.1]
    refine W.eq (g2 := F0 m 20 ls [.int (nI (bgn b))]) rfl ?_
    rw [hp.2] at h
    refine lv_bipush (v := nI (8)) hx hb d_Md_word_20 (by decide) ?_
    refine lv_iload_n hx hb d_Md_word_22 rfl (lv_at hl 2 rfl) ?_
    refine lv_imul hx hb d_Md_word_23 ?_
    refine wv_top (w := nI (8 * k)) (pk_mul _ _) ?_
    refine lv_iadd hx hb d_Md_word_24 ?_
    refine wv_top (w := nI ((bgn b) + (8 * k))) (nI_add _ _) ?_
    refine lv_istore_n (lv' := [(3, .int (nI ((bgn b) + (8 * k)))), (0, .ref (ad 37)), (1, .int (nI (b))), (2, .int (nI (k)))]) hx hb d_Md_word_25 rfl hl (by decide) rfl (fun ls hl => ?_)
    refine lv_lconst (v := 0) hx hb d_Md_word_26 (by decide) ?_
    refine lv_lstore (lv' := [(4, .long (0)), (3, .int (nI ((bgn b) + (8 * k)))), (0, .ref (ad 37)), (1, .int (nI (b))), (2, .int (nI (k)))]) hx hb d_Md_word_27 hl (by decide) rfl (fun ls hl => ?_)
    refine lv_iconst (v := nI (0)) hx hb d_Md_word_29 (by decide) ?_
    refine lv_istore (lv' := [(6, .int (nI (0))), (4, .long (0)), (3, .int (nI ((bgn b) + (8 * k)))), (0, .ref (ad 37)), (1, .int (nI (b))), (2, .int (nI (k)))]) hx hb d_Md_word_30 hl (by decide) rfl (fun ls hl => ?_)
    have loop : ∀ (d t0 : Nat), t0 + d = 8 → ∀ (ls : Array Slot), lv_has ls 7 [(6, .int (nI (t0))), (4, .long (lN (wd8 (Bf b) (8 * k) t0))), (3, .int (nI (bgn b + 8 * k))), (0, .ref (ad 37)), (1, .int (nI (b))), (2, .int (nI (k)))] → W p l e ({ frames := 6, cells := 0, slots := 0, locals := 200 }) s m ([.ref (ad 37), .int (nI b), .int (nI k)] : List Value).toArray below meth c H locs 0 0 (MQ below (wQc G A 52 ad (fun ov ev' => ∃ ans : Int64, ov = some (.long ans) ∧ spWord (nI b) (nI k) Bf ans ∧ MD G ad ev' Bf tl ol 0 ∧ ∀ j, j < 37 ∨ 50 < j → ev' j = ev j)) ([.ref (ad 37), .int (nI b), .int (nI k)] : List Value).toArray s 0 0 A) (F0 m 32 ls []) := by
      intro d
      induction d with
      | zero =>
        intro t0 ht0 ls hl
        refine lv_iload hx hb d_Md_word_32 (lv_at hl 0 rfl) ?_
        refine lv_bipush (v := nI (8)) hx hb d_Md_word_34 (by decide) ?_
        refine lv_icmp_ge (tgt := 66) hx hb d_Md_word_36 (by decide) (fun _ => ?_) (fun hc => absurd ((nI_leI (by omega) (by omega)).mpr (by omega)) hc)
        refine lv_lload hx hb d_Md_word_66 (lv_at hl 1 rfl) ?_
        exact wv_lret hx hb hr hlocks h d_Md_word_68 ⟨_, rfl, Or.inl ⟨b, k, by omega, hk, rfl, rfl, by rw [show t0 = 8 by omega]⟩, ⟨t1_37, ⟨_, hFB, t1_38⟩, ⟨_, t1_39⟩, ⟨_, t1_40⟩, ⟨_, t1_41⟩, ⟨_, t1_42⟩, ⟨_, t1_43⟩, ⟨_, t1_44⟩, ⟨_, t1_45⟩, ⟨_, t1_46⟩, ⟨_, t1_47⟩, ⟨_, t1_48⟩, ⟨_, t1_49⟩, ⟨_, b50, t1_50⟩, hB, htl, hol⟩, (fun j hj => by rw [o1, va_up_ne _ _ (by omega)])⟩
      | succ d ih =>
        intro t0 ht0 ls hl
        refine lv_iload hx hb d_Md_word_32 (lv_at hl 0 rfl) ?_
        refine lv_bipush (v := nI (8)) hx hb d_Md_word_34 (by decide) ?_
        refine lv_icmp_ge (tgt := 66) hx hb d_Md_word_36 (by decide) (fun hc => absurd ((nI_leI (by omega) (by omega)).mp hc) (by omega)) (fun _ => ?_)
        refine lv_lload hx hb d_Md_word_39 (lv_at hl 1 rfl) ?_
        refine lv_aload_n hx hb d_Md_word_41 rfl (lv_at hl 3 rfl) ?_
        refine wv_getf hx hb h 37 (by decide) (fs := [.ref (ad 38), .int (nI (tl)), .int (nI (ol)), .int (nI (0)), .ref (ad 39), .ref (ad 40), .ref (ad 41), .ref (ad 42), .ref (ad 43), .ref (ad 44), .ref (ad 45), .ref (ad 46), .ref (ad 47), .ref (ad 48), .ref (ad 49), .ref (ad 50)]) t1_37 hts (fun w hw => List.mem_cons_of_mem _ (fW_Md w hw)) hown (ci := 5) (C := "NonceBoxModel") (T := fT_Md) (N := 16) rfl 0 (by decide) (hts _ (List.mem_cons_of_mem _ kf_Md_7)) rfl (v := .ref (ad 38)) rfl d_Md_word_42 ?_
        refine lv_iload_n hx hb d_Md_word_45 rfl (lv_at hl 2 rfl) ?_
        refine lv_iload hx hb d_Md_word_46 (lv_at hl 0 rfl) ?_
        refine lv_iadd hx hb d_Md_word_48 ?_
        refine wv_top (w := nI ((bgn b + 8 * k) + t0)) (nI_add _ _) ?_
        refine wv_iald hx hb h 38 (by decide) (f := (ns FF)) t1_38 (k := (bgn b + 8 * k) + t0) rfl (by omega) (by decide) d_Md_word_49 ?_
        refine wv_top (w := nI (Bf b (8 * k + t0))) (congrArg nI (by rw [show bgn b + 8 * k + t0 = bgn b + (8 * k + t0) by omega]; exact hFB b (by omega) _ (by omega))) ?_
        refine lv_i2l hx hb d_Md_word_50 rfl ?_
        refine lv_bipush (v := nI (8)) hx hb d_Md_word_51 (by decide) ?_
        refine lv_iload hx hb d_Md_word_53 (lv_at hl 0 rfl) ?_
        refine lv_imul hx hb d_Md_word_55 ?_
        refine wv_top (w := nI (8 * t0)) (pk_mul _ _) ?_
        refine lv_lshl (v := sal ((nI (Bf b (8 * k + t0))).toInt64) (8 * t0)) hx hb d_Md_word_56 rfl ?_
        refine lv_lor hx hb d_Md_word_57 ?_
        refine wv_topl (w := lN (wd8 (Bf b) (8 * k) (t0 + 1))) (wd_s (hB b) _ (by omega)) ?_
        refine lv_lstore (lv' := [(4, .long (lN (wd8 (Bf b) (8 * k) (t0 + 1)))), (6, .int (nI (t0))), (3, .int (nI (bgn b + 8 * k))), (0, .ref (ad 37)), (1, .int (nI (b))), (2, .int (nI (k)))]) hx hb d_Md_word_58 hl (by decide) rfl (fun ls hl => ?_)
        refine lv_iinc (v := nI (t0 + 1)) (lv' := [(6, .int (nI (t0 + 1))), (4, .long (lN (wd8 (Bf b) (8 * k) (t0 + 1)))), (3, .int (nI (bgn b + 8 * k))), (0, .ref (ad 37)), (1, .int (nI (b))), (2, .int (nI (k)))]) hx hb d_Md_word_60 hl (k := 1) rfl (nI_add _ _) (by decide) rfl (fun ls hl => ?_)
        refine lv_goto (tgt := 32) hx hb d_Md_word_63 (by decide) ?_
        exact ih (t0 + 1) (by omega) ls (lv_sub hl [0, 1, 2, 3, 4, 5] rfl)
    exact loop 8 0 rfl ls (lv_sub hl [0, 1, 2, 3, 4, 5] rfl)
  · rw [ho]
    refine W.eq (g2 := F0 m 11 ls [.int (nI 0)]) rfl ?_
    refine lv_if_ne (tgt := 16) hx hb d_Md_word_11 (by decide) (fun hc => absurd rfl hc) (fun _ => ?_)
    refine lv_lconst (v := 0) hx hb d_Md_word_14 (by decide) ?_
    exact wv_lret hx hb hr hlocks h d_Md_word_15 ⟨_, rfl, Or.inr ⟨fun b2 k hb2 => far b2 k (by omega), rfl⟩, ⟨t1_37, ⟨_, hFB, t1_38⟩, ⟨_, t1_39⟩, ⟨_, t1_40⟩, ⟨_, t1_41⟩, ⟨_, t1_42⟩, ⟨_, t1_43⟩, ⟨_, t1_44⟩, ⟨_, t1_45⟩, ⟨_, t1_46⟩, ⟨_, t1_47⟩, ⟨_, t1_48⟩, ⟨_, t1_49⟩, ⟨_, b50, t1_50⟩, hB, htl, hol⟩, (fun j hj => by rw [o1, va_up_ne _ _ (by omega)])⟩
