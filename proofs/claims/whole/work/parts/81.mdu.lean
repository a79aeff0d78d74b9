/-! the reference's tag, walked -/
def limT (k : Nat) : Nat := if k % 4 = 3 then 15 else if k % 4 = 0 ∧ 0 < k then 252 else 255
theorem n15 : ∀ c, c < 256 → nI c &&& nI 15 = nI (c % 16) := by decide +kernel
theorem n252 : ∀ c, c < 256 → nI c &&& nI 252 = nI (c / 4 * 4) := by decide +kernel
theorem n255 : ∀ c, c < 256 → nI c &&& nI 255 = nI c := by decide +kernel
theorem lim_and {K : Nat → Nat} (hK : ∀ j, K j < 256) (k : Nat) : nI (K k) &&& nI (limT k) = nI (FCT K k) := by
  unfold limT FCT
  by_cases h1 : k % 4 = 3
  · rw [if_pos h1, if_pos h1]; exact n15 _ (hK k)
  · rw [if_neg h1, if_neg h1]
    by_cases h2 : k % 4 = 0 ∧ 0 < k
    · rw [if_pos h2, if_pos h2]; exact n252 _ (hK k)
    · rw [if_neg h2, if_neg h2]; exact n255 _ (hK k)
theorem nb_bit : ∀ c, c < 256 → ∀ b, b < 8 → nI c >>> (nI b &&& 31) &&& (1 : Int32) = nI (c / 2 ^ b % 2) := by decide +kernel
def adT (f : Nat → Int64) (k c : Nat) : Nat → (Nat → Int64)
  | 0 => f
  | b + 1 => va_up (adT f k c b) ((8 * k + b) / 26) (adT f k c b ((8 * k + b) / 26) + sal (nI (c / 2 ^ b % 2)).toInt64 ((8 * k + b) % 26))
theorem d_Md_limitOf_0 : decode c_Md_limitOf 0 = .ok (.iload_n 0, 1) := by decide +kernel
theorem d_Md_limitOf_1 : decode c_Md_limitOf 1 = .ok (.iconst 4, 1) := by decide +kernel
theorem d_Md_limitOf_2 : decode c_Md_limitOf 2 = .ok (.irem, 1) := by decide +kernel
theorem d_Md_limitOf_3 : decode c_Md_limitOf 3 = .ok (.iconst 3, 1) := by decide +kernel
theorem d_Md_limitOf_4 : decode c_Md_limitOf 4 = .ok (.if_icmp .ne 8, 3) := by decide +kernel
theorem d_Md_limitOf_7 : decode c_Md_limitOf 7 = .ok (.bipush 15, 2) := by decide +kernel
theorem d_Md_limitOf_9 : decode c_Md_limitOf 9 = .ok (.goto 22, 3) := by decide +kernel
theorem d_Md_limitOf_12 : decode c_Md_limitOf 12 = .ok (.iload_n 0, 1) := by decide +kernel
theorem d_Md_limitOf_13 : decode c_Md_limitOf 13 = .ok (.iconst 4, 1) := by decide +kernel
theorem d_Md_limitOf_14 : decode c_Md_limitOf 14 = .ok (.irem, 1) := by decide +kernel
theorem d_Md_limitOf_15 : decode c_Md_limitOf 15 = .ok (.ifCond .ne 13, 3) := by decide +kernel
theorem d_Md_limitOf_18 : decode c_Md_limitOf 18 = .ok (.iload_n 0, 1) := by decide +kernel
theorem d_Md_limitOf_19 : decode c_Md_limitOf 19 = .ok (.ifCond .le 9, 3) := by decide +kernel
theorem d_Md_limitOf_22 : decode c_Md_limitOf 22 = .ok (.sipush 252, 3) := by decide +kernel
theorem d_Md_limitOf_25 : decode c_Md_limitOf 25 = .ok (.goto 6, 3) := by decide +kernel
theorem d_Md_limitOf_28 : decode c_Md_limitOf 28 = .ok (.sipush 255, 3) := by decide +kernel
theorem d_Md_limitOf_31 : decode c_Md_limitOf 31 = .ok (.ireturn, 1) := by decide +kernel
set_option maxRecDepth 100000 in
set_option maxHeartbeats 4000000 in
/-- which bits of r -/
theorem m_Md_limitOf (l : Launch) (G : wG) (A : Nat → Prop) (ad : Nat → Nat) (ev : Nat → va_E) (k : Nat) (hk : k < 16) : wM l y_Md_limitOf w_Md_limitOf ({ frames := 0, cells := 0, slots := 0, locals := 0 }) G A 52 ad ev [.int (nI (k))] (fun ov ev' => ov = some (.int (nI (limT k))) ∧ ev' = ev) := by
  refine wv_ofW (cc := c_Md_limitOf) (maxL := 1) (ret := (Option.some FieldType.int)) (by decide) rfl (Nat.le_of_ble_eq_true rfl) ?_
  intro p e s m below meth c ls hx hb hr hml hts hown hlocks hini h hl
  have hl : lv_has ls 1 [(0, .int (nI (k)))] := hl
  rcases (show k = 0 ∨ k = 1 ∨ k = 2 ∨ k = 3 ∨ k = 4 ∨ k = 5 ∨ k = 6 ∨ k = 7 ∨ k = 8 ∨ k = 9 ∨ k = 10 ∨ k = 11 ∨ k = 12 ∨ k = 13 ∨ k = 14 ∨ k = 15 by omega) with rfl | rfl | rfl | rfl | rfl | rfl | rfl | rfl | rfl | rfl | rfl | rfl | rfl | rfl | rfl | rfl
  · skip
    refine lv_iload_n hx hb d_Md_limitOf_0 rfl (lv_at hl 0 rfl) ?_
    refine lv_iconst (v := nI (4)) hx hb d_Md_limitOf_1 (by decide) ?_
    refine lv_irem hx hb d_Md_limitOf_2 (by decide) ?_
    refine wv_top (w := nI (0)) (by decide) ?_
    refine lv_iconst (v := nI (3)) hx hb d_Md_limitOf_3 (by decide) ?_
    refine lv_icmp_ne (tgt := 12) hx hb d_Md_limitOf_4 (by decide) (fun _ => ?_) (fun hc => absurd hc (by decide))
    refine lv_iload_n hx hb d_Md_limitOf_12 rfl (lv_at hl 0 rfl) ?_
    refine lv_iconst (v := nI (4)) hx hb d_Md_limitOf_13 (by decide) ?_
    refine lv_irem hx hb d_Md_limitOf_14 (by decide) ?_
    refine wv_top (w := nI (0)) (by decide) ?_
    refine lv_if_ne (tgt := 28) hx hb d_Md_limitOf_15 (by decide) (fun hc => absurd rfl hc) (fun _ => ?_)
    refine lv_iload_n hx hb d_Md_limitOf_18 rfl (lv_at hl 0 rfl) ?_
    refine lv_if_le (tgt := 28) hx hb d_Md_limitOf_19 (by decide) (fun _ => ?_) (fun hc => absurd (by decide) hc)
    refine lv_sipush (v := nI (255)) hx hb d_Md_limitOf_28 (by decide) ?_
    exact wv_iret hx hb hr hlocks h d_Md_limitOf_31 ⟨rfl, rfl⟩
  · skip
    refine lv_iload_n hx hb d_Md_limitOf_0 rfl (lv_at hl 0 rfl) ?_
    refine lv_iconst (v := nI (4)) hx hb d_Md_limitOf_1 (by decide) ?_
    refine lv_irem hx hb d_Md_limitOf_2 (by decide) ?_
    refine wv_top (w := nI (1)) (by decide) ?_
    refine lv_iconst (v := nI (3)) hx hb d_Md_limitOf_3 (by decide) ?_
    refine lv_icmp_ne (tgt := 12) hx hb d_Md_limitOf_4 (by decide) (fun _ => ?_) (fun hc => absurd hc (by decide))
    refine lv_iload_n hx hb d_Md_limitOf_12 rfl (lv_at hl 0 rfl) ?_
    refine lv_iconst (v := nI (4)) hx hb d_Md_limitOf_13 (by decide) ?_
    refine lv_irem hx hb d_Md_limitOf_14 (by decide) ?_
    refine wv_top (w := nI (1)) (by decide) ?_
    refine lv_if_ne (tgt := 28) hx hb d_Md_limitOf_15 (by decide) (fun _ => ?_) (fun hc => absurd hc (by decide))
    refine lv_sipush (v := nI (255)) hx hb d_Md_limitOf_28 (by decide) ?_
    exact wv_iret hx hb hr hlocks h d_Md_limitOf_31 ⟨rfl, rfl⟩
  · skip
    refine lv_iload_n hx hb d_Md_limitOf_0 rfl (lv_at hl 0 rfl) ?_
    refine lv_iconst (v := nI (4)) hx hb d_Md_limitOf_1 (by decide) ?_
    refine lv_irem hx hb d_Md_limitOf_2 (by decide) ?_
    refine wv_top (w := nI (2)) (by decide) ?_
    refine lv_iconst (v := nI (3)) hx hb d_Md_limitOf_3 (by decide) ?_
    refine lv_icmp_ne (tgt := 12) hx hb d_Md_limitOf_4 (by decide) (fun _ => ?_) (fun hc => absurd hc (by decide))
    refine lv_iload_n hx hb d_Md_limitOf_12 rfl (lv_at hl 0 rfl) ?_
    refine lv_iconst (v := nI (4)) hx hb d_Md_limitOf_13 (by decide) ?_
    refine lv_irem hx hb d_Md_limitOf_14 (by decide) ?_
    refine wv_top (w := nI (2)) (by decide) ?_
    refine lv_if_ne (tgt := 28) hx hb d_Md_limitOf_15 (by decide) (fun _ => ?_) (fun hc => absurd hc (by decide))
    refine lv_sipush (v := nI (255)) hx hb d_Md_limitOf_28 (by decide) ?_
    exact wv_iret hx hb hr hlocks h d_Md_limitOf_31 ⟨rfl, rfl⟩
  · skip
    refine lv_iload_n hx hb d_Md_limitOf_0 rfl (lv_at hl 0 rfl) ?_
    refine lv_iconst (v := nI (4)) hx hb d_Md_limitOf_1 (by decide) ?_
    refine lv_irem hx hb d_Md_limitOf_2 (by decide) ?_
    refine wv_top (w := nI (3)) (by decide) ?_
    refine lv_iconst (v := nI (3)) hx hb d_Md_limitOf_3 (by decide) ?_
    refine lv_icmp_ne (tgt := 12) hx hb d_Md_limitOf_4 (by decide) (fun hc => absurd rfl hc) (fun _ => ?_)
    refine lv_bipush (v := nI (15)) hx hb d_Md_limitOf_7 (by decide) ?_
    refine lv_goto (tgt := 31) hx hb d_Md_limitOf_9 (by decide) ?_
    exact wv_iret hx hb hr hlocks h d_Md_limitOf_31 ⟨rfl, rfl⟩
  · skip
    refine lv_iload_n hx hb d_Md_limitOf_0 rfl (lv_at hl 0 rfl) ?_
    refine lv_iconst (v := nI (4)) hx hb d_Md_limitOf_1 (by decide) ?_
    refine lv_irem hx hb d_Md_limitOf_2 (by decide) ?_
    refine wv_top (w := nI (0)) (by decide) ?_
    refine lv_iconst (v := nI (3)) hx hb d_Md_limitOf_3 (by decide) ?_
    refine lv_icmp_ne (tgt := 12) hx hb d_Md_limitOf_4 (by decide) (fun _ => ?_) (fun hc => absurd hc (by decide))
    refine lv_iload_n hx hb d_Md_limitOf_12 rfl (lv_at hl 0 rfl) ?_
    refine lv_iconst (v := nI (4)) hx hb d_Md_limitOf_13 (by decide) ?_
    refine lv_irem hx hb d_Md_limitOf_14 (by decide) ?_
    refine wv_top (w := nI (0)) (by decide) ?_
    refine lv_if_ne (tgt := 28) hx hb d_Md_limitOf_15 (by decide) (fun hc => absurd rfl hc) (fun _ => ?_)
    refine lv_iload_n hx hb d_Md_limitOf_18 rfl (lv_at hl 0 rfl) ?_
    refine lv_if_le (tgt := 28) hx hb d_Md_limitOf_19 (by decide) (fun hc => absurd hc (by decide)) (fun _ => ?_)
    refine lv_sipush (v := nI (252)) hx hb d_Md_limitOf_22 (by decide) ?_
    refine lv_goto (tgt := 31) hx hb d_Md_limitOf_25 (by decide) ?_
    exact wv_iret hx hb hr hlocks h d_Md_limitOf_31 ⟨rfl, rfl⟩
  · skip
    refine lv_iload_n hx hb d_Md_limitOf_0 rfl (lv_at hl 0 rfl) ?_
    refine lv_iconst (v := nI (4)) hx hb d_Md_limitOf_1 (by decide) ?_
    refine lv_irem hx hb d_Md_limitOf_2 (by decide) ?_
    refine wv_top (w := nI (1)) (by decide) ?_
    refine lv_iconst (v := nI (3)) hx hb d_Md_limitOf_3 (by decide) ?_
    refine lv_icmp_ne (tgt := 12) hx hb d_Md_limitOf_4 (by decide) (fun _ => ?_) (fun hc => absurd hc (by decide))
    refine lv_iload_n hx hb d_Md_limitOf_12 rfl (lv_at hl 0 rfl) ?_
    refine lv_iconst (v := nI (4)) hx hb d_Md_limitOf_13 (by decide) ?_
    refine lv_irem hx hb d_Md_limitOf_14 (by decide) ?_
    refine wv_top (w := nI (1)) (by decide) ?_
    refine lv_if_ne (tgt := 28) hx hb d_Md_limitOf_15 (by decide) (fun _ => ?_) (fun hc => absurd hc (by decide))
    refine lv_sipush (v := nI (255)) hx hb d_Md_limitOf_28 (by decide) ?_
    exact wv_iret hx hb hr hlocks h d_Md_limitOf_31 ⟨rfl, rfl⟩
  · skip
    refine lv_iload_n hx hb d_Md_limitOf_0 rfl (lv_at hl 0 rfl) ?_
    refine lv_iconst (v := nI (4)) hx hb d_Md_limitOf_1 (by decide) ?_
    refine lv_irem hx hb d_Md_limitOf_2 (by decide) ?_
    refine wv_top (w := nI (2)) (by decide) ?_
    refine lv_iconst (v := nI (3)) hx hb d_Md_limitOf_3 (by decide) ?_
    refine lv_icmp_ne (tgt := 12) hx hb d_Md_limitOf_4 (by decide) (fun _ => ?_) (fun hc => absurd hc (by decide))
    refine lv_iload_n hx hb d_Md_limitOf_12 rfl (lv_at hl 0 rfl) ?_
    refine lv_iconst (v := nI (4)) hx hb d_Md_limitOf_13 (by decide) ?_
    refine lv_irem hx hb d_Md_limitOf_14 (by decide) ?_
    refine wv_top (w := nI (2)) (by decide) ?_
    refine lv_if_ne (tgt := 28) hx hb d_Md_limitOf_15 (by decide) (fun _ => ?_) (fun hc => absurd hc (by decide))
    refine lv_sipush (v := nI (255)) hx hb d_Md_limitOf_28 (by decide) ?_
    exact wv_iret hx hb hr hlocks h d_Md_limitOf_31 ⟨rfl, rfl⟩
  · skip
    refine lv_iload_n hx hb d_Md_limitOf_0 rfl (lv_at hl 0 rfl) ?_
    refine lv_iconst (v := nI (4)) hx hb d_Md_limitOf_1 (by decide) ?_
    refine lv_irem hx hb d_Md_limitOf_2 (by decide) ?_
    refine wv_top (w := nI (3)) (by decide) ?_
    refine lv_iconst (v := nI (3)) hx hb d_Md_limitOf_3 (by decide) ?_
    refine lv_icmp_ne (tgt := 12) hx hb d_Md_limitOf_4 (by decide) (fun hc => absurd rfl hc) (fun _ => ?_)
    refine lv_bipush (v := nI (15)) hx hb d_Md_limitOf_7 (by decide) ?_
    refine lv_goto (tgt := 31) hx hb d_Md_limitOf_9 (by decide) ?_
    exact wv_iret hx hb hr hlocks h d_Md_limitOf_31 ⟨rfl, rfl⟩
  · skip
    refine lv_iload_n hx hb d_Md_limitOf_0 rfl (lv_at hl 0 rfl) ?_
    refine lv_iconst (v := nI (4)) hx hb d_Md_limitOf_1 (by decide) ?_
    refine lv_irem hx hb d_Md_limitOf_2 (by decide) ?_
    refine wv_top (w := nI (0)) (by decide) ?_
    refine lv_iconst (v := nI (3)) hx hb d_Md_limitOf_3 (by decide) ?_
    refine lv_icmp_ne (tgt := 12) hx hb d_Md_limitOf_4 (by decide) (fun _ => ?_) (fun hc => absurd hc (by decide))
    refine lv_iload_n hx hb d_Md_limitOf_12 rfl (lv_at hl 0 rfl) ?_
    refine lv_iconst (v := nI (4)) hx hb d_Md_limitOf_13 (by decide) ?_
    refine lv_irem hx hb d_Md_limitOf_14 (by decide) ?_
    refine wv_top (w := nI (0)) (by decide) ?_
    refine lv_if_ne (tgt := 28) hx hb d_Md_limitOf_15 (by decide) (fun hc => absurd rfl hc) (fun _ => ?_)
    refine lv_iload_n hx hb d_Md_limitOf_18 rfl (lv_at hl 0 rfl) ?_
    refine lv_if_le (tgt := 28) hx hb d_Md_limitOf_19 (by decide) (fun hc => absurd hc (by decide)) (fun _ => ?_)
    refine lv_sipush (v := nI (252)) hx hb d_Md_limitOf_22 (by decide) ?_
    refine lv_goto (tgt := 31) hx hb d_Md_limitOf_25 (by decide) ?_
    exact wv_iret hx hb hr hlocks h d_Md_limitOf_31 ⟨rfl, rfl⟩
  · skip
    refine lv_iload_n hx hb d_Md_limitOf_0 rfl (lv_at hl 0 rfl) ?_
    refine lv_iconst (v := nI (4)) hx hb d_Md_limitOf_1 (by decide) ?_
    refine lv_irem hx hb d_Md_limitOf_2 (by decide) ?_
    refine wv_top (w := nI (1)) (by decide) ?_
    refine lv_iconst (v := nI (3)) hx hb d_Md_limitOf_3 (by decide) ?_
    refine lv_icmp_ne (tgt := 12) hx hb d_Md_limitOf_4 (by decide) (fun _ => ?_) (fun hc => absurd hc (by decide))
    refine lv_iload_n hx hb d_Md_limitOf_12 rfl (lv_at hl 0 rfl) ?_
    refine lv_iconst (v := nI (4)) hx hb d_Md_limitOf_13 (by decide) ?_
    refine lv_irem hx hb d_Md_limitOf_14 (by decide) ?_
    refine wv_top (w := nI (1)) (by decide) ?_
    refine lv_if_ne (tgt := 28) hx hb d_Md_limitOf_15 (by decide) (fun _ => ?_) (fun hc => absurd hc (by decide))
    refine lv_sipush (v := nI (255)) hx hb d_Md_limitOf_28 (by decide) ?_
    exact wv_iret hx hb hr hlocks h d_Md_limitOf_31 ⟨rfl, rfl⟩
  · skip
    refine lv_iload_n hx hb d_Md_limitOf_0 rfl (lv_at hl 0 rfl) ?_
    refine lv_iconst (v := nI (4)) hx hb d_Md_limitOf_1 (by decide) ?_
    refine lv_irem hx hb d_Md_limitOf_2 (by decide) ?_
    refine wv_top (w := nI (2)) (by decide) ?_
    refine lv_iconst (v := nI (3)) hx hb d_Md_limitOf_3 (by decide) ?_
    refine lv_icmp_ne (tgt := 12) hx hb d_Md_limitOf_4 (by decide) (fun _ => ?_) (fun hc => absurd hc (by decide))
    refine lv_iload_n hx hb d_Md_limitOf_12 rfl (lv_at hl 0 rfl) ?_
    refine lv_iconst (v := nI (4)) hx hb d_Md_limitOf_13 (by decide) ?_
    refine lv_irem hx hb d_Md_limitOf_14 (by decide) ?_
    refine wv_top (w := nI (2)) (by decide) ?_
    refine lv_if_ne (tgt := 28) hx hb d_Md_limitOf_15 (by decide) (fun _ => ?_) (fun hc => absurd hc (by decide))
    refine lv_sipush (v := nI (255)) hx hb d_Md_limitOf_28 (by decide) ?_
    exact wv_iret hx hb hr hlocks h d_Md_limitOf_31 ⟨rfl, rfl⟩
  · skip
    refine lv_iload_n hx hb d_Md_limitOf_0 rfl (lv_at hl 0 rfl) ?_
    refine lv_iconst (v := nI (4)) hx hb d_Md_limitOf_1 (by decide) ?_
    refine lv_irem hx hb d_Md_limitOf_2 (by decide) ?_
    refine wv_top (w := nI (3)) (by decide) ?_
    refine lv_iconst (v := nI (3)) hx hb d_Md_limitOf_3 (by decide) ?_
    refine lv_icmp_ne (tgt := 12) hx hb d_Md_limitOf_4 (by decide) (fun hc => absurd rfl hc) (fun _ => ?_)
    refine lv_bipush (v := nI (15)) hx hb d_Md_limitOf_7 (by decide) ?_
    refine lv_goto (tgt := 31) hx hb d_Md_limitOf_9 (by decide) ?_
    exact wv_iret hx hb hr hlocks h d_Md_limitOf_31 ⟨rfl, rfl⟩
  · skip
    refine lv_iload_n hx hb d_Md_limitOf_0 rfl (lv_at hl 0 rfl) ?_
    refine lv_iconst (v := nI (4)) hx hb d_Md_limitOf_1 (by decide) ?_
    refine lv_irem hx hb d_Md_limitOf_2 (by decide) ?_
    refine wv_top (w := nI (0)) (by decide) ?_
    refine lv_iconst (v := nI (3)) hx hb d_Md_limitOf_3 (by decide) ?_
    refine lv_icmp_ne (tgt := 12) hx hb d_Md_limitOf_4 (by decide) (fun _ => ?_) (fun hc => absurd hc (by decide))
    refine lv_iload_n hx hb d_Md_limitOf_12 rfl (lv_at hl 0 rfl) ?_
    refine lv_iconst (v := nI (4)) hx hb d_Md_limitOf_13 (by decide) ?_
    refine lv_irem hx hb d_Md_limitOf_14 (by decide) ?_
    refine wv_top (w := nI (0)) (by decide) ?_
    refine lv_if_ne (tgt := 28) hx hb d_Md_limitOf_15 (by decide) (fun hc => absurd rfl hc) (fun _ => ?_)
    refine lv_iload_n hx hb d_Md_limitOf_18 rfl (lv_at hl 0 rfl) ?_
    refine lv_if_le (tgt := 28) hx hb d_Md_limitOf_19 (by decide) (fun hc => absurd hc (by decide)) (fun _ => ?_)
    refine lv_sipush (v := nI (252)) hx hb d_Md_limitOf_22 (by decide) ?_
    refine lv_goto (tgt := 31) hx hb d_Md_limitOf_25 (by decide) ?_
    exact wv_iret hx hb hr hlocks h d_Md_limitOf_31 ⟨rfl, rfl⟩
  · skip
    refine lv_iload_n hx hb d_Md_limitOf_0 rfl (lv_at hl 0 rfl) ?_
    refine lv_iconst (v := nI (4)) hx hb d_Md_limitOf_1 (by decide) ?_
    refine lv_irem hx hb d_Md_limitOf_2 (by decide) ?_
    refine wv_top (w := nI (1)) (by decide) ?_
    refine lv_iconst (v := nI (3)) hx hb d_Md_limitOf_3 (by decide) ?_
    refine lv_icmp_ne (tgt := 12) hx hb d_Md_limitOf_4 (by decide) (fun _ => ?_) (fun hc => absurd hc (by decide))
    refine lv_iload_n hx hb d_Md_limitOf_12 rfl (lv_at hl 0 rfl) ?_
    refine lv_iconst (v := nI (4)) hx hb d_Md_limitOf_13 (by decide) ?_
    refine lv_irem hx hb d_Md_limitOf_14 (by decide) ?_
    refine wv_top (w := nI (1)) (by decide) ?_
    refine lv_if_ne (tgt := 28) hx hb d_Md_limitOf_15 (by decide) (fun _ => ?_) (fun hc => absurd hc (by decide))
    refine lv_sipush (v := nI (255)) hx hb d_Md_limitOf_28 (by decide) ?_
    exact wv_iret hx hb hr hlocks h d_Md_limitOf_31 ⟨rfl, rfl⟩
  · skip
    refine lv_iload_n hx hb d_Md_limitOf_0 rfl (lv_at hl 0 rfl) ?_
    refine lv_iconst (v := nI (4)) hx hb d_Md_limitOf_1 (by decide) ?_
    refine lv_irem hx hb d_Md_limitOf_2 (by decide) ?_
    refine wv_top (w := nI (2)) (by decide) ?_
    refine lv_iconst (v := nI (3)) hx hb d_Md_limitOf_3 (by decide) ?_
    refine lv_icmp_ne (tgt := 12) hx hb d_Md_limitOf_4 (by decide) (fun _ => ?_) (fun hc => absurd hc (by decide))
    refine lv_iload_n hx hb d_Md_limitOf_12 rfl (lv_at hl 0 rfl) ?_
    refine lv_iconst (v := nI (4)) hx hb d_Md_limitOf_13 (by decide) ?_
    refine lv_irem hx hb d_Md_limitOf_14 (by decide) ?_
    refine wv_top (w := nI (2)) (by decide) ?_
    refine lv_if_ne (tgt := 28) hx hb d_Md_limitOf_15 (by decide) (fun _ => ?_) (fun hc => absurd hc (by decide))
    refine lv_sipush (v := nI (255)) hx hb d_Md_limitOf_28 (by decide) ?_
    exact wv_iret hx hb hr hlocks h d_Md_limitOf_31 ⟨rfl, rfl⟩
  · skip
    refine lv_iload_n hx hb d_Md_limitOf_0 rfl (lv_at hl 0 rfl) ?_
    refine lv_iconst (v := nI (4)) hx hb d_Md_limitOf_1 (by decide) ?_
    refine lv_irem hx hb d_Md_limitOf_2 (by decide) ?_
    refine wv_top (w := nI (3)) (by decide) ?_
    refine lv_iconst (v := nI (3)) hx hb d_Md_limitOf_3 (by decide) ?_
    refine lv_icmp_ne (tgt := 12) hx hb d_Md_limitOf_4 (by decide) (fun hc => absurd rfl hc) (fun _ => ?_)
    refine lv_bipush (v := nI (15)) hx hb d_Md_limitOf_7 (by decide) ?_
    refine lv_goto (tgt := 31) hx hb d_Md_limitOf_9 (by decide) ?_
    exact wv_iret hx hb hr hlocks h d_Md_limitOf_31 ⟨rfl, rfl⟩
theorem d_Md_addByte_0 : decode c_Md_addByte 0 = .ok (.iconst 0, 1) := by decide +kernel
theorem d_Md_addByte_1 : decode c_Md_addByte 1 = .ok (.istore_n 3, 1) := by decide +kernel
theorem d_Md_addByte_2 : decode c_Md_addByte 2 = .ok (.iload_n 3, 1) := by decide +kernel
theorem d_Md_addByte_3 : decode c_Md_addByte 3 = .ok (.bipush 8, 2) := by decide +kernel
theorem d_Md_addByte_5 : decode c_Md_addByte 5 = .ok (.if_icmp .ge 44, 3) := by decide +kernel
theorem d_Md_addByte_8 : decode c_Md_addByte 8 = .ok (.bipush 8, 2) := by decide +kernel
theorem d_Md_addByte_10 : decode c_Md_addByte 10 = .ok (.iload_n 1, 1) := by decide +kernel
theorem d_Md_addByte_11 : decode c_Md_addByte 11 = .ok (.imul, 1) := by decide +kernel
theorem d_Md_addByte_12 : decode c_Md_addByte 12 = .ok (.iload_n 3, 1) := by decide +kernel
theorem d_Md_addByte_13 : decode c_Md_addByte 13 = .ok (.iadd, 1) := by decide +kernel
theorem d_Md_addByte_14 : decode c_Md_addByte 14 = .ok (.istore 4, 2) := by decide +kernel
theorem d_Md_addByte_16 : decode c_Md_addByte 16 = .ok (.aload_n 0, 1) := by decide +kernel
theorem d_Md_addByte_17 : decode c_Md_addByte 17 = .ok (.iload 4, 2) := by decide +kernel
theorem d_Md_addByte_19 : decode c_Md_addByte 19 = .ok (.bipush 26, 2) := by decide +kernel
theorem d_Md_addByte_21 : decode c_Md_addByte 21 = .ok (.idiv, 1) := by decide +kernel
theorem d_Md_addByte_22 : decode c_Md_addByte 22 = .ok (.aload_n 0, 1) := by decide +kernel
theorem d_Md_addByte_23 : decode c_Md_addByte 23 = .ok (.iload 4, 2) := by decide +kernel
theorem d_Md_addByte_25 : decode c_Md_addByte 25 = .ok (.bipush 26, 2) := by decide +kernel
theorem d_Md_addByte_27 : decode c_Md_addByte 27 = .ok (.idiv, 1) := by decide +kernel
theorem d_Md_addByte_28 : decode c_Md_addByte 28 = .ok (.laload, 1) := by decide +kernel
theorem d_Md_addByte_29 : decode c_Md_addByte 29 = .ok (.iload_n 2, 1) := by decide +kernel
theorem d_Md_addByte_30 : decode c_Md_addByte 30 = .ok (.iload_n 3, 1) := by decide +kernel
theorem d_Md_addByte_31 : decode c_Md_addByte 31 = .ok (.ishr, 1) := by decide +kernel
theorem d_Md_addByte_32 : decode c_Md_addByte 32 = .ok (.iconst 1, 1) := by decide +kernel
theorem d_Md_addByte_33 : decode c_Md_addByte 33 = .ok (.iand, 1) := by decide +kernel
theorem d_Md_addByte_34 : decode c_Md_addByte 34 = .ok (.i2l, 1) := by decide +kernel
theorem d_Md_addByte_35 : decode c_Md_addByte 35 = .ok (.iload 4, 2) := by decide +kernel
theorem d_Md_addByte_37 : decode c_Md_addByte 37 = .ok (.bipush 26, 2) := by decide +kernel
theorem d_Md_addByte_39 : decode c_Md_addByte 39 = .ok (.irem, 1) := by decide +kernel
theorem d_Md_addByte_40 : decode c_Md_addByte 40 = .ok (.lshl, 1) := by decide +kernel
theorem d_Md_addByte_41 : decode c_Md_addByte 41 = .ok (.ladd, 1) := by decide +kernel
theorem d_Md_addByte_42 : decode c_Md_addByte 42 = .ok (.lastore, 1) := by decide +kernel
theorem d_Md_addByte_43 : decode c_Md_addByte 43 = .ok (.iinc 3 1, 3) := by decide +kernel
theorem d_Md_addByte_46 : decode c_Md_addByte 46 = .ok (.goto (-44), 3) := by decide +kernel
theorem d_Md_addByte_49 : decode c_Md_addByte 49 = .ok (.return_, 1) := by decide +kernel
set_option maxRecDepth 100000 in
set_option maxHeartbeats 4000000 in
/-- a byte added, bit by bit -/
theorem m_Md_addByte (l : Launch) (G : wG) (A : Nat → Prop) (ad : Nat → Nat) (ev : Nat → va_E) (q M k c' : Nat) (f : Nat → Int64) (hq : q < 52) (hev : ev q = eJ G M f) (hk : 8 * k + 7 < 26 * M) (hk2 : k < 1000) (hc : c' < 256) (hM : M < 2 ^ 30) : wM l y_Md_addByte w_Md_addByte ({ frames := 0, cells := 0, slots := 0, locals := 0 }) G A 52 ad ev [.ref (ad q), .int (nI (k)), .int (nI (c'))] (fun ov ev' => ov = none ∧ ev' = va_up ev q (eJ G M (adT f k c' 8))) := by
  refine wv_ofW (cc := c_Md_addByte) (maxL := 5) (ret := none) (by decide) rfl (Nat.le_of_ble_eq_true rfl) ?_
  intro p e s m below meth c ls hx hb hr hml hts hown hlocks hini h hl
  have hl : lv_has ls 5 [(0, .ref (ad q)), (1, .int (nI (k))), (2, .int (nI (c')))] := hl
  refine lv_iconst (v := nI (0)) hx hb d_Md_addByte_0 (by decide) ?_
  refine lv_istore_n (lv' := [(3, .int (nI (0))), (0, .ref (ad q)), (1, .int (nI (k))), (2, .int (nI (c')))]) hx hb d_Md_addByte_1 rfl hl (by decide) rfl (fun ls hl => ?_)
  have loop1 : ∀ (d b : Nat), b + d = 8 →  ∀ (ev1 : Nat → va_E) (H : Heap) (locs : List Loc) (ls : Array Slot), ev1 = (va_up ev q (eJ G M (adT f k c' b))) → wT G A 52 ad ev1 s H locs → lv_has ls 5 [(3, .int (nI (b))), (0, .ref (ad q)), (1, .int (nI (k))), (2, .int (nI (c')))] → W p l e ({ frames := 0, cells := 0, slots := 0, locals := 0 }) s m ([.ref (ad q), .int (nI (k)), .int (nI (c'))] : List Value).toArray below meth c H locs 0 0 (MQ below (wQc G A 52 ad (fun ov ev' => ov = none ∧ ev' = va_up ev q (eJ G M (adT f k c' 8)))) ([.ref (ad q), .int (nI (k)), .int (nI (c'))] : List Value).toArray s 0 0 A) (F0 m 2 ls []) := by
    intro d
    induction d with
    | zero =>
      intro b hk_b  ev1 H locs ls  o1 h hl
      have t1_q : ev1 q = eJ G M (adT f k c' b) := by rw [o1, va_up_self]
      refine lv_iload_n hx hb d_Md_addByte_2 rfl (lv_at hl 0 rfl) ?_
      refine lv_bipush (v := nI (8)) hx hb d_Md_addByte_3 (by decide) ?_
      refine lv_icmp_ge (tgt := 49) hx hb d_Md_addByte_5 (by decide) (fun _ => ?_) (fun hc => absurd ((nI_leI (by omega) (by omega)).mpr (by omega)) hc)
      refine wv_vret hx hb hr hlocks h d_Md_addByte_49 ⟨rfl, ?_⟩
      rw [o1, show b = 8 by omega]
    | succ d ih =>
      intro b hk_b  ev1 H locs ls  o1 h hl
      have t1_q : ev1 q = eJ G M (adT f k c' b) := by rw [o1, va_up_self]
      refine lv_iload_n hx hb d_Md_addByte_2 rfl (lv_at hl 0 rfl) ?_
      refine lv_bipush (v := nI (8)) hx hb d_Md_addByte_3 (by decide) ?_
      refine lv_icmp_ge (tgt := 49) hx hb d_Md_addByte_5 (by decide) (fun hc => absurd ((nI_leI (by omega) (by omega)).mp hc) (by omega)) (fun _ => ?_)
      refine lv_bipush (v := nI (8)) hx hb d_Md_addByte_8 (by decide) ?_
      refine lv_iload_n hx hb d_Md_addByte_10 rfl (lv_at hl 2 rfl) ?_
      refine lv_imul hx hb d_Md_addByte_11 ?_
      refine wv_top (w := nI (8 * k)) (pk_mul _ _) ?_
      refine lv_iload_n hx hb d_Md_addByte_12 rfl (lv_at hl 0 rfl) ?_
      refine lv_iadd hx hb d_Md_addByte_13 ?_
      refine wv_top (w := nI ((8 * k) + b)) (nI_add _ _) ?_
      refine lv_istore (lv' := [(4, .int (nI ((8 * k) + b))), (3, .int (nI (b))), (0, .ref (ad q)), (1, .int (nI (k))), (2, .int (nI (c')))]) hx hb d_Md_addByte_14 hl (by decide) rfl (fun ls hl => ?_)
      refine lv_aload_n hx hb d_Md_addByte_16 rfl (lv_at hl 2 rfl) ?_
      refine lv_iload hx hb d_Md_addByte_17 (lv_at hl 0 rfl) ?_
      refine lv_bipush (v := nI (26)) hx hb d_Md_addByte_19 (by decide) ?_
      refine lv_idiv hx hb d_Md_addByte_21 (by decide) ?_
      refine wv_top (w := nI (((8 * k) + b) / 26)) (pk_div (by omega) (by omega) (by omega)) ?_
      refine lv_aload_n hx hb d_Md_addByte_22 rfl (lv_at hl 2 rfl) ?_
      refine lv_iload hx hb d_Md_addByte_23 (lv_at hl 0 rfl) ?_
      refine lv_bipush (v := nI (26)) hx hb d_Md_addByte_25 (by decide) ?_
      refine lv_idiv hx hb d_Md_addByte_27 (by decide) ?_
      refine wv_top (w := nI (((8 * k) + b) / 26)) (pk_div (by omega) (by omega) (by omega)) ?_
      refine wv_lald hx hb h q hq (f := (adT f k c' b)) t1_q (k := ((8 * k) + b) / 26) rfl (by omega) (by omega) d_Md_addByte_28 ?_
      refine lv_iload_n hx hb d_Md_addByte_29 rfl (lv_at hl 4 rfl) ?_
      refine lv_iload_n hx hb d_Md_addByte_30 rfl (lv_at hl 1 rfl) ?_
      refine lv_ishr hx hb d_Md_addByte_31 ?_
      refine lv_iconst (v := (1 : Int32)) hx hb d_Md_addByte_32 (by decide) ?_
      refine lv_iand hx hb d_Md_addByte_33 ?_
      refine wv_top (w := nI (c' / 2 ^ b % 2)) (nb_bit _ hc _ (by omega)) ?_
      refine lv_i2l hx hb d_Md_addByte_34 rfl ?_
      refine lv_iload hx hb d_Md_addByte_35 (lv_at hl 0 rfl) ?_
      refine lv_bipush (v := nI (26)) hx hb d_Md_addByte_37 (by decide) ?_
      refine lv_irem hx hb d_Md_addByte_39 (by decide) ?_
      refine wv_top (w := nI (((8 * k) + b) % 26)) (pk_rem (by omega) (by omega) (by omega)) ?_
      refine lv_lshl (v := sal ((nI (c' / 2 ^ b % 2)).toInt64) (((8 * k) + b) % 26)) hx hb d_Md_addByte_40 rfl ?_
      refine lv_ladd hx hb d_Md_addByte_41 ?_
      refine wv_last hx hb h q hq (f := (adT f k c' b)) t1_q (k := ((8 * k) + b) / 26) rfl (by omega) (by omega) d_Md_addByte_42 (fun H locs h => ?_)
      obtain ⟨ev2, o2⟩ : ∃ z, z = va_up ev1 q (eJ G M (va_up ((adT f k c' b)) (((8 * k) + b) / 26) ((((adT f k c' b)) (((8 * k) + b) / 26)) + (sal ((nI (c' / 2 ^ b % 2)).toInt64) (((8 * k) + b) % 26))))) := ⟨_, rfl⟩
      rw [← o2] at h
      have t2_q : ev2 q = eJ G M (va_up ((adT f k c' b)) (((8 * k) + b) / 26) ((((adT f k c' b)) (((8 * k) + b) / 26)) + (sal ((nI (c' / 2 ^ b % 2)).toInt64) (((8 * k) + b) % 26)))) := by rw [o2, va_up_self]
      refine lv_iinc (v := nI (b + 1)) (lv' := [(3, .int (nI (b + 1))), (4, .int (nI ((8 * k) + b))), (0, .ref (ad q)), (1, .int (nI (k))), (2, .int (nI (c')))]) hx hb d_Md_addByte_43 hl (k := 1) rfl (nI_add _ _) (by decide) rfl (fun ls hl => ?_)
      refine lv_goto (tgt := 2) hx hb d_Md_addByte_46 (by decide) ?_
      refine ih (b + 1) (by omega) ev2 H locs ls ?_ h (lv_sub hl [0, 2, 3, 4] rfl)
      rw [o2, o1, va_up2]
      rfl
  exact loop1 8 0 rfl ev s.heap [] ls (va_upi _ _ hev).symm h (lv_sub hl [0, 1, 2, 3] rfl)
theorem d_Md_carryTag_0 : decode c_Md_carryTag 0 = .ok (.iconst 0, 1) := by decide +kernel
theorem d_Md_carryTag_1 : decode c_Md_carryTag 1 = .ok (.istore_n 1, 1) := by decide +kernel
theorem d_Md_carryTag_2 : decode c_Md_carryTag 2 = .ok (.iload_n 1, 1) := by decide +kernel
theorem d_Md_carryTag_3 : decode c_Md_carryTag 3 = .ok (.iconst 3, 1) := by decide +kernel
theorem d_Md_carryTag_4 : decode c_Md_carryTag 4 = .ok (.if_icmp .ge 92, 3) := by decide +kernel
theorem d_Md_carryTag_7 : decode c_Md_carryTag 7 = .ok (.iconst 0, 1) := by decide +kernel
theorem d_Md_carryTag_8 : decode c_Md_carryTag 8 = .ok (.istore_n 2, 1) := by decide +kernel
theorem d_Md_carryTag_9 : decode c_Md_carryTag 9 = .ok (.iload_n 2, 1) := by decide +kernel
theorem d_Md_carryTag_10 : decode c_Md_carryTag 10 = .ok (.iconst 5, 1) := by decide +kernel
theorem d_Md_carryTag_11 : decode c_Md_carryTag 11 = .ok (.if_icmp .ge 79, 3) := by decide +kernel
theorem d_Md_carryTag_14 : decode c_Md_carryTag 14 = .ok (.aload_n 0, 1) := by decide +kernel
theorem d_Md_carryTag_15 : decode c_Md_carryTag 15 = .ok (.getfield 35, 3) := by decide +kernel
theorem d_Md_carryTag_18 : decode c_Md_carryTag 18 = .ok (.iload_n 2, 1) := by decide +kernel
theorem d_Md_carryTag_19 : decode c_Md_carryTag 19 = .ok (.laload, 1) := by decide +kernel
theorem d_Md_carryTag_20 : decode c_Md_carryTag 20 = .ok (.bipush 26, 2) := by decide +kernel
theorem d_Md_carryTag_22 : decode c_Md_carryTag 22 = .ok (.lshr, 1) := by decide +kernel
theorem d_Md_carryTag_23 : decode c_Md_carryTag 23 = .ok (.lstore_n 3, 1) := by decide +kernel
theorem d_Md_carryTag_24 : decode c_Md_carryTag 24 = .ok (.aload_n 0, 1) := by decide +kernel
theorem d_Md_carryTag_25 : decode c_Md_carryTag 25 = .ok (.getfield 35, 3) := by decide +kernel
theorem d_Md_carryTag_28 : decode c_Md_carryTag 28 = .ok (.iload_n 2, 1) := by decide +kernel
theorem d_Md_carryTag_29 : decode c_Md_carryTag 29 = .ok (.aload_n 0, 1) := by decide +kernel
theorem d_Md_carryTag_30 : decode c_Md_carryTag 30 = .ok (.getfield 35, 3) := by decide +kernel
theorem d_Md_carryTag_33 : decode c_Md_carryTag 33 = .ok (.iload_n 2, 1) := by decide +kernel
theorem d_Md_carryTag_34 : decode c_Md_carryTag 34 = .ok (.laload, 1) := by decide +kernel
theorem d_Md_carryTag_35 : decode c_Md_carryTag 35 = .ok (.ldc2_w 113, 3) := by decide +kernel
theorem d_Md_carryTag_38 : decode c_Md_carryTag 38 = .ok (.land, 1) := by decide +kernel
theorem d_Md_carryTag_39 : decode c_Md_carryTag 39 = .ok (.lastore, 1) := by decide +kernel
theorem d_Md_carryTag_40 : decode c_Md_carryTag 40 = .ok (.iload_n 2, 1) := by decide +kernel
theorem d_Md_carryTag_41 : decode c_Md_carryTag 41 = .ok (.iconst 4, 1) := by decide +kernel
theorem d_Md_carryTag_42 : decode c_Md_carryTag 42 = .ok (.if_icmp .ge 24, 3) := by decide +kernel
theorem d_Md_carryTag_45 : decode c_Md_carryTag 45 = .ok (.aload_n 0, 1) := by decide +kernel
theorem d_Md_carryTag_46 : decode c_Md_carryTag 46 = .ok (.getfield 35, 3) := by decide +kernel
theorem d_Md_carryTag_49 : decode c_Md_carryTag 49 = .ok (.iload_n 2, 1) := by decide +kernel
theorem d_Md_carryTag_50 : decode c_Md_carryTag 50 = .ok (.iconst 1, 1) := by decide +kernel
theorem d_Md_carryTag_51 : decode c_Md_carryTag 51 = .ok (.iadd, 1) := by decide +kernel
theorem d_Md_carryTag_52 : decode c_Md_carryTag 52 = .ok (.aload_n 0, 1) := by decide +kernel
theorem d_Md_carryTag_53 : decode c_Md_carryTag 53 = .ok (.getfield 35, 3) := by decide +kernel
theorem d_Md_carryTag_56 : decode c_Md_carryTag 56 = .ok (.iload_n 2, 1) := by decide +kernel
theorem d_Md_carryTag_57 : decode c_Md_carryTag 57 = .ok (.iconst 1, 1) := by decide +kernel
theorem d_Md_carryTag_58 : decode c_Md_carryTag 58 = .ok (.iadd, 1) := by decide +kernel
theorem d_Md_carryTag_59 : decode c_Md_carryTag 59 = .ok (.laload, 1) := by decide +kernel
theorem d_Md_carryTag_60 : decode c_Md_carryTag 60 = .ok (.lload_n 3, 1) := by decide +kernel
theorem d_Md_carryTag_61 : decode c_Md_carryTag 61 = .ok (.ladd, 1) := by decide +kernel
theorem d_Md_carryTag_62 : decode c_Md_carryTag 62 = .ok (.lastore, 1) := by decide +kernel
theorem d_Md_carryTag_63 : decode c_Md_carryTag 63 = .ok (.goto 21, 3) := by decide +kernel
theorem d_Md_carryTag_66 : decode c_Md_carryTag 66 = .ok (.aload_n 0, 1) := by decide +kernel
theorem d_Md_carryTag_67 : decode c_Md_carryTag 67 = .ok (.getfield 35, 3) := by decide +kernel
theorem d_Md_carryTag_70 : decode c_Md_carryTag 70 = .ok (.iconst 0, 1) := by decide +kernel
theorem d_Md_carryTag_71 : decode c_Md_carryTag 71 = .ok (.aload_n 0, 1) := by decide +kernel
theorem d_Md_carryTag_72 : decode c_Md_carryTag 72 = .ok (.getfield 35, 3) := by decide +kernel
theorem d_Md_carryTag_75 : decode c_Md_carryTag 75 = .ok (.iconst 0, 1) := by decide +kernel
theorem d_Md_carryTag_76 : decode c_Md_carryTag 76 = .ok (.laload, 1) := by decide +kernel
theorem d_Md_carryTag_77 : decode c_Md_carryTag 77 = .ok (.ldc2_w 115, 3) := by decide +kernel
theorem d_Md_carryTag_80 : decode c_Md_carryTag 80 = .ok (.lload_n 3, 1) := by decide +kernel
theorem d_Md_carryTag_81 : decode c_Md_carryTag 81 = .ok (.lmul, 1) := by decide +kernel
theorem d_Md_carryTag_82 : decode c_Md_carryTag 82 = .ok (.ladd, 1) := by decide +kernel
theorem d_Md_carryTag_83 : decode c_Md_carryTag 83 = .ok (.lastore, 1) := by decide +kernel
theorem d_Md_carryTag_84 : decode c_Md_carryTag 84 = .ok (.iinc 2 1, 3) := by decide +kernel
theorem d_Md_carryTag_87 : decode c_Md_carryTag 87 = .ok (.goto (-78), 3) := by decide +kernel
theorem d_Md_carryTag_90 : decode c_Md_carryTag 90 = .ok (.iinc 1 1, 3) := by decide +kernel
theorem d_Md_carryTag_93 : decode c_Md_carryTag 93 = .ok (.goto (-91), 3) := by decide +kernel
theorem d_Md_carryTag_96 : decode c_Md_carryTag 96 = .ok (.return_, 1) := by decide +kernel
set_option maxRecDepth 100000 in
set_option maxHeartbeats 4000000 in
/-- three rounds of carries -/
theorem m_Md_carryTag (l : Launch) (G : wG) (A : Nat → Prop) (ad : Nat → Nat) (ev : Nat → va_E) (f : Nat → Int64) (tl ol cd : Nat) (h37 : ev 37 = eO 5 [.ref (ad 38), .int (nI tl), .int (nI ol), .int (nI cd), .ref (ad 39), .ref (ad 40), .ref (ad 41), .ref (ad 42), .ref (ad 43), .ref (ad 44), .ref (ad 45), .ref (ad 46), .ref (ad 47), .ref (ad 48), .ref (ad 49), .ref (ad 50)]) (h46 : ev 46 = eJ G 5 f) : wM l y_Md_carryTag w_Md_carryTag ({ frames := 0, cells := 0, slots := 0, locals := 0 }) G A 52 ad ev [.ref (ad 37)] (fun ov ev' => ov = none ∧ ev' = va_up ev 46 (eJ G 5 (ct3 f 3))) := by
  refine wv_ofW (cc := c_Md_carryTag) (maxL := 5) (ret := none) (by decide) rfl (Nat.le_of_ble_eq_true rfl) ?_
  intro p e s m below meth c ls hx hb hr hml hts hown hlocks hini h hl
  have hl : lv_has ls 5 [(0, .ref (ad 37))] := hl
  refine lv_iconst (v := nI (0)) hx hb d_Md_carryTag_0 (by decide) ?_
  refine lv_istore_n (lv' := [(1, .int (nI (0))), (0, .ref (ad 37))]) hx hb d_Md_carryTag_1 rfl hl (by decide) rfl (fun ls hl => ?_)
  have loop1 : ∀ (d k : Nat), k + d = 3 →  ∀ (ev1 : Nat → va_E) (H : Heap) (locs : List Loc) (ls : Array Slot), ev1 = (va_up ev 46 (eJ G 5 (ct3 f k))) → wT G A 52 ad ev1 s H locs → lv_has ls 5 [(1, .int (nI (k))), (0, .ref (ad 37))] → W p l e ({ frames := 0, cells := 0, slots := 0, locals := 0 }) s m ([.ref (ad 37)] : List Value).toArray below meth c H locs 0 0 (MQ below (wQc G A 52 ad (fun ov ev' => ov = none ∧ ev' = va_up ev 46 (eJ G 5 (ct3 f 3)))) ([.ref (ad 37)] : List Value).toArray s 0 0 A) (F0 m 2 ls []) := by
    intro d
    induction d with
    | zero =>
      intro k hk_k  ev1 H locs ls  o1 h hl
      have t1_46 : ev1 46 = eJ G 5 (ct3 f k) := by rw [o1, va_up_self]
      have t1_37 := (show ev1 37 = ev 37 by rw [o1, va_up_ne _ _ (by decide)]).trans h37
      refine lv_iload_n hx hb d_Md_carryTag_2 rfl (lv_at hl 0 rfl) ?_
      refine lv_iconst (v := nI (3)) hx hb d_Md_carryTag_3 (by decide) ?_
      refine lv_icmp_ge (tgt := 96) hx hb d_Md_carryTag_4 (by decide) (fun _ => ?_) (fun hc => absurd ((nI_leI (by omega) (by omega)).mpr (by omega)) hc)
      refine wv_vret hx hb hr hlocks h d_Md_carryTag_96 ⟨rfl, ?_⟩
      rw [o1, show k = 3 by omega]
    | succ d ih =>
      intro k hk_k  ev1 H locs ls  o1 h hl
      have t1_46 : ev1 46 = eJ G 5 (ct3 f k) := by rw [o1, va_up_self]
      have t1_37 := (show ev1 37 = ev 37 by rw [o1, va_up_ne _ _ (by decide)]).trans h37
      refine lv_iload_n hx hb d_Md_carryTag_2 rfl (lv_at hl 0 rfl) ?_
      refine lv_iconst (v := nI (3)) hx hb d_Md_carryTag_3 (by decide) ?_
      refine lv_icmp_ge (tgt := 96) hx hb d_Md_carryTag_4 (by decide) (fun hc => absurd ((nI_leI (by omega) (by omega)).mp hc) (by omega)) (fun _ => ?_)
      refine lv_iconst (v := nI (0)) hx hb d_Md_carryTag_7 (by decide) ?_
      refine lv_istore_n (lv' := [(2, .int (nI (0))), (1, .int (nI (k))), (0, .ref (ad 37))]) hx hb d_Md_carryTag_8 rfl hl (by decide) rfl (fun ls hl => ?_)
      have loop2 : ∀ (d j : Nat), j + d = 5 →  ∀ (ev2 : Nat → va_E) (H : Heap) (locs : List Loc) (ls : Array Slot), ev2 = (va_up ev1 46 (eJ G 5 (ctk (ct3 f k) j))) → wT G A 52 ad ev2 s H locs → lv_has ls 5 [(2, .int (nI (j))), (1, .int (nI (k))), (0, .ref (ad 37))] → W p l e ({ frames := 0, cells := 0, slots := 0, locals := 0 }) s m ([.ref (ad 37)] : List Value).toArray below meth c H locs 0 0 (MQ below (wQc G A 52 ad (fun ov ev' => ov = none ∧ ev' = va_up ev 46 (eJ G 5 (ct3 f 3)))) ([.ref (ad 37)] : List Value).toArray s 0 0 A) (F0 m 9 ls []) := by
        intro d
        induction d with
        | zero =>
          intro j hk_j  ev2 H locs ls  o2 h hl
          have t2_46 : ev2 46 = eJ G 5 (ctk (ct3 f k) j) := by rw [o2, va_up_self]
          have t2_37 := (show ev2 37 = ev1 37 by rw [o2, va_up_ne _ _ (by decide)]).trans t1_37
          refine lv_iload_n hx hb d_Md_carryTag_9 rfl (lv_at hl 0 rfl) ?_
          refine lv_iconst (v := nI (5)) hx hb d_Md_carryTag_10 (by decide) ?_
          refine lv_icmp_ge (tgt := 90) hx hb d_Md_carryTag_11 (by decide) (fun _ => ?_) (fun hc => absurd ((nI_leI (by omega) (by omega)).mpr (by omega)) hc)
          refine lv_iinc (v := nI (k + 1)) (lv' := [(1, .int (nI (k + 1))), (2, .int (nI (j))), (0, .ref (ad 37))]) hx hb d_Md_carryTag_90 hl (k := 1) rfl (nI_add _ _) (by decide) rfl (fun ls hl => ?_)
          refine lv_goto (tgt := 2) hx hb d_Md_carryTag_93 (by decide) ?_
          refine ih (k + 1) (by omega) ev2 H locs ls ?_ h (lv_sub hl [0, 2] rfl)
          rw [o2, o1, va_up2, show j = 5 by omega]
          rfl
        | succ d ih2 =>
          intro j hk_j  ev2 H locs ls  o2 h hl
          have t2_46 : ev2 46 = eJ G 5 (ctk (ct3 f k) j) := by rw [o2, va_up_self]
          have t2_37 := (show ev2 37 = ev1 37 by rw [o2, va_up_ne _ _ (by decide)]).trans t1_37
          refine lv_iload_n hx hb d_Md_carryTag_9 rfl (lv_at hl 0 rfl) ?_
          refine lv_iconst (v := nI (5)) hx hb d_Md_carryTag_10 (by decide) ?_
          refine lv_icmp_ge (tgt := 90) hx hb d_Md_carryTag_11 (by decide) (fun hc => absurd ((nI_leI (by omega) (by omega)).mp hc) (by omega)) (fun _ => ?_)
          refine lv_aload_n hx hb d_Md_carryTag_14 rfl (lv_at hl 2 rfl) ?_
          refine wv_getf hx hb h 37 (by decide) (fs := [.ref (ad 38), .int (nI (tl)), .int (nI (ol)), .int (nI (cd)), .ref (ad 39), .ref (ad 40), .ref (ad 41), .ref (ad 42), .ref (ad 43), .ref (ad 44), .ref (ad 45), .ref (ad 46), .ref (ad 47), .ref (ad 48), .ref (ad 49), .ref (ad 50)]) t2_37 hts (fun w hw => List.mem_cons_of_mem _ (fW_Md w hw)) hown (ci := 5) (C := "NonceBoxModel") (T := fT_Md) (N := 16) rfl 11 (by decide) (hts _ (List.mem_cons_of_mem _ kf_Md_35)) rfl (v := .ref (ad 46)) rfl d_Md_carryTag_15 ?_
          refine lv_iload_n hx hb d_Md_carryTag_18 rfl (lv_at hl 0 rfl) ?_
          refine wv_lald hx hb h 46 (by decide) (f := (ctk (ct3 f k) j)) t2_46 (k := j) rfl (by omega) (by decide) d_Md_carryTag_19 ?_
          refine lv_bipush (v := nI (26)) hx hb d_Md_carryTag_20 (by decide) ?_
          refine lv_lshr (v := sar (((ctk (ct3 f k) j)) j) 26) hx hb d_Md_carryTag_22 rfl ?_
          refine lv_topl (fun hi ehi => ?_)
          refine lv_lstore_n (lv' := [(3, .long (hi)), (2, .int (nI (j))), (1, .int (nI (k))), (0, .ref (ad 37))]) hx hb d_Md_carryTag_23 rfl hl (by decide) rfl (fun ls hl => ?_)
          refine lv_aload_n hx hb d_Md_carryTag_24 rfl (lv_at hl 3 rfl) ?_
          refine wv_getf hx hb h 37 (by decide) (fs := [.ref (ad 38), .int (nI (tl)), .int (nI (ol)), .int (nI (cd)), .ref (ad 39), .ref (ad 40), .ref (ad 41), .ref (ad 42), .ref (ad 43), .ref (ad 44), .ref (ad 45), .ref (ad 46), .ref (ad 47), .ref (ad 48), .ref (ad 49), .ref (ad 50)]) t2_37 hts (fun w hw => List.mem_cons_of_mem _ (fW_Md w hw)) hown (ci := 5) (C := "NonceBoxModel") (T := fT_Md) (N := 16) rfl 11 (by decide) (hts _ (List.mem_cons_of_mem _ kf_Md_35)) rfl (v := .ref (ad 46)) rfl d_Md_carryTag_25 ?_
          refine lv_iload_n hx hb d_Md_carryTag_28 rfl (lv_at hl 1 rfl) ?_
          refine lv_aload_n hx hb d_Md_carryTag_29 rfl (lv_at hl 3 rfl) ?_
          refine wv_getf hx hb h 37 (by decide) (fs := [.ref (ad 38), .int (nI (tl)), .int (nI (ol)), .int (nI (cd)), .ref (ad 39), .ref (ad 40), .ref (ad 41), .ref (ad 42), .ref (ad 43), .ref (ad 44), .ref (ad 45), .ref (ad 46), .ref (ad 47), .ref (ad 48), .ref (ad 49), .ref (ad 50)]) t2_37 hts (fun w hw => List.mem_cons_of_mem _ (fW_Md w hw)) hown (ci := 5) (C := "NonceBoxModel") (T := fT_Md) (N := 16) rfl 11 (by decide) (hts _ (List.mem_cons_of_mem _ kf_Md_35)) rfl (v := .ref (ad 46)) rfl d_Md_carryTag_30 ?_
          refine lv_iload_n hx hb d_Md_carryTag_33 rfl (lv_at hl 1 rfl) ?_
          refine wv_lald hx hb h 46 (by decide) (f := (ctk (ct3 f k) j)) t2_46 (k := j) rfl (by omega) (by decide) d_Md_carryTag_34 ?_
          refine lv_ldc2 (v := 67108863) hx hb hown (hts _ (List.mem_cons_of_mem _ ko_Md_113)) d_Md_carryTag_35 ?_
          refine lv_land hx hb d_Md_carryTag_38 ?_
          refine wv_last hx hb h 46 (by decide) (f := (ctk (ct3 f k) j)) t2_46 (k := j) rfl (by omega) (by decide) d_Md_carryTag_39 (fun H locs h => ?_)
          obtain ⟨ev3, o3⟩ : ∃ z, z = va_up ev2 46 (eJ G 5 (va_up ((ctk (ct3 f k) j)) j ((((ctk (ct3 f k) j)) j) &&& 67108863))) := ⟨_, rfl⟩
          rw [← o3] at h
          have t3_46 : ev3 46 = eJ G 5 (va_up ((ctk (ct3 f k) j)) j ((((ctk (ct3 f k) j)) j) &&& 67108863)) := by rw [o3, va_up_self]
          have t3_37 := (show ev3 37 = ev2 37 by rw [o3, va_up_ne _ _ (by decide)]).trans t2_37
          refine lv_iload_n hx hb d_Md_carryTag_40 rfl (lv_at hl 1 rfl) ?_
          refine lv_iconst (v := nI (4)) hx hb d_Md_carryTag_41 (by decide) ?_
          refine lv_icmp_ge (tgt := 66) hx hb d_Md_carryTag_42 (by decide) (fun hc => ?_) (fun hc => ?_)
          · have hc := (nI_leI (by omega) (by omega)).mp hc
            refine lv_aload_n hx hb d_Md_carryTag_66 rfl (lv_at hl 3 rfl) ?_
            refine wv_getf hx hb h 37 (by decide) (fs := [.ref (ad 38), .int (nI (tl)), .int (nI (ol)), .int (nI (cd)), .ref (ad 39), .ref (ad 40), .ref (ad 41), .ref (ad 42), .ref (ad 43), .ref (ad 44), .ref (ad 45), .ref (ad 46), .ref (ad 47), .ref (ad 48), .ref (ad 49), .ref (ad 50)]) t3_37 hts (fun w hw => List.mem_cons_of_mem _ (fW_Md w hw)) hown (ci := 5) (C := "NonceBoxModel") (T := fT_Md) (N := 16) rfl 11 (by decide) (hts _ (List.mem_cons_of_mem _ kf_Md_35)) rfl (v := .ref (ad 46)) rfl d_Md_carryTag_67 ?_
            refine lv_iconst (v := nI (0)) hx hb d_Md_carryTag_70 (by decide) ?_
            refine lv_aload_n hx hb d_Md_carryTag_71 rfl (lv_at hl 3 rfl) ?_
            refine wv_getf hx hb h 37 (by decide) (fs := [.ref (ad 38), .int (nI (tl)), .int (nI (ol)), .int (nI (cd)), .ref (ad 39), .ref (ad 40), .ref (ad 41), .ref (ad 42), .ref (ad 43), .ref (ad 44), .ref (ad 45), .ref (ad 46), .ref (ad 47), .ref (ad 48), .ref (ad 49), .ref (ad 50)]) t3_37 hts (fun w hw => List.mem_cons_of_mem _ (fW_Md w hw)) hown (ci := 5) (C := "NonceBoxModel") (T := fT_Md) (N := 16) rfl 11 (by decide) (hts _ (List.mem_cons_of_mem _ kf_Md_35)) rfl (v := .ref (ad 46)) rfl d_Md_carryTag_72 ?_
            refine lv_iconst (v := nI (0)) hx hb d_Md_carryTag_75 (by decide) ?_
            refine wv_lald hx hb h 46 (by decide) (f := (va_up ((ctk (ct3 f k) j)) j ((((ctk (ct3 f k) j)) j) &&& 67108863))) t3_46 (k := 0) rfl (by decide) (by decide) d_Md_carryTag_76 ?_
            refine lv_ldc2 (v := 5) hx hb hown (hts _ (List.mem_cons_of_mem _ ko_Md_115)) d_Md_carryTag_77 ?_
            refine lv_lload_n hx hb d_Md_carryTag_80 rfl (lv_at hl 0 rfl) ?_
            refine lv_lmul hx hb d_Md_carryTag_81 ?_
            refine lv_ladd hx hb d_Md_carryTag_82 ?_
            refine wv_last hx hb h 46 (by decide) (f := (va_up ((ctk (ct3 f k) j)) j ((((ctk (ct3 f k) j)) j) &&& 67108863))) t3_46 (k := 0) rfl (by decide) (by decide) d_Md_carryTag_83 (fun H locs h => ?_)
            obtain ⟨ev4, o4⟩ : ∃ z, z = va_up ev3 46 (eJ G 5 (va_up ((va_up ((ctk (ct3 f k) j)) j ((((ctk (ct3 f k) j)) j) &&& 67108863))) 0 ((((va_up ((ctk (ct3 f k) j)) j ((((ctk (ct3 f k) j)) j) &&& 67108863))) 0) + (5 * hi)))) := ⟨_, rfl⟩
            rw [← o4] at h
            have t4_46 : ev4 46 = eJ G 5 (va_up ((va_up ((ctk (ct3 f k) j)) j ((((ctk (ct3 f k) j)) j) &&& 67108863))) 0 ((((va_up ((ctk (ct3 f k) j)) j ((((ctk (ct3 f k) j)) j) &&& 67108863))) 0) + (5 * hi))) := by rw [o4, va_up_self]
            have t4_37 := (show ev4 37 = ev3 37 by rw [o4, va_up_ne _ _ (by decide)]).trans t3_37
            refine lv_iinc (v := nI (j + 1)) (lv' := [(2, .int (nI (j + 1))), (3, .long (hi)), (1, .int (nI (k))), (0, .ref (ad 37))]) hx hb d_Md_carryTag_84 hl (k := 1) rfl (nI_add _ _) (by decide) rfl (fun ls hl => ?_)
            refine lv_goto (tgt := 9) hx hb d_Md_carryTag_87 (by decide) ?_
            refine ih2 (j + 1) (by omega) ev4 H locs ls ?_ h (lv_sub hl [0, 2, 3] rfl)
            rw [o4, o3, o2, va_up2, va_up2, ehi]
            show _ = va_up _ 46 (eJ G 5 (ct1 (ctk (ct3 f k) j) j))
            unfold ct1
            dsimp only
            rw [if_neg (by omega)]
          · have hc := Nat.lt_of_not_le (fun q => hc ((nI_leI (by omega) (by omega)).mpr q))
            refine lv_aload_n hx hb d_Md_carryTag_45 rfl (lv_at hl 3 rfl) ?_
            refine wv_getf hx hb h 37 (by decide) (fs := [.ref (ad 38), .int (nI (tl)), .int (nI (ol)), .int (nI (cd)), .ref (ad 39), .ref (ad 40), .ref (ad 41), .ref (ad 42), .ref (ad 43), .ref (ad 44), .ref (ad 45), .ref (ad 46), .ref (ad 47), .ref (ad 48), .ref (ad 49), .ref (ad 50)]) t3_37 hts (fun w hw => List.mem_cons_of_mem _ (fW_Md w hw)) hown (ci := 5) (C := "NonceBoxModel") (T := fT_Md) (N := 16) rfl 11 (by decide) (hts _ (List.mem_cons_of_mem _ kf_Md_35)) rfl (v := .ref (ad 46)) rfl d_Md_carryTag_46 ?_
            refine lv_iload_n hx hb d_Md_carryTag_49 rfl (lv_at hl 1 rfl) ?_
            refine lv_iconst (v := nI (1)) hx hb d_Md_carryTag_50 (by decide) ?_
            refine lv_iadd hx hb d_Md_carryTag_51 ?_
            refine wv_top (w := nI (j + 1)) (nI_add _ _) ?_
            refine lv_aload_n hx hb d_Md_carryTag_52 rfl (lv_at hl 3 rfl) ?_
            refine wv_getf hx hb h 37 (by decide) (fs := [.ref (ad 38), .int (nI (tl)), .int (nI (ol)), .int (nI (cd)), .ref (ad 39), .ref (ad 40), .ref (ad 41), .ref (ad 42), .ref (ad 43), .ref (ad 44), .ref (ad 45), .ref (ad 46), .ref (ad 47), .ref (ad 48), .ref (ad 49), .ref (ad 50)]) t3_37 hts (fun w hw => List.mem_cons_of_mem _ (fW_Md w hw)) hown (ci := 5) (C := "NonceBoxModel") (T := fT_Md) (N := 16) rfl 11 (by decide) (hts _ (List.mem_cons_of_mem _ kf_Md_35)) rfl (v := .ref (ad 46)) rfl d_Md_carryTag_53 ?_
            refine lv_iload_n hx hb d_Md_carryTag_56 rfl (lv_at hl 1 rfl) ?_
            refine lv_iconst (v := nI (1)) hx hb d_Md_carryTag_57 (by decide) ?_
            refine lv_iadd hx hb d_Md_carryTag_58 ?_
            refine wv_top (w := nI (j + 1)) (nI_add _ _) ?_
            refine wv_lald hx hb h 46 (by decide) (f := (va_up ((ctk (ct3 f k) j)) j ((((ctk (ct3 f k) j)) j) &&& 67108863))) t3_46 (k := j + 1) rfl (by omega) (by decide) d_Md_carryTag_59 ?_
            refine lv_lload_n hx hb d_Md_carryTag_60 rfl (lv_at hl 0 rfl) ?_
            refine lv_ladd hx hb d_Md_carryTag_61 ?_
            refine wv_last hx hb h 46 (by decide) (f := (va_up ((ctk (ct3 f k) j)) j ((((ctk (ct3 f k) j)) j) &&& 67108863))) t3_46 (k := j + 1) rfl (by omega) (by decide) d_Md_carryTag_62 (fun H locs h => ?_)
            obtain ⟨ev4, o4⟩ : ∃ z, z = va_up ev3 46 (eJ G 5 (va_up ((va_up ((ctk (ct3 f k) j)) j ((((ctk (ct3 f k) j)) j) &&& 67108863))) (j + 1) ((((va_up ((ctk (ct3 f k) j)) j ((((ctk (ct3 f k) j)) j) &&& 67108863))) (j + 1)) + hi))) := ⟨_, rfl⟩
            rw [← o4] at h
            have t4_46 : ev4 46 = eJ G 5 (va_up ((va_up ((ctk (ct3 f k) j)) j ((((ctk (ct3 f k) j)) j) &&& 67108863))) (j + 1) ((((va_up ((ctk (ct3 f k) j)) j ((((ctk (ct3 f k) j)) j) &&& 67108863))) (j + 1)) + hi)) := by rw [o4, va_up_self]
            have t4_37 := (show ev4 37 = ev3 37 by rw [o4, va_up_ne _ _ (by decide)]).trans t3_37
            refine lv_goto (tgt := 84) hx hb d_Md_carryTag_63 (by decide) ?_
            refine lv_iinc (v := nI (j + 1)) (lv' := [(2, .int (nI (j + 1))), (3, .long (hi)), (1, .int (nI (k))), (0, .ref (ad 37))]) hx hb d_Md_carryTag_84 hl (k := 1) rfl (nI_add _ _) (by decide) rfl (fun ls hl => ?_)
            refine lv_goto (tgt := 9) hx hb d_Md_carryTag_87 (by decide) ?_
            refine ih2 (j + 1) (by omega) ev4 H locs ls ?_ h (lv_sub hl [0, 2, 3] rfl)
            rw [o4, o3, o2, va_up2, va_up2, ehi]
            show _ = va_up _ 46 (eJ G 5 (ct1 (ctk (ct3 f k) j) j))
            unfold ct1
            dsimp only
            rw [if_pos hc]
      exact loop2 5 0 rfl ev1 H locs ls (va_upi _ _ t1_46).symm h (lv_sub hl [0, 1, 2] rfl)
  exact loop1 3 0 rfl ev s.heap [] ls (va_upi _ _ h46).symm h (lv_sub hl [0, 1] rfl)
theorem sub5 {k i : Nat} (hk : k < 5) (hi : i < 5) (h : k < i) : nI k - nI i + nI 5 = nI (k + 5 - i) := by
  rw [← pk_sub (show i ≤ k + 5 by omega), ← nI_add]
  rw [Int32.sub_eq_add_neg, Int32.sub_eq_add_neg, Int32.add_assoc, Int32.add_comm (-nI i), ← Int32.add_assoc]
theorem d_Md_timesR_0 : decode c_Md_timesR 0 = .ok (.iconst 0, 1) := by decide +kernel
theorem d_Md_timesR_1 : decode c_Md_timesR 1 = .ok (.istore_n 1, 1) := by decide +kernel
theorem d_Md_timesR_2 : decode c_Md_timesR 2 = .ok (.iload_n 1, 1) := by decide +kernel
theorem d_Md_timesR_3 : decode c_Md_timesR 3 = .ok (.iconst 5, 1) := by decide +kernel
theorem d_Md_timesR_4 : decode c_Md_timesR 4 = .ok (.if_icmp .ge 86, 3) := by decide +kernel
theorem d_Md_timesR_7 : decode c_Md_timesR 7 = .ok (.lconst 0, 1) := by decide +kernel
theorem d_Md_timesR_8 : decode c_Md_timesR 8 = .ok (.lstore_n 2, 1) := by decide +kernel
theorem d_Md_timesR_9 : decode c_Md_timesR 9 = .ok (.iconst 0, 1) := by decide +kernel
theorem d_Md_timesR_10 : decode c_Md_timesR 10 = .ok (.istore 4, 2) := by decide +kernel
theorem d_Md_timesR_12 : decode c_Md_timesR 12 = .ok (.iload 4, 2) := by decide +kernel
theorem d_Md_timesR_14 : decode c_Md_timesR 14 = .ok (.iconst 5, 1) := by decide +kernel
theorem d_Md_timesR_15 : decode c_Md_timesR 15 = .ok (.if_icmp .ge 62, 3) := by decide +kernel
theorem d_Md_timesR_18 : decode c_Md_timesR 18 = .ok (.iload_n 1, 1) := by decide +kernel
theorem d_Md_timesR_19 : decode c_Md_timesR 19 = .ok (.iload 4, 2) := by decide +kernel
theorem d_Md_timesR_21 : decode c_Md_timesR 21 = .ok (.isub, 1) := by decide +kernel
theorem d_Md_timesR_22 : decode c_Md_timesR 22 = .ok (.istore 5, 2) := by decide +kernel
theorem d_Md_timesR_24 : decode c_Md_timesR 24 = .ok (.lload_n 2, 1) := by decide +kernel
theorem d_Md_timesR_25 : decode c_Md_timesR 25 = .ok (.iload 5, 2) := by decide +kernel
theorem d_Md_timesR_27 : decode c_Md_timesR 27 = .ok (.ifCond .ge 27, 3) := by decide +kernel
theorem d_Md_timesR_30 : decode c_Md_timesR 30 = .ok (.ldc2_w 115, 3) := by decide +kernel
theorem d_Md_timesR_33 : decode c_Md_timesR 33 = .ok (.aload_n 0, 1) := by decide +kernel
theorem d_Md_timesR_34 : decode c_Md_timesR 34 = .ok (.getfield 35, 3) := by decide +kernel
theorem d_Md_timesR_37 : decode c_Md_timesR 37 = .ok (.iload 4, 2) := by decide +kernel
theorem d_Md_timesR_39 : decode c_Md_timesR 39 = .ok (.laload, 1) := by decide +kernel
theorem d_Md_timesR_40 : decode c_Md_timesR 40 = .ok (.lmul, 1) := by decide +kernel
theorem d_Md_timesR_41 : decode c_Md_timesR 41 = .ok (.aload_n 0, 1) := by decide +kernel
theorem d_Md_timesR_42 : decode c_Md_timesR 42 = .ok (.getfield 38, 3) := by decide +kernel
theorem d_Md_timesR_45 : decode c_Md_timesR 45 = .ok (.iload 5, 2) := by decide +kernel
theorem d_Md_timesR_47 : decode c_Md_timesR 47 = .ok (.iconst 5, 1) := by decide +kernel
theorem d_Md_timesR_48 : decode c_Md_timesR 48 = .ok (.iadd, 1) := by decide +kernel
theorem d_Md_timesR_49 : decode c_Md_timesR 49 = .ok (.laload, 1) := by decide +kernel
theorem d_Md_timesR_50 : decode c_Md_timesR 50 = .ok (.lmul, 1) := by decide +kernel
theorem d_Md_timesR_51 : decode c_Md_timesR 51 = .ok (.goto 18, 3) := by decide +kernel
theorem d_Md_timesR_54 : decode c_Md_timesR 54 = .ok (.aload_n 0, 1) := by decide +kernel
theorem d_Md_timesR_55 : decode c_Md_timesR 55 = .ok (.getfield 35, 3) := by decide +kernel
theorem d_Md_timesR_58 : decode c_Md_timesR 58 = .ok (.iload 4, 2) := by decide +kernel
theorem d_Md_timesR_60 : decode c_Md_timesR 60 = .ok (.laload, 1) := by decide +kernel
theorem d_Md_timesR_61 : decode c_Md_timesR 61 = .ok (.aload_n 0, 1) := by decide +kernel
theorem d_Md_timesR_62 : decode c_Md_timesR 62 = .ok (.getfield 38, 3) := by decide +kernel
theorem d_Md_timesR_65 : decode c_Md_timesR 65 = .ok (.iload 5, 2) := by decide +kernel
theorem d_Md_timesR_67 : decode c_Md_timesR 67 = .ok (.laload, 1) := by decide +kernel
theorem d_Md_timesR_68 : decode c_Md_timesR 68 = .ok (.lmul, 1) := by decide +kernel
theorem d_Md_timesR_69 : decode c_Md_timesR 69 = .ok (.ladd, 1) := by decide +kernel
theorem d_Md_timesR_70 : decode c_Md_timesR 70 = .ok (.lstore_n 2, 1) := by decide +kernel
theorem d_Md_timesR_71 : decode c_Md_timesR 71 = .ok (.iinc 4 1, 3) := by decide +kernel
theorem d_Md_timesR_74 : decode c_Md_timesR 74 = .ok (.goto (-62), 3) := by decide +kernel
theorem d_Md_timesR_77 : decode c_Md_timesR 77 = .ok (.aload_n 0, 1) := by decide +kernel
theorem d_Md_timesR_78 : decode c_Md_timesR 78 = .ok (.getfield 41, 3) := by decide +kernel
theorem d_Md_timesR_81 : decode c_Md_timesR 81 = .ok (.iload_n 1, 1) := by decide +kernel
theorem d_Md_timesR_82 : decode c_Md_timesR 82 = .ok (.lload_n 2, 1) := by decide +kernel
theorem d_Md_timesR_83 : decode c_Md_timesR 83 = .ok (.lastore, 1) := by decide +kernel
theorem d_Md_timesR_84 : decode c_Md_timesR 84 = .ok (.iinc 1 1, 3) := by decide +kernel
theorem d_Md_timesR_87 : decode c_Md_timesR 87 = .ok (.goto (-85), 3) := by decide +kernel
theorem d_Md_timesR_90 : decode c_Md_timesR 90 = .ok (.iconst 0, 1) := by decide +kernel
theorem d_Md_timesR_91 : decode c_Md_timesR 91 = .ok (.istore_n 1, 1) := by decide +kernel
theorem d_Md_timesR_92 : decode c_Md_timesR 92 = .ok (.iload_n 1, 1) := by decide +kernel
theorem d_Md_timesR_93 : decode c_Md_timesR 93 = .ok (.iconst 5, 1) := by decide +kernel
theorem d_Md_timesR_94 : decode c_Md_timesR 94 = .ok (.if_icmp .ge 21, 3) := by decide +kernel
theorem d_Md_timesR_97 : decode c_Md_timesR 97 = .ok (.aload_n 0, 1) := by decide +kernel
theorem d_Md_timesR_98 : decode c_Md_timesR 98 = .ok (.getfield 35, 3) := by decide +kernel
theorem d_Md_timesR_101 : decode c_Md_timesR 101 = .ok (.iload_n 1, 1) := by decide +kernel
theorem d_Md_timesR_102 : decode c_Md_timesR 102 = .ok (.aload_n 0, 1) := by decide +kernel
theorem d_Md_timesR_103 : decode c_Md_timesR 103 = .ok (.getfield 41, 3) := by decide +kernel
theorem d_Md_timesR_106 : decode c_Md_timesR 106 = .ok (.iload_n 1, 1) := by decide +kernel
theorem d_Md_timesR_107 : decode c_Md_timesR 107 = .ok (.laload, 1) := by decide +kernel
theorem d_Md_timesR_108 : decode c_Md_timesR 108 = .ok (.lastore, 1) := by decide +kernel
theorem d_Md_timesR_109 : decode c_Md_timesR 109 = .ok (.iinc 1 1, 3) := by decide +kernel
theorem d_Md_timesR_112 : decode c_Md_timesR 112 = .ok (.goto (-20), 3) := by decide +kernel
theorem d_Md_timesR_115 : decode c_Md_timesR 115 = .ok (.aload_n 0, 1) := by decide +kernel
theorem d_Md_timesR_116 : decode c_Md_timesR 116 = .ok (.invokevirtual 117, 3) := by decide +kernel
theorem d_Md_timesR_119 : decode c_Md_timesR 119 = .ok (.return_, 1) := by decide +kernel
set_option maxRecDepth 100000 in
set_option maxHeartbeats 4000000 in
/-- a times r -/
theorem m_Md_timesR (l : Launch) (G : wG) (A : Nat → Prop) (ad : Nat → Nat) (ev : Nat → va_E) (a r dd : Nat → Int64) (tl ol cd : Nat) (h37 : ev 37 = eO 5 [.ref (ad 38), .int (nI tl), .int (nI ol), .int (nI cd), .ref (ad 39), .ref (ad 40), .ref (ad 41), .ref (ad 42), .ref (ad 43), .ref (ad 44), .ref (ad 45), .ref (ad 46), .ref (ad 47), .ref (ad 48), .ref (ad 49), .ref (ad 50)]) (h46 : ev 46 = eJ G 5 a) (h47 : ev 47 = eJ G 5 r) (h48 : ev 48 = eJ G 5 dd) : wM l y_Md_timesR w_Md_timesR ({ frames := 3, cells := 0, slots := 0, locals := 100 }) G A 52 ad ev [.ref (ad 37)] (fun ov ev' => ov = none ∧ ∃ d2 : Row, ev' = va_up (va_up ev 48 (eJ G 5 d2)) 46 (eJ G 5 (tmR a r))) := by
  refine wv_ofW (cc := c_Md_timesR) (maxL := 6) (ret := none) (by decide) rfl (Nat.le_of_ble_eq_true rfl) ?_
  intro p e s m below meth c ls hx hb hr hml hts hown hlocks hini h hl
  have hl : lv_has ls 6 [(0, .ref (ad 37))] := hl
  refine lv_iconst (v := nI (0)) hx hb d_Md_timesR_0 (by decide) ?_
  refine lv_istore_n (lv' := [(1, .int (nI (0))), (0, .ref (ad 37))]) hx hb d_Md_timesR_1 rfl hl (by decide) rfl (fun ls hl => ?_)
  have loop1 : ∀ (d k : Nat), k + d = 5 →  ∀ (ev1 : Nat → va_E) (H : Heap) (locs : List Loc) (ls : Array Slot), ev1 = (va_up ev 48 (eJ G 5 (fil 0 k (fun k => dk a r k 5) dd))) → wT G A 52 ad ev1 s H locs → lv_has ls 6 [(1, .int (nI (k))), (0, .ref (ad 37))] → W p l e ({ frames := 3, cells := 0, slots := 0, locals := 100 }) s m ([.ref (ad 37)] : List Value).toArray below meth c H locs 0 0 (MQ below (wQc G A 52 ad (fun ov ev' => ov = none ∧ ∃ d2 : Row, ev' = va_up (va_up ev 48 (eJ G 5 d2)) 46 (eJ G 5 (tmR a r)))) ([.ref (ad 37)] : List Value).toArray s 0 0 A) (F0 m 2 ls []) := by
    intro d
    induction d with
    | zero =>
      intro k hk_k  ev1 H locs ls  o1 h hl
      have t1_48 : ev1 48 = eJ G 5 (fil 0 k (fun k => dk a r k 5) dd) := by rw [o1, va_up_self]
      have t1_46 := (show ev1 46 = ev 46 by rw [o1, va_up_ne _ _ (by decide)]).trans h46
      have t1_47 := (show ev1 47 = ev 47 by rw [o1, va_up_ne _ _ (by decide)]).trans h47
      have t1_37 := (show ev1 37 = ev 37 by rw [o1, va_up_ne _ _ (by decide)]).trans h37
      refine lv_iload_n hx hb d_Md_timesR_2 rfl (lv_at hl 0 rfl) ?_
      refine lv_iconst (v := nI (5)) hx hb d_Md_timesR_3 (by decide) ?_
      refine lv_icmp_ge (tgt := 90) hx hb d_Md_timesR_4 (by decide) (fun _ => ?_) (fun hc => absurd ((nI_leI (by omega) (by omega)).mpr (by omega)) hc)
      have h := wT_eqJ (g := (fun k => dk a r k 5)) h 48 (by decide) t1_48 (fun j hj => by unfold fil; rw [if_pos (by omega), Nat.sub_zero])
      obtain ⟨ev2, o2⟩ : ∃ z, z = va_up ev1 48 (eJ G 5 (fun k => dk a r k 5)) := ⟨_, rfl⟩
      rw [← o2] at h
      have t2_48 : ev2 48 = eJ G 5 (fun k => dk a r k 5) := by rw [o2, va_up_self]
      have t2_46 := (show ev2 46 = ev1 46 by rw [o2, va_up_ne _ _ (by decide)]).trans t1_46
      have t2_47 := (show ev2 47 = ev1 47 by rw [o2, va_up_ne _ _ (by decide)]).trans t1_47
      have t2_37 := (show ev2 37 = ev1 37 by rw [o2, va_up_ne _ _ (by decide)]).trans t1_37
      refine lv_iconst (v := nI (0)) hx hb d_Md_timesR_90 (by decide) ?_
      refine lv_istore_n (lv' := [(1, .int (nI (0))), (0, .ref (ad 37))]) hx hb d_Md_timesR_91 rfl hl (by decide) rfl (fun ls hl => ?_)
      have loop3 : ∀ (d t0 : Nat), t0 + d = 5 →  ∀ (ev3 : Nat → va_E) (H : Heap) (locs : List Loc) (ls : Array Slot), ev3 = (va_up ev2 46 (eJ G 5 (fil 0 t0 (fun k => dk a r k 5) a))) → wT G A 52 ad ev3 s H locs → lv_has ls 6 [(1, .int (nI (t0))), (0, .ref (ad 37))] → W p l e ({ frames := 3, cells := 0, slots := 0, locals := 100 }) s m ([.ref (ad 37)] : List Value).toArray below meth c H locs 0 0 (MQ below (wQc G A 52 ad (fun ov ev' => ov = none ∧ ∃ d2 : Row, ev' = va_up (va_up ev 48 (eJ G 5 d2)) 46 (eJ G 5 (tmR a r)))) ([.ref (ad 37)] : List Value).toArray s 0 0 A) (F0 m 92 ls []) := by
        intro d
        induction d with
        | zero =>
          intro t0 hk_t0  ev3 H locs ls  o3 h hl
          have t3_46 : ev3 46 = eJ G 5 (fil 0 t0 (fun k => dk a r k 5) a) := by rw [o3, va_up_self]
          have t3_47 := (show ev3 47 = ev2 47 by rw [o3, va_up_ne _ _ (by decide)]).trans t2_47
          have t3_48 := (show ev3 48 = ev2 48 by rw [o3, va_up_ne _ _ (by decide)]).trans t2_48
          have t3_37 := (show ev3 37 = ev2 37 by rw [o3, va_up_ne _ _ (by decide)]).trans t2_37
          refine lv_iload_n hx hb d_Md_timesR_92 rfl (lv_at hl 0 rfl) ?_
          refine lv_iconst (v := nI (5)) hx hb d_Md_timesR_93 (by decide) ?_
          refine lv_icmp_ge (tgt := 115) hx hb d_Md_timesR_94 (by decide) (fun _ => ?_) (fun hc => absurd ((nI_leI (by omega) (by omega)).mpr (by omega)) hc)
          have h := wT_eqJ (g := (fun k => dk a r k 5)) h 46 (by decide) t3_46 (fun j hj => by unfold fil; rw [if_pos (by omega), Nat.sub_zero])
          obtain ⟨ev4, o4⟩ : ∃ z, z = va_up ev3 46 (eJ G 5 (fun k => dk a r k 5)) := ⟨_, rfl⟩
          rw [← o4] at h
          have t4_46 : ev4 46 = eJ G 5 (fun k => dk a r k 5) := by rw [o4, va_up_self]
          have t4_47 := (show ev4 47 = ev3 47 by rw [o4, va_up_ne _ _ (by decide)]).trans t3_47
          have t4_48 := (show ev4 48 = ev3 48 by rw [o4, va_up_ne _ _ (by decide)]).trans t3_48
          have t4_37 := (show ev4 37 = ev3 37 by rw [o4, va_up_ne _ _ (by decide)]).trans t3_37
          refine lv_aload_n hx hb d_Md_timesR_115 rfl (lv_at hl 1 rfl) ?_
          refine wv_V (As := []) (rest := []) (k := 0) ⟨hx, hb, hml, hown, hts⟩ h 37 (by decide) (C := "NonceBoxModel") t4_37 rfl (m_Md_carryTag l G A ad ev4 (fun k => dk a r k 5) tl ol cd t4_37 t4_46) kc_Md_carryTag kl_Md_117 km_Md_carryTag kv_Md_carryTag ki_Md (by decide +kernel) ⟨rfl, rfl, Nat.le_of_ble_eq_true rfl, Nat.le_of_ble_eq_true rfl⟩ hl.1 rfl rfl (Nat.le_of_ble_eq_true rfl) ⟨Nat.le_refl _, Nat.le_refl _⟩ d_Md_timesR_116 ?_
          intro ov ev5 H locs hp h
          rw [hp.1]
          refine W.eq (g2 := F0 m 119 ls []) rfl ?_
          have o5 : ev5 = (va_up ev4 46 (eJ G 5 (tmR a r))) := hp.2
          have t5_46 : ev5 46 = eJ G 5 (tmR a r) := by rw [o5, va_up_self]
          have t5_47 := (show ev5 47 = ev4 47 by rw [o5, va_up_ne _ _ (by decide)]).trans t4_47
          have t5_48 := (show ev5 48 = ev4 48 by rw [o5, va_up_ne _ _ (by decide)]).trans t4_48
          have t5_37 := (show ev5 37 = ev4 37 by rw [o5, va_up_ne _ _ (by decide)]).trans t4_37
          refine wv_vret hx hb hr hlocks h d_Md_timesR_119 ⟨rfl, (fun k => dk a r k 5), ?_⟩
          funext j
          by_cases c0 : j = 48
          · rw [c0, t5_48, va_up_ne _ _ (by decide), va_up_self]
          by_cases c1 : j = 46
          · rw [c1, t5_46, va_up_self]
          rw [va_up_ne _ _ c1, va_up_ne _ _ c0]
          rw [o5, va_up_ne _ _ c1, o4, va_up_ne _ _ c1, o3, va_up_ne _ _ c1, o2, va_up_ne _ _ c0, o1, va_up_ne _ _ c0]
        | succ d ih =>
          intro t0 hk_t0  ev3 H locs ls  o3 h hl
          have t3_46 : ev3 46 = eJ G 5 (fil 0 t0 (fun k => dk a r k 5) a) := by rw [o3, va_up_self]
          have t3_47 := (show ev3 47 = ev2 47 by rw [o3, va_up_ne _ _ (by decide)]).trans t2_47
          have t3_48 := (show ev3 48 = ev2 48 by rw [o3, va_up_ne _ _ (by decide)]).trans t2_48
          have t3_37 := (show ev3 37 = ev2 37 by rw [o3, va_up_ne _ _ (by decide)]).trans t2_37
          refine lv_iload_n hx hb d_Md_timesR_92 rfl (lv_at hl 0 rfl) ?_
          refine lv_iconst (v := nI (5)) hx hb d_Md_timesR_93 (by decide) ?_
          refine lv_icmp_ge (tgt := 115) hx hb d_Md_timesR_94 (by decide) (fun hc => absurd ((nI_leI (by omega) (by omega)).mp hc) (by omega)) (fun _ => ?_)
          refine lv_aload_n hx hb d_Md_timesR_97 rfl (lv_at hl 1 rfl) ?_
          refine wv_getf hx hb h 37 (by decide) (fs := [.ref (ad 38), .int (nI (tl)), .int (nI (ol)), .int (nI (cd)), .ref (ad 39), .ref (ad 40), .ref (ad 41), .ref (ad 42), .ref (ad 43), .ref (ad 44), .ref (ad 45), .ref (ad 46), .ref (ad 47), .ref (ad 48), .ref (ad 49), .ref (ad 50)]) t3_37 hts (fun w hw => List.mem_cons_of_mem _ (fW_Md w hw)) hown (ci := 5) (C := "NonceBoxModel") (T := fT_Md) (N := 16) rfl 11 (by decide) (hts _ (List.mem_cons_of_mem _ kf_Md_35)) rfl (v := .ref (ad 46)) rfl d_Md_timesR_98 ?_
          refine lv_iload_n hx hb d_Md_timesR_101 rfl (lv_at hl 0 rfl) ?_
          refine lv_aload_n hx hb d_Md_timesR_102 rfl (lv_at hl 1 rfl) ?_
          refine wv_getf hx hb h 37 (by decide) (fs := [.ref (ad 38), .int (nI (tl)), .int (nI (ol)), .int (nI (cd)), .ref (ad 39), .ref (ad 40), .ref (ad 41), .ref (ad 42), .ref (ad 43), .ref (ad 44), .ref (ad 45), .ref (ad 46), .ref (ad 47), .ref (ad 48), .ref (ad 49), .ref (ad 50)]) t3_37 hts (fun w hw => List.mem_cons_of_mem _ (fW_Md w hw)) hown (ci := 5) (C := "NonceBoxModel") (T := fT_Md) (N := 16) rfl 13 (by decide) (hts _ (List.mem_cons_of_mem _ kf_Md_41)) rfl (v := .ref (ad 48)) rfl d_Md_timesR_103 ?_
          refine lv_iload_n hx hb d_Md_timesR_106 rfl (lv_at hl 0 rfl) ?_
          refine wv_lald hx hb h 48 (by decide) (f := (fun k => dk a r k 5)) t3_48 (k := t0) rfl (by omega) (by decide) d_Md_timesR_107 ?_
          refine wv_last hx hb h 46 (by decide) (f := (fil 0 t0 (fun k => dk a r k 5) a)) t3_46 (k := t0) rfl (by omega) (by decide) d_Md_timesR_108 (fun H locs h => ?_)
          obtain ⟨ev4, o4⟩ : ∃ z, z = va_up ev3 46 (eJ G 5 (va_up ((fil 0 t0 (fun k => dk a r k 5) a)) t0 (((fun k => dk a r k 5)) t0))) := ⟨_, rfl⟩
          rw [← o4] at h
          have t4_46 : ev4 46 = eJ G 5 (va_up ((fil 0 t0 (fun k => dk a r k 5) a)) t0 (((fun k => dk a r k 5)) t0)) := by rw [o4, va_up_self]
          have t4_47 := (show ev4 47 = ev3 47 by rw [o4, va_up_ne _ _ (by decide)]).trans t3_47
          have t4_48 := (show ev4 48 = ev3 48 by rw [o4, va_up_ne _ _ (by decide)]).trans t3_48
          have t4_37 := (show ev4 37 = ev3 37 by rw [o4, va_up_ne _ _ (by decide)]).trans t3_37
          refine lv_iinc (v := nI (t0 + 1)) (lv' := [(1, .int (nI (t0 + 1))), (0, .ref (ad 37))]) hx hb d_Md_timesR_109 hl (k := 0) rfl (nI_add _ _) (by decide) rfl (fun ls hl => ?_)
          refine lv_goto (tgt := 92) hx hb d_Md_timesR_112 (by decide) ?_
          refine ih (t0 + 1) (by omega) ev4 H locs ls ?_ h (lv_sub hl [0, 1] rfl)
          rw [o4, o3, va_up2, ← fil_s 0 t0 (fun k => dk a r k 5) a rfl, Nat.zero_add]
      exact loop3 5 0 rfl ev2 H locs ls (by rw [fil_0, va_upi _ _ t2_46]) h (lv_sub hl [0, 1] rfl)
    | succ d ih =>
      intro k hk_k  ev1 H locs ls  o1 h hl
      have t1_48 : ev1 48 = eJ G 5 (fil 0 k (fun k => dk a r k 5) dd) := by rw [o1, va_up_self]
      have t1_46 := (show ev1 46 = ev 46 by rw [o1, va_up_ne _ _ (by decide)]).trans h46
      have t1_47 := (show ev1 47 = ev 47 by rw [o1, va_up_ne _ _ (by decide)]).trans h47
      have t1_37 := (show ev1 37 = ev 37 by rw [o1, va_up_ne _ _ (by decide)]).trans h37
      refine lv_iload_n hx hb d_Md_timesR_2 rfl (lv_at hl 0 rfl) ?_
      refine lv_iconst (v := nI (5)) hx hb d_Md_timesR_3 (by decide) ?_
      refine lv_icmp_ge (tgt := 90) hx hb d_Md_timesR_4 (by decide) (fun hc => absurd ((nI_leI (by omega) (by omega)).mp hc) (by omega)) (fun _ => ?_)
      refine lv_lconst (v := 0) hx hb d_Md_timesR_7 (by decide) ?_
      refine lv_lstore_n (lv' := [(2, .long (0)), (1, .int (nI (k))), (0, .ref (ad 37))]) hx hb d_Md_timesR_8 rfl hl (by decide) rfl (fun ls hl => ?_)
      refine lv_iconst (v := nI (0)) hx hb d_Md_timesR_9 (by decide) ?_
      refine lv_istore (lv' := [(4, .int (nI (0))), (2, .long (0)), (1, .int (nI (k))), (0, .ref (ad 37))]) hx hb d_Md_timesR_10 hl (by decide) rfl (fun ls hl => ?_)
      have loopi : ∀ (d i : Nat), i + d = 5 → ∀ (ls : Array Slot), lv_has ls 6 [(4, .int (nI (i))), (2, .long (dk a r k i)), (1, .int (nI (k))), (0, .ref (ad 37))] → W p l e ({ frames := 3, cells := 0, slots := 0, locals := 100 }) s m ([.ref (ad 37)] : List Value).toArray below meth c H locs 0 0 (MQ below (wQc G A 52 ad (fun ov ev' => ov = none ∧ ∃ d2 : Row, ev' = va_up (va_up ev 48 (eJ G 5 d2)) 46 (eJ G 5 (tmR a r)))) ([.ref (ad 37)] : List Value).toArray s 0 0 A) (F0 m 12 ls []) := by
        intro d2
        induction d2 with
        | zero =>
          intro i hi ls hl
          refine lv_iload hx hb d_Md_timesR_12 (lv_at hl 0 rfl) ?_
          refine lv_iconst (v := nI (5)) hx hb d_Md_timesR_14 (by decide) ?_
          refine lv_icmp_ge (tgt := 77) hx hb d_Md_timesR_15 (by decide) (fun _ => ?_) (fun hc => absurd ((nI_leI (by omega) (by omega)).mpr (by omega)) hc)
          refine lv_aload_n hx hb d_Md_timesR_77 rfl (lv_at hl 3 rfl) ?_
          refine wv_getf hx hb h 37 (by decide) (fs := [.ref (ad 38), .int (nI (tl)), .int (nI (ol)), .int (nI (cd)), .ref (ad 39), .ref (ad 40), .ref (ad 41), .ref (ad 42), .ref (ad 43), .ref (ad 44), .ref (ad 45), .ref (ad 46), .ref (ad 47), .ref (ad 48), .ref (ad 49), .ref (ad 50)]) t1_37 hts (fun w hw => List.mem_cons_of_mem _ (fW_Md w hw)) hown (ci := 5) (C := "NonceBoxModel") (T := fT_Md) (N := 16) rfl 13 (by decide) (hts _ (List.mem_cons_of_mem _ kf_Md_41)) rfl (v := .ref (ad 48)) rfl d_Md_timesR_78 ?_
          refine lv_iload_n hx hb d_Md_timesR_81 rfl (lv_at hl 2 rfl) ?_
          refine lv_lload_n hx hb d_Md_timesR_82 rfl (lv_at hl 1 rfl) ?_
          refine wv_last hx hb h 48 (by decide) (f := (fil 0 k (fun k => dk a r k 5) dd)) t1_48 (k := k) rfl (by omega) (by decide) d_Md_timesR_83 (fun H locs h => ?_)
          obtain ⟨ev2, o2⟩ : ∃ z, z = va_up ev1 48 (eJ G 5 (va_up ((fil 0 k (fun k => dk a r k 5) dd)) k (dk a r k i))) := ⟨_, rfl⟩
          rw [← o2] at h
          have t2_48 : ev2 48 = eJ G 5 (va_up ((fil 0 k (fun k => dk a r k 5) dd)) k (dk a r k i)) := by rw [o2, va_up_self]
          have t2_46 := (show ev2 46 = ev1 46 by rw [o2, va_up_ne _ _ (by decide)]).trans t1_46
          have t2_47 := (show ev2 47 = ev1 47 by rw [o2, va_up_ne _ _ (by decide)]).trans t1_47
          have t2_37 := (show ev2 37 = ev1 37 by rw [o2, va_up_ne _ _ (by decide)]).trans t1_37
          refine lv_iinc (v := nI (k + 1)) (lv' := [(1, .int (nI (k + 1))), (4, .int (nI (i))), (2, .long (dk a r k i)), (0, .ref (ad 37))]) hx hb d_Md_timesR_84 hl (k := 2) rfl (nI_add _ _) (by decide) rfl (fun ls hl => ?_)
          refine lv_goto (tgt := 2) hx hb d_Md_timesR_87 (by decide) ?_
          refine ih (k + 1) (by omega) ev2 H locs ls ?_ h (lv_sub hl [0, 3] rfl)
          rw [o2, o1, va_up2, show i = 5 by omega, ← fil_s 0 k (fun k => dk a r k 5) dd rfl, Nat.zero_add]
        | succ d2 ih2 =>
          intro i hi ls hl
          refine lv_iload hx hb d_Md_timesR_12 (lv_at hl 0 rfl) ?_
          refine lv_iconst (v := nI (5)) hx hb d_Md_timesR_14 (by decide) ?_
          refine lv_icmp_ge (tgt := 77) hx hb d_Md_timesR_15 (by decide) (fun hc => absurd ((nI_leI (by omega) (by omega)).mp hc) (by omega)) (fun _ => ?_)
          refine lv_iload_n hx hb d_Md_timesR_18 rfl (lv_at hl 2 rfl) ?_
          refine lv_iload hx hb d_Md_timesR_19 (lv_at hl 0 rfl) ?_
          by_cases hki : k < i
          · skip
            refine lv_isub hx hb d_Md_timesR_21 ?_
            refine lv_istore (lv' := [(5, .int (nI k - nI i)), (4, .int (nI (i))), (2, .long (dk a r k i)), (1, .int (nI (k))), (0, .ref (ad 37))]) hx hb d_Md_timesR_22 hl (by decide) rfl (fun ls hl => ?_)
            refine lv_lload_n hx hb d_Md_timesR_24 rfl (lv_at hl 2 rfl) ?_
            refine lv_iload hx hb d_Md_timesR_25 (lv_at hl 0 rfl) ?_
            refine lv_if_ge (tgt := 54) hx hb d_Md_timesR_27 (by decide) (fun hc => absurd hc (fun q => by
                have h1 := Int32.lt_iff_toInt_lt.mp (pk_sneg (a := k) (b := i) (by omega) hki)
                have h2 := Int32.le_iff_toInt_le.mp q
                omega)) (fun _ => ?_)
            refine lv_ldc2 (v := 5) hx hb hown (hts _ (List.mem_cons_of_mem _ ko_Md_115)) d_Md_timesR_30 ?_
            refine lv_aload_n hx hb d_Md_timesR_33 rfl (lv_at hl 4 rfl) ?_
            refine wv_getf hx hb h 37 (by decide) (fs := [.ref (ad 38), .int (nI (tl)), .int (nI (ol)), .int (nI (cd)), .ref (ad 39), .ref (ad 40), .ref (ad 41), .ref (ad 42), .ref (ad 43), .ref (ad 44), .ref (ad 45), .ref (ad 46), .ref (ad 47), .ref (ad 48), .ref (ad 49), .ref (ad 50)]) t1_37 hts (fun w hw => List.mem_cons_of_mem _ (fW_Md w hw)) hown (ci := 5) (C := "NonceBoxModel") (T := fT_Md) (N := 16) rfl 11 (by decide) (hts _ (List.mem_cons_of_mem _ kf_Md_35)) rfl (v := .ref (ad 46)) rfl d_Md_timesR_34 ?_
            refine lv_iload hx hb d_Md_timesR_37 (lv_at hl 1 rfl) ?_
            refine wv_lald hx hb h 46 (by decide) (f := a) t1_46 (k := i) rfl (by omega) (by decide) d_Md_timesR_39 ?_
            refine lv_lmul hx hb d_Md_timesR_40 ?_
            refine lv_aload_n hx hb d_Md_timesR_41 rfl (lv_at hl 4 rfl) ?_
            refine wv_getf hx hb h 37 (by decide) (fs := [.ref (ad 38), .int (nI (tl)), .int (nI (ol)), .int (nI (cd)), .ref (ad 39), .ref (ad 40), .ref (ad 41), .ref (ad 42), .ref (ad 43), .ref (ad 44), .ref (ad 45), .ref (ad 46), .ref (ad 47), .ref (ad 48), .ref (ad 49), .ref (ad 50)]) t1_37 hts (fun w hw => List.mem_cons_of_mem _ (fW_Md w hw)) hown (ci := 5) (C := "NonceBoxModel") (T := fT_Md) (N := 16) rfl 12 (by decide) (hts _ (List.mem_cons_of_mem _ kf_Md_38)) rfl (v := .ref (ad 47)) rfl d_Md_timesR_42 ?_
            refine lv_iload hx hb d_Md_timesR_45 (lv_at hl 0 rfl) ?_
            refine lv_iconst (v := nI (5)) hx hb d_Md_timesR_47 (by decide) ?_
            refine lv_iadd hx hb d_Md_timesR_48 ?_
            refine wv_top (w := nI (k + 5 - i)) (sub5 (by omega) (by omega) hki) ?_
            refine wv_lald hx hb h 47 (by decide) (f := r) t1_47 (k := k + 5 - i) rfl (by omega) (by decide) d_Md_timesR_49 ?_
            refine lv_lmul hx hb d_Md_timesR_50 ?_
            refine lv_goto (tgt := 69) hx hb d_Md_timesR_51 (by decide) ?_
            refine lv_ladd hx hb d_Md_timesR_69 ?_
            refine wv_topl (w := dk a r k (i + 1)) (by show _ = dk a r k i + _; rw [if_pos hki]) ?_
            refine lv_lstore_n (lv' := [(2, .long (dk a r k (i + 1))), (5, .int (nI k - nI i)), (4, .int (nI (i))), (1, .int (nI (k))), (0, .ref (ad 37))]) hx hb d_Md_timesR_70 rfl hl (by decide) rfl (fun ls hl => ?_)
            refine lv_iinc (v := nI (i + 1)) (lv' := [(4, .int (nI (i + 1))), (2, .long (dk a r k (i + 1))), (5, .int (nI k - nI i)), (1, .int (nI (k))), (0, .ref (ad 37))]) hx hb d_Md_timesR_71 hl (k := 2) rfl (nI_add _ _) (by decide) rfl (fun ls hl => ?_)
            refine lv_goto (tgt := 12) hx hb d_Md_timesR_74 (by decide) ?_
            exact ih2 (i + 1) (by omega) ls (lv_sub hl [0, 1, 3, 4] rfl)
          · skip
            refine lv_isub hx hb d_Md_timesR_21 ?_
            refine wv_top (w := nI (k - i)) (pk_sub (by omega)) ?_
            refine lv_istore (lv' := [(5, .int (nI (k - i))), (4, .int (nI (i))), (2, .long (dk a r k i)), (1, .int (nI (k))), (0, .ref (ad 37))]) hx hb d_Md_timesR_22 hl (by decide) rfl (fun ls hl => ?_)
            refine lv_lload_n hx hb d_Md_timesR_24 rfl (lv_at hl 2 rfl) ?_
            refine lv_iload hx hb d_Md_timesR_25 (lv_at hl 0 rfl) ?_
            refine lv_if_ge (tgt := 54) hx hb d_Md_timesR_27 (by decide) (fun _ => ?_) (fun hc => absurd (nI_pos' (by omega)) hc)
            refine lv_aload_n hx hb d_Md_timesR_54 rfl (lv_at hl 4 rfl) ?_
            refine wv_getf hx hb h 37 (by decide) (fs := [.ref (ad 38), .int (nI (tl)), .int (nI (ol)), .int (nI (cd)), .ref (ad 39), .ref (ad 40), .ref (ad 41), .ref (ad 42), .ref (ad 43), .ref (ad 44), .ref (ad 45), .ref (ad 46), .ref (ad 47), .ref (ad 48), .ref (ad 49), .ref (ad 50)]) t1_37 hts (fun w hw => List.mem_cons_of_mem _ (fW_Md w hw)) hown (ci := 5) (C := "NonceBoxModel") (T := fT_Md) (N := 16) rfl 11 (by decide) (hts _ (List.mem_cons_of_mem _ kf_Md_35)) rfl (v := .ref (ad 46)) rfl d_Md_timesR_55 ?_
            refine lv_iload hx hb d_Md_timesR_58 (lv_at hl 1 rfl) ?_
            refine wv_lald hx hb h 46 (by decide) (f := a) t1_46 (k := i) rfl (by omega) (by decide) d_Md_timesR_60 ?_
            refine lv_aload_n hx hb d_Md_timesR_61 rfl (lv_at hl 4 rfl) ?_
            refine wv_getf hx hb h 37 (by decide) (fs := [.ref (ad 38), .int (nI (tl)), .int (nI (ol)), .int (nI (cd)), .ref (ad 39), .ref (ad 40), .ref (ad 41), .ref (ad 42), .ref (ad 43), .ref (ad 44), .ref (ad 45), .ref (ad 46), .ref (ad 47), .ref (ad 48), .ref (ad 49), .ref (ad 50)]) t1_37 hts (fun w hw => List.mem_cons_of_mem _ (fW_Md w hw)) hown (ci := 5) (C := "NonceBoxModel") (T := fT_Md) (N := 16) rfl 12 (by decide) (hts _ (List.mem_cons_of_mem _ kf_Md_38)) rfl (v := .ref (ad 47)) rfl d_Md_timesR_62 ?_
            refine lv_iload hx hb d_Md_timesR_65 (lv_at hl 0 rfl) ?_
            refine wv_lald hx hb h 47 (by decide) (f := r) t1_47 (k := k - i) rfl (by omega) (by decide) d_Md_timesR_67 ?_
            refine lv_lmul hx hb d_Md_timesR_68 ?_
            refine lv_ladd hx hb d_Md_timesR_69 ?_
            refine wv_topl (w := dk a r k (i + 1)) (by show _ = dk a r k i + _; rw [if_neg hki]) ?_
            refine lv_lstore_n (lv' := [(2, .long (dk a r k (i + 1))), (5, .int (nI (k - i))), (4, .int (nI (i))), (1, .int (nI (k))), (0, .ref (ad 37))]) hx hb d_Md_timesR_70 rfl hl (by decide) rfl (fun ls hl => ?_)
            refine lv_iinc (v := nI (i + 1)) (lv' := [(4, .int (nI (i + 1))), (2, .long (dk a r k (i + 1))), (5, .int (nI (k - i))), (1, .int (nI (k))), (0, .ref (ad 37))]) hx hb d_Md_timesR_71 hl (k := 2) rfl (nI_add _ _) (by decide) rfl (fun ls hl => ?_)
            refine lv_goto (tgt := 12) hx hb d_Md_timesR_74 (by decide) ?_
            exact ih2 (i + 1) (by omega) ls (lv_sub hl [0, 1, 3, 4] rfl)
      exact loopi 5 0 rfl ls (lv_sub hl [0, 1, 2, 3] rfl)
  exact loop1 5 0 rfl ev s.heap [] ls (by rw [fil_0, va_upi _ _ h48]) h (lv_sub hl [0, 1] rfl)
