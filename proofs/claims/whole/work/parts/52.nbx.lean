/-! what the calls do to the five rows and two lengths, and what they answer -/
def by8 (w : Int64) (k : Nat) : Nat := w.toBitVec.toNat / 2 ^ (8 * k) % 256
theorem by8_lt (w : Int64) (k : Nat) : by8 w k < 256 := Nat.mod_lt _ (by decide)
def spLen (x : Int32) (tl : Nat) (ans : Int32) (tl' : Nat) : Prop := (∃ k, k ≤ 112 ∧ x = nI k ∧ ans = nI 1 ∧ tl' = k) ∨ ((∀ k, k ≤ 112 → x ≠ nI k) ∧ ans = nI 0 ∧ tl' = tl)
def spStr (x : Int32) (Bf : Nat → Nat → Nat) (ol : Nat) (ans : Int32) (Bf' : Nat → Nat → Nat) (ol' : Nat) : Prop := (∃ k, k ≤ 112 ∧ x = nI k ∧ ans = nI 1 ∧ Bf' = va_up Bf 4 (outF k (STRB (Bf 0) (Bf 1))) ∧ ol' = k) ∨ ((∀ k, k ≤ 112 → x ≠ nI k) ∧ ans = nI 0 ∧ Bf' = Bf ∧ ol' = ol)
def spSize (x : Int32) (tl ol : Nat) (ans : Int32) : Prop := (∃ b, b < 3 ∧ x = nI b ∧ ans = nI (bsz b)) ∨ (x = nI 3 ∧ ans = nI tl) ∨ (x = nI 4 ∧ ans = nI ol) ∨ ((∀ b, b < 5 → x ≠ nI b) ∧ ans = -1)
def spPut (x i : Int32) (w : Int64) (Bf : Nat → Nat → Nat) (ans : Int32) (Bf' : Nat → Nat → Nat) : Prop := (∃ b k, b < 4 ∧ k < bsz b / 8 ∧ x = nI b ∧ i = nI k ∧ ans = nI 1 ∧ Bf' = va_up Bf b (fil (8 * k) 8 (by8 w) (Bf b))) ∨ ((∀ b k, b < 4 → k < bsz b / 8 → x = nI b → i ≠ nI k) ∧ ans = nI 0 ∧ Bf' = Bf)
def spWord (x i : Int32) (Bf : Nat → Nat → Nat) (ans : Int64) : Prop := (∃ b k, b < 5 ∧ k < bsz b / 8 ∧ x = nI b ∧ i = nI k ∧ ans = lN (wd8 (Bf b) (8 * k) 8)) ∨ ((∀ b k, b < 5 → k < bsz b / 8 → x = nI b → i ≠ nI k) ∧ ans = 0)
def spMove (x : Int32) (Bf : Nat → Nat → Nat) (tl ol : Nat) (ans : Int32) (Bf' : Nat → Nat → Nat) (tl' : Nat) : Prop := (x = nI 3 ∧ ans = nI 1 ∧ Bf' = va_up Bf 3 (fil 0 ol (Bf 4) (Bf 3)) ∧ tl' = ol) ∨ (ol = 32 ∧ (∃ b, (b = 0 ∨ b = 2) ∧ x = nI b ∧ ans = nI 1 ∧ Bf' = va_up Bf b (fil 0 32 (Bf 4) (Bf b))) ∧ tl' = tl) ∨ (x ≠ nI 3 ∧ (ol ≠ 32 ∨ (x ≠ nI 0 ∧ x ≠ nI 2)) ∧ ans = nI 0 ∧ Bf' = Bf ∧ tl' = tl)
theorem nI_far {x : Int32} {n : Nat} (hn : n < 2 ^ 31) (h : x < 0 ∨ nI n ≤ x) (k : Nat) (hk : k < n) : x ≠ nI k := by
  intro q
  subst q
  rcases h with h | h
  · exact nI_pos (by omega) h
  · exact nI_ge hk hn h
theorem NB_row {G : wG} {ad : Nat → Nat} {ev : Nat → va_E} {Bf : Nat → Nat → Nat} {tl ol : Nat} (hNB : NB G ad ev Bf tl ol) : ∀ b, b < 5 → ev (b + 1) = eB G (bsz b) (bs (Bf b)) := by
  obtain ⟨-, g1, g2, g3, g4, g5, -⟩ := hNB
  intro b hb
  rcases (show b = 0 ∨ b = 1 ∨ b = 2 ∨ b = 3 ∨ b = 4 by omega) with rfl | rfl | rfl | rfl | rfl
  · exact g1
  · exact g2
  · exact g3
  · exact g4
  · exact g5
theorem bsz_in (b : Nat) : 24 ≤ bsz b ∧ bsz b ≤ 112 ∧ 8 * (bsz b / 8) = bsz b := by
  unfold bsz
  by_cases h : b = 1
  · rw [if_pos h]; decide
  · rw [if_neg h]
    by_cases h2 : b = 0 ∨ b = 2
    · rw [if_pos h2]; decide
    · rw [if_neg h2]; decide
set_option maxRecDepth 100000 in
set_option maxHeartbeats 4000000 in
theorem NB_set {G : wG} {ad : Nat → Nat} {ev : Nat → va_E} {Bf : Nat → Nat → Nat} {tl ol : Nat} (hNB : NB G ad ev Bf tl ol) {X : Nat → Nat} (hX : ∀ j, X j < 256) : ∀ b, b < 5 → NB G ad (va_up ev (b + 1) (eB G (bsz b) (bs X))) (va_up Bf b X) tl ol := by
  obtain ⟨g0, g1, g2, g3, g4, g5, g6, ⟨x7, g7⟩, ⟨x8, g8⟩, ⟨x9, g9⟩, ⟨x10, b10, z10, g10⟩, ⟨x11, b11, g11⟩, g12, g13, ⟨x14, g14⟩, ⟨x15, g15⟩, ⟨x16, g16⟩, ⟨x17, g17⟩, g18, g19, ⟨x20, g20⟩, ⟨x21, g21⟩, ⟨x22, g22⟩, ⟨x23, g23⟩, ⟨x24, g24⟩, ⟨x25, g25⟩, ⟨x26, g26⟩, ⟨x27, g27⟩, ⟨x28, g28⟩, ⟨x29, g29⟩, ⟨x30, g30⟩, ⟨x31, g31⟩, ⟨x32, g32⟩, ⟨x33, g33⟩, ⟨x34, b34, g34⟩, g35, ⟨x36, b36, g36⟩, hB, htl, hol⟩ := hNB
  intro b hb
  rcases (show b = 0 ∨ b = 1 ∨ b = 2 ∨ b = 3 ∨ b = 4 by omega) with rfl | rfl | rfl | rfl | rfl
  · exact ⟨((va_up_ne _ _ (by decide)).trans g0), (va_up_self _ _ _), ((va_up_ne _ _ (by decide)).trans g2), ((va_up_ne _ _ (by decide)).trans g3), ((va_up_ne _ _ (by decide)).trans g4), ((va_up_ne _ _ (by decide)).trans g5), ((va_up_ne _ _ (by decide)).trans g6), ⟨_, ((va_up_ne _ _ (by decide)).trans g7)⟩, ⟨_, ((va_up_ne _ _ (by decide)).trans g8)⟩, ⟨_, ((va_up_ne _ _ (by decide)).trans g9)⟩, ⟨_, b10, z10, ((va_up_ne _ _ (by decide)).trans g10)⟩, ⟨_, b11, ((va_up_ne _ _ (by decide)).trans g11)⟩, ((va_up_ne _ _ (by decide)).trans g12), ((va_up_ne _ _ (by decide)).trans g13), ⟨_, ((va_up_ne _ _ (by decide)).trans g14)⟩, ⟨_, ((va_up_ne _ _ (by decide)).trans g15)⟩, ⟨_, ((va_up_ne _ _ (by decide)).trans g16)⟩, ⟨_, ((va_up_ne _ _ (by decide)).trans g17)⟩, ((va_up_ne _ _ (by decide)).trans g18), ((va_up_ne _ _ (by decide)).trans g19), ⟨_, ((va_up_ne _ _ (by decide)).trans g20)⟩, ⟨_, ((va_up_ne _ _ (by decide)).trans g21)⟩, ⟨_, ((va_up_ne _ _ (by decide)).trans g22)⟩, ⟨_, ((va_up_ne _ _ (by decide)).trans g23)⟩, ⟨_, ((va_up_ne _ _ (by decide)).trans g24)⟩, ⟨_, ((va_up_ne _ _ (by decide)).trans g25)⟩, ⟨_, ((va_up_ne _ _ (by decide)).trans g26)⟩, ⟨_, ((va_up_ne _ _ (by decide)).trans g27)⟩, ⟨_, ((va_up_ne _ _ (by decide)).trans g28)⟩, ⟨_, ((va_up_ne _ _ (by decide)).trans g29)⟩, ⟨_, ((va_up_ne _ _ (by decide)).trans g30)⟩, ⟨_, ((va_up_ne _ _ (by decide)).trans g31)⟩, ⟨_, ((va_up_ne _ _ (by decide)).trans g32)⟩, ⟨_, ((va_up_ne _ _ (by decide)).trans g33)⟩, ⟨_, b34, ((va_up_ne _ _ (by decide)).trans g34)⟩, ((va_up_ne _ _ (by decide)).trans g35), ⟨_, b36, ((va_up_ne _ _ (by decide)).trans g36)⟩, Bf_lt hB hX 0, htl, hol⟩
  · exact ⟨((va_up_ne _ _ (by decide)).trans g0), ((va_up_ne _ _ (by decide)).trans g1), (va_up_self _ _ _), ((va_up_ne _ _ (by decide)).trans g3), ((va_up_ne _ _ (by decide)).trans g4), ((va_up_ne _ _ (by decide)).trans g5), ((va_up_ne _ _ (by decide)).trans g6), ⟨_, ((va_up_ne _ _ (by decide)).trans g7)⟩, ⟨_, ((va_up_ne _ _ (by decide)).trans g8)⟩, ⟨_, ((va_up_ne _ _ (by decide)).trans g9)⟩, ⟨_, b10, z10, ((va_up_ne _ _ (by decide)).trans g10)⟩, ⟨_, b11, ((va_up_ne _ _ (by decide)).trans g11)⟩, ((va_up_ne _ _ (by decide)).trans g12), ((va_up_ne _ _ (by decide)).trans g13), ⟨_, ((va_up_ne _ _ (by decide)).trans g14)⟩, ⟨_, ((va_up_ne _ _ (by decide)).trans g15)⟩, ⟨_, ((va_up_ne _ _ (by decide)).trans g16)⟩, ⟨_, ((va_up_ne _ _ (by decide)).trans g17)⟩, ((va_up_ne _ _ (by decide)).trans g18), ((va_up_ne _ _ (by decide)).trans g19), ⟨_, ((va_up_ne _ _ (by decide)).trans g20)⟩, ⟨_, ((va_up_ne _ _ (by decide)).trans g21)⟩, ⟨_, ((va_up_ne _ _ (by decide)).trans g22)⟩, ⟨_, ((va_up_ne _ _ (by decide)).trans g23)⟩, ⟨_, ((va_up_ne _ _ (by decide)).trans g24)⟩, ⟨_, ((va_up_ne _ _ (by decide)).trans g25)⟩, ⟨_, ((va_up_ne _ _ (by decide)).trans g26)⟩, ⟨_, ((va_up_ne _ _ (by decide)).trans g27)⟩, ⟨_, ((va_up_ne _ _ (by decide)).trans g28)⟩, ⟨_, ((va_up_ne _ _ (by decide)).trans g29)⟩, ⟨_, ((va_up_ne _ _ (by decide)).trans g30)⟩, ⟨_, ((va_up_ne _ _ (by decide)).trans g31)⟩, ⟨_, ((va_up_ne _ _ (by decide)).trans g32)⟩, ⟨_, ((va_up_ne _ _ (by decide)).trans g33)⟩, ⟨_, b34, ((va_up_ne _ _ (by decide)).trans g34)⟩, ((va_up_ne _ _ (by decide)).trans g35), ⟨_, b36, ((va_up_ne _ _ (by decide)).trans g36)⟩, Bf_lt hB hX 1, htl, hol⟩
  · exact ⟨((va_up_ne _ _ (by decide)).trans g0), ((va_up_ne _ _ (by decide)).trans g1), ((va_up_ne _ _ (by decide)).trans g2), (va_up_self _ _ _), ((va_up_ne _ _ (by decide)).trans g4), ((va_up_ne _ _ (by decide)).trans g5), ((va_up_ne _ _ (by decide)).trans g6), ⟨_, ((va_up_ne _ _ (by decide)).trans g7)⟩, ⟨_, ((va_up_ne _ _ (by decide)).trans g8)⟩, ⟨_, ((va_up_ne _ _ (by decide)).trans g9)⟩, ⟨_, b10, z10, ((va_up_ne _ _ (by decide)).trans g10)⟩, ⟨_, b11, ((va_up_ne _ _ (by decide)).trans g11)⟩, ((va_up_ne _ _ (by decide)).trans g12), ((va_up_ne _ _ (by decide)).trans g13), ⟨_, ((va_up_ne _ _ (by decide)).trans g14)⟩, ⟨_, ((va_up_ne _ _ (by decide)).trans g15)⟩, ⟨_, ((va_up_ne _ _ (by decide)).trans g16)⟩, ⟨_, ((va_up_ne _ _ (by decide)).trans g17)⟩, ((va_up_ne _ _ (by decide)).trans g18), ((va_up_ne _ _ (by decide)).trans g19), ⟨_, ((va_up_ne _ _ (by decide)).trans g20)⟩, ⟨_, ((va_up_ne _ _ (by decide)).trans g21)⟩, ⟨_, ((va_up_ne _ _ (by decide)).trans g22)⟩, ⟨_, ((va_up_ne _ _ (by decide)).trans g23)⟩, ⟨_, ((va_up_ne _ _ (by decide)).trans g24)⟩, ⟨_, ((va_up_ne _ _ (by decide)).trans g25)⟩, ⟨_, ((va_up_ne _ _ (by decide)).trans g26)⟩, ⟨_, ((va_up_ne _ _ (by decide)).trans g27)⟩, ⟨_, ((va_up_ne _ _ (by decide)).trans g28)⟩, ⟨_, ((va_up_ne _ _ (by decide)).trans g29)⟩, ⟨_, ((va_up_ne _ _ (by decide)).trans g30)⟩, ⟨_, ((va_up_ne _ _ (by decide)).trans g31)⟩, ⟨_, ((va_up_ne _ _ (by decide)).trans g32)⟩, ⟨_, ((va_up_ne _ _ (by decide)).trans g33)⟩, ⟨_, b34, ((va_up_ne _ _ (by decide)).trans g34)⟩, ((va_up_ne _ _ (by decide)).trans g35), ⟨_, b36, ((va_up_ne _ _ (by decide)).trans g36)⟩, Bf_lt hB hX 2, htl, hol⟩
  · exact ⟨((va_up_ne _ _ (by decide)).trans g0), ((va_up_ne _ _ (by decide)).trans g1), ((va_up_ne _ _ (by decide)).trans g2), ((va_up_ne _ _ (by decide)).trans g3), (va_up_self _ _ _), ((va_up_ne _ _ (by decide)).trans g5), ((va_up_ne _ _ (by decide)).trans g6), ⟨_, ((va_up_ne _ _ (by decide)).trans g7)⟩, ⟨_, ((va_up_ne _ _ (by decide)).trans g8)⟩, ⟨_, ((va_up_ne _ _ (by decide)).trans g9)⟩, ⟨_, b10, z10, ((va_up_ne _ _ (by decide)).trans g10)⟩, ⟨_, b11, ((va_up_ne _ _ (by decide)).trans g11)⟩, ((va_up_ne _ _ (by decide)).trans g12), ((va_up_ne _ _ (by decide)).trans g13), ⟨_, ((va_up_ne _ _ (by decide)).trans g14)⟩, ⟨_, ((va_up_ne _ _ (by decide)).trans g15)⟩, ⟨_, ((va_up_ne _ _ (by decide)).trans g16)⟩, ⟨_, ((va_up_ne _ _ (by decide)).trans g17)⟩, ((va_up_ne _ _ (by decide)).trans g18), ((va_up_ne _ _ (by decide)).trans g19), ⟨_, ((va_up_ne _ _ (by decide)).trans g20)⟩, ⟨_, ((va_up_ne _ _ (by decide)).trans g21)⟩, ⟨_, ((va_up_ne _ _ (by decide)).trans g22)⟩, ⟨_, ((va_up_ne _ _ (by decide)).trans g23)⟩, ⟨_, ((va_up_ne _ _ (by decide)).trans g24)⟩, ⟨_, ((va_up_ne _ _ (by decide)).trans g25)⟩, ⟨_, ((va_up_ne _ _ (by decide)).trans g26)⟩, ⟨_, ((va_up_ne _ _ (by decide)).trans g27)⟩, ⟨_, ((va_up_ne _ _ (by decide)).trans g28)⟩, ⟨_, ((va_up_ne _ _ (by decide)).trans g29)⟩, ⟨_, ((va_up_ne _ _ (by decide)).trans g30)⟩, ⟨_, ((va_up_ne _ _ (by decide)).trans g31)⟩, ⟨_, ((va_up_ne _ _ (by decide)).trans g32)⟩, ⟨_, ((va_up_ne _ _ (by decide)).trans g33)⟩, ⟨_, b34, ((va_up_ne _ _ (by decide)).trans g34)⟩, ((va_up_ne _ _ (by decide)).trans g35), ⟨_, b36, ((va_up_ne _ _ (by decide)).trans g36)⟩, Bf_lt hB hX 3, htl, hol⟩
  · exact ⟨((va_up_ne _ _ (by decide)).trans g0), ((va_up_ne _ _ (by decide)).trans g1), ((va_up_ne _ _ (by decide)).trans g2), ((va_up_ne _ _ (by decide)).trans g3), ((va_up_ne _ _ (by decide)).trans g4), (va_up_self _ _ _), ((va_up_ne _ _ (by decide)).trans g6), ⟨_, ((va_up_ne _ _ (by decide)).trans g7)⟩, ⟨_, ((va_up_ne _ _ (by decide)).trans g8)⟩, ⟨_, ((va_up_ne _ _ (by decide)).trans g9)⟩, ⟨_, b10, z10, ((va_up_ne _ _ (by decide)).trans g10)⟩, ⟨_, b11, ((va_up_ne _ _ (by decide)).trans g11)⟩, ((va_up_ne _ _ (by decide)).trans g12), ((va_up_ne _ _ (by decide)).trans g13), ⟨_, ((va_up_ne _ _ (by decide)).trans g14)⟩, ⟨_, ((va_up_ne _ _ (by decide)).trans g15)⟩, ⟨_, ((va_up_ne _ _ (by decide)).trans g16)⟩, ⟨_, ((va_up_ne _ _ (by decide)).trans g17)⟩, ((va_up_ne _ _ (by decide)).trans g18), ((va_up_ne _ _ (by decide)).trans g19), ⟨_, ((va_up_ne _ _ (by decide)).trans g20)⟩, ⟨_, ((va_up_ne _ _ (by decide)).trans g21)⟩, ⟨_, ((va_up_ne _ _ (by decide)).trans g22)⟩, ⟨_, ((va_up_ne _ _ (by decide)).trans g23)⟩, ⟨_, ((va_up_ne _ _ (by decide)).trans g24)⟩, ⟨_, ((va_up_ne _ _ (by decide)).trans g25)⟩, ⟨_, ((va_up_ne _ _ (by decide)).trans g26)⟩, ⟨_, ((va_up_ne _ _ (by decide)).trans g27)⟩, ⟨_, ((va_up_ne _ _ (by decide)).trans g28)⟩, ⟨_, ((va_up_ne _ _ (by decide)).trans g29)⟩, ⟨_, ((va_up_ne _ _ (by decide)).trans g30)⟩, ⟨_, ((va_up_ne _ _ (by decide)).trans g31)⟩, ⟨_, ((va_up_ne _ _ (by decide)).trans g32)⟩, ⟨_, ((va_up_ne _ _ (by decide)).trans g33)⟩, ⟨_, b34, ((va_up_ne _ _ (by decide)).trans g34)⟩, ((va_up_ne _ _ (by decide)).trans g35), ⟨_, b36, ((va_up_ne _ _ (by decide)).trans g36)⟩, Bf_lt hB hX 4, htl, hol⟩
theorem d_NB_length_0 : decode c_NB_length 0 = .ok (.iload_n 1, 1) := by decide +kernel
theorem d_NB_length_1 : decode c_NB_length 1 = .ok (.ifCond .lt 9, 3) := by decide +kernel
theorem d_NB_length_4 : decode c_NB_length 4 = .ok (.iload_n 1, 1) := by decide +kernel
theorem d_NB_length_5 : decode c_NB_length 5 = .ok (.bipush 112, 2) := by decide +kernel
theorem d_NB_length_7 : decode c_NB_length 7 = .ok (.if_icmp .le 5, 3) := by decide +kernel
theorem d_NB_length_10 : decode c_NB_length 10 = .ok (.iconst 0, 1) := by decide +kernel
theorem d_NB_length_11 : decode c_NB_length 11 = .ok (.ireturn, 1) := by decide +kernel
theorem d_NB_length_12 : decode c_NB_length 12 = .ok (.aload_n 0, 1) := by decide +kernel
theorem d_NB_length_13 : decode c_NB_length 13 = .ok (.iload_n 1, 1) := by decide +kernel
theorem d_NB_length_14 : decode c_NB_length 14 = .ok (.putfield 25, 3) := by decide +kernel
theorem d_NB_length_17 : decode c_NB_length 17 = .ok (.iconst 1, 1) := by decide +kernel
theorem d_NB_length_18 : decode c_NB_length 18 = .ok (.ireturn, 1) := by decide +kernel
set_option maxRecDepth 100000 in
set_option maxHeartbeats 4000000 in
/-- length -/
theorem m_NB_length (l : Launch) (G : wG) (A : Nat → Prop) (ad : Nat → Nat) (ev : Nat → va_E) (x : Int32) (Bf : Nat → Nat → Nat) (tl ol : Nat) (hNB : NB G ad ev Bf tl ol) : wM l y_NB_length w_NB_length ({ frames := 0, cells := 0, slots := 0, locals := 0 }) G A 52 ad ev [.ref (ad 0), .int (x)] (fun ov ev' => ∃ (ans : Int32) (tl' : Nat), ov = some (.int ans) ∧ spLen x tl ans tl' ∧ NB G ad ev' Bf tl' ol ∧ ∀ j, 37 ≤ j → ev' j = ev j) := by
  refine wv_ofW (cc := c_NB_length) (maxL := 2) (ret := (Option.some FieldType.boolean)) (by decide) rfl (Nat.le_of_ble_eq_true rfl) ?_
  intro p e s m below meth c ls hx hb hr hml hts hown hlocks hini h hl
  have hl : lv_has ls 2 [(0, .ref (ad 0)), (1, .int (x))] := hl
  have hNB0 := hNB
  obtain ⟨g0, g1, g2, g3, g4, g5, g6, ⟨x7, g7⟩, ⟨x8, g8⟩, ⟨x9, g9⟩, ⟨x10, b10, z10, g10⟩, ⟨x11, b11, g11⟩, g12, g13, ⟨x14, g14⟩, ⟨x15, g15⟩, ⟨x16, g16⟩, ⟨x17, g17⟩, g18, g19, ⟨x20, g20⟩, ⟨x21, g21⟩, ⟨x22, g22⟩, ⟨x23, g23⟩, ⟨x24, g24⟩, ⟨x25, g25⟩, ⟨x26, g26⟩, ⟨x27, g27⟩, ⟨x28, g28⟩, ⟨x29, g29⟩, ⟨x30, g30⟩, ⟨x31, g31⟩, ⟨x32, g32⟩, ⟨x33, g33⟩, ⟨x34, b34, g34⟩, g35, ⟨x36, b36, g36⟩, hB, htl, hol⟩ := hNB
  refine lv_iload_n hx hb d_NB_length_0 rfl (lv_at hl 1 rfl) ?_
  refine lv_if_lt (tgt := 10) hx hb d_NB_length_1 (by decide) (fun hc => ?_) (fun hc => ?_)
  · have far : ∀ k, k ≤ 112 → x ≠ nI k := fun k hk => nI_far (n := 113) (by decide) (Or.inl hc) k (by omega)
    refine lv_iconst (v := nI (0)) hx hb d_NB_length_10 (by decide) ?_
    exact wv_zret hx hb hr hlocks h d_NB_length_11 rfl ⟨_, _, rfl, Or.inr ⟨far, rfl, rfl⟩, hNB0, fun _ _ => rfl⟩
  · obtain ⟨k, hk31, rfl⟩ := nI_of hc
    refine lv_iload_n hx hb d_NB_length_4 rfl (lv_at hl 1 rfl) ?_
    refine lv_bipush (v := nI (112)) hx hb d_NB_length_5 (by decide) ?_
    refine lv_icmp_le (tgt := 12) hx hb d_NB_length_7 (by decide) (fun hc => ?_) (fun hc => ?_)
    · have hk := (nI_leI (by omega) (by decide)).mp hc
      refine lv_aload_n hx hb d_NB_length_12 rfl (lv_at hl 0 rfl) ?_
      refine lv_iload_n hx hb d_NB_length_13 rfl (lv_at hl 1 rfl) ?_
      refine wv_putf hx hb h 0 (by decide) (fs := [.ref (ad 1), .ref (ad 2), .ref (ad 3), .ref (ad 4), .ref (ad 5), .int (nI (tl)), .int (nI (ol)), .ref (ad 6), .ref (ad 12), .ref (ad 18), .ref (ad 34), .ref (ad 35), .ref (ad 36)]) g0 hts (fun w hw => List.mem_cons_of_mem _ (fW_NB w hw)) fY_NB fK_NB fN_NB hown (ci := 4) (C := "NonceBox") (T := fT_NB) (N := 13) rfl 5 (by decide) (hts _ (List.mem_cons_of_mem _ kf_NB_25)) rfl rfl (v := .int (nI (k))) rfl rfl (Nat.le_of_ble_eq_true rfl) d_NB_length_14 (fun H locs h => ?_)
      have h : wT G A 52 ad (va_up ev 0 (eO 4 [.ref (ad 1), .ref (ad 2), .ref (ad 3), .ref (ad 4), .ref (ad 5), .int (nI (k)), .int (nI (ol)), .ref (ad 6), .ref (ad 12), .ref (ad 18), .ref (ad 34), .ref (ad 35), .ref (ad 36)])) s H locs := h
      obtain ⟨ev1, o1⟩ : ∃ z, z = va_up ev 0 (eO 4 [.ref (ad 1), .ref (ad 2), .ref (ad 3), .ref (ad 4), .ref (ad 5), .int (nI (k)), .int (nI (ol)), .ref (ad 6), .ref (ad 12), .ref (ad 18), .ref (ad 34), .ref (ad 35), .ref (ad 36)]) := ⟨_, rfl⟩
      rw [← o1] at h
      have t1_0 : ev1 0 = eO 4 [.ref (ad 1), .ref (ad 2), .ref (ad 3), .ref (ad 4), .ref (ad 5), .int (nI (k)), .int (nI (ol)), .ref (ad 6), .ref (ad 12), .ref (ad 18), .ref (ad 34), .ref (ad 35), .ref (ad 36)] := by rw [o1, va_up_self]
      have t1_1 := (show ev1 1 = ev 1 by rw [o1, va_up_ne _ _ (by decide)]).trans g1
      have t1_2 := (show ev1 2 = ev 2 by rw [o1, va_up_ne _ _ (by decide)]).trans g2
      have t1_3 := (show ev1 3 = ev 3 by rw [o1, va_up_ne _ _ (by decide)]).trans g3
      have t1_4 := (show ev1 4 = ev 4 by rw [o1, va_up_ne _ _ (by decide)]).trans g4
      have t1_5 := (show ev1 5 = ev 5 by rw [o1, va_up_ne _ _ (by decide)]).trans g5
      have t1_35 := (show ev1 35 = ev 35 by rw [o1, va_up_ne _ _ (by decide)]).trans g35
      have t1_7 := (show ev1 7 = ev 7 by rw [o1, va_up_ne _ _ (by decide)]).trans g7
      have t1_8 := (show ev1 8 = ev 8 by rw [o1, va_up_ne _ _ (by decide)]).trans g8
      have t1_9 := (show ev1 9 = ev 9 by rw [o1, va_up_ne _ _ (by decide)]).trans g9
      have t1_10 := (show ev1 10 = ev 10 by rw [o1, va_up_ne _ _ (by decide)]).trans g10
      have t1_11 := (show ev1 11 = ev 11 by rw [o1, va_up_ne _ _ (by decide)]).trans g11
      have t1_14 := (show ev1 14 = ev 14 by rw [o1, va_up_ne _ _ (by decide)]).trans g14
      have t1_15 := (show ev1 15 = ev 15 by rw [o1, va_up_ne _ _ (by decide)]).trans g15
      have t1_16 := (show ev1 16 = ev 16 by rw [o1, va_up_ne _ _ (by decide)]).trans g16
      have t1_17 := (show ev1 17 = ev 17 by rw [o1, va_up_ne _ _ (by decide)]).trans g17
      have t1_20 := (show ev1 20 = ev 20 by rw [o1, va_up_ne _ _ (by decide)]).trans g20
      have t1_21 := (show ev1 21 = ev 21 by rw [o1, va_up_ne _ _ (by decide)]).trans g21
      have t1_34 := (show ev1 34 = ev 34 by rw [o1, va_up_ne _ _ (by decide)]).trans g34
      have t1_36 := (show ev1 36 = ev 36 by rw [o1, va_up_ne _ _ (by decide)]).trans g36
      have t1_22 := (show ev1 22 = ev 22 by rw [o1, va_up_ne _ _ (by decide)]).trans g22
      have t1_23 := (show ev1 23 = ev 23 by rw [o1, va_up_ne _ _ (by decide)]).trans g23
      have t1_24 := (show ev1 24 = ev 24 by rw [o1, va_up_ne _ _ (by decide)]).trans g24
      have t1_25 := (show ev1 25 = ev 25 by rw [o1, va_up_ne _ _ (by decide)]).trans g25
      have t1_26 := (show ev1 26 = ev 26 by rw [o1, va_up_ne _ _ (by decide)]).trans g26
      have t1_27 := (show ev1 27 = ev 27 by rw [o1, va_up_ne _ _ (by decide)]).trans g27
      have t1_28 := (show ev1 28 = ev 28 by rw [o1, va_up_ne _ _ (by decide)]).trans g28
      have t1_29 := (show ev1 29 = ev 29 by rw [o1, va_up_ne _ _ (by decide)]).trans g29
      have t1_30 := (show ev1 30 = ev 30 by rw [o1, va_up_ne _ _ (by decide)]).trans g30
      have t1_31 := (show ev1 31 = ev 31 by rw [o1, va_up_ne _ _ (by decide)]).trans g31
      have t1_32 := (show ev1 32 = ev 32 by rw [o1, va_up_ne _ _ (by decide)]).trans g32
      have t1_33 := (show ev1 33 = ev 33 by rw [o1, va_up_ne _ _ (by decide)]).trans g33
      have t1_6 := (show ev1 6 = ev 6 by rw [o1, va_up_ne _ _ (by decide)]).trans g6
      have t1_12 := (show ev1 12 = ev 12 by rw [o1, va_up_ne _ _ (by decide)]).trans g12
      have t1_13 := (show ev1 13 = ev 13 by rw [o1, va_up_ne _ _ (by decide)]).trans g13
      have t1_18 := (show ev1 18 = ev 18 by rw [o1, va_up_ne _ _ (by decide)]).trans g18
      have t1_19 := (show ev1 19 = ev 19 by rw [o1, va_up_ne _ _ (by decide)]).trans g19
      refine lv_iconst (v := nI (1)) hx hb d_NB_length_17 (by decide) ?_
      exact wv_zret hx hb hr hlocks h d_NB_length_18 rfl ⟨_, _, rfl, Or.inl ⟨k, hk, rfl, rfl, rfl⟩, ⟨t1_0, t1_1, t1_2, t1_3, t1_4, t1_5, t1_6, ⟨_, t1_7⟩, ⟨_, t1_8⟩, ⟨_, t1_9⟩, ⟨_, b10, z10, t1_10⟩, ⟨_, b11, t1_11⟩, t1_12, t1_13, ⟨_, t1_14⟩, ⟨_, t1_15⟩, ⟨_, t1_16⟩, ⟨_, t1_17⟩, t1_18, t1_19, ⟨_, t1_20⟩, ⟨_, t1_21⟩, ⟨_, t1_22⟩, ⟨_, t1_23⟩, ⟨_, t1_24⟩, ⟨_, t1_25⟩, ⟨_, t1_26⟩, ⟨_, t1_27⟩, ⟨_, t1_28⟩, ⟨_, t1_29⟩, ⟨_, t1_30⟩, ⟨_, t1_31⟩, ⟨_, t1_32⟩, ⟨_, t1_33⟩, ⟨_, b34, t1_34⟩, t1_35, ⟨_, b36, t1_36⟩, hB, hk, hol⟩, (fun j hj => by rw [o1, va_up_ne _ _ (by omega)])⟩
    · have far : ∀ j, j ≤ 112 → nI k ≠ nI j := fun j hj q => hc (by rw [q]; exact nI_le hj (by decide))
      refine lv_iconst (v := nI (0)) hx hb d_NB_length_10 (by decide) ?_
      exact wv_zret hx hb hr hlocks h d_NB_length_11 rfl ⟨_, _, rfl, Or.inr ⟨far, rfl, rfl⟩, hNB0, fun _ _ => rfl⟩
theorem d_NB_stream_0 : decode c_NB_stream 0 = .ok (.iload_n 1, 1) := by decide +kernel
theorem d_NB_stream_1 : decode c_NB_stream 1 = .ok (.ifCond .lt 9, 3) := by decide +kernel
theorem d_NB_stream_4 : decode c_NB_stream 4 = .ok (.iload_n 1, 1) := by decide +kernel
theorem d_NB_stream_5 : decode c_NB_stream 5 = .ok (.bipush 112, 2) := by decide +kernel
theorem d_NB_stream_7 : decode c_NB_stream 7 = .ok (.if_icmp .le 5, 3) := by decide +kernel
theorem d_NB_stream_10 : decode c_NB_stream 10 = .ok (.iconst 0, 1) := by decide +kernel
theorem d_NB_stream_11 : decode c_NB_stream 11 = .ok (.ireturn, 1) := by decide +kernel
theorem d_NB_stream_12 : decode c_NB_stream 12 = .ok (.aload_n 0, 1) := by decide +kernel
theorem d_NB_stream_13 : decode c_NB_stream 13 = .ok (.getfield 35, 3) := by decide +kernel
theorem d_NB_stream_16 : decode c_NB_stream 16 = .ok (.aload_n 0, 1) := by decide +kernel
theorem d_NB_stream_17 : decode c_NB_stream 17 = .ok (.getfield 9, 3) := by decide +kernel
theorem d_NB_stream_20 : decode c_NB_stream 20 = .ok (.aload_n 0, 1) := by decide +kernel
theorem d_NB_stream_21 : decode c_NB_stream 21 = .ok (.getfield 13, 3) := by decide +kernel
theorem d_NB_stream_24 : decode c_NB_stream 24 = .ok (.iload_n 1, 1) := by decide +kernel
theorem d_NB_stream_25 : decode c_NB_stream 25 = .ok (.invokevirtual 84, 3) := by decide +kernel
theorem d_NB_stream_28 : decode c_NB_stream 28 = .ok (.iconst 0, 1) := by decide +kernel
theorem d_NB_stream_29 : decode c_NB_stream 29 = .ok (.aload_n 0, 1) := by decide +kernel
theorem d_NB_stream_30 : decode c_NB_stream 30 = .ok (.getfield 59, 3) := by decide +kernel
theorem d_NB_stream_33 : decode c_NB_stream 33 = .ok (.iconst 0, 1) := by decide +kernel
theorem d_NB_stream_34 : decode c_NB_stream 34 = .ok (.iload_n 1, 1) := by decide +kernel
theorem d_NB_stream_35 : decode c_NB_stream 35 = .ok (.invokestatic 70, 3) := by decide +kernel
theorem d_NB_stream_38 : decode c_NB_stream 38 = .ok (.aload_n 0, 1) := by decide +kernel
theorem d_NB_stream_39 : decode c_NB_stream 39 = .ok (.iload_n 1, 1) := by decide +kernel
theorem d_NB_stream_40 : decode c_NB_stream 40 = .ok (.invokevirtual 80, 3) := by decide +kernel
theorem d_NB_stream_43 : decode c_NB_stream 43 = .ok (.iconst 1, 1) := by decide +kernel
theorem d_NB_stream_44 : decode c_NB_stream 44 = .ok (.ireturn, 1) := by decide +kernel
set_option maxRecDepth 100000 in
set_option maxHeartbeats 4000000 in
/-- stream -/
theorem m_NB_stream (l : Launch) (G : wG) (A : Nat → Prop) (ad : Nat → Nat) (ev : Nat → va_E) (x : Int32) (Bf : Nat → Nat → Nat) (tl ol : Nat) (hNB : NB G ad ev Bf tl ol) : wM l y_NB_stream w_NB_stream ({ frames := 18, cells := 0, slots := 0, locals := 600 }) G A 52 ad ev [.ref (ad 0), .int (x)] (fun ov ev' => ∃ (ans : Int32) (Bf' : Nat → Nat → Nat) (ol' : Nat), ov = some (.int ans) ∧ spStr x Bf ol ans Bf' ol' ∧ NB G ad ev' Bf' tl ol' ∧ ∀ j, 37 ≤ j → ev' j = ev j) := by
  refine wv_ofW (cc := c_NB_stream) (maxL := 2) (ret := (Option.some FieldType.boolean)) (by decide) rfl (Nat.le_of_ble_eq_true rfl) ?_
  intro p e s m below meth c ls hx hb hr hml hts hown hlocks hini h hl
  have hl : lv_has ls 2 [(0, .ref (ad 0)), (1, .int (x))] := hl
  have hNB0 := hNB
  obtain ⟨g0, g1, g2, g3, g4, g5, g6, ⟨x7, g7⟩, ⟨x8, g8⟩, ⟨x9, g9⟩, ⟨x10, b10, z10, g10⟩, ⟨x11, b11, g11⟩, g12, g13, ⟨x14, g14⟩, ⟨x15, g15⟩, ⟨x16, g16⟩, ⟨x17, g17⟩, g18, g19, ⟨x20, g20⟩, ⟨x21, g21⟩, ⟨x22, g22⟩, ⟨x23, g23⟩, ⟨x24, g24⟩, ⟨x25, g25⟩, ⟨x26, g26⟩, ⟨x27, g27⟩, ⟨x28, g28⟩, ⟨x29, g29⟩, ⟨x30, g30⟩, ⟨x31, g31⟩, ⟨x32, g32⟩, ⟨x33, g33⟩, ⟨x34, b34, g34⟩, g35, ⟨x36, b36, g36⟩, hB, htl, hol⟩ := hNB
  refine lv_iload_n hx hb d_NB_stream_0 rfl (lv_at hl 1 rfl) ?_
  refine lv_if_lt (tgt := 10) hx hb d_NB_stream_1 (by decide) (fun hc => ?_) (fun hc => ?_)
  · have far : ∀ k, k ≤ 112 → x ≠ nI k := fun k hk => nI_far (n := 113) (by decide) (Or.inl hc) k (by omega)
    refine lv_iconst (v := nI (0)) hx hb d_NB_stream_10 (by decide) ?_
    exact wv_zret hx hb hr hlocks h d_NB_stream_11 rfl ⟨_, _, _, rfl, Or.inr ⟨far, rfl, rfl, rfl⟩, hNB0, fun _ _ => rfl⟩
  · obtain ⟨k, hk31, rfl⟩ := nI_of hc
    refine lv_iload_n hx hb d_NB_stream_4 rfl (lv_at hl 1 rfl) ?_
    refine lv_bipush (v := nI (112)) hx hb d_NB_stream_5 (by decide) ?_
    refine lv_icmp_le (tgt := 12) hx hb d_NB_stream_7 (by decide) (fun hc => ?_) (fun hc => ?_)
    · have hk := (nI_leI (by omega) (by decide)).mp hc
      refine lv_aload_n hx hb d_NB_stream_12 rfl (lv_at hl 0 rfl) ?_
      refine wv_getf hx hb h 0 (by decide) (fs := [.ref (ad 1), .ref (ad 2), .ref (ad 3), .ref (ad 4), .ref (ad 5), .int (nI (tl)), .int (nI (ol)), .ref (ad 6), .ref (ad 12), .ref (ad 18), .ref (ad 34), .ref (ad 35), .ref (ad 36)]) g0 hts (fun w hw => List.mem_cons_of_mem _ (fW_NB w hw)) hown (ci := 4) (C := "NonceBox") (T := fT_NB) (N := 13) rfl 7 (by decide) (hts _ (List.mem_cons_of_mem _ kf_NB_35)) rfl (v := .ref (ad 6)) rfl d_NB_stream_13 ?_
      refine lv_aload_n hx hb d_NB_stream_16 rfl (lv_at hl 0 rfl) ?_
      refine wv_getf hx hb h 0 (by decide) (fs := [.ref (ad 1), .ref (ad 2), .ref (ad 3), .ref (ad 4), .ref (ad 5), .int (nI (tl)), .int (nI (ol)), .ref (ad 6), .ref (ad 12), .ref (ad 18), .ref (ad 34), .ref (ad 35), .ref (ad 36)]) g0 hts (fun w hw => List.mem_cons_of_mem _ (fW_NB w hw)) hown (ci := 4) (C := "NonceBox") (T := fT_NB) (N := 13) rfl 0 (by decide) (hts _ (List.mem_cons_of_mem _ kf_NB_9)) rfl (v := .ref (ad 1)) rfl d_NB_stream_17 ?_
      refine lv_aload_n hx hb d_NB_stream_20 rfl (lv_at hl 0 rfl) ?_
      refine wv_getf hx hb h 0 (by decide) (fs := [.ref (ad 1), .ref (ad 2), .ref (ad 3), .ref (ad 4), .ref (ad 5), .int (nI (tl)), .int (nI (ol)), .ref (ad 6), .ref (ad 12), .ref (ad 18), .ref (ad 34), .ref (ad 35), .ref (ad 36)]) g0 hts (fun w hw => List.mem_cons_of_mem _ (fW_NB w hw)) hown (ci := 4) (C := "NonceBox") (T := fT_NB) (N := 13) rfl 1 (by decide) (hts _ (List.mem_cons_of_mem _ kf_NB_13)) rfl (v := .ref (ad 2)) rfl d_NB_stream_21 ?_
      refine lv_iload_n hx hb d_NB_stream_24 rfl (lv_at hl 1 rfl) ?_
      refine wv_V (As := [.ref (ad 1), .ref (ad 2), .int (nI (k))]) (rest := []) (k := 3) ⟨hx, hb, hml, hown, hts⟩ h 6 (by decide) (C := "NonceBox$Mixer") g6 rfl (m_Mx_streamOf l G A ad ev 1 2 32 24 k (Bf 0) (Bf 1) x9 x10 x11 x7 x8 (by decide) (by decide) g6 g7 g8 g9 g10 g11 g1 g2 (by decide) (by decide) (hB 0) (hB 1) b10 z10 b11 (by decide) (by decide) (by omega) (by decide) (by decide)) kc_Mx_streamOf kl_NB_84 km_Mx_streamOf kv_Mx_streamOf ki_Mx (by decide +kernel) ⟨rfl, rfl, Nat.le_of_ble_eq_true rfl, Nat.le_of_ble_eq_true rfl⟩ hl.1 rfl rfl (Nat.le_of_ble_eq_true rfl) ⟨Nat.le_refl _, Nat.le_refl _⟩ d_NB_stream_25 ?_
      intro ov ev1 H locs hp h
      obtain ⟨f7, f8, vv, S2, ho, o1, hvv, hS2, hS3⟩ := hp
      rw [ho]
      refine W.eq (g2 := F0 m 28 ls [.ref (ad 11)]) rfl ?_
      have t1_7 : ev1 7 = eI G 16 f7 := by rw [o1, va_up_ne _ _ (by decide), va_up_ne _ _ (by decide), va_up_ne _ _ (by decide), va_up_ne _ _ (by decide), va_up_self]
      have t1_8 : ev1 8 = eI G 16 f8 := by rw [o1, va_up_ne _ _ (by decide), va_up_ne _ _ (by decide), va_up_ne _ _ (by decide), va_up_self]
      have t1_9 : ev1 9 = eB G 32 (bs (MIXB (Bf 0) (Bf 1))) := by rw [o1, va_up_ne _ _ (by decide), va_up_ne _ _ (by decide), va_up_self]
      have t1_10 : ev1 10 = eB G 16 (bs (PLC (Bf 1) vv)) := by rw [o1, va_up_ne _ _ (by decide), va_up_self]
      have t1_11 : ev1 11 = eB G 128 (bs S2) := by rw [o1, va_up_self]
      have t1_1 := (show ev1 1 = ev 1 by rw [o1, va_up_ne _ _ (by decide), va_up_ne _ _ (by decide), va_up_ne _ _ (by decide), va_up_ne _ _ (by decide), va_up_ne _ _ (by decide)]).trans g1
      have t1_2 := (show ev1 2 = ev 2 by rw [o1, va_up_ne _ _ (by decide), va_up_ne _ _ (by decide), va_up_ne _ _ (by decide), va_up_ne _ _ (by decide), va_up_ne _ _ (by decide)]).trans g2
      have t1_3 := (show ev1 3 = ev 3 by rw [o1, va_up_ne _ _ (by decide), va_up_ne _ _ (by decide), va_up_ne _ _ (by decide), va_up_ne _ _ (by decide), va_up_ne _ _ (by decide)]).trans g3
      have t1_4 := (show ev1 4 = ev 4 by rw [o1, va_up_ne _ _ (by decide), va_up_ne _ _ (by decide), va_up_ne _ _ (by decide), va_up_ne _ _ (by decide), va_up_ne _ _ (by decide)]).trans g4
      have t1_5 := (show ev1 5 = ev 5 by rw [o1, va_up_ne _ _ (by decide), va_up_ne _ _ (by decide), va_up_ne _ _ (by decide), va_up_ne _ _ (by decide), va_up_ne _ _ (by decide)]).trans g5
      have t1_35 := (show ev1 35 = ev 35 by rw [o1, va_up_ne _ _ (by decide), va_up_ne _ _ (by decide), va_up_ne _ _ (by decide), va_up_ne _ _ (by decide), va_up_ne _ _ (by decide)]).trans g35
      have t1_14 := (show ev1 14 = ev 14 by rw [o1, va_up_ne _ _ (by decide), va_up_ne _ _ (by decide), va_up_ne _ _ (by decide), va_up_ne _ _ (by decide), va_up_ne _ _ (by decide)]).trans g14
      have t1_15 := (show ev1 15 = ev 15 by rw [o1, va_up_ne _ _ (by decide), va_up_ne _ _ (by decide), va_up_ne _ _ (by decide), va_up_ne _ _ (by decide), va_up_ne _ _ (by decide)]).trans g15
      have t1_16 := (show ev1 16 = ev 16 by rw [o1, va_up_ne _ _ (by decide), va_up_ne _ _ (by decide), va_up_ne _ _ (by decide), va_up_ne _ _ (by decide), va_up_ne _ _ (by decide)]).trans g16
      have t1_17 := (show ev1 17 = ev 17 by rw [o1, va_up_ne _ _ (by decide), va_up_ne _ _ (by decide), va_up_ne _ _ (by decide), va_up_ne _ _ (by decide), va_up_ne _ _ (by decide)]).trans g17
      have t1_20 := (show ev1 20 = ev 20 by rw [o1, va_up_ne _ _ (by decide), va_up_ne _ _ (by decide), va_up_ne _ _ (by decide), va_up_ne _ _ (by decide), va_up_ne _ _ (by decide)]).trans g20
      have t1_21 := (show ev1 21 = ev 21 by rw [o1, va_up_ne _ _ (by decide), va_up_ne _ _ (by decide), va_up_ne _ _ (by decide), va_up_ne _ _ (by decide), va_up_ne _ _ (by decide)]).trans g21
      have t1_34 := (show ev1 34 = ev 34 by rw [o1, va_up_ne _ _ (by decide), va_up_ne _ _ (by decide), va_up_ne _ _ (by decide), va_up_ne _ _ (by decide), va_up_ne _ _ (by decide)]).trans g34
      have t1_36 := (show ev1 36 = ev 36 by rw [o1, va_up_ne _ _ (by decide), va_up_ne _ _ (by decide), va_up_ne _ _ (by decide), va_up_ne _ _ (by decide), va_up_ne _ _ (by decide)]).trans g36
      have t1_22 := (show ev1 22 = ev 22 by rw [o1, va_up_ne _ _ (by decide), va_up_ne _ _ (by decide), va_up_ne _ _ (by decide), va_up_ne _ _ (by decide), va_up_ne _ _ (by decide)]).trans g22
      have t1_23 := (show ev1 23 = ev 23 by rw [o1, va_up_ne _ _ (by decide), va_up_ne _ _ (by decide), va_up_ne _ _ (by decide), va_up_ne _ _ (by decide), va_up_ne _ _ (by decide)]).trans g23
      have t1_24 := (show ev1 24 = ev 24 by rw [o1, va_up_ne _ _ (by decide), va_up_ne _ _ (by decide), va_up_ne _ _ (by decide), va_up_ne _ _ (by decide), va_up_ne _ _ (by decide)]).trans g24
      have t1_25 := (show ev1 25 = ev 25 by rw [o1, va_up_ne _ _ (by decide), va_up_ne _ _ (by decide), va_up_ne _ _ (by decide), va_up_ne _ _ (by decide), va_up_ne _ _ (by decide)]).trans g25
      have t1_26 := (show ev1 26 = ev 26 by rw [o1, va_up_ne _ _ (by decide), va_up_ne _ _ (by decide), va_up_ne _ _ (by decide), va_up_ne _ _ (by decide), va_up_ne _ _ (by decide)]).trans g26
      have t1_27 := (show ev1 27 = ev 27 by rw [o1, va_up_ne _ _ (by decide), va_up_ne _ _ (by decide), va_up_ne _ _ (by decide), va_up_ne _ _ (by decide), va_up_ne _ _ (by decide)]).trans g27
      have t1_28 := (show ev1 28 = ev 28 by rw [o1, va_up_ne _ _ (by decide), va_up_ne _ _ (by decide), va_up_ne _ _ (by decide), va_up_ne _ _ (by decide), va_up_ne _ _ (by decide)]).trans g28
      have t1_29 := (show ev1 29 = ev 29 by rw [o1, va_up_ne _ _ (by decide), va_up_ne _ _ (by decide), va_up_ne _ _ (by decide), va_up_ne _ _ (by decide), va_up_ne _ _ (by decide)]).trans g29
      have t1_30 := (show ev1 30 = ev 30 by rw [o1, va_up_ne _ _ (by decide), va_up_ne _ _ (by decide), va_up_ne _ _ (by decide), va_up_ne _ _ (by decide), va_up_ne _ _ (by decide)]).trans g30
      have t1_31 := (show ev1 31 = ev 31 by rw [o1, va_up_ne _ _ (by decide), va_up_ne _ _ (by decide), va_up_ne _ _ (by decide), va_up_ne _ _ (by decide), va_up_ne _ _ (by decide)]).trans g31
      have t1_32 := (show ev1 32 = ev 32 by rw [o1, va_up_ne _ _ (by decide), va_up_ne _ _ (by decide), va_up_ne _ _ (by decide), va_up_ne _ _ (by decide), va_up_ne _ _ (by decide)]).trans g32
      have t1_33 := (show ev1 33 = ev 33 by rw [o1, va_up_ne _ _ (by decide), va_up_ne _ _ (by decide), va_up_ne _ _ (by decide), va_up_ne _ _ (by decide), va_up_ne _ _ (by decide)]).trans g33
      have t1_0 := (show ev1 0 = ev 0 by rw [o1, va_up_ne _ _ (by decide), va_up_ne _ _ (by decide), va_up_ne _ _ (by decide), va_up_ne _ _ (by decide), va_up_ne _ _ (by decide)]).trans g0
      have t1_6 := (show ev1 6 = ev 6 by rw [o1, va_up_ne _ _ (by decide), va_up_ne _ _ (by decide), va_up_ne _ _ (by decide), va_up_ne _ _ (by decide), va_up_ne _ _ (by decide)]).trans g6
      have t1_12 := (show ev1 12 = ev 12 by rw [o1, va_up_ne _ _ (by decide), va_up_ne _ _ (by decide), va_up_ne _ _ (by decide), va_up_ne _ _ (by decide), va_up_ne _ _ (by decide)]).trans g12
      have t1_13 := (show ev1 13 = ev 13 by rw [o1, va_up_ne _ _ (by decide), va_up_ne _ _ (by decide), va_up_ne _ _ (by decide), va_up_ne _ _ (by decide), va_up_ne _ _ (by decide)]).trans g13
      have t1_18 := (show ev1 18 = ev 18 by rw [o1, va_up_ne _ _ (by decide), va_up_ne _ _ (by decide), va_up_ne _ _ (by decide), va_up_ne _ _ (by decide), va_up_ne _ _ (by decide)]).trans g18
      have t1_19 := (show ev1 19 = ev 19 by rw [o1, va_up_ne _ _ (by decide), va_up_ne _ _ (by decide), va_up_ne _ _ (by decide), va_up_ne _ _ (by decide), va_up_ne _ _ (by decide)]).trans g19
      refine lv_iconst (v := nI (0)) hx hb d_NB_stream_28 (by decide) ?_
      refine lv_aload_n hx hb d_NB_stream_29 rfl (lv_at hl 0 rfl) ?_
      refine wv_getf hx hb h 0 (by decide) (fs := [.ref (ad 1), .ref (ad 2), .ref (ad 3), .ref (ad 4), .ref (ad 5), .int (nI (tl)), .int (nI (ol)), .ref (ad 6), .ref (ad 12), .ref (ad 18), .ref (ad 34), .ref (ad 35), .ref (ad 36)]) t1_0 hts (fun w hw => List.mem_cons_of_mem _ (fW_NB w hw)) hown (ci := 4) (C := "NonceBox") (T := fT_NB) (N := 13) rfl 12 (by decide) (hts _ (List.mem_cons_of_mem _ kf_NB_59)) rfl (v := .ref (ad 36)) rfl d_NB_stream_30 ?_
      refine lv_iconst (v := nI (0)) hx hb d_NB_stream_33 (by decide) ?_
      refine lv_iload_n hx hb d_NB_stream_34 rfl (lv_at hl 1 rfl) ?_
      refine wv_copyb hx hb (hml.trans hl.1.symm) h hown (hts _ (List.mem_cons_of_mem _ kl_NB_70)) (hts _ (List.mem_cons_of_mem _ kn_Sy_arraycopy)) (hts _ (List.mem_cons_of_mem _ ks_Sy_arraycopy)) (hts _ (List.mem_cons_of_mem _ ki_Sy)) 11 36 (by decide) (by decide) (f := (bs S2)) (g := (bs x36)) t1_11 t1_36 (a := 0) (b := 0) (d := k) rfl rfl rfl (by omega) (by omega) (by decide) (by decide) (fun i _ => bs_fit _ _) (by decide) (by decide) d_NB_stream_35 (fun H locs h => ?_)
      obtain ⟨ev2, o2⟩ : ∃ z, z = va_up ev1 36 (eB G 112 (va_cpy (bs S2) (bs x36) 0 0 k)) := ⟨_, rfl⟩
      rw [← o2] at h
      have t2_36 : ev2 36 = eB G 112 (va_cpy (bs S2) (bs x36) 0 0 k) := by rw [o2, va_up_self]
      have t2_1 := (show ev2 1 = ev1 1 by rw [o2, va_up_ne _ _ (by decide)]).trans t1_1
      have t2_2 := (show ev2 2 = ev1 2 by rw [o2, va_up_ne _ _ (by decide)]).trans t1_2
      have t2_3 := (show ev2 3 = ev1 3 by rw [o2, va_up_ne _ _ (by decide)]).trans t1_3
      have t2_4 := (show ev2 4 = ev1 4 by rw [o2, va_up_ne _ _ (by decide)]).trans t1_4
      have t2_5 := (show ev2 5 = ev1 5 by rw [o2, va_up_ne _ _ (by decide)]).trans t1_5
      have t2_35 := (show ev2 35 = ev1 35 by rw [o2, va_up_ne _ _ (by decide)]).trans t1_35
      have t2_7 := (show ev2 7 = ev1 7 by rw [o2, va_up_ne _ _ (by decide)]).trans t1_7
      have t2_8 := (show ev2 8 = ev1 8 by rw [o2, va_up_ne _ _ (by decide)]).trans t1_8
      have t2_9 := (show ev2 9 = ev1 9 by rw [o2, va_up_ne _ _ (by decide)]).trans t1_9
      have t2_10 := (show ev2 10 = ev1 10 by rw [o2, va_up_ne _ _ (by decide)]).trans t1_10
      have t2_11 := (show ev2 11 = ev1 11 by rw [o2, va_up_ne _ _ (by decide)]).trans t1_11
      have t2_14 := (show ev2 14 = ev1 14 by rw [o2, va_up_ne _ _ (by decide)]).trans t1_14
      have t2_15 := (show ev2 15 = ev1 15 by rw [o2, va_up_ne _ _ (by decide)]).trans t1_15
      have t2_16 := (show ev2 16 = ev1 16 by rw [o2, va_up_ne _ _ (by decide)]).trans t1_16
      have t2_17 := (show ev2 17 = ev1 17 by rw [o2, va_up_ne _ _ (by decide)]).trans t1_17
      have t2_20 := (show ev2 20 = ev1 20 by rw [o2, va_up_ne _ _ (by decide)]).trans t1_20
      have t2_21 := (show ev2 21 = ev1 21 by rw [o2, va_up_ne _ _ (by decide)]).trans t1_21
      have t2_34 := (show ev2 34 = ev1 34 by rw [o2, va_up_ne _ _ (by decide)]).trans t1_34
      have t2_22 := (show ev2 22 = ev1 22 by rw [o2, va_up_ne _ _ (by decide)]).trans t1_22
      have t2_23 := (show ev2 23 = ev1 23 by rw [o2, va_up_ne _ _ (by decide)]).trans t1_23
      have t2_24 := (show ev2 24 = ev1 24 by rw [o2, va_up_ne _ _ (by decide)]).trans t1_24
      have t2_25 := (show ev2 25 = ev1 25 by rw [o2, va_up_ne _ _ (by decide)]).trans t1_25
      have t2_26 := (show ev2 26 = ev1 26 by rw [o2, va_up_ne _ _ (by decide)]).trans t1_26
      have t2_27 := (show ev2 27 = ev1 27 by rw [o2, va_up_ne _ _ (by decide)]).trans t1_27
      have t2_28 := (show ev2 28 = ev1 28 by rw [o2, va_up_ne _ _ (by decide)]).trans t1_28
      have t2_29 := (show ev2 29 = ev1 29 by rw [o2, va_up_ne _ _ (by decide)]).trans t1_29
      have t2_30 := (show ev2 30 = ev1 30 by rw [o2, va_up_ne _ _ (by decide)]).trans t1_30
      have t2_31 := (show ev2 31 = ev1 31 by rw [o2, va_up_ne _ _ (by decide)]).trans t1_31
      have t2_32 := (show ev2 32 = ev1 32 by rw [o2, va_up_ne _ _ (by decide)]).trans t1_32
      have t2_33 := (show ev2 33 = ev1 33 by rw [o2, va_up_ne _ _ (by decide)]).trans t1_33
      have t2_0 := (show ev2 0 = ev1 0 by rw [o2, va_up_ne _ _ (by decide)]).trans t1_0
      have t2_6 := (show ev2 6 = ev1 6 by rw [o2, va_up_ne _ _ (by decide)]).trans t1_6
      have t2_12 := (show ev2 12 = ev1 12 by rw [o2, va_up_ne _ _ (by decide)]).trans t1_12
      have t2_13 := (show ev2 13 = ev1 13 by rw [o2, va_up_ne _ _ (by decide)]).trans t1_13
      have t2_18 := (show ev2 18 = ev1 18 by rw [o2, va_up_ne _ _ (by decide)]).trans t1_18
      have t2_19 := (show ev2 19 = ev1 19 by rw [o2, va_up_ne _ _ (by decide)]).trans t1_19
      have h := wT_eqB (g := (bs (fil 0 k S2 x36))) h 36 (by decide) t2_36 (fun j hj => by
          unfold va_cpy bs fil
          by_cases c : j < k
          · rw [if_pos (by omega), if_pos (by omega), Nat.zero_add]
          · rw [if_neg (by omega), if_neg (by omega)])
      obtain ⟨ev3, o3⟩ : ∃ z, z = va_up ev2 36 (eB G 112 (bs (fil 0 k S2 x36))) := ⟨_, rfl⟩
      rw [← o3] at h
      have t3_36 : ev3 36 = eB G 112 (bs (fil 0 k S2 x36)) := by rw [o3, va_up_self]
      have t3_1 := (show ev3 1 = ev2 1 by rw [o3, va_up_ne _ _ (by decide)]).trans t2_1
      have t3_2 := (show ev3 2 = ev2 2 by rw [o3, va_up_ne _ _ (by decide)]).trans t2_2
      have t3_3 := (show ev3 3 = ev2 3 by rw [o3, va_up_ne _ _ (by decide)]).trans t2_3
      have t3_4 := (show ev3 4 = ev2 4 by rw [o3, va_up_ne _ _ (by decide)]).trans t2_4
      have t3_5 := (show ev3 5 = ev2 5 by rw [o3, va_up_ne _ _ (by decide)]).trans t2_5
      have t3_35 := (show ev3 35 = ev2 35 by rw [o3, va_up_ne _ _ (by decide)]).trans t2_35
      have t3_7 := (show ev3 7 = ev2 7 by rw [o3, va_up_ne _ _ (by decide)]).trans t2_7
      have t3_8 := (show ev3 8 = ev2 8 by rw [o3, va_up_ne _ _ (by decide)]).trans t2_8
      have t3_9 := (show ev3 9 = ev2 9 by rw [o3, va_up_ne _ _ (by decide)]).trans t2_9
      have t3_10 := (show ev3 10 = ev2 10 by rw [o3, va_up_ne _ _ (by decide)]).trans t2_10
      have t3_11 := (show ev3 11 = ev2 11 by rw [o3, va_up_ne _ _ (by decide)]).trans t2_11
      have t3_14 := (show ev3 14 = ev2 14 by rw [o3, va_up_ne _ _ (by decide)]).trans t2_14
      have t3_15 := (show ev3 15 = ev2 15 by rw [o3, va_up_ne _ _ (by decide)]).trans t2_15
      have t3_16 := (show ev3 16 = ev2 16 by rw [o3, va_up_ne _ _ (by decide)]).trans t2_16
      have t3_17 := (show ev3 17 = ev2 17 by rw [o3, va_up_ne _ _ (by decide)]).trans t2_17
      have t3_20 := (show ev3 20 = ev2 20 by rw [o3, va_up_ne _ _ (by decide)]).trans t2_20
      have t3_21 := (show ev3 21 = ev2 21 by rw [o3, va_up_ne _ _ (by decide)]).trans t2_21
      have t3_34 := (show ev3 34 = ev2 34 by rw [o3, va_up_ne _ _ (by decide)]).trans t2_34
      have t3_22 := (show ev3 22 = ev2 22 by rw [o3, va_up_ne _ _ (by decide)]).trans t2_22
      have t3_23 := (show ev3 23 = ev2 23 by rw [o3, va_up_ne _ _ (by decide)]).trans t2_23
      have t3_24 := (show ev3 24 = ev2 24 by rw [o3, va_up_ne _ _ (by decide)]).trans t2_24
      have t3_25 := (show ev3 25 = ev2 25 by rw [o3, va_up_ne _ _ (by decide)]).trans t2_25
      have t3_26 := (show ev3 26 = ev2 26 by rw [o3, va_up_ne _ _ (by decide)]).trans t2_26
      have t3_27 := (show ev3 27 = ev2 27 by rw [o3, va_up_ne _ _ (by decide)]).trans t2_27
      have t3_28 := (show ev3 28 = ev2 28 by rw [o3, va_up_ne _ _ (by decide)]).trans t2_28
      have t3_29 := (show ev3 29 = ev2 29 by rw [o3, va_up_ne _ _ (by decide)]).trans t2_29
      have t3_30 := (show ev3 30 = ev2 30 by rw [o3, va_up_ne _ _ (by decide)]).trans t2_30
      have t3_31 := (show ev3 31 = ev2 31 by rw [o3, va_up_ne _ _ (by decide)]).trans t2_31
      have t3_32 := (show ev3 32 = ev2 32 by rw [o3, va_up_ne _ _ (by decide)]).trans t2_32
      have t3_33 := (show ev3 33 = ev2 33 by rw [o3, va_up_ne _ _ (by decide)]).trans t2_33
      have t3_0 := (show ev3 0 = ev2 0 by rw [o3, va_up_ne _ _ (by decide)]).trans t2_0
      have t3_6 := (show ev3 6 = ev2 6 by rw [o3, va_up_ne _ _ (by decide)]).trans t2_6
      have t3_12 := (show ev3 12 = ev2 12 by rw [o3, va_up_ne _ _ (by decide)]).trans t2_12
      have t3_13 := (show ev3 13 = ev2 13 by rw [o3, va_up_ne _ _ (by decide)]).trans t2_13
      have t3_18 := (show ev3 18 = ev2 18 by rw [o3, va_up_ne _ _ (by decide)]).trans t2_18
      have t3_19 := (show ev3 19 = ev2 19 by rw [o3, va_up_ne _ _ (by decide)]).trans t2_19
      refine lv_aload_n hx hb d_NB_stream_38 rfl (lv_at hl 0 rfl) ?_
      refine lv_iload_n hx hb d_NB_stream_39 rfl (lv_at hl 1 rfl) ?_
      refine wv_V (As := [.int (nI (k))]) (rest := []) (k := 1) ⟨hx, hb, hml, hown, hts⟩ h 0 (by decide) (C := "NonceBox") t3_0 rfl (m_NB_showWork l G A ad ev3 tl ol k (Bf 4) (fil 0 k S2 x36) t3_0 t3_5 t3_36 hk) kc_NB_showWork kl_NB_80 km_NB_showWork kv_NB_showWork ki_NB (by decide +kernel) ⟨rfl, rfl, Nat.le_of_ble_eq_true rfl, Nat.le_of_ble_eq_true rfl⟩ hl.1 rfl rfl (Nat.le_of_ble_eq_true rfl) ⟨Nat.le_refl _, Nat.le_refl _⟩ d_NB_stream_40 ?_
      intro ov ev4 H locs hp h
      rw [hp.1]
      refine W.eq (g2 := F0 m 43 ls []) rfl ?_
      have o4 : ev4 = va_up (va_up ev3 5 (eB G 112 (bs (outF k (fil 0 k S2 x36))))) 0 (eO 4 [.ref (ad 1), .ref (ad 2), .ref (ad 3), .ref (ad 4), .ref (ad 5), .int (nI tl), .int (nI (k)), .ref (ad 6), .ref (ad 12), .ref (ad 18), .ref (ad 34), .ref (ad 35), .ref (ad 36)]) := hp.2
      have t4_5 : ev4 5 = eB G 112 (bs (outF k (fil 0 k S2 x36))) := by rw [o4, va_up_ne _ _ (by decide), va_up_self]
      have t4_0 : ev4 0 = eO 4 [.ref (ad 1), .ref (ad 2), .ref (ad 3), .ref (ad 4), .ref (ad 5), .int (nI tl), .int (nI (k)), .ref (ad 6), .ref (ad 12), .ref (ad 18), .ref (ad 34), .ref (ad 35), .ref (ad 36)] := by rw [o4, va_up_self]
      have t4_1 := (show ev4 1 = ev3 1 by rw [o4, va_up_ne _ _ (by decide), va_up_ne _ _ (by decide)]).trans t3_1
      have t4_2 := (show ev4 2 = ev3 2 by rw [o4, va_up_ne _ _ (by decide), va_up_ne _ _ (by decide)]).trans t3_2
      have t4_3 := (show ev4 3 = ev3 3 by rw [o4, va_up_ne _ _ (by decide), va_up_ne _ _ (by decide)]).trans t3_3
      have t4_4 := (show ev4 4 = ev3 4 by rw [o4, va_up_ne _ _ (by decide), va_up_ne _ _ (by decide)]).trans t3_4
      have t4_35 := (show ev4 35 = ev3 35 by rw [o4, va_up_ne _ _ (by decide), va_up_ne _ _ (by decide)]).trans t3_35
      have t4_7 := (show ev4 7 = ev3 7 by rw [o4, va_up_ne _ _ (by decide), va_up_ne _ _ (by decide)]).trans t3_7
      have t4_8 := (show ev4 8 = ev3 8 by rw [o4, va_up_ne _ _ (by decide), va_up_ne _ _ (by decide)]).trans t3_8
      have t4_9 := (show ev4 9 = ev3 9 by rw [o4, va_up_ne _ _ (by decide), va_up_ne _ _ (by decide)]).trans t3_9
      have t4_10 := (show ev4 10 = ev3 10 by rw [o4, va_up_ne _ _ (by decide), va_up_ne _ _ (by decide)]).trans t3_10
      have t4_11 := (show ev4 11 = ev3 11 by rw [o4, va_up_ne _ _ (by decide), va_up_ne _ _ (by decide)]).trans t3_11
      have t4_14 := (show ev4 14 = ev3 14 by rw [o4, va_up_ne _ _ (by decide), va_up_ne _ _ (by decide)]).trans t3_14
      have t4_15 := (show ev4 15 = ev3 15 by rw [o4, va_up_ne _ _ (by decide), va_up_ne _ _ (by decide)]).trans t3_15
      have t4_16 := (show ev4 16 = ev3 16 by rw [o4, va_up_ne _ _ (by decide), va_up_ne _ _ (by decide)]).trans t3_16
      have t4_17 := (show ev4 17 = ev3 17 by rw [o4, va_up_ne _ _ (by decide), va_up_ne _ _ (by decide)]).trans t3_17
      have t4_20 := (show ev4 20 = ev3 20 by rw [o4, va_up_ne _ _ (by decide), va_up_ne _ _ (by decide)]).trans t3_20
      have t4_21 := (show ev4 21 = ev3 21 by rw [o4, va_up_ne _ _ (by decide), va_up_ne _ _ (by decide)]).trans t3_21
      have t4_34 := (show ev4 34 = ev3 34 by rw [o4, va_up_ne _ _ (by decide), va_up_ne _ _ (by decide)]).trans t3_34
      have t4_36 := (show ev4 36 = ev3 36 by rw [o4, va_up_ne _ _ (by decide), va_up_ne _ _ (by decide)]).trans t3_36
      have t4_22 := (show ev4 22 = ev3 22 by rw [o4, va_up_ne _ _ (by decide), va_up_ne _ _ (by decide)]).trans t3_22
      have t4_23 := (show ev4 23 = ev3 23 by rw [o4, va_up_ne _ _ (by decide), va_up_ne _ _ (by decide)]).trans t3_23
      have t4_24 := (show ev4 24 = ev3 24 by rw [o4, va_up_ne _ _ (by decide), va_up_ne _ _ (by decide)]).trans t3_24
      have t4_25 := (show ev4 25 = ev3 25 by rw [o4, va_up_ne _ _ (by decide), va_up_ne _ _ (by decide)]).trans t3_25
      have t4_26 := (show ev4 26 = ev3 26 by rw [o4, va_up_ne _ _ (by decide), va_up_ne _ _ (by decide)]).trans t3_26
      have t4_27 := (show ev4 27 = ev3 27 by rw [o4, va_up_ne _ _ (by decide), va_up_ne _ _ (by decide)]).trans t3_27
      have t4_28 := (show ev4 28 = ev3 28 by rw [o4, va_up_ne _ _ (by decide), va_up_ne _ _ (by decide)]).trans t3_28
      have t4_29 := (show ev4 29 = ev3 29 by rw [o4, va_up_ne _ _ (by decide), va_up_ne _ _ (by decide)]).trans t3_29
      have t4_30 := (show ev4 30 = ev3 30 by rw [o4, va_up_ne _ _ (by decide), va_up_ne _ _ (by decide)]).trans t3_30
      have t4_31 := (show ev4 31 = ev3 31 by rw [o4, va_up_ne _ _ (by decide), va_up_ne _ _ (by decide)]).trans t3_31
      have t4_32 := (show ev4 32 = ev3 32 by rw [o4, va_up_ne _ _ (by decide), va_up_ne _ _ (by decide)]).trans t3_32
      have t4_33 := (show ev4 33 = ev3 33 by rw [o4, va_up_ne _ _ (by decide), va_up_ne _ _ (by decide)]).trans t3_33
      have t4_6 := (show ev4 6 = ev3 6 by rw [o4, va_up_ne _ _ (by decide), va_up_ne _ _ (by decide)]).trans t3_6
      have t4_12 := (show ev4 12 = ev3 12 by rw [o4, va_up_ne _ _ (by decide), va_up_ne _ _ (by decide)]).trans t3_12
      have t4_13 := (show ev4 13 = ev3 13 by rw [o4, va_up_ne _ _ (by decide), va_up_ne _ _ (by decide)]).trans t3_13
      have t4_18 := (show ev4 18 = ev3 18 by rw [o4, va_up_ne _ _ (by decide), va_up_ne _ _ (by decide)]).trans t3_18
      have t4_19 := (show ev4 19 = ev3 19 by rw [o4, va_up_ne _ _ (by decide), va_up_ne _ _ (by decide)]).trans t3_19
      have eo : outF k (fil 0 k S2 x36) = outF k (STRB (Bf 0) (Bf 1)) := outF_congr (fun j hj => by unfold fil; rw [if_pos (by omega), Nat.sub_zero, hS3 j hj])
      rw [eo] at t4_5
      refine lv_iconst (v := nI (1)) hx hb d_NB_stream_43 (by decide) ?_
      exact wv_zret hx hb hr hlocks h d_NB_stream_44 rfl ⟨_, _, _, rfl, Or.inl ⟨k, hk, rfl, rfl, rfl, rfl⟩, ⟨t4_0, t4_1, t4_2, t4_3, t4_4, t4_5, t4_6, ⟨_, t4_7⟩, ⟨_, t4_8⟩, ⟨_, t4_9⟩, ⟨_, (plc_lt (hB 1) hvv), (fun j hj => by unfold PLC; rw [if_neg (by omega), if_neg (by omega)]), t4_10⟩, ⟨_, hS2, t4_11⟩, t4_12, t4_13, ⟨_, t4_14⟩, ⟨_, t4_15⟩, ⟨_, t4_16⟩, ⟨_, t4_17⟩, t4_18, t4_19, ⟨_, t4_20⟩, ⟨_, t4_21⟩, ⟨_, t4_22⟩, ⟨_, t4_23⟩, ⟨_, t4_24⟩, ⟨_, t4_25⟩, ⟨_, t4_26⟩, ⟨_, t4_27⟩, ⟨_, t4_28⟩, ⟨_, t4_29⟩, ⟨_, t4_30⟩, ⟨_, t4_31⟩, ⟨_, t4_32⟩, ⟨_, t4_33⟩, ⟨_, b34, t4_34⟩, t4_35, ⟨_, (fil_lt hS2 b36), t4_36⟩, Bf_lt hB (outF_lt (STRB_lt _ _)) 4, htl, hk⟩, (fun j hj => by rw [o4, va_up_ne _ _ (by omega), va_up_ne _ _ (by omega), o3, va_up_ne _ _ (by omega), o2, va_up_ne _ _ (by omega), o1, va_up_ne _ _ (by omega), va_up_ne _ _ (by omega), va_up_ne _ _ (by omega), va_up_ne _ _ (by omega), va_up_ne _ _ (by omega)])⟩
    · have far : ∀ j, j ≤ 112 → nI k ≠ nI j := fun j hj q => hc (by rw [q]; exact nI_le hj (by decide))
      refine lv_iconst (v := nI (0)) hx hb d_NB_stream_10 (by decide) ?_
      exact wv_zret hx hb hr hlocks h d_NB_stream_11 rfl ⟨_, _, _, rfl, Or.inr ⟨far, rfl, rfl, rfl⟩, hNB0, fun _ _ => rfl⟩
theorem d_NB_size_0 : decode c_NB_size 0 = .ok (.iload_n 1, 1) := by decide +kernel
theorem d_NB_size_1 : decode c_NB_size 1 = .ok (.tableswitch 51 0 4 #[35, 38, 35, 41, 46], 35) := by decide +kernel
theorem d_NB_size_36 : decode c_NB_size 36 = .ok (.bipush 32, 2) := by decide +kernel
theorem d_NB_size_38 : decode c_NB_size 38 = .ok (.ireturn, 1) := by decide +kernel
theorem d_NB_size_39 : decode c_NB_size 39 = .ok (.bipush 24, 2) := by decide +kernel
theorem d_NB_size_41 : decode c_NB_size 41 = .ok (.ireturn, 1) := by decide +kernel
theorem d_NB_size_42 : decode c_NB_size 42 = .ok (.aload_n 0, 1) := by decide +kernel
theorem d_NB_size_43 : decode c_NB_size 43 = .ok (.getfield 25, 3) := by decide +kernel
theorem d_NB_size_46 : decode c_NB_size 46 = .ok (.ireturn, 1) := by decide +kernel
theorem d_NB_size_47 : decode c_NB_size 47 = .ok (.aload_n 0, 1) := by decide +kernel
theorem d_NB_size_48 : decode c_NB_size 48 = .ok (.getfield 29, 3) := by decide +kernel
theorem d_NB_size_51 : decode c_NB_size 51 = .ok (.ireturn, 1) := by decide +kernel
theorem d_NB_size_52 : decode c_NB_size 52 = .ok (.iconst (-1), 1) := by decide +kernel
theorem d_NB_size_53 : decode c_NB_size 53 = .ok (.ireturn, 1) := by decide +kernel
set_option maxRecDepth 100000 in
set_option maxHeartbeats 4000000 in
/-- size -/
theorem m_NB_size (l : Launch) (G : wG) (A : Nat → Prop) (ad : Nat → Nat) (ev : Nat → va_E) (x : Int32) (Bf : Nat → Nat → Nat) (tl ol : Nat) (hNB : NB G ad ev Bf tl ol) : wM l y_NB_size w_NB_size ({ frames := 0, cells := 0, slots := 0, locals := 0 }) G A 52 ad ev [.ref (ad 0), .int (x)] (fun ov ev' => ∃ ans : Int32, ov = some (.int ans) ∧ spSize x tl ol ans ∧ ev' = ev) := by
  refine wv_ofW (cc := c_NB_size) (maxL := 2) (ret := (Option.some FieldType.int)) (by decide) rfl (Nat.le_of_ble_eq_true rfl) ?_
  intro p e s m below meth c ls hx hb hr hml hts hown hlocks hini h hl
  have hl : lv_has ls 2 [(0, .ref (ad 0)), (1, .int (x))] := hl
  obtain ⟨g0, g1, g2, g3, g4, g5, g6, ⟨x7, g7⟩, ⟨x8, g8⟩, ⟨x9, g9⟩, ⟨x10, b10, z10, g10⟩, ⟨x11, b11, g11⟩, g12, g13, ⟨x14, g14⟩, ⟨x15, g15⟩, ⟨x16, g16⟩, ⟨x17, g17⟩, g18, g19, ⟨x20, g20⟩, ⟨x21, g21⟩, ⟨x22, g22⟩, ⟨x23, g23⟩, ⟨x24, g24⟩, ⟨x25, g25⟩, ⟨x26, g26⟩, ⟨x27, g27⟩, ⟨x28, g28⟩, ⟨x29, g29⟩, ⟨x30, g30⟩, ⟨x31, g31⟩, ⟨x32, g32⟩, ⟨x33, g33⟩, ⟨x34, b34, g34⟩, g35, ⟨x36, b36, g36⟩, hB, htl, hol⟩ := hNB
  refine lv_iload_n hx hb d_NB_size_0 rfl (lv_at hl 1 rfl) ?_
  rcases pk_ix x (n := 5) (by decide) with hlo | hhi | ⟨b, hb5, rfl⟩
  · refine lv_tableOut (tgt := 52) hx hb d_NB_size_1 (Or.inl (Int32.lt_iff_toInt_lt.mp hlo)) (by decide) ?_
    have far := nI_far (n := 5) (by decide) (Or.inl hlo)
    refine lv_iconst (v := (-1 : Int32)) hx hb d_NB_size_52 (by decide) ?_
    exact wv_iret hx hb hr hlocks h d_NB_size_53 ⟨_, rfl, Or.inr (Or.inr (Or.inr ⟨far, rfl⟩)), rfl⟩
  · refine lv_tableOut (tgt := 52) hx hb d_NB_size_1 (Or.inr (by have := Int32.le_iff_toInt_le.mp hhi; rw [nI_toInt (by decide)] at this; omega)) (by decide) ?_
    have far := nI_far (n := 5) (by decide) (Or.inr hhi)
    refine lv_iconst (v := (-1 : Int32)) hx hb d_NB_size_52 (by decide) ?_
    exact wv_iret hx hb hr hlocks h d_NB_size_53 ⟨_, rfl, Or.inr (Or.inr (Or.inr ⟨far, rfl⟩)), rfl⟩
  · rcases (show b = 0 ∨ b = 1 ∨ b = 2 ∨ b = 3 ∨ b = 4 by omega) with rfl | rfl | rfl | rfl | rfl
    · refine lv_tableIn (tgt := 36) hx hb d_NB_size_1 (by decide) (by decide) rfl (by decide) ?_
      refine lv_bipush (v := nI (32)) hx hb d_NB_size_36 (by decide) ?_
      exact wv_iret hx hb hr hlocks h d_NB_size_38 ⟨_, rfl, Or.inl ⟨0, by decide, rfl, rfl⟩, rfl⟩
    · refine lv_tableIn (tgt := 39) hx hb d_NB_size_1 (by decide) (by decide) rfl (by decide) ?_
      refine lv_bipush (v := nI (24)) hx hb d_NB_size_39 (by decide) ?_
      exact wv_iret hx hb hr hlocks h d_NB_size_41 ⟨_, rfl, Or.inl ⟨1, by decide, rfl, rfl⟩, rfl⟩
    · refine lv_tableIn (tgt := 36) hx hb d_NB_size_1 (by decide) (by decide) rfl (by decide) ?_
      refine lv_bipush (v := nI (32)) hx hb d_NB_size_36 (by decide) ?_
      exact wv_iret hx hb hr hlocks h d_NB_size_38 ⟨_, rfl, Or.inl ⟨2, by decide, rfl, rfl⟩, rfl⟩
    · refine lv_tableIn (tgt := 42) hx hb d_NB_size_1 (by decide) (by decide) rfl (by decide) ?_
      refine lv_aload_n hx hb d_NB_size_42 rfl (lv_at hl 0 rfl) ?_
      refine wv_getf hx hb h 0 (by decide) (fs := [.ref (ad 1), .ref (ad 2), .ref (ad 3), .ref (ad 4), .ref (ad 5), .int (nI (tl)), .int (nI (ol)), .ref (ad 6), .ref (ad 12), .ref (ad 18), .ref (ad 34), .ref (ad 35), .ref (ad 36)]) g0 hts (fun w hw => List.mem_cons_of_mem _ (fW_NB w hw)) hown (ci := 4) (C := "NonceBox") (T := fT_NB) (N := 13) rfl 5 (by decide) (hts _ (List.mem_cons_of_mem _ kf_NB_25)) rfl (v := .int (nI (tl))) rfl d_NB_size_43 ?_
      exact wv_iret hx hb hr hlocks h d_NB_size_46 ⟨_, rfl, Or.inr (Or.inl ⟨rfl, rfl⟩), rfl⟩
    · refine lv_tableIn (tgt := 47) hx hb d_NB_size_1 (by decide) (by decide) rfl (by decide) ?_
      refine lv_aload_n hx hb d_NB_size_47 rfl (lv_at hl 0 rfl) ?_
      refine wv_getf hx hb h 0 (by decide) (fs := [.ref (ad 1), .ref (ad 2), .ref (ad 3), .ref (ad 4), .ref (ad 5), .int (nI (tl)), .int (nI (ol)), .ref (ad 6), .ref (ad 12), .ref (ad 18), .ref (ad 34), .ref (ad 35), .ref (ad 36)]) g0 hts (fun w hw => List.mem_cons_of_mem _ (fW_NB w hw)) hown (ci := 4) (C := "NonceBox") (T := fT_NB) (N := 13) rfl 6 (by decide) (hts _ (List.mem_cons_of_mem _ kf_NB_29)) rfl (v := .int (nI (ol))) rfl d_NB_size_48 ?_
      exact wv_iret hx hb hr hlocks h d_NB_size_51 ⟨_, rfl, Or.inr (Or.inr (Or.inl ⟨rfl, rfl⟩)), rfl⟩
theorem d_NB_rowOf_0 : decode c_NB_rowOf 0 = .ok (.iload_n 1, 1) := by decide +kernel
theorem d_NB_rowOf_1 : decode c_NB_rowOf 1 = .ok (.tableswitch 60 0 4 #[35, 40, 45, 50, 55], 35) := by decide +kernel
theorem d_NB_rowOf_36 : decode c_NB_rowOf 36 = .ok (.aload_n 0, 1) := by decide +kernel
theorem d_NB_rowOf_37 : decode c_NB_rowOf 37 = .ok (.getfield 9, 3) := by decide +kernel
theorem d_NB_rowOf_40 : decode c_NB_rowOf 40 = .ok (.areturn, 1) := by decide +kernel
theorem d_NB_rowOf_41 : decode c_NB_rowOf 41 = .ok (.aload_n 0, 1) := by decide +kernel
theorem d_NB_rowOf_42 : decode c_NB_rowOf 42 = .ok (.getfield 13, 3) := by decide +kernel
theorem d_NB_rowOf_45 : decode c_NB_rowOf 45 = .ok (.areturn, 1) := by decide +kernel
theorem d_NB_rowOf_46 : decode c_NB_rowOf 46 = .ok (.aload_n 0, 1) := by decide +kernel
theorem d_NB_rowOf_47 : decode c_NB_rowOf 47 = .ok (.getfield 16, 3) := by decide +kernel
theorem d_NB_rowOf_50 : decode c_NB_rowOf 50 = .ok (.areturn, 1) := by decide +kernel
theorem d_NB_rowOf_51 : decode c_NB_rowOf 51 = .ok (.aload_n 0, 1) := by decide +kernel
theorem d_NB_rowOf_52 : decode c_NB_rowOf 52 = .ok (.getfield 19, 3) := by decide +kernel
theorem d_NB_rowOf_55 : decode c_NB_rowOf 55 = .ok (.areturn, 1) := by decide +kernel
theorem d_NB_rowOf_56 : decode c_NB_rowOf 56 = .ok (.aload_n 0, 1) := by decide +kernel
theorem d_NB_rowOf_57 : decode c_NB_rowOf 57 = .ok (.getfield 22, 3) := by decide +kernel
theorem d_NB_rowOf_60 : decode c_NB_rowOf 60 = .ok (.areturn, 1) := by decide +kernel
theorem d_NB_rowOf_61 : decode c_NB_rowOf 61 = .ok (.aconst_null, 1) := by decide +kernel
theorem d_NB_rowOf_62 : decode c_NB_rowOf 62 = .ok (.areturn, 1) := by decide +kernel
set_option maxRecDepth 100000 in
set_option maxHeartbeats 4000000 in
/-- which row -/
theorem m_NB_rowOf (l : Launch) (G : wG) (A : Nat → Prop) (ad : Nat → Nat) (ev : Nat → va_E) (x : Int32) (Bf : Nat → Nat → Nat) (tl ol : Nat) (hNB : NB G ad ev Bf tl ol) : wM l y_NB_rowOf w_NB_rowOf ({ frames := 0, cells := 0, slots := 0, locals := 0 }) G A 52 ad ev [.ref (ad 0), .int (x)] (fun ov ev' => ev' = ev ∧ ((∃ b, b < 5 ∧ x = nI b ∧ ov = some (.ref (ad (b + 1)))) ∨ ((∀ b, b < 5 → x ≠ nI b) ∧ ov = some .null))) := by
  refine wv_ofW (cc := c_NB_rowOf) (maxL := 2) (ret := (Option.some (FieldType.array FieldType.byte))) (by decide) rfl (Nat.le_of_ble_eq_true rfl) ?_
  intro p e s m below meth c ls hx hb hr hml hts hown hlocks hini h hl
  have hl : lv_has ls 2 [(0, .ref (ad 0)), (1, .int (x))] := hl
  obtain ⟨g0, g1, g2, g3, g4, g5, g6, ⟨x7, g7⟩, ⟨x8, g8⟩, ⟨x9, g9⟩, ⟨x10, b10, z10, g10⟩, ⟨x11, b11, g11⟩, g12, g13, ⟨x14, g14⟩, ⟨x15, g15⟩, ⟨x16, g16⟩, ⟨x17, g17⟩, g18, g19, ⟨x20, g20⟩, ⟨x21, g21⟩, ⟨x22, g22⟩, ⟨x23, g23⟩, ⟨x24, g24⟩, ⟨x25, g25⟩, ⟨x26, g26⟩, ⟨x27, g27⟩, ⟨x28, g28⟩, ⟨x29, g29⟩, ⟨x30, g30⟩, ⟨x31, g31⟩, ⟨x32, g32⟩, ⟨x33, g33⟩, ⟨x34, b34, g34⟩, g35, ⟨x36, b36, g36⟩, hB, htl, hol⟩ := hNB
  refine lv_iload_n hx hb d_NB_rowOf_0 rfl (lv_at hl 1 rfl) ?_
  rcases pk_ix x (n := 5) (by decide) with hlo | hhi | ⟨b, hb5, rfl⟩
  · refine lv_tableOut (tgt := 61) hx hb d_NB_rowOf_1 (Or.inl (Int32.lt_iff_toInt_lt.mp hlo)) (by decide) ?_
    have far := nI_far (n := 5) (by decide) (Or.inl hlo)
    refine lv_null hx hb d_NB_rowOf_61 ?_
    exact wv_aret (v := .null) hx hb hr hlocks h d_NB_rowOf_62 (Or.inr ⟨_, rfl⟩) (Or.inl rfl) ⟨rfl, Or.inr ⟨far, rfl⟩⟩
  · refine lv_tableOut (tgt := 61) hx hb d_NB_rowOf_1 (Or.inr (by have := Int32.le_iff_toInt_le.mp hhi; rw [nI_toInt (by decide)] at this; omega)) (by decide) ?_
    have far := nI_far (n := 5) (by decide) (Or.inr hhi)
    refine lv_null hx hb d_NB_rowOf_61 ?_
    exact wv_aret (v := .null) hx hb hr hlocks h d_NB_rowOf_62 (Or.inr ⟨_, rfl⟩) (Or.inl rfl) ⟨rfl, Or.inr ⟨far, rfl⟩⟩
  · rcases (show b = 0 ∨ b = 1 ∨ b = 2 ∨ b = 3 ∨ b = 4 by omega) with rfl | rfl | rfl | rfl | rfl
    · refine lv_tableIn (tgt := 36) hx hb d_NB_rowOf_1 (by decide) (by decide) rfl (by decide) ?_
      refine lv_aload_n hx hb d_NB_rowOf_36 rfl (lv_at hl 0 rfl) ?_
      refine wv_getf hx hb h 0 (by decide) (fs := [.ref (ad 1), .ref (ad 2), .ref (ad 3), .ref (ad 4), .ref (ad 5), .int (nI (tl)), .int (nI (ol)), .ref (ad 6), .ref (ad 12), .ref (ad 18), .ref (ad 34), .ref (ad 35), .ref (ad 36)]) g0 hts (fun w hw => List.mem_cons_of_mem _ (fW_NB w hw)) hown (ci := 4) (C := "NonceBox") (T := fT_NB) (N := 13) rfl 0 (by decide) (hts _ (List.mem_cons_of_mem _ kf_NB_9)) rfl (v := .ref (ad 1)) rfl d_NB_rowOf_37 ?_
      exact wv_aret hx hb hr hlocks h d_NB_rowOf_40 (Or.inr ⟨_, rfl⟩) (Or.inr ⟨_, rfl⟩) ⟨rfl, Or.inl ⟨0, by decide, rfl, rfl⟩⟩
    · refine lv_tableIn (tgt := 41) hx hb d_NB_rowOf_1 (by decide) (by decide) rfl (by decide) ?_
      refine lv_aload_n hx hb d_NB_rowOf_41 rfl (lv_at hl 0 rfl) ?_
      refine wv_getf hx hb h 0 (by decide) (fs := [.ref (ad 1), .ref (ad 2), .ref (ad 3), .ref (ad 4), .ref (ad 5), .int (nI (tl)), .int (nI (ol)), .ref (ad 6), .ref (ad 12), .ref (ad 18), .ref (ad 34), .ref (ad 35), .ref (ad 36)]) g0 hts (fun w hw => List.mem_cons_of_mem _ (fW_NB w hw)) hown (ci := 4) (C := "NonceBox") (T := fT_NB) (N := 13) rfl 1 (by decide) (hts _ (List.mem_cons_of_mem _ kf_NB_13)) rfl (v := .ref (ad 2)) rfl d_NB_rowOf_42 ?_
      exact wv_aret hx hb hr hlocks h d_NB_rowOf_45 (Or.inr ⟨_, rfl⟩) (Or.inr ⟨_, rfl⟩) ⟨rfl, Or.inl ⟨1, by decide, rfl, rfl⟩⟩
    · refine lv_tableIn (tgt := 46) hx hb d_NB_rowOf_1 (by decide) (by decide) rfl (by decide) ?_
      refine lv_aload_n hx hb d_NB_rowOf_46 rfl (lv_at hl 0 rfl) ?_
      refine wv_getf hx hb h 0 (by decide) (fs := [.ref (ad 1), .ref (ad 2), .ref (ad 3), .ref (ad 4), .ref (ad 5), .int (nI (tl)), .int (nI (ol)), .ref (ad 6), .ref (ad 12), .ref (ad 18), .ref (ad 34), .ref (ad 35), .ref (ad 36)]) g0 hts (fun w hw => List.mem_cons_of_mem _ (fW_NB w hw)) hown (ci := 4) (C := "NonceBox") (T := fT_NB) (N := 13) rfl 2 (by decide) (hts _ (List.mem_cons_of_mem _ kf_NB_16)) rfl (v := .ref (ad 3)) rfl d_NB_rowOf_47 ?_
      exact wv_aret hx hb hr hlocks h d_NB_rowOf_50 (Or.inr ⟨_, rfl⟩) (Or.inr ⟨_, rfl⟩) ⟨rfl, Or.inl ⟨2, by decide, rfl, rfl⟩⟩
    · refine lv_tableIn (tgt := 51) hx hb d_NB_rowOf_1 (by decide) (by decide) rfl (by decide) ?_
      refine lv_aload_n hx hb d_NB_rowOf_51 rfl (lv_at hl 0 rfl) ?_
      refine wv_getf hx hb h 0 (by decide) (fs := [.ref (ad 1), .ref (ad 2), .ref (ad 3), .ref (ad 4), .ref (ad 5), .int (nI (tl)), .int (nI (ol)), .ref (ad 6), .ref (ad 12), .ref (ad 18), .ref (ad 34), .ref (ad 35), .ref (ad 36)]) g0 hts (fun w hw => List.mem_cons_of_mem _ (fW_NB w hw)) hown (ci := 4) (C := "NonceBox") (T := fT_NB) (N := 13) rfl 3 (by decide) (hts _ (List.mem_cons_of_mem _ kf_NB_19)) rfl (v := .ref (ad 4)) rfl d_NB_rowOf_52 ?_
      exact wv_aret hx hb hr hlocks h d_NB_rowOf_55 (Or.inr ⟨_, rfl⟩) (Or.inr ⟨_, rfl⟩) ⟨rfl, Or.inl ⟨3, by decide, rfl, rfl⟩⟩
    · refine lv_tableIn (tgt := 56) hx hb d_NB_rowOf_1 (by decide) (by decide) rfl (by decide) ?_
      refine lv_aload_n hx hb d_NB_rowOf_56 rfl (lv_at hl 0 rfl) ?_
      refine wv_getf hx hb h 0 (by decide) (fs := [.ref (ad 1), .ref (ad 2), .ref (ad 3), .ref (ad 4), .ref (ad 5), .int (nI (tl)), .int (nI (ol)), .ref (ad 6), .ref (ad 12), .ref (ad 18), .ref (ad 34), .ref (ad 35), .ref (ad 36)]) g0 hts (fun w hw => List.mem_cons_of_mem _ (fW_NB w hw)) hown (ci := 4) (C := "NonceBox") (T := fT_NB) (N := 13) rfl 4 (by decide) (hts _ (List.mem_cons_of_mem _ kf_NB_22)) rfl (v := .ref (ad 5)) rfl d_NB_rowOf_57 ?_
      exact wv_aret hx hb hr hlocks h d_NB_rowOf_60 (Or.inr ⟨_, rfl⟩) (Or.inr ⟨_, rfl⟩) ⟨rfl, Or.inl ⟨4, by decide, rfl, rfl⟩⟩
theorem d_NB_hasRoom_0 : decode c_NB_hasRoom 0 = .ok (.aload_n 0, 1) := by decide +kernel
theorem d_NB_hasRoom_1 : decode c_NB_hasRoom 1 = .ok (.ifnull 20, 3) := by decide +kernel
theorem d_NB_hasRoom_4 : decode c_NB_hasRoom 4 = .ok (.iload_n 1, 1) := by decide +kernel
theorem d_NB_hasRoom_5 : decode c_NB_hasRoom 5 = .ok (.ifCond .lt 16, 3) := by decide +kernel
theorem d_NB_hasRoom_8 : decode c_NB_hasRoom 8 = .ok (.iload_n 1, 1) := by decide +kernel
theorem d_NB_hasRoom_9 : decode c_NB_hasRoom 9 = .ok (.aload_n 0, 1) := by decide +kernel
theorem d_NB_hasRoom_10 : decode c_NB_hasRoom 10 = .ok (.arraylength, 1) := by decide +kernel
theorem d_NB_hasRoom_11 : decode c_NB_hasRoom 11 = .ok (.bipush 8, 2) := by decide +kernel
theorem d_NB_hasRoom_13 : decode c_NB_hasRoom 13 = .ok (.idiv, 1) := by decide +kernel
theorem d_NB_hasRoom_14 : decode c_NB_hasRoom 14 = .ok (.if_icmp .ge 7, 3) := by decide +kernel
theorem d_NB_hasRoom_17 : decode c_NB_hasRoom 17 = .ok (.iconst 1, 1) := by decide +kernel
theorem d_NB_hasRoom_18 : decode c_NB_hasRoom 18 = .ok (.goto 4, 3) := by decide +kernel
theorem d_NB_hasRoom_21 : decode c_NB_hasRoom 21 = .ok (.iconst 0, 1) := by decide +kernel
theorem d_NB_hasRoom_22 : decode c_NB_hasRoom 22 = .ok (.ireturn, 1) := by decide +kernel
set_option maxRecDepth 100000 in
set_option maxHeartbeats 4000000 in
/-- no row has no room -/
theorem m_NB_hasRoom0 (l : Launch) (G : wG) (A : Nat → Prop) (ad : Nat → Nat) (ev : Nat → va_E) (i : Int32) : wM l y_NB_hasRoom w_NB_hasRoom ({ frames := 0, cells := 0, slots := 0, locals := 0 }) G A 52 ad ev [.null, .int (i)] (fun ov ev' => ov = some (.int (nI 0)) ∧ ev' = ev) := by
  refine wv_ofW (cc := c_NB_hasRoom) (maxL := 2) (ret := (Option.some FieldType.boolean)) (by decide) rfl (Nat.le_of_ble_eq_true rfl) ?_
  intro p e s m below meth c ls hx hb hr hml hts hown hlocks hini h hl
  have hl : lv_has ls 2 [(0, .null), (1, .int (i))] := hl
  refine lv_aload_nN hx hb d_NB_hasRoom_0 rfl (lv_at hl 0 rfl) ?_
  refine lv_ifnullN (tgt := 21) hx hb d_NB_hasRoom_1 (by decide) ?_
  refine lv_iconst (v := nI (0)) hx hb d_NB_hasRoom_21 (by decide) ?_
  exact wv_zret hx hb hr hlocks h d_NB_hasRoom_22 rfl ⟨rfl, rfl⟩
set_option maxRecDepth 100000 in
set_option maxHeartbeats 4000000 in
/-- is there room for the long -/
theorem m_NB_hasRoom (l : Launch) (G : wG) (A : Nat → Prop) (ad : Nat → Nat) (ev : Nat → va_E) (i : Int32) (q M : Nat) (B : Nat → Nat) (hq : q < 52) (hev : ev q = eB G M (bs B)) (hM : M < 2 ^ 30) : wM l y_NB_hasRoom w_NB_hasRoom ({ frames := 0, cells := 0, slots := 0, locals := 0 }) G A 52 ad ev [.ref (ad q), .int (i)] (fun ov ev' => ev' = ev ∧ ((∃ k, k < M / 8 ∧ i = nI k ∧ ov = some (.int (nI 1))) ∨ ((∀ k, k < M / 8 → i ≠ nI k) ∧ ov = some (.int (nI 0))))) := by
  refine wv_ofW (cc := c_NB_hasRoom) (maxL := 2) (ret := (Option.some FieldType.boolean)) (by decide) rfl (Nat.le_of_ble_eq_true rfl) ?_
  intro p e s m below meth c ls hx hb hr hml hts hown hlocks hini h hl
  have hl : lv_has ls 2 [(0, .ref (ad q)), (1, .int (i))] := hl
  refine lv_aload_n hx hb d_NB_hasRoom_0 rfl (lv_at hl 0 rfl) ?_
  refine lv_ifnull hx hb d_NB_hasRoom_1 ?_
  refine lv_iload_n hx hb d_NB_hasRoom_4 rfl (lv_at hl 1 rfl) ?_
  refine lv_if_lt (tgt := 21) hx hb d_NB_hasRoom_5 (by decide) (fun hc => ?_) (fun hc => ?_)
  · have far : ∀ k, k < M / 8 → i ≠ nI k := fun k hk => nI_far (by omega) (Or.inl hc) k hk
    refine lv_iconst (v := nI (0)) hx hb d_NB_hasRoom_21 (by decide) ?_
    exact wv_zret hx hb hr hlocks h d_NB_hasRoom_22 rfl ⟨rfl, Or.inr ⟨far, rfl⟩⟩
  · obtain ⟨k, hk31, rfl⟩ := nI_of hc
    refine lv_iload_n hx hb d_NB_hasRoom_8 rfl (lv_at hl 1 rfl) ?_
    refine lv_aload_n hx hb d_NB_hasRoom_9 rfl (lv_at hl 0 rfl) ?_
    refine wv_alenB hx hb h q hq hev d_NB_hasRoom_10 ?_
    refine lv_bipush (v := nI (8)) hx hb d_NB_hasRoom_11 (by decide) ?_
    refine lv_idiv hx hb d_NB_hasRoom_13 (by decide) ?_
    refine wv_top (w := nI (M / 8)) (pk_div (by omega) (by omega) (by omega)) ?_
    refine lv_icmp_ge (tgt := 21) hx hb d_NB_hasRoom_14 (by decide) (fun hc => ?_) (fun hc => ?_)
    · have far : ∀ j, j < M / 8 → nI k ≠ nI j := fun j hj => nI_far (n := M / 8) (by omega) (Or.inr hc) j hj
      refine lv_iconst (v := nI (0)) hx hb d_NB_hasRoom_21 (by decide) ?_
      exact wv_zret hx hb hr hlocks h d_NB_hasRoom_22 rfl ⟨rfl, Or.inr ⟨far, rfl⟩⟩
    · have hk := Nat.lt_of_not_le (fun q => hc ((nI_leI (by omega) (by omega)).mpr q))
      refine lv_iconst (v := nI (1)) hx hb d_NB_hasRoom_17 (by decide) ?_
      refine lv_goto (tgt := 22) hx hb d_NB_hasRoom_18 (by decide) ?_
      exact wv_zret hx hb hr hlocks h d_NB_hasRoom_22 rfl ⟨rfl, Or.inl ⟨k, hk, rfl, rfl⟩⟩
