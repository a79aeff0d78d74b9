/-! the fields of 255 and of 130 bits: what the rows are as remainders -/
theorem pw_0 : (2 : Int) ^ (26 * 0) = 1 := by decide +kernel
theorem pw_1 : (2 : Int) ^ (26 * 1) = 67108864 := by decide +kernel
theorem pw_2 : (2 : Int) ^ (26 * 2) = 4503599627370496 := by decide +kernel
theorem pw_3 : (2 : Int) ^ (26 * 3) = 302231454903657293676544 := by decide +kernel
theorem pw_4 : (2 : Int) ^ (26 * 4) = 20282409603651670423947251286016 := by decide +kernel
theorem pw_5 : (2 : Int) ^ (26 * 5) = 1361129467683753853853498429727072845824 := by decide +kernel
theorem pw_6 : (2 : Int) ^ (26 * 6) = 91343852333181432387730302044767688728495783936 := by decide +kernel
theorem pw_7 : (2 : Int) ^ (26 * 7) = 6129982163463555433433388108601236734474956488734408704 := by decide +kernel
theorem pw_8 : (2 : Int) ^ (26 * 8) = 411376139330301510538742295639337626245683966408394965837152256 := by decide +kernel
theorem pw_9 : (2 : Int) ^ (26 * 9) = 27606985387162255149739023449108101809804435888681546220650096895197184 := by decide +kernel
theorem pw_10 : (2 : Int) ^ (26 * 10) = 1852673427797059126777135760139006525652319754650249024631321344126610074238976 := by decide +kernel
theorem pw_19 : (2 : Int) ^ (26 * 19) = 51146728248377216718956089012931236753385031969422887335676427626502090568823039920051095192592252455482604439493126109519019633529459266458258243584 := by decide +kernel
theorem vI_5 (f : Nat → Int64) : vI f 5 = (f 0).toInt * 1 + (f 1).toInt * 67108864 + (f 2).toInt * 4503599627370496 + (f 3).toInt * 302231454903657293676544 + (f 4).toInt * 20282409603651670423947251286016 := by
  simp only [vI, pw_0, pw_1, pw_2, pw_3, pw_4]
  omega
theorem vI_10 (f : Nat → Int64) : vI f 10 = (f 0).toInt * 1 + (f 1).toInt * 67108864 + (f 2).toInt * 4503599627370496 + (f 3).toInt * 302231454903657293676544 + (f 4).toInt * 20282409603651670423947251286016 + (f 5).toInt * 1361129467683753853853498429727072845824 + (f 6).toInt * 91343852333181432387730302044767688728495783936 + (f 7).toInt * 6129982163463555433433388108601236734474956488734408704 + (f 8).toInt * 411376139330301510538742295639337626245683966408394965837152256 + (f 9).toInt * 27606985387162255149739023449108101809804435888681546220650096895197184 := by
  simp only [vI, pw_0, pw_1, pw_2, pw_3, pw_4, pw_5, pw_6, pw_7, pw_8, pw_9]
  omega
def cg (p a b : Int) : Prop := ∃ k : Int, a = b + k * p
theorem cg_r (p a : Int) : cg p a a := ⟨0, by omega⟩
theorem cg_t {p a b c : Int} (h1 : cg p a b) (h2 : cg p b c) : cg p a c := by
  obtain ⟨k, rfl⟩ := h1
  obtain ⟨j, rfl⟩ := h2
  exact ⟨k + j, by grind⟩
theorem cg_s {p a b : Int} (h1 : cg p a b) : cg p b a := by
  obtain ⟨k, rfl⟩ := h1
  exact ⟨-k, by grind⟩
theorem cg_a {p a b c d : Int} (h1 : cg p a b) (h2 : cg p c d) : cg p (a + c) (b + d) := by
  obtain ⟨k, rfl⟩ := h1
  obtain ⟨j, rfl⟩ := h2
  exact ⟨k + j, by grind⟩
theorem cg_d {p a b c d : Int} (h1 : cg p a b) (h2 : cg p c d) : cg p (a - c) (b - d) := by
  obtain ⟨k, rfl⟩ := h1
  obtain ⟨j, rfl⟩ := h2
  exact ⟨k - j, by grind⟩
theorem cg_m {p a b c d : Int} (h1 : cg p a b) (h2 : cg p c d) : cg p (a * c) (b * d) := by
  obtain ⟨k, rfl⟩ := h1
  obtain ⟨j, rfl⟩ := h2
  exact ⟨k * d + b * j + k * j * p, by grind⟩
theorem mulAB {a b A B : Int} (ha : -A ≤ a ∧ a ≤ A) (hb : -B ≤ b ∧ b ≤ B) : -(A * B) ≤ a * b ∧ a * b ≤ A * B := by
  have h1 : 0 ≤ (A - a) * (B - b) := Int.mul_nonneg (by omega) (by omega)
  have h2 : 0 ≤ (A + a) * (B + b) := Int.mul_nonneg (by omega) (by omega)
  have h3 : 0 ≤ (A - a) * (B + b) := Int.mul_nonneg (by omega) (by omega)
  have h4 : 0 ≤ (A + a) * (B - b) := Int.mul_nonneg (by omega) (by omega)
  have e1 : (A - a) * (B - b) = A * B - A * b - a * B + a * b := by grind
  have e2 : (A + a) * (B + b) = A * B + A * b + a * B + a * b := by grind
  have e3 : (A - a) * (B + b) = A * B + A * b - a * B - a * b := by grind
  have e4 : (A + a) * (B - b) = A * B - A * b + a * B - a * b := by grind
  omega
set_option maxHeartbeats 4000000 in
theorem tm10_spec {x y : Nat → Int64} (hx : b28 x 10) (hy : b28 y 10) (hX : -463168356949264781694283940034751631413079938662562256157830336031652518559744 ≤ vI x 10 ∧ vI x 10 ≤ 463168356949264781694283940034751631413079938662562256157830336031652518559744) (hY : -463168356949264781694283940034751631413079938662562256157830336031652518559744 ≤ vI y 10 ∧ vI y 10 ≤ 463168356949264781694283940034751631413079938662562256157830336031652518559744) :
    (-32768 ≤ (tms 10 21 19 608 x y 0).toInt ∧ (tms 10 21 19 608 x y 0).toInt ≤ 67141632) ∧ (∀ i, 1 ≤ i → i < 9 → 0 ≤ (tms 10 21 19 608 x y i).toInt ∧ (tms 10 21 19 608 x y i).toInt < 67108864) ∧ (0 ≤ (tms 10 21 19 608 x y 9).toInt ∧ (tms 10 21 19 608 x y 9).toInt < 2097152) ∧ cg 57896044618658097711785492504343953926634992332820282019728792003956564819949 (vI (tms 10 21 19 608 x y) 10) (vI x 10 * vI y 10) := by
  obtain ⟨c1, c2, r, r0, r1, r2⟩ := wdC_spec hx hy (by decide) (by decide)
  have hV := mulAB hX hY
  rw [show (2 : Int) ^ (26 * (10 + 10 - 1)) = 51146728248377216718956089012931236753385031969422887335676427626502090568823039920051095192592252455482604439493126109519019633529459266458258243584 from by decide +kernel] at r1 r2
  obtain ⟨w, hw⟩ : ∃ w, w = wdC x y 10 := ⟨_, rfl⟩
  rw [← hw] at c1 c2 r2
  have hv2 := vI_split w 10 10
  rw [c2, pw_10] at hv2
  have ht : -4194306 ≤ (w 19).toInt ∧ (w 19).toInt ≤ 4194306 := by
    have r2 : vI x 10 * vI y 10 = r + (w 19).toInt * 51146728248377216718956089012931236753385031969422887335676427626502090568823039920051095192592252455482604439493126109519019633529459266458258243584 := r2
    generalize vI x 10 * vI y 10 = v at hV r2
    omega
  have c1_0 := c1 0 (by decide)
  have c1_1 := c1 1 (by decide)
  have c1_2 := c1 2 (by decide)
  have c1_3 := c1 3 (by decide)
  have c1_4 := c1 4 (by decide)
  have c1_5 := c1 5 (by decide)
  have c1_6 := c1 6 (by decide)
  have c1_7 := c1 7 (by decide)
  have c1_8 := c1 8 (by decide)
  have c1_9 := c1 9 (by decide)
  have c1_10 := c1 10 (by decide)
  have c1_11 := c1 11 (by decide)
  have c1_12 := c1 12 (by decide)
  have c1_13 := c1 13 (by decide)
  have c1_14 := c1 14 (by decide)
  have c1_15 := c1 15 (by decide)
  have c1_16 := c1 16 (by decide)
  have c1_17 := c1 17 (by decide)
  have c1_18 := c1 18 (by decide)
  have hf : ∀ i, i < 10 → (fld 10 608 w i).toInt = (w i).toInt + 608 * (w (10 + i)).toInt := by
    intro i hi
    have em : ((608 : Int64) * w (10 + i)).toInt = 608 * (w (10 + i)).toInt := by
      have e : (608 : Int64).toInt = 608 := by decide
      by_cases hl : 10 + i = 19
      · rw [hl, mul_i (by rw [e]; omega) (by rw [e]; omega), e]
      · have := c1 (10 + i) (by omega)
        rw [mul_i (by rw [e]; omega) (by rw [e]; omega), e]
    have h0 := c1 i (by omega)
    have hh : -67108864 ≤ (w (10 + i)).toInt ∧ (w (10 + i)).toInt ≤ 67108864 := by
      by_cases hl : 10 + i = 19
      · rw [hl]; omega
      · have := c1 (10 + i) (by omega)
        omega
    show (w i + 608 * w (10 + i)).toInt = _
    rw [add_i (by rw [em]; omega) (by rw [em]; omega), em]
  have hF : vI (fld 10 608 w) 10 = vI w 10 + 608 * vI (fun i => w (10 + i)) 10 := vI_lin (h := fun i => w (10 + i)) (fun i hi => hf i hi)
  have hFe := vI_10 (fld 10 608 w)
  have hf_0 : (fld 10 608 w 0).toInt = (w 0).toInt + 608 * (w 10).toInt := hf 0 (by decide)
  have hf_1 : (fld 10 608 w 1).toInt = (w 1).toInt + 608 * (w 11).toInt := hf 1 (by decide)
  have hf_2 : (fld 10 608 w 2).toInt = (w 2).toInt + 608 * (w 12).toInt := hf 2 (by decide)
  have hf_3 : (fld 10 608 w 3).toInt = (w 3).toInt + 608 * (w 13).toInt := hf 3 (by decide)
  have hf_4 : (fld 10 608 w 4).toInt = (w 4).toInt + 608 * (w 14).toInt := hf 4 (by decide)
  have hf_5 : (fld 10 608 w 5).toInt = (w 5).toInt + 608 * (w 15).toInt := hf 5 (by decide)
  have hf_6 : (fld 10 608 w 6).toInt = (w 6).toInt + 608 * (w 16).toInt := hf 6 (by decide)
  have hf_7 : (fld 10 608 w 7).toInt = (w 7).toInt + 608 * (w 17).toInt := hf 7 (by decide)
  have hf_8 : (fld 10 608 w 8).toInt = (w 8).toInt + 608 * (w 18).toInt := hf 8 (by decide)
  have hf_9 : (fld 10 608 w 9).toInt = (w 9).toInt + 608 * (w 19).toInt := hf 9 (by decide)
  have hb : ∀ i, i < 10 → -4611686018427387904 ≤ (fld 10 608 w i).toInt ∧ (fld 10 608 w i).toInt ≤ 4611686018427387904 := by
    intro i hi
    rcases (show i = 0 ∨ i = 1 ∨ i = 2 ∨ i = 3 ∨ i = 4 ∨ i = 5 ∨ i = 6 ∨ i = 7 ∨ i = 8 ∨ i = 9 by omega) with rfl | rfl | rfl | rfl | rfl | rfl | rfl | rfl | rfl | rfl
    all_goals omega
  obtain ⟨s, T, g0, s0, s1, s2, a0, a1, a2, a3, a4, a5⟩ := fTop_spec 10 21 19 19 (fld 10 608 w) (by decide) (by decide) (by decide) (by decide) hb (by rw [show (2 : Int) ^ (26 * (10 - 1)) = 27606985387162255149739023449108101809804435888681546220650096895197184 from by decide +kernel]; omega)
  rw [show (2 : Int) ^ (26 * (10 - 1)) = 27606985387162255149739023449108101809804435888681546220650096895197184 from by decide +kernel] at s1 s2 a5
  rw [show (2 : Int) ^ 21 = 2097152 from by decide +kernel] at a2 a4 a5
  have eR : tms 10 21 19 608 x y = fTop 10 21 19 (fld 10 608 w) := by rw [hw]; rfl
  rw [eR]
  refine ⟨?_, fun i h1 h2 => a3 i h1 h2, ?_, ?_⟩
  · rw [a2]; omega
  · have a4 : (fTop 10 21 19 (fld 10 608 w) 9).toInt = T % 2097152 := a4
    rw [a4]; omega
  · refine ⟨-(32 * vI (fun i => w (10 + i)) 10) - T / 2097152, ?_⟩
    rw [a5, hF]
    generalize vI (fun i => w (10 + i)) 10 = u at hv2 ⊢
    generalize vI x 10 * vI y 10 = v at hv2 ⊢
    omega
set_option maxHeartbeats 4000000 in
theorem tm5_spec {x y : Nat → Int64} (hx : b28 x 5) (hy : b28 y 5) (hX : -5444517870735015415413993718908291383296 ≤ vI x 5 ∧ vI x 5 ≤ 5444517870735015415413993718908291383296) (hY : -21267647932558653966460912964485513216 ≤ vI y 5 ∧ vI y 5 ≤ 21267647932558653966460912964485513216) :
    (-32768 ≤ (tms 5 26 5 5 x y 0).toInt ∧ (tms 5 26 5 5 x y 0).toInt ≤ 67141632) ∧ (∀ i, 1 ≤ i → i < 4 → 0 ≤ (tms 5 26 5 5 x y i).toInt ∧ (tms 5 26 5 5 x y i).toInt < 67108864) ∧ (0 ≤ (tms 5 26 5 5 x y 4).toInt ∧ (tms 5 26 5 5 x y 4).toInt < 67108864) ∧ cg 1361129467683753853853498429727072845819 (vI (tms 5 26 5 5 x y) 5) (vI x 5 * vI y 5) := by
  obtain ⟨c1, c2, r, r0, r1, r2⟩ := wdC_spec hx hy (by decide) (by decide)
  have hV := mulAB hX hY
  rw [show (2 : Int) ^ (26 * (5 + 5 - 1)) = 27606985387162255149739023449108101809804435888681546220650096895197184 from by decide +kernel] at r1 r2
  obtain ⟨w, hw⟩ : ∃ w, w = wdC x y 5 := ⟨_, rfl⟩
  rw [← hw] at c1 c2 r2
  have hv2 := vI_split w 5 5
  rw [c2, pw_5] at hv2
  have ht : -4194306 ≤ (w 9).toInt ∧ (w 9).toInt ≤ 4194306 := by
    have r2 : vI x 5 * vI y 5 = r + (w 9).toInt * 27606985387162255149739023449108101809804435888681546220650096895197184 := r2
    generalize vI x 5 * vI y 5 = v at hV r2
    omega
  have c1_0 := c1 0 (by decide)
  have c1_1 := c1 1 (by decide)
  have c1_2 := c1 2 (by decide)
  have c1_3 := c1 3 (by decide)
  have c1_4 := c1 4 (by decide)
  have c1_5 := c1 5 (by decide)
  have c1_6 := c1 6 (by decide)
  have c1_7 := c1 7 (by decide)
  have c1_8 := c1 8 (by decide)
  have hf : ∀ i, i < 5 → (fld 5 5 w i).toInt = (w i).toInt + 5 * (w (5 + i)).toInt := by
    intro i hi
    have em : ((5 : Int64) * w (5 + i)).toInt = 5 * (w (5 + i)).toInt := by
      have e : (5 : Int64).toInt = 5 := by decide
      by_cases hl : 5 + i = 9
      · rw [hl, mul_i (by rw [e]; omega) (by rw [e]; omega), e]
      · have := c1 (5 + i) (by omega)
        rw [mul_i (by rw [e]; omega) (by rw [e]; omega), e]
    have h0 := c1 i (by omega)
    have hh : -67108864 ≤ (w (5 + i)).toInt ∧ (w (5 + i)).toInt ≤ 67108864 := by
      by_cases hl : 5 + i = 9
      · rw [hl]; omega
      · have := c1 (5 + i) (by omega)
        omega
    show (w i + 5 * w (5 + i)).toInt = _
    rw [add_i (by rw [em]; omega) (by rw [em]; omega), em]
  have hF : vI (fld 5 5 w) 5 = vI w 5 + 5 * vI (fun i => w (5 + i)) 5 := vI_lin (h := fun i => w (5 + i)) (fun i hi => hf i hi)
  have hFe := vI_5 (fld 5 5 w)
  have hf_0 : (fld 5 5 w 0).toInt = (w 0).toInt + 5 * (w 5).toInt := hf 0 (by decide)
  have hf_1 : (fld 5 5 w 1).toInt = (w 1).toInt + 5 * (w 6).toInt := hf 1 (by decide)
  have hf_2 : (fld 5 5 w 2).toInt = (w 2).toInt + 5 * (w 7).toInt := hf 2 (by decide)
  have hf_3 : (fld 5 5 w 3).toInt = (w 3).toInt + 5 * (w 8).toInt := hf 3 (by decide)
  have hf_4 : (fld 5 5 w 4).toInt = (w 4).toInt + 5 * (w 9).toInt := hf 4 (by decide)
  have hb : ∀ i, i < 5 → -4611686018427387904 ≤ (fld 5 5 w i).toInt ∧ (fld 5 5 w i).toInt ≤ 4611686018427387904 := by
    intro i hi
    rcases (show i = 0 ∨ i = 1 ∨ i = 2 ∨ i = 3 ∨ i = 4 by omega) with rfl | rfl | rfl | rfl | rfl
    all_goals omega
  obtain ⟨s, T, g0, s0, s1, s2, a0, a1, a2, a3, a4, a5⟩ := fTop_spec 5 26 5 5 (fld 5 5 w) (by decide) (by decide) (by decide) (by decide) hb (by rw [show (2 : Int) ^ (26 * (5 - 1)) = 20282409603651670423947251286016 from by decide +kernel]; omega)
  rw [show (2 : Int) ^ (26 * (5 - 1)) = 20282409603651670423947251286016 from by decide +kernel] at s1 s2 a5
  rw [show (2 : Int) ^ 26 = 67108864 from by decide +kernel] at a2 a4 a5
  have eR : tms 5 26 5 5 x y = fTop 5 26 5 (fld 5 5 w) := by rw [hw]; rfl
  rw [eR]
  refine ⟨?_, fun i h1 h2 => a3 i h1 h2, ?_, ?_⟩
  · rw [a2]; omega
  · have a4 : (fTop 5 26 5 (fld 5 5 w) 4).toInt = T % 67108864 := a4
    rw [a4]; omega
  · refine ⟨-(1 * vI (fun i => w (5 + i)) 5) - T / 67108864, ?_⟩
    rw [a5, hF]
    generalize vI (fun i => w (5 + i)) 5 = u at hv2 ⊢
    generalize vI x 5 * vI y 5 = v at hv2 ⊢
    omega
