/-! settle; bytes in, bytes out -/
theorem sa10 {V r1 T1 vg r2 T2 : Int} (hV : -1048576 ≤ V ∧ V ≤ 57896044618658097711785492504343953926634992332820282019728792003956632977408) (p1 : 0 ≤ r1) (q1 : r1 < 27606985387162255149739023449108101809804435888681546220650096895197184) (s1 : V = r1 + T1 * 27606985387162255149739023449108101809804435888681546220650096895197184) (v1 : vg = V - (T1 / 2097152) * (2097152 * 27606985387162255149739023449108101809804435888681546220650096895197184 - 19)) (p2 : 0 ≤ r2) (q2 : r2 < 27606985387162255149739023449108101809804435888681546220650096895197184) (s2 : vg + 19 = r2 + T2 * 27606985387162255149739023449108101809804435888681546220650096895197184) : 0 ≤ vg - (T2 / 2097152) * (2097152 * 27606985387162255149739023449108101809804435888681546220650096895197184 - 19) ∧ vg - (T2 / 2097152) * (2097152 * 27606985387162255149739023449108101809804435888681546220650096895197184 - 19) < 57896044618658097711785492504343953926634992332820282019728792003956564819949 := by
  obtain ⟨a, ha⟩ : ∃ a, a = T1 / 2097152 := ⟨_, rfl⟩
  obtain ⟨b, hb⟩ : ∃ b, b = T1 % 2097152 := ⟨_, rfl⟩
  obtain ⟨c, hc⟩ : ∃ c, c = T2 / 2097152 := ⟨_, rfl⟩
  obtain ⟨d, hd⟩ : ∃ d, d = T2 % 2097152 := ⟨_, rfl⟩
  have e1 : T1 = 2097152 * a + b := by omega
  have e2 : T2 = 2097152 * c + d := by omega
  have hb2 : 0 ≤ b ∧ b < 2097152 := by omega
  have hd2 : 0 ≤ d ∧ d < 2097152 := by omega
  rw [← ha] at v1
  rw [← hc]
  clear ha hb hc hd
  subst e1 e2
  have ha3 : a = -1 ∨ a = 0 ∨ a = 1 := by omega
  have hg : 0 ≤ vg ∧ vg < 57896044618658097711785492504343953926634992332820282019728792003956564819968 := by rcases ha3 with rfl | rfl | rfl <;> omega
  have hc3 : c = 0 ∨ c = 1 := by omega
  rcases hc3 with rfl | rfl <;> omega
set_option maxHeartbeats 8000000 in
theorem stl10 {f : Nat → Int64} (h0 : -1048576 ≤ (f 0).toInt ∧ (f 0).toInt ≤ 68157440) (h1 : ∀ i, 1 ≤ i → i < 9 → 0 ≤ (f i).toInt ∧ (f i).toInt < 67108864) (h2 : 0 ≤ (f 9).toInt ∧ (f 9).toInt < 2097152) :
    (∀ i, i < 10 → 0 ≤ (stl 10 21 19 f i).toInt ∧ (stl 10 21 19 f i).toInt < 67108864) ∧ 0 ≤ vI (stl 10 21 19 f) 10 ∧ vI (stl 10 21 19 f) 10 < 57896044618658097711785492504343953926634992332820282019728792003956564819949 ∧ cg 57896044618658097711785492504343953926634992332820282019728792003956564819949 (vI (stl 10 21 19 f) 10) (vI f 10) := by
  have h1_1 := h1 1 (by decide) (by decide)
  have h1_2 := h1 2 (by decide) (by decide)
  have h1_3 := h1 3 (by decide) (by decide)
  have h1_4 := h1 4 (by decide) (by decide)
  have h1_5 := h1 5 (by decide) (by decide)
  have h1_6 := h1 6 (by decide) (by decide)
  have h1_7 := h1 7 (by decide) (by decide)
  have h1_8 := h1 8 (by decide) (by decide)
  have eV := vI_10 f
  have hb : ∀ i, i < 10 → -4611686018427387904 ≤ (f i).toInt ∧ (f i).toInt ≤ 4611686018427387904 := by
    intro i hi
    rcases (show i = 0 ∨ i = 1 ∨ i = 2 ∨ i = 3 ∨ i = 4 ∨ i = 5 ∨ i = 6 ∨ i = 7 ∨ i = 8 ∨ i = 9 by omega) with rfl | rfl | rfl | rfl | rfl | rfl | rfl | rfl | rfl | rfl
    all_goals omega
  obtain ⟨r1, T1, c1, p1, q1, s1, a1, b1, d1, e1, f1, v1⟩ := fTop_spec 10 21 19 19 f (by decide) (by decide) (by decide) (by decide) hb (by rw [show (2 : Int) ^ (26 * (10 - 1)) = 27606985387162255149739023449108101809804435888681546220650096895197184 from by decide +kernel]; omega)
  rw [show (2 : Int) ^ (26 * (10 - 1)) = 27606985387162255149739023449108101809804435888681546220650096895197184 from by decide +kernel] at q1 s1 v1
  rw [show (2 : Int) ^ 21 = 2097152 from by decide +kernel] at d1 f1 v1
  obtain ⟨g, hg⟩ : ∃ g, g = fTop 10 21 19 f := ⟨_, rfl⟩
  rw [← hg] at d1 e1 f1 v1
  have f1 : (g 9).toInt = T1 % 2097152 := f1
  have e1_1 := e1 1 (by decide) (by decide)
  have e1_2 := e1 2 (by decide) (by decide)
  have e1_3 := e1 3 (by decide) (by decide)
  have e1_4 := e1 4 (by decide) (by decide)
  have e1_5 := e1 5 (by decide) (by decide)
  have e1_6 := e1 6 (by decide) (by decide)
  have e1_7 := e1 7 (by decide) (by decide)
  have e1_8 := e1 8 (by decide) (by decide)
  have eG := vI_10 g
  have hlw : (19 : Int64).toInt = 19 := by decide
  have eg0 : (g 0 + 19).toInt = (g 0).toInt + 19 := by rw [add_i (by rw [hlw]; omega) (by rw [hlw]; omega), hlw]
  obtain ⟨g2, hg2⟩ : ∃ z, z = va_up g 0 (g 0 + 19) := ⟨_, rfl⟩
  have z0 : (g2 0).toInt = (g 0).toInt + 19 := by rw [hg2, va_up_self, eg0]
  have zi : ∀ i, 1 ≤ i → g2 i = g i := fun i hi => by rw [hg2, va_up_ne _ _ (by omega)]
  have z1 : (g2 1).toInt = (g 1).toInt := by rw [zi 1 (by decide)]
  have z2 : (g2 2).toInt = (g 2).toInt := by rw [zi 2 (by decide)]
  have z3 : (g2 3).toInt = (g 3).toInt := by rw [zi 3 (by decide)]
  have z4 : (g2 4).toInt = (g 4).toInt := by rw [zi 4 (by decide)]
  have z5 : (g2 5).toInt = (g 5).toInt := by rw [zi 5 (by decide)]
  have z6 : (g2 6).toInt = (g 6).toInt := by rw [zi 6 (by decide)]
  have z7 : (g2 7).toInt = (g 7).toInt := by rw [zi 7 (by decide)]
  have z8 : (g2 8).toInt = (g 8).toInt := by rw [zi 8 (by decide)]
  have z9 : (g2 9).toInt = (g 9).toInt := by rw [zi 9 (by decide)]
  have eG2 := vI_10 g2
  have hb2 : ∀ i, i < 10 → -4611686018427387904 ≤ (g2 i).toInt ∧ (g2 i).toInt ≤ 4611686018427387904 := by
    intro i hi
    rcases (show i = 0 ∨ i = 1 ∨ i = 2 ∨ i = 3 ∨ i = 4 ∨ i = 5 ∨ i = 6 ∨ i = 7 ∨ i = 8 ∨ i = 9 by omega) with rfl | rfl | rfl | rfl | rfl | rfl | rfl | rfl | rfl | rfl
    all_goals omega
  obtain ⟨r2, T2, c2, p2, q2, s2, a2, b2, d2, e2, f2, v2⟩ := fTop_spec 10 21 19 19 g2 (by decide) (by decide) (by decide) (by decide) hb2 (by rw [show (2 : Int) ^ (26 * (10 - 1)) = 27606985387162255149739023449108101809804435888681546220650096895197184 from by decide +kernel]; omega)
  rw [show (2 : Int) ^ (26 * (10 - 1)) = 27606985387162255149739023449108101809804435888681546220650096895197184 from by decide +kernel] at q2 s2 v2
  rw [show (2 : Int) ^ 21 = 2097152 from by decide +kernel] at d2 f2 v2
  obtain ⟨k, hk⟩ : ∃ g, g = fTop 10 21 19 g2 := ⟨_, rfl⟩
  rw [← hk] at d2 e2 f2 v2
  have f2 : (k 9).toInt = T2 % 2097152 := f2
  have e2_1 := e2 1 (by decide) (by decide)
  have e2_2 := e2 2 (by decide) (by decide)
  have e2_3 := e2 3 (by decide) (by decide)
  have e2_4 := e2 4 (by decide) (by decide)
  have e2_5 := e2 5 (by decide) (by decide)
  have e2_6 := e2 6 (by decide) (by decide)
  have e2_7 := e2 7 (by decide) (by decide)
  have e2_8 := e2 8 (by decide) (by decide)
  have eK := vI_10 k
  have ek0 : (k 0 - 19).toInt = (k 0).toInt - 19 := by rw [sub_i (by rw [hlw]; omega) (by rw [hlw]; omega), hlw]
  obtain ⟨k2, hk2⟩ : ∃ z, z = va_up k 0 (k 0 - 19) := ⟨_, rfl⟩
  have y0 : (k2 0).toInt = (k 0).toInt - 19 := by rw [hk2, va_up_self, ek0]
  have yi : ∀ i, 1 ≤ i → k2 i = k i := fun i hi => by rw [hk2, va_up_ne _ _ (by omega)]
  have y1 : (k2 1).toInt = (k 1).toInt := by rw [yi 1 (by decide)]
  have y2 : (k2 2).toInt = (k 2).toInt := by rw [yi 2 (by decide)]
  have y3 : (k2 3).toInt = (k 3).toInt := by rw [yi 3 (by decide)]
  have y4 : (k2 4).toInt = (k 4).toInt := by rw [yi 4 (by decide)]
  have y5 : (k2 5).toInt = (k 5).toInt := by rw [yi 5 (by decide)]
  have y6 : (k2 6).toInt = (k 6).toInt := by rw [yi 6 (by decide)]
  have y7 : (k2 7).toInt = (k 7).toInt := by rw [yi 7 (by decide)]
  have y8 : (k2 8).toInt = (k 8).toInt := by rw [yi 8 (by decide)]
  have y9 : (k2 9).toInt = (k 9).toInt := by rw [yi 9 (by decide)]
  have eK2 := vI_10 k2
  have hb3 : ∀ i, i < 10 → -4611686018427387904 ≤ (k2 i).toInt ∧ (k2 i).toInt ≤ 4611686018427387904 := by
    intro i hi
    rcases (show i = 0 ∨ i = 1 ∨ i = 2 ∨ i = 3 ∨ i = 4 ∨ i = 5 ∨ i = 6 ∨ i = 7 ∨ i = 8 ∨ i = 9 by omega) with rfl | rfl | rfl | rfl | rfl | rfl | rfl | rfl | rfl | rfl
    all_goals omega
  obtain ⟨t1, t2, r3, t3, t4, t5⟩ := cry_top k2 (N := 10) (by decide) hb3
  rw [show (2 : Int) ^ (26 * (10 - 1)) = 27606985387162255149739023449108101809804435888681546220650096895197184 from by decide +kernel] at t4 t5
  have eS : stl 10 21 19 f = cry k2 (10 - 1) := by rw [hk2, hk, hg2, hg]; rfl
  rw [eS]
  have hv : vI k2 10 = vI g 10 - (T2 / 2097152) * (2097152 * 27606985387162255149739023449108101809804435888681546220650096895197184 - 19) := by omega
  have hV : -1048576 ≤ vI f 10 ∧ vI f 10 ≤ 57896044618658097711785492504343953926634992332820282019728792003956632977408 := by omega
  have s2 : vI g 10 + 19 = r2 + T2 * 27606985387162255149739023449108101809804435888681546220650096895197184 := by omega
  have rng : 0 ≤ vI k2 10 ∧ vI k2 10 < 57896044618658097711785492504343953926634992332820282019728792003956564819949 := by rw [hv]; exact sa10 hV p1 q1 s1 v1 p2 q2 s2
  refine ⟨?_, by rw [t2]; exact rng.1, by rw [t2]; exact rng.2, ?_⟩
  · intro i hi
    by_cases hl : i < 10 - 1
    · exact t1 i hl
    · have : i = 10 - 1 := by omega
      rw [this]
      omega
  · rw [t2]
    refine ⟨-(T2 / 2097152) - (T1 / 2097152), ?_⟩
    omega
theorem sa5 {V r1 T1 vg r2 T2 : Int} (hV : -1048576 ≤ V ∧ V ≤ 1361129467683753853853498429727141003264) (p1 : 0 ≤ r1) (q1 : r1 < 20282409603651670423947251286016) (s1 : V = r1 + T1 * 20282409603651670423947251286016) (v1 : vg = V - (T1 / 67108864) * (67108864 * 20282409603651670423947251286016 - 5)) (p2 : 0 ≤ r2) (q2 : r2 < 20282409603651670423947251286016) (s2 : vg + 5 = r2 + T2 * 20282409603651670423947251286016) : 0 ≤ vg - (T2 / 67108864) * (67108864 * 20282409603651670423947251286016 - 5) ∧ vg - (T2 / 67108864) * (67108864 * 20282409603651670423947251286016 - 5) < 1361129467683753853853498429727072845819 := by
  obtain ⟨a, ha⟩ : ∃ a, a = T1 / 67108864 := ⟨_, rfl⟩
  obtain ⟨b, hb⟩ : ∃ b, b = T1 % 67108864 := ⟨_, rfl⟩
  obtain ⟨c, hc⟩ : ∃ c, c = T2 / 67108864 := ⟨_, rfl⟩
  obtain ⟨d, hd⟩ : ∃ d, d = T2 % 67108864 := ⟨_, rfl⟩
  have e1 : T1 = 67108864 * a + b := by omega
  have e2 : T2 = 67108864 * c + d := by omega
  have hb2 : 0 ≤ b ∧ b < 67108864 := by omega
  have hd2 : 0 ≤ d ∧ d < 67108864 := by omega
  rw [← ha] at v1
  rw [← hc]
  clear ha hb hc hd
  subst e1 e2
  have ha3 : a = -1 ∨ a = 0 ∨ a = 1 := by omega
  have hg : 0 ≤ vg ∧ vg < 1361129467683753853853498429727072845824 := by rcases ha3 with rfl | rfl | rfl <;> omega
  have hc3 : c = 0 ∨ c = 1 := by omega
  rcases hc3 with rfl | rfl <;> omega
set_option maxHeartbeats 8000000 in
theorem stl5 {f : Nat → Int64} (h0 : -1048576 ≤ (f 0).toInt ∧ (f 0).toInt ≤ 68157440) (h1 : ∀ i, 1 ≤ i → i < 4 → 0 ≤ (f i).toInt ∧ (f i).toInt < 67108864) (h2 : 0 ≤ (f 4).toInt ∧ (f 4).toInt < 67108864) :
    (∀ i, i < 5 → 0 ≤ (stl 5 26 5 f i).toInt ∧ (stl 5 26 5 f i).toInt < 67108864) ∧ 0 ≤ vI (stl 5 26 5 f) 5 ∧ vI (stl 5 26 5 f) 5 < 1361129467683753853853498429727072845819 ∧ cg 1361129467683753853853498429727072845819 (vI (stl 5 26 5 f) 5) (vI f 5) := by
  have h1_1 := h1 1 (by decide) (by decide)
  have h1_2 := h1 2 (by decide) (by decide)
  have h1_3 := h1 3 (by decide) (by decide)
  have eV := vI_5 f
  have hb : ∀ i, i < 5 → -4611686018427387904 ≤ (f i).toInt ∧ (f i).toInt ≤ 4611686018427387904 := by
    intro i hi
    rcases (show i = 0 ∨ i = 1 ∨ i = 2 ∨ i = 3 ∨ i = 4 by omega) with rfl | rfl | rfl | rfl | rfl
    all_goals omega
  obtain ⟨r1, T1, c1, p1, q1, s1, a1, b1, d1, e1, f1, v1⟩ := fTop_spec 5 26 5 5 f (by decide) (by decide) (by decide) (by decide) hb (by rw [show (2 : Int) ^ (26 * (5 - 1)) = 20282409603651670423947251286016 from by decide +kernel]; omega)
  rw [show (2 : Int) ^ (26 * (5 - 1)) = 20282409603651670423947251286016 from by decide +kernel] at q1 s1 v1
  rw [show (2 : Int) ^ 26 = 67108864 from by decide +kernel] at d1 f1 v1
  obtain ⟨g, hg⟩ : ∃ g, g = fTop 5 26 5 f := ⟨_, rfl⟩
  rw [← hg] at d1 e1 f1 v1
  have f1 : (g 4).toInt = T1 % 67108864 := f1
  have e1_1 := e1 1 (by decide) (by decide)
  have e1_2 := e1 2 (by decide) (by decide)
  have e1_3 := e1 3 (by decide) (by decide)
  have eG := vI_5 g
  have hlw : (5 : Int64).toInt = 5 := by decide
  have eg0 : (g 0 + 5).toInt = (g 0).toInt + 5 := by rw [add_i (by rw [hlw]; omega) (by rw [hlw]; omega), hlw]
  obtain ⟨g2, hg2⟩ : ∃ z, z = va_up g 0 (g 0 + 5) := ⟨_, rfl⟩
  have z0 : (g2 0).toInt = (g 0).toInt + 5 := by rw [hg2, va_up_self, eg0]
  have zi : ∀ i, 1 ≤ i → g2 i = g i := fun i hi => by rw [hg2, va_up_ne _ _ (by omega)]
  have z1 : (g2 1).toInt = (g 1).toInt := by rw [zi 1 (by decide)]
  have z2 : (g2 2).toInt = (g 2).toInt := by rw [zi 2 (by decide)]
  have z3 : (g2 3).toInt = (g 3).toInt := by rw [zi 3 (by decide)]
  have z4 : (g2 4).toInt = (g 4).toInt := by rw [zi 4 (by decide)]
  have eG2 := vI_5 g2
  have hb2 : ∀ i, i < 5 → -4611686018427387904 ≤ (g2 i).toInt ∧ (g2 i).toInt ≤ 4611686018427387904 := by
    intro i hi
    rcases (show i = 0 ∨ i = 1 ∨ i = 2 ∨ i = 3 ∨ i = 4 by omega) with rfl | rfl | rfl | rfl | rfl
    all_goals omega
  obtain ⟨r2, T2, c2, p2, q2, s2, a2, b2, d2, e2, f2, v2⟩ := fTop_spec 5 26 5 5 g2 (by decide) (by decide) (by decide) (by decide) hb2 (by rw [show (2 : Int) ^ (26 * (5 - 1)) = 20282409603651670423947251286016 from by decide +kernel]; omega)
  rw [show (2 : Int) ^ (26 * (5 - 1)) = 20282409603651670423947251286016 from by decide +kernel] at q2 s2 v2
  rw [show (2 : Int) ^ 26 = 67108864 from by decide +kernel] at d2 f2 v2
  obtain ⟨k, hk⟩ : ∃ g, g = fTop 5 26 5 g2 := ⟨_, rfl⟩
  rw [← hk] at d2 e2 f2 v2
  have f2 : (k 4).toInt = T2 % 67108864 := f2
  have e2_1 := e2 1 (by decide) (by decide)
  have e2_2 := e2 2 (by decide) (by decide)
  have e2_3 := e2 3 (by decide) (by decide)
  have eK := vI_5 k
  have ek0 : (k 0 - 5).toInt = (k 0).toInt - 5 := by rw [sub_i (by rw [hlw]; omega) (by rw [hlw]; omega), hlw]
  obtain ⟨k2, hk2⟩ : ∃ z, z = va_up k 0 (k 0 - 5) := ⟨_, rfl⟩
  have y0 : (k2 0).toInt = (k 0).toInt - 5 := by rw [hk2, va_up_self, ek0]
  have yi : ∀ i, 1 ≤ i → k2 i = k i := fun i hi => by rw [hk2, va_up_ne _ _ (by omega)]
  have y1 : (k2 1).toInt = (k 1).toInt := by rw [yi 1 (by decide)]
  have y2 : (k2 2).toInt = (k 2).toInt := by rw [yi 2 (by decide)]
  have y3 : (k2 3).toInt = (k 3).toInt := by rw [yi 3 (by decide)]
  have y4 : (k2 4).toInt = (k 4).toInt := by rw [yi 4 (by decide)]
  have eK2 := vI_5 k2
  have hb3 : ∀ i, i < 5 → -4611686018427387904 ≤ (k2 i).toInt ∧ (k2 i).toInt ≤ 4611686018427387904 := by
    intro i hi
    rcases (show i = 0 ∨ i = 1 ∨ i = 2 ∨ i = 3 ∨ i = 4 by omega) with rfl | rfl | rfl | rfl | rfl
    all_goals omega
  obtain ⟨t1, t2, r3, t3, t4, t5⟩ := cry_top k2 (N := 5) (by decide) hb3
  rw [show (2 : Int) ^ (26 * (5 - 1)) = 20282409603651670423947251286016 from by decide +kernel] at t4 t5
  have eS : stl 5 26 5 f = cry k2 (5 - 1) := by rw [hk2, hk, hg2, hg]; rfl
  rw [eS]
  have hv : vI k2 5 = vI g 5 - (T2 / 67108864) * (67108864 * 20282409603651670423947251286016 - 5) := by omega
  have hV : -1048576 ≤ vI f 5 ∧ vI f 5 ≤ 1361129467683753853853498429727141003264 := by omega
  have s2 : vI g 5 + 5 = r2 + T2 * 20282409603651670423947251286016 := by omega
  have rng : 0 ≤ vI k2 5 ∧ vI k2 5 < 1361129467683753853853498429727072845819 := by rw [hv]; exact sa5 hV p1 q1 s1 v1 p2 q2 s2
  refine ⟨?_, by rw [t2]; exact rng.1, by rw [t2]; exact rng.2, ?_⟩
  · intro i hi
    by_cases hl : i < 5 - 1
    · exact t1 i hl
    · have : i = 5 - 1 := by omega
      rw [this]
      omega
  · rw [t2]
    refine ⟨-(T2 / 67108864) - (T1 / 67108864), ?_⟩
    omega
