/-! the reference's last rounds: the one number under p -/
theorem m21_i (x : Int64) : (x &&& 2097151).toInt = x.toInt % 2097152 := by
  obtain ⟨n, hn, rfl⟩ := wb_of x
  have h : lN n &&& 2097151 = lN (n % 2097152) := g_mask (s := 21) (p := 2097152) rfl (by decide) hn
  rw [h, pk_lT (by omega)]
  have e : (lN n).toInt = (n : Int) ∨ (lN n).toInt = (n : Int) - 18446744073709551616 := by
    have c := BitVec.toInt_eq_toNat_cond (lN n).toBitVec
    rw [wb_tn hn] at c
    show (lN n).toBitVec.toInt = _ ∨ (lN n).toBitVec.toInt = _
    rw [c]
    by_cases q : 2 * n < 2 ^ 64
    · rw [if_pos q]; exact Or.inl rfl
    · rw [if_neg q]; exact Or.inr rfl
  rcases e with e | e <;> rw [e] <;> omega
def fnA (g : Row) : Row := va_up (va_up g 9 (g 9 &&& 2097151)) 0 (va_up g 9 (g 9 &&& 2097151) 0 + 19 * sar (g 9) 21)
def fnR (g : Row) : Row := cry (fnA g) 9
def fn3 (g : Row) : Nat → Row
  | 0 => g
  | m + 1 => fnR (fn3 g m)
def ovF (g : Row) : Nat → Int64
  | 0 => 19
  | k + 1 => sar (g k + ovF g k) 26
def fnC (h : Row) : Row := cry (va_up h 0 (h 0 + 19)) 9
def fnT (g : Row) : Row := if 0 < (sar (fn3 g 3 9 + ovF (fn3 g 3) 9) 21).toInt then va_up (fnC (fn3 g 3)) 9 (fnC (fn3 g 3) 9 &&& 2097151) else fn3 g 3
def D9 (f : Row) : Prop := ∀ i, i < 9 → 0 ≤ (f i).toInt ∧ (f i).toInt < 67108864
theorem v109 (f : Row) : vI f 10 = vI f 9 + (f 9).toInt * 27606985387162255149739023449108101809804435888681546220650096895197184 := by
  show vI f 9 + (f 9).toInt * 2 ^ (26 * 9) = _
  rw [pw_9]
theorem r9 {f : Row} (h : D9 f) : 0 ≤ vI f 9 ∧ vI f 9 < 27606985387162255149739023449108101809804435888681546220650096895197184 := by
  have := vI_rng (f := f) (n := 9) h
  rw [pw_9] at this
  exact this
theorem fnR_s {g : Row} (h : D9 g) (h9 : 0 ≤ (g 9).toInt ∧ (g 9).toInt ≤ 134217728) : D9 (fnR g) ∧ vI (fnR g) 10 = vI g 10 - (g 9).toInt / 2097152 * 57896044618658097711785492504343953926634992332820282019728792003956564819949 := by
  have es : (sar (g 9) 21).toInt = (g 9).toInt / 2097152 := by rw [sar_i _ (by decide)]; rfl
  have e19 : ((19 : Int64) * sar (g 9) 21).toInt = 19 * ((g 9).toInt / 2097152) := by
    have e : (19 : Int64).toInt = 19 := by decide
    rw [mul_i (by rw [e, es]; omega) (by rw [e, es]; omega), e, es]
  have em := m21_i (g 9)
  have g0 := h 0 (by decide)
  have e0 : va_up g 9 (g 9 &&& 2097151) 0 = g 0 := va_up_ne _ _ (by decide)
  have ea : (g 0 + 19 * sar (g 9) 21).toInt = (g 0).toInt + 19 * ((g 9).toInt / 2097152) := by rw [add_i (by rw [e19]; omega) (by rw [e19]; omega), e19]
  have eA : vI (fnA g) 10 = vI g 10 - (g 9).toInt / 2097152 * 57896044618658097711785492504343953926634992332820282019728792003956564819949 := by
    unfold fnA
    rw [vI_up, vI_up, if_pos (by decide), if_pos (by decide), e0, ea, em, pw_9, pw_0]
    omega
  have hb : ∀ i, i < 10 → -4611686018427387904 ≤ (fnA g i).toInt ∧ (fnA g i).toInt ≤ 4611686018427387904 := by
    intro i hi
    unfold fnA
    by_cases c0 : i = 0
    · rw [c0, va_up_self, e0, ea]; omega
    · rw [va_up_ne _ _ c0]
      by_cases c9 : i = 9
      · rw [c9, va_up_self, em]; omega
      · rw [va_up_ne _ _ c9]
        have := h i (by omega)
        omega
  obtain ⟨c1, c2, -⟩ := cry_top (fnA g) (N := 10) (by decide) hb
  exact ⟨fun i hi => c1 i (by omega), by rw [← eA]; exact c2⟩
theorem fn3_spec {g : Row} (hD : Dg g 10) : D9 (fn3 g 3) ∧ (0 ≤ vI (fn3 g 3) 10 ∧ vI (fn3 g 3) 10 < 57896044618658097711785492504343953926634992332820282019728792003956564819968) ∧ cg 57896044618658097711785492504343953926634992332820282019728792003956564819949 (vI (fn3 g 3) 10) (vI g 10) := by
  have d0 : D9 g := fun i hi => hD i (by omega)
  have t0 := hD 9 (by decide)
  have v0 := v109 g
  have q0 := r9 d0
  obtain ⟨d1, w1⟩ := fnR_s d0 (by omega)
  have v1 := v109 (fnR g)
  have q1 := r9 d1
  obtain ⟨T0, hT0⟩ : ∃ T, T = (g 9).toInt := ⟨_, rfl⟩
  obtain ⟨T1, hT1⟩ : ∃ T, T = (fnR g 9).toInt := ⟨_, rfl⟩
  obtain ⟨H0, hH0⟩ : ∃ T, T = T0 / 2097152 := ⟨_, rfl⟩
  rw [← hT0] at t0 v0 w1
  rw [← hT1] at v1
  rw [← hH0] at w1
  have b1 : 0 ≤ vI (fnR g) 10 ∧ vI (fnR g) 10 < 57896044618658097711785492504343953926634992332820282019728792003956564819968 + 1000 := by
    generalize vI (fnR g) 10 = V1 at *
    generalize vI (fnR g) 9 = r1 at *
    generalize vI g 10 = V0 at *
    generalize vI g 9 = r0 at *
    clear v1 q1
    omega
  have t1 : 0 ≤ T1 ∧ T1 ≤ 2097152 := by
    generalize vI (fnR g) 10 = V1 at *
    generalize vI (fnR g) 9 = r1 at *
    clear w1 v0 q0 hH0
    omega
  obtain ⟨d2, w2⟩ := fnR_s d1 (by rw [← hT1]; omega)
  have v2 := v109 (fnR (fnR g))
  have q2 := r9 d2
  obtain ⟨T2, hT2⟩ : ∃ T, T = (fnR (fnR g) 9).toInt := ⟨_, rfl⟩
  obtain ⟨H1, hH1⟩ : ∃ T, T = T1 / 2097152 := ⟨_, rfl⟩
  rw [← hT1, ← hH1] at w2
  rw [← hT2] at v2
  have b2 : 0 ≤ vI (fnR (fnR g)) 10 ∧ vI (fnR (fnR g)) 10 < 57896044618658097711785492504343953926634992332820282019728792003956564819968 := by
    generalize vI (fnR (fnR g)) 10 = V2 at *
    generalize vI (fnR g) 10 = V1 at *
    generalize vI (fnR g) 9 = r1 at *
    clear w1 v0 q0 v2 q2
    have : H1 = 0 ∨ H1 = 1 := by omega
    rcases this with e | e <;> rw [e] at w2 <;> omega
  have t2 : 0 ≤ T2 ∧ T2 < 2097152 := by
    generalize vI (fnR (fnR g)) 10 = V2 at *
    generalize vI (fnR (fnR g)) 9 = r2 at *
    clear w1 v0 q0 v1 q1 w2 hH1 hH0
    omega
  obtain ⟨d3, w3⟩ := fnR_s d2 (by rw [← hT2]; omega)
  have hz : T2 / 2097152 = 0 := by omega
  rw [← hT2, hz, Int.zero_mul, Int.sub_zero] at w3
  have e3 : fn3 g 3 = fnR (fnR (fnR g)) := rfl
  rw [e3, w3]
  refine ⟨d3, b2, ⟨-(H0 + H1), ?_⟩⟩
  rw [w2, w1]
  generalize vI g 10 = V0
  omega
theorem ovF_r (h : Row) : ∀ k, ovr (va_up h 0 (h 0 + 19)) (k + 1) = ovF h (k + 1)
  | 0 => by
    show sar (va_up h 0 (h 0 + 19) 0 + 0) 26 = sar (h 0 + 19) 26
    rw [va_up_self, Int64.add_zero]
  | k + 1 => by
    show sar (va_up h 0 (h 0 + 19) (k + 1) + ovr (va_up h 0 (h 0 + 19)) (k + 1)) 26 = sar (h (k + 1) + ovF h (k + 1)) 26
    rw [ovF_r h k, va_up_ne _ _ (by omega)]
theorem fnT_spec {g : Row} (hD : Dg g 10) : Dg (fnT g) 10 ∧ (0 ≤ vI (fnT g) 10 ∧ vI (fnT g) 10 < 57896044618658097711785492504343953926634992332820282019728792003956564819949) ∧ cg 57896044618658097711785492504343953926634992332820282019728792003956564819949 (vI (fnT g) 10) (vI g 10) := by
  obtain ⟨d, b, k⟩ := fn3_spec hD
  unfold fnT
  obtain ⟨h, hh⟩ : ∃ h, h = fn3 g 3 := ⟨_, rfl⟩
  rw [← hh] at d b k ⊢
  have v := v109 h
  have q := r9 d
  have t9 : 0 ≤ (h 9).toInt ∧ (h 9).toInt < 2097152 := by
    generalize vI h 10 = V at *
    generalize vI h 9 = r at *
    clear k
    omega
  have h0 := d 0 (by decide)
  have e0 : (h 0 + 19).toInt = (h 0).toInt + 19 := by
    have e : (19 : Int64).toInt = 19 := by decide
    rw [add_i (by rw [e]; omega) (by rw [e]; omega), e]
  have hb : ∀ i, i < 10 → -4611686018427387904 ≤ (va_up h 0 (h 0 + 19) i).toInt ∧ (va_up h 0 (h 0 + 19) i).toInt ≤ 4611686018427387904 := by
    intro i hi
    by_cases c0 : i = 0
    · rw [c0, va_up_self, e0]; omega
    · rw [va_up_ne _ _ c0]
      by_cases c9 : i = 9
      · rw [c9]; omega
      · have := d i (by omega)
        omega
  obtain ⟨c1, c2, -⟩ := cry_top (va_up h 0 (h 0 + 19)) (N := 10) (by decide) hb
  have c1 : D9 (fnC h) := fun i hi => c1 i (by omega)
  have c2 : vI (fnC h) 10 = vI (va_up h 0 (h 0 + 19)) 10 := c2
  rw [vI_up, if_pos (by decide), e0, pw_0] at c2
  have v' := v109 (fnC h)
  have q' := r9 c1
  have e9 : h 9 + ovF h 9 = fnC h 9 := by
    unfold fnC
    rw [cry_at, if_neg (by decide), if_pos rfl, va_up_ne _ _ (by decide), show (9 : Nat) = 8 + 1 from rfl, ovF_r h 8]
  have es : (sar (fnC h 9) 21).toInt = (fnC h 9).toInt / 2097152 := by rw [sar_i _ (by decide)]; rfl
  rw [e9, es]
  by_cases c : 0 < (fnC h 9).toInt / 2097152
  · rw [if_pos c]
    have em := m21_i (fnC h 9)
    have eV : vI (va_up (fnC h) 9 (fnC h 9 &&& 2097151)) 10 = vI (fnC h) 10 + ((fnC h 9).toInt % 2097152 - (fnC h 9).toInt) * 27606985387162255149739023449108101809804435888681546220650096895197184 := by
      rw [vI_up, if_pos (by decide), em, pw_9]
    generalize (fnC h 9).toInt = T at *
    have hT : T < 2 * 2097152 := by
      clear eV em k
      generalize vI (fnC h) 10 = W at *
      generalize vI (fnC h) 9 = s at *
      generalize vI h 10 = V at *
      omega
    have hT2 : T % 2097152 = T - 2097152 := by omega
    rw [hT2] at eV em
    refine ⟨fun i hi => ?_, ?_⟩
    · by_cases c9 : i = 9
      · rw [c9, va_up_self, em]; omega
      · rw [va_up_ne _ _ c9]; exact c1 i (by omega)
    · have e2 : vI (va_up (fnC h) 9 (fnC h 9 &&& 2097151)) 10 = vI h 10 - 57896044618658097711785492504343953926634992332820282019728792003956564819949 := by
        rw [eV, c2]; omega
      rw [e2]
      have e3 : T = 2097152 + (T - 2097152) := by omega
      refine ⟨?_, cg_t ⟨-1, by omega⟩ k⟩
      clear k eV e2 em
      generalize vI (fnC h) 10 = W at *
      generalize vI (fnC h) 9 = s at *
      generalize vI h 10 = V at *
      omega
  · rw [if_neg c]
    refine ⟨fun i hi => ?_, ?_, k⟩
    · by_cases c9 : i = 9
      · rw [c9]; omega
      · exact d i (by omega)
    · generalize (fnC h 9).toInt = T at *
      generalize vI (fnC h) 10 = W at *
      generalize vI (fnC h) 9 = s at *
      generalize vI h 10 = V at *
      clear k
      omega
theorem d_Md_finish_0 : decode c_Md_finish 0 = .ok (.bipush 10, 2) := by decide +kernel
theorem d_Md_finish_2 : decode c_Md_finish 2 = .ok (.iload_n 1, 1) := by decide +kernel
theorem d_Md_finish_3 : decode c_Md_finish 3 = .ok (.imul, 1) := by decide +kernel
theorem d_Md_finish_4 : decode c_Md_finish 4 = .ok (.bipush 9, 2) := by decide +kernel
theorem d_Md_finish_6 : decode c_Md_finish 6 = .ok (.iadd, 1) := by decide +kernel
theorem d_Md_finish_7 : decode c_Md_finish 7 = .ok (.istore_n 2, 1) := by decide +kernel
theorem d_Md_finish_8 : decode c_Md_finish 8 = .ok (.iconst 0, 1) := by decide +kernel
theorem d_Md_finish_9 : decode c_Md_finish 9 = .ok (.istore_n 3, 1) := by decide +kernel
theorem d_Md_finish_10 : decode c_Md_finish 10 = .ok (.iload_n 3, 1) := by decide +kernel
theorem d_Md_finish_11 : decode c_Md_finish 11 = .ok (.iconst 3, 1) := by decide +kernel
theorem d_Md_finish_12 : decode c_Md_finish 12 = .ok (.if_icmp .ge 126, 3) := by decide +kernel
theorem d_Md_finish_15 : decode c_Md_finish 15 = .ok (.aload_n 0, 1) := by decide +kernel
theorem d_Md_finish_16 : decode c_Md_finish 16 = .ok (.getfield 28, 3) := by decide +kernel
theorem d_Md_finish_19 : decode c_Md_finish 19 = .ok (.iload_n 2, 1) := by decide +kernel
theorem d_Md_finish_20 : decode c_Md_finish 20 = .ok (.laload, 1) := by decide +kernel
theorem d_Md_finish_21 : decode c_Md_finish 21 = .ok (.bipush 21, 2) := by decide +kernel
theorem d_Md_finish_23 : decode c_Md_finish 23 = .ok (.lshr, 1) := by decide +kernel
theorem d_Md_finish_24 : decode c_Md_finish 24 = .ok (.lstore 4, 2) := by decide +kernel
theorem d_Md_finish_26 : decode c_Md_finish 26 = .ok (.aload_n 0, 1) := by decide +kernel
theorem d_Md_finish_27 : decode c_Md_finish 27 = .ok (.getfield 28, 3) := by decide +kernel
theorem d_Md_finish_30 : decode c_Md_finish 30 = .ok (.iload_n 2, 1) := by decide +kernel
theorem d_Md_finish_31 : decode c_Md_finish 31 = .ok (.aload_n 0, 1) := by decide +kernel
theorem d_Md_finish_32 : decode c_Md_finish 32 = .ok (.getfield 28, 3) := by decide +kernel
theorem d_Md_finish_35 : decode c_Md_finish 35 = .ok (.iload_n 2, 1) := by decide +kernel
theorem d_Md_finish_36 : decode c_Md_finish 36 = .ok (.laload, 1) := by decide +kernel
theorem d_Md_finish_37 : decode c_Md_finish 37 = .ok (.ldc2_w 155, 3) := by decide +kernel
theorem d_Md_finish_40 : decode c_Md_finish 40 = .ok (.land, 1) := by decide +kernel
theorem d_Md_finish_41 : decode c_Md_finish 41 = .ok (.lastore, 1) := by decide +kernel
theorem d_Md_finish_42 : decode c_Md_finish 42 = .ok (.aload_n 0, 1) := by decide +kernel
theorem d_Md_finish_43 : decode c_Md_finish 43 = .ok (.getfield 28, 3) := by decide +kernel
theorem d_Md_finish_46 : decode c_Md_finish 46 = .ok (.bipush 10, 2) := by decide +kernel
theorem d_Md_finish_48 : decode c_Md_finish 48 = .ok (.iload_n 1, 1) := by decide +kernel
theorem d_Md_finish_49 : decode c_Md_finish 49 = .ok (.imul, 1) := by decide +kernel
theorem d_Md_finish_50 : decode c_Md_finish 50 = .ok (.aload_n 0, 1) := by decide +kernel
theorem d_Md_finish_51 : decode c_Md_finish 51 = .ok (.getfield 28, 3) := by decide +kernel
theorem d_Md_finish_54 : decode c_Md_finish 54 = .ok (.bipush 10, 2) := by decide +kernel
theorem d_Md_finish_56 : decode c_Md_finish 56 = .ok (.iload_n 1, 1) := by decide +kernel
theorem d_Md_finish_57 : decode c_Md_finish 57 = .ok (.imul, 1) := by decide +kernel
theorem d_Md_finish_58 : decode c_Md_finish 58 = .ok (.laload, 1) := by decide +kernel
theorem d_Md_finish_59 : decode c_Md_finish 59 = .ok (.ldc2_w 157, 3) := by decide +kernel
theorem d_Md_finish_62 : decode c_Md_finish 62 = .ok (.lload 4, 2) := by decide +kernel
theorem d_Md_finish_64 : decode c_Md_finish 64 = .ok (.lmul, 1) := by decide +kernel
theorem d_Md_finish_65 : decode c_Md_finish 65 = .ok (.ladd, 1) := by decide +kernel
theorem d_Md_finish_66 : decode c_Md_finish 66 = .ok (.lastore, 1) := by decide +kernel
theorem d_Md_finish_67 : decode c_Md_finish 67 = .ok (.bipush 10, 2) := by decide +kernel
theorem d_Md_finish_69 : decode c_Md_finish 69 = .ok (.iload_n 1, 1) := by decide +kernel
theorem d_Md_finish_70 : decode c_Md_finish 70 = .ok (.imul, 1) := by decide +kernel
theorem d_Md_finish_71 : decode c_Md_finish 71 = .ok (.istore 6, 2) := by decide +kernel
theorem d_Md_finish_73 : decode c_Md_finish 73 = .ok (.iload 6, 2) := by decide +kernel
theorem d_Md_finish_75 : decode c_Md_finish 75 = .ok (.iload_n 2, 1) := by decide +kernel
theorem d_Md_finish_76 : decode c_Md_finish 76 = .ok (.if_icmp .ge 56, 3) := by decide +kernel
theorem d_Md_finish_79 : decode c_Md_finish 79 = .ok (.aload_n 0, 1) := by decide +kernel
theorem d_Md_finish_80 : decode c_Md_finish 80 = .ok (.getfield 28, 3) := by decide +kernel
theorem d_Md_finish_83 : decode c_Md_finish 83 = .ok (.iload 6, 2) := by decide +kernel
theorem d_Md_finish_85 : decode c_Md_finish 85 = .ok (.iconst 1, 1) := by decide +kernel
theorem d_Md_finish_86 : decode c_Md_finish 86 = .ok (.iadd, 1) := by decide +kernel
theorem d_Md_finish_87 : decode c_Md_finish 87 = .ok (.aload_n 0, 1) := by decide +kernel
theorem d_Md_finish_88 : decode c_Md_finish 88 = .ok (.getfield 28, 3) := by decide +kernel
theorem d_Md_finish_91 : decode c_Md_finish 91 = .ok (.iload 6, 2) := by decide +kernel
theorem d_Md_finish_93 : decode c_Md_finish 93 = .ok (.iconst 1, 1) := by decide +kernel
theorem d_Md_finish_94 : decode c_Md_finish 94 = .ok (.iadd, 1) := by decide +kernel
theorem d_Md_finish_95 : decode c_Md_finish 95 = .ok (.laload, 1) := by decide +kernel
theorem d_Md_finish_96 : decode c_Md_finish 96 = .ok (.aload_n 0, 1) := by decide +kernel
theorem d_Md_finish_97 : decode c_Md_finish 97 = .ok (.getfield 28, 3) := by decide +kernel
theorem d_Md_finish_100 : decode c_Md_finish 100 = .ok (.iload 6, 2) := by decide +kernel
theorem d_Md_finish_102 : decode c_Md_finish 102 = .ok (.laload, 1) := by decide +kernel
theorem d_Md_finish_103 : decode c_Md_finish 103 = .ok (.bipush 26, 2) := by decide +kernel
theorem d_Md_finish_105 : decode c_Md_finish 105 = .ok (.lshr, 1) := by decide +kernel
theorem d_Md_finish_106 : decode c_Md_finish 106 = .ok (.ladd, 1) := by decide +kernel
theorem d_Md_finish_107 : decode c_Md_finish 107 = .ok (.lastore, 1) := by decide +kernel
theorem d_Md_finish_108 : decode c_Md_finish 108 = .ok (.aload_n 0, 1) := by decide +kernel
theorem d_Md_finish_109 : decode c_Md_finish 109 = .ok (.getfield 28, 3) := by decide +kernel
theorem d_Md_finish_112 : decode c_Md_finish 112 = .ok (.iload 6, 2) := by decide +kernel
theorem d_Md_finish_114 : decode c_Md_finish 114 = .ok (.aload_n 0, 1) := by decide +kernel
theorem d_Md_finish_115 : decode c_Md_finish 115 = .ok (.getfield 28, 3) := by decide +kernel
theorem d_Md_finish_118 : decode c_Md_finish 118 = .ok (.iload 6, 2) := by decide +kernel
theorem d_Md_finish_120 : decode c_Md_finish 120 = .ok (.laload, 1) := by decide +kernel
theorem d_Md_finish_121 : decode c_Md_finish 121 = .ok (.ldc2_w 113, 3) := by decide +kernel
theorem d_Md_finish_124 : decode c_Md_finish 124 = .ok (.land, 1) := by decide +kernel
theorem d_Md_finish_125 : decode c_Md_finish 125 = .ok (.lastore, 1) := by decide +kernel
theorem d_Md_finish_126 : decode c_Md_finish 126 = .ok (.iinc 6 1, 3) := by decide +kernel
theorem d_Md_finish_129 : decode c_Md_finish 129 = .ok (.goto (-56), 3) := by decide +kernel
theorem d_Md_finish_132 : decode c_Md_finish 132 = .ok (.iinc 3 1, 3) := by decide +kernel
theorem d_Md_finish_135 : decode c_Md_finish 135 = .ok (.goto (-125), 3) := by decide +kernel
theorem d_Md_finish_138 : decode c_Md_finish 138 = .ok (.ldc2_w 157, 3) := by decide +kernel
theorem d_Md_finish_141 : decode c_Md_finish 141 = .ok (.lstore_n 3, 1) := by decide +kernel
theorem d_Md_finish_142 : decode c_Md_finish 142 = .ok (.bipush 10, 2) := by decide +kernel
theorem d_Md_finish_144 : decode c_Md_finish 144 = .ok (.iload_n 1, 1) := by decide +kernel
theorem d_Md_finish_145 : decode c_Md_finish 145 = .ok (.imul, 1) := by decide +kernel
theorem d_Md_finish_146 : decode c_Md_finish 146 = .ok (.istore 5, 2) := by decide +kernel
theorem d_Md_finish_148 : decode c_Md_finish 148 = .ok (.iload 5, 2) := by decide +kernel
theorem d_Md_finish_150 : decode c_Md_finish 150 = .ok (.iload_n 2, 1) := by decide +kernel
theorem d_Md_finish_151 : decode c_Md_finish 151 = .ok (.if_icmp .ge 22, 3) := by decide +kernel
theorem d_Md_finish_154 : decode c_Md_finish 154 = .ok (.aload_n 0, 1) := by decide +kernel
theorem d_Md_finish_155 : decode c_Md_finish 155 = .ok (.getfield 28, 3) := by decide +kernel
theorem d_Md_finish_158 : decode c_Md_finish 158 = .ok (.iload 5, 2) := by decide +kernel
theorem d_Md_finish_160 : decode c_Md_finish 160 = .ok (.laload, 1) := by decide +kernel
theorem d_Md_finish_161 : decode c_Md_finish 161 = .ok (.lload_n 3, 1) := by decide +kernel
theorem d_Md_finish_162 : decode c_Md_finish 162 = .ok (.ladd, 1) := by decide +kernel
theorem d_Md_finish_163 : decode c_Md_finish 163 = .ok (.bipush 26, 2) := by decide +kernel
theorem d_Md_finish_165 : decode c_Md_finish 165 = .ok (.lshr, 1) := by decide +kernel
theorem d_Md_finish_166 : decode c_Md_finish 166 = .ok (.lstore_n 3, 1) := by decide +kernel
theorem d_Md_finish_167 : decode c_Md_finish 167 = .ok (.iinc 5 1, 3) := by decide +kernel
theorem d_Md_finish_170 : decode c_Md_finish 170 = .ok (.goto (-22), 3) := by decide +kernel
theorem d_Md_finish_173 : decode c_Md_finish 173 = .ok (.aload_n 0, 1) := by decide +kernel
theorem d_Md_finish_174 : decode c_Md_finish 174 = .ok (.getfield 28, 3) := by decide +kernel
theorem d_Md_finish_177 : decode c_Md_finish 177 = .ok (.iload_n 2, 1) := by decide +kernel
theorem d_Md_finish_178 : decode c_Md_finish 178 = .ok (.laload, 1) := by decide +kernel
theorem d_Md_finish_179 : decode c_Md_finish 179 = .ok (.lload_n 3, 1) := by decide +kernel
theorem d_Md_finish_180 : decode c_Md_finish 180 = .ok (.ladd, 1) := by decide +kernel
theorem d_Md_finish_181 : decode c_Md_finish 181 = .ok (.bipush 21, 2) := by decide +kernel
theorem d_Md_finish_183 : decode c_Md_finish 183 = .ok (.lshr, 1) := by decide +kernel
theorem d_Md_finish_184 : decode c_Md_finish 184 = .ok (.lconst 0, 1) := by decide +kernel
theorem d_Md_finish_185 : decode c_Md_finish 185 = .ok (.lcmp, 1) := by decide +kernel
theorem d_Md_finish_186 : decode c_Md_finish 186 = .ok (.ifCond .le 106, 3) := by decide +kernel
theorem d_Md_finish_189 : decode c_Md_finish 189 = .ok (.aload_n 0, 1) := by decide +kernel
theorem d_Md_finish_190 : decode c_Md_finish 190 = .ok (.getfield 28, 3) := by decide +kernel
theorem d_Md_finish_193 : decode c_Md_finish 193 = .ok (.bipush 10, 2) := by decide +kernel
theorem d_Md_finish_195 : decode c_Md_finish 195 = .ok (.iload_n 1, 1) := by decide +kernel
theorem d_Md_finish_196 : decode c_Md_finish 196 = .ok (.imul, 1) := by decide +kernel
theorem d_Md_finish_197 : decode c_Md_finish 197 = .ok (.aload_n 0, 1) := by decide +kernel
theorem d_Md_finish_198 : decode c_Md_finish 198 = .ok (.getfield 28, 3) := by decide +kernel
theorem d_Md_finish_201 : decode c_Md_finish 201 = .ok (.bipush 10, 2) := by decide +kernel
theorem d_Md_finish_203 : decode c_Md_finish 203 = .ok (.iload_n 1, 1) := by decide +kernel
theorem d_Md_finish_204 : decode c_Md_finish 204 = .ok (.imul, 1) := by decide +kernel
theorem d_Md_finish_205 : decode c_Md_finish 205 = .ok (.laload, 1) := by decide +kernel
theorem d_Md_finish_206 : decode c_Md_finish 206 = .ok (.ldc2_w 157, 3) := by decide +kernel
theorem d_Md_finish_209 : decode c_Md_finish 209 = .ok (.ladd, 1) := by decide +kernel
theorem d_Md_finish_210 : decode c_Md_finish 210 = .ok (.lastore, 1) := by decide +kernel
theorem d_Md_finish_211 : decode c_Md_finish 211 = .ok (.bipush 10, 2) := by decide +kernel
theorem d_Md_finish_213 : decode c_Md_finish 213 = .ok (.iload_n 1, 1) := by decide +kernel
theorem d_Md_finish_214 : decode c_Md_finish 214 = .ok (.imul, 1) := by decide +kernel
theorem d_Md_finish_215 : decode c_Md_finish 215 = .ok (.istore 5, 2) := by decide +kernel
theorem d_Md_finish_217 : decode c_Md_finish 217 = .ok (.iload 5, 2) := by decide +kernel
theorem d_Md_finish_219 : decode c_Md_finish 219 = .ok (.iload_n 2, 1) := by decide +kernel
theorem d_Md_finish_220 : decode c_Md_finish 220 = .ok (.if_icmp .ge 56, 3) := by decide +kernel
theorem d_Md_finish_223 : decode c_Md_finish 223 = .ok (.aload_n 0, 1) := by decide +kernel
theorem d_Md_finish_224 : decode c_Md_finish 224 = .ok (.getfield 28, 3) := by decide +kernel
theorem d_Md_finish_227 : decode c_Md_finish 227 = .ok (.iload 5, 2) := by decide +kernel
theorem d_Md_finish_229 : decode c_Md_finish 229 = .ok (.iconst 1, 1) := by decide +kernel
theorem d_Md_finish_230 : decode c_Md_finish 230 = .ok (.iadd, 1) := by decide +kernel
theorem d_Md_finish_231 : decode c_Md_finish 231 = .ok (.aload_n 0, 1) := by decide +kernel
theorem d_Md_finish_232 : decode c_Md_finish 232 = .ok (.getfield 28, 3) := by decide +kernel
theorem d_Md_finish_235 : decode c_Md_finish 235 = .ok (.iload 5, 2) := by decide +kernel
theorem d_Md_finish_237 : decode c_Md_finish 237 = .ok (.iconst 1, 1) := by decide +kernel
theorem d_Md_finish_238 : decode c_Md_finish 238 = .ok (.iadd, 1) := by decide +kernel
theorem d_Md_finish_239 : decode c_Md_finish 239 = .ok (.laload, 1) := by decide +kernel
theorem d_Md_finish_240 : decode c_Md_finish 240 = .ok (.aload_n 0, 1) := by decide +kernel
theorem d_Md_finish_241 : decode c_Md_finish 241 = .ok (.getfield 28, 3) := by decide +kernel
theorem d_Md_finish_244 : decode c_Md_finish 244 = .ok (.iload 5, 2) := by decide +kernel
theorem d_Md_finish_246 : decode c_Md_finish 246 = .ok (.laload, 1) := by decide +kernel
theorem d_Md_finish_247 : decode c_Md_finish 247 = .ok (.bipush 26, 2) := by decide +kernel
theorem d_Md_finish_249 : decode c_Md_finish 249 = .ok (.lshr, 1) := by decide +kernel
theorem d_Md_finish_250 : decode c_Md_finish 250 = .ok (.ladd, 1) := by decide +kernel
theorem d_Md_finish_251 : decode c_Md_finish 251 = .ok (.lastore, 1) := by decide +kernel
theorem d_Md_finish_252 : decode c_Md_finish 252 = .ok (.aload_n 0, 1) := by decide +kernel
theorem d_Md_finish_253 : decode c_Md_finish 253 = .ok (.getfield 28, 3) := by decide +kernel
theorem d_Md_finish_256 : decode c_Md_finish 256 = .ok (.iload 5, 2) := by decide +kernel
theorem d_Md_finish_258 : decode c_Md_finish 258 = .ok (.aload_n 0, 1) := by decide +kernel
theorem d_Md_finish_259 : decode c_Md_finish 259 = .ok (.getfield 28, 3) := by decide +kernel
theorem d_Md_finish_262 : decode c_Md_finish 262 = .ok (.iload 5, 2) := by decide +kernel
theorem d_Md_finish_264 : decode c_Md_finish 264 = .ok (.laload, 1) := by decide +kernel
theorem d_Md_finish_265 : decode c_Md_finish 265 = .ok (.ldc2_w 113, 3) := by decide +kernel
theorem d_Md_finish_268 : decode c_Md_finish 268 = .ok (.land, 1) := by decide +kernel
theorem d_Md_finish_269 : decode c_Md_finish 269 = .ok (.lastore, 1) := by decide +kernel
theorem d_Md_finish_270 : decode c_Md_finish 270 = .ok (.iinc 5 1, 3) := by decide +kernel
theorem d_Md_finish_273 : decode c_Md_finish 273 = .ok (.goto (-56), 3) := by decide +kernel
theorem d_Md_finish_276 : decode c_Md_finish 276 = .ok (.aload_n 0, 1) := by decide +kernel
theorem d_Md_finish_277 : decode c_Md_finish 277 = .ok (.getfield 28, 3) := by decide +kernel
theorem d_Md_finish_280 : decode c_Md_finish 280 = .ok (.iload_n 2, 1) := by decide +kernel
theorem d_Md_finish_281 : decode c_Md_finish 281 = .ok (.aload_n 0, 1) := by decide +kernel
theorem d_Md_finish_282 : decode c_Md_finish 282 = .ok (.getfield 28, 3) := by decide +kernel
theorem d_Md_finish_285 : decode c_Md_finish 285 = .ok (.iload_n 2, 1) := by decide +kernel
theorem d_Md_finish_286 : decode c_Md_finish 286 = .ok (.laload, 1) := by decide +kernel
theorem d_Md_finish_287 : decode c_Md_finish 287 = .ok (.ldc2_w 155, 3) := by decide +kernel
theorem d_Md_finish_290 : decode c_Md_finish 290 = .ok (.land, 1) := by decide +kernel
theorem d_Md_finish_291 : decode c_Md_finish 291 = .ok (.lastore, 1) := by decide +kernel
theorem d_Md_finish_292 : decode c_Md_finish 292 = .ok (.return_, 1) := by decide +kernel
set_option maxRecDepth 100000 in
set_option maxHeartbeats 4000000 in
/-- the one number under p -/
theorem m_Md_finish (l : Launch) (G : wG) (A : Nat → Prop) (ad : Nat → Nat) (ev : Nat → va_E) (xi : Nat) (R : Nat → Row) (tl ol cd : Nat) (h37 : ev 37 = eO 5 [.ref (ad 38), .int (nI tl), .int (nI ol), .int (nI cd), .ref (ad 39), .ref (ad 40), .ref (ad 41), .ref (ad 42), .ref (ad 43), .ref (ad 44), .ref (ad 45), .ref (ad 46), .ref (ad 47), .ref (ad 48), .ref (ad 49), .ref (ad 50)]) (h44 : ev 44 = eJ G 160 (flat R)) (hxi : xi < 16) : wM l y_Md_finish w_Md_finish ({ frames := 0, cells := 0, slots := 0, locals := 0 }) G A 52 ad ev [.ref (ad 37), .int (nI (xi))] (fun ov ev' => ov = none ∧ ev' = va_up ev 44 (eJ G 160 (flat (va_up R xi (fnT (R xi)))))) := by
  refine wv_ofW (cc := c_Md_finish) (maxL := 7) (ret := none) (by decide) rfl (Nat.le_of_ble_eq_true rfl) ?_
  intro p e s m below meth c ls hx hb hr hml hts hown hlocks hini h hl
  have hl : lv_has ls 7 [(0, .ref (ad 37)), (1, .int (nI (xi)))] := hl
  refine lv_bipush (v := nI (10)) hx hb d_Md_finish_0 (by decide) ?_
  refine lv_iload_n hx hb d_Md_finish_2 rfl (lv_at hl 1 rfl) ?_
  refine lv_imul hx hb d_Md_finish_3 ?_
  refine wv_top (w := nI (10 * xi)) (pk_mul _ _) ?_
  refine lv_bipush (v := nI (9)) hx hb d_Md_finish_4 (by decide) ?_
  refine lv_iadd hx hb d_Md_finish_6 ?_
  refine wv_top (w := nI ((10 * xi) + 9)) (nI_add _ _) ?_
  refine lv_istore_n (lv' := [(2, .int (nI ((10 * xi) + 9))), (0, .ref (ad 37)), (1, .int (nI (xi)))]) hx hb d_Md_finish_7 rfl hl (by decide) rfl (fun ls hl => ?_)
  refine lv_iconst (v := nI (0)) hx hb d_Md_finish_8 (by decide) ?_
  refine lv_istore_n (lv' := [(3, .int (nI (0))), (2, .int (nI ((10 * xi) + 9))), (0, .ref (ad 37)), (1, .int (nI (xi)))]) hx hb d_Md_finish_9 rfl hl (by decide) rfl (fun ls hl => ?_)
  have loop1 : ∀ (d m0 : Nat), m0 + d = 3 →  ∀ (ev1 : Nat → va_E) (H : Heap) (locs : List Loc) (ls : Array Slot), ev1 = (va_up ev 44 (eJ G 160 (flat (va_up R xi (fn3 (R xi) m0))))) → wT G A 52 ad ev1 s H locs → lv_has ls 7 [(3, .int (nI (m0))), (2, .int (nI (10 * xi + 9))), (0, .ref (ad 37)), (1, .int (nI (xi)))] → W p l e ({ frames := 0, cells := 0, slots := 0, locals := 0 }) s m ([.ref (ad 37), .int (nI (xi))] : List Value).toArray below meth c H locs 0 0 (MQ below (wQc G A 52 ad (fun ov ev' => ov = none ∧ ev' = va_up ev 44 (eJ G 160 (flat (va_up R xi (fnT (R xi))))))) ([.ref (ad 37), .int (nI (xi))] : List Value).toArray s 0 0 A) (F0 m 10 ls []) := by
    intro d
    induction d with
    | zero =>
      intro m0 hk_m0  ev1 H locs ls  o1 h hl
      have t1_44 : ev1 44 = eJ G 160 (flat (va_up R xi (fn3 (R xi) m0))) := by rw [o1, va_up_self]
      have t1_37 := (show ev1 37 = ev 37 by rw [o1, va_up_ne _ _ (by decide)]).trans h37
      refine lv_iload_n hx hb d_Md_finish_10 rfl (lv_at hl 0 rfl) ?_
      refine lv_iconst (v := nI (3)) hx hb d_Md_finish_11 (by decide) ?_
      refine lv_icmp_ge (tgt := 138) hx hb d_Md_finish_12 (by decide) (fun _ => ?_) (fun hc => absurd ((nI_leI (by omega) (by omega)).mpr (by omega)) hc)
      rw [show m0 = 3 by omega] at t1_44
      obtain ⟨g, hg⟩ : ∃ g, g = fn3 (R xi) 3 := ⟨_, rfl⟩
      rw [← hg] at t1_44
      refine lv_ldc2 (v := 19) hx hb hown (hts _ (List.mem_cons_of_mem _ ko_Md_157)) d_Md_finish_138 ?_
      refine lv_lstore_n (lv' := [(3, .long (19)), (2, .int (nI (10 * xi + 9))), (0, .ref (ad 37)), (1, .int (nI (xi)))]) hx hb d_Md_finish_141 rfl hl (by decide) rfl (fun ls hl => ?_)
      refine lv_bipush (v := nI (10)) hx hb d_Md_finish_142 (by decide) ?_
      refine lv_iload_n hx hb d_Md_finish_144 rfl (lv_at hl 3 rfl) ?_
      refine lv_imul hx hb d_Md_finish_145 ?_
      refine wv_top (w := nI (10 * xi)) (pk_mul _ _) ?_
      refine lv_istore (lv' := [(5, .int (nI (10 * xi))), (3, .long (19)), (2, .int (nI (10 * xi + 9))), (0, .ref (ad 37)), (1, .int (nI (xi)))]) hx hb d_Md_finish_146 hl (by decide) rfl (fun ls hl => ?_)
      have loopo : ∀ (d k : Nat), k + d = 9 → ∀ (ls : Array Slot), lv_has ls 7 [(5, .int (nI (10 * xi + k))), (3, .long (ovF g k)), (2, .int (nI (10 * xi + 9))), (0, .ref (ad 37)), (1, .int (nI (xi)))] → W p l e ({ frames := 0, cells := 0, slots := 0, locals := 0 }) s m ([.ref (ad 37), .int (nI (xi))] : List Value).toArray below meth c H locs 0 0 (MQ below (wQc G A 52 ad (fun ov ev' => ov = none ∧ ev' = va_up ev 44 (eJ G 160 (flat (va_up R xi (fnT (R xi))))))) ([.ref (ad 37), .int (nI (xi))] : List Value).toArray s 0 0 A) (F0 m 148 ls []) := by
        intro d2
        induction d2 with
        | zero =>
          intro k hk ls hl
          refine lv_iload hx hb d_Md_finish_148 (lv_at hl 0 rfl) ?_
          refine lv_iload_n hx hb d_Md_finish_150 rfl (lv_at hl 2 rfl) ?_
          refine lv_icmp_ge (tgt := 173) hx hb d_Md_finish_151 (by decide) (fun _ => ?_) (fun hc => absurd ((nI_leI (by omega) (by omega)).mpr (by omega)) hc)
          rw [show k = 9 by omega] at hl
          refine lv_aload_n hx hb d_Md_finish_173 rfl (lv_at hl 3 rfl) ?_
          refine wv_getf hx hb h 37 (by decide) (fs := [.ref (ad 38), .int (nI (tl)), .int (nI (ol)), .int (nI (cd)), .ref (ad 39), .ref (ad 40), .ref (ad 41), .ref (ad 42), .ref (ad 43), .ref (ad 44), .ref (ad 45), .ref (ad 46), .ref (ad 47), .ref (ad 48), .ref (ad 49), .ref (ad 50)]) t1_37 hts (fun w hw => List.mem_cons_of_mem _ (fW_Md w hw)) hown (ci := 5) (C := "NonceBoxModel") (T := fT_Md) (N := 16) rfl 9 (by decide) (hts _ (List.mem_cons_of_mem _ kf_Md_28)) rfl (v := .ref (ad 44)) rfl d_Md_finish_174 ?_
          refine lv_iload_n hx hb d_Md_finish_177 rfl (lv_at hl 2 rfl) ?_
          refine wv_lald hx hb h 44 (by decide) (f := (flat (va_up R xi g))) t1_44 (k := 10 * xi + 9) rfl (by omega) (by decide) d_Md_finish_178 ?_
          refine wv_topl (w := g 9) (by rw [flat_at _ xi (by decide), va_up_self]) ?_
          refine lv_lload_n hx hb d_Md_finish_179 rfl (lv_at hl 1 rfl) ?_
          refine lv_ladd hx hb d_Md_finish_180 ?_
          refine lv_bipush (v := nI (21)) hx hb d_Md_finish_181 (by decide) ?_
          refine lv_lshr (v := sar ((g 9) + (ovF g 9)) 21) hx hb d_Md_finish_183 rfl ?_
          refine lv_topl (fun tv etv => ?_)
          refine lv_lconst (v := 0) hx hb d_Md_finish_184 (by decide) ?_
          refine W.lcmp hx hb d_Md_finish_185 ?_
          by_cases hc : 0 < tv.toInt
          · have e1 : lg_cmp tv 0 = 1 := by
              unfold lg_cmp
              have h1 : (0 : Int64) < tv := Int64.lt_iff_toInt_lt.mpr hc
              simp [h1, lg_lt_not h1, lg_lt_ne h1, Ne.symm (lg_lt_ne h1)]
            rw [e1]
            refine lv_if_le (tgt := 292) hx hb d_Md_finish_186 (by decide) (fun hc2 => absurd hc2 (by decide)) (fun _ => ?_)
            refine lv_aload_n hx hb d_Md_finish_189 rfl (lv_at hl 3 rfl) ?_
            refine wv_getf hx hb h 37 (by decide) (fs := [.ref (ad 38), .int (nI (tl)), .int (nI (ol)), .int (nI (cd)), .ref (ad 39), .ref (ad 40), .ref (ad 41), .ref (ad 42), .ref (ad 43), .ref (ad 44), .ref (ad 45), .ref (ad 46), .ref (ad 47), .ref (ad 48), .ref (ad 49), .ref (ad 50)]) t1_37 hts (fun w hw => List.mem_cons_of_mem _ (fW_Md w hw)) hown (ci := 5) (C := "NonceBoxModel") (T := fT_Md) (N := 16) rfl 9 (by decide) (hts _ (List.mem_cons_of_mem _ kf_Md_28)) rfl (v := .ref (ad 44)) rfl d_Md_finish_190 ?_
            refine lv_bipush (v := nI (10)) hx hb d_Md_finish_193 (by decide) ?_
            refine lv_iload_n hx hb d_Md_finish_195 rfl (lv_at hl 4 rfl) ?_
            refine lv_imul hx hb d_Md_finish_196 ?_
            refine wv_top (w := nI (10 * xi)) (pk_mul _ _) ?_
            refine lv_aload_n hx hb d_Md_finish_197 rfl (lv_at hl 3 rfl) ?_
            refine wv_getf hx hb h 37 (by decide) (fs := [.ref (ad 38), .int (nI (tl)), .int (nI (ol)), .int (nI (cd)), .ref (ad 39), .ref (ad 40), .ref (ad 41), .ref (ad 42), .ref (ad 43), .ref (ad 44), .ref (ad 45), .ref (ad 46), .ref (ad 47), .ref (ad 48), .ref (ad 49), .ref (ad 50)]) t1_37 hts (fun w hw => List.mem_cons_of_mem _ (fW_Md w hw)) hown (ci := 5) (C := "NonceBoxModel") (T := fT_Md) (N := 16) rfl 9 (by decide) (hts _ (List.mem_cons_of_mem _ kf_Md_28)) rfl (v := .ref (ad 44)) rfl d_Md_finish_198 ?_
            refine lv_bipush (v := nI (10)) hx hb d_Md_finish_201 (by decide) ?_
            refine lv_iload_n hx hb d_Md_finish_203 rfl (lv_at hl 4 rfl) ?_
            refine lv_imul hx hb d_Md_finish_204 ?_
            refine wv_top (w := nI (10 * xi)) (pk_mul _ _) ?_
            refine wv_lald hx hb h 44 (by decide) (f := (flat (va_up R xi g))) t1_44 (k := 10 * xi) rfl (by omega) (by decide) d_Md_finish_205 ?_
            refine wv_topl (w := g 0) (by rw [flat_0, va_up_self]) ?_
            refine lv_ldc2 (v := 19) hx hb hown (hts _ (List.mem_cons_of_mem _ ko_Md_157)) d_Md_finish_206 ?_
            refine lv_ladd hx hb d_Md_finish_209 ?_
            refine wv_last hx hb h 44 (by decide) (f := (flat (va_up R xi g))) t1_44 (k := 10 * xi) rfl (by omega) (by decide) d_Md_finish_210 (fun H locs h => ?_)
            obtain ⟨ev2, o2⟩ : ∃ z, z = va_up ev1 44 (eJ G 160 (va_up ((flat (va_up R xi g))) (10 * xi) ((g 0) + 19))) := ⟨_, rfl⟩
            rw [← o2] at h
            have t2_44 : ev2 44 = eJ G 160 (va_up ((flat (va_up R xi g))) (10 * xi) ((g 0) + 19)) := by rw [o2, va_up_self]
            have t2_37 := (show ev2 37 = ev1 37 by rw [o2, va_up_ne _ _ (by decide)]).trans t1_37
            rw [flat_up0, va_up_self, va_up2] at o2
            have q44 : ev2 44 = eJ G 160 (flat (va_up R xi (va_up g 0 (g 0 + 19)))) := by rw [o2, va_up_self]
            refine lv_bipush (v := nI (10)) hx hb d_Md_finish_211 (by decide) ?_
            refine lv_iload_n hx hb d_Md_finish_213 rfl (lv_at hl 4 rfl) ?_
            refine lv_imul hx hb d_Md_finish_214 ?_
            refine wv_top (w := nI (10 * xi)) (pk_mul _ _) ?_
            refine lv_istore (lv' := [(5, .int (nI (10 * xi))), (3, .long (ovF g 9)), (2, .int (nI (10 * xi + 9))), (0, .ref (ad 37)), (1, .int (nI (xi)))]) hx hb d_Md_finish_215 hl (by decide) rfl (fun ls hl => ?_)
            have loop3 : ∀ (d j : Nat), j + d = 9 →  ∀ (ev3 : Nat → va_E) (H : Heap) (locs : List Loc) (ls : Array Slot), ev3 = (va_up ev2 44 (eJ G 160 (flat (va_up R xi (cry (va_up g 0 (g 0 + 19)) j))))) → wT G A 52 ad ev3 s H locs → lv_has ls 7 [(5, .int (nI (10 * xi + j))), (2, .int (nI (10 * xi + 9))), (0, .ref (ad 37)), (1, .int (nI (xi)))] → W p l e ({ frames := 0, cells := 0, slots := 0, locals := 0 }) s m ([.ref (ad 37), .int (nI (xi))] : List Value).toArray below meth c H locs 0 0 (MQ below (wQc G A 52 ad (fun ov ev' => ov = none ∧ ev' = va_up ev 44 (eJ G 160 (flat (va_up R xi (fnT (R xi))))))) ([.ref (ad 37), .int (nI (xi))] : List Value).toArray s 0 0 A) (F0 m 217 ls []) := by
              intro d
              induction d with
              | zero =>
                intro j hk_j  ev3 H locs ls  o3 h hl
                have t3_44 : ev3 44 = eJ G 160 (flat (va_up R xi (cry (va_up g 0 (g 0 + 19)) j))) := by rw [o3, va_up_self]
                have t3_37 := (show ev3 37 = ev2 37 by rw [o3, va_up_ne _ _ (by decide)]).trans t2_37
                refine lv_iload hx hb d_Md_finish_217 (lv_at hl 0 rfl) ?_
                refine lv_iload_n hx hb d_Md_finish_219 rfl (lv_at hl 1 rfl) ?_
                refine lv_icmp_ge (tgt := 276) hx hb d_Md_finish_220 (by decide) (fun _ => ?_) (fun hc => absurd ((nI_leI (by omega) (by omega)).mpr (by omega)) hc)
                rw [show j = 9 by omega] at t3_44
                refine lv_aload_n hx hb d_Md_finish_276 rfl (lv_at hl 2 rfl) ?_
                refine wv_getf hx hb h 37 (by decide) (fs := [.ref (ad 38), .int (nI (tl)), .int (nI (ol)), .int (nI (cd)), .ref (ad 39), .ref (ad 40), .ref (ad 41), .ref (ad 42), .ref (ad 43), .ref (ad 44), .ref (ad 45), .ref (ad 46), .ref (ad 47), .ref (ad 48), .ref (ad 49), .ref (ad 50)]) t3_37 hts (fun w hw => List.mem_cons_of_mem _ (fW_Md w hw)) hown (ci := 5) (C := "NonceBoxModel") (T := fT_Md) (N := 16) rfl 9 (by decide) (hts _ (List.mem_cons_of_mem _ kf_Md_28)) rfl (v := .ref (ad 44)) rfl d_Md_finish_277 ?_
                refine lv_iload_n hx hb d_Md_finish_280 rfl (lv_at hl 1 rfl) ?_
                refine lv_aload_n hx hb d_Md_finish_281 rfl (lv_at hl 2 rfl) ?_
                refine wv_getf hx hb h 37 (by decide) (fs := [.ref (ad 38), .int (nI (tl)), .int (nI (ol)), .int (nI (cd)), .ref (ad 39), .ref (ad 40), .ref (ad 41), .ref (ad 42), .ref (ad 43), .ref (ad 44), .ref (ad 45), .ref (ad 46), .ref (ad 47), .ref (ad 48), .ref (ad 49), .ref (ad 50)]) t3_37 hts (fun w hw => List.mem_cons_of_mem _ (fW_Md w hw)) hown (ci := 5) (C := "NonceBoxModel") (T := fT_Md) (N := 16) rfl 9 (by decide) (hts _ (List.mem_cons_of_mem _ kf_Md_28)) rfl (v := .ref (ad 44)) rfl d_Md_finish_282 ?_
                refine lv_iload_n hx hb d_Md_finish_285 rfl (lv_at hl 1 rfl) ?_
                refine wv_lald hx hb h 44 (by decide) (f := (flat (va_up R xi (cry (va_up g 0 (g 0 + 19)) 9)))) t3_44 (k := 10 * xi + 9) rfl (by omega) (by decide) d_Md_finish_286 ?_
                refine wv_topl (w := cry (va_up g 0 (g 0 + 19)) 9 9) (by rw [flat_at _ xi (by decide), va_up_self]) ?_
                refine lv_ldc2 (v := 2097151) hx hb hown (hts _ (List.mem_cons_of_mem _ ko_Md_155)) d_Md_finish_287 ?_
                refine lv_land hx hb d_Md_finish_290 ?_
                refine wv_last hx hb h 44 (by decide) (f := (flat (va_up R xi (cry (va_up g 0 (g 0 + 19)) 9)))) t3_44 (k := 10 * xi + 9) rfl (by omega) (by decide) d_Md_finish_291 (fun H locs h => ?_)
                obtain ⟨ev4, o4⟩ : ∃ z, z = va_up ev3 44 (eJ G 160 (va_up ((flat (va_up R xi (cry (va_up g 0 (g 0 + 19)) 9)))) (10 * xi + 9) ((cry (va_up g 0 (g 0 + 19)) 9 9) &&& 2097151))) := ⟨_, rfl⟩
                rw [← o4] at h
                have t4_44 : ev4 44 = eJ G 160 (va_up ((flat (va_up R xi (cry (va_up g 0 (g 0 + 19)) 9)))) (10 * xi + 9) ((cry (va_up g 0 (g 0 + 19)) 9 9) &&& 2097151)) := by rw [o4, va_up_self]
                have t4_37 := (show ev4 37 = ev3 37 by rw [o4, va_up_ne _ _ (by decide)]).trans t3_37
                rw [flat_up _ xi (by decide), va_up_self, va_up2] at o4
                refine wv_vret hx hb hr hlocks h d_Md_finish_292 ⟨rfl, ?_⟩
                have eF : fnT (R xi) = va_up (cry (va_up g 0 (g 0 + 19)) 9) 9 (cry (va_up g 0 (g 0 + 19)) 9 9 &&& 2097151) := by
                  unfold fnT
                  rw [← hg, ← etv, if_pos hc]
                  rfl
                rw [eF, o4, o3, o2, o1, va_up2, va_up2, va_up2]
              | succ d ih3 =>
                intro j hk_j  ev3 H locs ls  o3 h hl
                have t3_44 : ev3 44 = eJ G 160 (flat (va_up R xi (cry (va_up g 0 (g 0 + 19)) j))) := by rw [o3, va_up_self]
                have t3_37 := (show ev3 37 = ev2 37 by rw [o3, va_up_ne _ _ (by decide)]).trans t2_37
                refine lv_iload hx hb d_Md_finish_217 (lv_at hl 0 rfl) ?_
                refine lv_iload_n hx hb d_Md_finish_219 rfl (lv_at hl 1 rfl) ?_
                refine lv_icmp_ge (tgt := 276) hx hb d_Md_finish_220 (by decide) (fun hc => absurd ((nI_leI (by omega) (by omega)).mp hc) (by omega)) (fun _ => ?_)
                refine lv_aload_n hx hb d_Md_finish_223 rfl (lv_at hl 2 rfl) ?_
                refine wv_getf hx hb h 37 (by decide) (fs := [.ref (ad 38), .int (nI (tl)), .int (nI (ol)), .int (nI (cd)), .ref (ad 39), .ref (ad 40), .ref (ad 41), .ref (ad 42), .ref (ad 43), .ref (ad 44), .ref (ad 45), .ref (ad 46), .ref (ad 47), .ref (ad 48), .ref (ad 49), .ref (ad 50)]) t3_37 hts (fun w hw => List.mem_cons_of_mem _ (fW_Md w hw)) hown (ci := 5) (C := "NonceBoxModel") (T := fT_Md) (N := 16) rfl 9 (by decide) (hts _ (List.mem_cons_of_mem _ kf_Md_28)) rfl (v := .ref (ad 44)) rfl d_Md_finish_224 ?_
                refine lv_iload hx hb d_Md_finish_227 (lv_at hl 0 rfl) ?_
                refine lv_iconst (v := nI (1)) hx hb d_Md_finish_229 (by decide) ?_
                refine lv_iadd hx hb d_Md_finish_230 ?_
                refine wv_top (w := nI ((10 * xi + j) + 1)) (nI_add _ _) ?_
                refine lv_aload_n hx hb d_Md_finish_231 rfl (lv_at hl 2 rfl) ?_
                refine wv_getf hx hb h 37 (by decide) (fs := [.ref (ad 38), .int (nI (tl)), .int (nI (ol)), .int (nI (cd)), .ref (ad 39), .ref (ad 40), .ref (ad 41), .ref (ad 42), .ref (ad 43), .ref (ad 44), .ref (ad 45), .ref (ad 46), .ref (ad 47), .ref (ad 48), .ref (ad 49), .ref (ad 50)]) t3_37 hts (fun w hw => List.mem_cons_of_mem _ (fW_Md w hw)) hown (ci := 5) (C := "NonceBoxModel") (T := fT_Md) (N := 16) rfl 9 (by decide) (hts _ (List.mem_cons_of_mem _ kf_Md_28)) rfl (v := .ref (ad 44)) rfl d_Md_finish_232 ?_
                refine lv_iload hx hb d_Md_finish_235 (lv_at hl 0 rfl) ?_
                refine lv_iconst (v := nI (1)) hx hb d_Md_finish_237 (by decide) ?_
                refine lv_iadd hx hb d_Md_finish_238 ?_
                refine wv_top (w := nI ((10 * xi + j) + 1)) (nI_add _ _) ?_
                refine wv_lald hx hb h 44 (by decide) (f := (flat (va_up R xi (cry (va_up g 0 (g 0 + 19)) j)))) t3_44 (k := (10 * xi + j) + 1) rfl (by omega) (by decide) d_Md_finish_239 ?_
                refine wv_topl (w := (cry (va_up g 0 (g 0 + 19)) j) (j + 1)) (by rw [show 10 * xi + j + 1 = 10 * xi + (j + 1) from rfl, flat_at _ xi (by omega), va_up_self]) ?_
                refine lv_aload_n hx hb d_Md_finish_240 rfl (lv_at hl 2 rfl) ?_
                refine wv_getf hx hb h 37 (by decide) (fs := [.ref (ad 38), .int (nI (tl)), .int (nI (ol)), .int (nI (cd)), .ref (ad 39), .ref (ad 40), .ref (ad 41), .ref (ad 42), .ref (ad 43), .ref (ad 44), .ref (ad 45), .ref (ad 46), .ref (ad 47), .ref (ad 48), .ref (ad 49), .ref (ad 50)]) t3_37 hts (fun w hw => List.mem_cons_of_mem _ (fW_Md w hw)) hown (ci := 5) (C := "NonceBoxModel") (T := fT_Md) (N := 16) rfl 9 (by decide) (hts _ (List.mem_cons_of_mem _ kf_Md_28)) rfl (v := .ref (ad 44)) rfl d_Md_finish_241 ?_
                refine lv_iload hx hb d_Md_finish_244 (lv_at hl 0 rfl) ?_
                refine wv_lald hx hb h 44 (by decide) (f := (flat (va_up R xi (cry (va_up g 0 (g 0 + 19)) j)))) t3_44 (k := 10 * xi + j) rfl (by omega) (by decide) d_Md_finish_246 ?_
                refine wv_topl (w := (cry (va_up g 0 (g 0 + 19)) j) j) (by rw [flat_at _ xi (by omega), va_up_self]) ?_
                refine lv_bipush (v := nI (26)) hx hb d_Md_finish_247 (by decide) ?_
                refine lv_lshr (v := sar ((cry (va_up g 0 (g 0 + 19)) j) j) 26) hx hb d_Md_finish_249 rfl ?_
                refine lv_ladd hx hb d_Md_finish_250 ?_
                refine wv_last hx hb h 44 (by decide) (f := (flat (va_up R xi (cry (va_up g 0 (g 0 + 19)) j)))) t3_44 (k := (10 * xi + j) + 1) rfl (by omega) (by decide) d_Md_finish_251 (fun H locs h => ?_)
                obtain ⟨ev4, o4⟩ : ∃ z, z = va_up ev3 44 (eJ G 160 (va_up ((flat (va_up R xi (cry (va_up g 0 (g 0 + 19)) j)))) ((10 * xi + j) + 1) (((cry (va_up g 0 (g 0 + 19)) j) (j + 1)) + (sar ((cry (va_up g 0 (g 0 + 19)) j) j) 26)))) := ⟨_, rfl⟩
                rw [← o4] at h
                have t4_44 : ev4 44 = eJ G 160 (va_up ((flat (va_up R xi (cry (va_up g 0 (g 0 + 19)) j)))) ((10 * xi + j) + 1) (((cry (va_up g 0 (g 0 + 19)) j) (j + 1)) + (sar ((cry (va_up g 0 (g 0 + 19)) j) j) 26))) := by rw [o4, va_up_self]
                have t4_37 := (show ev4 37 = ev3 37 by rw [o4, va_up_ne _ _ (by decide)]).trans t3_37
                rw [show 10 * xi + j + 1 = 10 * xi + (j + 1) from rfl, flat_up _ xi (by omega), va_up_self, va_up2] at o4
                have q4_44 : ev4 44 = eJ G 160 (flat (va_up R xi (va_up (cry (va_up g 0 (g 0 + 19)) j) (j + 1) ((cry (va_up g 0 (g 0 + 19)) j) (j + 1) + sar ((cry (va_up g 0 (g 0 + 19)) j) j) 26)))) := by rw [o4, va_up_self]
                refine lv_aload_n hx hb d_Md_finish_252 rfl (lv_at hl 2 rfl) ?_
                refine wv_getf hx hb h 37 (by decide) (fs := [.ref (ad 38), .int (nI (tl)), .int (nI (ol)), .int (nI (cd)), .ref (ad 39), .ref (ad 40), .ref (ad 41), .ref (ad 42), .ref (ad 43), .ref (ad 44), .ref (ad 45), .ref (ad 46), .ref (ad 47), .ref (ad 48), .ref (ad 49), .ref (ad 50)]) t4_37 hts (fun w hw => List.mem_cons_of_mem _ (fW_Md w hw)) hown (ci := 5) (C := "NonceBoxModel") (T := fT_Md) (N := 16) rfl 9 (by decide) (hts _ (List.mem_cons_of_mem _ kf_Md_28)) rfl (v := .ref (ad 44)) rfl d_Md_finish_253 ?_
                refine lv_iload hx hb d_Md_finish_256 (lv_at hl 0 rfl) ?_
                refine lv_aload_n hx hb d_Md_finish_258 rfl (lv_at hl 2 rfl) ?_
                refine wv_getf hx hb h 37 (by decide) (fs := [.ref (ad 38), .int (nI (tl)), .int (nI (ol)), .int (nI (cd)), .ref (ad 39), .ref (ad 40), .ref (ad 41), .ref (ad 42), .ref (ad 43), .ref (ad 44), .ref (ad 45), .ref (ad 46), .ref (ad 47), .ref (ad 48), .ref (ad 49), .ref (ad 50)]) t4_37 hts (fun w hw => List.mem_cons_of_mem _ (fW_Md w hw)) hown (ci := 5) (C := "NonceBoxModel") (T := fT_Md) (N := 16) rfl 9 (by decide) (hts _ (List.mem_cons_of_mem _ kf_Md_28)) rfl (v := .ref (ad 44)) rfl d_Md_finish_259 ?_
                refine lv_iload hx hb d_Md_finish_262 (lv_at hl 0 rfl) ?_
                refine wv_lald hx hb h 44 (by decide) (f := (flat (va_up R xi (va_up (cry (va_up g 0 (g 0 + 19)) j) (j + 1) ((cry (va_up g 0 (g 0 + 19)) j) (j + 1) + sar ((cry (va_up g 0 (g 0 + 19)) j) j) 26))))) q4_44 (k := 10 * xi + j) rfl (by omega) (by decide) d_Md_finish_264 ?_
                refine wv_topl (w := (va_up (cry (va_up g 0 (g 0 + 19)) j) (j + 1) ((cry (va_up g 0 (g 0 + 19)) j) (j + 1) + sar ((cry (va_up g 0 (g 0 + 19)) j) j) 26)) j) (by rw [flat_at _ xi (by omega), va_up_self]) ?_
                refine lv_ldc2 (v := 67108863) hx hb hown (hts _ (List.mem_cons_of_mem _ ko_Md_113)) d_Md_finish_265 ?_
                refine lv_land hx hb d_Md_finish_268 ?_
                refine wv_last hx hb h 44 (by decide) (f := (flat (va_up R xi (va_up (cry (va_up g 0 (g 0 + 19)) j) (j + 1) ((cry (va_up g 0 (g 0 + 19)) j) (j + 1) + sar ((cry (va_up g 0 (g 0 + 19)) j) j) 26))))) q4_44 (k := 10 * xi + j) rfl (by omega) (by decide) d_Md_finish_269 (fun H locs h => ?_)
                obtain ⟨ev5, o5⟩ : ∃ z, z = va_up ev4 44 (eJ G 160 (va_up ((flat (va_up R xi (va_up (cry (va_up g 0 (g 0 + 19)) j) (j + 1) ((cry (va_up g 0 (g 0 + 19)) j) (j + 1) + sar ((cry (va_up g 0 (g 0 + 19)) j) j) 26))))) (10 * xi + j) (((va_up (cry (va_up g 0 (g 0 + 19)) j) (j + 1) ((cry (va_up g 0 (g 0 + 19)) j) (j + 1) + sar ((cry (va_up g 0 (g 0 + 19)) j) j) 26)) j) &&& 67108863))) := ⟨_, rfl⟩
                rw [← o5] at h
                have t5_44 : ev5 44 = eJ G 160 (va_up ((flat (va_up R xi (va_up (cry (va_up g 0 (g 0 + 19)) j) (j + 1) ((cry (va_up g 0 (g 0 + 19)) j) (j + 1) + sar ((cry (va_up g 0 (g 0 + 19)) j) j) 26))))) (10 * xi + j) (((va_up (cry (va_up g 0 (g 0 + 19)) j) (j + 1) ((cry (va_up g 0 (g 0 + 19)) j) (j + 1) + sar ((cry (va_up g 0 (g 0 + 19)) j) j) 26)) j) &&& 67108863)) := by rw [o5, va_up_self]
                have t5_37 := (show ev5 37 = ev4 37 by rw [o5, va_up_ne _ _ (by decide)]).trans t4_37
                rw [flat_up _ xi (by omega), va_up_self, va_up2] at o5
                refine lv_iinc (v := nI ((10 * xi + j) + 1)) (lv' := [(5, .int (nI ((10 * xi + j) + 1))), (2, .int (nI (10 * xi + 9))), (0, .ref (ad 37)), (1, .int (nI (xi)))]) hx hb d_Md_finish_270 hl (k := 0) rfl (nI_add _ _) (by decide) rfl (fun ls hl => ?_)
                refine lv_goto (tgt := 217) hx hb d_Md_finish_273 (by decide) ?_
                refine ih3 (j + 1) (by omega) ev5 H locs ls ?_ h (lv_sub hl [0, 1, 2, 3] rfl)
                rw [o5, o4, o3, va_up2, va_up2]
                rfl
            exact loop3 9 0 rfl ev2 H locs ls (va_upi _ _ q44).symm h (lv_sub hl [0, 2, 3, 4] rfl)
          · have e1 : ¬ 0 < lg_cmp tv 0 := by
              unfold lg_cmp
              have h1 : ¬ (0 : Int64) < tv := fun q => hc (Int64.lt_iff_toInt_lt.mp q)
              by_cases h3 : tv = 0
              · rw [if_neg h1, if_pos h3]; decide
              · rw [if_neg h1, if_neg h3]; decide
            have e2 : lg_cmp tv 0 ≤ 0 := by
              rw [Int32.le_iff_toInt_le]
              rw [Int32.lt_iff_toInt_lt] at e1
              omega
            refine lv_if_le (tgt := 292) hx hb d_Md_finish_186 (by decide) (fun _ => ?_) (fun hc2 => absurd e2 hc2)
            refine wv_vret hx hb hr hlocks h d_Md_finish_292 ⟨rfl, ?_⟩
            have eF : fnT (R xi) = fn3 (R xi) 3 := by
              unfold fnT
              rw [← hg, ← etv, if_neg hc]
            rw [eF, o1, show m0 = 3 by omega]
        | succ d2 ih2 =>
          intro k hk ls hl
          refine lv_iload hx hb d_Md_finish_148 (lv_at hl 0 rfl) ?_
          refine lv_iload_n hx hb d_Md_finish_150 rfl (lv_at hl 2 rfl) ?_
          refine lv_icmp_ge (tgt := 173) hx hb d_Md_finish_151 (by decide) (fun hc => absurd ((nI_leI (by omega) (by omega)).mp hc) (by omega)) (fun _ => ?_)
          refine lv_aload_n hx hb d_Md_finish_154 rfl (lv_at hl 3 rfl) ?_
          refine wv_getf hx hb h 37 (by decide) (fs := [.ref (ad 38), .int (nI (tl)), .int (nI (ol)), .int (nI (cd)), .ref (ad 39), .ref (ad 40), .ref (ad 41), .ref (ad 42), .ref (ad 43), .ref (ad 44), .ref (ad 45), .ref (ad 46), .ref (ad 47), .ref (ad 48), .ref (ad 49), .ref (ad 50)]) t1_37 hts (fun w hw => List.mem_cons_of_mem _ (fW_Md w hw)) hown (ci := 5) (C := "NonceBoxModel") (T := fT_Md) (N := 16) rfl 9 (by decide) (hts _ (List.mem_cons_of_mem _ kf_Md_28)) rfl (v := .ref (ad 44)) rfl d_Md_finish_155 ?_
          refine lv_iload hx hb d_Md_finish_158 (lv_at hl 0 rfl) ?_
          refine wv_lald hx hb h 44 (by decide) (f := (flat (va_up R xi g))) t1_44 (k := 10 * xi + k) rfl (by omega) (by decide) d_Md_finish_160 ?_
          refine wv_topl (w := g k) (by rw [flat_at _ xi (by omega), va_up_self]) ?_
          refine lv_lload_n hx hb d_Md_finish_161 rfl (lv_at hl 1 rfl) ?_
          refine lv_ladd hx hb d_Md_finish_162 ?_
          refine lv_bipush (v := nI (26)) hx hb d_Md_finish_163 (by decide) ?_
          refine lv_lshr (v := sar ((g k) + (ovF g k)) 26) hx hb d_Md_finish_165 rfl ?_
          refine wv_topl (w := ovF g (k + 1)) rfl ?_
          refine lv_lstore_n (lv' := [(3, .long (ovF g (k + 1))), (5, .int (nI (10 * xi + k))), (2, .int (nI (10 * xi + 9))), (0, .ref (ad 37)), (1, .int (nI (xi)))]) hx hb d_Md_finish_166 rfl hl (by decide) rfl (fun ls hl => ?_)
          refine lv_iinc (v := nI ((10 * xi + k) + 1)) (lv' := [(5, .int (nI ((10 * xi + k) + 1))), (3, .long (ovF g (k + 1))), (2, .int (nI (10 * xi + 9))), (0, .ref (ad 37)), (1, .int (nI (xi)))]) hx hb d_Md_finish_167 hl (k := 1) rfl (nI_add _ _) (by decide) rfl (fun ls hl => ?_)
          refine lv_goto (tgt := 148) hx hb d_Md_finish_170 (by decide) ?_
          exact ih2 (k + 1) (by omega) ls (lv_sub hl [0, 1, 2, 3, 4] rfl)
      exact loopo 9 0 rfl ls (lv_sub hl [0, 1, 2, 3, 4] rfl)
    | succ d ih =>
      intro m0 hk_m0  ev1 H locs ls  o1 h hl
      have t1_44 : ev1 44 = eJ G 160 (flat (va_up R xi (fn3 (R xi) m0))) := by rw [o1, va_up_self]
      have t1_37 := (show ev1 37 = ev 37 by rw [o1, va_up_ne _ _ (by decide)]).trans h37
      refine lv_iload_n hx hb d_Md_finish_10 rfl (lv_at hl 0 rfl) ?_
      refine lv_iconst (v := nI (3)) hx hb d_Md_finish_11 (by decide) ?_
      refine lv_icmp_ge (tgt := 138) hx hb d_Md_finish_12 (by decide) (fun hc => absurd ((nI_leI (by omega) (by omega)).mp hc) (by omega)) (fun _ => ?_)
      refine lv_aload_n hx hb d_Md_finish_15 rfl (lv_at hl 2 rfl) ?_
      refine wv_getf hx hb h 37 (by decide) (fs := [.ref (ad 38), .int (nI (tl)), .int (nI (ol)), .int (nI (cd)), .ref (ad 39), .ref (ad 40), .ref (ad 41), .ref (ad 42), .ref (ad 43), .ref (ad 44), .ref (ad 45), .ref (ad 46), .ref (ad 47), .ref (ad 48), .ref (ad 49), .ref (ad 50)]) t1_37 hts (fun w hw => List.mem_cons_of_mem _ (fW_Md w hw)) hown (ci := 5) (C := "NonceBoxModel") (T := fT_Md) (N := 16) rfl 9 (by decide) (hts _ (List.mem_cons_of_mem _ kf_Md_28)) rfl (v := .ref (ad 44)) rfl d_Md_finish_16 ?_
      refine lv_iload_n hx hb d_Md_finish_19 rfl (lv_at hl 1 rfl) ?_
      refine wv_lald hx hb h 44 (by decide) (f := (flat (va_up R xi (fn3 (R xi) m0)))) t1_44 (k := 10 * xi + 9) rfl (by omega) (by decide) d_Md_finish_20 ?_
      refine wv_topl (w := (fn3 (R xi) m0) 9) (by rw [flat_at _ xi (by decide), va_up_self]) ?_
      refine lv_bipush (v := nI (21)) hx hb d_Md_finish_21 (by decide) ?_
      refine lv_lshr (v := sar ((fn3 (R xi) m0) 9) 21) hx hb d_Md_finish_23 rfl ?_
      refine lv_lstore (lv' := [(4, .long (sar ((fn3 (R xi) m0) 9) 21)), (3, .int (nI (m0))), (2, .int (nI (10 * xi + 9))), (0, .ref (ad 37)), (1, .int (nI (xi)))]) hx hb d_Md_finish_24 hl (by decide) rfl (fun ls hl => ?_)
      refine lv_aload_n hx hb d_Md_finish_26 rfl (lv_at hl 3 rfl) ?_
      refine wv_getf hx hb h 37 (by decide) (fs := [.ref (ad 38), .int (nI (tl)), .int (nI (ol)), .int (nI (cd)), .ref (ad 39), .ref (ad 40), .ref (ad 41), .ref (ad 42), .ref (ad 43), .ref (ad 44), .ref (ad 45), .ref (ad 46), .ref (ad 47), .ref (ad 48), .ref (ad 49), .ref (ad 50)]) t1_37 hts (fun w hw => List.mem_cons_of_mem _ (fW_Md w hw)) hown (ci := 5) (C := "NonceBoxModel") (T := fT_Md) (N := 16) rfl 9 (by decide) (hts _ (List.mem_cons_of_mem _ kf_Md_28)) rfl (v := .ref (ad 44)) rfl d_Md_finish_27 ?_
      refine lv_iload_n hx hb d_Md_finish_30 rfl (lv_at hl 2 rfl) ?_
      refine lv_aload_n hx hb d_Md_finish_31 rfl (lv_at hl 3 rfl) ?_
      refine wv_getf hx hb h 37 (by decide) (fs := [.ref (ad 38), .int (nI (tl)), .int (nI (ol)), .int (nI (cd)), .ref (ad 39), .ref (ad 40), .ref (ad 41), .ref (ad 42), .ref (ad 43), .ref (ad 44), .ref (ad 45), .ref (ad 46), .ref (ad 47), .ref (ad 48), .ref (ad 49), .ref (ad 50)]) t1_37 hts (fun w hw => List.mem_cons_of_mem _ (fW_Md w hw)) hown (ci := 5) (C := "NonceBoxModel") (T := fT_Md) (N := 16) rfl 9 (by decide) (hts _ (List.mem_cons_of_mem _ kf_Md_28)) rfl (v := .ref (ad 44)) rfl d_Md_finish_32 ?_
      refine lv_iload_n hx hb d_Md_finish_35 rfl (lv_at hl 2 rfl) ?_
      refine wv_lald hx hb h 44 (by decide) (f := (flat (va_up R xi (fn3 (R xi) m0)))) t1_44 (k := 10 * xi + 9) rfl (by omega) (by decide) d_Md_finish_36 ?_
      refine wv_topl (w := (fn3 (R xi) m0) 9) (by rw [flat_at _ xi (by decide), va_up_self]) ?_
      refine lv_ldc2 (v := 2097151) hx hb hown (hts _ (List.mem_cons_of_mem _ ko_Md_155)) d_Md_finish_37 ?_
      refine lv_land hx hb d_Md_finish_40 ?_
      refine wv_last hx hb h 44 (by decide) (f := (flat (va_up R xi (fn3 (R xi) m0)))) t1_44 (k := 10 * xi + 9) rfl (by omega) (by decide) d_Md_finish_41 (fun H locs h => ?_)
      obtain ⟨ev2, o2⟩ : ∃ z, z = va_up ev1 44 (eJ G 160 (va_up ((flat (va_up R xi (fn3 (R xi) m0)))) (10 * xi + 9) (((fn3 (R xi) m0) 9) &&& 2097151))) := ⟨_, rfl⟩
      rw [← o2] at h
      have t2_44 : ev2 44 = eJ G 160 (va_up ((flat (va_up R xi (fn3 (R xi) m0)))) (10 * xi + 9) (((fn3 (R xi) m0) 9) &&& 2097151)) := by rw [o2, va_up_self]
      have t2_37 := (show ev2 37 = ev1 37 by rw [o2, va_up_ne _ _ (by decide)]).trans t1_37
      rw [flat_up _ xi (by decide), va_up_self, va_up2] at o2
      have q2_44 : ev2 44 = eJ G 160 (flat (va_up R xi (va_up (fn3 (R xi) m0) 9 ((fn3 (R xi) m0) 9 &&& 2097151)))) := by rw [o2, va_up_self]
      refine lv_aload_n hx hb d_Md_finish_42 rfl (lv_at hl 3 rfl) ?_
      refine wv_getf hx hb h 37 (by decide) (fs := [.ref (ad 38), .int (nI (tl)), .int (nI (ol)), .int (nI (cd)), .ref (ad 39), .ref (ad 40), .ref (ad 41), .ref (ad 42), .ref (ad 43), .ref (ad 44), .ref (ad 45), .ref (ad 46), .ref (ad 47), .ref (ad 48), .ref (ad 49), .ref (ad 50)]) t2_37 hts (fun w hw => List.mem_cons_of_mem _ (fW_Md w hw)) hown (ci := 5) (C := "NonceBoxModel") (T := fT_Md) (N := 16) rfl 9 (by decide) (hts _ (List.mem_cons_of_mem _ kf_Md_28)) rfl (v := .ref (ad 44)) rfl d_Md_finish_43 ?_
      refine lv_bipush (v := nI (10)) hx hb d_Md_finish_46 (by decide) ?_
      refine lv_iload_n hx hb d_Md_finish_48 rfl (lv_at hl 4 rfl) ?_
      refine lv_imul hx hb d_Md_finish_49 ?_
      refine wv_top (w := nI (10 * xi)) (pk_mul _ _) ?_
      refine lv_aload_n hx hb d_Md_finish_50 rfl (lv_at hl 3 rfl) ?_
      refine wv_getf hx hb h 37 (by decide) (fs := [.ref (ad 38), .int (nI (tl)), .int (nI (ol)), .int (nI (cd)), .ref (ad 39), .ref (ad 40), .ref (ad 41), .ref (ad 42), .ref (ad 43), .ref (ad 44), .ref (ad 45), .ref (ad 46), .ref (ad 47), .ref (ad 48), .ref (ad 49), .ref (ad 50)]) t2_37 hts (fun w hw => List.mem_cons_of_mem _ (fW_Md w hw)) hown (ci := 5) (C := "NonceBoxModel") (T := fT_Md) (N := 16) rfl 9 (by decide) (hts _ (List.mem_cons_of_mem _ kf_Md_28)) rfl (v := .ref (ad 44)) rfl d_Md_finish_51 ?_
      refine lv_bipush (v := nI (10)) hx hb d_Md_finish_54 (by decide) ?_
      refine lv_iload_n hx hb d_Md_finish_56 rfl (lv_at hl 4 rfl) ?_
      refine lv_imul hx hb d_Md_finish_57 ?_
      refine wv_top (w := nI (10 * xi)) (pk_mul _ _) ?_
      refine wv_lald hx hb h 44 (by decide) (f := (flat (va_up R xi (va_up (fn3 (R xi) m0) 9 ((fn3 (R xi) m0) 9 &&& 2097151))))) q2_44 (k := 10 * xi) rfl (by omega) (by decide) d_Md_finish_58 ?_
      refine wv_topl (w := (va_up (fn3 (R xi) m0) 9 ((fn3 (R xi) m0) 9 &&& 2097151)) 0) (by rw [flat_0, va_up_self]) ?_
      refine lv_ldc2 (v := 19) hx hb hown (hts _ (List.mem_cons_of_mem _ ko_Md_157)) d_Md_finish_59 ?_
      refine lv_lload hx hb d_Md_finish_62 (lv_at hl 0 rfl) ?_
      refine lv_lmul hx hb d_Md_finish_64 ?_
      refine lv_ladd hx hb d_Md_finish_65 ?_
      refine wv_last hx hb h 44 (by decide) (f := (flat (va_up R xi (va_up (fn3 (R xi) m0) 9 ((fn3 (R xi) m0) 9 &&& 2097151))))) q2_44 (k := 10 * xi) rfl (by omega) (by decide) d_Md_finish_66 (fun H locs h => ?_)
      obtain ⟨ev3, o3⟩ : ∃ z, z = va_up ev2 44 (eJ G 160 (va_up ((flat (va_up R xi (va_up (fn3 (R xi) m0) 9 ((fn3 (R xi) m0) 9 &&& 2097151))))) (10 * xi) (((va_up (fn3 (R xi) m0) 9 ((fn3 (R xi) m0) 9 &&& 2097151)) 0) + (19 * (sar ((fn3 (R xi) m0) 9) 21))))) := ⟨_, rfl⟩
      rw [← o3] at h
      have t3_44 : ev3 44 = eJ G 160 (va_up ((flat (va_up R xi (va_up (fn3 (R xi) m0) 9 ((fn3 (R xi) m0) 9 &&& 2097151))))) (10 * xi) (((va_up (fn3 (R xi) m0) 9 ((fn3 (R xi) m0) 9 &&& 2097151)) 0) + (19 * (sar ((fn3 (R xi) m0) 9) 21)))) := by rw [o3, va_up_self]
      have t3_37 := (show ev3 37 = ev2 37 by rw [o3, va_up_ne _ _ (by decide)]).trans t2_37
      rw [flat_up0, va_up_self, va_up2] at o3
      have q3_44 : ev3 44 = eJ G 160 (flat (va_up R xi (fnA (fn3 (R xi) m0)))) := by rw [o3, va_up_self]; rfl
      refine lv_bipush (v := nI (10)) hx hb d_Md_finish_67 (by decide) ?_
      refine lv_iload_n hx hb d_Md_finish_69 rfl (lv_at hl 4 rfl) ?_
      refine lv_imul hx hb d_Md_finish_70 ?_
      refine wv_top (w := nI (10 * xi)) (pk_mul _ _) ?_
      refine lv_istore (lv' := [(6, .int (nI (10 * xi))), (4, .long (sar ((fn3 (R xi) m0) 9) 21)), (3, .int (nI (m0))), (2, .int (nI (10 * xi + 9))), (0, .ref (ad 37)), (1, .int (nI (xi)))]) hx hb d_Md_finish_71 hl (by decide) rfl (fun ls hl => ?_)
      have loop4 : ∀ (d j : Nat), j + d = 9 →  ∀ (ev4 : Nat → va_E) (H : Heap) (locs : List Loc) (ls : Array Slot), ev4 = (va_up ev3 44 (eJ G 160 (flat (va_up R xi (cry (fnA (fn3 (R xi) m0)) j))))) → wT G A 52 ad ev4 s H locs → lv_has ls 7 [(6, .int (nI (10 * xi + j))), (3, .int (nI (m0))), (2, .int (nI (10 * xi + 9))), (0, .ref (ad 37)), (1, .int (nI (xi)))] → W p l e ({ frames := 0, cells := 0, slots := 0, locals := 0 }) s m ([.ref (ad 37), .int (nI (xi))] : List Value).toArray below meth c H locs 0 0 (MQ below (wQc G A 52 ad (fun ov ev' => ov = none ∧ ev' = va_up ev 44 (eJ G 160 (flat (va_up R xi (fnT (R xi))))))) ([.ref (ad 37), .int (nI (xi))] : List Value).toArray s 0 0 A) (F0 m 73 ls []) := by
        intro d
        induction d with
        | zero =>
          intro j hk_j  ev4 H locs ls  o4 h hl
          have t4_44 : ev4 44 = eJ G 160 (flat (va_up R xi (cry (fnA (fn3 (R xi) m0)) j))) := by rw [o4, va_up_self]
          have t4_37 := (show ev4 37 = ev3 37 by rw [o4, va_up_ne _ _ (by decide)]).trans t3_37
          refine lv_iload hx hb d_Md_finish_73 (lv_at hl 0 rfl) ?_
          refine lv_iload_n hx hb d_Md_finish_75 rfl (lv_at hl 2 rfl) ?_
          refine lv_icmp_ge (tgt := 132) hx hb d_Md_finish_76 (by decide) (fun _ => ?_) (fun hc => absurd ((nI_leI (by omega) (by omega)).mpr (by omega)) hc)
          refine lv_iinc (v := nI (m0 + 1)) (lv' := [(3, .int (nI (m0 + 1))), (6, .int (nI (10 * xi + j))), (2, .int (nI (10 * xi + 9))), (0, .ref (ad 37)), (1, .int (nI (xi)))]) hx hb d_Md_finish_132 hl (k := 1) rfl (nI_add _ _) (by decide) rfl (fun ls hl => ?_)
          refine lv_goto (tgt := 10) hx hb d_Md_finish_135 (by decide) ?_
          refine ih (m0 + 1) (by omega) ev4 H locs ls ?_ h (lv_sub hl [0, 2, 3, 4] rfl)
          rw [o4, o3, o2, o1, va_up2, va_up2, va_up2, show j = 9 by omega]
          rfl
        | succ d ih4 =>
          intro j hk_j  ev4 H locs ls  o4 h hl
          have t4_44 : ev4 44 = eJ G 160 (flat (va_up R xi (cry (fnA (fn3 (R xi) m0)) j))) := by rw [o4, va_up_self]
          have t4_37 := (show ev4 37 = ev3 37 by rw [o4, va_up_ne _ _ (by decide)]).trans t3_37
          refine lv_iload hx hb d_Md_finish_73 (lv_at hl 0 rfl) ?_
          refine lv_iload_n hx hb d_Md_finish_75 rfl (lv_at hl 2 rfl) ?_
          refine lv_icmp_ge (tgt := 132) hx hb d_Md_finish_76 (by decide) (fun hc => absurd ((nI_leI (by omega) (by omega)).mp hc) (by omega)) (fun _ => ?_)
          refine lv_aload_n hx hb d_Md_finish_79 rfl (lv_at hl 3 rfl) ?_
          refine wv_getf hx hb h 37 (by decide) (fs := [.ref (ad 38), .int (nI (tl)), .int (nI (ol)), .int (nI (cd)), .ref (ad 39), .ref (ad 40), .ref (ad 41), .ref (ad 42), .ref (ad 43), .ref (ad 44), .ref (ad 45), .ref (ad 46), .ref (ad 47), .ref (ad 48), .ref (ad 49), .ref (ad 50)]) t4_37 hts (fun w hw => List.mem_cons_of_mem _ (fW_Md w hw)) hown (ci := 5) (C := "NonceBoxModel") (T := fT_Md) (N := 16) rfl 9 (by decide) (hts _ (List.mem_cons_of_mem _ kf_Md_28)) rfl (v := .ref (ad 44)) rfl d_Md_finish_80 ?_
          refine lv_iload hx hb d_Md_finish_83 (lv_at hl 0 rfl) ?_
          refine lv_iconst (v := nI (1)) hx hb d_Md_finish_85 (by decide) ?_
          refine lv_iadd hx hb d_Md_finish_86 ?_
          refine wv_top (w := nI ((10 * xi + j) + 1)) (nI_add _ _) ?_
          refine lv_aload_n hx hb d_Md_finish_87 rfl (lv_at hl 3 rfl) ?_
          refine wv_getf hx hb h 37 (by decide) (fs := [.ref (ad 38), .int (nI (tl)), .int (nI (ol)), .int (nI (cd)), .ref (ad 39), .ref (ad 40), .ref (ad 41), .ref (ad 42), .ref (ad 43), .ref (ad 44), .ref (ad 45), .ref (ad 46), .ref (ad 47), .ref (ad 48), .ref (ad 49), .ref (ad 50)]) t4_37 hts (fun w hw => List.mem_cons_of_mem _ (fW_Md w hw)) hown (ci := 5) (C := "NonceBoxModel") (T := fT_Md) (N := 16) rfl 9 (by decide) (hts _ (List.mem_cons_of_mem _ kf_Md_28)) rfl (v := .ref (ad 44)) rfl d_Md_finish_88 ?_
          refine lv_iload hx hb d_Md_finish_91 (lv_at hl 0 rfl) ?_
          refine lv_iconst (v := nI (1)) hx hb d_Md_finish_93 (by decide) ?_
          refine lv_iadd hx hb d_Md_finish_94 ?_
          refine wv_top (w := nI ((10 * xi + j) + 1)) (nI_add _ _) ?_
          refine wv_lald hx hb h 44 (by decide) (f := (flat (va_up R xi (cry (fnA (fn3 (R xi) m0)) j)))) t4_44 (k := (10 * xi + j) + 1) rfl (by omega) (by decide) d_Md_finish_95 ?_
          refine wv_topl (w := (cry (fnA (fn3 (R xi) m0)) j) (j + 1)) (by rw [show 10 * xi + j + 1 = 10 * xi + (j + 1) from rfl, flat_at _ xi (by omega), va_up_self]) ?_
          refine lv_aload_n hx hb d_Md_finish_96 rfl (lv_at hl 3 rfl) ?_
          refine wv_getf hx hb h 37 (by decide) (fs := [.ref (ad 38), .int (nI (tl)), .int (nI (ol)), .int (nI (cd)), .ref (ad 39), .ref (ad 40), .ref (ad 41), .ref (ad 42), .ref (ad 43), .ref (ad 44), .ref (ad 45), .ref (ad 46), .ref (ad 47), .ref (ad 48), .ref (ad 49), .ref (ad 50)]) t4_37 hts (fun w hw => List.mem_cons_of_mem _ (fW_Md w hw)) hown (ci := 5) (C := "NonceBoxModel") (T := fT_Md) (N := 16) rfl 9 (by decide) (hts _ (List.mem_cons_of_mem _ kf_Md_28)) rfl (v := .ref (ad 44)) rfl d_Md_finish_97 ?_
          refine lv_iload hx hb d_Md_finish_100 (lv_at hl 0 rfl) ?_
          refine wv_lald hx hb h 44 (by decide) (f := (flat (va_up R xi (cry (fnA (fn3 (R xi) m0)) j)))) t4_44 (k := 10 * xi + j) rfl (by omega) (by decide) d_Md_finish_102 ?_
          refine wv_topl (w := (cry (fnA (fn3 (R xi) m0)) j) j) (by rw [flat_at _ xi (by omega), va_up_self]) ?_
          refine lv_bipush (v := nI (26)) hx hb d_Md_finish_103 (by decide) ?_
          refine lv_lshr (v := sar ((cry (fnA (fn3 (R xi) m0)) j) j) 26) hx hb d_Md_finish_105 rfl ?_
          refine lv_ladd hx hb d_Md_finish_106 ?_
          refine wv_last hx hb h 44 (by decide) (f := (flat (va_up R xi (cry (fnA (fn3 (R xi) m0)) j)))) t4_44 (k := (10 * xi + j) + 1) rfl (by omega) (by decide) d_Md_finish_107 (fun H locs h => ?_)
          obtain ⟨ev5, o5⟩ : ∃ z, z = va_up ev4 44 (eJ G 160 (va_up ((flat (va_up R xi (cry (fnA (fn3 (R xi) m0)) j)))) ((10 * xi + j) + 1) (((cry (fnA (fn3 (R xi) m0)) j) (j + 1)) + (sar ((cry (fnA (fn3 (R xi) m0)) j) j) 26)))) := ⟨_, rfl⟩
          rw [← o5] at h
          have t5_44 : ev5 44 = eJ G 160 (va_up ((flat (va_up R xi (cry (fnA (fn3 (R xi) m0)) j)))) ((10 * xi + j) + 1) (((cry (fnA (fn3 (R xi) m0)) j) (j + 1)) + (sar ((cry (fnA (fn3 (R xi) m0)) j) j) 26))) := by rw [o5, va_up_self]
          have t5_37 := (show ev5 37 = ev4 37 by rw [o5, va_up_ne _ _ (by decide)]).trans t4_37
          rw [show 10 * xi + j + 1 = 10 * xi + (j + 1) from rfl, flat_up _ xi (by omega), va_up_self, va_up2] at o5
          have q5_44 : ev5 44 = eJ G 160 (flat (va_up R xi (va_up (cry (fnA (fn3 (R xi) m0)) j) (j + 1) ((cry (fnA (fn3 (R xi) m0)) j) (j + 1) + sar ((cry (fnA (fn3 (R xi) m0)) j) j) 26)))) := by rw [o5, va_up_self]
          refine lv_aload_n hx hb d_Md_finish_108 rfl (lv_at hl 3 rfl) ?_
          refine wv_getf hx hb h 37 (by decide) (fs := [.ref (ad 38), .int (nI (tl)), .int (nI (ol)), .int (nI (cd)), .ref (ad 39), .ref (ad 40), .ref (ad 41), .ref (ad 42), .ref (ad 43), .ref (ad 44), .ref (ad 45), .ref (ad 46), .ref (ad 47), .ref (ad 48), .ref (ad 49), .ref (ad 50)]) t5_37 hts (fun w hw => List.mem_cons_of_mem _ (fW_Md w hw)) hown (ci := 5) (C := "NonceBoxModel") (T := fT_Md) (N := 16) rfl 9 (by decide) (hts _ (List.mem_cons_of_mem _ kf_Md_28)) rfl (v := .ref (ad 44)) rfl d_Md_finish_109 ?_
          refine lv_iload hx hb d_Md_finish_112 (lv_at hl 0 rfl) ?_
          refine lv_aload_n hx hb d_Md_finish_114 rfl (lv_at hl 3 rfl) ?_
          refine wv_getf hx hb h 37 (by decide) (fs := [.ref (ad 38), .int (nI (tl)), .int (nI (ol)), .int (nI (cd)), .ref (ad 39), .ref (ad 40), .ref (ad 41), .ref (ad 42), .ref (ad 43), .ref (ad 44), .ref (ad 45), .ref (ad 46), .ref (ad 47), .ref (ad 48), .ref (ad 49), .ref (ad 50)]) t5_37 hts (fun w hw => List.mem_cons_of_mem _ (fW_Md w hw)) hown (ci := 5) (C := "NonceBoxModel") (T := fT_Md) (N := 16) rfl 9 (by decide) (hts _ (List.mem_cons_of_mem _ kf_Md_28)) rfl (v := .ref (ad 44)) rfl d_Md_finish_115 ?_
          refine lv_iload hx hb d_Md_finish_118 (lv_at hl 0 rfl) ?_
          refine wv_lald hx hb h 44 (by decide) (f := (flat (va_up R xi (va_up (cry (fnA (fn3 (R xi) m0)) j) (j + 1) ((cry (fnA (fn3 (R xi) m0)) j) (j + 1) + sar ((cry (fnA (fn3 (R xi) m0)) j) j) 26))))) q5_44 (k := 10 * xi + j) rfl (by omega) (by decide) d_Md_finish_120 ?_
          refine wv_topl (w := (va_up (cry (fnA (fn3 (R xi) m0)) j) (j + 1) ((cry (fnA (fn3 (R xi) m0)) j) (j + 1) + sar ((cry (fnA (fn3 (R xi) m0)) j) j) 26)) j) (by rw [flat_at _ xi (by omega), va_up_self]) ?_
          refine lv_ldc2 (v := 67108863) hx hb hown (hts _ (List.mem_cons_of_mem _ ko_Md_113)) d_Md_finish_121 ?_
          refine lv_land hx hb d_Md_finish_124 ?_
          refine wv_last hx hb h 44 (by decide) (f := (flat (va_up R xi (va_up (cry (fnA (fn3 (R xi) m0)) j) (j + 1) ((cry (fnA (fn3 (R xi) m0)) j) (j + 1) + sar ((cry (fnA (fn3 (R xi) m0)) j) j) 26))))) q5_44 (k := 10 * xi + j) rfl (by omega) (by decide) d_Md_finish_125 (fun H locs h => ?_)
          obtain ⟨ev6, o6⟩ : ∃ z, z = va_up ev5 44 (eJ G 160 (va_up ((flat (va_up R xi (va_up (cry (fnA (fn3 (R xi) m0)) j) (j + 1) ((cry (fnA (fn3 (R xi) m0)) j) (j + 1) + sar ((cry (fnA (fn3 (R xi) m0)) j) j) 26))))) (10 * xi + j) (((va_up (cry (fnA (fn3 (R xi) m0)) j) (j + 1) ((cry (fnA (fn3 (R xi) m0)) j) (j + 1) + sar ((cry (fnA (fn3 (R xi) m0)) j) j) 26)) j) &&& 67108863))) := ⟨_, rfl⟩
          rw [← o6] at h
          have t6_44 : ev6 44 = eJ G 160 (va_up ((flat (va_up R xi (va_up (cry (fnA (fn3 (R xi) m0)) j) (j + 1) ((cry (fnA (fn3 (R xi) m0)) j) (j + 1) + sar ((cry (fnA (fn3 (R xi) m0)) j) j) 26))))) (10 * xi + j) (((va_up (cry (fnA (fn3 (R xi) m0)) j) (j + 1) ((cry (fnA (fn3 (R xi) m0)) j) (j + 1) + sar ((cry (fnA (fn3 (R xi) m0)) j) j) 26)) j) &&& 67108863)) := by rw [o6, va_up_self]
          have t6_37 := (show ev6 37 = ev5 37 by rw [o6, va_up_ne _ _ (by decide)]).trans t5_37
          rw [flat_up _ xi (by omega), va_up_self, va_up2] at o6
          refine lv_iinc (v := nI ((10 * xi + j) + 1)) (lv' := [(6, .int (nI ((10 * xi + j) + 1))), (3, .int (nI (m0))), (2, .int (nI (10 * xi + 9))), (0, .ref (ad 37)), (1, .int (nI (xi)))]) hx hb d_Md_finish_126 hl (k := 0) rfl (nI_add _ _) (by decide) rfl (fun ls hl => ?_)
          refine lv_goto (tgt := 73) hx hb d_Md_finish_129 (by decide) ?_
          refine ih4 (j + 1) (by omega) ev6 H locs ls ?_ h (lv_sub hl [0, 1, 2, 3, 4] rfl)
          rw [o6, o5, o4, va_up2, va_up2]
          rfl
      exact loop4 9 0 rfl ev3 H locs ls (va_upi _ _ q3_44).symm h (lv_sub hl [0, 2, 3, 4, 5] rfl)
  exact loop1 3 0 rfl ev s.heap [] ls (by rw [show va_up R xi (fn3 (R xi) 0) = R from va_upi _ _ rfl, va_upi _ _ h44]) h (lv_sub hl [0, 1, 2, 3] rfl)
