/-! the reference's multiple -/
theorem rowL_R {v : Int64} {n : Int} (hv : v.toInt = n) (h0 : 0 ≤ n ∧ n < 67108864) : Rm (rowL v) n := by
  have e0 : (rowL v 0).toInt = n := hv
  have ez : ∀ i, 1 ≤ i → (rowL v i).toInt = 0 := fun i hi => by unfold rowL; rw [if_neg (by omega)]; rfl
  refine ⟨fun i hi => ?_, ?_⟩
  · by_cases c : i = 0
    · rw [c, e0]; exact h0
    · rw [ez i (by omega)]; omega
  · rw [vI_10, e0, ez 1 (by decide), ez 2 (by decide), ez 3 (by decide), ez 4 (by decide), ez 5 (by decide), ez 6 (by decide), ez 7 (by decide), ez 8 (by decide), ez 9 (by decide)]
    exact ⟨0, by omega⟩
theorem rowL_0 : rowL 0 = fun _ => 0 := by
  funext i
  unfold rowL
  by_cases c : i = 0
  · rw [if_pos c]
  · rw [if_neg c]
theorem lor_add {a : Int64} {s b : Nat} (hs : s < 26) (h0 : 0 ≤ a.toInt) (h1 : a.toInt < 2 ^ s) (hb : b < 2) : a ||| sal (nI b).toInt64 s = a + sal (nI b).toInt64 s := by
  obtain ⟨n, hn, e⟩ := pk_lOf (x := a) (fun q => by rw [Int64.lt_iff_toInt_lt] at q; rw [show (0 : Int64).toInt = 0 from rfl] at q; omega)
  subst e
  rw [pk_lT hn] at h0 h1
  have h2 : n < 2 ^ s := by
    have : ((n : Nat) : Int) < ((2 ^ s : Nat) : Int) := by rw [Int.natCast_pow]; exact h1
    exact Int.ofNat_lt.mp this
  have hp : 2 ^ s ≤ 2 ^ 25 := Nat.pow_le_pow_right (by decide) (by omega)
  rw [show (2 : Nat) ^ 25 = 33554432 from rfl] at hp
  have hbp : b * 2 ^ s ≤ 33554432 := by
    rcases (show b = 0 ∨ b = 1 by omega) with rfl | rfl <;> omega
  rw [nI_l (by omega)]
  have e : sal (lN b) s = lN (b * 2 ^ s) := wb_shl b (by omega)
  rw [e, g_or' rfl h2 (by omega), lN_add]
theorem adz (B : Nat → Nat) {t : Nat} (ht : t ≤ 260) : (∀ j, j < 10 → 0 ≤ (adBit (fun _ => 0) B t j).toInt ∧ (adBit (fun _ => 0) B t j).toInt ≤ 2 ^ (min 26 (t - 26 * j)) - 1) ∧ vI (adBit (fun _ => 0) B t) 10 = (bS B t : Int) := by
  obtain ⟨h1, h2⟩ := adBit_spec (f := fun _ => 0) (B := B) (M := 10) (fun j _ => by show 0 ≤ (0 : Int64).toInt ∧ (0 : Int64).toInt ≤ _; rw [show (0 : Int64).toInt = 0 from rfl]; decide) t (by omega)
  refine ⟨fun j hj => ?_, ?_⟩
  · have := h1 j hj
    have e : ((fun _ => 0 : Nat → Int64) j).toInt = 0 := rfl
    rw [e] at this
    omega
  · rw [h2, vI_z]; omega
theorem ad_lt (B : Nat → Nat) {t : Nat} (ht : t < 260) : 0 ≤ (adBit (fun _ => 0) B t (t / 26)).toInt ∧ (adBit (fun _ => 0) B t (t / 26)).toInt < 2 ^ (t % 26) := by
  have h := (adz B (t := t) (by omega)).1 (t / 26) (by omega)
  rw [show min 26 (t - 26 * (t / 26)) = t % 26 by omega] at h
  omega
theorem bS_s (B : Nat → Nat) (t : Nat) : bS B (t + 1) = bS B t + bitV B t * 2 ^ t := rfl
theorem uT_R {X : Nat → Nat} (hX : ∀ j, X j < 256) : Rm (adBit (fun _ => 0) (PNTB X) 255) (uI X) := by
  obtain ⟨h1, h2⟩ := adz (PNTB X) (t := 255) (by decide)
  refine ⟨fun j hj => ?_, ?_⟩
  · have := h1 j hj
    have hm : (2 : Int) ^ (min 26 (255 - 26 * j)) ≤ 2 ^ 26 := pw_le (by omega)
    rw [show (2 : Int) ^ 26 = 67108864 from by decide] at hm
    omega
  · have e : bS (PNTB X) 255 = wd8 (PNTB X) 0 32 := by
      rw [← bS_wd (PNTB_lt hX) 32, show 8 * 32 = 255 + 1 from rfl, bS_s (PNTB X) 255]
      have z : bitV (PNTB X) 255 = 0 := by
        unfold bitV
        rw [show PNTB X (255 / 8) = X 31 % 128 from rfl, show (2 : Nat) ^ (255 % 8) = 128 from rfl]
        omega
      rw [z, Nat.zero_mul, Nat.add_zero]
    rw [h2, e]
    exact ⟨0, by unfold uI; omega⟩
theorem p_bit (X : Nat → Nat) {t : Nat} (ht : t < 255) : X (t / 8) / 2 ^ (t % 8) % 2 = bitV (PNTB X) t := by
  unfold bitV PNTB
  by_cases c : t / 8 = 31
  · rw [if_pos c, c]
    have hb : t % 8 < 7 := by omega
    generalize t % 8 = b at hb
    generalize X 31 = y
    rcases (show b = 0 ∨ b = 1 ∨ b = 2 ∨ b = 3 ∨ b = 4 ∨ b = 5 ∨ b = 6 by omega) with rfl | rfl | rfl | rfl | rfl | rfl | rfl
    · rw [show (2 : Nat) ^ 0 = 1 from rfl]; omega
    · rw [show (2 : Nat) ^ 1 = 2 from rfl]; omega
    · rw [show (2 : Nat) ^ 2 = 4 from rfl]; omega
    · rw [show (2 : Nat) ^ 3 = 8 from rfl]; omega
    · rw [show (2 : Nat) ^ 4 = 16 from rfl]; omega
    · rw [show (2 : Nat) ^ 5 = 32 from rfl]; omega
    · rw [show (2 : Nat) ^ 6 = 64 from rfl]; omega
  · rw [if_neg c]
theorem kb254 (K : Nat → Nat) : bitN (KEYB K) 254 = 1 := by
  unfold bitN
  rw [show KEYB K (254 / 8) = K 31 % 64 + 64 from rfl, show (2 : Nat) ^ (254 % 8) = 64 from rfl]
  omega
theorem kb2 (K : Nat → Nat) {t : Nat} (ht : t ≤ 2) : bitN (KEYB K) t = 0 := by
  unfold bitN
  rcases (show t = 0 ∨ t = 1 ∨ t = 2 by omega) with rfl | rfl | rfl
  · rw [show KEYB K (0 / 8) = K 0 / 8 * 8 from rfl, show (2 : Nat) ^ (0 % 8) = 1 from rfl]; omega
  · rw [show KEYB K (1 / 8) = K 0 / 8 * 8 from rfl, show (2 : Nat) ^ (1 % 8) = 2 from rfl]; omega
  · rw [show KEYB K (2 / 8) = K 0 / 8 * 8 from rfl, show (2 : Nat) ^ (2 % 8) = 4 from rfl]; omega
theorem kbm (K : Nat → Nat) {t : Nat} (h1 : 2 < t) (h2 : t < 254) : K (t / 8) / 2 ^ (t % 8) % 2 = bitN (KEYB K) t := by
  unfold bitN KEYB
  by_cases c : t / 8 = 0
  · rw [if_pos c, c]
    have hb : 3 ≤ t % 8 ∧ t % 8 < 8 := by omega
    generalize t % 8 = b at hb
    generalize K 0 = y
    rcases (show b = 3 ∨ b = 4 ∨ b = 5 ∨ b = 6 ∨ b = 7 by omega) with rfl | rfl | rfl | rfl | rfl
    · rw [show (2 : Nat) ^ 3 = 8 from rfl]; omega
    · rw [show (2 : Nat) ^ 4 = 16 from rfl]; omega
    · rw [show (2 : Nat) ^ 5 = 32 from rfl]; omega
    · rw [show (2 : Nat) ^ 6 = 64 from rfl]; omega
    · rw [show (2 : Nat) ^ 7 = 128 from rfl]; omega
  · rw [if_neg c]
    by_cases c2 : t / 8 = 31
    · rw [if_pos c2, c2]
      have hb : t % 8 < 6 := by omega
      generalize t % 8 = b at hb
      generalize K 31 = y
      rcases (show b = 0 ∨ b = 1 ∨ b = 2 ∨ b = 3 ∨ b = 4 ∨ b = 5 by omega) with rfl | rfl | rfl | rfl | rfl | rfl
      · rw [show (2 : Nat) ^ 0 = 1 from rfl]; omega
      · rw [show (2 : Nat) ^ 1 = 2 from rfl]; omega
      · rw [show (2 : Nat) ^ 2 = 4 from rfl]; omega
      · rw [show (2 : Nat) ^ 3 = 8 from rfl]; omega
      · rw [show (2 : Nat) ^ 4 = 16 from rfl]; omega
      · rw [show (2 : Nat) ^ 5 = 32 from rfl]; omega
    · rw [if_neg c2]
def jvI (x : Int) : Nat → Int
  | 0 => 1
  | n + 1 => if 254 - n = 2 ∨ 254 - n = 4 then jvI x n * jvI x n else jvI x n * jvI x n * x
theorem jv_iv (x : Int) : ∀ m, jvI x (m + 1) = ivI x m
  | 0 => by
    show (if 254 - 0 = 2 ∨ 254 - 0 = 4 then (1 : Int) * 1 else 1 * 1 * x) = x
    rw [if_neg (by decide), Int.one_mul, Int.one_mul]
  | m + 1 => by
    have h := jv_iv x m
    show (if 254 - (m + 1) = 2 ∨ 254 - (m + 1) = 4 then jvI x (m + 1) * jvI x (m + 1) else jvI x (m + 1) * jvI x (m + 1) * x) = (if 253 - m = 2 ∨ 253 - m = 4 then ivI x m * ivI x m else ivI x m * ivI x m * x)
    rw [h, show 254 - (m + 1) = 253 - m by omega]
theorem flat_of (f : Row) : f = flat (fun x i => f (10 * x + i)) := by
  funext j
  unfold flat
  dsimp only
  rw [Nat.div_add_mod]
theorem flat_4 (R : Nat → Row) {k : Nat} (hk : k < 10) : flat R (40 + k) = R 4 k := flat_at R 4 hk
theorem flat_5 (R : Nat → Row) {k : Nat} (hk : k < 10) : flat R (50 + k) = R 5 k := flat_at R 5 hk
theorem flat_up4 (R : Nat → Row) {j : Nat} {v : Int64} (h : j < 10) : va_up (flat R) (40 + j) v = flat (va_up R 4 (va_up (R 4) j v)) := flat_up R 4 h
def LI (X B : Nat → Nat) (R : Nat → Row) (m : Nat) : Prop := Rm (R 0) (ladI (uI X) B m).1 ∧ Rm (R 1) (ladI (uI X) B m).2.1 ∧ Rm (R 2) (ladI (uI X) B m).2.2.1 ∧ Rm (R 3) (ladI (uI X) B m).2.2.2 ∧ Rm (R 4) (uI X) ∧ Rm (R 13) 121665
theorem bit_end {V : Nat} (hV : V < 57896044618658097711785492504343953926634992332820282019728792003956564819968) : V / 2 ^ (8 * 31) % 2 ^ 7 = V / 2 ^ (8 * 31) % 2 ^ (7 + 1) := by
  rw [show (2 : Nat) ^ (8 * 31) = 452312848583266388373324160190187140051835877600158453279131187530910662656 from by decide +kernel, show (2 : Nat) ^ 7 = 128 from rfl, show (2 : Nat) ^ (7 + 1) = 256 from rfl]
  omega
theorem d_Md_ladder_0 : decode c_Md_ladder 0 = .ok (.aload_n 0, 1) := by decide +kernel
theorem d_Md_ladder_1 : decode c_Md_ladder 1 = .ok (.iconst 5, 1) := by decide +kernel
theorem d_Md_ladder_2 : decode c_Md_ladder 2 = .ok (.iconst 0, 1) := by decide +kernel
theorem d_Md_ladder_3 : decode c_Md_ladder 3 = .ok (.iconst 1, 1) := by decide +kernel
theorem d_Md_ladder_4 : decode c_Md_ladder 4 = .ok (.invokevirtual 145, 3) := by decide +kernel
theorem d_Md_ladder_7 : decode c_Md_ladder 7 = .ok (.aload_n 0, 1) := by decide +kernel
theorem d_Md_ladder_8 : decode c_Md_ladder 8 = .ok (.bipush 6, 2) := by decide +kernel
theorem d_Md_ladder_10 : decode c_Md_ladder 10 = .ok (.iconst 0, 1) := by decide +kernel
theorem d_Md_ladder_11 : decode c_Md_ladder 11 = .ok (.iconst 1, 1) := by decide +kernel
theorem d_Md_ladder_12 : decode c_Md_ladder 12 = .ok (.invokevirtual 149, 3) := by decide +kernel
theorem d_Md_ladder_15 : decode c_Md_ladder 15 = .ok (.aload_n 0, 1) := by decide +kernel
theorem d_Md_ladder_16 : decode c_Md_ladder 16 = .ok (.bipush 12, 2) := by decide +kernel
theorem d_Md_ladder_18 : decode c_Md_ladder 18 = .ok (.iconst 2, 1) := by decide +kernel
theorem d_Md_ladder_19 : decode c_Md_ladder 19 = .ok (.iconst 3, 1) := by decide +kernel
theorem d_Md_ladder_20 : decode c_Md_ladder 20 = .ok (.invokevirtual 145, 3) := by decide +kernel
theorem d_Md_ladder_23 : decode c_Md_ladder 23 = .ok (.aload_n 0, 1) := by decide +kernel
theorem d_Md_ladder_24 : decode c_Md_ladder 24 = .ok (.bipush 7, 2) := by decide +kernel
theorem d_Md_ladder_26 : decode c_Md_ladder 26 = .ok (.bipush 12, 2) := by decide +kernel
theorem d_Md_ladder_28 : decode c_Md_ladder 28 = .ok (.bipush 6, 2) := by decide +kernel
theorem d_Md_ladder_30 : decode c_Md_ladder 30 = .ok (.invokevirtual 152, 3) := by decide +kernel
theorem d_Md_ladder_33 : decode c_Md_ladder 33 = .ok (.aload_n 0, 1) := by decide +kernel
theorem d_Md_ladder_34 : decode c_Md_ladder 34 = .ok (.bipush 12, 2) := by decide +kernel
theorem d_Md_ladder_36 : decode c_Md_ladder 36 = .ok (.iconst 2, 1) := by decide +kernel
theorem d_Md_ladder_37 : decode c_Md_ladder 37 = .ok (.iconst 3, 1) := by decide +kernel
theorem d_Md_ladder_38 : decode c_Md_ladder 38 = .ok (.invokevirtual 149, 3) := by decide +kernel
theorem d_Md_ladder_41 : decode c_Md_ladder 41 = .ok (.aload_n 0, 1) := by decide +kernel
theorem d_Md_ladder_42 : decode c_Md_ladder 42 = .ok (.bipush 8, 2) := by decide +kernel
theorem d_Md_ladder_44 : decode c_Md_ladder 44 = .ok (.bipush 12, 2) := by decide +kernel
theorem d_Md_ladder_46 : decode c_Md_ladder 46 = .ok (.iconst 5, 1) := by decide +kernel
theorem d_Md_ladder_47 : decode c_Md_ladder 47 = .ok (.invokevirtual 152, 3) := by decide +kernel
theorem d_Md_ladder_50 : decode c_Md_ladder 50 = .ok (.aload_n 0, 1) := by decide +kernel
theorem d_Md_ladder_51 : decode c_Md_ladder 51 = .ok (.bipush 9, 2) := by decide +kernel
theorem d_Md_ladder_53 : decode c_Md_ladder 53 = .ok (.iconst 5, 1) := by decide +kernel
theorem d_Md_ladder_54 : decode c_Md_ladder 54 = .ok (.iconst 5, 1) := by decide +kernel
theorem d_Md_ladder_55 : decode c_Md_ladder 55 = .ok (.invokevirtual 152, 3) := by decide +kernel
theorem d_Md_ladder_58 : decode c_Md_ladder 58 = .ok (.aload_n 0, 1) := by decide +kernel
theorem d_Md_ladder_59 : decode c_Md_ladder 59 = .ok (.bipush 10, 2) := by decide +kernel
theorem d_Md_ladder_61 : decode c_Md_ladder 61 = .ok (.bipush 6, 2) := by decide +kernel
theorem d_Md_ladder_63 : decode c_Md_ladder 63 = .ok (.bipush 6, 2) := by decide +kernel
theorem d_Md_ladder_65 : decode c_Md_ladder 65 = .ok (.invokevirtual 152, 3) := by decide +kernel
theorem d_Md_ladder_68 : decode c_Md_ladder 68 = .ok (.aload_n 0, 1) := by decide +kernel
theorem d_Md_ladder_69 : decode c_Md_ladder 69 = .ok (.bipush 11, 2) := by decide +kernel
theorem d_Md_ladder_71 : decode c_Md_ladder 71 = .ok (.bipush 9, 2) := by decide +kernel
theorem d_Md_ladder_73 : decode c_Md_ladder 73 = .ok (.bipush 10, 2) := by decide +kernel
theorem d_Md_ladder_75 : decode c_Md_ladder 75 = .ok (.invokevirtual 149, 3) := by decide +kernel
theorem d_Md_ladder_78 : decode c_Md_ladder 78 = .ok (.aload_n 0, 1) := by decide +kernel
theorem d_Md_ladder_79 : decode c_Md_ladder 79 = .ok (.bipush 12, 2) := by decide +kernel
theorem d_Md_ladder_81 : decode c_Md_ladder 81 = .ok (.bipush 7, 2) := by decide +kernel
theorem d_Md_ladder_83 : decode c_Md_ladder 83 = .ok (.bipush 8, 2) := by decide +kernel
theorem d_Md_ladder_85 : decode c_Md_ladder 85 = .ok (.invokevirtual 145, 3) := by decide +kernel
theorem d_Md_ladder_88 : decode c_Md_ladder 88 = .ok (.aload_n 0, 1) := by decide +kernel
theorem d_Md_ladder_89 : decode c_Md_ladder 89 = .ok (.iconst 2, 1) := by decide +kernel
theorem d_Md_ladder_90 : decode c_Md_ladder 90 = .ok (.bipush 12, 2) := by decide +kernel
theorem d_Md_ladder_92 : decode c_Md_ladder 92 = .ok (.bipush 12, 2) := by decide +kernel
theorem d_Md_ladder_94 : decode c_Md_ladder 94 = .ok (.invokevirtual 152, 3) := by decide +kernel
theorem d_Md_ladder_97 : decode c_Md_ladder 97 = .ok (.aload_n 0, 1) := by decide +kernel
theorem d_Md_ladder_98 : decode c_Md_ladder 98 = .ok (.bipush 12, 2) := by decide +kernel
theorem d_Md_ladder_100 : decode c_Md_ladder 100 = .ok (.bipush 7, 2) := by decide +kernel
theorem d_Md_ladder_102 : decode c_Md_ladder 102 = .ok (.bipush 8, 2) := by decide +kernel
theorem d_Md_ladder_104 : decode c_Md_ladder 104 = .ok (.invokevirtual 149, 3) := by decide +kernel
theorem d_Md_ladder_107 : decode c_Md_ladder 107 = .ok (.aload_n 0, 1) := by decide +kernel
theorem d_Md_ladder_108 : decode c_Md_ladder 108 = .ok (.iconst 3, 1) := by decide +kernel
theorem d_Md_ladder_109 : decode c_Md_ladder 109 = .ok (.bipush 12, 2) := by decide +kernel
theorem d_Md_ladder_111 : decode c_Md_ladder 111 = .ok (.bipush 12, 2) := by decide +kernel
theorem d_Md_ladder_113 : decode c_Md_ladder 113 = .ok (.invokevirtual 152, 3) := by decide +kernel
theorem d_Md_ladder_116 : decode c_Md_ladder 116 = .ok (.aload_n 0, 1) := by decide +kernel
theorem d_Md_ladder_117 : decode c_Md_ladder 117 = .ok (.iconst 3, 1) := by decide +kernel
theorem d_Md_ladder_118 : decode c_Md_ladder 118 = .ok (.iconst 4, 1) := by decide +kernel
theorem d_Md_ladder_119 : decode c_Md_ladder 119 = .ok (.iconst 3, 1) := by decide +kernel
theorem d_Md_ladder_120 : decode c_Md_ladder 120 = .ok (.invokevirtual 152, 3) := by decide +kernel
theorem d_Md_ladder_123 : decode c_Md_ladder 123 = .ok (.aload_n 0, 1) := by decide +kernel
theorem d_Md_ladder_124 : decode c_Md_ladder 124 = .ok (.iconst 0, 1) := by decide +kernel
theorem d_Md_ladder_125 : decode c_Md_ladder 125 = .ok (.bipush 9, 2) := by decide +kernel
theorem d_Md_ladder_127 : decode c_Md_ladder 127 = .ok (.bipush 10, 2) := by decide +kernel
theorem d_Md_ladder_129 : decode c_Md_ladder 129 = .ok (.invokevirtual 152, 3) := by decide +kernel
theorem d_Md_ladder_132 : decode c_Md_ladder 132 = .ok (.aload_n 0, 1) := by decide +kernel
theorem d_Md_ladder_133 : decode c_Md_ladder 133 = .ok (.bipush 12, 2) := by decide +kernel
theorem d_Md_ladder_135 : decode c_Md_ladder 135 = .ok (.bipush 13, 2) := by decide +kernel
theorem d_Md_ladder_137 : decode c_Md_ladder 137 = .ok (.bipush 11, 2) := by decide +kernel
theorem d_Md_ladder_139 : decode c_Md_ladder 139 = .ok (.invokevirtual 152, 3) := by decide +kernel
theorem d_Md_ladder_142 : decode c_Md_ladder 142 = .ok (.aload_n 0, 1) := by decide +kernel
theorem d_Md_ladder_143 : decode c_Md_ladder 143 = .ok (.bipush 12, 2) := by decide +kernel
theorem d_Md_ladder_145 : decode c_Md_ladder 145 = .ok (.bipush 9, 2) := by decide +kernel
theorem d_Md_ladder_147 : decode c_Md_ladder 147 = .ok (.bipush 12, 2) := by decide +kernel
theorem d_Md_ladder_149 : decode c_Md_ladder 149 = .ok (.invokevirtual 145, 3) := by decide +kernel
theorem d_Md_ladder_152 : decode c_Md_ladder 152 = .ok (.aload_n 0, 1) := by decide +kernel
theorem d_Md_ladder_153 : decode c_Md_ladder 153 = .ok (.iconst 1, 1) := by decide +kernel
theorem d_Md_ladder_154 : decode c_Md_ladder 154 = .ok (.bipush 11, 2) := by decide +kernel
theorem d_Md_ladder_156 : decode c_Md_ladder 156 = .ok (.bipush 12, 2) := by decide +kernel
theorem d_Md_ladder_158 : decode c_Md_ladder 158 = .ok (.invokevirtual 152, 3) := by decide +kernel
theorem d_Md_ladder_161 : decode c_Md_ladder 161 = .ok (.return_, 1) := by decide +kernel
set_option maxRecDepth 100000 in
set_option maxHeartbeats 4000000 in
/-- one step -/
theorem m_Md_ladder (l : Launch) (G : wG) (A : Nat → Prop) (ad : Nat → Nat) (ev : Nat → va_E) (wd : Row) (va vb vc vd vu : Int) (R : Nat → Row) (tl ol cd : Nat) (h37 : ev 37 = eO 5 [.ref (ad 38), .int (nI tl), .int (nI ol), .int (nI cd), .ref (ad 39), .ref (ad 40), .ref (ad 41), .ref (ad 42), .ref (ad 43), .ref (ad 44), .ref (ad 45), .ref (ad 46), .ref (ad 47), .ref (ad 48), .ref (ad 49), .ref (ad 50)]) (h44 : ev 44 = eJ G 160 (flat R)) (h45 : ev 45 = eJ G 20 wd) (k0 : Rm (R 0) va) (k1 : Rm (R 1) vb) (k2 : Rm (R 2) vc) (k3 : Rm (R 3) vd) (k4 : Rm (R 4) vu) (k13 : Rm (R 13) 121665) : wM l y_Md_ladder w_Md_ladder ({ frames := 6, cells := 0, slots := 0, locals := 200 }) G A 52 ad ev [.ref (ad 37)] (fun ov ev' => ov = none ∧ ∃ (R' : Nat → Row) (w' : Row), ev' = va_up (va_up ev 45 (eJ G 20 w')) 44 (eJ G 160 (flat R')) ∧ Rm (R' 0) (sA va vb) ∧ Rm (R' 1) (sB va vb) ∧ Rm (R' 2) (sC va vb vc vd) ∧ Rm (R' 3) (sD vu va vb vc vd) ∧ Rm (R' 4) vu ∧ Rm (R' 13) 121665) := by
  refine wv_ofW (cc := c_Md_ladder) (maxL := 1) (ret := none) (by decide) rfl (Nat.le_of_ble_eq_true rfl) ?_
  intro p e s m below meth c ls hx hb hr hml hts hown hlocks hini h hl
  have hl : lv_has ls 1 [(0, .ref (ad 37))] := hl
  refine lv_aload_n hx hb d_Md_ladder_0 rfl (lv_at hl 0 rfl) ?_
  refine lv_iconst (v := nI (5)) hx hb d_Md_ladder_1 (by decide) ?_
  refine lv_iconst (v := nI (0)) hx hb d_Md_ladder_2 (by decide) ?_
  refine lv_iconst (v := nI (1)) hx hb d_Md_ladder_3 (by decide) ?_
  refine wv_V (As := [.int (nI (5)), .int (nI (0)), .int (nI (1))]) (rest := []) (k := 3) ⟨hx, hb, hml, hown, hts⟩ h 37 (by decide) (C := "NonceBoxModel") h37 rfl (m_Md_add l G A ad ev 5 0 1 R tl ol cd h37 h44 (by decide) (by decide) (by decide)) kc_Md_add kl_Md_145 km_Md_add kv_Md_add ki_Md (by decide +kernel) ⟨rfl, rfl, Nat.le_of_ble_eq_true rfl, Nat.le_of_ble_eq_true rfl⟩ hl.1 rfl rfl (Nat.le_of_ble_eq_true rfl) ⟨Nat.le_refl _, Nat.le_refl _⟩ d_Md_ladder_4 ?_
  intro ov ev1 H locs hp h
  rw [hp.1]
  refine W.eq (g2 := F0 m 7 ls []) rfl ?_
  have o1 : ev1 = (va_up ev 44 (eJ G 160 (flat (va_up R 5 (rad (R 0) (R 1)))))) := hp.2
  have t1_44 : ev1 44 = eJ G 160 (flat (va_up R 5 (rad (R 0) (R 1)))) := by rw [o1, va_up_self]
  have t1_45 := (show ev1 45 = ev 45 by rw [o1, va_up_ne _ _ (by decide)]).trans h45
  have t1_37 := (show ev1 37 = ev 37 by rw [o1, va_up_ne _ _ (by decide)]).trans h37
  obtain ⟨R1, hR1⟩ : ∃ z, z = va_up R 5 (rad (R 0) (R 1)) := ⟨_, rfl⟩
  rw [← hR1] at t1_44
  have n_R1_0 : Rm (R1 0) (va) := by rw [hR1, va_up_ne _ _ (by decide)]; exact k0
  have n_R1_1 : Rm (R1 1) (vb) := by rw [hR1, va_up_ne _ _ (by decide)]; exact k1
  have n_R1_2 : Rm (R1 2) (vc) := by rw [hR1, va_up_ne _ _ (by decide)]; exact k2
  have n_R1_3 : Rm (R1 3) (vd) := by rw [hR1, va_up_ne _ _ (by decide)]; exact k3
  have n_R1_4 : Rm (R1 4) (vu) := by rw [hR1, va_up_ne _ _ (by decide)]; exact k4
  have n_R1_13 : Rm (R1 13) (121665) := by rw [hR1, va_up_ne _ _ (by decide)]; exact k13
  have n_R1_5 : Rm (R1 5) (va + vb) := by rw [hR1, va_up_self]; exact Rm_ad k0 k1
  refine lv_aload_n hx hb d_Md_ladder_7 rfl (lv_at hl 0 rfl) ?_
  refine lv_bipush (v := nI (6)) hx hb d_Md_ladder_8 (by decide) ?_
  refine lv_iconst (v := nI (0)) hx hb d_Md_ladder_10 (by decide) ?_
  refine lv_iconst (v := nI (1)) hx hb d_Md_ladder_11 (by decide) ?_
  refine wv_V (As := [.int (nI (6)), .int (nI (0)), .int (nI (1))]) (rest := []) (k := 3) ⟨hx, hb, hml, hown, hts⟩ h 37 (by decide) (C := "NonceBoxModel") t1_37 rfl (m_Md_subtract l G A ad ev1 6 0 1 R1 tl ol cd t1_37 t1_44 (by decide) (by decide) (by decide)) kc_Md_subtract kl_Md_149 km_Md_subtract kv_Md_subtract ki_Md (by decide +kernel) ⟨rfl, rfl, Nat.le_of_ble_eq_true rfl, Nat.le_of_ble_eq_true rfl⟩ hl.1 rfl rfl (Nat.le_of_ble_eq_true rfl) ⟨Nat.le_refl _, Nat.le_refl _⟩ d_Md_ladder_12 ?_
  intro ov ev2 H locs hp h
  rw [hp.1]
  refine W.eq (g2 := F0 m 15 ls []) rfl ?_
  have o2 : ev2 = (va_up ev1 44 (eJ G 160 (flat (va_up R1 6 (rsb (R1 0) (R1 1)))))) := hp.2
  have t2_44 : ev2 44 = eJ G 160 (flat (va_up R1 6 (rsb (R1 0) (R1 1)))) := by rw [o2, va_up_self]
  have t2_45 := (show ev2 45 = ev1 45 by rw [o2, va_up_ne _ _ (by decide)]).trans t1_45
  have t2_37 := (show ev2 37 = ev1 37 by rw [o2, va_up_ne _ _ (by decide)]).trans t1_37
  obtain ⟨R2, hR2⟩ : ∃ z, z = va_up R1 6 (rsb (R1 0) (R1 1)) := ⟨_, rfl⟩
  rw [← hR2] at t2_44
  have n_R2_0 : Rm (R2 0) (va) := by rw [hR2, va_up_ne _ _ (by decide)]; exact n_R1_0
  have n_R2_1 : Rm (R2 1) (vb) := by rw [hR2, va_up_ne _ _ (by decide)]; exact n_R1_1
  have n_R2_2 : Rm (R2 2) (vc) := by rw [hR2, va_up_ne _ _ (by decide)]; exact n_R1_2
  have n_R2_3 : Rm (R2 3) (vd) := by rw [hR2, va_up_ne _ _ (by decide)]; exact n_R1_3
  have n_R2_4 : Rm (R2 4) (vu) := by rw [hR2, va_up_ne _ _ (by decide)]; exact n_R1_4
  have n_R2_13 : Rm (R2 13) (121665) := by rw [hR2, va_up_ne _ _ (by decide)]; exact n_R1_13
  have n_R2_5 : Rm (R2 5) (va + vb) := by rw [hR2, va_up_ne _ _ (by decide)]; exact n_R1_5
  have n_R2_6 : Rm (R2 6) (va - vb) := by rw [hR2, va_up_self]; exact Rm_sb n_R1_0 n_R1_1
  refine lv_aload_n hx hb d_Md_ladder_15 rfl (lv_at hl 0 rfl) ?_
  refine lv_bipush (v := nI (12)) hx hb d_Md_ladder_16 (by decide) ?_
  refine lv_iconst (v := nI (2)) hx hb d_Md_ladder_18 (by decide) ?_
  refine lv_iconst (v := nI (3)) hx hb d_Md_ladder_19 (by decide) ?_
  refine wv_V (As := [.int (nI (12)), .int (nI (2)), .int (nI (3))]) (rest := []) (k := 3) ⟨hx, hb, hml, hown, hts⟩ h 37 (by decide) (C := "NonceBoxModel") t2_37 rfl (m_Md_add l G A ad ev2 12 2 3 R2 tl ol cd t2_37 t2_44 (by decide) (by decide) (by decide)) kc_Md_add kl_Md_145 km_Md_add kv_Md_add ki_Md (by decide +kernel) ⟨rfl, rfl, Nat.le_of_ble_eq_true rfl, Nat.le_of_ble_eq_true rfl⟩ hl.1 rfl rfl (Nat.le_of_ble_eq_true rfl) ⟨Nat.le_refl _, Nat.le_refl _⟩ d_Md_ladder_20 ?_
  intro ov ev3 H locs hp h
  rw [hp.1]
  refine W.eq (g2 := F0 m 23 ls []) rfl ?_
  have o3 : ev3 = (va_up ev2 44 (eJ G 160 (flat (va_up R2 12 (rad (R2 2) (R2 3)))))) := hp.2
  have t3_44 : ev3 44 = eJ G 160 (flat (va_up R2 12 (rad (R2 2) (R2 3)))) := by rw [o3, va_up_self]
  have t3_45 := (show ev3 45 = ev2 45 by rw [o3, va_up_ne _ _ (by decide)]).trans t2_45
  have t3_37 := (show ev3 37 = ev2 37 by rw [o3, va_up_ne _ _ (by decide)]).trans t2_37
  obtain ⟨R3, hR3⟩ : ∃ z, z = va_up R2 12 (rad (R2 2) (R2 3)) := ⟨_, rfl⟩
  rw [← hR3] at t3_44
  have n_R3_0 : Rm (R3 0) (va) := by rw [hR3, va_up_ne _ _ (by decide)]; exact n_R2_0
  have n_R3_1 : Rm (R3 1) (vb) := by rw [hR3, va_up_ne _ _ (by decide)]; exact n_R2_1
  have n_R3_2 : Rm (R3 2) (vc) := by rw [hR3, va_up_ne _ _ (by decide)]; exact n_R2_2
  have n_R3_3 : Rm (R3 3) (vd) := by rw [hR3, va_up_ne _ _ (by decide)]; exact n_R2_3
  have n_R3_4 : Rm (R3 4) (vu) := by rw [hR3, va_up_ne _ _ (by decide)]; exact n_R2_4
  have n_R3_13 : Rm (R3 13) (121665) := by rw [hR3, va_up_ne _ _ (by decide)]; exact n_R2_13
  have n_R3_5 : Rm (R3 5) (va + vb) := by rw [hR3, va_up_ne _ _ (by decide)]; exact n_R2_5
  have n_R3_6 : Rm (R3 6) (va - vb) := by rw [hR3, va_up_ne _ _ (by decide)]; exact n_R2_6
  have n_R3_12 : Rm (R3 12) (vc + vd) := by rw [hR3, va_up_self]; exact Rm_ad n_R2_2 n_R2_3
  refine lv_aload_n hx hb d_Md_ladder_23 rfl (lv_at hl 0 rfl) ?_
  refine lv_bipush (v := nI (7)) hx hb d_Md_ladder_24 (by decide) ?_
  refine lv_bipush (v := nI (12)) hx hb d_Md_ladder_26 (by decide) ?_
  refine lv_bipush (v := nI (6)) hx hb d_Md_ladder_28 (by decide) ?_
  refine wv_V (As := [.int (nI (7)), .int (nI (12)), .int (nI (6))]) (rest := []) (k := 3) ⟨hx, hb, hml, hown, hts⟩ h 37 (by decide) (C := "NonceBoxModel") t3_37 rfl (m_Md_times l G A ad ev3 7 12 6 wd R3 tl ol cd t3_37 t3_44 t3_45 (by decide) (by decide) (by decide)) kc_Md_times kl_Md_152 km_Md_times kv_Md_times ki_Md (by decide +kernel) ⟨rfl, rfl, Nat.le_of_ble_eq_true rfl, Nat.le_of_ble_eq_true rfl⟩ hl.1 rfl rfl (Nat.le_of_ble_eq_true rfl) ⟨Nat.le_refl _, Nat.le_refl _⟩ d_Md_ladder_30 ?_
  intro ov ev4 H locs hp h
  rw [hp.1]
  refine W.eq (g2 := F0 m 33 ls []) rfl ?_
  have o4 : ev4 = (va_up (va_up ev3 45 (eJ G 20 (wdC (R3 12) (R3 6) 10))) 44 (eJ G 160 (flat (va_up R3 7 (rtm (R3 12) (R3 6)))))) := hp.2
  have t4_45 : ev4 45 = eJ G 20 (wdC (R3 12) (R3 6) 10) := by rw [o4, va_up_ne _ _ (by decide), va_up_self]
  have t4_44 : ev4 44 = eJ G 160 (flat (va_up R3 7 (rtm (R3 12) (R3 6)))) := by rw [o4, va_up_self]
  have t4_37 := (show ev4 37 = ev3 37 by rw [o4, va_up_ne _ _ (by decide), va_up_ne _ _ (by decide)]).trans t3_37
  obtain ⟨R4, hR4⟩ : ∃ z, z = va_up R3 7 (rtm (R3 12) (R3 6)) := ⟨_, rfl⟩
  rw [← hR4] at t4_44
  have n_R4_0 : Rm (R4 0) (va) := by rw [hR4, va_up_ne _ _ (by decide)]; exact n_R3_0
  have n_R4_1 : Rm (R4 1) (vb) := by rw [hR4, va_up_ne _ _ (by decide)]; exact n_R3_1
  have n_R4_2 : Rm (R4 2) (vc) := by rw [hR4, va_up_ne _ _ (by decide)]; exact n_R3_2
  have n_R4_3 : Rm (R4 3) (vd) := by rw [hR4, va_up_ne _ _ (by decide)]; exact n_R3_3
  have n_R4_4 : Rm (R4 4) (vu) := by rw [hR4, va_up_ne _ _ (by decide)]; exact n_R3_4
  have n_R4_13 : Rm (R4 13) (121665) := by rw [hR4, va_up_ne _ _ (by decide)]; exact n_R3_13
  have n_R4_5 : Rm (R4 5) (va + vb) := by rw [hR4, va_up_ne _ _ (by decide)]; exact n_R3_5
  have n_R4_6 : Rm (R4 6) (va - vb) := by rw [hR4, va_up_ne _ _ (by decide)]; exact n_R3_6
  have n_R4_12 : Rm (R4 12) (vc + vd) := by rw [hR4, va_up_ne _ _ (by decide)]; exact n_R3_12
  have n_R4_7 : Rm (R4 7) (sG va vb vc vd) := by rw [hR4, va_up_self]; exact Rm_tm n_R3_12 n_R3_6
  refine lv_aload_n hx hb d_Md_ladder_33 rfl (lv_at hl 0 rfl) ?_
  refine lv_bipush (v := nI (12)) hx hb d_Md_ladder_34 (by decide) ?_
  refine lv_iconst (v := nI (2)) hx hb d_Md_ladder_36 (by decide) ?_
  refine lv_iconst (v := nI (3)) hx hb d_Md_ladder_37 (by decide) ?_
  refine wv_V (As := [.int (nI (12)), .int (nI (2)), .int (nI (3))]) (rest := []) (k := 3) ⟨hx, hb, hml, hown, hts⟩ h 37 (by decide) (C := "NonceBoxModel") t4_37 rfl (m_Md_subtract l G A ad ev4 12 2 3 R4 tl ol cd t4_37 t4_44 (by decide) (by decide) (by decide)) kc_Md_subtract kl_Md_149 km_Md_subtract kv_Md_subtract ki_Md (by decide +kernel) ⟨rfl, rfl, Nat.le_of_ble_eq_true rfl, Nat.le_of_ble_eq_true rfl⟩ hl.1 rfl rfl (Nat.le_of_ble_eq_true rfl) ⟨Nat.le_refl _, Nat.le_refl _⟩ d_Md_ladder_38 ?_
  intro ov ev5 H locs hp h
  rw [hp.1]
  refine W.eq (g2 := F0 m 41 ls []) rfl ?_
  have o5 : ev5 = (va_up ev4 44 (eJ G 160 (flat (va_up R4 12 (rsb (R4 2) (R4 3)))))) := hp.2
  have t5_44 : ev5 44 = eJ G 160 (flat (va_up R4 12 (rsb (R4 2) (R4 3)))) := by rw [o5, va_up_self]
  have t5_45 := (show ev5 45 = ev4 45 by rw [o5, va_up_ne _ _ (by decide)]).trans t4_45
  have t5_37 := (show ev5 37 = ev4 37 by rw [o5, va_up_ne _ _ (by decide)]).trans t4_37
  obtain ⟨R5, hR5⟩ : ∃ z, z = va_up R4 12 (rsb (R4 2) (R4 3)) := ⟨_, rfl⟩
  rw [← hR5] at t5_44
  have n_R5_0 : Rm (R5 0) (va) := by rw [hR5, va_up_ne _ _ (by decide)]; exact n_R4_0
  have n_R5_1 : Rm (R5 1) (vb) := by rw [hR5, va_up_ne _ _ (by decide)]; exact n_R4_1
  have n_R5_2 : Rm (R5 2) (vc) := by rw [hR5, va_up_ne _ _ (by decide)]; exact n_R4_2
  have n_R5_3 : Rm (R5 3) (vd) := by rw [hR5, va_up_ne _ _ (by decide)]; exact n_R4_3
  have n_R5_4 : Rm (R5 4) (vu) := by rw [hR5, va_up_ne _ _ (by decide)]; exact n_R4_4
  have n_R5_13 : Rm (R5 13) (121665) := by rw [hR5, va_up_ne _ _ (by decide)]; exact n_R4_13
  have n_R5_5 : Rm (R5 5) (va + vb) := by rw [hR5, va_up_ne _ _ (by decide)]; exact n_R4_5
  have n_R5_6 : Rm (R5 6) (va - vb) := by rw [hR5, va_up_ne _ _ (by decide)]; exact n_R4_6
  have n_R5_7 : Rm (R5 7) (sG va vb vc vd) := by rw [hR5, va_up_ne _ _ (by decide)]; exact n_R4_7
  have n_R5_12 : Rm (R5 12) (vc - vd) := by rw [hR5, va_up_self]; exact Rm_sb n_R4_2 n_R4_3
  refine lv_aload_n hx hb d_Md_ladder_41 rfl (lv_at hl 0 rfl) ?_
  refine lv_bipush (v := nI (8)) hx hb d_Md_ladder_42 (by decide) ?_
  refine lv_bipush (v := nI (12)) hx hb d_Md_ladder_44 (by decide) ?_
  refine lv_iconst (v := nI (5)) hx hb d_Md_ladder_46 (by decide) ?_
  refine wv_V (As := [.int (nI (8)), .int (nI (12)), .int (nI (5))]) (rest := []) (k := 3) ⟨hx, hb, hml, hown, hts⟩ h 37 (by decide) (C := "NonceBoxModel") t5_37 rfl (m_Md_times l G A ad ev5 8 12 5 (wdC (R3 12) (R3 6) 10) R5 tl ol cd t5_37 t5_44 t5_45 (by decide) (by decide) (by decide)) kc_Md_times kl_Md_152 km_Md_times kv_Md_times ki_Md (by decide +kernel) ⟨rfl, rfl, Nat.le_of_ble_eq_true rfl, Nat.le_of_ble_eq_true rfl⟩ hl.1 rfl rfl (Nat.le_of_ble_eq_true rfl) ⟨Nat.le_refl _, Nat.le_refl _⟩ d_Md_ladder_47 ?_
  intro ov ev6 H locs hp h
  rw [hp.1]
  refine W.eq (g2 := F0 m 50 ls []) rfl ?_
  have o6 : ev6 = (va_up (va_up ev5 45 (eJ G 20 (wdC (R5 12) (R5 5) 10))) 44 (eJ G 160 (flat (va_up R5 8 (rtm (R5 12) (R5 5)))))) := hp.2
  have t6_45 : ev6 45 = eJ G 20 (wdC (R5 12) (R5 5) 10) := by rw [o6, va_up_ne _ _ (by decide), va_up_self]
  have t6_44 : ev6 44 = eJ G 160 (flat (va_up R5 8 (rtm (R5 12) (R5 5)))) := by rw [o6, va_up_self]
  have t6_37 := (show ev6 37 = ev5 37 by rw [o6, va_up_ne _ _ (by decide), va_up_ne _ _ (by decide)]).trans t5_37
  obtain ⟨R6, hR6⟩ : ∃ z, z = va_up R5 8 (rtm (R5 12) (R5 5)) := ⟨_, rfl⟩
  rw [← hR6] at t6_44
  have n_R6_0 : Rm (R6 0) (va) := by rw [hR6, va_up_ne _ _ (by decide)]; exact n_R5_0
  have n_R6_1 : Rm (R6 1) (vb) := by rw [hR6, va_up_ne _ _ (by decide)]; exact n_R5_1
  have n_R6_2 : Rm (R6 2) (vc) := by rw [hR6, va_up_ne _ _ (by decide)]; exact n_R5_2
  have n_R6_3 : Rm (R6 3) (vd) := by rw [hR6, va_up_ne _ _ (by decide)]; exact n_R5_3
  have n_R6_4 : Rm (R6 4) (vu) := by rw [hR6, va_up_ne _ _ (by decide)]; exact n_R5_4
  have n_R6_13 : Rm (R6 13) (121665) := by rw [hR6, va_up_ne _ _ (by decide)]; exact n_R5_13
  have n_R6_5 : Rm (R6 5) (va + vb) := by rw [hR6, va_up_ne _ _ (by decide)]; exact n_R5_5
  have n_R6_6 : Rm (R6 6) (va - vb) := by rw [hR6, va_up_ne _ _ (by decide)]; exact n_R5_6
  have n_R6_7 : Rm (R6 7) (sG va vb vc vd) := by rw [hR6, va_up_ne _ _ (by decide)]; exact n_R5_7
  have n_R6_12 : Rm (R6 12) (vc - vd) := by rw [hR6, va_up_ne _ _ (by decide)]; exact n_R5_12
  have n_R6_8 : Rm (R6 8) (sH va vb vc vd) := by rw [hR6, va_up_self]; exact Rm_tm n_R5_12 n_R5_5
  refine lv_aload_n hx hb d_Md_ladder_50 rfl (lv_at hl 0 rfl) ?_
  refine lv_bipush (v := nI (9)) hx hb d_Md_ladder_51 (by decide) ?_
  refine lv_iconst (v := nI (5)) hx hb d_Md_ladder_53 (by decide) ?_
  refine lv_iconst (v := nI (5)) hx hb d_Md_ladder_54 (by decide) ?_
  refine wv_V (As := [.int (nI (9)), .int (nI (5)), .int (nI (5))]) (rest := []) (k := 3) ⟨hx, hb, hml, hown, hts⟩ h 37 (by decide) (C := "NonceBoxModel") t6_37 rfl (m_Md_times l G A ad ev6 9 5 5 (wdC (R5 12) (R5 5) 10) R6 tl ol cd t6_37 t6_44 t6_45 (by decide) (by decide) (by decide)) kc_Md_times kl_Md_152 km_Md_times kv_Md_times ki_Md (by decide +kernel) ⟨rfl, rfl, Nat.le_of_ble_eq_true rfl, Nat.le_of_ble_eq_true rfl⟩ hl.1 rfl rfl (Nat.le_of_ble_eq_true rfl) ⟨Nat.le_refl _, Nat.le_refl _⟩ d_Md_ladder_55 ?_
  intro ov ev7 H locs hp h
  rw [hp.1]
  refine W.eq (g2 := F0 m 58 ls []) rfl ?_
  have o7 : ev7 = (va_up (va_up ev6 45 (eJ G 20 (wdC (R6 5) (R6 5) 10))) 44 (eJ G 160 (flat (va_up R6 9 (rtm (R6 5) (R6 5)))))) := hp.2
  have t7_45 : ev7 45 = eJ G 20 (wdC (R6 5) (R6 5) 10) := by rw [o7, va_up_ne _ _ (by decide), va_up_self]
  have t7_44 : ev7 44 = eJ G 160 (flat (va_up R6 9 (rtm (R6 5) (R6 5)))) := by rw [o7, va_up_self]
  have t7_37 := (show ev7 37 = ev6 37 by rw [o7, va_up_ne _ _ (by decide), va_up_ne _ _ (by decide)]).trans t6_37
  obtain ⟨R7, hR7⟩ : ∃ z, z = va_up R6 9 (rtm (R6 5) (R6 5)) := ⟨_, rfl⟩
  rw [← hR7] at t7_44
  have n_R7_0 : Rm (R7 0) (va) := by rw [hR7, va_up_ne _ _ (by decide)]; exact n_R6_0
  have n_R7_1 : Rm (R7 1) (vb) := by rw [hR7, va_up_ne _ _ (by decide)]; exact n_R6_1
  have n_R7_2 : Rm (R7 2) (vc) := by rw [hR7, va_up_ne _ _ (by decide)]; exact n_R6_2
  have n_R7_3 : Rm (R7 3) (vd) := by rw [hR7, va_up_ne _ _ (by decide)]; exact n_R6_3
  have n_R7_4 : Rm (R7 4) (vu) := by rw [hR7, va_up_ne _ _ (by decide)]; exact n_R6_4
  have n_R7_13 : Rm (R7 13) (121665) := by rw [hR7, va_up_ne _ _ (by decide)]; exact n_R6_13
  have n_R7_5 : Rm (R7 5) (va + vb) := by rw [hR7, va_up_ne _ _ (by decide)]; exact n_R6_5
  have n_R7_6 : Rm (R7 6) (va - vb) := by rw [hR7, va_up_ne _ _ (by decide)]; exact n_R6_6
  have n_R7_7 : Rm (R7 7) (sG va vb vc vd) := by rw [hR7, va_up_ne _ _ (by decide)]; exact n_R6_7
  have n_R7_12 : Rm (R7 12) (vc - vd) := by rw [hR7, va_up_ne _ _ (by decide)]; exact n_R6_12
  have n_R7_8 : Rm (R7 8) (sH va vb vc vd) := by rw [hR7, va_up_ne _ _ (by decide)]; exact n_R6_8
  have n_R7_9 : Rm (R7 9) (sQ va vb) := by rw [hR7, va_up_self]; exact Rm_tm n_R6_5 n_R6_5
  refine lv_aload_n hx hb d_Md_ladder_58 rfl (lv_at hl 0 rfl) ?_
  refine lv_bipush (v := nI (10)) hx hb d_Md_ladder_59 (by decide) ?_
  refine lv_bipush (v := nI (6)) hx hb d_Md_ladder_61 (by decide) ?_
  refine lv_bipush (v := nI (6)) hx hb d_Md_ladder_63 (by decide) ?_
  refine wv_V (As := [.int (nI (10)), .int (nI (6)), .int (nI (6))]) (rest := []) (k := 3) ⟨hx, hb, hml, hown, hts⟩ h 37 (by decide) (C := "NonceBoxModel") t7_37 rfl (m_Md_times l G A ad ev7 10 6 6 (wdC (R6 5) (R6 5) 10) R7 tl ol cd t7_37 t7_44 t7_45 (by decide) (by decide) (by decide)) kc_Md_times kl_Md_152 km_Md_times kv_Md_times ki_Md (by decide +kernel) ⟨rfl, rfl, Nat.le_of_ble_eq_true rfl, Nat.le_of_ble_eq_true rfl⟩ hl.1 rfl rfl (Nat.le_of_ble_eq_true rfl) ⟨Nat.le_refl _, Nat.le_refl _⟩ d_Md_ladder_65 ?_
  intro ov ev8 H locs hp h
  rw [hp.1]
  refine W.eq (g2 := F0 m 68 ls []) rfl ?_
  have o8 : ev8 = (va_up (va_up ev7 45 (eJ G 20 (wdC (R7 6) (R7 6) 10))) 44 (eJ G 160 (flat (va_up R7 10 (rtm (R7 6) (R7 6)))))) := hp.2
  have t8_45 : ev8 45 = eJ G 20 (wdC (R7 6) (R7 6) 10) := by rw [o8, va_up_ne _ _ (by decide), va_up_self]
  have t8_44 : ev8 44 = eJ G 160 (flat (va_up R7 10 (rtm (R7 6) (R7 6)))) := by rw [o8, va_up_self]
  have t8_37 := (show ev8 37 = ev7 37 by rw [o8, va_up_ne _ _ (by decide), va_up_ne _ _ (by decide)]).trans t7_37
  obtain ⟨R8, hR8⟩ : ∃ z, z = va_up R7 10 (rtm (R7 6) (R7 6)) := ⟨_, rfl⟩
  rw [← hR8] at t8_44
  have n_R8_0 : Rm (R8 0) (va) := by rw [hR8, va_up_ne _ _ (by decide)]; exact n_R7_0
  have n_R8_1 : Rm (R8 1) (vb) := by rw [hR8, va_up_ne _ _ (by decide)]; exact n_R7_1
  have n_R8_2 : Rm (R8 2) (vc) := by rw [hR8, va_up_ne _ _ (by decide)]; exact n_R7_2
  have n_R8_3 : Rm (R8 3) (vd) := by rw [hR8, va_up_ne _ _ (by decide)]; exact n_R7_3
  have n_R8_4 : Rm (R8 4) (vu) := by rw [hR8, va_up_ne _ _ (by decide)]; exact n_R7_4
  have n_R8_13 : Rm (R8 13) (121665) := by rw [hR8, va_up_ne _ _ (by decide)]; exact n_R7_13
  have n_R8_5 : Rm (R8 5) (va + vb) := by rw [hR8, va_up_ne _ _ (by decide)]; exact n_R7_5
  have n_R8_6 : Rm (R8 6) (va - vb) := by rw [hR8, va_up_ne _ _ (by decide)]; exact n_R7_6
  have n_R8_7 : Rm (R8 7) (sG va vb vc vd) := by rw [hR8, va_up_ne _ _ (by decide)]; exact n_R7_7
  have n_R8_12 : Rm (R8 12) (vc - vd) := by rw [hR8, va_up_ne _ _ (by decide)]; exact n_R7_12
  have n_R8_8 : Rm (R8 8) (sH va vb vc vd) := by rw [hR8, va_up_ne _ _ (by decide)]; exact n_R7_8
  have n_R8_9 : Rm (R8 9) (sQ va vb) := by rw [hR8, va_up_ne _ _ (by decide)]; exact n_R7_9
  have n_R8_10 : Rm (R8 10) (sR va vb) := by rw [hR8, va_up_self]; exact Rm_tm n_R7_6 n_R7_6
  refine lv_aload_n hx hb d_Md_ladder_68 rfl (lv_at hl 0 rfl) ?_
  refine lv_bipush (v := nI (11)) hx hb d_Md_ladder_69 (by decide) ?_
  refine lv_bipush (v := nI (9)) hx hb d_Md_ladder_71 (by decide) ?_
  refine lv_bipush (v := nI (10)) hx hb d_Md_ladder_73 (by decide) ?_
  refine wv_V (As := [.int (nI (11)), .int (nI (9)), .int (nI (10))]) (rest := []) (k := 3) ⟨hx, hb, hml, hown, hts⟩ h 37 (by decide) (C := "NonceBoxModel") t8_37 rfl (m_Md_subtract l G A ad ev8 11 9 10 R8 tl ol cd t8_37 t8_44 (by decide) (by decide) (by decide)) kc_Md_subtract kl_Md_149 km_Md_subtract kv_Md_subtract ki_Md (by decide +kernel) ⟨rfl, rfl, Nat.le_of_ble_eq_true rfl, Nat.le_of_ble_eq_true rfl⟩ hl.1 rfl rfl (Nat.le_of_ble_eq_true rfl) ⟨Nat.le_refl _, Nat.le_refl _⟩ d_Md_ladder_75 ?_
  intro ov ev9 H locs hp h
  rw [hp.1]
  refine W.eq (g2 := F0 m 78 ls []) rfl ?_
  have o9 : ev9 = (va_up ev8 44 (eJ G 160 (flat (va_up R8 11 (rsb (R8 9) (R8 10)))))) := hp.2
  have t9_44 : ev9 44 = eJ G 160 (flat (va_up R8 11 (rsb (R8 9) (R8 10)))) := by rw [o9, va_up_self]
  have t9_45 := (show ev9 45 = ev8 45 by rw [o9, va_up_ne _ _ (by decide)]).trans t8_45
  have t9_37 := (show ev9 37 = ev8 37 by rw [o9, va_up_ne _ _ (by decide)]).trans t8_37
  obtain ⟨R9, hR9⟩ : ∃ z, z = va_up R8 11 (rsb (R8 9) (R8 10)) := ⟨_, rfl⟩
  rw [← hR9] at t9_44
  have n_R9_0 : Rm (R9 0) (va) := by rw [hR9, va_up_ne _ _ (by decide)]; exact n_R8_0
  have n_R9_1 : Rm (R9 1) (vb) := by rw [hR9, va_up_ne _ _ (by decide)]; exact n_R8_1
  have n_R9_2 : Rm (R9 2) (vc) := by rw [hR9, va_up_ne _ _ (by decide)]; exact n_R8_2
  have n_R9_3 : Rm (R9 3) (vd) := by rw [hR9, va_up_ne _ _ (by decide)]; exact n_R8_3
  have n_R9_4 : Rm (R9 4) (vu) := by rw [hR9, va_up_ne _ _ (by decide)]; exact n_R8_4
  have n_R9_13 : Rm (R9 13) (121665) := by rw [hR9, va_up_ne _ _ (by decide)]; exact n_R8_13
  have n_R9_5 : Rm (R9 5) (va + vb) := by rw [hR9, va_up_ne _ _ (by decide)]; exact n_R8_5
  have n_R9_6 : Rm (R9 6) (va - vb) := by rw [hR9, va_up_ne _ _ (by decide)]; exact n_R8_6
  have n_R9_7 : Rm (R9 7) (sG va vb vc vd) := by rw [hR9, va_up_ne _ _ (by decide)]; exact n_R8_7
  have n_R9_12 : Rm (R9 12) (vc - vd) := by rw [hR9, va_up_ne _ _ (by decide)]; exact n_R8_12
  have n_R9_8 : Rm (R9 8) (sH va vb vc vd) := by rw [hR9, va_up_ne _ _ (by decide)]; exact n_R8_8
  have n_R9_9 : Rm (R9 9) (sQ va vb) := by rw [hR9, va_up_ne _ _ (by decide)]; exact n_R8_9
  have n_R9_10 : Rm (R9 10) (sR va vb) := by rw [hR9, va_up_ne _ _ (by decide)]; exact n_R8_10
  have n_R9_11 : Rm (R9 11) (sT va vb) := by rw [hR9, va_up_self]; exact Rm_sb n_R8_9 n_R8_10
  refine lv_aload_n hx hb d_Md_ladder_78 rfl (lv_at hl 0 rfl) ?_
  refine lv_bipush (v := nI (12)) hx hb d_Md_ladder_79 (by decide) ?_
  refine lv_bipush (v := nI (7)) hx hb d_Md_ladder_81 (by decide) ?_
  refine lv_bipush (v := nI (8)) hx hb d_Md_ladder_83 (by decide) ?_
  refine wv_V (As := [.int (nI (12)), .int (nI (7)), .int (nI (8))]) (rest := []) (k := 3) ⟨hx, hb, hml, hown, hts⟩ h 37 (by decide) (C := "NonceBoxModel") t9_37 rfl (m_Md_add l G A ad ev9 12 7 8 R9 tl ol cd t9_37 t9_44 (by decide) (by decide) (by decide)) kc_Md_add kl_Md_145 km_Md_add kv_Md_add ki_Md (by decide +kernel) ⟨rfl, rfl, Nat.le_of_ble_eq_true rfl, Nat.le_of_ble_eq_true rfl⟩ hl.1 rfl rfl (Nat.le_of_ble_eq_true rfl) ⟨Nat.le_refl _, Nat.le_refl _⟩ d_Md_ladder_85 ?_
  intro ov ev10 H locs hp h
  rw [hp.1]
  refine W.eq (g2 := F0 m 88 ls []) rfl ?_
  have o10 : ev10 = (va_up ev9 44 (eJ G 160 (flat (va_up R9 12 (rad (R9 7) (R9 8)))))) := hp.2
  have t10_44 : ev10 44 = eJ G 160 (flat (va_up R9 12 (rad (R9 7) (R9 8)))) := by rw [o10, va_up_self]
  have t10_45 := (show ev10 45 = ev9 45 by rw [o10, va_up_ne _ _ (by decide)]).trans t9_45
  have t10_37 := (show ev10 37 = ev9 37 by rw [o10, va_up_ne _ _ (by decide)]).trans t9_37
  obtain ⟨R10, hR10⟩ : ∃ z, z = va_up R9 12 (rad (R9 7) (R9 8)) := ⟨_, rfl⟩
  rw [← hR10] at t10_44
  have n_R10_0 : Rm (R10 0) (va) := by rw [hR10, va_up_ne _ _ (by decide)]; exact n_R9_0
  have n_R10_1 : Rm (R10 1) (vb) := by rw [hR10, va_up_ne _ _ (by decide)]; exact n_R9_1
  have n_R10_2 : Rm (R10 2) (vc) := by rw [hR10, va_up_ne _ _ (by decide)]; exact n_R9_2
  have n_R10_3 : Rm (R10 3) (vd) := by rw [hR10, va_up_ne _ _ (by decide)]; exact n_R9_3
  have n_R10_4 : Rm (R10 4) (vu) := by rw [hR10, va_up_ne _ _ (by decide)]; exact n_R9_4
  have n_R10_13 : Rm (R10 13) (121665) := by rw [hR10, va_up_ne _ _ (by decide)]; exact n_R9_13
  have n_R10_5 : Rm (R10 5) (va + vb) := by rw [hR10, va_up_ne _ _ (by decide)]; exact n_R9_5
  have n_R10_6 : Rm (R10 6) (va - vb) := by rw [hR10, va_up_ne _ _ (by decide)]; exact n_R9_6
  have n_R10_7 : Rm (R10 7) (sG va vb vc vd) := by rw [hR10, va_up_ne _ _ (by decide)]; exact n_R9_7
  have n_R10_8 : Rm (R10 8) (sH va vb vc vd) := by rw [hR10, va_up_ne _ _ (by decide)]; exact n_R9_8
  have n_R10_9 : Rm (R10 9) (sQ va vb) := by rw [hR10, va_up_ne _ _ (by decide)]; exact n_R9_9
  have n_R10_10 : Rm (R10 10) (sR va vb) := by rw [hR10, va_up_ne _ _ (by decide)]; exact n_R9_10
  have n_R10_11 : Rm (R10 11) (sT va vb) := by rw [hR10, va_up_ne _ _ (by decide)]; exact n_R9_11
  have n_R10_12 : Rm (R10 12) (sG va vb vc vd + sH va vb vc vd) := by rw [hR10, va_up_self]; exact Rm_ad n_R9_7 n_R9_8
  refine lv_aload_n hx hb d_Md_ladder_88 rfl (lv_at hl 0 rfl) ?_
  refine lv_iconst (v := nI (2)) hx hb d_Md_ladder_89 (by decide) ?_
  refine lv_bipush (v := nI (12)) hx hb d_Md_ladder_90 (by decide) ?_
  refine lv_bipush (v := nI (12)) hx hb d_Md_ladder_92 (by decide) ?_
  refine wv_V (As := [.int (nI (2)), .int (nI (12)), .int (nI (12))]) (rest := []) (k := 3) ⟨hx, hb, hml, hown, hts⟩ h 37 (by decide) (C := "NonceBoxModel") t10_37 rfl (m_Md_times l G A ad ev10 2 12 12 (wdC (R7 6) (R7 6) 10) R10 tl ol cd t10_37 t10_44 t10_45 (by decide) (by decide) (by decide)) kc_Md_times kl_Md_152 km_Md_times kv_Md_times ki_Md (by decide +kernel) ⟨rfl, rfl, Nat.le_of_ble_eq_true rfl, Nat.le_of_ble_eq_true rfl⟩ hl.1 rfl rfl (Nat.le_of_ble_eq_true rfl) ⟨Nat.le_refl _, Nat.le_refl _⟩ d_Md_ladder_94 ?_
  intro ov ev11 H locs hp h
  rw [hp.1]
  refine W.eq (g2 := F0 m 97 ls []) rfl ?_
  have o11 : ev11 = (va_up (va_up ev10 45 (eJ G 20 (wdC (R10 12) (R10 12) 10))) 44 (eJ G 160 (flat (va_up R10 2 (rtm (R10 12) (R10 12)))))) := hp.2
  have t11_45 : ev11 45 = eJ G 20 (wdC (R10 12) (R10 12) 10) := by rw [o11, va_up_ne _ _ (by decide), va_up_self]
  have t11_44 : ev11 44 = eJ G 160 (flat (va_up R10 2 (rtm (R10 12) (R10 12)))) := by rw [o11, va_up_self]
  have t11_37 := (show ev11 37 = ev10 37 by rw [o11, va_up_ne _ _ (by decide), va_up_ne _ _ (by decide)]).trans t10_37
  obtain ⟨R11, hR11⟩ : ∃ z, z = va_up R10 2 (rtm (R10 12) (R10 12)) := ⟨_, rfl⟩
  rw [← hR11] at t11_44
  have n_R11_0 : Rm (R11 0) (va) := by rw [hR11, va_up_ne _ _ (by decide)]; exact n_R10_0
  have n_R11_1 : Rm (R11 1) (vb) := by rw [hR11, va_up_ne _ _ (by decide)]; exact n_R10_1
  have n_R11_3 : Rm (R11 3) (vd) := by rw [hR11, va_up_ne _ _ (by decide)]; exact n_R10_3
  have n_R11_4 : Rm (R11 4) (vu) := by rw [hR11, va_up_ne _ _ (by decide)]; exact n_R10_4
  have n_R11_13 : Rm (R11 13) (121665) := by rw [hR11, va_up_ne _ _ (by decide)]; exact n_R10_13
  have n_R11_5 : Rm (R11 5) (va + vb) := by rw [hR11, va_up_ne _ _ (by decide)]; exact n_R10_5
  have n_R11_6 : Rm (R11 6) (va - vb) := by rw [hR11, va_up_ne _ _ (by decide)]; exact n_R10_6
  have n_R11_7 : Rm (R11 7) (sG va vb vc vd) := by rw [hR11, va_up_ne _ _ (by decide)]; exact n_R10_7
  have n_R11_8 : Rm (R11 8) (sH va vb vc vd) := by rw [hR11, va_up_ne _ _ (by decide)]; exact n_R10_8
  have n_R11_9 : Rm (R11 9) (sQ va vb) := by rw [hR11, va_up_ne _ _ (by decide)]; exact n_R10_9
  have n_R11_10 : Rm (R11 10) (sR va vb) := by rw [hR11, va_up_ne _ _ (by decide)]; exact n_R10_10
  have n_R11_11 : Rm (R11 11) (sT va vb) := by rw [hR11, va_up_ne _ _ (by decide)]; exact n_R10_11
  have n_R11_12 : Rm (R11 12) (sG va vb vc vd + sH va vb vc vd) := by rw [hR11, va_up_ne _ _ (by decide)]; exact n_R10_12
  have n_R11_2 : Rm (R11 2) (sC va vb vc vd) := by rw [hR11, va_up_self]; exact Rm_tm n_R10_12 n_R10_12
  refine lv_aload_n hx hb d_Md_ladder_97 rfl (lv_at hl 0 rfl) ?_
  refine lv_bipush (v := nI (12)) hx hb d_Md_ladder_98 (by decide) ?_
  refine lv_bipush (v := nI (7)) hx hb d_Md_ladder_100 (by decide) ?_
  refine lv_bipush (v := nI (8)) hx hb d_Md_ladder_102 (by decide) ?_
  refine wv_V (As := [.int (nI (12)), .int (nI (7)), .int (nI (8))]) (rest := []) (k := 3) ⟨hx, hb, hml, hown, hts⟩ h 37 (by decide) (C := "NonceBoxModel") t11_37 rfl (m_Md_subtract l G A ad ev11 12 7 8 R11 tl ol cd t11_37 t11_44 (by decide) (by decide) (by decide)) kc_Md_subtract kl_Md_149 km_Md_subtract kv_Md_subtract ki_Md (by decide +kernel) ⟨rfl, rfl, Nat.le_of_ble_eq_true rfl, Nat.le_of_ble_eq_true rfl⟩ hl.1 rfl rfl (Nat.le_of_ble_eq_true rfl) ⟨Nat.le_refl _, Nat.le_refl _⟩ d_Md_ladder_104 ?_
  intro ov ev12 H locs hp h
  rw [hp.1]
  refine W.eq (g2 := F0 m 107 ls []) rfl ?_
  have o12 : ev12 = (va_up ev11 44 (eJ G 160 (flat (va_up R11 12 (rsb (R11 7) (R11 8)))))) := hp.2
  have t12_44 : ev12 44 = eJ G 160 (flat (va_up R11 12 (rsb (R11 7) (R11 8)))) := by rw [o12, va_up_self]
  have t12_45 := (show ev12 45 = ev11 45 by rw [o12, va_up_ne _ _ (by decide)]).trans t11_45
  have t12_37 := (show ev12 37 = ev11 37 by rw [o12, va_up_ne _ _ (by decide)]).trans t11_37
  obtain ⟨R12, hR12⟩ : ∃ z, z = va_up R11 12 (rsb (R11 7) (R11 8)) := ⟨_, rfl⟩
  rw [← hR12] at t12_44
  have n_R12_0 : Rm (R12 0) (va) := by rw [hR12, va_up_ne _ _ (by decide)]; exact n_R11_0
  have n_R12_1 : Rm (R12 1) (vb) := by rw [hR12, va_up_ne _ _ (by decide)]; exact n_R11_1
  have n_R12_3 : Rm (R12 3) (vd) := by rw [hR12, va_up_ne _ _ (by decide)]; exact n_R11_3
  have n_R12_4 : Rm (R12 4) (vu) := by rw [hR12, va_up_ne _ _ (by decide)]; exact n_R11_4
  have n_R12_13 : Rm (R12 13) (121665) := by rw [hR12, va_up_ne _ _ (by decide)]; exact n_R11_13
  have n_R12_5 : Rm (R12 5) (va + vb) := by rw [hR12, va_up_ne _ _ (by decide)]; exact n_R11_5
  have n_R12_6 : Rm (R12 6) (va - vb) := by rw [hR12, va_up_ne _ _ (by decide)]; exact n_R11_6
  have n_R12_7 : Rm (R12 7) (sG va vb vc vd) := by rw [hR12, va_up_ne _ _ (by decide)]; exact n_R11_7
  have n_R12_8 : Rm (R12 8) (sH va vb vc vd) := by rw [hR12, va_up_ne _ _ (by decide)]; exact n_R11_8
  have n_R12_9 : Rm (R12 9) (sQ va vb) := by rw [hR12, va_up_ne _ _ (by decide)]; exact n_R11_9
  have n_R12_10 : Rm (R12 10) (sR va vb) := by rw [hR12, va_up_ne _ _ (by decide)]; exact n_R11_10
  have n_R12_11 : Rm (R12 11) (sT va vb) := by rw [hR12, va_up_ne _ _ (by decide)]; exact n_R11_11
  have n_R12_2 : Rm (R12 2) (sC va vb vc vd) := by rw [hR12, va_up_ne _ _ (by decide)]; exact n_R11_2
  have n_R12_12 : Rm (R12 12) (sG va vb vc vd - sH va vb vc vd) := by rw [hR12, va_up_self]; exact Rm_sb n_R11_7 n_R11_8
  refine lv_aload_n hx hb d_Md_ladder_107 rfl (lv_at hl 0 rfl) ?_
  refine lv_iconst (v := nI (3)) hx hb d_Md_ladder_108 (by decide) ?_
  refine lv_bipush (v := nI (12)) hx hb d_Md_ladder_109 (by decide) ?_
  refine lv_bipush (v := nI (12)) hx hb d_Md_ladder_111 (by decide) ?_
  refine wv_V (As := [.int (nI (3)), .int (nI (12)), .int (nI (12))]) (rest := []) (k := 3) ⟨hx, hb, hml, hown, hts⟩ h 37 (by decide) (C := "NonceBoxModel") t12_37 rfl (m_Md_times l G A ad ev12 3 12 12 (wdC (R10 12) (R10 12) 10) R12 tl ol cd t12_37 t12_44 t12_45 (by decide) (by decide) (by decide)) kc_Md_times kl_Md_152 km_Md_times kv_Md_times ki_Md (by decide +kernel) ⟨rfl, rfl, Nat.le_of_ble_eq_true rfl, Nat.le_of_ble_eq_true rfl⟩ hl.1 rfl rfl (Nat.le_of_ble_eq_true rfl) ⟨Nat.le_refl _, Nat.le_refl _⟩ d_Md_ladder_113 ?_
  intro ov ev13 H locs hp h
  rw [hp.1]
  refine W.eq (g2 := F0 m 116 ls []) rfl ?_
  have o13 : ev13 = (va_up (va_up ev12 45 (eJ G 20 (wdC (R12 12) (R12 12) 10))) 44 (eJ G 160 (flat (va_up R12 3 (rtm (R12 12) (R12 12)))))) := hp.2
  have t13_45 : ev13 45 = eJ G 20 (wdC (R12 12) (R12 12) 10) := by rw [o13, va_up_ne _ _ (by decide), va_up_self]
  have t13_44 : ev13 44 = eJ G 160 (flat (va_up R12 3 (rtm (R12 12) (R12 12)))) := by rw [o13, va_up_self]
  have t13_37 := (show ev13 37 = ev12 37 by rw [o13, va_up_ne _ _ (by decide), va_up_ne _ _ (by decide)]).trans t12_37
  obtain ⟨R13, hR13⟩ : ∃ z, z = va_up R12 3 (rtm (R12 12) (R12 12)) := ⟨_, rfl⟩
  rw [← hR13] at t13_44
  have n_R13_0 : Rm (R13 0) (va) := by rw [hR13, va_up_ne _ _ (by decide)]; exact n_R12_0
  have n_R13_1 : Rm (R13 1) (vb) := by rw [hR13, va_up_ne _ _ (by decide)]; exact n_R12_1
  have n_R13_4 : Rm (R13 4) (vu) := by rw [hR13, va_up_ne _ _ (by decide)]; exact n_R12_4
  have n_R13_13 : Rm (R13 13) (121665) := by rw [hR13, va_up_ne _ _ (by decide)]; exact n_R12_13
  have n_R13_5 : Rm (R13 5) (va + vb) := by rw [hR13, va_up_ne _ _ (by decide)]; exact n_R12_5
  have n_R13_6 : Rm (R13 6) (va - vb) := by rw [hR13, va_up_ne _ _ (by decide)]; exact n_R12_6
  have n_R13_7 : Rm (R13 7) (sG va vb vc vd) := by rw [hR13, va_up_ne _ _ (by decide)]; exact n_R12_7
  have n_R13_8 : Rm (R13 8) (sH va vb vc vd) := by rw [hR13, va_up_ne _ _ (by decide)]; exact n_R12_8
  have n_R13_9 : Rm (R13 9) (sQ va vb) := by rw [hR13, va_up_ne _ _ (by decide)]; exact n_R12_9
  have n_R13_10 : Rm (R13 10) (sR va vb) := by rw [hR13, va_up_ne _ _ (by decide)]; exact n_R12_10
  have n_R13_11 : Rm (R13 11) (sT va vb) := by rw [hR13, va_up_ne _ _ (by decide)]; exact n_R12_11
  have n_R13_2 : Rm (R13 2) (sC va vb vc vd) := by rw [hR13, va_up_ne _ _ (by decide)]; exact n_R12_2
  have n_R13_12 : Rm (R13 12) (sG va vb vc vd - sH va vb vc vd) := by rw [hR13, va_up_ne _ _ (by decide)]; exact n_R12_12
  have n_R13_3 : Rm (R13 3) ((sG va vb vc vd - sH va vb vc vd) * (sG va vb vc vd - sH va vb vc vd)) := by rw [hR13, va_up_self]; exact Rm_tm n_R12_12 n_R12_12
  refine lv_aload_n hx hb d_Md_ladder_116 rfl (lv_at hl 0 rfl) ?_
  refine lv_iconst (v := nI (3)) hx hb d_Md_ladder_117 (by decide) ?_
  refine lv_iconst (v := nI (4)) hx hb d_Md_ladder_118 (by decide) ?_
  refine lv_iconst (v := nI (3)) hx hb d_Md_ladder_119 (by decide) ?_
  refine wv_V (As := [.int (nI (3)), .int (nI (4)), .int (nI (3))]) (rest := []) (k := 3) ⟨hx, hb, hml, hown, hts⟩ h 37 (by decide) (C := "NonceBoxModel") t13_37 rfl (m_Md_times l G A ad ev13 3 4 3 (wdC (R12 12) (R12 12) 10) R13 tl ol cd t13_37 t13_44 t13_45 (by decide) (by decide) (by decide)) kc_Md_times kl_Md_152 km_Md_times kv_Md_times ki_Md (by decide +kernel) ⟨rfl, rfl, Nat.le_of_ble_eq_true rfl, Nat.le_of_ble_eq_true rfl⟩ hl.1 rfl rfl (Nat.le_of_ble_eq_true rfl) ⟨Nat.le_refl _, Nat.le_refl _⟩ d_Md_ladder_120 ?_
  intro ov ev14 H locs hp h
  rw [hp.1]
  refine W.eq (g2 := F0 m 123 ls []) rfl ?_
  have o14 : ev14 = (va_up (va_up ev13 45 (eJ G 20 (wdC (R13 4) (R13 3) 10))) 44 (eJ G 160 (flat (va_up R13 3 (rtm (R13 4) (R13 3)))))) := hp.2
  have t14_45 : ev14 45 = eJ G 20 (wdC (R13 4) (R13 3) 10) := by rw [o14, va_up_ne _ _ (by decide), va_up_self]
  have t14_44 : ev14 44 = eJ G 160 (flat (va_up R13 3 (rtm (R13 4) (R13 3)))) := by rw [o14, va_up_self]
  have t14_37 := (show ev14 37 = ev13 37 by rw [o14, va_up_ne _ _ (by decide), va_up_ne _ _ (by decide)]).trans t13_37
  obtain ⟨R14, hR14⟩ : ∃ z, z = va_up R13 3 (rtm (R13 4) (R13 3)) := ⟨_, rfl⟩
  rw [← hR14] at t14_44
  have n_R14_0 : Rm (R14 0) (va) := by rw [hR14, va_up_ne _ _ (by decide)]; exact n_R13_0
  have n_R14_1 : Rm (R14 1) (vb) := by rw [hR14, va_up_ne _ _ (by decide)]; exact n_R13_1
  have n_R14_4 : Rm (R14 4) (vu) := by rw [hR14, va_up_ne _ _ (by decide)]; exact n_R13_4
  have n_R14_13 : Rm (R14 13) (121665) := by rw [hR14, va_up_ne _ _ (by decide)]; exact n_R13_13
  have n_R14_5 : Rm (R14 5) (va + vb) := by rw [hR14, va_up_ne _ _ (by decide)]; exact n_R13_5
  have n_R14_6 : Rm (R14 6) (va - vb) := by rw [hR14, va_up_ne _ _ (by decide)]; exact n_R13_6
  have n_R14_7 : Rm (R14 7) (sG va vb vc vd) := by rw [hR14, va_up_ne _ _ (by decide)]; exact n_R13_7
  have n_R14_8 : Rm (R14 8) (sH va vb vc vd) := by rw [hR14, va_up_ne _ _ (by decide)]; exact n_R13_8
  have n_R14_9 : Rm (R14 9) (sQ va vb) := by rw [hR14, va_up_ne _ _ (by decide)]; exact n_R13_9
  have n_R14_10 : Rm (R14 10) (sR va vb) := by rw [hR14, va_up_ne _ _ (by decide)]; exact n_R13_10
  have n_R14_11 : Rm (R14 11) (sT va vb) := by rw [hR14, va_up_ne _ _ (by decide)]; exact n_R13_11
  have n_R14_2 : Rm (R14 2) (sC va vb vc vd) := by rw [hR14, va_up_ne _ _ (by decide)]; exact n_R13_2
  have n_R14_12 : Rm (R14 12) (sG va vb vc vd - sH va vb vc vd) := by rw [hR14, va_up_ne _ _ (by decide)]; exact n_R13_12
  have n_R14_3 : Rm (R14 3) (sD vu va vb vc vd) := by rw [hR14, va_up_self]; exact Rm_tm n_R13_4 n_R13_3
  refine lv_aload_n hx hb d_Md_ladder_123 rfl (lv_at hl 0 rfl) ?_
  refine lv_iconst (v := nI (0)) hx hb d_Md_ladder_124 (by decide) ?_
  refine lv_bipush (v := nI (9)) hx hb d_Md_ladder_125 (by decide) ?_
  refine lv_bipush (v := nI (10)) hx hb d_Md_ladder_127 (by decide) ?_
  refine wv_V (As := [.int (nI (0)), .int (nI (9)), .int (nI (10))]) (rest := []) (k := 3) ⟨hx, hb, hml, hown, hts⟩ h 37 (by decide) (C := "NonceBoxModel") t14_37 rfl (m_Md_times l G A ad ev14 0 9 10 (wdC (R13 4) (R13 3) 10) R14 tl ol cd t14_37 t14_44 t14_45 (by decide) (by decide) (by decide)) kc_Md_times kl_Md_152 km_Md_times kv_Md_times ki_Md (by decide +kernel) ⟨rfl, rfl, Nat.le_of_ble_eq_true rfl, Nat.le_of_ble_eq_true rfl⟩ hl.1 rfl rfl (Nat.le_of_ble_eq_true rfl) ⟨Nat.le_refl _, Nat.le_refl _⟩ d_Md_ladder_129 ?_
  intro ov ev15 H locs hp h
  rw [hp.1]
  refine W.eq (g2 := F0 m 132 ls []) rfl ?_
  have o15 : ev15 = (va_up (va_up ev14 45 (eJ G 20 (wdC (R14 9) (R14 10) 10))) 44 (eJ G 160 (flat (va_up R14 0 (rtm (R14 9) (R14 10)))))) := hp.2
  have t15_45 : ev15 45 = eJ G 20 (wdC (R14 9) (R14 10) 10) := by rw [o15, va_up_ne _ _ (by decide), va_up_self]
  have t15_44 : ev15 44 = eJ G 160 (flat (va_up R14 0 (rtm (R14 9) (R14 10)))) := by rw [o15, va_up_self]
  have t15_37 := (show ev15 37 = ev14 37 by rw [o15, va_up_ne _ _ (by decide), va_up_ne _ _ (by decide)]).trans t14_37
  obtain ⟨R15, hR15⟩ : ∃ z, z = va_up R14 0 (rtm (R14 9) (R14 10)) := ⟨_, rfl⟩
  rw [← hR15] at t15_44
  have n_R15_1 : Rm (R15 1) (vb) := by rw [hR15, va_up_ne _ _ (by decide)]; exact n_R14_1
  have n_R15_4 : Rm (R15 4) (vu) := by rw [hR15, va_up_ne _ _ (by decide)]; exact n_R14_4
  have n_R15_13 : Rm (R15 13) (121665) := by rw [hR15, va_up_ne _ _ (by decide)]; exact n_R14_13
  have n_R15_5 : Rm (R15 5) (va + vb) := by rw [hR15, va_up_ne _ _ (by decide)]; exact n_R14_5
  have n_R15_6 : Rm (R15 6) (va - vb) := by rw [hR15, va_up_ne _ _ (by decide)]; exact n_R14_6
  have n_R15_7 : Rm (R15 7) (sG va vb vc vd) := by rw [hR15, va_up_ne _ _ (by decide)]; exact n_R14_7
  have n_R15_8 : Rm (R15 8) (sH va vb vc vd) := by rw [hR15, va_up_ne _ _ (by decide)]; exact n_R14_8
  have n_R15_9 : Rm (R15 9) (sQ va vb) := by rw [hR15, va_up_ne _ _ (by decide)]; exact n_R14_9
  have n_R15_10 : Rm (R15 10) (sR va vb) := by rw [hR15, va_up_ne _ _ (by decide)]; exact n_R14_10
  have n_R15_11 : Rm (R15 11) (sT va vb) := by rw [hR15, va_up_ne _ _ (by decide)]; exact n_R14_11
  have n_R15_2 : Rm (R15 2) (sC va vb vc vd) := by rw [hR15, va_up_ne _ _ (by decide)]; exact n_R14_2
  have n_R15_12 : Rm (R15 12) (sG va vb vc vd - sH va vb vc vd) := by rw [hR15, va_up_ne _ _ (by decide)]; exact n_R14_12
  have n_R15_3 : Rm (R15 3) (sD vu va vb vc vd) := by rw [hR15, va_up_ne _ _ (by decide)]; exact n_R14_3
  have n_R15_0 : Rm (R15 0) (sA va vb) := by rw [hR15, va_up_self]; exact Rm_tm n_R14_9 n_R14_10
  refine lv_aload_n hx hb d_Md_ladder_132 rfl (lv_at hl 0 rfl) ?_
  refine lv_bipush (v := nI (12)) hx hb d_Md_ladder_133 (by decide) ?_
  refine lv_bipush (v := nI (13)) hx hb d_Md_ladder_135 (by decide) ?_
  refine lv_bipush (v := nI (11)) hx hb d_Md_ladder_137 (by decide) ?_
  refine wv_V (As := [.int (nI (12)), .int (nI (13)), .int (nI (11))]) (rest := []) (k := 3) ⟨hx, hb, hml, hown, hts⟩ h 37 (by decide) (C := "NonceBoxModel") t15_37 rfl (m_Md_times l G A ad ev15 12 13 11 (wdC (R14 9) (R14 10) 10) R15 tl ol cd t15_37 t15_44 t15_45 (by decide) (by decide) (by decide)) kc_Md_times kl_Md_152 km_Md_times kv_Md_times ki_Md (by decide +kernel) ⟨rfl, rfl, Nat.le_of_ble_eq_true rfl, Nat.le_of_ble_eq_true rfl⟩ hl.1 rfl rfl (Nat.le_of_ble_eq_true rfl) ⟨Nat.le_refl _, Nat.le_refl _⟩ d_Md_ladder_139 ?_
  intro ov ev16 H locs hp h
  rw [hp.1]
  refine W.eq (g2 := F0 m 142 ls []) rfl ?_
  have o16 : ev16 = (va_up (va_up ev15 45 (eJ G 20 (wdC (R15 13) (R15 11) 10))) 44 (eJ G 160 (flat (va_up R15 12 (rtm (R15 13) (R15 11)))))) := hp.2
  have t16_45 : ev16 45 = eJ G 20 (wdC (R15 13) (R15 11) 10) := by rw [o16, va_up_ne _ _ (by decide), va_up_self]
  have t16_44 : ev16 44 = eJ G 160 (flat (va_up R15 12 (rtm (R15 13) (R15 11)))) := by rw [o16, va_up_self]
  have t16_37 := (show ev16 37 = ev15 37 by rw [o16, va_up_ne _ _ (by decide), va_up_ne _ _ (by decide)]).trans t15_37
  obtain ⟨R16, hR16⟩ : ∃ z, z = va_up R15 12 (rtm (R15 13) (R15 11)) := ⟨_, rfl⟩
  rw [← hR16] at t16_44
  have n_R16_1 : Rm (R16 1) (vb) := by rw [hR16, va_up_ne _ _ (by decide)]; exact n_R15_1
  have n_R16_4 : Rm (R16 4) (vu) := by rw [hR16, va_up_ne _ _ (by decide)]; exact n_R15_4
  have n_R16_13 : Rm (R16 13) (121665) := by rw [hR16, va_up_ne _ _ (by decide)]; exact n_R15_13
  have n_R16_5 : Rm (R16 5) (va + vb) := by rw [hR16, va_up_ne _ _ (by decide)]; exact n_R15_5
  have n_R16_6 : Rm (R16 6) (va - vb) := by rw [hR16, va_up_ne _ _ (by decide)]; exact n_R15_6
  have n_R16_7 : Rm (R16 7) (sG va vb vc vd) := by rw [hR16, va_up_ne _ _ (by decide)]; exact n_R15_7
  have n_R16_8 : Rm (R16 8) (sH va vb vc vd) := by rw [hR16, va_up_ne _ _ (by decide)]; exact n_R15_8
  have n_R16_9 : Rm (R16 9) (sQ va vb) := by rw [hR16, va_up_ne _ _ (by decide)]; exact n_R15_9
  have n_R16_10 : Rm (R16 10) (sR va vb) := by rw [hR16, va_up_ne _ _ (by decide)]; exact n_R15_10
  have n_R16_11 : Rm (R16 11) (sT va vb) := by rw [hR16, va_up_ne _ _ (by decide)]; exact n_R15_11
  have n_R16_2 : Rm (R16 2) (sC va vb vc vd) := by rw [hR16, va_up_ne _ _ (by decide)]; exact n_R15_2
  have n_R16_3 : Rm (R16 3) (sD vu va vb vc vd) := by rw [hR16, va_up_ne _ _ (by decide)]; exact n_R15_3
  have n_R16_0 : Rm (R16 0) (sA va vb) := by rw [hR16, va_up_ne _ _ (by decide)]; exact n_R15_0
  have n_R16_12 : Rm (R16 12) (121665 * sT va vb) := by rw [hR16, va_up_self]; exact Rm_tm n_R15_13 n_R15_11
  refine lv_aload_n hx hb d_Md_ladder_142 rfl (lv_at hl 0 rfl) ?_
  refine lv_bipush (v := nI (12)) hx hb d_Md_ladder_143 (by decide) ?_
  refine lv_bipush (v := nI (9)) hx hb d_Md_ladder_145 (by decide) ?_
  refine lv_bipush (v := nI (12)) hx hb d_Md_ladder_147 (by decide) ?_
  refine wv_V (As := [.int (nI (12)), .int (nI (9)), .int (nI (12))]) (rest := []) (k := 3) ⟨hx, hb, hml, hown, hts⟩ h 37 (by decide) (C := "NonceBoxModel") t16_37 rfl (m_Md_add l G A ad ev16 12 9 12 R16 tl ol cd t16_37 t16_44 (by decide) (by decide) (by decide)) kc_Md_add kl_Md_145 km_Md_add kv_Md_add ki_Md (by decide +kernel) ⟨rfl, rfl, Nat.le_of_ble_eq_true rfl, Nat.le_of_ble_eq_true rfl⟩ hl.1 rfl rfl (Nat.le_of_ble_eq_true rfl) ⟨Nat.le_refl _, Nat.le_refl _⟩ d_Md_ladder_149 ?_
  intro ov ev17 H locs hp h
  rw [hp.1]
  refine W.eq (g2 := F0 m 152 ls []) rfl ?_
  have o17 : ev17 = (va_up ev16 44 (eJ G 160 (flat (va_up R16 12 (rad (R16 9) (R16 12)))))) := hp.2
  have t17_44 : ev17 44 = eJ G 160 (flat (va_up R16 12 (rad (R16 9) (R16 12)))) := by rw [o17, va_up_self]
  have t17_45 := (show ev17 45 = ev16 45 by rw [o17, va_up_ne _ _ (by decide)]).trans t16_45
  have t17_37 := (show ev17 37 = ev16 37 by rw [o17, va_up_ne _ _ (by decide)]).trans t16_37
  obtain ⟨R17, hR17⟩ : ∃ z, z = va_up R16 12 (rad (R16 9) (R16 12)) := ⟨_, rfl⟩
  rw [← hR17] at t17_44
  have n_R17_1 : Rm (R17 1) (vb) := by rw [hR17, va_up_ne _ _ (by decide)]; exact n_R16_1
  have n_R17_4 : Rm (R17 4) (vu) := by rw [hR17, va_up_ne _ _ (by decide)]; exact n_R16_4
  have n_R17_13 : Rm (R17 13) (121665) := by rw [hR17, va_up_ne _ _ (by decide)]; exact n_R16_13
  have n_R17_5 : Rm (R17 5) (va + vb) := by rw [hR17, va_up_ne _ _ (by decide)]; exact n_R16_5
  have n_R17_6 : Rm (R17 6) (va - vb) := by rw [hR17, va_up_ne _ _ (by decide)]; exact n_R16_6
  have n_R17_7 : Rm (R17 7) (sG va vb vc vd) := by rw [hR17, va_up_ne _ _ (by decide)]; exact n_R16_7
  have n_R17_8 : Rm (R17 8) (sH va vb vc vd) := by rw [hR17, va_up_ne _ _ (by decide)]; exact n_R16_8
  have n_R17_9 : Rm (R17 9) (sQ va vb) := by rw [hR17, va_up_ne _ _ (by decide)]; exact n_R16_9
  have n_R17_10 : Rm (R17 10) (sR va vb) := by rw [hR17, va_up_ne _ _ (by decide)]; exact n_R16_10
  have n_R17_11 : Rm (R17 11) (sT va vb) := by rw [hR17, va_up_ne _ _ (by decide)]; exact n_R16_11
  have n_R17_2 : Rm (R17 2) (sC va vb vc vd) := by rw [hR17, va_up_ne _ _ (by decide)]; exact n_R16_2
  have n_R17_3 : Rm (R17 3) (sD vu va vb vc vd) := by rw [hR17, va_up_ne _ _ (by decide)]; exact n_R16_3
  have n_R17_0 : Rm (R17 0) (sA va vb) := by rw [hR17, va_up_ne _ _ (by decide)]; exact n_R16_0
  have n_R17_12 : Rm (R17 12) (sQ va vb + 121665 * sT va vb) := by rw [hR17, va_up_self]; exact Rm_ad n_R16_9 n_R16_12
  refine lv_aload_n hx hb d_Md_ladder_152 rfl (lv_at hl 0 rfl) ?_
  refine lv_iconst (v := nI (1)) hx hb d_Md_ladder_153 (by decide) ?_
  refine lv_bipush (v := nI (11)) hx hb d_Md_ladder_154 (by decide) ?_
  refine lv_bipush (v := nI (12)) hx hb d_Md_ladder_156 (by decide) ?_
  refine wv_V (As := [.int (nI (1)), .int (nI (11)), .int (nI (12))]) (rest := []) (k := 3) ⟨hx, hb, hml, hown, hts⟩ h 37 (by decide) (C := "NonceBoxModel") t17_37 rfl (m_Md_times l G A ad ev17 1 11 12 (wdC (R15 13) (R15 11) 10) R17 tl ol cd t17_37 t17_44 t17_45 (by decide) (by decide) (by decide)) kc_Md_times kl_Md_152 km_Md_times kv_Md_times ki_Md (by decide +kernel) ⟨rfl, rfl, Nat.le_of_ble_eq_true rfl, Nat.le_of_ble_eq_true rfl⟩ hl.1 rfl rfl (Nat.le_of_ble_eq_true rfl) ⟨Nat.le_refl _, Nat.le_refl _⟩ d_Md_ladder_158 ?_
  intro ov ev18 H locs hp h
  rw [hp.1]
  refine W.eq (g2 := F0 m 161 ls []) rfl ?_
  have o18 : ev18 = (va_up (va_up ev17 45 (eJ G 20 (wdC (R17 11) (R17 12) 10))) 44 (eJ G 160 (flat (va_up R17 1 (rtm (R17 11) (R17 12)))))) := hp.2
  have t18_45 : ev18 45 = eJ G 20 (wdC (R17 11) (R17 12) 10) := by rw [o18, va_up_ne _ _ (by decide), va_up_self]
  have t18_44 : ev18 44 = eJ G 160 (flat (va_up R17 1 (rtm (R17 11) (R17 12)))) := by rw [o18, va_up_self]
  have t18_37 := (show ev18 37 = ev17 37 by rw [o18, va_up_ne _ _ (by decide), va_up_ne _ _ (by decide)]).trans t17_37
  obtain ⟨R18, hR18⟩ : ∃ z, z = va_up R17 1 (rtm (R17 11) (R17 12)) := ⟨_, rfl⟩
  rw [← hR18] at t18_44
  have n_R18_4 : Rm (R18 4) (vu) := by rw [hR18, va_up_ne _ _ (by decide)]; exact n_R17_4
  have n_R18_13 : Rm (R18 13) (121665) := by rw [hR18, va_up_ne _ _ (by decide)]; exact n_R17_13
  have n_R18_5 : Rm (R18 5) (va + vb) := by rw [hR18, va_up_ne _ _ (by decide)]; exact n_R17_5
  have n_R18_6 : Rm (R18 6) (va - vb) := by rw [hR18, va_up_ne _ _ (by decide)]; exact n_R17_6
  have n_R18_7 : Rm (R18 7) (sG va vb vc vd) := by rw [hR18, va_up_ne _ _ (by decide)]; exact n_R17_7
  have n_R18_8 : Rm (R18 8) (sH va vb vc vd) := by rw [hR18, va_up_ne _ _ (by decide)]; exact n_R17_8
  have n_R18_9 : Rm (R18 9) (sQ va vb) := by rw [hR18, va_up_ne _ _ (by decide)]; exact n_R17_9
  have n_R18_10 : Rm (R18 10) (sR va vb) := by rw [hR18, va_up_ne _ _ (by decide)]; exact n_R17_10
  have n_R18_11 : Rm (R18 11) (sT va vb) := by rw [hR18, va_up_ne _ _ (by decide)]; exact n_R17_11
  have n_R18_2 : Rm (R18 2) (sC va vb vc vd) := by rw [hR18, va_up_ne _ _ (by decide)]; exact n_R17_2
  have n_R18_3 : Rm (R18 3) (sD vu va vb vc vd) := by rw [hR18, va_up_ne _ _ (by decide)]; exact n_R17_3
  have n_R18_0 : Rm (R18 0) (sA va vb) := by rw [hR18, va_up_ne _ _ (by decide)]; exact n_R17_0
  have n_R18_12 : Rm (R18 12) (sQ va vb + 121665 * sT va vb) := by rw [hR18, va_up_ne _ _ (by decide)]; exact n_R17_12
  have n_R18_1 : Rm (R18 1) (sB va vb) := by rw [hR18, va_up_self]; exact Rm_tm n_R17_11 n_R17_12
  refine wv_vret hx hb hr hlocks h d_Md_ladder_161 ⟨rfl, R18, (wdC (R17 11) (R17 12) 10), ?_, n_R18_0, n_R18_1, n_R18_2, n_R18_3, n_R18_4, n_R18_13⟩
  funext j
  by_cases c0 : j = 45
  · rw [c0, t18_45, va_up_ne _ _ (by decide), va_up_self]
  by_cases c1 : j = 44
  · rw [c1, t18_44, va_up_self]
  rw [va_up_ne _ _ c1, va_up_ne _ _ c0]
  rw [o18, va_up_ne _ _ c1, va_up_ne _ _ c0, o17, va_up_ne _ _ c1, o16, va_up_ne _ _ c1, va_up_ne _ _ c0, o15, va_up_ne _ _ c1, va_up_ne _ _ c0, o14, va_up_ne _ _ c1, va_up_ne _ _ c0, o13, va_up_ne _ _ c1, va_up_ne _ _ c0, o12, va_up_ne _ _ c1, o11, va_up_ne _ _ c1, va_up_ne _ _ c0, o10, va_up_ne _ _ c1, o9, va_up_ne _ _ c1, o8, va_up_ne _ _ c1, va_up_ne _ _ c0, o7, va_up_ne _ _ c1, va_up_ne _ _ c0, o6, va_up_ne _ _ c1, va_up_ne _ _ c0, o5, va_up_ne _ _ c1, o4, va_up_ne _ _ c1, va_up_ne _ _ c0, o3, va_up_ne _ _ c1, o2, va_up_ne _ _ c1, o1, va_up_ne _ _ c1]
