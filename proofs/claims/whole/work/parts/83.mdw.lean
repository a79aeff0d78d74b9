/-! the reference's makeTag -/
theorem ovK_s (a : Nat → Int64) (k : Nat) : sar (a k + ovK a k) 26 = ovK a (k + 1) := rfl
def pl1 (f : Nat → Int64) (sz : Nat) : Nat → Int64 := va_up f (8 * sz / 26) (f (8 * sz / 26) + sal 1 (8 * sz % 26))
def tT (r : Row) (Y : Nat → Nat) (n : Nat) : Nat → Row
  | 0 => fun _ => 0
  | k + 1 => tmR (pl1 (adBit (tT r Y n k) (fun j => Y (16 * k + j)) (8 * min 16 (n - 16 * k))) (min 16 (n - 16 * k))) r
def rT (K : Nat → Nat) : Row := adBit (fun _ => 0) (FCT K) 128
theorem vI_z : ∀ n, vI (fun _ => 0) n = 0
  | 0 => rfl
  | n + 1 => by
    rw [vI, vI_z n]
    show (0 : Int) + (0 : Int64).toInt * _ = 0
    rw [show (0 : Int64).toInt = 0 from rfl]
    omega
theorem rT_spec {K : Nat → Nat} (hK : ∀ j, K j < 256) : Dg (rT K) 5 ∧ vI (rT K) 5 = rI K := by
  obtain ⟨h1, h2⟩ := adBit_spec (f := fun _ => 0) (B := FCT K) (M := 5) (fun j _ => by show 0 ≤ (0 : Int64).toInt ∧ (0 : Int64).toInt ≤ _; rw [show (0 : Int64).toInt = 0 from rfl]; decide) 128 (by decide)
  refine ⟨fun j hj => ?_, ?_⟩
  · have := h1 j hj
    have e : ((fun _ => 0 : Nat → Int64) j).toInt = 0 := rfl
    rw [e] at this
    have hm : (2 : Int) ^ (min 26 (128 - 26 * j)) ≤ 2 ^ 26 := pw_le (by omega)
    rw [show (2 : Int) ^ 26 = 67108864 from by decide] at hm
    unfold rT
    omega
  · unfold rT
    rw [h2, vI_z, show (128 : Nat) = 8 * 16 from rfl, bS_wd (FCT_lt hK)]
    unfold rI
    omega
theorem tT_spec {K Y : Nat → Nat} {n : Nat} (hK : ∀ j, K j < 256) (hY : ∀ j, Y j < 256) : ∀ k, Dg (tT (rT K) Y n k) 5 ∧ cg 1361129467683753853853498429727072845819 (vI (tT (rT K) Y n k) 5) (tgI (rI K) Y 0 n k)
  | 0 => ⟨fun i _ => by show 0 ≤ (0 : Int64).toInt ∧ (0 : Int64).toInt < 67108864; decide, by rw [show vI (tT (rT K) Y n 0) 5 = 0 from vI_z 5]; exact cg_r _ _⟩
  | k + 1 => by
    obtain ⟨h1, h2⟩ := tT_spec (n := n) hK hY k
    obtain ⟨f1, f2⟩ := rT_spec hK
    obtain ⟨sz, hsz⟩ : ∃ sz, sz = min 16 (n - 16 * k) := ⟨_, rfl⟩
    have hs16 : sz ≤ 16 := by omega
    obtain ⟨a1, a2⟩ := adBit_spec (f := tT (rT K) Y n k) (B := fun j => Y (16 * k + j)) (M := 5) (fun j hj => by have := h1 j hj; omega) (8 * sz) (by omega)
    obtain ⟨g, hg⟩ : ∃ g, g = adBit (tT (rT K) Y n k) (fun j => Y (16 * k + j)) (8 * sz) := ⟨_, rfl⟩
    rw [← hg] at a1 a2
    have b1 : ∀ j, j < 5 → 0 ≤ (g j).toInt ∧ (g j).toInt < 134217728 := by
      intro j hj
      have q1 := a1 j hj
      have q2 := h1 j hj
      have hm : (2 : Int) ^ (min 26 (8 * sz - 26 * j)) ≤ 2 ^ 26 := pw_le (by omega)
      rw [show (2 : Int) ^ 26 = 67108864 from by decide] at hm
      omega
    have hq1 : (2 : Int) ^ (8 * sz % 26) ≤ 33554432 := pw_le (show 8 * sz % 26 ≤ 25 by omega)
    have hq0 : (0 : Int) < 2 ^ (8 * sz % 26) := Int.pow_pos (by decide)
    have es : (sal 1 (8 * sz % 26)).toInt = 2 ^ (8 * sz % 26) := by
      rw [sal_i (by omega) (by rw [one_i]; omega) (by rw [one_i]; omega), one_i, Int.one_mul]
    have bi := b1 (8 * sz / 26) (by omega)
    have ea : (g (8 * sz / 26) + sal 1 (8 * sz % 26)).toInt = (g (8 * sz / 26)).toInt + 2 ^ (8 * sz % 26) := by
      rw [add_i (by rw [es]; omega) (by rw [es]; omega), es]
    have hA : Ag (pl1 g sz) 5 := by
      intro j hj
      unfold pl1
      by_cases c : j = 8 * sz / 26
      · rw [c, va_up_self, ea]; omega
      · have := b1 j hj
        rw [va_up_ne _ _ c]; omega
    have hv : vI (pl1 g sz) 5 = vI g 5 + 2 ^ (8 * sz) := by
      unfold pl1
      rw [vI_up, if_pos (by omega), ea, ← p8 sz]
      grind
    obtain ⟨t1, t2⟩ := tmR_spec hA f1
    have eT : tT (rT K) Y n (k + 1) = tmR (pl1 g sz) (rT K) := by rw [hg, hsz]; rfl
    rw [eT]
    refine ⟨t1, cg_t t2 (cg_s (cg_t (cg_e _ _) ?_))⟩
    have ew0 : wd8 (fun j => Y (16 * k + j)) 0 sz = wd8 Y (0 + 16 * k) sz := wd8_congr (B := fun j => Y (16 * k + j)) (C := Y) (o := 0) (o2 := 0 + 16 * k) (fun j _ => by
      show Y (16 * k + (0 + j)) = Y (0 + 16 * k + j)
      rw [Nat.zero_add, Nat.zero_add])
    have ew : (bS (fun j => Y (16 * k + j)) (8 * sz) : Int) = (wd8 Y (0 + 16 * k) sz : Int) := by
      rw [bS_wd (B := fun j => Y (16 * k + j)) (fun j => hY _), ew0]
    rw [hv, a2, f2, ew, ← hsz]
    exact cg_m (cg_a (cg_a (cg_s h2) (cg_r _ _)) (cg_r _ _)) (cg_r _ _)
/-- the reference's number before the key's other half is added -/
theorem fin_eq {K Y : Nat → Nat} {n : Nat} (hK : ∀ j, K j < 256) (hY : ∀ j, Y j < 256) : Dg (finT (tT (rT K) Y n ((n + 15) / 16))) 5 ∧ vI (finT (tT (rT K) Y n ((n + 15) / 16))) 5 = tgI (rI K) Y 0 n ((n + 15) / 16) := by
  obtain ⟨h1, h2⟩ := tT_spec (n := n) hK hY ((n + 15) / 16)
  obtain ⟨f1, f2, f3⟩ := finT_spec h1
  exact ⟨f1, cg_u (cg_t f3 h2) ⟨(Dg_v f1).1, f2⟩ (tgI_rng _ _ _ _ _)⟩
/-! a sum, byte by byte -/
def ocB (V S : Nat) : Nat → Nat
  | 0 => 0
  | k + 1 => (V / 2 ^ (8 * k) % 256 + S / 2 ^ (8 * k) % 256 + ocB V S k) / 256
theorem ocB_eq (V S : Nat) : ∀ k, ocB V S k = (V % 2 ^ (8 * k) + S % 2 ^ (8 * k)) / 2 ^ (8 * k)
  | 0 => by simp [ocB, Nat.mod_one]
  | k + 1 => by
    have hp : 0 < 2 ^ (8 * k) := Nat.pow_pos (by decide)
    rw [ocB, ocB_eq V S k, show 8 * (k + 1) = 8 * k + 8 by omega, Nat.pow_add, show 2 ^ 8 = 256 from rfl]
    rw [Nat.mod_mul, Nat.mod_mul, ← Nat.div_div_eq_div_mul]
    congr 1
    generalize 2 ^ (8 * k) = P at hp ⊢
    generalize V / P % 256 = v
    generalize S / P % 256 = w
    rw [show V % P + P * v + (S % P + P * w) = V % P + S % P + P * (v + w) by grind, Nat.add_mul_div_left _ _ hp]
    omega
theorem sum_byte (V S k : Nat) : (V / 2 ^ (8 * k) % 256 + S / 2 ^ (8 * k) % 256 + ocB V S k) % 256 = (V + S) / 2 ^ (8 * k) % 256 := by
  have hp : 0 < 2 ^ (8 * k) := Nat.pow_pos (by decide)
  rw [ocB_eq]
  generalize 2 ^ (8 * k) = P at hp ⊢
  have e : (V + S) / P = V / P + S / P + (V % P + S % P) / P := by
    have h1 := Nat.div_add_mod V P
    have h2 := Nat.div_add_mod S P
    conv => lhs; rw [← h1, ← h2, show P * (V / P) + V % P + (P * (S / P) + S % P) = V % P + S % P + P * (V / P + S / P) by grind, Nat.add_mul_div_left _ _ hp]
    omega
  rw [e]
  omega
theorem ocB_le (V S : Nat) (k : Nat) : ocB V S k ≤ 1 := by
  have hp : 0 < 2 ^ (8 * k) := Nat.pow_pos (by decide)
  rw [ocB_eq]
  have h1 := Nat.mod_lt V hp
  have h2 := Nat.mod_lt S hp
  have : (V % 2 ^ (8 * k) + S % 2 ^ (8 * k)) / 2 ^ (8 * k) < 2 := Nat.div_lt_of_lt_mul (by omega)
  omega
theorem wd8_dig {B : Nat → Nat} (hB : ∀ j, B j < 256) (o : Nat) : ∀ n k, k < n → wd8 B o n / 2 ^ (8 * k) % 256 = B (o + k)
  | 0, k, h => absurd h (by omega)
  | n + 1, k, h => by
    have hp : 0 < 2 ^ (8 * k) := Nat.pow_pos (by decide)
    by_cases c : k = n
    · subst c
      have := wd8_lt hB o k
      rw [wd8, Nat.mul_comm, Nat.add_mul_div_left _ _ hp, Nat.div_eq_of_lt this, Nat.zero_add, Nat.mod_eq_of_lt (hB _)]
    · rw [wd8, show 8 * n = 8 * k + (8 * (n - k - 1) + 8) by omega, Nat.pow_add, show B (o + n) * (2 ^ (8 * k) * 2 ^ (8 * (n - k - 1) + 8)) = 2 ^ (8 * k) * (B (o + n) * 2 ^ (8 * (n - k - 1) + 8)) by grind, Nat.add_mul_div_left _ _ hp, Nat.pow_add, show 2 ^ 8 = 256 from rfl, ← Nat.mul_assoc, Nat.add_mul_mod_self_right]
      exact wd8_dig hB o n k (by omega)
theorem d_Md_finishTag_0 : decode c_Md_finishTag 0 = .ok (.aload_n 0, 1) := by decide +kernel
theorem d_Md_finishTag_1 : decode c_Md_finishTag 1 = .ok (.invokevirtual 117, 3) := by decide +kernel
theorem d_Md_finishTag_4 : decode c_Md_finishTag 4 = .ok (.ldc2_w 115, 3) := by decide +kernel
theorem d_Md_finishTag_7 : decode c_Md_finishTag 7 = .ok (.lstore_n 1, 1) := by decide +kernel
theorem d_Md_finishTag_8 : decode c_Md_finishTag 8 = .ok (.iconst 0, 1) := by decide +kernel
theorem d_Md_finishTag_9 : decode c_Md_finishTag 9 = .ok (.istore_n 3, 1) := by decide +kernel
theorem d_Md_finishTag_10 : decode c_Md_finishTag 10 = .ok (.iload_n 3, 1) := by decide +kernel
theorem d_Md_finishTag_11 : decode c_Md_finishTag 11 = .ok (.iconst 5, 1) := by decide +kernel
theorem d_Md_finishTag_12 : decode c_Md_finishTag 12 = .ok (.if_icmp .ge 21, 3) := by decide +kernel
theorem d_Md_finishTag_15 : decode c_Md_finishTag 15 = .ok (.aload_n 0, 1) := by decide +kernel
theorem d_Md_finishTag_16 : decode c_Md_finishTag 16 = .ok (.getfield 35, 3) := by decide +kernel
theorem d_Md_finishTag_19 : decode c_Md_finishTag 19 = .ok (.iload_n 3, 1) := by decide +kernel
theorem d_Md_finishTag_20 : decode c_Md_finishTag 20 = .ok (.laload, 1) := by decide +kernel
theorem d_Md_finishTag_21 : decode c_Md_finishTag 21 = .ok (.lload_n 1, 1) := by decide +kernel
theorem d_Md_finishTag_22 : decode c_Md_finishTag 22 = .ok (.ladd, 1) := by decide +kernel
theorem d_Md_finishTag_23 : decode c_Md_finishTag 23 = .ok (.bipush 26, 2) := by decide +kernel
theorem d_Md_finishTag_25 : decode c_Md_finishTag 25 = .ok (.lshr, 1) := by decide +kernel
theorem d_Md_finishTag_26 : decode c_Md_finishTag 26 = .ok (.lstore_n 1, 1) := by decide +kernel
theorem d_Md_finishTag_27 : decode c_Md_finishTag 27 = .ok (.iinc 3 1, 3) := by decide +kernel
theorem d_Md_finishTag_30 : decode c_Md_finishTag 30 = .ok (.goto (-20), 3) := by decide +kernel
theorem d_Md_finishTag_33 : decode c_Md_finishTag 33 = .ok (.lload_n 1, 1) := by decide +kernel
theorem d_Md_finishTag_34 : decode c_Md_finishTag 34 = .ok (.lconst 0, 1) := by decide +kernel
theorem d_Md_finishTag_35 : decode c_Md_finishTag 35 = .ok (.lcmp, 1) := by decide +kernel
theorem d_Md_finishTag_36 : decode c_Md_finishTag 36 = .ok (.ifCond .le 90, 3) := by decide +kernel
theorem d_Md_finishTag_39 : decode c_Md_finishTag 39 = .ok (.aload_n 0, 1) := by decide +kernel
theorem d_Md_finishTag_40 : decode c_Md_finishTag 40 = .ok (.getfield 35, 3) := by decide +kernel
theorem d_Md_finishTag_43 : decode c_Md_finishTag 43 = .ok (.iconst 0, 1) := by decide +kernel
theorem d_Md_finishTag_44 : decode c_Md_finishTag 44 = .ok (.aload_n 0, 1) := by decide +kernel
theorem d_Md_finishTag_45 : decode c_Md_finishTag 45 = .ok (.getfield 35, 3) := by decide +kernel
theorem d_Md_finishTag_48 : decode c_Md_finishTag 48 = .ok (.iconst 0, 1) := by decide +kernel
theorem d_Md_finishTag_49 : decode c_Md_finishTag 49 = .ok (.laload, 1) := by decide +kernel
theorem d_Md_finishTag_50 : decode c_Md_finishTag 50 = .ok (.ldc2_w 115, 3) := by decide +kernel
theorem d_Md_finishTag_53 : decode c_Md_finishTag 53 = .ok (.ladd, 1) := by decide +kernel
theorem d_Md_finishTag_54 : decode c_Md_finishTag 54 = .ok (.lastore, 1) := by decide +kernel
theorem d_Md_finishTag_55 : decode c_Md_finishTag 55 = .ok (.iconst 0, 1) := by decide +kernel
theorem d_Md_finishTag_56 : decode c_Md_finishTag 56 = .ok (.istore_n 3, 1) := by decide +kernel
theorem d_Md_finishTag_57 : decode c_Md_finishTag 57 = .ok (.iload_n 3, 1) := by decide +kernel
theorem d_Md_finishTag_58 : decode c_Md_finishTag 58 = .ok (.iconst 4, 1) := by decide +kernel
theorem d_Md_finishTag_59 : decode c_Md_finishTag 59 = .ok (.if_icmp .ge 51, 3) := by decide +kernel
theorem d_Md_finishTag_62 : decode c_Md_finishTag 62 = .ok (.aload_n 0, 1) := by decide +kernel
theorem d_Md_finishTag_63 : decode c_Md_finishTag 63 = .ok (.getfield 35, 3) := by decide +kernel
theorem d_Md_finishTag_66 : decode c_Md_finishTag 66 = .ok (.iload_n 3, 1) := by decide +kernel
theorem d_Md_finishTag_67 : decode c_Md_finishTag 67 = .ok (.iconst 1, 1) := by decide +kernel
theorem d_Md_finishTag_68 : decode c_Md_finishTag 68 = .ok (.iadd, 1) := by decide +kernel
theorem d_Md_finishTag_69 : decode c_Md_finishTag 69 = .ok (.aload_n 0, 1) := by decide +kernel
theorem d_Md_finishTag_70 : decode c_Md_finishTag 70 = .ok (.getfield 35, 3) := by decide +kernel
theorem d_Md_finishTag_73 : decode c_Md_finishTag 73 = .ok (.iload_n 3, 1) := by decide +kernel
theorem d_Md_finishTag_74 : decode c_Md_finishTag 74 = .ok (.iconst 1, 1) := by decide +kernel
theorem d_Md_finishTag_75 : decode c_Md_finishTag 75 = .ok (.iadd, 1) := by decide +kernel
theorem d_Md_finishTag_76 : decode c_Md_finishTag 76 = .ok (.laload, 1) := by decide +kernel
theorem d_Md_finishTag_77 : decode c_Md_finishTag 77 = .ok (.aload_n 0, 1) := by decide +kernel
theorem d_Md_finishTag_78 : decode c_Md_finishTag 78 = .ok (.getfield 35, 3) := by decide +kernel
theorem d_Md_finishTag_81 : decode c_Md_finishTag 81 = .ok (.iload_n 3, 1) := by decide +kernel
theorem d_Md_finishTag_82 : decode c_Md_finishTag 82 = .ok (.laload, 1) := by decide +kernel
theorem d_Md_finishTag_83 : decode c_Md_finishTag 83 = .ok (.bipush 26, 2) := by decide +kernel
theorem d_Md_finishTag_85 : decode c_Md_finishTag 85 = .ok (.lshr, 1) := by decide +kernel
theorem d_Md_finishTag_86 : decode c_Md_finishTag 86 = .ok (.ladd, 1) := by decide +kernel
theorem d_Md_finishTag_87 : decode c_Md_finishTag 87 = .ok (.lastore, 1) := by decide +kernel
theorem d_Md_finishTag_88 : decode c_Md_finishTag 88 = .ok (.aload_n 0, 1) := by decide +kernel
theorem d_Md_finishTag_89 : decode c_Md_finishTag 89 = .ok (.getfield 35, 3) := by decide +kernel
theorem d_Md_finishTag_92 : decode c_Md_finishTag 92 = .ok (.iload_n 3, 1) := by decide +kernel
theorem d_Md_finishTag_93 : decode c_Md_finishTag 93 = .ok (.aload_n 0, 1) := by decide +kernel
theorem d_Md_finishTag_94 : decode c_Md_finishTag 94 = .ok (.getfield 35, 3) := by decide +kernel
theorem d_Md_finishTag_97 : decode c_Md_finishTag 97 = .ok (.iload_n 3, 1) := by decide +kernel
theorem d_Md_finishTag_98 : decode c_Md_finishTag 98 = .ok (.laload, 1) := by decide +kernel
theorem d_Md_finishTag_99 : decode c_Md_finishTag 99 = .ok (.ldc2_w 113, 3) := by decide +kernel
theorem d_Md_finishTag_102 : decode c_Md_finishTag 102 = .ok (.land, 1) := by decide +kernel
theorem d_Md_finishTag_103 : decode c_Md_finishTag 103 = .ok (.lastore, 1) := by decide +kernel
theorem d_Md_finishTag_104 : decode c_Md_finishTag 104 = .ok (.iinc 3 1, 3) := by decide +kernel
theorem d_Md_finishTag_107 : decode c_Md_finishTag 107 = .ok (.goto (-50), 3) := by decide +kernel
theorem d_Md_finishTag_110 : decode c_Md_finishTag 110 = .ok (.aload_n 0, 1) := by decide +kernel
theorem d_Md_finishTag_111 : decode c_Md_finishTag 111 = .ok (.getfield 35, 3) := by decide +kernel
theorem d_Md_finishTag_114 : decode c_Md_finishTag 114 = .ok (.iconst 4, 1) := by decide +kernel
theorem d_Md_finishTag_115 : decode c_Md_finishTag 115 = .ok (.aload_n 0, 1) := by decide +kernel
theorem d_Md_finishTag_116 : decode c_Md_finishTag 116 = .ok (.getfield 35, 3) := by decide +kernel
theorem d_Md_finishTag_119 : decode c_Md_finishTag 119 = .ok (.iconst 4, 1) := by decide +kernel
theorem d_Md_finishTag_120 : decode c_Md_finishTag 120 = .ok (.laload, 1) := by decide +kernel
theorem d_Md_finishTag_121 : decode c_Md_finishTag 121 = .ok (.ldc2_w 113, 3) := by decide +kernel
theorem d_Md_finishTag_124 : decode c_Md_finishTag 124 = .ok (.land, 1) := by decide +kernel
theorem d_Md_finishTag_125 : decode c_Md_finishTag 125 = .ok (.lastore, 1) := by decide +kernel
theorem d_Md_finishTag_126 : decode c_Md_finishTag 126 = .ok (.return_, 1) := by decide +kernel
set_option maxRecDepth 100000 in
set_option maxHeartbeats 4000000 in
/-- the one number under p -/
theorem m_Md_finishTag (l : Launch) (G : wG) (A : Nat → Prop) (ad : Nat → Nat) (ev : Nat → va_E) (f : Nat → Int64) (tl ol cd : Nat) (h37 : ev 37 = eO 5 [.ref (ad 38), .int (nI tl), .int (nI ol), .int (nI cd), .ref (ad 39), .ref (ad 40), .ref (ad 41), .ref (ad 42), .ref (ad 43), .ref (ad 44), .ref (ad 45), .ref (ad 46), .ref (ad 47), .ref (ad 48), .ref (ad 49), .ref (ad 50)]) (h46 : ev 46 = eJ G 5 f) : wM l y_Md_finishTag w_Md_finishTag ({ frames := 3, cells := 0, slots := 0, locals := 100 }) G A 52 ad ev [.ref (ad 37)] (fun ov ev' => ov = none ∧ ev' = va_up ev 46 (eJ G 5 (finT f))) := by
  refine wv_ofW (cc := c_Md_finishTag) (maxL := 4) (ret := none) (by decide) rfl (Nat.le_of_ble_eq_true rfl) ?_
  intro p e s m below meth c ls hx hb hr hml hts hown hlocks hini h hl
  have hl : lv_has ls 4 [(0, .ref (ad 37))] := hl
  refine lv_aload_n hx hb d_Md_finishTag_0 rfl (lv_at hl 0 rfl) ?_
  refine wv_V (As := []) (rest := []) (k := 0) ⟨hx, hb, hml, hown, hts⟩ h 37 (by decide) (C := "NonceBoxModel") h37 rfl (m_Md_carryTag l G A ad ev f tl ol cd h37 h46) kc_Md_carryTag kl_Md_117 km_Md_carryTag kv_Md_carryTag ki_Md (by decide +kernel) ⟨rfl, rfl, Nat.le_of_ble_eq_true rfl, Nat.le_of_ble_eq_true rfl⟩ hl.1 rfl rfl (Nat.le_of_ble_eq_true rfl) ⟨Nat.le_refl _, Nat.le_refl _⟩ d_Md_finishTag_1 ?_
  intro ov ev1 H locs hp h
  rw [hp.1]
  refine W.eq (g2 := F0 m 4 ls []) rfl ?_
  have o1 : ev1 = (va_up ev 46 (eJ G 5 (ct3 f 3))) := hp.2
  have t1_46 : ev1 46 = eJ G 5 (ct3 f 3) := by rw [o1, va_up_self]
  have t1_37 := (show ev1 37 = ev 37 by rw [o1, va_up_ne _ _ (by decide)]).trans h37
  obtain ⟨g, hg⟩ : ∃ g, g = ct3 f 3 := ⟨_, rfl⟩
  rw [← hg] at o1 t1_46
  refine lv_ldc2 (v := 5) hx hb hown (hts _ (List.mem_cons_of_mem _ ko_Md_115)) d_Md_finishTag_4 ?_
  refine lv_lstore_n (lv' := [(1, .long (5)), (0, .ref (ad 37))]) hx hb d_Md_finishTag_7 rfl hl (by decide) rfl (fun ls hl => ?_)
  refine lv_iconst (v := nI (0)) hx hb d_Md_finishTag_8 (by decide) ?_
  refine lv_istore_n (lv' := [(3, .int (nI (0))), (1, .long (5)), (0, .ref (ad 37))]) hx hb d_Md_finishTag_9 rfl hl (by decide) rfl (fun ls hl => ?_)
  have loop : ∀ (d k : Nat), k + d = 5 → ∀ (ls : Array Slot), lv_has ls 4 [(3, .int (nI (k))), (1, .long (ovK g k)), (0, .ref (ad 37))] → W p l e ({ frames := 3, cells := 0, slots := 0, locals := 100 }) s m ([.ref (ad 37)] : List Value).toArray below meth c H locs 0 0 (MQ below (wQc G A 52 ad (fun ov ev' => ov = none ∧ ev' = va_up ev 46 (eJ G 5 (finT f)))) ([.ref (ad 37)] : List Value).toArray s 0 0 A) (F0 m 10 ls []) := by
    intro d
    induction d with
    | zero =>
      intro k hk ls hl
      refine lv_iload_n hx hb d_Md_finishTag_10 rfl (lv_at hl 0 rfl) ?_
      refine lv_iconst (v := nI (5)) hx hb d_Md_finishTag_11 (by decide) ?_
      refine lv_icmp_ge (tgt := 33) hx hb d_Md_finishTag_12 (by decide) (fun _ => ?_) (fun hc => absurd ((nI_leI (by omega) (by omega)).mpr (by omega)) hc)
      rw [show k = 5 by omega] at hl
      refine lv_lload_n hx hb d_Md_finishTag_33 rfl (lv_at hl 1 rfl) ?_
      refine lv_lconst (v := 0) hx hb d_Md_finishTag_34 (by decide) ?_
      refine W.lcmp hx hb d_Md_finishTag_35 ?_
      by_cases hc : 0 < (ovK g 5).toInt
      · have e1 : lg_cmp (ovK g 5) 0 = 1 := by
          unfold lg_cmp
          have h1 : (0 : Int64) < ovK g 5 := Int64.lt_iff_toInt_lt.mpr hc
          simp [h1, lg_lt_not h1, lg_lt_ne h1, Ne.symm (lg_lt_ne h1)]
        rw [e1]
        refine lv_if_le (tgt := 126) hx hb d_Md_finishTag_36 (by decide) (fun hc2 => absurd hc2 (by decide)) (fun _ => ?_)
        refine lv_aload_n hx hb d_Md_finishTag_39 rfl (lv_at hl 2 rfl) ?_
        refine wv_getf hx hb h 37 (by decide) (fs := [.ref (ad 38), .int (nI (tl)), .int (nI (ol)), .int (nI (cd)), .ref (ad 39), .ref (ad 40), .ref (ad 41), .ref (ad 42), .ref (ad 43), .ref (ad 44), .ref (ad 45), .ref (ad 46), .ref (ad 47), .ref (ad 48), .ref (ad 49), .ref (ad 50)]) t1_37 hts (fun w hw => List.mem_cons_of_mem _ (fW_Md w hw)) hown (ci := 5) (C := "NonceBoxModel") (T := fT_Md) (N := 16) rfl 11 (by decide) (hts _ (List.mem_cons_of_mem _ kf_Md_35)) rfl (v := .ref (ad 46)) rfl d_Md_finishTag_40 ?_
        refine lv_iconst (v := nI (0)) hx hb d_Md_finishTag_43 (by decide) ?_
        refine lv_aload_n hx hb d_Md_finishTag_44 rfl (lv_at hl 2 rfl) ?_
        refine wv_getf hx hb h 37 (by decide) (fs := [.ref (ad 38), .int (nI (tl)), .int (nI (ol)), .int (nI (cd)), .ref (ad 39), .ref (ad 40), .ref (ad 41), .ref (ad 42), .ref (ad 43), .ref (ad 44), .ref (ad 45), .ref (ad 46), .ref (ad 47), .ref (ad 48), .ref (ad 49), .ref (ad 50)]) t1_37 hts (fun w hw => List.mem_cons_of_mem _ (fW_Md w hw)) hown (ci := 5) (C := "NonceBoxModel") (T := fT_Md) (N := 16) rfl 11 (by decide) (hts _ (List.mem_cons_of_mem _ kf_Md_35)) rfl (v := .ref (ad 46)) rfl d_Md_finishTag_45 ?_
        refine lv_iconst (v := nI (0)) hx hb d_Md_finishTag_48 (by decide) ?_
        refine wv_lald hx hb h 46 (by decide) (f := g) t1_46 (k := 0) rfl (by decide) (by decide) d_Md_finishTag_49 ?_
        refine lv_ldc2 (v := 5) hx hb hown (hts _ (List.mem_cons_of_mem _ ko_Md_115)) d_Md_finishTag_50 ?_
        refine lv_ladd hx hb d_Md_finishTag_53 ?_
        refine wv_last hx hb h 46 (by decide) (f := g) t1_46 (k := 0) rfl (by decide) (by decide) d_Md_finishTag_54 (fun H locs h => ?_)
        obtain ⟨ev2, o2⟩ : ∃ z, z = va_up ev1 46 (eJ G 5 (va_up g 0 ((g 0) + 5))) := ⟨_, rfl⟩
        rw [← o2] at h
        have t2_46 : ev2 46 = eJ G 5 (va_up g 0 ((g 0) + 5)) := by rw [o2, va_up_self]
        have t2_37 := (show ev2 37 = ev1 37 by rw [o2, va_up_ne _ _ (by decide)]).trans t1_37
        refine lv_iconst (v := nI (0)) hx hb d_Md_finishTag_55 (by decide) ?_
        refine lv_istore_n (lv' := [(3, .int (nI (0))), (1, .long (ovK g 5)), (0, .ref (ad 37))]) hx hb d_Md_finishTag_56 rfl hl (by decide) rfl (fun ls hl => ?_)
        have loop3 : ∀ (d j : Nat), j + d = 4 →  ∀ (ev3 : Nat → va_E) (H : Heap) (locs : List Loc) (ls : Array Slot), ev3 = (va_up ev2 46 (eJ G 5 (cry (va_up g 0 (g 0 + 5)) j))) → wT G A 52 ad ev3 s H locs → lv_has ls 4 [(3, .int (nI (j))), (0, .ref (ad 37))] → W p l e ({ frames := 3, cells := 0, slots := 0, locals := 100 }) s m ([.ref (ad 37)] : List Value).toArray below meth c H locs 0 0 (MQ below (wQc G A 52 ad (fun ov ev' => ov = none ∧ ev' = va_up ev 46 (eJ G 5 (finT f)))) ([.ref (ad 37)] : List Value).toArray s 0 0 A) (F0 m 57 ls []) := by
          intro d
          induction d with
          | zero =>
            intro j hk_j  ev3 H locs ls  o3 h hl
            have t3_46 : ev3 46 = eJ G 5 (cry (va_up g 0 (g 0 + 5)) j) := by rw [o3, va_up_self]
            have t3_37 := (show ev3 37 = ev2 37 by rw [o3, va_up_ne _ _ (by decide)]).trans t2_37
            refine lv_iload_n hx hb d_Md_finishTag_57 rfl (lv_at hl 0 rfl) ?_
            refine lv_iconst (v := nI (4)) hx hb d_Md_finishTag_58 (by decide) ?_
            refine lv_icmp_ge (tgt := 110) hx hb d_Md_finishTag_59 (by decide) (fun _ => ?_) (fun hc => absurd ((nI_leI (by omega) (by omega)).mpr (by omega)) hc)
            refine lv_aload_n hx hb d_Md_finishTag_110 rfl (lv_at hl 1 rfl) ?_
            refine wv_getf hx hb h 37 (by decide) (fs := [.ref (ad 38), .int (nI (tl)), .int (nI (ol)), .int (nI (cd)), .ref (ad 39), .ref (ad 40), .ref (ad 41), .ref (ad 42), .ref (ad 43), .ref (ad 44), .ref (ad 45), .ref (ad 46), .ref (ad 47), .ref (ad 48), .ref (ad 49), .ref (ad 50)]) t3_37 hts (fun w hw => List.mem_cons_of_mem _ (fW_Md w hw)) hown (ci := 5) (C := "NonceBoxModel") (T := fT_Md) (N := 16) rfl 11 (by decide) (hts _ (List.mem_cons_of_mem _ kf_Md_35)) rfl (v := .ref (ad 46)) rfl d_Md_finishTag_111 ?_
            refine lv_iconst (v := nI (4)) hx hb d_Md_finishTag_114 (by decide) ?_
            refine lv_aload_n hx hb d_Md_finishTag_115 rfl (lv_at hl 1 rfl) ?_
            refine wv_getf hx hb h 37 (by decide) (fs := [.ref (ad 38), .int (nI (tl)), .int (nI (ol)), .int (nI (cd)), .ref (ad 39), .ref (ad 40), .ref (ad 41), .ref (ad 42), .ref (ad 43), .ref (ad 44), .ref (ad 45), .ref (ad 46), .ref (ad 47), .ref (ad 48), .ref (ad 49), .ref (ad 50)]) t3_37 hts (fun w hw => List.mem_cons_of_mem _ (fW_Md w hw)) hown (ci := 5) (C := "NonceBoxModel") (T := fT_Md) (N := 16) rfl 11 (by decide) (hts _ (List.mem_cons_of_mem _ kf_Md_35)) rfl (v := .ref (ad 46)) rfl d_Md_finishTag_116 ?_
            refine lv_iconst (v := nI (4)) hx hb d_Md_finishTag_119 (by decide) ?_
            refine wv_lald hx hb h 46 (by decide) (f := (cry (va_up g 0 (g 0 + 5)) j)) t3_46 (k := 4) rfl (by decide) (by decide) d_Md_finishTag_120 ?_
            refine lv_ldc2 (v := 67108863) hx hb hown (hts _ (List.mem_cons_of_mem _ ko_Md_113)) d_Md_finishTag_121 ?_
            refine lv_land hx hb d_Md_finishTag_124 ?_
            refine wv_last hx hb h 46 (by decide) (f := (cry (va_up g 0 (g 0 + 5)) j)) t3_46 (k := 4) rfl (by decide) (by decide) d_Md_finishTag_125 (fun H locs h => ?_)
            obtain ⟨ev4, o4⟩ : ∃ z, z = va_up ev3 46 (eJ G 5 (va_up ((cry (va_up g 0 (g 0 + 5)) j)) 4 ((((cry (va_up g 0 (g 0 + 5)) j)) 4) &&& 67108863))) := ⟨_, rfl⟩
            rw [← o4] at h
            have t4_46 : ev4 46 = eJ G 5 (va_up ((cry (va_up g 0 (g 0 + 5)) j)) 4 ((((cry (va_up g 0 (g 0 + 5)) j)) 4) &&& 67108863)) := by rw [o4, va_up_self]
            have t4_37 := (show ev4 37 = ev3 37 by rw [o4, va_up_ne _ _ (by decide)]).trans t3_37
            refine wv_vret hx hb hr hlocks h d_Md_finishTag_126 ⟨rfl, ?_⟩
            rw [o4, o3, o2, o1, show j = 4 by omega, va_up2, va_up2, va_up2]
            unfold finT
            dsimp only
            rw [← hg, if_pos hc]
          | succ d ih2 =>
            intro j hk_j  ev3 H locs ls  o3 h hl
            have t3_46 : ev3 46 = eJ G 5 (cry (va_up g 0 (g 0 + 5)) j) := by rw [o3, va_up_self]
            have t3_37 := (show ev3 37 = ev2 37 by rw [o3, va_up_ne _ _ (by decide)]).trans t2_37
            refine lv_iload_n hx hb d_Md_finishTag_57 rfl (lv_at hl 0 rfl) ?_
            refine lv_iconst (v := nI (4)) hx hb d_Md_finishTag_58 (by decide) ?_
            refine lv_icmp_ge (tgt := 110) hx hb d_Md_finishTag_59 (by decide) (fun hc => absurd ((nI_leI (by omega) (by omega)).mp hc) (by omega)) (fun _ => ?_)
            refine lv_aload_n hx hb d_Md_finishTag_62 rfl (lv_at hl 1 rfl) ?_
            refine wv_getf hx hb h 37 (by decide) (fs := [.ref (ad 38), .int (nI (tl)), .int (nI (ol)), .int (nI (cd)), .ref (ad 39), .ref (ad 40), .ref (ad 41), .ref (ad 42), .ref (ad 43), .ref (ad 44), .ref (ad 45), .ref (ad 46), .ref (ad 47), .ref (ad 48), .ref (ad 49), .ref (ad 50)]) t3_37 hts (fun w hw => List.mem_cons_of_mem _ (fW_Md w hw)) hown (ci := 5) (C := "NonceBoxModel") (T := fT_Md) (N := 16) rfl 11 (by decide) (hts _ (List.mem_cons_of_mem _ kf_Md_35)) rfl (v := .ref (ad 46)) rfl d_Md_finishTag_63 ?_
            refine lv_iload_n hx hb d_Md_finishTag_66 rfl (lv_at hl 0 rfl) ?_
            refine lv_iconst (v := nI (1)) hx hb d_Md_finishTag_67 (by decide) ?_
            refine lv_iadd hx hb d_Md_finishTag_68 ?_
            refine wv_top (w := nI (j + 1)) (nI_add _ _) ?_
            refine lv_aload_n hx hb d_Md_finishTag_69 rfl (lv_at hl 1 rfl) ?_
            refine wv_getf hx hb h 37 (by decide) (fs := [.ref (ad 38), .int (nI (tl)), .int (nI (ol)), .int (nI (cd)), .ref (ad 39), .ref (ad 40), .ref (ad 41), .ref (ad 42), .ref (ad 43), .ref (ad 44), .ref (ad 45), .ref (ad 46), .ref (ad 47), .ref (ad 48), .ref (ad 49), .ref (ad 50)]) t3_37 hts (fun w hw => List.mem_cons_of_mem _ (fW_Md w hw)) hown (ci := 5) (C := "NonceBoxModel") (T := fT_Md) (N := 16) rfl 11 (by decide) (hts _ (List.mem_cons_of_mem _ kf_Md_35)) rfl (v := .ref (ad 46)) rfl d_Md_finishTag_70 ?_
            refine lv_iload_n hx hb d_Md_finishTag_73 rfl (lv_at hl 0 rfl) ?_
            refine lv_iconst (v := nI (1)) hx hb d_Md_finishTag_74 (by decide) ?_
            refine lv_iadd hx hb d_Md_finishTag_75 ?_
            refine wv_top (w := nI (j + 1)) (nI_add _ _) ?_
            refine wv_lald hx hb h 46 (by decide) (f := (cry (va_up g 0 (g 0 + 5)) j)) t3_46 (k := j + 1) rfl (by omega) (by decide) d_Md_finishTag_76 ?_
            refine lv_aload_n hx hb d_Md_finishTag_77 rfl (lv_at hl 1 rfl) ?_
            refine wv_getf hx hb h 37 (by decide) (fs := [.ref (ad 38), .int (nI (tl)), .int (nI (ol)), .int (nI (cd)), .ref (ad 39), .ref (ad 40), .ref (ad 41), .ref (ad 42), .ref (ad 43), .ref (ad 44), .ref (ad 45), .ref (ad 46), .ref (ad 47), .ref (ad 48), .ref (ad 49), .ref (ad 50)]) t3_37 hts (fun w hw => List.mem_cons_of_mem _ (fW_Md w hw)) hown (ci := 5) (C := "NonceBoxModel") (T := fT_Md) (N := 16) rfl 11 (by decide) (hts _ (List.mem_cons_of_mem _ kf_Md_35)) rfl (v := .ref (ad 46)) rfl d_Md_finishTag_78 ?_
            refine lv_iload_n hx hb d_Md_finishTag_81 rfl (lv_at hl 0 rfl) ?_
            refine wv_lald hx hb h 46 (by decide) (f := (cry (va_up g 0 (g 0 + 5)) j)) t3_46 (k := j) rfl (by omega) (by decide) d_Md_finishTag_82 ?_
            refine lv_bipush (v := nI (26)) hx hb d_Md_finishTag_83 (by decide) ?_
            refine lv_lshr (v := sar (((cry (va_up g 0 (g 0 + 5)) j)) j) 26) hx hb d_Md_finishTag_85 rfl ?_
            refine lv_ladd hx hb d_Md_finishTag_86 ?_
            refine wv_last hx hb h 46 (by decide) (f := (cry (va_up g 0 (g 0 + 5)) j)) t3_46 (k := j + 1) rfl (by omega) (by decide) d_Md_finishTag_87 (fun H locs h => ?_)
            obtain ⟨ev4, o4⟩ : ∃ z, z = va_up ev3 46 (eJ G 5 (va_up ((cry (va_up g 0 (g 0 + 5)) j)) (j + 1) ((((cry (va_up g 0 (g 0 + 5)) j)) (j + 1)) + (sar (((cry (va_up g 0 (g 0 + 5)) j)) j) 26)))) := ⟨_, rfl⟩
            rw [← o4] at h
            have t4_46 : ev4 46 = eJ G 5 (va_up ((cry (va_up g 0 (g 0 + 5)) j)) (j + 1) ((((cry (va_up g 0 (g 0 + 5)) j)) (j + 1)) + (sar (((cry (va_up g 0 (g 0 + 5)) j)) j) 26))) := by rw [o4, va_up_self]
            have t4_37 := (show ev4 37 = ev3 37 by rw [o4, va_up_ne _ _ (by decide)]).trans t3_37
            refine lv_aload_n hx hb d_Md_finishTag_88 rfl (lv_at hl 1 rfl) ?_
            refine wv_getf hx hb h 37 (by decide) (fs := [.ref (ad 38), .int (nI (tl)), .int (nI (ol)), .int (nI (cd)), .ref (ad 39), .ref (ad 40), .ref (ad 41), .ref (ad 42), .ref (ad 43), .ref (ad 44), .ref (ad 45), .ref (ad 46), .ref (ad 47), .ref (ad 48), .ref (ad 49), .ref (ad 50)]) t4_37 hts (fun w hw => List.mem_cons_of_mem _ (fW_Md w hw)) hown (ci := 5) (C := "NonceBoxModel") (T := fT_Md) (N := 16) rfl 11 (by decide) (hts _ (List.mem_cons_of_mem _ kf_Md_35)) rfl (v := .ref (ad 46)) rfl d_Md_finishTag_89 ?_
            refine lv_iload_n hx hb d_Md_finishTag_92 rfl (lv_at hl 0 rfl) ?_
            refine lv_aload_n hx hb d_Md_finishTag_93 rfl (lv_at hl 1 rfl) ?_
            refine wv_getf hx hb h 37 (by decide) (fs := [.ref (ad 38), .int (nI (tl)), .int (nI (ol)), .int (nI (cd)), .ref (ad 39), .ref (ad 40), .ref (ad 41), .ref (ad 42), .ref (ad 43), .ref (ad 44), .ref (ad 45), .ref (ad 46), .ref (ad 47), .ref (ad 48), .ref (ad 49), .ref (ad 50)]) t4_37 hts (fun w hw => List.mem_cons_of_mem _ (fW_Md w hw)) hown (ci := 5) (C := "NonceBoxModel") (T := fT_Md) (N := 16) rfl 11 (by decide) (hts _ (List.mem_cons_of_mem _ kf_Md_35)) rfl (v := .ref (ad 46)) rfl d_Md_finishTag_94 ?_
            refine lv_iload_n hx hb d_Md_finishTag_97 rfl (lv_at hl 0 rfl) ?_
            refine wv_lald hx hb h 46 (by decide) (f := (va_up ((cry (va_up g 0 (g 0 + 5)) j)) (j + 1) ((((cry (va_up g 0 (g 0 + 5)) j)) (j + 1)) + (sar (((cry (va_up g 0 (g 0 + 5)) j)) j) 26)))) t4_46 (k := j) rfl (by omega) (by decide) d_Md_finishTag_98 ?_
            refine lv_ldc2 (v := 67108863) hx hb hown (hts _ (List.mem_cons_of_mem _ ko_Md_113)) d_Md_finishTag_99 ?_
            refine lv_land hx hb d_Md_finishTag_102 ?_
            refine wv_last hx hb h 46 (by decide) (f := (va_up ((cry (va_up g 0 (g 0 + 5)) j)) (j + 1) ((((cry (va_up g 0 (g 0 + 5)) j)) (j + 1)) + (sar (((cry (va_up g 0 (g 0 + 5)) j)) j) 26)))) t4_46 (k := j) rfl (by omega) (by decide) d_Md_finishTag_103 (fun H locs h => ?_)
            obtain ⟨ev5, o5⟩ : ∃ z, z = va_up ev4 46 (eJ G 5 (va_up ((va_up ((cry (va_up g 0 (g 0 + 5)) j)) (j + 1) ((((cry (va_up g 0 (g 0 + 5)) j)) (j + 1)) + (sar (((cry (va_up g 0 (g 0 + 5)) j)) j) 26)))) j ((((va_up ((cry (va_up g 0 (g 0 + 5)) j)) (j + 1) ((((cry (va_up g 0 (g 0 + 5)) j)) (j + 1)) + (sar (((cry (va_up g 0 (g 0 + 5)) j)) j) 26)))) j) &&& 67108863))) := ⟨_, rfl⟩
            rw [← o5] at h
            have t5_46 : ev5 46 = eJ G 5 (va_up ((va_up ((cry (va_up g 0 (g 0 + 5)) j)) (j + 1) ((((cry (va_up g 0 (g 0 + 5)) j)) (j + 1)) + (sar (((cry (va_up g 0 (g 0 + 5)) j)) j) 26)))) j ((((va_up ((cry (va_up g 0 (g 0 + 5)) j)) (j + 1) ((((cry (va_up g 0 (g 0 + 5)) j)) (j + 1)) + (sar (((cry (va_up g 0 (g 0 + 5)) j)) j) 26)))) j) &&& 67108863)) := by rw [o5, va_up_self]
            have t5_37 := (show ev5 37 = ev4 37 by rw [o5, va_up_ne _ _ (by decide)]).trans t4_37
            refine lv_iinc (v := nI (j + 1)) (lv' := [(3, .int (nI (j + 1))), (0, .ref (ad 37))]) hx hb d_Md_finishTag_104 hl (k := 0) rfl (nI_add _ _) (by decide) rfl (fun ls hl => ?_)
            refine lv_goto (tgt := 57) hx hb d_Md_finishTag_107 (by decide) ?_
            refine ih2 (j + 1) (by omega) ev5 H locs ls ?_ h (lv_sub hl [0, 1] rfl)
            rw [o5, o4, o3, va_up2, va_up2]
            rfl
        exact loop3 4 0 rfl ev2 H locs ls (va_upi _ _ t2_46).symm h (lv_sub hl [0, 2] rfl)
      · have e1 : ¬ 0 < lg_cmp (ovK g 5) 0 := by
          unfold lg_cmp
          have h1 : ¬ (0 : Int64) < ovK g 5 := fun q => hc (Int64.lt_iff_toInt_lt.mp q)
          by_cases h3 : ovK g 5 = 0
          · rw [if_neg h1, if_pos h3]; decide
          · rw [if_neg h1, if_neg h3]; decide
        have e2 : lg_cmp (ovK g 5) 0 ≤ 0 := by
          rw [Int32.le_iff_toInt_le]
          rw [Int32.lt_iff_toInt_lt] at e1
          omega
        refine lv_if_le (tgt := 126) hx hb d_Md_finishTag_36 (by decide) (fun _ => ?_) (fun hc2 => absurd e2 hc2)
        refine wv_vret hx hb hr hlocks h d_Md_finishTag_126 ⟨rfl, ?_⟩
        rw [o1]
        unfold finT
        dsimp only
        rw [← hg, if_neg hc]
    | succ d ih =>
      intro k hk ls hl
      refine lv_iload_n hx hb d_Md_finishTag_10 rfl (lv_at hl 0 rfl) ?_
      refine lv_iconst (v := nI (5)) hx hb d_Md_finishTag_11 (by decide) ?_
      refine lv_icmp_ge (tgt := 33) hx hb d_Md_finishTag_12 (by decide) (fun hc => absurd ((nI_leI (by omega) (by omega)).mp hc) (by omega)) (fun _ => ?_)
      refine lv_aload_n hx hb d_Md_finishTag_15 rfl (lv_at hl 2 rfl) ?_
      refine wv_getf hx hb h 37 (by decide) (fs := [.ref (ad 38), .int (nI (tl)), .int (nI (ol)), .int (nI (cd)), .ref (ad 39), .ref (ad 40), .ref (ad 41), .ref (ad 42), .ref (ad 43), .ref (ad 44), .ref (ad 45), .ref (ad 46), .ref (ad 47), .ref (ad 48), .ref (ad 49), .ref (ad 50)]) t1_37 hts (fun w hw => List.mem_cons_of_mem _ (fW_Md w hw)) hown (ci := 5) (C := "NonceBoxModel") (T := fT_Md) (N := 16) rfl 11 (by decide) (hts _ (List.mem_cons_of_mem _ kf_Md_35)) rfl (v := .ref (ad 46)) rfl d_Md_finishTag_16 ?_
      refine lv_iload_n hx hb d_Md_finishTag_19 rfl (lv_at hl 0 rfl) ?_
      refine wv_lald hx hb h 46 (by decide) (f := g) t1_46 (k := k) rfl (by omega) (by decide) d_Md_finishTag_20 ?_
      refine lv_lload_n hx hb d_Md_finishTag_21 rfl (lv_at hl 1 rfl) ?_
      refine lv_ladd hx hb d_Md_finishTag_22 ?_
      refine lv_bipush (v := nI (26)) hx hb d_Md_finishTag_23 (by decide) ?_
      refine lv_lshr (v := sar ((g k) + (ovK g k)) 26) hx hb d_Md_finishTag_25 rfl ?_
      refine wv_topl (w := ovK g (k + 1)) (ovK_s g k) ?_
      refine lv_lstore_n (lv' := [(1, .long (ovK g (k + 1))), (3, .int (nI (k))), (0, .ref (ad 37))]) hx hb d_Md_finishTag_26 rfl hl (by decide) rfl (fun ls hl => ?_)
      refine lv_iinc (v := nI (k + 1)) (lv' := [(3, .int (nI (k + 1))), (1, .long (ovK g (k + 1))), (0, .ref (ad 37))]) hx hb d_Md_finishTag_27 hl (k := 1) rfl (nI_add _ _) (by decide) rfl (fun ls hl => ?_)
      refine lv_goto (tgt := 10) hx hb d_Md_finishTag_30 (by decide) ?_
      exact ih (k + 1) (by omega) ls (lv_sub hl [0, 1, 2] rfl)
  exact loop 5 0 rfl ls (lv_sub hl [0, 1, 2] rfl)
