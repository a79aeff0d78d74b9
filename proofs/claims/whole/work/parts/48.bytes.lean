/-! bytes into rows, rows into bytes -/
theorem wd8_lt {B : Nat → Nat} (hB : ∀ j, B j < 256) (o : Nat) : ∀ k, wd8 B o k < 2 ^ (8 * k)
  | 0 => by simp [wd8]
  | k + 1 => by
    have h := wd8_lt hB o k
    have h2 := hB (o + k)
    rw [show 8 * (k + 1) = 8 * k + 8 by omega, Nat.pow_add, wd8]
    have : B (o + k) * 2 ^ (8 * k) ≤ 255 * 2 ^ (8 * k) := Nat.mul_le_mul_right _ (by omega)
    omega
theorem wd8_congr {B C : Nat → Nat} {o o2 : Nat} : ∀ {k : Nat}, (∀ j, j < k → B (o + j) = C (o2 + j)) → wd8 B o k = wd8 C o2 k
  | 0, _ => rfl
  | k + 1, h => by rw [wd8, wd8, wd8_congr (fun j hj => h j (by omega)), h k (by omega)]
theorem p8 (i : Nat) : (2 : Int) ^ (26 * (8 * i / 26)) * 2 ^ (8 * i % 26) = 2 ^ (8 * i) := by
  rw [← Int.pow_add]
  congr 1
  omega
theorem pw_le {a b : Nat} (h : a ≤ b) : (2 : Int) ^ a ≤ 2 ^ b := by
  have h := Int.ofNat_le.mpr (Nat.pow_le_pow_right (show 2 > 0 by decide) h)
  rw [Int.natCast_pow, Int.natCast_pow] at h
  exact h
/-- a byte added at its place -/
theorem adB_spec {f : Nat → Int64} {v : Int64} {i M : Nat} {D : Int} (hM : 8 * i / 26 < M) (hv : 0 ≤ v.toInt ∧ v.toInt ≤ 255) (hD : D ≤ 1125899906842624) (hf : ∀ j, j < M → -D ≤ (f j).toInt ∧ (f j).toInt ≤ D) :
    (∀ j, j < M → -(D + 8589934592) ≤ (adB f v i j).toInt ∧ (adB f v i j).toInt ≤ D + 8589934592) ∧ vI (adB f v i) M = vI f M + v.toInt * 2 ^ (8 * i) := by
  obtain ⟨q, hq⟩ : ∃ q : Int, q = 2 ^ (8 * i % 26) := ⟨_, rfl⟩
  have hq0 : 0 < q := by rw [hq]; exact Int.pow_pos (by decide)
  have hq1 : q ≤ 33554432 := by rw [hq]; exact pw_le (show 8 * i % 26 ≤ 25 by omega)
  have hvq : 0 ≤ v.toInt * q ∧ v.toInt * q ≤ 8556380160 := ⟨Int.mul_nonneg hv.1 (by omega), Int.mul_le_mul hv.2 hq1 (by omega) (by decide)⟩
  have es : (sal v (8 * i % 26)).toInt = v.toInt * q := by
    rw [sal_i (by omega) (by rw [← hq]; omega) (by rw [← hq]; omega), hq]
  have hfi := hf (8 * i / 26) hM
  have ea : (f (8 * i / 26) + sal v (8 * i % 26)).toInt = (f (8 * i / 26)).toInt + v.toInt * q := by
    rw [add_i (by rw [es]; omega) (by rw [es]; omega), es]
  refine ⟨fun j hjM => ?_, ?_⟩
  · unfold adB
    by_cases hj : j = 8 * i / 26
    · rw [hj, va_up_self, ea]; omega
    · have := hf j hjM
      rw [va_up_ne _ _ hj]; omega
  · unfold adB
    rw [vI_up, if_pos hM, ea, ← p8 i, ← hq]
    grind
theorem nI_byte {b : Nat} (h : b < 256) : (nI b).toInt64.toInt = (b : Int) := by rw [nI_l (by omega), pk_lT (by omega)]
theorem adBs_spec {B : Nat → Nat} {o M : Nat} {f : Nat → Int64} {D : Int} (hB : ∀ j, B j < 256) (hD0 : 0 ≤ D) (hD : D ≤ 562949953421312) (hf : ∀ j, j < M → -D ≤ (f j).toInt ∧ (f j).toInt ≤ D) : ∀ k, k ≤ 64 → 8 * k ≤ 26 * M →
    (∀ j, j < M → -(D + 8589934592 * k) ≤ (adBs B o f k j).toInt ∧ (adBs B o f k j).toInt ≤ D + 8589934592 * k) ∧ vI (adBs B o f k) M = vI f M + (wd8 B o k : Int)
  | 0, _, _ => ⟨fun j hj => by have := hf j hj; exact ⟨by show _ ≤ (f j).toInt; omega, by show (f j).toInt ≤ _; omega⟩, by show vI f M = vI f M + ((0 : Nat) : Int); omega⟩
  | k + 1, hk, hkM => by
    obtain ⟨h1, h2⟩ := adBs_spec hB hD0 hD hf k (by omega) (by omega)
    have hb := hB (o + k)
    obtain ⟨h3, h4⟩ := adB_spec (f := adBs B o f k) (v := (nI (B (o + k))).toInt64) (i := k) (M := M) (D := D + 8589934592 * k) (by omega) (by rw [nI_byte hb]; omega) (by omega) h1
    refine ⟨fun j hj => ?_, ?_⟩
    · have := h3 j hj
      show _ ≤ (adB (adBs B o f k) (nI (B (o + k))).toInt64 k j).toInt ∧ (adB (adBs B o f k) (nI (B (o + k))).toInt64 k j).toInt ≤ _
      omega
    · show vI (adB (adBs B o f k) (nI (B (o + k))).toInt64 k) M = _
      rw [h4, h2, nI_byte hb, wd8, Int.natCast_add, Int.natCast_mul, Int.natCast_pow, show ((2 : Nat) : Int) = 2 from rfl]
      omega
/-- the bytes of a carried row -/
theorem byte26 {A B C : Int} {s : Nat} (hs : s < 26) (hA : 0 ≤ A) (hB : 0 ≤ B) (hC : 0 ≤ C) (hA2 : A < 67108864) : (A + 67108864 * (B + 67108864 * C)) / 2 ^ s % 256 = (A / 2 ^ s + B * 2 ^ (26 - s)) % 256 := by
  rcases (show s = 0 ∨ s = 1 ∨ s = 2 ∨ s = 3 ∨ s = 4 ∨ s = 5 ∨ s = 6 ∨ s = 7 ∨ s = 8 ∨ s = 9 ∨ s = 10 ∨ s = 11 ∨ s = 12 ∨ s = 13 ∨ s = 14 ∨ s = 15 ∨ s = 16 ∨ s = 17 ∨ s = 18 ∨ s = 19 ∨ s = 20 ∨ s = 21 ∨ s = 22 ∨ s = 23 ∨ s = 24 ∨ s = 25 by omega) with rfl | rfl | rfl | rfl | rfl | rfl | rfl | rfl | rfl | rfl | rfl | rfl | rfl | rfl | rfl | rfl | rfl | rfl | rfl | rfl | rfl | rfl | rfl | rfl | rfl | rfl
  · rw [show (2 : Int) ^ 0 = 1 from by decide, show (2 : Int) ^ (26 - 0) = 67108864 from by decide]; omega
  · rw [show (2 : Int) ^ 1 = 2 from by decide, show (2 : Int) ^ (26 - 1) = 33554432 from by decide]; omega
  · rw [show (2 : Int) ^ 2 = 4 from by decide, show (2 : Int) ^ (26 - 2) = 16777216 from by decide]; omega
  · rw [show (2 : Int) ^ 3 = 8 from by decide, show (2 : Int) ^ (26 - 3) = 8388608 from by decide]; omega
  · rw [show (2 : Int) ^ 4 = 16 from by decide, show (2 : Int) ^ (26 - 4) = 4194304 from by decide]; omega
  · rw [show (2 : Int) ^ 5 = 32 from by decide, show (2 : Int) ^ (26 - 5) = 2097152 from by decide]; omega
  · rw [show (2 : Int) ^ 6 = 64 from by decide, show (2 : Int) ^ (26 - 6) = 1048576 from by decide]; omega
  · rw [show (2 : Int) ^ 7 = 128 from by decide, show (2 : Int) ^ (26 - 7) = 524288 from by decide]; omega
  · rw [show (2 : Int) ^ 8 = 256 from by decide, show (2 : Int) ^ (26 - 8) = 262144 from by decide]; omega
  · rw [show (2 : Int) ^ 9 = 512 from by decide, show (2 : Int) ^ (26 - 9) = 131072 from by decide]; omega
  · rw [show (2 : Int) ^ 10 = 1024 from by decide, show (2 : Int) ^ (26 - 10) = 65536 from by decide]; omega
  · rw [show (2 : Int) ^ 11 = 2048 from by decide, show (2 : Int) ^ (26 - 11) = 32768 from by decide]; omega
  · rw [show (2 : Int) ^ 12 = 4096 from by decide, show (2 : Int) ^ (26 - 12) = 16384 from by decide]; omega
  · rw [show (2 : Int) ^ 13 = 8192 from by decide]; omega
  · rw [show (2 : Int) ^ 14 = 16384 from by decide, show (2 : Int) ^ (26 - 14) = 4096 from by decide]; omega
  · rw [show (2 : Int) ^ 15 = 32768 from by decide, show (2 : Int) ^ (26 - 15) = 2048 from by decide]; omega
  · rw [show (2 : Int) ^ 16 = 65536 from by decide, show (2 : Int) ^ (26 - 16) = 1024 from by decide]; omega
  · rw [show (2 : Int) ^ 17 = 131072 from by decide, show (2 : Int) ^ (26 - 17) = 512 from by decide]; omega
  · rw [show (2 : Int) ^ 18 = 262144 from by decide, show (2 : Int) ^ (26 - 18) = 256 from by decide]; omega
  · rw [show (2 : Int) ^ 19 = 524288 from by decide, show (2 : Int) ^ (26 - 19) = 128 from by decide]; omega
  · rw [show (2 : Int) ^ 20 = 1048576 from by decide, show (2 : Int) ^ (26 - 20) = 64 from by decide]; omega
  · rw [show (2 : Int) ^ 21 = 2097152 from by decide, show (2 : Int) ^ (26 - 21) = 32 from by decide]; omega
  · rw [show (2 : Int) ^ 22 = 4194304 from by decide, show (2 : Int) ^ (26 - 22) = 16 from by decide]; omega
  · rw [show (2 : Int) ^ 23 = 8388608 from by decide, show (2 : Int) ^ (26 - 23) = 8 from by decide]; omega
  · rw [show (2 : Int) ^ 24 = 16777216 from by decide, show (2 : Int) ^ (26 - 24) = 4 from by decide]; omega
  · rw [show (2 : Int) ^ 25 = 33554432 from by decide, show (2 : Int) ^ (26 - 25) = 2 from by decide]; omega
theorem wbB_top {n i : Nat} {x : Nat → Int64} (hi : 8 * i / 26 + 1 = n) (h : 0 ≤ (x (8 * i / 26)).toInt) : (wbB n x i : Int) = (x (8 * i / 26)).toInt / 2 ^ (8 * i % 26) % 256 := by
  obtain ⟨a, ha, e⟩ := pk_lOf (x := x (8 * i / 26)) (fun q => by rw [Int64.lt_iff_toInt_lt] at q; rw [show (0 : Int64).toInt = 0 from rfl] at q; omega)
  unfold wbB bitsW
  rw [if_neg (by omega), e]
  have es : sar (lN a) (8 * i % 26) = lN (a / 2 ^ (8 * i % 26)) := by
    apply Int64.toInt_inj.mp
    rw [sar_i _ (by omega), pk_lT ha, pk_lT (Nat.lt_of_le_of_lt (Nat.div_le_self _ _) ha), Int.natCast_ediv, Int.natCast_pow]
    rfl
  rw [es, lN_i32, pk_lT ha, Int.natCast_emod, Int.natCast_ediv, Int.natCast_pow]
  rfl
theorem wbB_low {n i : Nat} {x : Nat → Int64} (hi : 8 * i / 26 + 1 < n) (h : 0 ≤ (x (8 * i / 26)).toInt ∧ (x (8 * i / 26)).toInt < 67108864) (h2 : 0 ≤ (x (8 * i / 26 + 1)).toInt ∧ (x (8 * i / 26 + 1)).toInt < 1073741824) : (wbB n x i : Int) = ((x (8 * i / 26)).toInt / 2 ^ (8 * i % 26) + (x (8 * i / 26 + 1)).toInt * 2 ^ (26 - 8 * i % 26)) % 256 := by
  obtain ⟨a, ha, e⟩ := pk_lOf (x := x (8 * i / 26)) (fun q => by rw [Int64.lt_iff_toInt_lt] at q; rw [show (0 : Int64).toInt = 0 from rfl] at q; omega)
  obtain ⟨b, hb, e2⟩ := pk_lOf (x := x (8 * i / 26 + 1)) (fun q => by rw [Int64.lt_iff_toInt_lt] at q; rw [show (0 : Int64).toInt = 0 from rfl] at q; omega)
  unfold wbB bitsW
  rw [e, pk_lT ha] at h
  rw [e2, pk_lT hb] at h2
  rw [if_pos hi, e, e2]
  have es : sar (lN a) (8 * i % 26) = lN (a / 2 ^ (8 * i % 26)) := by
    apply Int64.toInt_inj.mp
    rw [sar_i _ (by omega), pk_lT ha, pk_lT (Nat.lt_of_le_of_lt (Nat.div_le_self _ _) ha), Int.natCast_ediv, Int.natCast_pow]
    rfl
  have el : sal (lN b) (26 - 8 * i % 26) = lN (b * 2 ^ (26 - 8 * i % 26)) := wb_shl b (by omega)
  have hq : 2 ^ (26 - 8 * i % 26) ≤ 67108864 := Nat.pow_le_pow_right (by decide) (show 26 - 8 * i % 26 ≤ 26 by omega)
  have hlt : a / 2 ^ (8 * i % 26) < 2 ^ (26 - 8 * i % 26) := by
    refine Nat.div_lt_of_lt_mul ?_
    rw [← Nat.pow_add, show 8 * i % 26 + (26 - 8 * i % 26) = 26 by omega]
    omega
  have hprod : b * 2 ^ (26 - 8 * i % 26) ≤ 1073741824 * 67108864 := Nat.mul_le_mul (by omega) hq
  rw [es, el, g_or' (k := 26 - 8 * i % 26) rfl hlt (by omega), lN_i32, pk_lT ha, pk_lT hb, Int.natCast_emod, Int.natCast_add, Int.natCast_mul, Int.natCast_ediv, Int.natCast_pow, Int.natCast_pow]
  rfl
/-- byte i of a row is byte i of its number -/
theorem wbB_spec {n i : Nat} {x : Nat → Int64} (hi : 8 * i / 26 < n) (h : ∀ j, j < n - 1 → 0 ≤ (x j).toInt ∧ (x j).toInt < 67108864) (ht : 0 ≤ (x (n - 1)).toInt ∧ (x (n - 1)).toInt < 1073741824) : (wbB n x i : Int) = vI x n / 2 ^ (8 * i) % 256 := by
  obtain ⟨a, ha⟩ : ∃ a, a = 8 * i / 26 := ⟨_, rfl⟩
  have hV := vI_split x a (n - a)
  rw [show a + (n - a) = n by omega] at hV
  obtain ⟨r0, r1⟩ := vI_rng (f := x) (n := a) (fun j hj => h j (by omega))
  have hp : (0 : Int) < 2 ^ (26 * a) := Int.pow_pos (by decide)
  have hdiv : vI x n / 2 ^ (8 * i) = vI (fun j => x (a + j)) (n - a) / 2 ^ (8 * i % 26) := by
    rw [← p8 i, ← ha, ← Int.ediv_ediv_of_nonneg (by omega)]
    congr 1
    rw [hV, Int.add_mul_ediv_left _ _ (by omega), Int.ediv_eq_zero_of_lt r0 r1, Int.zero_add]
  rw [hdiv]
  by_cases hc : a + 1 = n
  · rw [show n - a = 0 + 1 by omega]
    show _ = (vI (fun j => x (a + j)) 0 + (x (a + 0)).toInt * 2 ^ (26 * 0)) / _ % _
    rw [show vI (fun j => x (a + j)) 0 = 0 from rfl, pw_0, Int.zero_add, Int.mul_one, Nat.add_zero, wbB_top (by omega) (by rw [← ha, show a = n - 1 by omega]; exact ht.1), ← ha]
  · have hs2 := vI_split (fun j => x (a + j)) 1 (n - a - 1)
    rw [show 1 + (n - a - 1) = n - a by omega] at hs2
    have e1 : vI (fun j => x (a + j)) 1 = (x a).toInt := by
      show (0 : Int) + (x (a + 0)).toInt * 2 ^ (26 * 0) = _
      rw [pw_0]; show 0 + (x a).toInt * 1 = _; omega
    have hs3 := vI_split (fun j => x (a + (1 + j))) 1 (n - a - 2)
    rw [show 1 + (n - a - 2) = n - a - 1 by omega] at hs3
    have e2 : vI (fun j => x (a + (1 + j))) 1 = (x (a + 1)).toInt := by
      show (0 : Int) + (x (a + (1 + 0))).toInt * 2 ^ (26 * 0) = _
      rw [pw_0]; show 0 + (x (a + 1)).toInt * 1 = _; omega
    rw [e1, pw_1] at hs2
    rw [e2, pw_1] at hs3
    have hnn : 0 ≤ vI (fun j => x (a + (1 + (1 + j)))) (n - a - 2) := by
      have gen : ∀ (g : Nat → Int64) (m : Nat), (∀ j, j < m → 0 ≤ (g j).toInt) → 0 ≤ vI g m := by
        intro g m
        induction m with
        | zero => intro _; exact Int.le_refl 0
        | succ m ih =>
          intro hg
          rw [vI]
          have a1 := ih (fun j hj => hg j (by omega))
          have a2 := Int.mul_nonneg (hg m (by omega)) (show (0 : Int) ≤ 2 ^ (26 * m) from Int.le_of_lt (Int.pow_pos (by decide)))
          omega
      refine gen _ _ (fun j hj => ?_)
      by_cases hl : a + (1 + (1 + j)) < n - 1
      · exact (h _ hl).1
      · rw [show a + (1 + (1 + j)) = n - 1 by omega]; exact ht.1
    have hA := h a (by omega)
    have hB : 0 ≤ (x (a + 1)).toInt ∧ (x (a + 1)).toInt < 1073741824 := by
      by_cases hl : a + 1 < n - 1
      · have := h _ hl; omega
      · rw [show a + 1 = n - 1 by omega]; exact ht
    rw [hs2, hs3, byte26 (by omega) hA.1 hB.1 hnn hA.2, wbB_low (by omega) (by rw [← ha]; exact hA) (by rw [← ha]; exact hB), ← ha]
