/-! bytes added bit by bit, and taken out bit by bit -/
def bitV (B : Nat → Nat) (t : Nat) : Nat := B (t / 8) / 2 ^ (t % 8) % 2
def adBit (f : Nat → Int64) (B : Nat → Nat) : Nat → (Nat → Int64)
  | 0 => f
  | t + 1 => va_up (adBit f B t) (t / 26) (adBit f B t (t / 26) + sal (nI (bitV B t)).toInt64 (t % 26))
theorem adT_bit (f : Nat → Int64) (B : Nat → Nat) (k : Nat) : ∀ b, b ≤ 8 → adT (adBit f B (8 * k)) k (B k) b = adBit f B (8 * k + b)
  | 0, _ => rfl
  | b + 1, hb => by
    have e : bitV B (8 * k + b) = B k / 2 ^ b % 2 := by
      unfold bitV
      rw [show (8 * k + b) / 8 = k by omega, show (8 * k + b) % 8 = b by omega]
    rw [show 8 * k + (b + 1) = 8 * k + b + 1 from rfl, adBit, adT, adT_bit f B k b (by omega), e]
def bS (B : Nat → Nat) : Nat → Nat
  | 0 => 0
  | t + 1 => bS B t + bitV B t * 2 ^ t
theorem by_bits : ∀ c, c < 256 → c / 2 ^ 0 % 2 * 1 + c / 2 ^ 1 % 2 * 2 + c / 2 ^ 2 % 2 * 4 + c / 2 ^ 3 % 2 * 8 + c / 2 ^ 4 % 2 * 16 + c / 2 ^ 5 % 2 * 32 + c / 2 ^ 6 % 2 * 64 + c / 2 ^ 7 % 2 * 128 = c := by decide +kernel
theorem bS_wd {B : Nat → Nat} (hB : ∀ j, B j < 256) : ∀ k, bS B (8 * k) = wd8 B 0 k
  | 0 => rfl
  | k + 1 => by
    have h := bS_wd hB k
    have hc := by_bits (B k) (hB k)
    have e : ∀ b, b < 8 → bitV B (8 * k + b) = B k / 2 ^ b % 2 := by
      intro b hb
      unfold bitV
      rw [show (8 * k + b) / 8 = k by omega, show (8 * k + b) % 8 = b by omega]
    rw [show 8 * (k + 1) = 8 * k + 7 + 1 by omega, bS, bS, bS, bS, bS, bS, bS, bS, h, wd8, Nat.zero_add]
    rw [show bitV B (8 * k) = B k / 2 ^ 0 % 2 from e 0 (by decide), e 1 (by decide), e 2 (by decide), e 3 (by decide), e 4 (by decide), e 5 (by decide), e 6 (by decide), e 7 (by decide)]
    rw [Nat.pow_add 2 (8 * k) 1, Nat.pow_add 2 (8 * k) 2, Nat.pow_add 2 (8 * k) 3, Nat.pow_add 2 (8 * k) 4, Nat.pow_add 2 (8 * k) 5, Nat.pow_add 2 (8 * k) 6, Nat.pow_add 2 (8 * k) 7]
    generalize 2 ^ (8 * k) = P at *
    generalize B k / 2 ^ 0 % 2 = b0 at *
    generalize B k / 2 ^ 1 % 2 = b1 at *
    generalize B k / 2 ^ 2 % 2 = b2 at *
    generalize B k / 2 ^ 3 % 2 = b3 at *
    generalize B k / 2 ^ 4 % 2 = b4 at *
    generalize B k / 2 ^ 5 % 2 = b5 at *
    generalize B k / 2 ^ 6 % 2 = b6 at *
    generalize B k / 2 ^ 7 % 2 = b7 at *
    rw [← hc]
    grind
theorem adBit_spec {f : Nat → Int64} {B : Nat → Nat} {M : Nat} (hf : ∀ j, j < M → 0 ≤ (f j).toInt ∧ (f j).toInt ≤ 1073741824) : ∀ t, t ≤ 26 * M →
    (∀ j, j < M → (f j).toInt ≤ (adBit f B t j).toInt ∧ (adBit f B t j).toInt ≤ (f j).toInt + (2 ^ (min 26 (t - 26 * j)) - 1)) ∧ vI (adBit f B t) M = vI f M + (bS B t : Int)
  | 0, _ => ⟨fun j hj => by
      rw [show min 26 (0 - 26 * j) = 0 by omega]
      show (f j).toInt ≤ (f j).toInt ∧ (f j).toInt ≤ (f j).toInt + (1 - 1)
      omega, by show vI f M = vI f M + ((0 : Nat) : Int); omega⟩
  | t + 1, ht => by
    obtain ⟨h1, h2⟩ := adBit_spec (B := B) hf t (by omega)
    have hb : bitV B t < 2 := Nat.mod_lt _ (by decide)
    have hj := h1 (t / 26) (by omega)
    have hfj := hf (t / 26) (by omega)
    rw [show min 26 (t - 26 * (t / 26)) = t % 26 by omega] at hj
    obtain ⟨q, hq⟩ : ∃ q : Int, q = 2 ^ (t % 26) := ⟨_, rfl⟩
    have hq0 : 0 < q := by rw [hq]; exact Int.pow_pos (by decide)
    have hq1 : q ≤ 33554432 := by rw [hq]; exact pw_le (show t % 26 ≤ 25 by omega)
    rw [← hq] at hj
    have hbv : (nI (bitV B t)).toInt64.toInt = (bitV B t : Int) := by rw [nI_l (by omega), pk_lT (by omega)]
    have hbq : 0 ≤ (bitV B t : Int) * q ∧ (bitV B t : Int) * q ≤ q := by
      rcases (show bitV B t = 0 ∨ bitV B t = 1 by omega) with e | e <;> rw [e] <;> omega
    have es : (sal (nI (bitV B t)).toInt64 (t % 26)).toInt = (bitV B t : Int) * q := by
      rw [sal_i (by omega) (by rw [hbv, ← hq]; omega) (by rw [hbv, ← hq]; omega), hbv, hq]
    have ea : (adBit f B t (t / 26) + sal (nI (bitV B t)).toInt64 (t % 26)).toInt = (adBit f B t (t / 26)).toInt + (bitV B t : Int) * q := by
      rw [add_i (by rw [es]; omega) (by rw [es]; omega), es]
    have er : adBit f B (t + 1) = va_up (adBit f B t) (t / 26) (adBit f B t (t / 26) + sal (nI (bitV B t)).toInt64 (t % 26)) := rfl
    rw [er]
    refine ⟨fun j hjM => ?_, ?_⟩
    · by_cases c : j = t / 26
      · subst c
        rw [va_up_self, ea, show min 26 (t + 1 - 26 * (t / 26)) = t % 26 + 1 by omega, Int.pow_succ, ← hq]
        omega
      · rw [va_up_ne _ _ c]
        have := h1 j hjM
        have hm : (2 : Int) ^ (min 26 (t - 26 * j)) ≤ 2 ^ (min 26 (t + 1 - 26 * j)) := pw_le (by omega)
        omega
    · rw [vI_up, if_pos (by omega), ea, h2, bS, Int.natCast_add, Int.natCast_mul, Int.natCast_pow, show ((2 : Nat) : Int) = 2 from rfl]
      have e : (2 : Int) ^ t = 2 ^ (26 * (t / 26)) * q := by
        rw [hq, ← Int.pow_add]
        congr 1
        omega
      rw [e]
      grind
/-- bit t of a row of digits is bit t of its number -/
theorem dig_bit {x : Nat → Int64} {n t : Nat} (h : Dg x n) (ht : t < 26 * n) : (x (t / 26)).toInt / 2 ^ (t % 26) % 2 = vI x n / 2 ^ t % 2 := by
  obtain ⟨a, ha⟩ : ∃ a, a = t / 26 := ⟨_, rfl⟩
  have hV := vI_split x a (n - a)
  rw [show a + (n - a) = n by omega] at hV
  obtain ⟨r0, r1⟩ := vI_rng (f := x) (n := a) (fun j hj => h j (by omega))
  have hp : (0 : Int) < 2 ^ (26 * a) := Int.pow_pos (by decide)
  have e : (2 : Int) ^ t = 2 ^ (26 * a) * 2 ^ (t % 26) := by
    rw [← Int.pow_add]
    congr 1
    omega
  rw [e, ← Int.ediv_ediv_of_nonneg (by omega), hV, Int.add_mul_ediv_left _ _ (by omega), Int.ediv_eq_zero_of_lt r0 r1, Int.zero_add, ← ha]
  have hs2 := vI_split (fun j => x (a + j)) 1 (n - a - 1)
  rw [show 1 + (n - a - 1) = n - a by omega] at hs2
  have e1 : vI (fun j => x (a + j)) 1 = (x a).toInt := by
    show (0 : Int) + (x (a + 0)).toInt * 2 ^ (26 * 0) = _
    rw [pw_0]; show 0 + (x a).toInt * 1 = _; omega
  rw [e1, pw_1] at hs2
  rw [hs2]
  have h0 := (h a (by omega)).1
  generalize vI (fun i => x (a + (1 + i))) (n - a - 1) = C
  generalize (x a).toInt = A at h0 ⊢
  have hs : t % 26 < 26 := Nat.mod_lt _ (by decide)
  generalize t % 26 = s at hs ⊢
  rcases (show s = 0 ∨ s = 1 ∨ s = 2 ∨ s = 3 ∨ s = 4 ∨ s = 5 ∨ s = 6 ∨ s = 7 ∨ s = 8 ∨ s = 9 ∨ s = 10 ∨ s = 11 ∨ s = 12 ∨ s = 13 ∨ s = 14 ∨ s = 15 ∨ s = 16 ∨ s = 17 ∨ s = 18 ∨ s = 19 ∨ s = 20 ∨ s = 21 ∨ s = 22 ∨ s = 23 ∨ s = 24 ∨ s = 25 by omega) with rfl | rfl | rfl | rfl | rfl | rfl | rfl | rfl | rfl | rfl | rfl | rfl | rfl | rfl | rfl | rfl | rfl | rfl | rfl | rfl | rfl | rfl | rfl | rfl | rfl | rfl
  · rw [show (2 : Int) ^ 0 = 1 from by decide]; omega
  · rw [show (2 : Int) ^ 1 = 2 from by decide]; omega
  · rw [show (2 : Int) ^ 2 = 4 from by decide]; omega
  · rw [show (2 : Int) ^ 3 = 8 from by decide]; omega
  · rw [show (2 : Int) ^ 4 = 16 from by decide]; omega
  · rw [show (2 : Int) ^ 5 = 32 from by decide]; omega
  · rw [show (2 : Int) ^ 6 = 64 from by decide]; omega
  · rw [show (2 : Int) ^ 7 = 128 from by decide]; omega
  · rw [show (2 : Int) ^ 8 = 256 from by decide]; omega
  · rw [show (2 : Int) ^ 9 = 512 from by decide]; omega
  · rw [show (2 : Int) ^ 10 = 1024 from by decide]; omega
  · rw [show (2 : Int) ^ 11 = 2048 from by decide]; omega
  · rw [show (2 : Int) ^ 12 = 4096 from by decide]; omega
  · rw [show (2 : Int) ^ 13 = 8192 from by decide]; omega
  · rw [show (2 : Int) ^ 14 = 16384 from by decide]; omega
  · rw [show (2 : Int) ^ 15 = 32768 from by decide]; omega
  · rw [show (2 : Int) ^ 16 = 65536 from by decide]; omega
  · rw [show (2 : Int) ^ 17 = 131072 from by decide]; omega
  · rw [show (2 : Int) ^ 18 = 262144 from by decide]; omega
  · rw [show (2 : Int) ^ 19 = 524288 from by decide]; omega
  · rw [show (2 : Int) ^ 20 = 1048576 from by decide]; omega
  · rw [show (2 : Int) ^ 21 = 2097152 from by decide]; omega
  · rw [show (2 : Int) ^ 22 = 4194304 from by decide]; omega
  · rw [show (2 : Int) ^ 23 = 8388608 from by decide]; omega
  · rw [show (2 : Int) ^ 24 = 16777216 from by decide]; omega
  · rw [show (2 : Int) ^ 25 = 33554432 from by decide]; omega
/-- a bit of a row of digits, as an int -/
theorem bit_i {x : Nat → Int64} {n t : Nat} (h : Dg x n) (ht : t < 26 * n) : (sar (x (t / 26)) (t % 26) &&& 1).toInt32 = nI ((vI x n / 2 ^ t % 2).toNat) := by
  rw [← dig_bit h ht]
  obtain ⟨h0, h1⟩ := h (t / 26) (by omega)
  obtain ⟨a, ha, e⟩ := pk_lOf (x := x (t / 26)) (fun q => by rw [Int64.lt_iff_toInt_lt] at q; rw [show (0 : Int64).toInt = 0 from rfl] at q; omega)
  rw [e, pk_lT ha]
  have es : sar (lN a) (t % 26) = lN (a / 2 ^ (t % 26)) := by
    apply Int64.toInt_inj.mp
    rw [sar_i _ (by omega), pk_lT ha, pk_lT (Nat.lt_of_le_of_lt (Nat.div_le_self _ _) ha), Int.natCast_ediv, Int.natCast_pow]
    rfl
  rw [es, wb_a1 (Nat.lt_of_le_of_lt (Nat.div_le_self _ _) (by omega)), lN_i]
  congr 1
theorem or_bit : ∀ b, b < 8 → ∀ x, x < 2 ^ b → nI x ||| (nI 0 <<< (nI b &&& 31)) = nI x ∧ nI x ||| (nI 1 <<< (nI b &&& 31)) = nI (x + 2 ^ b) := by decide +kernel
/-- the low b bits of v, and one more -/
theorem or_s {v b : Nat} (hb : b < 8) : nI (v % 2 ^ b) ||| (nI (v / 2 ^ b % 2) <<< (nI b &&& 31)) = nI (v % 2 ^ (b + 1)) := by
  obtain ⟨h0, h1⟩ := or_bit b hb (v % 2 ^ b) (Nat.mod_lt _ (Nat.pow_pos (by decide)))
  have e : v % 2 ^ (b + 1) = v % 2 ^ b + 2 ^ b * (v / 2 ^ b % 2) := by rw [Nat.pow_succ, Nat.mod_mul]
  rcases (show v / 2 ^ b % 2 = 0 ∨ v / 2 ^ b % 2 = 1 by omega) with q | q
  · rw [e, q, h0, Nat.mul_zero, Nat.add_zero]
  · rw [e, q, h1, Nat.mul_one]
