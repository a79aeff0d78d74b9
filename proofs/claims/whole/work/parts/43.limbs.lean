/-! pure: rows of limbs of 26 bits as whole numbers -/
def wd8 (B : Nat → Nat) (o : Nat) : Nat → Nat
  | 0 => 0
  | k + 1 => wd8 B o k + B (o + k) * 2 ^ (8 * k)
theorem sar_i (x : Int64) {k : Nat} (hk : k < 64) : (sar x k).toInt = x.toInt / 2 ^ k := by
  unfold sar
  rw [wb_c k hk]
  have h1 : (x >>> lN k).toInt = x.toInt >>> k := by
    show (x.toBitVec.sshiftRight' ((lN k).toBitVec.smod 64)).toInt = _
    rw [wb_tb, wb_sm k hk, BitVec.sshiftRight_eq', BitVec.toInt_sshiftRight, BitVec.toNat_ofNat, Nat.mod_eq_of_lt (by omega)]
    rfl
  rw [h1, Int.shiftRight_eq_div_pow]
  rfl
theorem add_i {x y : Int64} (h1 : -9223372036854775808 ≤ x.toInt + y.toInt) (h2 : x.toInt + y.toInt < 9223372036854775808) : (x + y).toInt = x.toInt + y.toInt := by
  rw [Int64.toInt_add]
  exact Int.bmod_eq_of_le (by omega) (by omega)
theorem sub_i {x y : Int64} (h1 : -9223372036854775808 ≤ x.toInt - y.toInt) (h2 : x.toInt - y.toInt < 9223372036854775808) : (x - y).toInt = x.toInt - y.toInt := by
  rw [Int64.toInt_sub]
  exact Int.bmod_eq_of_le (by omega) (by omega)
theorem mul_i {x y : Int64} (h1 : -9223372036854775808 ≤ x.toInt * y.toInt) (h2 : x.toInt * y.toInt < 9223372036854775808) : (x * y).toInt = x.toInt * y.toInt := by
  rw [Int64.toInt_mul]
  exact Int.bmod_eq_of_le (by omega) (by omega)
theorem msk_i (x : Int64) : (x &&& 67108863).toInt = x.toInt % 67108864 := by
  obtain ⟨n, hn, rfl⟩ := wb_of x
  have h : lN n &&& 67108863 = lN (n % 67108864) := g_mask (s := 26) (p := 67108864) rfl (by decide) hn
  rw [h, pk_lT (by omega)]
  have e : (lN n).toInt = (n : Int) ∨ (lN n).toInt = (n : Int) - 18446744073709551616 := by
    have c := BitVec.toInt_eq_toNat_cond (lN n).toBitVec
    rw [wb_tn hn] at c
    show (lN n).toBitVec.toInt = _ ∨ (lN n).toBitVec.toInt = _
    rw [c]
    by_cases q : 2 * n < 2 ^ 64
    · rw [if_pos q]; exact Or.inl rfl
    · rw [if_neg q]; exact Or.inr rfl
  rcases e with e | e <;> rw [e] <;> omega
/-- the number of a row's first n limbs -/
def vI (f : Nat → Int64) : Nat → Int
  | 0 => 0
  | n + 1 => vI f n + (f n).toInt * 2 ^ (26 * n)
theorem p26 (k : Nat) : (2 : Int) ^ (26 * (k + 1)) = 67108864 * 2 ^ (26 * k) := by
  rw [show 26 * (k + 1) = 26 + 26 * k by omega, Int.pow_add]
  rfl
theorem vI_up (f : Nat → Int64) (k : Nat) (v : Int64) : ∀ n, vI (va_up f k v) n = vI f n + if k < n then (v.toInt - (f k).toInt) * 2 ^ (26 * k) else 0
  | 0 => by simp [vI]
  | n + 1 => by
    rw [vI, vI, vI_up f k v n]
    by_cases h : n = k
    · subst h
      rw [va_up_self, if_neg (Nat.lt_irrefl _), if_pos (Nat.lt_succ_self _)]
      grind
    · rw [va_up_ne _ _ h]
      by_cases h2 : k < n
      · rw [if_pos h2, if_pos (by omega)]; grind
      · rw [if_neg h2, if_neg (by omega)]; grind
theorem vI_congr {f g : Nat → Int64} : ∀ {n : Nat}, (∀ j, j < n → f j = g j) → vI f n = vI g n
  | 0, _ => rfl
  | n + 1, h => by
    rw [vI, vI, vI_congr (fun j hj => h j (by omega)), h n (by omega)]
theorem lN_i32 (n : Nat) : (lN n).toInt32.toBitVec.toNat % 256 = n % 256 := by
  rw [lN_i]
  show (BitVec.ofNat 32 n).toNat % 256 = _
  rw [BitVec.toNat_ofNat]
  omega
