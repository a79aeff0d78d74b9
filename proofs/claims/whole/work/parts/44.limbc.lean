/-! carries, folds, products: their numbers -/
theorem cry_spec (f : Nat → Int64) (N : Nat) (hf : ∀ i, i < N → -4611686018427387904 ≤ (f i).toInt ∧ (f i).toInt ≤ 4611686018427387904) : ∀ k, k < N →
    (∀ i, i < k → 0 ≤ (cry f k i).toInt ∧ (cry f k i).toInt < 67108864) ∧ (∀ i, k < i → cry f k i = f i) ∧ (-4611686155866341376 ≤ (cry f k k).toInt ∧ (cry f k k).toInt ≤ 4611686155866341376) ∧ ∀ M, k < M → vI (cry f k) M = vI f M
  | 0, h0 => ⟨fun i h => absurd h (by omega), fun _ _ => rfl, by have := hf 0 h0; exact ⟨by show _ ≤ (f 0).toInt; omega, by show (f 0).toInt ≤ _; omega⟩, fun _ _ => rfl⟩
  | k + 1, hk => by
    obtain ⟨h1, h2, h3, h4⟩ := cry_spec f N hf k (by omega)
    have hn := hf (k + 1) hk
    have ek : cry f k (k + 1) = f (k + 1) := h2 _ (by omega)
    obtain ⟨a, ha⟩ : ∃ a, a = (cry f k k).toInt := ⟨_, rfl⟩
    rw [← ha] at h3
    have es : (sar (cry f k k) 26).toInt = a / 67108864 := by rw [sar_i _ (by decide), ← ha]; rfl
    have e1 : (cry f k (k + 1) + sar (cry f k k) 26).toInt = (f (k + 1)).toInt + a / 67108864 := by
      rw [add_i (by rw [ek, es]; omega) (by rw [ek, es]; omega), ek, es]
    have c1 : cry f (k + 1) (k + 1) = cry f k (k + 1) + sar (cry f k k) 26 := by
      show cr1 k (cry f k) (k + 1) = _
      unfold cr1
      rw [va_up_ne _ _ (by omega), va_up_self]
    have c0 : cry f (k + 1) k = cry f k k &&& 67108863 := by
      show cr1 k (cry f k) k = _
      unfold cr1
      rw [va_up_self, va_up_ne _ _ (by omega)]
    have co : ∀ i, i ≠ k → i ≠ k + 1 → cry f (k + 1) i = cry f k i := by
      intro i hi hi2
      show cr1 k (cry f k) i = _
      unfold cr1
      rw [va_up_ne _ _ hi, va_up_ne _ _ hi2]
    refine ⟨?_, ?_, ?_, ?_⟩
    · intro i hi
      by_cases hik : i = k
      · rw [hik, c0, msk_i]; omega
      · rw [co i hik (by omega)]; exact h1 i (by omega)
    · intro i hi
      rw [co i (by omega) (by omega)]; exact h2 i (by omega)
    · rw [c1, e1]; omega
    · intro M hM
      rw [← h4 M (by omega)]
      show vI (cr1 k (cry f k)) M = _
      unfold cr1
      rw [vI_up, vI_up, if_pos hM, if_pos (show k < M by omega), e1, ek, va_up_ne _ _ (by omega), msk_i, ← ha, p26]
      have hd : a = 67108864 * (a / 67108864) + a % 67108864 := by omega
      generalize a / 67108864 = u at hd ⊢
      generalize a % 67108864 = v at hd ⊢
      subst hd
      grind
theorem vI_rng {f : Nat → Int64} : ∀ {n : Nat}, (∀ i, i < n → 0 ≤ (f i).toInt ∧ (f i).toInt < 67108864) → 0 ≤ vI f n ∧ vI f n < 2 ^ (26 * n)
  | 0, _ => by simp [vI]
  | n + 1, h => by
    obtain ⟨a, b⟩ := vI_rng (n := n) (fun i hi => h i (by omega))
    obtain ⟨c, d⟩ := h n (by omega)
    have hp : (0 : Int) < 2 ^ (26 * n) := Int.pow_pos (by decide)
    rw [vI, p26]
    have e1 : 0 ≤ (f n).toInt * 2 ^ (26 * n) := Int.mul_nonneg c (by omega)
    have e2 : (f n).toInt * 2 ^ (26 * n) ≤ 67108863 * 2 ^ (26 * n) := Int.mul_le_mul_of_nonneg_right (by omega) (by omega)
    omega
/-- the top limb of a carried row is what its number has above -/
theorem cry_top (f : Nat → Int64) {N : Nat} (hN : 1 ≤ N) (hf : ∀ i, i < N → -4611686018427387904 ≤ (f i).toInt ∧ (f i).toInt ≤ 4611686018427387904) :
    (∀ i, i < N - 1 → 0 ≤ (cry f (N - 1) i).toInt ∧ (cry f (N - 1) i).toInt < 67108864) ∧ vI (cry f (N - 1)) N = vI f N ∧ ∃ r : Int, 0 ≤ r ∧ r < 2 ^ (26 * (N - 1)) ∧ vI f N = r + (cry f (N - 1) (N - 1)).toInt * 2 ^ (26 * (N - 1)) := by
  obtain ⟨h1, -, -, h4⟩ := cry_spec f N hf (N - 1) (by omega)
  have e := h4 N (by omega)
  obtain ⟨a, b⟩ := vI_rng h1
  refine ⟨h1, e, vI (cry f (N - 1)) (N - 1), a, b, ?_⟩
  rw [← e]
  obtain ⟨k, rfl⟩ : ∃ k, N = k + 1 := ⟨N - 1, by omega⟩
  rfl
theorem sal_i {x : Int64} {k : Nat} (hk : k < 63) (h1 : -9223372036854775808 ≤ x.toInt * 2 ^ k) (h2 : x.toInt * 2 ^ k < 9223372036854775808) : (sal x k).toInt = x.toInt * 2 ^ k := by
  obtain ⟨n, hn, rfl⟩ := wb_of x
  unfold sal
  rw [wb_shl _ (by omega)]
  have e : (lN n * lN (2 ^ k)).toInt = (lN n).toInt * 2 ^ k := by
    have e2 : (lN (2 ^ k)).toInt = 2 ^ k := by
      rw [pk_lT (Nat.pow_lt_pow_right (by decide) (by omega))]
      exact Int.natCast_pow 2 k
    rw [mul_i (by rw [e2]; exact h1) (by rw [e2]; exact h2), e2]
  rw [← e, lN_mul]
theorem fTop_G (n tb : Nat) (low : Int64) (lw B : Int) (f : Nat → Int64) (hn : 2 ≤ n) (htb : tb ≤ 26) (hlow : low.toInt = lw) (hlw : 0 ≤ lw) (hB : 0 ≤ B ∧ B ≤ 2305843009213693952) (hlB : lw * (B + 1) ≤ 2305843009213693952) (hf : ∀ i, i < n → -4611686018427387904 ≤ (f i).toInt ∧ (f i).toInt ≤ 4611686018427387904)
    (hV : -(B * 2 ^ (26 * (n - 1))) ≤ vI f n ∧ vI f n ≤ B * 2 ^ (26 * (n - 1))) :
    ∃ (r T g0 : Int), 0 ≤ r ∧ r < 2 ^ (26 * (n - 1)) ∧ vI f n = r + T * 2 ^ (26 * (n - 1)) ∧ 0 ≤ g0 ∧ g0 < 67108864 ∧ (fTop n tb low f 0).toInt = g0 + lw * (T / 2 ^ tb) ∧ (∀ i, 1 ≤ i → i < n - 1 → 0 ≤ (fTop n tb low f i).toInt ∧ (fTop n tb low f i).toInt < 67108864) ∧ (fTop n tb low f (n - 1)).toInt = T % 2 ^ tb ∧ vI (fTop n tb low f) n = vI f n - (T / 2 ^ tb) * (2 ^ tb * 2 ^ (26 * (n - 1)) - lw) := by
  obtain ⟨h1, h2, r, hr0, hr1, hr2⟩ := cry_top f (by omega) hf
  obtain ⟨g, hg⟩ : ∃ g, g = cry f (n - 1) := ⟨_, rfl⟩
  obtain ⟨T, hT⟩ : ∃ T, T = (g (n - 1)).toInt := ⟨_, rfl⟩
  rw [← hg] at h1 h2 hr2
  rw [← hT] at hr2
  have hp : (0 : Int) < 2 ^ (26 * (n - 1)) := Int.pow_pos (by decide)
  have hT1 : T ≤ B := by
    refine Int.le_of_mul_le_mul_right (a := 2 ^ (26 * (n - 1))) ?_ hp
    omega
  have hT2 : -(B + 1) ≤ T := by
    refine Int.le_of_mul_le_mul_right (a := 2 ^ (26 * (n - 1))) ?_ hp
    have e : -(B + 1) * 2 ^ (26 * (n - 1)) = -(B * 2 ^ (26 * (n - 1))) - 2 ^ (26 * (n - 1)) := by grind
    omega
  obtain ⟨Q, hQ⟩ : ∃ Q : Int, Q = 2 ^ tb := ⟨_, rfl⟩
  have hQ0 : 0 < Q := by rw [hQ]; exact Int.pow_pos (by decide)
  have hQ1 : Q ≤ 67108864 := by
    rw [hQ]
    have h := Int.ofNat_le.mpr (Nat.pow_le_pow_right (show 2 > 0 by decide) htb)
    rw [Int.natCast_pow] at h
    exact h
  obtain ⟨hi, hhi⟩ : ∃ hi, hi = T / Q := ⟨_, rfl⟩
  have hdm : T = Q * hi + T % Q := by rw [hhi]; exact (Int.mul_ediv_add_emod T Q).symm
  have hm0 : 0 ≤ T % Q := Int.emod_nonneg _ (by omega)
  have hm1 : T % Q < Q := Int.emod_lt_of_pos _ hQ0
  have hhi1 : hi ≤ B := by
    rw [hhi]
    refine Int.ediv_le_of_le_mul hQ0 ?_
    have := Int.mul_le_mul_of_nonneg_left (show (1 : Int) ≤ Q by omega) hB.1
    omega
  have hhi2 : -(B + 1) ≤ hi := by
    rw [hhi]
    refine Int.le_ediv_of_mul_le hQ0 ?_
    have := Int.mul_le_mul_of_nonneg_left (show (1 : Int) ≤ Q by omega) (show 0 ≤ B + 1 by omega)
    have e : -(B + 1) * Q = -((B + 1) * Q) := by grind
    omega
  have es : (sar (g (n - 1)) tb).toInt = hi := by rw [sar_i _ (by omega), ← hT, hhi, hQ]
  have el : (sal (sar (g (n - 1)) tb) tb).toInt = hi * Q := by
    rw [sal_i (by omega) (by rw [es, ← hQ, Int.mul_comm]; omega) (by rw [es, ← hQ, Int.mul_comm]; omega), es, hQ]
  have et : (g (n - 1) - sal (sar (g (n - 1)) tb) tb).toInt = T % Q := by
    rw [sub_i (by rw [← hT, el, Int.mul_comm]; omega) (by rw [← hT, el, Int.mul_comm]; omega), ← hT, el, Int.mul_comm]; omega
  have hlh1 : lw * hi ≤ 2305843009213693952 := by
    have h5 := Int.mul_le_mul_of_nonneg_left (show hi ≤ B + 1 by omega) hlw
    omega
  have hlh2 : -2305843009213693952 ≤ lw * hi := by
    have h5 := Int.mul_le_mul_of_nonneg_left hhi2 hlw
    have e : lw * -(B + 1) = -(lw * (B + 1)) := by grind
    omega
  have em : (low * sar (g (n - 1)) tb).toInt = lw * hi := by
    rw [mul_i (by rw [hlow, es]; omega) (by rw [hlow, es]; omega), hlow, es]
  have hg0 := h1 0 (by omega)
  have eR : fTop n tb low f = va_up (va_up g (n - 1) (g (n - 1) - sal (sar (g (n - 1)) tb) tb)) 0 (va_up g (n - 1) (g (n - 1) - sal (sar (g (n - 1)) tb) tb) 0 + low * sar (g (n - 1)) tb) := by
    rw [hg]; rfl
  have e0 : (va_up g (n - 1) (g (n - 1) - sal (sar (g (n - 1)) tb) tb) 0 + low * sar (g (n - 1)) tb).toInt = (g 0).toInt + lw * hi := by
    rw [va_up_ne _ _ (by omega), add_i (by rw [em]; omega) (by rw [em]; omega), em]
  rw [← hQ]
  refine ⟨r, T, (g 0).toInt, hr0, hr1, hr2, hg0.1, hg0.2, ?_, ?_, ?_, ?_⟩
  · rw [eR, va_up_self, e0, hhi]
  · intro i hi1 hi2
    rw [eR, va_up_ne _ _ (by omega), va_up_ne _ _ (by omega)]
    exact h1 i hi2
  · rw [eR, va_up_ne _ _ (by omega), va_up_self, et]
  · rw [eR, vI_up, vI_up, if_pos (by omega), if_pos (by omega), e0, et, ← hT, va_up_ne _ _ (by omega), h2, ← hhi, Nat.mul_zero]
    generalize T % Q = v at hdm
    rw [hdm]
    grind
theorem fTop_spec (n tb : Nat) (low : Int64) (lw : Int) (f : Nat → Int64) (hn : 2 ≤ n) (htb : tb ≤ 26) (hlow : low.toInt = lw) (hlw : 0 ≤ lw ∧ lw ≤ 1000) (hf : ∀ i, i < n → -4611686018427387904 ≤ (f i).toInt ∧ (f i).toInt ≤ 4611686018427387904)
    (hV : -1099511627776 * 2 ^ (26 * (n - 1)) ≤ vI f n ∧ vI f n ≤ 1099511627776 * 2 ^ (26 * (n - 1))) :
    ∃ (r T g0 : Int), 0 ≤ r ∧ r < 2 ^ (26 * (n - 1)) ∧ vI f n = r + T * 2 ^ (26 * (n - 1)) ∧ 0 ≤ g0 ∧ g0 < 67108864 ∧ (fTop n tb low f 0).toInt = g0 + lw * (T / 2 ^ tb) ∧ (∀ i, 1 ≤ i → i < n - 1 → 0 ≤ (fTop n tb low f i).toInt ∧ (fTop n tb low f i).toInt < 67108864) ∧ (fTop n tb low f (n - 1)).toInt = T % 2 ^ tb ∧ vI (fTop n tb low f) n = vI f n - (T / 2 ^ tb) * (2 ^ tb * 2 ^ (26 * (n - 1)) - lw) := by
  refine fTop_G n tb low lw 1099511627776 f hn htb hlow hlw.1 (by decide) ?_ hf ?_
  · have := Int.mul_le_mul_of_nonneg_right hlw.2 (show (0 : Int) ≤ 1099511627776 + 1 by decide)
    omega
  · have e : -(1099511627776 * 2 ^ (26 * (n - 1)) : Int) = -1099511627776 * 2 ^ (26 * (n - 1)) := by grind
    rw [e]
    exact hV
