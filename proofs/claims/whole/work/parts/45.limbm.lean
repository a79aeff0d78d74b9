/-! products of rows -/
theorem mul28 {a b : Int} (ha : -268435456 ≤ a ∧ a ≤ 268435456) (hb : -268435456 ≤ b ∧ b ≤ 268435456) : -72057594037927936 ≤ a * b ∧ a * b ≤ 72057594037927936 := by
  have h1 : a * b ≤ 72057594037927936 := by
    rcases Int.le_total 0 a with p | p
    · have h1 := Int.mul_le_mul_of_nonneg_left hb.2 p
      omega
    · have h1 := Int.mul_le_mul_of_nonneg_left hb.1 (show (0 : Int) ≤ -a by omega)
      have e : -a * -268435456 = 268435456 * a := by grind
      have e2 : -a * b = -(a * b) := by grind
      omega
  have h2 : -72057594037927936 ≤ a * b := by
    rcases Int.le_total 0 a with p | p
    · have h1 := Int.mul_le_mul_of_nonneg_left hb.1 p
      omega
    · have h1 := Int.mul_le_mul_of_nonneg_left hb.2 (show (0 : Int) ≤ -a by omega)
      have e2 : -a * b = -(a * b) := by grind
      omega
  exact ⟨h2, h1⟩
/-- a row's limbs are under 2^28 either way -/
def b28 (x : Nat → Int64) (n : Nat) : Prop := ∀ i, i < n → -268435456 ≤ (x i).toInt ∧ (x i).toInt ≤ 268435456
theorem mulR_spec {x y W : Nat → Int64} {n i : Nat} (hx : b28 x n) (hy : b28 y n) (hi : i < n) (hn : n ≤ 10) (hW : ∀ k, -(72057594037927936 * i : Int) ≤ (W k).toInt ∧ (W k).toInt ≤ 72057594037927936 * i) : ∀ j, j ≤ n →
    (∀ k, i + j ≤ k → mulR x y W i j k = W k) ∧ (∀ k, -(72057594037927936 * (i + 1) : Int) ≤ (mulR x y W i j k).toInt ∧ (mulR x y W i j k).toInt ≤ 72057594037927936 * (i + 1)) ∧ ∀ M, i + n ≤ M → vI (mulR x y W i j) M = vI W M + (x i).toInt * 2 ^ (26 * i) * vI y j
  | 0, _ => ⟨fun _ _ => rfl, fun k => by have := hW k; exact ⟨by show _ ≤ (W k).toInt; omega, by show (W k).toInt ≤ _; omega⟩, fun M _ => by show vI W M = _; rw [show vI y 0 = 0 from rfl]; omega⟩
  | j + 1, hj => by
    obtain ⟨h1, h2, h3⟩ := mulR_spec hx hy hi hn hW j (by omega)
    have hm := mul28 (hx i hi) (hy j (by omega))
    have hw := hW (i + j)
    have em : (x i * y j).toInt = (x i).toInt * (y j).toInt := mul_i (by omega) (by omega)
    have ea : (mulR x y W i j (i + j) + x i * y j).toInt = (W (i + j)).toInt + (x i).toInt * (y j).toInt := by
      rw [h1 _ (Nat.le_refl _), add_i (by rw [em]; omega) (by rw [em]; omega), em]
    have er : mulR x y W i (j + 1) = va_up (mulR x y W i j) (i + j) (mulR x y W i j (i + j) + x i * y j) := rfl
    rw [er]
    refine ⟨fun k hk => ?_, fun k => ?_, fun M hM => ?_⟩
    · rw [va_up_ne _ _ (by omega)]; exact h1 k (by omega)
    · by_cases hk : k = i + j
      · rw [hk, va_up_self, ea]; omega
      · rw [va_up_ne _ _ hk]; exact h2 k
    · rw [vI_up, if_pos (by omega), h3 M hM, ea, h1 _ (Nat.le_refl _), vI, show 26 * (i + j) = 26 * i + 26 * j by omega, Int.pow_add]
      grind
theorem mulW_spec {x y : Nat → Int64} {n : Nat} (hx : b28 x n) (hy : b28 y n) (hn : n ≤ 10) : ∀ i, i ≤ n →
    (∀ k, -(72057594037927936 * i : Int) ≤ (mulW x y n i k).toInt ∧ (mulW x y n i k).toInt ≤ 72057594037927936 * i) ∧ ∀ M, n + n ≤ M → vI (mulW x y n i) M = vI x i * vI y n
  | 0, _ => ⟨fun k => by show _ ≤ (0 : Int64).toInt ∧ (0 : Int64).toInt ≤ _; rw [show (0 : Int64).toInt = 0 from rfl]; omega, fun M _ => by
      rw [show vI x 0 = 0 from rfl, Int.zero_mul]
      have : ∀ M, vI (mulW x y n 0) M = 0 := by
        intro M
        induction M with
        | zero => rfl
        | succ M ih =>
          rw [vI, ih]
          show 0 + (0 : Int64).toInt * _ = 0
          rw [show (0 : Int64).toInt = 0 from rfl]
          omega
      exact this M⟩
  | i + 1, hi => by
    obtain ⟨h1, h2⟩ := mulW_spec hx hy hn i (by omega)
    obtain ⟨-, h4, h5⟩ := mulR_spec hx hy (show i < n by omega) hn h1 n (Nat.le_refl _)
    refine ⟨fun k => ?_, fun M hM => ?_⟩
    · have := h4 k
      show _ ≤ (mulR x y (mulW x y n i) i n k).toInt ∧ (mulR x y (mulW x y n i) i n k).toInt ≤ _
      omega
    · show vI (mulR x y (mulW x y n i) i n) M = _
      rw [h5 M (by omega), h2 M hM, vI]
      grind
/-- the number of the limbs from o on -/
theorem vI_split (w : Nat → Int64) (o : Nat) : ∀ k, vI w (o + k) = vI w o + 2 ^ (26 * o) * vI (fun i => w (o + i)) k
  | 0 => by rw [show vI (fun i => w (o + i)) 0 = 0 from rfl]; show vI w o = _; omega
  | k + 1 => by
    show vI w (o + k) + (w (o + k)).toInt * 2 ^ (26 * (o + k)) = _
    rw [vI_split w o k, show 26 * (o + k) = 26 * o + 26 * k by omega, Int.pow_add, vI]
    grind
theorem vI_lin {f g h : Nat → Int64} {c : Int} : ∀ {n : Nat}, (∀ i, i < n → (f i).toInt = (g i).toInt + c * (h i).toInt) → vI f n = vI g n + c * vI h n
  | 0, _ => by show (0 : Int) = 0 + c * 0; omega
  | n + 1, e => by
    rw [vI, vI, vI, vI_lin (fun i hi => e i (by omega)), e n (by omega)]
    grind
theorem b62 {f : Nat → Int64} {N : Nat} (h : ∀ i, i < N → -1152921504606846976 ≤ (f i).toInt ∧ (f i).toInt ≤ 1152921504606846976) : ∀ i, i < N → -4611686018427387904 ≤ (f i).toInt ∧ (f i).toInt ≤ 4611686018427387904 := fun i hi => by have := h i hi; omega
/-- the carried product: what it is of x and y -/
theorem wdC_spec {x y : Nat → Int64} {n : Nat} (hx : b28 x n) (hy : b28 y n) (hn1 : 1 ≤ n) (hn : n ≤ 10) :
    (∀ i, i < n + n - 1 → 0 ≤ (wdC x y n i).toInt ∧ (wdC x y n i).toInt < 67108864) ∧ vI (wdC x y n) (n + n) = vI x n * vI y n ∧ ∃ r : Int, 0 ≤ r ∧ r < 2 ^ (26 * (n + n - 1)) ∧ vI x n * vI y n = r + (wdC x y n (n + n - 1)).toInt * 2 ^ (26 * (n + n - 1)) := by
  obtain ⟨h1, h2⟩ := mulW_spec hx hy hn n (Nat.le_refl _)
  have hb : ∀ i, i < n + n → -4611686018427387904 ≤ (mulW x y n n i).toInt ∧ (mulW x y n n i).toInt ≤ 4611686018427387904 := by
    intro i _
    have := h1 i
    omega
  obtain ⟨c1, c2, c3⟩ := cry_top (mulW x y n n) (N := n + n) (by omega) hb
  rw [h2 (n + n) (Nat.le_refl _)] at c2 c3
  exact ⟨c1, c2, c3⟩
