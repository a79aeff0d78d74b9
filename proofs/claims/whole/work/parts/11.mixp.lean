/-! pure: LAID OUT, MIX, CORE, THE STREAM, by bytes -/
theorem fil_app {α : Type} {o k1 k2 : Nat} {g h f : Nat → α} (hg : ∀ b, b < k2 → g (k1 + b) = h b) : fil (o + k1) k2 h (fil o k1 g f) = fil o (k1 + k2) g f := by
  funext j
  unfold fil
  by_cases h1 : o + k1 ≤ j ∧ j < o + k1 + k2
  · rw [if_pos h1, if_pos (by omega), ← hg _ (by omega)]
    congr 1
    omega
  · rw [if_neg h1]
    by_cases h2 : o ≤ j ∧ j < o + k1
    · rw [if_pos h2, if_pos (by omega)]
    · rw [if_neg h2, if_neg (by omega)]
theorem fil_comm {α : Type} {o1 k1 o2 k2 : Nat} {g1 g2 f : Nat → α} (hd : o1 + k1 ≤ o2 ∨ o2 + k2 ≤ o1) : fil o1 k1 g1 (fil o2 k2 g2 f) = fil o2 k2 g2 (fil o1 k1 g1 f) := by
  funext j
  unfold fil
  by_cases h1 : o1 ≤ j ∧ j < o1 + k1
  · rw [if_pos h1, if_neg (by omega), if_pos h1]
  · rw [if_neg h1, if_neg h1]
theorem fil_lt {o k : Nat} {g f : Nat → Nat} (hg : ∀ j, g j < 256) (hf : ∀ j, f j < 256) (j : Nat) : fil o k g f j < 256 := by
  unfold fil
  by_cases h : o ≤ j ∧ j < o + k
  · rw [if_pos h]
    exact hg _
  · rw [if_neg h]
    exact hf _
def layL (K X : Nat → Nat) (f : Nat → Int32) : Nat → (Nat → Int32)
  | 0 => f
  | k + 1 => va_up (va_up (va_up (layL K X f k) (1 + k) (wordN K (4 * k))) (6 + k) (wordN X (4 * k))) (11 + k) (wordN K (16 + 4 * k))
def LAY (K X : Nat → Nat) : Nat → Int32 := fun j => if j = 0 then 1634760805 else if j = 5 then 857760878 else if j = 10 then 2036477234 else if j = 15 then 1797285236 else if j < 5 then wordN K (4 * (j - 1)) else if j < 10 then wordN X (4 * (j - 6)) else wordN K (16 + 4 * (j - 11))
theorem layL_4 (K X : Nat → Nat) (f : Nat → Int32) : ∀ j, j < 16 → layL K X (va_up (va_up (va_up (va_up f 0 1634760805) 5 857760878) 10 2036477234) 15 1797285236) 4 j = LAY K X j := by
  intro j hj
  match j, hj with
  | 0, _ => rfl
  | 1, _ => rfl
  | 2, _ => rfl
  | 3, _ => rfl
  | 4, _ => rfl
  | 5, _ => rfl
  | 6, _ => rfl
  | 7, _ => rfl
  | 8, _ => rfl
  | 9, _ => rfl
  | 10, _ => rfl
  | 11, _ => rfl
  | 12, _ => rfl
  | 13, _ => rfl
  | 14, _ => rfl
  | 15, _ => rfl
  | j + 16, h => exact absurd h (by omega)
/-- the words that MIX and CORE come out of -/
def RND (K X : Nat → Nat) : Nat → Int32 := rnds 10 (LAY K X)
def MIXB (K X : Nat → Nat) : Nat → Nat := fun j => if j < 16 then byN (RND K X (5 * (j / 4))) (j % 4) else byN (RND K X (6 + (j - 16) / 4)) (j % 4)
theorem MIXB_lt (K X : Nat → Nat) (j : Nat) : MIXB K X j < 256 := by
  unfold MIXB
  by_cases h : j < 16
  · rw [if_pos h]; exact byN_lt _ _
  · rw [if_neg h]; exact byN_lt _ _
def COREB (K X : Nat → Nat) : Nat → Nat := fun j => byN (RND K X (j / 4) + LAY K X (j / 4)) (j % 4)
theorem COREB_lt (K X : Nat → Nat) (j : Nat) : COREB K X j < 256 := byN_lt _ _
/-- what stands behind the key: the nonce's last 8 bytes and the block's number -/
def PLC (X : Nat → Nat) (i : Nat) : Nat → Nat := fun j => if j < 8 then X (16 + j) else if j = 8 then i else 0
def STRB (K X : Nat → Nat) : Nat → Nat := fun j => COREB (MIXB K X) (PLC X (j / 64)) (j % 64)
theorem STRB_lt (K X : Nat → Nat) (j : Nat) : STRB K X j < 256 := COREB_lt _ _ _
/-- the two halves of MIX's bytes, written word by word -/
def mixP (K X T : Nat → Nat) (i : Nat) : Nat → Nat := fil 16 (4 * i) (fun j => MIXB K X (16 + j)) (fil 0 (4 * i) (MIXB K X) T)
theorem mixP_0 (K X T : Nat → Nat) : mixP K X T 0 = T := by
  unfold mixP
  rw [fil_0, fil_0]
theorem mixP_s (K X T : Nat → Nat) {i : Nat} (hi : i < 4) : fil (16 + 4 * i) 4 (byN (RND K X (6 + i))) (fil (4 * i) 4 (byN (RND K X (5 * i))) (mixP K X T i)) = mixP K X T (i + 1) := by
  unfold mixP
  rw [fil_comm (o1 := 4 * i) (by omega)]
  have e1 : fil (4 * i) 4 (byN (RND K X (5 * i))) (fil 0 (4 * i) (MIXB K X) T) = fil 0 (4 * (i + 1)) (MIXB K X) T := by
    have := fil_app (o := 0) (k1 := 4 * i) (k2 := 4) (g := MIXB K X) (h := byN (RND K X (5 * i))) (f := T) (fun b hb => by
      unfold MIXB
      rw [if_pos (by omega), show (4 * i + b) / 4 = i by omega, show (4 * i + b) % 4 = b by omega])
    rw [Nat.zero_add] at this
    exact this
  rw [e1]
  exact fil_app (o := 16) (k1 := 4 * i) (k2 := 4) (fun b hb => by
    unfold MIXB
    rw [if_neg (by omega), show (16 + (4 * i + b) - 16) / 4 = i by omega, show (16 + (4 * i + b)) % 4 = b by omega])
theorem mixP_4 (K X T : Nat → Nat) : mixP K X T 4 = fil 0 32 (MIXB K X) T := by
  unfold mixP
  exact fil_app (o := 0) (k1 := 16) (k2 := 16) (fun b _ => rfl)
theorem core_s (K X S : Nat → Nat) (o : Nat) {i : Nat} : fil (o + 4 * i) 4 (byN (RND K X i + LAY K X i)) (fil o (4 * i) (COREB K X) S) = fil o (4 * (i + 1)) (COREB K X) S :=
  fil_app (fun b hb => by
    unfold COREB
    rw [show (4 * i + b) / 4 = i by omega, show (4 * i + b) % 4 = b by omega])
