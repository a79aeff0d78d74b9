/-! pure words: rows of bytes by their numbers, words of four bytes, fillings -/
def fil {α : Type} (o k : Nat) (g f : Nat → α) : Nat → α := fun j => if o ≤ j ∧ j < o + k then g (j - o) else f j
theorem fil_0 {α : Type} (o : Nat) (g f : Nat → α) : fil o 0 g f = f := by
  funext j
  unfold fil
  rw [if_neg (by omega)]
theorem fil_s {α : Type} (o k : Nat) (g f : Nat → α) {v : α} (hv : v = g k) : va_up (fil o k g f) (o + k) v = fil o (k + 1) g f := by
  subst hv
  funext j
  unfold fil va_up
  by_cases h : j = o + k
  · subst h
    rw [if_pos rfl, if_pos (by omega)]
    congr 1
    omega
  · rw [if_neg h]
    dsimp only
    by_cases h2 : o ≤ j ∧ j < o + k
    · rw [if_pos h2, if_pos (by omega)]
    · rw [if_neg h2, if_neg (by omega)]
theorem fil_in {α : Type} {o k : Nat} {g f : Nat → α} {j : Nat} (h : j < k) : fil o k g f (o + j) = g j := by
  unfold fil
  rw [if_pos (by omega)]
  congr 1
  omega
theorem fil_out {α : Type} {o k : Nat} {g f : Nat → α} {j : Nat} (h : j < o ∨ o + k ≤ j) : fil o k g f j = f j := by
  unfold fil
  rw [if_neg (by omega)]
def bs (B : Nat → Nat) : Nat → Int32 := fun j => sb_b (B j)
def ns (B : Nat → Nat) : Nat → Int32 := fun j => nI (B j)
theorem bs_up (B : Nat → Nat) (k v : Nat) {x : Int32} (hx : x = sb_b v) : va_up (bs B) k x = bs (va_up B k v) := by
  subst hx
  funext j
  unfold bs va_up
  by_cases h : j = k <;> simp [h]
theorem ns_up (B : Nat → Nat) (k v : Nat) {x : Int32} (hx : x = nI v) : va_up (ns B) k x = ns (va_up B k v) := by
  subst hx
  funext j
  unfold ns va_up
  by_cases h : j = k <;> simp [h]
theorem bs_fit (B : Nat → Nat) (i : Nat) : fits .byte (.int (bs B i)) = true := sb_fitB _
theorem bs_and {B : Nat → Nat} {i : Nat} (h : B i < 256) : bs B i &&& 255 = nI (B i) := (sb_byte _ h).1
def wordN (B : Nat → Nat) (i : Nat) : Int32 := nI (B i) ||| nI (B (i + 1)) <<< ((8 : Int32) &&& 31) ||| nI (B (i + 2)) <<< ((16 : Int32) &&& 31) ||| nI (B (i + 3)) <<< ((24 : Int32) &&& 31)
def byN (w : Int32) (b : Nat) : Nat := w.toBitVec.toNat / 2 ^ (8 * b) % 256
theorem byN_lt (w : Int32) (b : Nat) : byN w b < 256 := Nat.mod_lt _ (by decide)
theorem pk_tn' {n : Nat} : (Int32.ofNat n).toBitVec.toNat = n % 2 ^ 32 := by
  show (BitVec.ofNat 32 n).toNat = _
  rw [BitVec.toNat_ofNat]
theorem i8_sb (y : Int32) : y.toInt8.toInt32 = sb_b (y.toBitVec.toNat % 256) := by
  unfold sb_b nI
  apply Int32.toBitVec_inj.mp
  rw [Int8.toBitVec_toInt32, Int8.toBitVec_toInt32]
  congr 1
  rw [Int32.toBitVec_toInt8, Int32.toBitVec_toInt8]
  apply BitVec.eq_of_toNat_eq
  rw [BitVec.signExtend_eq_setWidth_of_le _ (by decide), BitVec.signExtend_eq_setWidth_of_le _ (by decide), BitVec.toNat_setWidth, BitVec.toNat_setWidth, pk_tn']
  omega
theorem nar_i8 (y : Int32) : vp_nar .byte y.toInt8.toInt32 = sb_b (y.toBitVec.toNat % 256) := by rw [pk_vb, i8_sb]
theorem ush8 (w : Int32) (b : Nat) (hb : b < 4) : (w.toUInt32 >>> ((nI (8 * b)).toUInt32 &&& Int32.toUInt32 31)).toInt32.toBitVec.toNat = w.toBitVec.toNat / 2 ^ (8 * b) := by
  refine pk_ushr w _ (8 * b) ?_
  rcases (show b = 0 ∨ b = 1 ∨ b = 2 ∨ b = 3 by omega) with rfl | rfl | rfl | rfl <;> decide
theorem wr_byte (w : Int32) (b : Nat) (hb : b < 4) : vp_nar .byte (w.toUInt32 >>> ((nI (8 * b)).toUInt32 &&& Int32.toUInt32 31)).toInt32.toInt8.toInt32 = sb_b (byN w b) := by
  rw [nar_i8, ush8 w b hb]
  rfl
/-- a word turned up by k bits, as both sides write it -/
def rot (w k : Int32) : Int32 := w <<< (k &&& 31) ||| (w.toUInt32 >>> ((nI 32 - k).toUInt32 &&& Int32.toUInt32 31)).toInt32
/-- QUARTER on words -/
def qtr (a b c d : Nat) (f : Nat → Int32) : Nat → Int32 :=
  let f1 := va_up f b (f b ^^^ rot (f a + f d) (nI 7))
  let f2 := va_up f1 c (f1 c ^^^ rot (f1 b + f1 a) (nI 9))
  let f3 := va_up f2 d (f2 d ^^^ rot (f2 c + f2 b) (nI 13))
  va_up f3 a (f3 a ^^^ rot (f3 d + f3 c) (nI 18))
def rnd (f : Nat → Int32) : Nat → Int32 :=
  qtr 15 12 13 14 (qtr 10 11 8 9 (qtr 5 6 7 4 (qtr 0 1 2 3 (qtr 15 3 7 11 (qtr 10 14 2 6 (qtr 5 9 13 1 (qtr 0 4 8 12 f)))))))
def rnds : Nat → (Nat → Int32) → (Nat → Int32)
  | 0, f => f
  | k + 1, f => rnd (rnds k f)
