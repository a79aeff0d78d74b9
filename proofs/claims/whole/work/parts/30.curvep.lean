/-! pure: what Tagger and Curve do, as the machine does it; bytes under masks -/
def pl (x y : Nat → Int64) : Nat → Int64 := fun i => x i + y i
def mi (x y : Nat → Int64) : Nat → Int64 := fun i => x i - y i
def tm (x y : Nat → Int64) : Nat → Int64 := tms 10 21 19 608 x y
def sc (x : Nat → Int64) : Nat → Int64 := fTop 10 21 19 (fun i => x i * (121665 : Int32).toInt64)
def rowV (v : Int32) : Nat → Int64 := va_up (fun _ => 0) 0 v.toInt64
/-- STEP's four new rows -/
def stG (a b c d : Nat → Int64) : Nat → Int64 := tm (pl c d) (mi a b)
def stH (a b c d : Nat → Int64) : Nat → Int64 := tm (mi c d) (pl a b)
def stQ (a b : Nat → Int64) : Nat → Int64 := tm (pl a b) (pl a b)
def stR (a b : Nat → Int64) : Nat → Int64 := tm (mi a b) (mi a b)
def stT (a b : Nat → Int64) : Nat → Int64 := mi (stQ a b) (stR a b)
def stA (a b : Nat → Int64) : Nat → Int64 := tm (stQ a b) (stR a b)
def stB (a b : Nat → Int64) : Nat → Int64 := tm (stT a b) (pl (stQ a b) (sc (stT a b)))
def stC (a b c d : Nat → Int64) : Nat → Int64 := tm (pl (stG a b c d) (stH a b c d)) (pl (stG a b c d) (stH a b c d))
def stD (u a b c d : Nat → Int64) : Nat → Int64 := tm u (tm (mi (stG a b c d) (stH a b c d)) (mi (stG a b c d) (stH a b c d)))
theorem sb_m15 : ∀ c, c < 256 → vp_nar .byte (sb_b c &&& (15 : Int32)).toInt8.toInt32 = sb_b (c % 16) := by decide +kernel
theorem sb_m252 : ∀ c, c < 256 → vp_nar .byte (sb_b c &&& (252 : Int32)).toInt8.toInt32 = sb_b (c / 4 * 4) := by decide +kernel
theorem sb_m127 : ∀ c, c < 256 → vp_nar .byte (sb_b c &&& (127 : Int32)).toInt8.toInt32 = sb_b (c % 128) := by decide +kernel
theorem sb_m248 : ∀ c, c < 256 → vp_nar .byte (sb_b c &&& (248 : Int32)).toInt8.toInt32 = sb_b (c / 8 * 8) := by decide +kernel
theorem sb_o64 : ∀ c, c < 128 → vp_nar .byte (sb_b c ||| (64 : Int32)).toInt8.toInt32 = sb_b (c % 64 + 64) := by decide +kernel
theorem sb_bit : ∀ c, c < 256 → ∀ b, b < 8 → sb_b c >>> (nI b &&& 31) &&& (1 : Int32) = nI (c / 2 ^ b % 2) := by decide +kernel
/-- the key's bytes as TAG's r takes them -/
def FCT (K : Nat → Nat) : Nat → Nat := fun j => if j % 4 = 3 then K j % 16 else if j % 4 = 0 ∧ 0 < j then K j / 4 * 4 else K j
theorem FCT_lt {K : Nat → Nat} (h : ∀ j, K j < 256) (j : Nat) : FCT K j < 256 := by
  have := h j
  unfold FCT
  by_cases h1 : j % 4 = 3
  · rw [if_pos h1]; omega
  · rw [if_neg h1]
    by_cases h2 : j % 4 = 0 ∧ 0 < j
    · rw [if_pos h2]; omega
    · rw [if_neg h2]; exact this
/-- MULTIPLE's key and point, as bytes -/
def KEYB (K : Nat → Nat) : Nat → Nat := fun j => if j = 0 then K 0 / 8 * 8 else if j = 31 then K 31 % 64 + 64 else K j
def PNTB (K : Nat → Nat) : Nat → Nat := fun j => if j = 31 then K 31 % 128 else K j
theorem KEYB_lt {K : Nat → Nat} (h : ∀ j, K j < 256) (j : Nat) : KEYB K j < 256 := by
  have := h j
  have := h 0
  unfold KEYB
  by_cases h1 : j = 0
  · rw [if_pos h1]; omega
  · rw [if_neg h1]
    by_cases h2 : j = 31
    · rw [if_pos h2]; omega
    · rw [if_neg h2]; assumption
theorem PNTB_lt {K : Nat → Nat} (h : ∀ j, K j < 256) (j : Nat) : PNTB K j < 256 := by
  have := h j
  unfold PNTB
  by_cases h1 : j = 31
  · rw [if_pos h1]; omega
  · rw [if_neg h1]; assumption
