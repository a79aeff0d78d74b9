/-! pure: what Tagger and Curve do, as the machine does it; bytes under masks -/
def pl (x y : Nat → Int64) : Nat → Int64 := fun i => x i + y i
def mi (x y : Nat → Int64) : Nat → Int64 := fun i => x i - y i
def tm (x y : Nat → Int64) : Nat → Int64 := tms 10 21 19 608 x y
def sc (x : Nat → Int64) : Nat → Int64 := fTop 10 21 19 (fun i => x i * (121665 : Int32).toInt64)
def rowV (v : Int32) : Nat → Int64 := va_up (fun _ => 0) 0 v.toInt64
/-- STEP's four new rows -/
def stG (a b c d : Nat → Int64) : Nat → Int64 := tm (pl c d) (mi a b)
def stH (a b c d : Nat → Int64) : Nat → Int64 := tm (mi c d) (pl a b)
def stQ (a b : Nat → Int64) : Nat → Int64 := tm (pl a b) (pl a b)
def stR (a b : Nat → Int64) : Nat → Int64 := tm (mi a b) (mi a b)
def stT (a b : Nat → Int64) : Nat → Int64 := mi (stQ a b) (stR a b)
def stA (a b : Nat → Int64) : Nat → Int64 := tm (stQ a b) (stR a b)
def stB (a b : Nat → Int64) : Nat → Int64 := tm (stT a b) (pl (stQ a b) (sc (stT a b)))
def stC (a b c d : Nat → Int64) : Nat → Int64 := tm (pl (stG a b c d) (stH a b c d)) (pl (stG a b c d) (stH a b c d))
def stD (u a b c d : Nat → Int64) : Nat → Int64 := tm u (tm (mi (stG a b c d) (stH a b c d)) (mi (stG a b c d) (stH a b c d)))
theorem sb_m15 : ∀ c, c < 256 → vp_nar .byte (sb_b c &&& (15 : Int32)).toInt8.toInt32 = sb_b (c % 16) := by decide +kernel
theorem sb_m252 : ∀ c, c < 256 → vp_nar .byte (sb_b c &&& (252 : Int32)).toInt8.toInt32 = sb_b (c / 4 * 4) := by decide +kernel
theorem sb_m127 : ∀ c, c < 256 → vp_nar .byte (sb_b c &&& (127 : Int32)).toInt8.toInt32 = sb_b (c % 128) := by decide +kernel
theorem sb_m248 : ∀ c, c < 256 → vp_nar .byte (sb_b c &&& (248 : Int32)).toInt8.toInt32 = sb_b (c / 8 * 8) := by decide +kernel
theorem sb_o64 : ∀ c, c < 128 → vp_nar .byte (sb_b c ||| (64 : Int32)).toInt8.toInt32 = sb_b (c % 64 + 64) := by decide +kernel
theorem sb_bit : ∀ c, c < 256 → ∀ b, b < 8 → sb_b c >>> (nI b &&& 31) &&& (1 : Int32) = nI (c / 2 ^ b % 2) := by decide +kernel
/-- the key's bytes as TAG's r takes them -/
def FCT (K : Nat → Nat) : Nat → Nat := fun j => if j % 4 = 3 then K j % 16 else if j % 4 = 0 ∧ 0 < j then K j / 4 * 4 else K j
theorem FCT_lt {K : Nat → Nat} (h : ∀ j, K j < 256) (j : Nat) : FCT K j < 256 := by
  have := h j
  unfold FCT
  by_cases h1 : j % 4 = 3
  · rw [if_pos h1]; omega
  · rw [if_neg h1]
    by_cases h2 : j % 4 = 0 ∧ 0 < j
    · rw [if_pos h2]; omega
    · rw [if_neg h2]; exact this
/-- MULTIPLE's key and point, as bytes -/
def KEYB (K : Nat → Nat) : Nat → Nat := fun j => if j = 0 then K 0 / 8 * 8 else if j = 31 then K 31 % 64 + 64 else K j
def PNTB (K : Nat → Nat) : Nat → Nat := fun j => if j = 31 then K 31 % 128 else K j
theorem KEYB_lt {K : Nat → Nat} (h : ∀ j, K j < 256) (j : Nat) : KEYB K j < 256 := by
  have := h j
  have := h 0
  unfold KEYB
  by_cases h1 : j = 0
  · rw [if_pos h1]; omega
  · rw [if_neg h1]
    by_cases h2 : j = 31
    · rw [if_pos h2]; omega
    · rw [if_neg h2]; assumption
theorem PNTB_lt {K : Nat → Nat} (h : ∀ j, K j < 256) (j : Nat) : PNTB K j < 256 := by
  have := h j
  unfold PNTB
  by_cases h1 : j = 31
  · rw [if_pos h1]; omega
  · rw [if_neg h1]; assumption
/-- a counter on its way down to -1 -/
def dn : Nat → Int32
  | 0 => -1
  | k + 1 => nI k
theorem dn_dec (k : Nat) : nI k + Int32.ofInt (-1) = dn k := by
  cases k with
  | zero => decide
  | succ k => exact wv_dec (by omega)
/-- the powers on the way to b^(p - 2) -/
def ivS (x : Nat → Int64) : Nat → (Nat → Int64)
  | 0 => x
  | m + 1 => if 253 - m = 2 ∨ 253 - m = 4 then tm (ivS x m) (ivS x m) else tm (tm (ivS x m) (ivS x m)) x
def uRow (X : Nat → Nat) : Nat → Int64 := cry (adBs (PNTB X) 0 (rowV 0) 32) 9
def bitN (B : Nat → Nat) (i : Nat) : Nat := B (i / 8) / 2 ^ (i % 8) % 2
abbrev Row : Type := Nat → Int64
/-- the four rows behind m of the 255 steps -/
def lad (u : Row) (B : Nat → Nat) : Nat → (Row × Row × Row × Row)
  | 0 => (rowV 1, rowV 0, u, rowV 1)
  | m + 1 =>
    let a := (lad u B m).1
    let b := (lad u B m).2.1
    let c := (lad u B m).2.2.1
    let d := (lad u B m).2.2.2
    if bitN B (254 - m) = 1 then (stC c d a b, stD u c d a b, stA c d, stB c d) else (stA a b, stB a b, stC a b c d, stD u a b c d)
def mulRow (K X : Nat → Nat) : Row := stl 10 21 19 (tm (lad (uRow X) (KEYB K) 255).1 (ivS (lad (uRow X) (KEYB K) 255).2.1 254))
/-- MULTIPLE's bytes, as the class makes them -/
def MULB (K X : Nat → Nat) : Nat → Nat := wbB 10 (mulRow K X)
