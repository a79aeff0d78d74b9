/-! pure: what the class's Field does to rows of longs, as the machine does it -/
def sar (x : Int64) (k : Nat) : Int64 := x >>> ((nI k).toInt64 &&& 63)
def sal (x : Int64) (k : Nat) : Int64 := x <<< ((nI k).toInt64 &&& 63)
def cr1 (k : Nat) (g : Nat → Int64) : Nat → Int64 := va_up (va_up g (k + 1) (g (k + 1) + sar (g k) 26)) k (va_up g (k + 1) (g (k + 1) + sar (g k) 26) k &&& 67108863)
def cry (f : Nat → Int64) : Nat → (Nat → Int64)
  | 0 => f
  | k + 1 => cr1 k (cry f k)
def fTop (n tb : Nat) (low : Int64) (f : Nat → Int64) : Nat → Int64 :=
  let g := cry f (n - 1)
  let hi := sar (g (n - 1)) tb
  let g1 := va_up g (n - 1) (g (n - 1) - sal hi tb)
  va_up g1 0 (g1 0 + low * hi)
def mulR (x y W : Nat → Int64) (i : Nat) : Nat → (Nat → Int64)
  | 0 => W
  | j + 1 => va_up (mulR x y W i j) (i + j) (mulR x y W i j (i + j) + x i * y j)
def mulW (x y : Nat → Int64) (n : Nat) : Nat → (Nat → Int64)
  | 0 => fun _ => 0
  | i + 1 => mulR x y (mulW x y n i) i n
def wdC (x y : Nat → Int64) (n : Nat) : Nat → Int64 := cry (mulW x y n n) (n + n - 1)
def fld (n : Nat) (fold : Int64) (w : Nat → Int64) : Nat → Int64 := fun i => w i + fold * w (n + i)
def tms (n tb : Nat) (low fold : Int64) (x y : Nat → Int64) : Nat → Int64 := fTop n tb low (fld n fold (wdC x y n))
def adB (f : Nat → Int64) (v : Int64) (i : Nat) : Nat → Int64 := va_up f (8 * i / 26) (f (8 * i / 26) + sal v (8 * i % 26))
def adBs (B : Nat → Nat) (o : Nat) (f : Nat → Int64) : Nat → (Nat → Int64)
  | 0 => f
  | k + 1 => adB (adBs B o f k) (nI (B (o + k))).toInt64 k
def bitsW (n : Nat) (x : Nat → Int64) (i : Nat) : Int64 := if 8 * i / 26 + 1 < n then sar (x (8 * i / 26)) (8 * i % 26) ||| sal (x (8 * i / 26 + 1)) (26 - 8 * i % 26) else sar (x (8 * i / 26)) (8 * i % 26)
def wbB (n : Nat) (x : Nat → Int64) (i : Nat) : Nat := (bitsW n x i).toInt32.toBitVec.toNat % 256
def stl (n tb : Nat) (low : Int64) (f : Nat → Int64) : Nat → Int64 :=
  let g := fTop n tb low f
  let g1 := fTop n tb low (va_up g 0 (g 0 + low))
  cry (va_up g1 0 (g1 0 - low)) (n - 1)
/-- a row read beside the one that is written from below: the same row, or another; its place k holds what it held -/
theorem al_read {G : wG} {ev : Nat → va_E} {qt qx n k : Nat} {g T X : Nat → Int64} (hX : ev qx = eJ G n X) (hT : ev qt = eJ G n T) : ∃ X1, va_up ev qt (eJ G n (fil 0 k g T)) qx = eJ G n X1 ∧ X1 k = X k := by
  by_cases h : qx = qt
  · subst h
    rw [hX] at hT
    have hT : X = T := by
      have := Sum.inl.inj hT
      have h2 := (Prod.mk.inj this).2
      have h3 := (Prod.mk.inj h2).2
      exact Sum.inl.inj (Sum.inr.inj h3)
    refine ⟨fil 0 k g T, by rw [va_up_self], ?_⟩
    rw [fil_out (Or.inr (by omega)), hT]
  · exact ⟨X, by rw [va_up_ne _ _ h]; exact hX, rfl⟩
