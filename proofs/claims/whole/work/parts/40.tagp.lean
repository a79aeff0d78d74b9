/-! pure: TAG as the class makes it -/
def fRow (K : Nat → Nat) : Row := cry (adBs (FCT K) 0 (rowV 0) 16) 4
def pcs (S F : Row) (X : Nat → Nat) (o sz : Nat) : Row := tms 5 26 5 5 (cry (adBs X o (adB S 1 sz) sz) 4) F
def tgS (F : Row) (X : Nat → Nat) (o n : Nat) : Nat → Row
  | 0 => rowV 0
  | k + 1 => pcs (tgS F X o n k) F X (o + 16 * k) (min 16 (n - 16 * k))
def tagRow (K X : Nat → Nat) (o n : Nat) : Row := cry (adBs K 16 (stl 5 26 5 (tgS (fRow K) X o n ((n + 15) / 16))) 16) 4
/-- TAG's bytes, as the class makes them -/
def TAGB (K X : Nat → Nat) (o n : Nat) : Nat → Nat := wbB 5 (tagRow K X o n)
theorem TAGB_lt (K X : Nat → Nat) (o n j : Nat) : TAGB K X o n j < 256 := Nat.mod_lt _ (by decide)
theorem MULB_lt (K X : Nat → Nat) (j : Nat) : MULB K X j < 256 := Nat.mod_lt _ (by decide)
