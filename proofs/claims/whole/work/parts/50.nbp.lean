/-! the class's object and all that hangs on it: five rows of bytes, two lengths; the rest is scratch -/
def bsz (b : Nat) : Nat := if b = 1 then 24 else if b = 0 ∨ b = 2 then 32 else 112
def outF (n : Nat) (B : Nat → Nat) : Nat → Nat := fun j => if j < n then B j else 0
theorem outF_lt {n : Nat} {B : Nat → Nat} (h : ∀ j, B j < 256) (j : Nat) : outF n B j < 256 := by
  unfold outF
  by_cases c : j < n
  · rw [if_pos c]; exact h j
  · rw [if_neg c]; decide
theorem outF_congr {n : Nat} {B C : Nat → Nat} (h : ∀ j, j < n → B j = C j) : outF n B = outF n C := by
  funext j
  unfold outF
  by_cases c : j < n
  · rw [if_pos c, if_pos c, h j c]
  · rw [if_neg c, if_neg c]
theorem Bf_lt {Bf : Nat → Nat → Nat} (h : ∀ b j, Bf b j < 256) {X : Nat → Nat} (hX : ∀ j, X j < 256) (k b j : Nat) : va_up Bf k X b j < 256 := by
  unfold va_up
  by_cases c : b = k
  · rw [if_pos c]; exact hX j
  · rw [if_neg c]; exact h b j
def NB (G : wG) (ad : Nat → Nat) (ev : Nat → va_E) (Bf : Nat → Nat → Nat) (tl ol : Nat) : Prop :=
  (ev 0 = eO 4 [.ref (ad 1), .ref (ad 2), .ref (ad 3), .ref (ad 4), .ref (ad 5), .int (nI tl), .int (nI ol), .ref (ad 6), .ref (ad 12), .ref (ad 18), .ref (ad 34), .ref (ad 35), .ref (ad 36)]) ∧
  (ev 1 = eB G 32 (bs (Bf 0))) ∧
  (ev 2 = eB G 24 (bs (Bf 1))) ∧
  (ev 3 = eB G 32 (bs (Bf 2))) ∧
  (ev 4 = eB G 112 (bs (Bf 3))) ∧
  (ev 5 = eB G 112 (bs (Bf 4))) ∧
  (ev 6 = eO 2 [.ref (ad 7), .ref (ad 8), .ref (ad 9), .ref (ad 10), .ref (ad 11)]) ∧
  (∃ f : Nat → Int32, ev 7 = eI G 16 f) ∧
  (∃ f : Nat → Int32, ev 8 = eI G 16 f) ∧
  (∃ B : Nat → Nat, ev 9 = eB G 32 (bs B)) ∧
  (∃ B : Nat → Nat, (∀ j, B j < 256) ∧ (∀ j, 9 ≤ j → B j = 0) ∧ ev 10 = eB G 16 (bs B)) ∧
  (∃ B : Nat → Nat, (∀ j, B j < 256) ∧ ev 11 = eB G 128 (bs B)) ∧
  (ev 12 = eO 3 [.ref (ad 13), .ref (ad 15), .ref (ad 16), .ref (ad 17)]) ∧
  (ev 13 = eO 1 [.int (nI 5), .int (nI 26), .long 5, .long 5, .ref (ad 14)]) ∧
  (∃ r : Row, ev 14 = eJ G 10 r) ∧
  (∃ r : Row, ev 15 = eJ G 5 r) ∧
  (∃ r : Row, ev 16 = eJ G 5 r) ∧
  (∃ B : Nat → Nat, ev 17 = eB G 16 (bs B)) ∧
  (ev 18 = eO 0 [.ref (ad 19), .ref (ad 21), .ref (ad 22), .ref (ad 23), .ref (ad 24), .ref (ad 25), .ref (ad 26), .ref (ad 27), .ref (ad 28), .ref (ad 29), .ref (ad 30), .ref (ad 31), .ref (ad 32), .ref (ad 33)]) ∧
  (ev 19 = eO 1 [.int (nI 10), .int (nI 21), .long 19, .long 608, .ref (ad 20)]) ∧
  (∃ r : Row, ev 20 = eJ G 20 r) ∧
  (∃ B : Nat → Nat, ev 21 = eB G 32 (bs B)) ∧
  (∃ r : Row, ev 22 = eJ G 10 r) ∧
  (∃ r : Row, ev 23 = eJ G 10 r) ∧
  (∃ r : Row, ev 24 = eJ G 10 r) ∧
  (∃ r : Row, ev 25 = eJ G 10 r) ∧
  (∃ r : Row, ev 26 = eJ G 10 r) ∧
  (∃ r : Row, ev 27 = eJ G 10 r) ∧
  (∃ r : Row, ev 28 = eJ G 10 r) ∧
  (∃ r : Row, ev 29 = eJ G 10 r) ∧
  (∃ r : Row, ev 30 = eJ G 10 r) ∧
  (∃ r : Row, ev 31 = eJ G 10 r) ∧
  (∃ r : Row, ev 32 = eJ G 10 r) ∧
  (∃ r : Row, ev 33 = eJ G 10 r) ∧
  (∃ B : Nat → Nat, (∀ j, B j < 256) ∧ ev 34 = eB G 32 (bs B)) ∧
  (ev 35 = eB G 16 (bs (fun _ => 0))) ∧
  (∃ B : Nat → Nat, (∀ j, B j < 256) ∧ ev 36 = eB G 112 (bs B)) ∧
  (∀ b j, Bf b j < 256) ∧ tl ≤ 112 ∧ ol ≤ 112
