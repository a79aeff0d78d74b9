/-! the reference's tag: what the machine does, and its numbers -/
/-- one round of carries with what comes out at the top coming in below, as the reference writes it -/
def ct1 (f : Nat → Int64) (k : Nat) : Nat → Int64 :=
  let f1 := va_up f k (f k &&& 67108863)
  if k < 4 then va_up f1 (k + 1) (f1 (k + 1) + sar (f k) 26) else va_up f1 0 (f1 0 + 5 * sar (f k) 26)
def ctk (f : Nat → Int64) : Nat → (Nat → Int64)
  | 0 => f
  | k + 1 => ct1 (ctk f k) k
def ct3 (f : Nat → Int64) : Nat → (Nat → Int64)
  | 0 => f
  | m + 1 => ctk (ct3 f m) 5
theorem ctk_cry (f : Nat → Int64) : ∀ k, k ≤ 4 → ctk f k = cry f k
  | 0, _ => rfl
  | k + 1, hk => by
    show ct1 (ctk f k) k = cr1 k (cry f k)
    rw [ctk_cry f k (by omega)]
    unfold ct1 cr1
    dsimp only
    rw [if_pos (by omega), va_upc _ _ _ (show k ≠ k + 1 by omega), va_up_ne _ _ (show k + 1 ≠ k by omega), va_up_ne _ _ (show k ≠ k + 1 by omega)]
/-- the low bits are what is left when the high ones are taken away -/
theorem low_eq (x : Int64) {k : Nat} (hk : k ≤ 26) {m : Int64} (hm : (x &&& m).toInt = x.toInt % 2 ^ k) : x - sal (sar x k) k = x &&& m := by
  apply Int64.toInt_inj.mp
  have hp : (0 : Int) < 2 ^ k := Int.pow_pos (by decide)
  have hd := Int.mul_ediv_add_emod x.toInt (2 ^ k)
  have h0 := Int.emod_nonneg x.toInt (show (2 : Int) ^ k ≠ 0 by omega)
  have h1 := Int.emod_lt_of_pos x.toInt hp
  have hq : (2 : Int) ^ k ≤ 67108864 := by
    have h := Int.ofNat_le.mpr (Nat.pow_le_pow_right (show 2 > 0 by decide) hk)
    rw [Int.natCast_pow] at h
    exact h
  have hx1 := Int64.minValue_le_toInt x
  have hx2 := Int64.toInt_le x
  have es : (sar x k).toInt = x.toInt / 2 ^ k := sar_i x (by omega)
  by_cases hneg : x.toInt - x.toInt % 2 ^ k < -9223372036854775808
  · exfalso
    have hmin : (-9223372036854775808 : Int) % 2 ^ k = 0 := by
      have e : (-9223372036854775808 : Int) = 2 ^ k * -(2 ^ (63 - k)) := by
        rw [Int.mul_neg, ← Int.pow_add, show k + (63 - k) = 63 by omega]
        decide
      rw [e]
      exact Int.mul_emod_right _ _
    have : -9223372036854775808 / 2 ^ k ≤ x.toInt / 2 ^ k := Int.ediv_le_ediv hp (by
      have : Int64.minValue.toInt = -9223372036854775808 := by decide
      omega)
    have e2 := Int.mul_ediv_add_emod (-9223372036854775808) (2 ^ k)
    rw [hmin] at e2
    have := Int.mul_le_mul_of_nonneg_left this (show (0 : Int) ≤ 2 ^ k by omega)
    omega
  · have hb : (sar x k).toInt * 2 ^ k = x.toInt - x.toInt % 2 ^ k := by rw [es, Int.mul_comm]; omega
    have hmax : Int64.maxValue.toInt = 9223372036854775807 := by decide
    have el : (sal (sar x k) k).toInt = x.toInt - x.toInt % 2 ^ k := by
      rw [sal_i (by omega) (by rw [hb]; omega) (by rw [hb]; omega), hb]
    rw [sub_i (by rw [el]; omega) (by rw [el]; omega), el, hm]
    omega
theorem ctk_5 (f : Nat → Int64) : ctk f 5 = fTop 5 26 5 f := by
  show ct1 (ctk f 4) 4 = _
  rw [ctk_cry f 4 (by decide)]
  unfold ct1 fTop
  dsimp only
  rw [if_neg (by decide), low_eq (cry f (5 - 1) (5 - 1)) (k := 26) (by decide) (m := 67108863) (by rw [msk_i]; rfl)]
/-- all limbs are digits -/
def Dg (f : Nat → Int64) (n : Nat) : Prop := ∀ i, i < n → 0 ≤ (f i).toInt ∧ (f i).toInt < 67108864
theorem ctR {f : Nat → Int64} {B : Int} (hB : 0 ≤ B ∧ B ≤ 144115188075855872) (hf : ∀ i, i < 5 → 0 ≤ (f i).toInt ∧ (f i).toInt ≤ 4611686018427387904) (hV : vI f 5 ≤ B * 20282409603651670423947251286016) :
    (∀ i, i < 5 → 0 ≤ (ctk f 5 i).toInt ∧ (ctk f 5 i).toInt ≤ 67108864 + 5 * (B / 67108864 + 1)) ∧ (vI f 5 < 1361129467683753853853498429727072845824 → Dg (ctk f 5) 5 ∧ vI (ctk f 5) 5 = vI f 5) ∧ cg 1361129467683753853853498429727072845819 (vI (ctk f 5) 5) (vI f 5) ∧ vI (ctk f 5) 5 < 1361129467683753853853498429727072845824 + 5 * (B / 67108864 + 1) ∧ (vI f 5 < 1361129467683753853853498429727072845824 + 1267650600228229401496703205376 → vI (ctk f 5) 5 < 1361129467683753853853498429727072845824) := by
  rw [ctk_5]
  have h0 := hf 0 (by decide)
  have h1 := hf 1 (by decide)
  have h2 := hf 2 (by decide)
  have h3 := hf 3 (by decide)
  have h4 := hf 4 (by decide)
  have eV := vI_5 f
  have hV0 : 0 ≤ vI f 5 := by omega
  obtain ⟨r, T, g0, r0, r1, r2, c0, c1, c2, c3, c4, c5⟩ := fTop_G 5 26 5 5 B f (by decide) (by decide) (by decide) (by decide) (by omega) (by omega) (fun i hi => by have := hf i hi; omega) (by rw [show (2 : Int) ^ (26 * (5 - 1)) = 20282409603651670423947251286016 from by decide +kernel]; omega)
  rw [show (2 : Int) ^ (26 * (5 - 1)) = 20282409603651670423947251286016 from by decide +kernel] at r1 r2 c5
  rw [show (2 : Int) ^ 26 = 67108864 from by decide +kernel] at c2 c4 c5
  have c4 : (fTop 5 26 5 f 4).toInt = T % 67108864 := c4
  have hT0 : 0 ≤ T := by omega
  have hTB : T ≤ B := by omega
  obtain ⟨hi, hhi⟩ : ∃ hi, hi = T / 67108864 := ⟨_, rfl⟩
  rw [← hhi] at c2 c5
  have hh0 : 0 ≤ hi := by omega
  have hhB : hi ≤ B / 67108864 := by omega
  have hm : 0 ≤ T % 67108864 ∧ T % 67108864 < 67108864 := by omega
  have hTm : T = 67108864 * hi + T % 67108864 := by omega
  have a1 := c3 1 (by decide) (by decide)
  have a2 := c3 2 (by decide) (by decide)
  have a3 := c3 3 (by decide) (by decide)
  have lim : ∀ i, i < 5 → 0 ≤ (fTop 5 26 5 f i).toInt ∧ (fTop 5 26 5 f i).toInt ≤ 67108863 + 5 * hi := by
    intro i hi5
    rcases (show i = 0 ∨ i = 1 ∨ i = 2 ∨ i = 3 ∨ i = 4 by omega) with rfl | rfl | rfl | rfl | rfl <;> omega
  generalize T % 67108864 = m at hm hTm c4
  subst hTm
  refine ⟨fun i hi5 => by have := lim i hi5; omega, fun q => ?_, ⟨-hi, by omega⟩, by omega, fun q => ?_⟩
  · have : hi = 0 := by omega
    subst this
    refine ⟨fun i hi5 => by have := lim i hi5; omega, by omega⟩
  · have : hi = 0 ∨ hi = 1 := by omega
    rcases this with rfl | rfl <;> omega
/-- three rounds make digits of a row's number -/
theorem ct3_spec {f : Nat → Int64} (hf : ∀ i, i < 5 → 0 ≤ (f i).toInt ∧ (f i).toInt ≤ 576460752303423488) (hV : vI f 5 ≤ 144115188075855872 * 20282409603651670423947251286016) : Dg (ct3 f 3) 5 ∧ cg 1361129467683753853853498429727072845819 (vI (ct3 f 3) 5) (vI f 5) := by
  obtain ⟨a1, -, a3, a4, -⟩ := ctR (B := 144115188075855872) (f := f) (by decide) (fun i hi => by have := hf i hi; omega) hV
  have e1 : ct3 f 1 = ctk f 5 := rfl
  rw [← e1] at a1 a3 a4
  obtain ⟨b1, -, b3, -, b5⟩ := ctR (B := 67108865) (f := ct3 f 1) (by decide) (fun i hi => by have := a1 i hi; omega) (by omega)
  have e2 : ct3 f 2 = ctk (ct3 f 1) 5 := rfl
  rw [← e2] at b1 b3 b5
  have b5 := b5 (by omega)
  obtain ⟨-, d2, -, -, -⟩ := ctR (B := 67108865) (f := ct3 f 2) (by decide) (fun i hi => by have := b1 i hi; omega) (by omega)
  have e3 : ct3 f 3 = ctk (ct3 f 2) 5 := rfl
  rw [← e3] at d2
  obtain ⟨d3, d4⟩ := d2 b5
  exact ⟨d3, by rw [d4]; exact cg_t b3 a3⟩
theorem Dg_v {f : Nat → Int64} {n : Nat} (h : Dg f n) : 0 ≤ vI f n ∧ vI f n < 2 ^ (26 * n) := vI_rng h
/-! the product, folded at once -/
def dk (a r : Nat → Int64) (k : Nat) : Nat → Int64
  | 0 => 0
  | i + 1 => dk a r k i + (if k < i then 5 * a i * r (k + 5 - i) else a i * r (k - i))
/-- limbs under 2^28, none below 0 -/
def Ag (f : Nat → Int64) (n : Nat) : Prop := ∀ i, i < n → 0 ≤ (f i).toInt ∧ (f i).toInt < 268435456
theorem mul26 {a b : Int} (ha : 0 ≤ a ∧ a < 268435456) (hb : 0 ≤ b ∧ b < 67108864) : 0 ≤ a * b ∧ a * b ≤ 18014398509481984 := by
  refine ⟨Int.mul_nonneg ha.1 hb.1, ?_⟩
  have := Int.mul_le_mul (show a ≤ 268435456 by omega) (show b ≤ 67108864 by omega) hb.1 (by decide)
  omega
theorem dk_i {a r : Nat → Int64} {k : Nat} (hk : k < 5) (ha : Ag a 5) (hr : Dg r 5) : ∀ i, i ≤ 5 → 0 ≤ (dk a r k i).toInt ∧ (dk a r k i).toInt ≤ 90071992547409920 * i ∧ (i + 1 ≤ 5 → (dk a r k (i + 1)).toInt = (dk a r k i).toInt + (if k < i then 5 * ((a i).toInt * (r (k + 5 - i)).toInt) else (a i).toInt * (r (k - i)).toInt))
  | i, hi => by
    have bnd : ∀ i, i ≤ 5 → 0 ≤ (dk a r k i).toInt ∧ (dk a r k i).toInt ≤ 90071992547409920 * i := by
      intro i
      induction i with
      | zero => intro _; show 0 ≤ (0 : Int64).toInt ∧ (0 : Int64).toInt ≤ _; rw [show (0 : Int64).toInt = 0 from rfl]; omega
      | succ i ih =>
        intro hi
        obtain ⟨h1, h2⟩ := ih (by omega)
        have e5 : (5 : Int64).toInt = 5 := by decide
        show 0 ≤ (dk a r k i + _).toInt ∧ (dk a r k i + _).toInt ≤ _
        by_cases c : k < i
        · rw [if_pos c]
          have m := mul26 (ha i (by omega)) (hr (k + 5 - i) (by omega))
          have h0 := ha i (by omega)
          have m1 : ((5 : Int64) * a i).toInt = 5 * (a i).toInt := by rw [mul_i (by rw [e5]; omega) (by rw [e5]; omega), e5]
          have e : 5 * (a i).toInt * (r (k + 5 - i)).toInt = 5 * ((a i).toInt * (r (k + 5 - i)).toInt) := by grind
          have m2 : (5 * a i * r (k + 5 - i)).toInt = 5 * ((a i).toInt * (r (k + 5 - i)).toInt) := by rw [mul_i (by rw [m1, e]; omega) (by rw [m1, e]; omega), m1, e]
          rw [add_i (by rw [m2]; omega) (by rw [m2]; omega), m2]
          omega
        · rw [if_neg c]
          have m := mul26 (ha i (by omega)) (hr (k - i) (by omega))
          have m2 : (a i * r (k - i)).toInt = (a i).toInt * (r (k - i)).toInt := mul_i (by omega) (by omega)
          rw [add_i (by rw [m2]; omega) (by rw [m2]; omega), m2]
          omega
    obtain ⟨h1, h2⟩ := bnd i hi
    refine ⟨h1, h2, fun hi1 => ?_⟩
    have e5 : (5 : Int64).toInt = 5 := by decide
    show (dk a r k i + _).toInt = _
    by_cases c : k < i
    · rw [if_pos c, if_pos c]
      have m := mul26 (ha i (by omega)) (hr (k + 5 - i) (by omega))
      have h0 := ha i (by omega)
      have m1 : ((5 : Int64) * a i).toInt = 5 * (a i).toInt := by rw [mul_i (by rw [e5]; omega) (by rw [e5]; omega), e5]
      have e : 5 * (a i).toInt * (r (k + 5 - i)).toInt = 5 * ((a i).toInt * (r (k + 5 - i)).toInt) := by grind
      have m2 : (5 * a i * r (k + 5 - i)).toInt = 5 * ((a i).toInt * (r (k + 5 - i)).toInt) := by rw [mul_i (by rw [m1, e]; omega) (by rw [m1, e]; omega), m1, e]
      rw [add_i (by rw [m2]; omega) (by rw [m2]; omega), m2]
    · rw [if_neg c, if_neg c]
      have m := mul26 (ha i (by omega)) (hr (k - i) (by omega))
      have m2 : (a i * r (k - i)).toInt = (a i).toInt * (r (k - i)).toInt := mul_i (by omega) (by omega)
      rw [add_i (by rw [m2]; omega) (by rw [m2]; omega), m2]
/-- a times r, as the reference does it -/
def tmR (a r : Nat → Int64) : Nat → Int64 := ct3 (fun k => dk a r k 5) 3
theorem tmR_spec {a r : Nat → Int64} (ha : Ag a 5) (hr : Dg r 5) : Dg (tmR a r) 5 ∧ cg 1361129467683753853853498429727072845819 (vI (tmR a r) 5) (vI a 5 * vI r 5) := by
  have st : ∀ k, k < 5 → ∀ i, i < 5 → (dk a r k (i + 1)).toInt = (dk a r k i).toInt + (if k < i then 5 * ((a i).toInt * (r (k + 5 - i)).toInt) else (a i).toInt * (r (k - i)).toInt) := fun k hk i hi => (dk_i hk ha hr i (by omega)).2.2 (by omega)
  have z : ∀ k, (dk a r k 0).toInt = 0 := fun k => rfl
  have e0 : (dk a r 0 5).toInt = (a 0).toInt * (r 0).toInt + 5 * ((a 1).toInt * (r 4).toInt) + 5 * ((a 2).toInt * (r 3).toInt) + 5 * ((a 3).toInt * (r 2).toInt) + 5 * ((a 4).toInt * (r 1).toInt) := by
    have s0 := st 0 (by decide) 0 (by decide)
    have s1 := st 0 (by decide) 1 (by decide)
    have s2 := st 0 (by decide) 2 (by decide)
    have s3 := st 0 (by decide) 3 (by decide)
    have s4 := st 0 (by decide) 4 (by decide)
    have z := z 0
    simp only [Nat.reduceAdd, Nat.reduceSub, Nat.reduceLT, Nat.reduceLeDiff, if_true, if_false, if_pos, Nat.lt_irrefl, Nat.not_lt_zero] at s0 s1 s2 s3 s4
    omega
  have e1 : (dk a r 1 5).toInt = (a 0).toInt * (r 1).toInt + (a 1).toInt * (r 0).toInt + 5 * ((a 2).toInt * (r 4).toInt) + 5 * ((a 3).toInt * (r 3).toInt) + 5 * ((a 4).toInt * (r 2).toInt) := by
    have s0 := st 1 (by decide) 0 (by decide)
    have s1 := st 1 (by decide) 1 (by decide)
    have s2 := st 1 (by decide) 2 (by decide)
    have s3 := st 1 (by decide) 3 (by decide)
    have s4 := st 1 (by decide) 4 (by decide)
    have z := z 1
    simp only [Nat.reduceAdd, Nat.reduceSub, Nat.reduceLT, Nat.reduceLeDiff, if_true, if_false, if_pos, Nat.lt_irrefl, Nat.not_lt_zero] at s0 s1 s2 s3 s4
    omega
  have e2 : (dk a r 2 5).toInt = (a 0).toInt * (r 2).toInt + (a 1).toInt * (r 1).toInt + (a 2).toInt * (r 0).toInt + 5 * ((a 3).toInt * (r 4).toInt) + 5 * ((a 4).toInt * (r 3).toInt) := by
    have s0 := st 2 (by decide) 0 (by decide)
    have s1 := st 2 (by decide) 1 (by decide)
    have s2 := st 2 (by decide) 2 (by decide)
    have s3 := st 2 (by decide) 3 (by decide)
    have s4 := st 2 (by decide) 4 (by decide)
    have z := z 2
    simp only [Nat.reduceAdd, Nat.reduceSub, Nat.reduceLT, Nat.reduceLeDiff, if_true, if_false, if_pos, Nat.lt_irrefl, Nat.not_lt_zero] at s0 s1 s2 s3 s4
    omega
  have e3 : (dk a r 3 5).toInt = (a 0).toInt * (r 3).toInt + (a 1).toInt * (r 2).toInt + (a 2).toInt * (r 1).toInt + (a 3).toInt * (r 0).toInt + 5 * ((a 4).toInt * (r 4).toInt) := by
    have s0 := st 3 (by decide) 0 (by decide)
    have s1 := st 3 (by decide) 1 (by decide)
    have s2 := st 3 (by decide) 2 (by decide)
    have s3 := st 3 (by decide) 3 (by decide)
    have s4 := st 3 (by decide) 4 (by decide)
    have z := z 3
    simp only [Nat.reduceAdd, Nat.reduceSub, Nat.reduceLT, Nat.reduceLeDiff, if_true, if_false, if_pos, Nat.lt_irrefl, Nat.not_lt_zero] at s0 s1 s2 s3 s4
    omega
  have e4 : (dk a r 4 5).toInt = (a 0).toInt * (r 4).toInt + (a 1).toInt * (r 3).toInt + (a 2).toInt * (r 2).toInt + (a 3).toInt * (r 1).toInt + (a 4).toInt * (r 0).toInt := by
    have s0 := st 4 (by decide) 0 (by decide)
    have s1 := st 4 (by decide) 1 (by decide)
    have s2 := st 4 (by decide) 2 (by decide)
    have s3 := st 4 (by decide) 3 (by decide)
    have s4 := st 4 (by decide) 4 (by decide)
    have z := z 4
    simp only [Nat.reduceAdd, Nat.reduceSub, Nat.reduceLT, Nat.reduceLeDiff, if_true, if_false, if_pos, Nat.lt_irrefl, Nat.not_lt_zero] at s0 s1 s2 s3 s4
    omega
  have bd : ∀ k, k < 5 → 0 ≤ (dk a r k 5).toInt ∧ (dk a r k 5).toInt ≤ 450359962737049600 := fun k hk => by have := dk_i hk ha hr 5 (by decide); omega
  have eV := vI_5 (fun k => dk a r k 5)
  have m04 := mul26 (ha 0 (by decide)) (hr 4 (by decide))
  have m13 := mul26 (ha 1 (by decide)) (hr 3 (by decide))
  have m22 := mul26 (ha 2 (by decide)) (hr 2 (by decide))
  have m31 := mul26 (ha 3 (by decide)) (hr 1 (by decide))
  have m40 := mul26 (ha 4 (by decide)) (hr 0 (by decide))
  have q0 := bd 0 (by decide)
  have q1 := bd 1 (by decide)
  have q2 := bd 2 (by decide)
  have q3 := bd 3 (by decide)
  obtain ⟨d1, d2⟩ := ct3_spec (f := fun k => dk a r k 5) (fun i hi => by have := bd i hi; omega) (by rw [eV]; omega)
  refine ⟨d1, cg_t d2 ?_⟩
  rw [eV, e0, e1, e2, e3, e4, vI_5 a, vI_5 r]
  refine ⟨-((a 1).toInt * (r 4).toInt + (a 2).toInt * (r 3).toInt + (a 3).toInt * (r 2).toInt + (a 4).toInt * (r 1).toInt + ((a 2).toInt * (r 4).toInt + (a 3).toInt * (r 3).toInt + (a 4).toInt * (r 2).toInt) * 67108864 + ((a 3).toInt * (r 4).toInt + (a 4).toInt * (r 3).toInt) * 4503599627370496 + (a 4).toInt * (r 4).toInt * 302231454903657293676544), ?_⟩
  generalize (a 0).toInt = x0
  generalize (a 1).toInt = x1
  generalize (a 2).toInt = x2
  generalize (a 3).toInt = x3
  generalize (a 4).toInt = x4
  generalize (r 0).toInt = y0
  generalize (r 1).toInt = y1
  generalize (r 2).toInt = y2
  generalize (r 3).toInt = y3
  generalize (r 4).toInt = y4
  grind
/-! the last step of the tag: the one number under p -/
def ovK (a : Nat → Int64) : Nat → Int64
  | 0 => 5
  | k + 1 => sar (a k + ovK a k) 26
theorem ovK_i {a : Nat → Int64} (ha : Dg a 5) : ∀ k, k ≤ 5 → (ovK a k).toInt = (vI a k + 5) / 2 ^ (26 * k) ∧ 0 ≤ (ovK a k).toInt ∧ (ovK a k).toInt ≤ 5
  | 0, _ => by
    have e : (ovK a 0).toInt = 5 := by show (5 : Int64).toInt = 5; decide
    rw [e, show vI a 0 = 0 from rfl, pw_0]
    decide
  | k + 1, hk => by
    obtain ⟨h1, h2, h3⟩ := ovK_i ha k (by omega)
    have hd := ha k (by omega)
    have es : (ovK a (k + 1)).toInt = ((a k).toInt + (ovK a k).toInt) / 67108864 := by
      show (sar (a k + ovK a k) 26).toInt = _
      rw [sar_i _ (by decide), add_i (by omega) (by omega)]
      rfl
    have hp : (0 : Int) < 2 ^ (26 * k) := Int.pow_pos (by decide)
    refine ⟨?_, by rw [es]; omega, by rw [es]; omega⟩
    rw [es, h1, p26, vI]
    have e2 : vI a k + (a k).toInt * 2 ^ (26 * k) + 5 = (vI a k + 5) + 2 ^ (26 * k) * (a k).toInt := by grind
    rw [e2, Int.mul_comm 67108864, ← Int.ediv_ediv_of_nonneg (by omega), Int.add_mul_ediv_left _ _ (by omega), Int.add_comm (a k).toInt]
def finT (a : Nat → Int64) : Nat → Int64 :=
  let g := ct3 a 3
  if 0 < (ovK g 5).toInt then va_up (cry (va_up g 0 (g 0 + 5)) 4) 4 (cry (va_up g 0 (g 0 + 5)) 4 4 &&& 67108863) else g
theorem finT_spec {a : Nat → Int64} (ha : Dg a 5) : Dg (finT a) 5 ∧ vI (finT a) 5 < 1361129467683753853853498429727072845819 ∧ cg 1361129467683753853853498429727072845819 (vI (finT a) 5) (vI a 5) := by
  obtain ⟨g1, g2⟩ := ct3_spec (f := a) (fun i hi => by have := ha i hi; omega) (by have := (Dg_v ha).2; rw [show (2 : Int) ^ (26 * 5) = 1361129467683753853853498429727072845824 from by decide +kernel] at this; omega)
  obtain ⟨g, hg⟩ : ∃ g, g = ct3 a 3 := ⟨_, rfl⟩
  rw [← hg] at g1 g2
  have hv := Dg_v g1
  rw [show (2 : Int) ^ (26 * 5) = 1361129467683753853853498429727072845824 from by decide +kernel] at hv
  obtain ⟨o1, -, -⟩ := ovK_i g1 5 (by decide)
  rw [show (2 : Int) ^ (26 * 5) = 1361129467683753853853498429727072845824 from by decide +kernel] at o1
  have eF : finT a = if 0 < (ovK g 5).toInt then va_up (cry (va_up g 0 (g 0 + 5)) 4) 4 (cry (va_up g 0 (g 0 + 5)) 4 4 &&& 67108863) else g := by rw [hg]; rfl
  rw [eF]
  by_cases c : 0 < (ovK g 5).toInt
  · rw [if_pos c]
    have d0 := g1 0 (by decide)
    have e5 : (g 0 + 5).toInt = (g 0).toInt + 5 := by
      have e : (5 : Int64).toInt = 5 := by decide
      rw [add_i (by rw [e]; omega) (by rw [e]; omega), e]
    have hb : ∀ i, i < 5 → -4611686018427387904 ≤ (va_up g 0 (g 0 + 5) i).toInt ∧ (va_up g 0 (g 0 + 5) i).toInt ≤ 4611686018427387904 := by
      intro i hi
      by_cases q : i = 0
      · rw [q, va_up_self, e5]; omega
      · have := g1 i hi
        rw [va_up_ne _ _ q]; omega
    obtain ⟨t1, t2, r, r0, r1, r2⟩ := cry_top (va_up g 0 (g 0 + 5)) (N := 5) (by decide) hb
    rw [show (2 : Int) ^ (26 * (5 - 1)) = 20282409603651670423947251286016 from by decide +kernel] at r1 r2
    have ev : vI (va_up g 0 (g 0 + 5)) 5 = vI g 5 + 5 := by
      rw [vI_up, if_pos (by decide), e5, pw_0]; omega
    rw [ev] at t2 r2
    have r2 : vI g 5 + 5 = r + (cry (va_up g 0 (g 0 + 5)) 4 4).toInt * 20282409603651670423947251286016 := r2
    have t2 : vI (cry (va_up g 0 (g 0 + 5)) 4) 5 = vI g 5 + 5 := t2
    have t1 : ∀ i, i < 4 → 0 ≤ (cry (va_up g 0 (g 0 + 5)) 4 i).toInt ∧ (cry (va_up g 0 (g 0 + 5)) 4 i).toInt < 67108864 := t1
    have hval : vI (va_up (cry (va_up g 0 (g 0 + 5)) 4) 4 (cry (va_up g 0 (g 0 + 5)) 4 4 &&& 67108863)) 5 = vI g 5 - 1361129467683753853853498429727072845819 := by
      rw [vI_up, if_pos (by decide), t2, msk_i, pw_4]
      omega
    refine ⟨fun i hi => ?_, by rw [hval]; omega, ?_⟩
    · by_cases q : i = 4
      · rw [q, va_up_self, msk_i]; omega
      · rw [va_up_ne _ _ q]; exact t1 i (by omega)
    · rw [hval]
      exact cg_t ⟨-1, by omega⟩ g2
  · rw [if_neg c]
    exact ⟨g1, by omega, g2⟩
