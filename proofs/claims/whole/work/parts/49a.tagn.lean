/-! TAG as a number -/
theorem cg_u {p a b : Int} (h : cg p a b) (ha : 0 ≤ a ∧ a < p) (hb : 0 ≤ b ∧ b < p) : a = b := by
  obtain ⟨k, e⟩ := h
  have hk : k = 0 := by
    rcases Int.lt_trichotomy k 0 with q | q | q
    · have := Int.mul_le_mul_of_nonneg_right (show k ≤ -1 by omega) (show 0 ≤ p by omega)
      omega
    · exact q
    · have := Int.mul_le_mul_of_nonneg_right (show 1 ≤ k by omega) (show 0 ≤ p by omega)
      omega
  subst hk
  omega
theorem cg_e (p a : Int) : cg p (a % p) a := ⟨-(a / p), by have := Int.mul_ediv_add_emod a p; grind⟩
def tgI (r : Int) (X : Nat → Nat) (o n : Nat) : Nat → Int
  | 0 => 0
  | k + 1 => (tgI r X o n k + (wd8 X (o + 16 * k) (min 16 (n - 16 * k)) : Int) + 2 ^ (8 * min 16 (n - 16 * k))) * r % 1361129467683753853853498429727072845819
def rI (K : Nat → Nat) : Int := (wd8 (FCT K) 0 16 : Int)
def tagI (K X : Nat → Nat) (o n : Nat) : Int := tgI (rI K) X o n ((n + 15) / 16) + (wd8 K 16 16 : Int)
/-- TAG's bytes -/
def TAGM (K X : Nat → Nat) (o n : Nat) : Nat → Nat := fun j => (tagI K X o n / 2 ^ (8 * j) % 256).toNat
theorem TAGM_lt (K X : Nat → Nat) (o n j : Nat) : TAGM K X o n j < 256 := by
  unfold TAGM
  have h1 := Int.emod_nonneg (tagI K X o n / 2 ^ (8 * j)) (show (256 : Int) ≠ 0 by decide)
  have h2 := Int.emod_lt_of_pos (tagI K X o n / 2 ^ (8 * j)) (show (0 : Int) < 256 by decide)
  omega
theorem tgI_rng (r : Int) (X : Nat → Nat) (o n : Nat) : ∀ k, 0 ≤ tgI r X o n k ∧ tgI r X o n k < 1361129467683753853853498429727072845819
  | 0 => by show (0 : Int) ≤ 0 ∧ (0 : Int) < 1361129467683753853853498429727072845819; decide
  | k + 1 => ⟨Int.emod_nonneg _ (by decide), Int.emod_lt_of_pos _ (by decide)⟩
theorem rowV_z : ∀ j, (rowV 0 j).toInt = 0 := by
  intro j
  unfold rowV va_up
  by_cases h : j = 0
  · rw [if_pos h]; rfl
  · rw [if_neg h]; rfl
theorem rowV_v (v : Int32) : ∀ n, vI (rowV v) (n + 1) = v.toInt64.toInt
  | 0 => by
    show (0 : Int) + (rowV v 0).toInt * 2 ^ (26 * 0) = _
    rw [pw_0]
    show (0 : Int) + (rowV v 0).toInt * 1 = _
    rw [show rowV v 0 = v.toInt64 from rfl]
    omega
  | n + 1 => by
    rw [vI, rowV_v v n, show rowV v (n + 1) = 0 from rfl, show (0 : Int64).toInt = 0 from rfl]
    omega
theorem wd8_i {B : Nat → Nat} (hB : ∀ j, B j < 256) (o k : Nat) : 0 ≤ (wd8 B o k : Int) ∧ (wd8 B o k : Int) < 2 ^ (8 * k) := by
  refine ⟨Int.natCast_nonneg _, ?_⟩
  have h := Int.ofNat_lt.mpr (wd8_lt hB o k)
  rw [Int.natCast_pow] at h
  exact h
theorem rI_rng {K : Nat → Nat} (hK : ∀ j, K j < 256) : 0 ≤ rI K ∧ rI K < 21267647932558653966460912964485513216 := by
  refine ⟨Int.natCast_nonneg _, ?_⟩
  unfold rI
  have h := wd8_i (FCT_lt hK) 0 15
  rw [show (2 : Int) ^ (8 * 15) = 1329227995784915872903807060280344576 from by decide +kernel] at h
  have h2 : FCT K 15 < 16 := Nat.mod_lt _ (by decide)
  rw [wd8, Int.natCast_add, Int.natCast_mul, Int.natCast_pow, show ((2 : Nat) : Int) ^ (8 * 15) = 1329227995784915872903807060280344576 from by decide +kernel]
  show _ + (FCT K 15 : Int) * _ < _
  omega
theorem fRow_spec {K : Nat → Nat} (hK : ∀ j, K j < 256) : (∀ i, i < 5 → 0 ≤ (fRow K i).toInt ∧ (fRow K i).toInt < 67108864) ∧ vI (fRow K) 5 = rI K := by
  obtain ⟨h1, h2⟩ := adBs_spec (o := 0) (M := 5) (f := rowV 0) (D := 0) (FCT_lt hK) (by decide) (by decide) (fun j _ => by rw [rowV_z]; decide) 16 (by decide) (by decide)
  obtain ⟨c1, c2, r, r0, r1, r2⟩ := cry_top (adBs (FCT K) 0 (rowV 0) 16) (N := 5) (by decide) (fun i hi => by have := h1 i hi; omega)
  rw [show (2 : Int) ^ (26 * (5 - 1)) = 20282409603651670423947251286016 from by decide +kernel] at r1 r2
  have hz : vI (rowV 0) 5 = 0 := rowV_v 0 4
  rw [h2, hz] at c2 r2
  have hr := rI_rng hK
  have er : (wd8 (FCT K) 0 16 : Int) = rI K := rfl
  rw [er] at c2 r2
  have et : fRow K = cry (adBs (FCT K) 0 (rowV 0) 16) (5 - 1) := rfl
  rw [et]
  refine ⟨fun i hi => ?_, by rw [c2]; omega⟩
  by_cases hl : i < 5 - 1
  · exact c1 i hl
  · rw [show i = 5 - 1 by omega]
    omega
def A5 (f : Nat → Int64) : Prop := (-32768 ≤ (f 0).toInt ∧ (f 0).toInt ≤ 67141632) ∧ (∀ i, 1 ≤ i → i < 4 → 0 ≤ (f i).toInt ∧ (f i).toInt < 67108864) ∧ 0 ≤ (f 4).toInt ∧ (f 4).toInt < 67108864
theorem A5_z : A5 (rowV 0) := ⟨by rw [rowV_z]; decide, fun i _ _ => by rw [rowV_z]; decide, by rw [rowV_z]; decide, by rw [rowV_z]; decide⟩
theorem A5_b {f : Nat → Int64} (h : A5 f) : (∀ j, j < 5 → -134217728 ≤ (f j).toInt ∧ (f j).toInt ≤ 134217728) ∧ -32768 ≤ vI f 5 ∧ vI f 5 ≤ 2722258935367507707706996859454145691648 := by
  obtain ⟨h0, h1, h4⟩ := h
  have a1 := h1 1 (by decide) (by decide)
  have a2 := h1 2 (by decide) (by decide)
  have a3 := h1 3 (by decide) (by decide)
  refine ⟨fun j hj => ?_, ?_⟩
  · rcases (show j = 0 ∨ j = 1 ∨ j = 2 ∨ j = 3 ∨ j = 4 by omega) with rfl | rfl | rfl | rfl | rfl <;> omega
  · rw [vI_5]; omega
theorem one_i : (1 : Int64).toInt = 1 := rfl
theorem pcs_spec {S F : Row} {X : Nat → Nat} {o sz : Nat} (hS : A5 S) (hX : ∀ j, X j < 256) (hsz : sz ≤ 16) (hF : ∀ i, i < 5 → 0 ≤ (F i).toInt ∧ (F i).toInt < 67108864) (hF2 : 0 ≤ vI F 5 ∧ vI F 5 < 21267647932558653966460912964485513216) :
    A5 (pcs S F X o sz) ∧ cg 1361129467683753853853498429727072845819 (vI (pcs S F X o sz) 5) ((vI S 5 + (wd8 X o sz : Int) + 2 ^ (8 * sz)) * vI F 5) := by
  obtain ⟨s1, s2, s3⟩ := A5_b hS
  obtain ⟨a1, a2⟩ := adB_spec (f := S) (v := 1) (i := sz) (M := 5) (D := 134217728) (by omega) (by rw [one_i]; decide) (by decide) s1
  obtain ⟨b1, b2⟩ := adBs_spec (B := X) (o := o) (M := 5) (f := adB S 1 sz) (D := 134217728 + 8589934592) hX (by decide) (by decide) a1 sz (by omega) (by omega)
  obtain ⟨c1, c2, r, r0, r1, r2⟩ := cry_top (adBs X o (adB S 1 sz) sz) (N := 5) (by decide) (fun i hi => by have := b1 i hi; omega)
  rw [show (2 : Int) ^ (26 * (5 - 1)) = 20282409603651670423947251286016 from by decide +kernel] at r1 r2
  rw [one_i, Int.one_mul] at a2
  rw [a2] at b2
  have hw := wd8_i hX o sz
  have hp1 : (2 : Int) ^ (8 * sz) ≤ 2 ^ 128 := pw_le (by omega)
  rw [show (2 : Int) ^ 128 = 340282366920938463463374607431768211456 from by decide +kernel] at hp1
  have hp0 : (0 : Int) < 2 ^ (8 * sz) := Int.pow_pos (by decide)
  obtain ⟨Y, hY⟩ : ∃ Y, Y = cry (adBs X o (adB S 1 sz) sz) (5 - 1) := ⟨_, rfl⟩
  rw [← hY] at c1 c2 r2
  have r2 : vI (adBs X o (adB S 1 sz) sz) 5 = r + (Y 4).toInt * 20282409603651670423947251286016 := r2
  have ht : -1 ≤ (Y 4).toInt ∧ (Y 4).toInt ≤ 268435456 := by omega
  have e5 := c1 0 (by decide)
  have hb : b28 Y 5 := by
    intro i hi
    by_cases hl : i < 5 - 1
    · have := c1 i hl; omega
    · rw [show i = 4 by omega]; omega
  have hb2 : b28 F 5 := fun i hi => by have := hF i hi; omega
  obtain ⟨t1, t2, t3, t4⟩ := tm5_spec hb hb2 (by rw [c2, b2]; omega) (by omega)
  have eP : pcs S F X o sz = tms 5 26 5 5 Y F := by rw [hY]; rfl
  rw [eP]
  refine ⟨⟨t1, t2, t3⟩, ?_⟩
  rw [c2, b2] at t4
  have e : vI S 5 + 2 ^ (8 * sz) + (wd8 X o sz : Int) = vI S 5 + (wd8 X o sz : Int) + 2 ^ (8 * sz) := by omega
  rw [e] at t4
  exact t4
theorem tgS_spec {K X : Nat → Nat} {o n : Nat} (hK : ∀ j, K j < 256) (hX : ∀ j, X j < 256) : ∀ k, A5 (tgS (fRow K) X o n k) ∧ cg 1361129467683753853853498429727072845819 (vI (tgS (fRow K) X o n k) 5) (tgI (rI K) X o n k)
  | 0 => ⟨A5_z, by rw [show vI (tgS (fRow K) X o n 0) 5 = 0 from rowV_v 0 4]; exact cg_r _ _⟩
  | k + 1 => by
    obtain ⟨h1, h2⟩ := tgS_spec hK hX k
    obtain ⟨f1, f2⟩ := fRow_spec hK
    have fr := rI_rng hK
    obtain ⟨p1, p2⟩ := pcs_spec (o := o + 16 * k) (sz := min 16 (n - 16 * k)) h1 hX (by omega) f1 (by rw [f2]; exact fr)
    refine ⟨p1, cg_t p2 (cg_s (cg_t (cg_e _ _) ?_))⟩
    rw [f2]
    exact cg_m (cg_a (cg_a (cg_s h2) (cg_r _ _)) (cg_r _ _)) (cg_r _ _)
/-- the class's tag is TAG -/
theorem TAGB_eq {K X : Nat → Nat} {o n : Nat} (hK : ∀ j, K j < 256) (hX : ∀ j, X j < 256) : ∀ j, j < 16 → TAGB K X o n j = TAGM K X o n j := by
  intro j hj
  obtain ⟨⟨h1, h2, h3⟩, h4⟩ := tgS_spec (o := o) (n := n) hK hX ((n + 15) / 16)
  obtain ⟨s1, s2, s3, s4⟩ := stl5 (f := tgS (fRow K) X o n ((n + 15) / 16)) (by omega) h2 h3
  have hr := tgI_rng (rI K) X o n ((n + 15) / 16)
  have ev := cg_u (cg_t s4 h4) ⟨s2, s3⟩ hr
  obtain ⟨a1, a2⟩ := adBs_spec (B := K) (o := 16) (M := 5) (f := stl 5 26 5 (tgS (fRow K) X o n ((n + 15) / 16))) (D := 67108864) hK (by decide) (by decide) (fun i hi => by have := s1 i hi; omega) 16 (by decide) (by decide)
  obtain ⟨c1, c2, r, r0, r1, r2⟩ := cry_top (adBs K 16 (stl 5 26 5 (tgS (fRow K) X o n ((n + 15) / 16))) 16) (N := 5) (by decide) (fun i hi => by have := a1 i hi; omega)
  rw [show (2 : Int) ^ (26 * (5 - 1)) = 20282409603651670423947251286016 from by decide +kernel] at r1 r2
  rw [a2, ev] at c2 r2
  have hw := wd8_i hK 16 16
  rw [show (2 : Int) ^ (8 * 16) = 340282366920938463463374607431768211456 from by decide +kernel] at hw
  have eR : tagRow K X o n = cry (adBs K 16 (stl 5 26 5 (tgS (fRow K) X o n ((n + 15) / 16))) 16) (5 - 1) := rfl
  rw [← eR] at c1 c2 r2
  have hb := wbB_spec (n := 5) (i := j) (x := tagRow K X o n) (by omega) c1 (by omega)
  rw [c2] at hb
  have hm := TAGM_lt K X o n j
  have e2 : (TAGM K X o n j : Int) = tagI K X o n / 2 ^ (8 * j) % 256 := Int.toNat_of_nonneg (Int.emod_nonneg _ (by decide))
  have e3 : (TAGB K X o n j : Int) = tagI K X o n / 2 ^ (8 * j) % 256 := hb
  omega
theorem tgI_congr {r : Int} {X Y : Nat → Nat} {o o2 n : Nat} (h : ∀ j, j < n → X (o + j) = Y (o2 + j)) : ∀ k, tgI r X o n k = tgI r Y o2 n k
  | 0 => rfl
  | k + 1 => by
    rw [tgI, tgI, tgI_congr h k, wd8_congr (B := X) (C := Y) (o := o + 16 * k) (o2 := o2 + 16 * k) (fun j hj => by
      rw [show o + 16 * k + j = o + (16 * k + j) by omega, show o2 + 16 * k + j = o2 + (16 * k + j) by omega]
      exact h _ (by omega))]
theorem TAGM_congr {K L X Y : Nat → Nat} {o o2 n : Nat} (hK : ∀ j, j < 32 → K j = L j) (h : ∀ j, j < n → X (o + j) = Y (o2 + j)) : TAGM K X o n = TAGM L Y o2 n := by
  have e1 : rI K = rI L := by
    unfold rI
    rw [wd8_congr (B := FCT K) (C := FCT L) (o := 0) (o2 := 0) (fun j hj => by unfold FCT; rw [hK (0 + j) (by omega)])]
  have e2 : wd8 K 16 16 = wd8 L 16 16 := wd8_congr (fun j hj => hK _ (by omega))
  funext j
  unfold TAGM tagI
  rw [e1, e2, tgI_congr h]
