/-! MULTIPLE as a number -/
def A10 (f : Nat → Int64) : Prop := (-32768 ≤ (f 0).toInt ∧ (f 0).toInt ≤ 67141632) ∧ (∀ i, 1 ≤ i → i < 9 → 0 ≤ (f i).toInt ∧ (f i).toInt < 67108864) ∧ 0 ≤ (f 9).toInt ∧ (f 9).toInt < 2097152
def L10 (f : Nat → Int64) : Prop := (∀ i, i < 9 → -134217728 ≤ (f i).toInt ∧ (f i).toInt ≤ 134217728) ∧ -4194304 ≤ (f 9).toInt ∧ (f 9).toInt ≤ 4194304
def M10 (f : Nat → Int64) : Prop := (∀ i, i < 9 → -268435456 ≤ (f i).toInt ∧ (f i).toInt ≤ 268435456) ∧ -8388608 ≤ (f 9).toInt ∧ (f 9).toInt ≤ 8388608
theorem A10_L {f : Nat → Int64} (h : A10 f) : L10 f := by
  obtain ⟨h0, h1, h9⟩ := h
  refine ⟨fun i hi => ?_, by omega⟩
  by_cases c : i = 0
  · rw [c]; omega
  · have := h1 i (by omega) hi; omega
theorem L10_M {f : Nat → Int64} (h : L10 f) : M10 f := ⟨fun i hi => by have := h.1 i hi; omega, by have := h.2; omega⟩
theorem M10_b {f : Nat → Int64} (h : M10 f) : b28 f 10 ∧ -463168356949264781694283940034751631413079938662562256157830336031652518559744 ≤ vI f 10 ∧ vI f 10 ≤ 463168356949264781694283940034751631413079938662562256157830336031652518559744 := by
  obtain ⟨h1, h9⟩ := h
  refine ⟨fun i hi => ?_, ?_⟩
  · by_cases c : i < 9
    · exact h1 i c
    · rw [show i = 9 by omega]; omega
  · have a0 := h1 0 (by decide)
    have a1 := h1 1 (by decide)
    have a2 := h1 2 (by decide)
    have a3 := h1 3 (by decide)
    have a4 := h1 4 (by decide)
    have a5 := h1 5 (by decide)
    have a6 := h1 6 (by decide)
    have a7 := h1 7 (by decide)
    have a8 := h1 8 (by decide)
    rw [vI_10]
    omega
theorem tm_A {x y : Nat → Int64} (hx : M10 x) (hy : M10 y) : A10 (tm x y) ∧ cg 57896044618658097711785492504343953926634992332820282019728792003956564819949 (vI (tm x y) 10) (vI x 10 * vI y 10) := by
  obtain ⟨a1, a2⟩ := M10_b hx
  obtain ⟨b1, b2⟩ := M10_b hy
  obtain ⟨t1, t2, t3, t4⟩ := tm10_spec a1 b1 a2 b2
  exact ⟨⟨t1, t2, t3⟩, t4⟩
theorem pl_M {x y : Nat → Int64} (hx : L10 x) (hy : L10 y) : M10 (pl x y) ∧ vI (pl x y) 10 = vI x 10 + vI y 10 := by
  have e : ∀ i, i < 10 → (pl x y i).toInt = (x i).toInt + 1 * (y i).toInt := by
    intro i hi
    have : (-134217728 ≤ (x i).toInt ∧ (x i).toInt ≤ 134217728) ∧ -134217728 ≤ (y i).toInt ∧ (y i).toInt ≤ 134217728 := by
      by_cases c : i < 9
      · exact ⟨hx.1 i c, hy.1 i c⟩
      · rw [show i = 9 by omega]
        have := hx.2
        have := hy.2
        omega
    show (x i + y i).toInt = _
    rw [add_i (by omega) (by omega)]
    omega
  refine ⟨⟨fun i hi => ?_, ?_⟩, ?_⟩
  · have a := hx.1 i hi
    have b := hy.1 i hi
    rw [e i (by omega)]; omega
  · have a := hx.2
    have b := hy.2
    rw [e 9 (by omega)]; omega
  · rw [vI_lin e]; omega
theorem mi_M {x y : Nat → Int64} (hx : L10 x) (hy : L10 y) : M10 (mi x y) ∧ vI (mi x y) 10 = vI x 10 - vI y 10 := by
  have e : ∀ i, i < 10 → (mi x y i).toInt = (x i).toInt + (-1) * (y i).toInt := by
    intro i hi
    have : (-134217728 ≤ (x i).toInt ∧ (x i).toInt ≤ 134217728) ∧ -134217728 ≤ (y i).toInt ∧ (y i).toInt ≤ 134217728 := by
      by_cases c : i < 9
      · exact ⟨hx.1 i c, hy.1 i c⟩
      · rw [show i = 9 by omega]
        have := hx.2
        have := hy.2
        omega
    show (x i - y i).toInt = _
    rw [sub_i (by omega) (by omega)]
    omega
  refine ⟨⟨fun i hi => ?_, ?_⟩, ?_⟩
  · have a := hx.1 i hi
    have b := hy.1 i hi
    rw [e i (by omega)]; omega
  · have a := hx.2
    have b := hy.2
    rw [e 9 (by omega)]; omega
  · rw [vI_lin e]; omega
theorem sc_L {x : Nat → Int64} (hx : M10 x) : L10 (sc x) ∧ cg 57896044618658097711785492504343953926634992332820282019728792003956564819949 (vI (sc x) 10) (121665 * vI x 10) := by
  obtain ⟨b1, b2⟩ := M10_b hx
  have hc : (121665 : Int32).toInt64.toInt = 121665 := by decide
  have e : ∀ i, i < 10 → (x i * (121665 : Int32).toInt64).toInt = 121665 * (x i).toInt := by
    intro i hi
    have := b1 i hi
    rw [mul_i (by rw [hc]; omega) (by rw [hc]; omega), hc, Int.mul_comm]
  obtain ⟨h1, h9⟩ := hx
  have a0 := h1 0 (by decide)
  have a1 := h1 1 (by decide)
  have a2 := h1 2 (by decide)
  have a3 := h1 3 (by decide)
  have a4 := h1 4 (by decide)
  have a5 := h1 5 (by decide)
  have a6 := h1 6 (by decide)
  have a7 := h1 7 (by decide)
  have a8 := h1 8 (by decide)
  have eX := vI_10 x
  have eV : vI (fun i => x i * (121665 : Int32).toInt64) 10 = 121665 * vI x 10 := by
    have := vI_lin (f := fun i => x i * (121665 : Int32).toInt64) (g := fun _ => 0) (h := x) (c := 121665) (n := 10) (fun i hi => by rw [show ((fun _ => 0 : Nat → Int64) i).toInt = 0 from rfl, e i hi]; omega)
    rw [this]
    have z : vI (fun _ => 0) 10 = 0 := by rw [vI_10]; rfl
    rw [z]; omega
  obtain ⟨r, T, g0, r0, r1, r2, c0, c1, c2, c3, c4, c5⟩ := fTop_spec 10 21 19 19 (fun i => x i * (121665 : Int32).toInt64) (by decide) (by decide) (by decide) (by decide) (fun i hi => by have := b1 i hi; rw [e i hi]; omega) (by rw [show (2 : Int) ^ (26 * (10 - 1)) = 27606985387162255149739023449108101809804435888681546220650096895197184 from by decide +kernel, eV]; omega)
  rw [show (2 : Int) ^ (26 * (10 - 1)) = 27606985387162255149739023449108101809804435888681546220650096895197184 from by decide +kernel] at r1 r2 c5
  rw [show (2 : Int) ^ 21 = 2097152 from by decide +kernel] at c2 c4 c5
  rw [eV] at r2 c5
  have hT : -1099511627777 ≤ T ∧ T ≤ 1099511627777 := by
    clear c2 c3 c4 c5
    omega
  refine ⟨⟨fun i hi => ?_, ?_⟩, ⟨-(T / 2097152), ?_⟩⟩
  · by_cases q : i = 0
    · rw [q]
      show _ ≤ (fTop 10 21 19 (fun i => x i * (121665 : Int32).toInt64) 0).toInt ∧ (fTop 10 21 19 (fun i => x i * (121665 : Int32).toInt64) 0).toInt ≤ _
      rw [c2]
      clear r2 eX eV c5
      omega
    · have := c3 i (by omega) (by omega)
      show _ ≤ (fTop 10 21 19 (fun i => x i * (121665 : Int32).toInt64) i).toInt ∧ (fTop 10 21 19 (fun i => x i * (121665 : Int32).toInt64) i).toInt ≤ _
      omega
  · have c4 : (sc x 9).toInt = T % 2097152 := c4
    rw [c4]
    clear r2 eX eV c5
    omega
  · show vI (fTop 10 21 19 (fun i => x i * (121665 : Int32).toInt64)) 10 = _
    rw [c5]
    clear r2 eX eV
    omega
/-! STEP on whole numbers -/
def sQ (a b : Int) : Int := (a + b) * (a + b)
def sR (a b : Int) : Int := (a - b) * (a - b)
def sT (a b : Int) : Int := sQ a b - sR a b
def sA (a b : Int) : Int := sQ a b * sR a b
def sB (a b : Int) : Int := sT a b * (sQ a b + 121665 * sT a b)
def sG (a b c d : Int) : Int := (c + d) * (a - b)
def sH (a b c d : Int) : Int := (c - d) * (a + b)
def sC (a b c d : Int) : Int := (sG a b c d + sH a b c d) * (sG a b c d + sH a b c d)
def sD (u a b c d : Int) : Int := u * ((sG a b c d - sH a b c d) * (sG a b c d - sH a b c d))
/-- a row stands for a number: its limbs are small, its number is that one but for multiples of p -/
def Rp (f : Row) (v : Int) : Prop := A10 f ∧ cg 57896044618658097711785492504343953926634992332820282019728792003956564819949 (vI f 10) v
theorem Rp_tm {x y : Row} {v w : Int} (hx : M10 x) (hy : M10 y) (h1 : cg 57896044618658097711785492504343953926634992332820282019728792003956564819949 (vI x 10) v) (h2 : cg 57896044618658097711785492504343953926634992332820282019728792003956564819949 (vI y 10) w) : Rp (tm x y) (v * w) := by
  obtain ⟨a, b⟩ := tm_A hx hy
  exact ⟨a, cg_t b (cg_m h1 h2)⟩
theorem Rp_pl {x y : Row} {v w : Int} (hx : Rp x v) (hy : Rp y w) : M10 (pl x y) ∧ cg 57896044618658097711785492504343953926634992332820282019728792003956564819949 (vI (pl x y) 10) (v + w) := by
  obtain ⟨a, b⟩ := pl_M (A10_L hx.1) (A10_L hy.1)
  exact ⟨a, by rw [b]; exact cg_a hx.2 hy.2⟩
theorem Rp_mi {x y : Row} {v w : Int} (hx : Rp x v) (hy : Rp y w) : M10 (mi x y) ∧ cg 57896044618658097711785492504343953926634992332820282019728792003956564819949 (vI (mi x y) 10) (v - w) := by
  obtain ⟨a, b⟩ := mi_M (A10_L hx.1) (A10_L hy.1)
  exact ⟨a, by rw [b]; exact cg_d hx.2 hy.2⟩
theorem Rp_M {x : Row} {v : Int} (h : Rp x v) : M10 x := L10_M (A10_L h.1)
theorem Rp_2 {x y : Row} {v w : Int} (h1 : Rp x v) (h2 : Rp y w) : Rp (tm x y) (v * w) := Rp_tm (Rp_M h1) (Rp_M h2) h1.2 h2.2
section
variable {ra rb rc rd ru : Row} {a b c d u : Int}
theorem st_Q (ha : Rp ra a) (hb : Rp rb b) : Rp (stQ ra rb) (sQ a b) := Rp_tm (Rp_pl ha hb).1 (Rp_pl ha hb).1 (Rp_pl ha hb).2 (Rp_pl ha hb).2
theorem st_R (ha : Rp ra a) (hb : Rp rb b) : Rp (stR ra rb) (sR a b) := Rp_tm (Rp_mi ha hb).1 (Rp_mi ha hb).1 (Rp_mi ha hb).2 (Rp_mi ha hb).2
theorem st_G (ha : Rp ra a) (hb : Rp rb b) (hc : Rp rc c) (hd : Rp rd d) : Rp (stG ra rb rc rd) (sG a b c d) := Rp_tm (Rp_pl hc hd).1 (Rp_mi ha hb).1 (Rp_pl hc hd).2 (Rp_mi ha hb).2
theorem st_H (ha : Rp ra a) (hb : Rp rb b) (hc : Rp rc c) (hd : Rp rd d) : Rp (stH ra rb rc rd) (sH a b c d) := Rp_tm (Rp_mi hc hd).1 (Rp_pl ha hb).1 (Rp_mi hc hd).2 (Rp_pl ha hb).2
theorem st_A (ha : Rp ra a) (hb : Rp rb b) : Rp (stA ra rb) (sA a b) := Rp_2 (st_Q ha hb) (st_R ha hb)
theorem st_T (ha : Rp ra a) (hb : Rp rb b) : M10 (stT ra rb) ∧ cg 57896044618658097711785492504343953926634992332820282019728792003956564819949 (vI (stT ra rb) 10) (sT a b) := Rp_mi (st_Q ha hb) (st_R ha hb)
theorem st_B (ha : Rp ra a) (hb : Rp rb b) : Rp (stB ra rb) (sB a b) := by
  obtain ⟨t1, t2⟩ := st_T ha hb
  obtain ⟨s1, s2⟩ := sc_L t1
  have q := st_Q ha hb
  obtain ⟨p1, p2⟩ := pl_M (A10_L q.1) s1
  refine Rp_tm t1 p1 t2 ?_
  rw [p2]
  exact cg_a q.2 (cg_t s2 (cg_m (cg_r _ _) t2))
theorem st_C (ha : Rp ra a) (hb : Rp rb b) (hc : Rp rc c) (hd : Rp rd d) : Rp (stC ra rb rc rd) (sC a b c d) := by
  have p := Rp_pl (st_G ha hb hc hd) (st_H ha hb hc hd)
  exact Rp_tm p.1 p.1 p.2 p.2
theorem st_D (hu : Rp ru u) (ha : Rp ra a) (hb : Rp rb b) (hc : Rp rc c) (hd : Rp rd d) : Rp (stD ru ra rb rc rd) (sD u a b c d) := by
  have p := Rp_mi (st_G ha hb hc hd) (st_H ha hb hc hd)
  exact Rp_2 hu (Rp_tm p.1 p.1 p.2 p.2)
end
def ladI (u : Int) (B : Nat → Nat) : Nat → (Int × Int × Int × Int)
  | 0 => (1, 0, u, 1)
  | m + 1 =>
    let a := (ladI u B m).1
    let b := (ladI u B m).2.1
    let c := (ladI u B m).2.2.1
    let d := (ladI u B m).2.2.2
    if bitN B (254 - m) = 1 then (sC c d a b, sD u c d a b, sA c d, sB c d) else (sA a b, sB a b, sC a b c d, sD u a b c d)
theorem rowV_1 : Rp (rowV 1) 1 := by
  refine ⟨⟨by decide, fun i h1 _ => ?_, by decide⟩, by rw [show vI (rowV 1) 10 = 1 from rowV_v 1 9]; exact cg_r _ _⟩
  rw [show rowV 1 i = 0 by unfold rowV; rw [va_up_ne _ _ (by omega)]]
  decide
theorem rowV_0 : Rp (rowV 0) 0 := by
  refine ⟨⟨by decide, fun i h1 _ => ?_, by decide⟩, by rw [show vI (rowV 0) 10 = 0 from rowV_v 0 9]; exact cg_r _ _⟩
  rw [rowV_z]
  decide
def uI (X : Nat → Nat) : Int := (wd8 (PNTB X) 0 32 : Int)
theorem uRow_R {X : Nat → Nat} (hX : ∀ j, X j < 256) : Rp (uRow X) (uI X) := by
  obtain ⟨h1, h2⟩ := adBs_spec (o := 0) (M := 10) (f := rowV 0) (D := 0) (PNTB_lt hX) (by decide) (by decide) (fun j _ => by rw [rowV_z]; decide) 32 (by decide) (by decide)
  obtain ⟨c1, c2, r, r0, r1, r2⟩ := cry_top (adBs (PNTB X) 0 (rowV 0) 32) (N := 10) (by decide) (fun i hi => by have := h1 i hi; omega)
  rw [show (2 : Int) ^ (26 * (10 - 1)) = 27606985387162255149739023449108101809804435888681546220650096895197184 from by decide +kernel] at r1 r2
  rw [h2, show vI (rowV 0) 10 = 0 from rowV_v 0 9, Int.zero_add] at c2 r2
  have hu : 0 ≤ (wd8 (PNTB X) 0 32 : Int) ∧ (wd8 (PNTB X) 0 32 : Int) < 57896044618658097711785492504343953926634992332820282019728792003956564819968 := by
    refine ⟨Int.natCast_nonneg _, ?_⟩
    have h := wd8_i (PNTB_lt hX) 0 31
    rw [show (2 : Int) ^ (8 * 31) = 452312848583266388373324160190187140051835877600158453279131187530910662656 from by decide +kernel] at h
    have h3 : PNTB X 31 < 128 := Nat.mod_lt _ (by decide)
    rw [wd8, Int.natCast_add, Int.natCast_mul, Int.natCast_pow, show ((2 : Nat) : Int) ^ (8 * 31) = 452312848583266388373324160190187140051835877600158453279131187530910662656 from by decide +kernel]
    show _ + (PNTB X 31 : Int) * _ < _
    omega
  have eR : uRow X = cry (adBs (PNTB X) 0 (rowV 0) 32) (10 - 1) := rfl
  rw [← eR] at c1 c2 r2
  have r2 : (wd8 (PNTB X) 0 32 : Int) = r + (uRow X 9).toInt * 27606985387162255149739023449108101809804435888681546220650096895197184 := r2
  refine ⟨⟨by have := c1 0 (by decide); omega, fun i h1 h2 => c1 i (by omega), by omega⟩, by rw [c2]; exact cg_r _ _⟩
theorem lad_R {X B : Nat → Nat} (hX : ∀ j, X j < 256) : ∀ m, Rp (lad (uRow X) B m).1 (ladI (uI X) B m).1 ∧ Rp (lad (uRow X) B m).2.1 (ladI (uI X) B m).2.1 ∧ Rp (lad (uRow X) B m).2.2.1 (ladI (uI X) B m).2.2.1 ∧ Rp (lad (uRow X) B m).2.2.2 (ladI (uI X) B m).2.2.2
  | 0 => ⟨rowV_1, rowV_0, uRow_R hX, rowV_1⟩
  | m + 1 => by
    obtain ⟨ha, hb, hc, hd⟩ := lad_R (B := B) hX m
    have hu := uRow_R hX
    by_cases q : bitN B (254 - m) = 1
    · rw [show lad (uRow X) B (m + 1) = _ from if_pos q, show ladI (uI X) B (m + 1) = _ from if_pos q]
      exact ⟨st_C hc hd ha hb, st_D hu hc hd ha hb, st_A hc hd, st_B hc hd⟩
    · rw [show lad (uRow X) B (m + 1) = _ from if_neg q, show ladI (uI X) B (m + 1) = _ from if_neg q]
      exact ⟨st_A ha hb, st_B ha hb, st_C ha hb hc hd, st_D hu ha hb hc hd⟩
def ivI (x : Int) : Nat → Int
  | 0 => x
  | m + 1 => if 253 - m = 2 ∨ 253 - m = 4 then ivI x m * ivI x m else ivI x m * ivI x m * x
theorem ivS_R {x : Row} {v : Int} (h : Rp x v) : ∀ m, Rp (ivS x m) (ivI v m)
  | 0 => h
  | m + 1 => by
    have r := ivS_R h m
    by_cases q : 253 - m = 2 ∨ 253 - m = 4
    · rw [show ivS x (m + 1) = _ from if_pos q, show ivI v (m + 1) = _ from if_pos q]
      exact Rp_2 r r
    · rw [show ivS x (m + 1) = _ from if_neg q, show ivI v (m + 1) = _ from if_neg q]
      exact Rp_2 (Rp_2 r r) h
/-- MULTIPLE, a number in the field -/
def mulI (K X : Nat → Nat) : Int := ((ladI (uI X) (KEYB K) 255).1 * ivI (ladI (uI X) (KEYB K) 255).2.1 254) % 57896044618658097711785492504343953926634992332820282019728792003956564819949
def MULM (K X : Nat → Nat) : Nat → Nat := fun j => (mulI K X / 2 ^ (8 * j) % 256).toNat
/-- the class's multiple is MULTIPLE -/
theorem MULB_eq {K X : Nat → Nat} (hX : ∀ j, X j < 256) : ∀ j, j < 32 → MULB K X j = MULM K X j := by
  intro j hj
  obtain ⟨ha, hb, -, -⟩ := lad_R (B := KEYB K) hX 255
  have r := Rp_2 ha (ivS_R hb 254)
  obtain ⟨⟨r0, r1, r9⟩, rc⟩ := r
  obtain ⟨s1, s2, s3, s4⟩ := stl10 (f := tm (lad (uRow X) (KEYB K) 255).1 (ivS (lad (uRow X) (KEYB K) 255).2.1 254)) (by omega) r1 r9
  have hr : 0 ≤ mulI K X ∧ mulI K X < 57896044618658097711785492504343953926634992332820282019728792003956564819949 := ⟨Int.emod_nonneg _ (by decide), Int.emod_lt_of_pos _ (by decide)⟩
  have ev := cg_u (cg_t s4 (cg_t rc (cg_s (cg_e _ _)))) ⟨s2, s3⟩ hr
  have s9 := s1 9 (by decide)
  have hb2 := wbB_spec (n := 10) (i := j) (x := mulRow K X) (by omega) (fun i hi => s1 i (by omega)) (by show 0 ≤ (mulRow K X 9).toInt ∧ (mulRow K X 9).toInt < 1073741824; exact ⟨s9.1, by have := s9.2; exact Int.lt_trans this (by decide)⟩)
  have e0 : vI (mulRow K X) 10 = mulI K X := ev
  rw [e0] at hb2
  have e2 : (MULM K X j : Int) = mulI K X / 2 ^ (8 * j) % 256 := Int.toNat_of_nonneg (Int.emod_nonneg _ (by decide))
  have e3 : (MULB K X j : Int) = mulI K X / 2 ^ (8 * j) % 256 := hb2
  omega
theorem MULM_lt (K X : Nat → Nat) (j : Nat) : MULM K X j < 256 := by
  unfold MULM
  have h1 := Int.emod_nonneg (mulI K X / 2 ^ (8 * j)) (show (256 : Int) ≠ 0 by decide)
  have h2 := Int.emod_lt_of_pos (mulI K X / 2 ^ (8 * j)) (show (0 : Int) < 256 by decide)
  omega
