/-! the answers are functions of what was asked: both sides answer alike -/
theorem bsz_le (b : Nat) : bsz b ≤ 112 := by
  unfold bsz
  by_cases h : b = 1
  · rw [if_pos h]; decide
  · rw [if_neg h]
    by_cases h2 : b = 0 ∨ b = 2
    · rw [if_pos h2]; decide
    · rw [if_neg h2]; decide
theorem nI_i {a b : Nat} (ha : a < 1000) (hb : b < 1000) (h : nI a = nI b) : a = b := (nI_eq (by omega) (by omega)).mp h
theorem spLen_f {x a1 a2 : Int32} {tl t1 t2 : Nat} (h1 : spLen x tl a1 t1) (h2 : spLen x tl a2 t2) : a1 = a2 ∧ t1 = t2 := by
  rcases h1 with ⟨k, hk, e1, e2, e3⟩ | ⟨f, e2, e3⟩ <;> rcases h2 with ⟨j, hj, d1, d2, d3⟩ | ⟨f', d2, d3⟩
  · have := nI_i (by omega) (by omega) (e1.symm.trans d1)
    exact ⟨e2.trans d2.symm, by omega⟩
  · exact absurd e1 (f' k hk)
  · exact absurd d1 (f j hj)
  · exact ⟨e2.trans d2.symm, e3.trans d3.symm⟩
theorem spStr_f {x a1 a2 : Int32} {Bf B1 B2 : Nat → Nat → Nat} {ol o1 o2 : Nat} (h1 : spStr x Bf ol a1 B1 o1) (h2 : spStr x Bf ol a2 B2 o2) : a1 = a2 ∧ B1 = B2 ∧ o1 = o2 := by
  rcases h1 with ⟨k, hk, e1, e2, e3, e4⟩ | ⟨f, e2, e3, e4⟩ <;> rcases h2 with ⟨j, hj, d1, d2, d3, d4⟩ | ⟨f', d2, d3, d4⟩
  · have := nI_i (by omega) (by omega) (e1.symm.trans d1)
    subst this
    exact ⟨e2.trans d2.symm, e3.trans d3.symm, e4.trans d4.symm⟩
  · exact absurd e1 (f' k hk)
  · exact absurd d1 (f j hj)
  · exact ⟨e2.trans d2.symm, e3.trans d3.symm, e4.trans d4.symm⟩
theorem spSize_f {x a1 a2 : Int32} {tl ol : Nat} (h1 : spSize x tl ol a1) (h2 : spSize x tl ol a2) : a1 = a2 := by
  rcases h1 with ⟨b, hb, e1, e2⟩ | ⟨e1, e2⟩ | ⟨e1, e2⟩ | ⟨f, e2⟩ <;> rcases h2 with ⟨b', hb', d1, d2⟩ | ⟨d1, d2⟩ | ⟨d1, d2⟩ | ⟨f', d2⟩
  · have := nI_i (by omega) (by omega) (e1.symm.trans d1)
    subst this
    exact e2.trans d2.symm
  · have := nI_i (by omega) (by decide) (e1.symm.trans d1)
    omega
  · have := nI_i (by omega) (by decide) (e1.symm.trans d1)
    omega
  · exact absurd e1 (f' b (by omega))
  · have := nI_i (by omega) (by omega) (e1.symm.trans d1)
    omega
  · exact e2.trans d2.symm
  · have := nI_i (by decide) (by decide) (e1.symm.trans d1)
    omega
  · exact absurd e1 (f' 3 (by decide))
  · have := nI_i (by omega) (by omega) (e1.symm.trans d1)
    omega
  · have := nI_i (by decide) (by decide) (e1.symm.trans d1)
    omega
  · exact e2.trans d2.symm
  · exact absurd e1 (f' 4 (by decide))
  · exact absurd d1 (f b' (by omega))
  · exact absurd d1 (f 3 (by decide))
  · exact absurd d1 (f 4 (by decide))
  · exact e2.trans d2.symm
theorem spPut_f {x i a1 a2 : Int32} {w : Int64} {Bf B1 B2 : Nat → Nat → Nat} (h1 : spPut x i w Bf a1 B1) (h2 : spPut x i w Bf a2 B2) : a1 = a2 ∧ B1 = B2 := by
  rcases h1 with ⟨b, k, hb, hk, e0, e1, e2, e3⟩ | ⟨f, e2, e3⟩ <;> rcases h2 with ⟨b', k', hb', hk', d0, d1, d2, d3⟩ | ⟨f', d2, d3⟩
  · have q1 := bsz_le b
    have q2 := bsz_le b'
    have t1 := nI_i (by omega) (by omega) (e0.symm.trans d0)
    have t2 := nI_i (by omega) (by omega) (e1.symm.trans d1)
    subst t1
    subst t2
    exact ⟨e2.trans d2.symm, e3.trans d3.symm⟩
  · exact absurd e1 (f' b k hb hk e0)
  · exact absurd d1 (f b' k' hb' hk' d0)
  · exact ⟨e2.trans d2.symm, e3.trans d3.symm⟩
theorem spWord_f {x i : Int32} {a1 a2 : Int64} {Bf : Nat → Nat → Nat} (h1 : spWord x i Bf a1) (h2 : spWord x i Bf a2) : a1 = a2 := by
  rcases h1 with ⟨b, k, hb, hk, e0, e1, e2⟩ | ⟨f, e2⟩ <;> rcases h2 with ⟨b', k', hb', hk', d0, d1, d2⟩ | ⟨f', d2⟩
  · have q1 := bsz_le b
    have q2 := bsz_le b'
    have t1 := nI_i (by omega) (by omega) (e0.symm.trans d0)
    have t2 := nI_i (by omega) (by omega) (e1.symm.trans d1)
    subst t1
    subst t2
    exact e2.trans d2.symm
  · exact absurd e1 (f' b k hb hk e0)
  · exact absurd d1 (f b' k' hb' hk' d0)
  · exact e2.trans d2.symm
theorem spMove_f {x a1 a2 : Int32} {Bf B1 B2 : Nat → Nat → Nat} {tl ol t1 t2 : Nat} (h1 : spMove x Bf tl ol a1 B1 t1) (h2 : spMove x Bf tl ol a2 B2 t2) : a1 = a2 ∧ B1 = B2 ∧ t1 = t2 := by
  rcases h1 with ⟨e1, e2, e3, e4⟩ | ⟨e0, ⟨b, hb, e1, e2, e3⟩, e4⟩ | ⟨e1, eo, e2, e3, e4⟩ <;> rcases h2 with ⟨d1, d2, d3, d4⟩ | ⟨d0, ⟨b', hb', d1, d2, d3⟩, d4⟩ | ⟨d1, dd, d2, d3, d4⟩
  · exact ⟨e2.trans d2.symm, e3.trans d3.symm, e4.trans d4.symm⟩
  · have := nI_i (by decide) (by omega) (e1.symm.trans d1)
    omega
  · exact absurd e1 d1
  · have := nI_i (by omega) (by decide) (e1.symm.trans d1)
    omega
  · have := nI_i (by omega) (by omega) (e1.symm.trans d1)
    subst this
    exact ⟨e2.trans d2.symm, e3.trans d3.symm, e4.trans d4.symm⟩
  · exfalso
    rcases dd with q | ⟨q1, q2⟩
    · exact q e0
    · rcases hb with rfl | rfl
      · exact q1 e1
      · exact q2 e1
  · exact absurd d1 e1
  · exfalso
    rcases eo with q | ⟨q1, q2⟩
    · exact q d0
    · rcases hb' with rfl | rfl
      · exact q1 d1
      · exact q2 d1
  · exact ⟨e2.trans d2.symm, e3.trans d3.symm, e4.trans d4.symm⟩
theorem spSeal_f {S : Nat → Nat} {Bf B1 B2 : Nat → Nat → Nat} {tl ol o1 o2 c1 c2 : Nat} {a1 a2 : Int32} (h1 : spSeal S Bf tl ol a1 B1 o1 c1) (h2 : spSeal S Bf tl ol a2 B2 o2 c2) : a1 = a2 ∧ B1 = B2 ∧ o1 = o2 ∧ c1 = c2 := by
  rcases h1 with ⟨e0, e1, e2, e3, e4⟩ | ⟨e0, e1, e2, e3, e4⟩ <;> rcases h2 with ⟨d0, d1, d2, d3, d4⟩ | ⟨d0, d1, d2, d3, d4⟩
  · exact ⟨e1.trans d1.symm, e2.trans d2.symm, e3.trans d3.symm, e4.trans d4.symm⟩
  · exact absurd e0 d0
  · exact absurd d0 e0
  · exact ⟨e1.trans d1.symm, e2.trans d2.symm, e3.trans d3.symm, e4.trans d4.symm⟩
theorem spOpen_f {S : Nat → Nat} {Bf B1 B2 : Nat → Nat → Nat} {tl ol o1 o2 c1 c2 : Nat} {a1 a2 : Int32} (h1 : spOpen S Bf tl ol a1 B1 o1 c1) (h2 : spOpen S Bf tl ol a2 B2 o2 c2) : a1 = a2 ∧ B1 = B2 ∧ o1 = o2 ∧ c1 = c2 := by
  rcases h1 with ⟨e0, e5, e1, e2, e3, e4⟩ | ⟨e0, e5, e1, e2, e3, e4⟩ | ⟨e0, e1, e2, e3, e4⟩ <;> rcases h2 with ⟨d0, d5, d1, d2, d3, d4⟩ | ⟨d0, d5, d1, d2, d3, d4⟩ | ⟨d0, d1, d2, d3, d4⟩
  · exact ⟨e1.trans d1.symm, e2.trans d2.symm, e3.trans d3.symm, e4.trans d4.symm⟩
  · exact absurd e5 d5
  · exact absurd e0 d0
  · exact absurd d5 e5
  · exact ⟨e1.trans d1.symm, e2.trans d2.symm, e3.trans d3.symm, e4.trans d4.symm⟩
  · exact absurd e0 d0
  · exact absurd d0 e0
  · exact absurd d0 e0
  · exact ⟨e1.trans d1.symm, e2.trans d2.symm, e3.trans d3.symm, e4.trans d4.symm⟩
