/-! at the beginning -/
theorem first_Cp {H : Nat → Nat → Int32} {R : Nat → Nat → Option Nat} {L : Nat → Nat → Int64} {ω : fd_S} (hI : IN 4 (9, H, R, L)) (hM : INM (fd_u0 H 9 0) (fd_u0 R 9 none) (fd_u0 L 9 0) ω) : Cp ω 0 := by
  obtain ⟨_, i2, i3, i4⟩ := hI
  obtain ⟨m1, m2, m3, m4, m5, m6, m7⟩ := hM
  have hR : ∀ i j, i < 9 → ω.2.2.1 i j = if i = 0 then (if j = 0 then some 1 else if j = 2 then some 2 else if j = 3 then some 3 else none) else if i = 3 ∧ j = 0 then some 4 else if i = 2 ∧ j < 4 then some (5 + j) else none := fun i j hi => by
    rw [m2 i j hi]
    show (if i = 9 then none else R i j) = _
    rw [if_neg (by omega)]
    exact i2 i j
  have hH : ∀ i j, i < 9 → ω.2.1 i j = if 5 ≤ i ∧ i < 5 + 4 ∧ j = 0 then nI (i - 5) else 0 := fun i j hi => by
    rw [m3 i j (by omega)]
    show (if i = 9 then 0 else H i j) = _
    rw [if_neg (by omega)]
    exact i3 i j
  have hH9 : ∀ j, ω.2.1 9 j = 0 := fun j => by
    rw [m3 9 j (by decide)]
    show (if 9 = 9 then 0 else H 9 j) = 0
    rw [if_pos rfl]
  have hH0 : ∀ i j, i < 9 → ¬ (5 ≤ i ∧ j = 0) → ω.2.1 i j = 0 := fun i j hi hj => by rw [hH i j hi, if_neg (by omega)]
  have hL : ∀ i j, i < 10 → ω.2.2.2 i j = 0 := fun i j hi => by
    rw [m5 i j hi]
    show (if i = 9 then 0 else L i j) = 0
    by_cases q : i = 9
    · rw [if_pos q]
    · rw [if_neg q]; exact i4 i j
  have mm0 : ∀ l, mm ω l = 0 := fun l => by
    show (ω.2.1 17 l).toNatClampNeg = 0
    rw [m4 17 l (by decide) (by decide)]
    decide
  refine ⟨⟨⟨⟨by omega, by omega, by decide, ?_, ?_, ?_, ?_, ?_, fun i hi => absurd hi (Nat.not_lt_zero i), fun l hl => ?_⟩, m6, m1, ?_, m7⟩, fun i hi => absurd hi (Nat.not_lt_zero i), fun i hi => absurd hi (Nat.not_lt_zero i), fun l k _ hk => absurd hk (by rw [mm0]; exact Nat.not_lt_zero k), fun l hl => ?_⟩, ?_, ?_, ?_, ?_, 0, by decide, ?_, ?_, fun j hj => absurd hj (Nat.not_lt_zero j)⟩
  · rw [hH0 0 1 (by decide) (by decide)]; exact nI_0.symm
  · rw [hR 0 0 (by decide)]; rfl
  · rw [hR 0 2 (by decide)]; rfl
  · rw [hR 0 3 (by decide)]; rfl
  · rw [hR 3 0 (by decide)]; rfl
  · rw [hR 2 l (by decide), if_neg (by decide), if_neg (by omega), if_pos ⟨rfl, hl⟩]
  · rw [hH9]; exact nI_0.symm
  · have z : ∀ j, j ≠ 0 → ω.2.1 (5 + l) j = 0 := fun j hj => hH0 (5 + l) j (by omega) (by omega)
    have r : ∀ j, ω.2.2.1 (5 + l) j = none := fun j => by rw [hR (5 + l) j (by omega), if_neg (by omega), if_neg (by omega), if_neg (by omega)]
    have e15 : ω.2.1 15 l = 0 := m4 15 l (by decide) (by decide)
    have e16 : ω.2.1 16 l = 0 := m4 16 l (by decide) (by decide)
    unfold CL
    rw [mm0]
    refine ⟨by decide, ?_, ?_, ?_, ?_, ?_, ?_, ?_, ?_, ?_, ?_, fun j _ _ => r j, ?_, fun k hk => ?_⟩
    · rw [m4 17 l (by decide) (by decide)]; exact nI_0.symm
    · rw [z 6 (by decide)]; exact nI_0.symm
    · rw [hH (5 + l) 0 (by omega), if_pos (by omega)]
      congr 1
      omega
    · rw [z 1 (by decide), e15]
    · rw [z 2 (by decide), e16]
    · have : sL ω l 0 = ω.2.1 15 l := rfl
      rw [this, z 3 (by decide), e15]
      decide
    · rw [z 4 (by decide), sM_0]
    · rw [z 5 (by decide), sN_0]
    · rw [r, if_pos rfl]
    · rw [r, if_pos rfl]
    · rw [e16]; decide
    · have : k = 0 := by omega
      subst this
      rw [sM_0, e16]
      decide
  · exact hH0 3 2 (by decide) (by decide)
  · rw [hH0 0 4 (by decide) (by decide), hH9]
  · rw [hH0 0 5 (by decide) (by decide), hH9]
  · rw [hL 0 6 (by decide), hL 9 12 (by decide)]
  · rw [hH0 3 1 (by decide) (by decide)]; exact nI_0.symm
  · rw [hH9]; exact nI_0.symm
