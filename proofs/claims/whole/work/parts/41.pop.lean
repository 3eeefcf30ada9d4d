/-! one vehicle less in lane l: it becomes z -/
def pop (σ : fd_S) (l : Nat) (z : Int32) : fd_S := fd_si (fd_si (rl_s σ (5 + l) (20 + sv σ l (mm σ l - 1)) z) 17 l (nI (mm σ l - 1))) 13 (sv σ l (mm σ l - 1)) z
theorem CB_d {σ τ : fd_S} {n : Nat} (h1 : τ.1 = σ.1) (h2 : ∀ i j, i < 4 ∨ i = 9 → τ.2.2.1 i j = σ.2.2.1 i j) (hc : fd_clo τ) (h3 : τ.2.1 0 1 = σ.2.1 0 1) (h4 : τ.2.1 9 0 = σ.2.1 9 0) (h : CB σ n) : CB τ n := by
  obtain ⟨b, m, a, c, d⟩ := h
  unfold CB fd_B Mb at *
  simp only [h1, h2 0 _ (Or.inl (by decide)), h2 1 _ (Or.inl (by decide)), h2 2 _ (Or.inl (by decide)), h2 3 _ (Or.inl (by decide)), h2 9 _ (Or.inr rfl), h3, h4]
  exact ⟨b, m, a, c, hc⟩
set_option maxHeartbeats 1000000 in
theorem Core_pop {σ : fd_S} {n l : Nat} {z : Int32} (h : Core σ n) (hl : l < 4) (hm : 0 < mm σ l) (hz : z ≠ 1) : Core (pop σ l z) n := by
  obtain ⟨m, em⟩ : ∃ m, mm σ l = m + 1 := ⟨mm σ l - 1, by omega⟩
  have inj := fun {l k l' k' : Nat} => Core.inj h (l := l) (k := k) (l' := l') (k' := k')
  obtain ⟨c1, c2, c3, c4, c5⟩ := id h
  have ST := c4 l m hl (by omega)
  obtain ⟨a1, a2, a3, a4, a5, a6, a7, a8, a9, a10, a11, a12, a13, a14⟩ := c5 l hl
  rw [em] at a1 a2 a3 a7 a8 a9 a10 a11 a14
  obtain ⟨s1, s2, s3, s4, s5, s6⟩ := ST
  have hN := h.N
  have pp : pop σ l z = fd_si (fd_si (rl_s σ (5 + l) (20 + sv σ l m) z) 17 l (nI m)) 13 (sv σ l m) z := by unfold pop; rw [em]; rfl
  rw [pp]
  generalize ei : sv σ l m = i0 at *
  have f1 : ∀ a j, a ≠ 13 → a ≠ 17 → a ≠ 20 + i0 → a ≠ 5 + l → (fd_si (fd_si (rl_s σ (5 + l) (20 + i0) z) 17 l (nI m)) 13 i0 z).2.1 a j = σ.2.1 a j := by
    intro a j b1 b2 b3 b4
    rw [si_ne b1, si_ne b2]
    show (if a = 20 + i0 then _ else if a = 5 + l then _ else σ.2.1 a j) = _
    rw [if_neg b3, if_neg b4]
  have f13 : (fd_si (fd_si (rl_s σ (5 + l) (20 + i0) z) 17 l (nI m)) 13 i0 z).2.1 13 i0 = z := si_eq
  have f13' : ∀ j, j ≠ i0 → (fd_si (fd_si (rl_s σ (5 + l) (20 + i0) z) 17 l (nI m)) 13 i0 z).2.1 13 j = σ.2.1 13 j := by
    intro j hj
    rw [si_ne2 hj, si_ne (by decide)]
    show (if 13 = 20 + i0 then _ else if 13 = 5 + l then _ else σ.2.1 13 j) = _
    rw [if_neg (by omega), if_neg (by omega)]
  have f17 : (fd_si (fd_si (rl_s σ (5 + l) (20 + i0) z) 17 l (nI m)) 13 i0 z).2.1 17 l = nI m := by
    rw [si_ne (by decide)]; exact si_eq
  have f17' : ∀ j, j ≠ l → (fd_si (fd_si (rl_s σ (5 + l) (20 + i0) z) 17 l (nI m)) 13 i0 z).2.1 17 j = σ.2.1 17 j := by
    intro j hj
    rw [si_ne (by decide), si_ne2 hj]
    show (if 17 = 20 + i0 then _ else if 17 = 5 + l then _ else σ.2.1 17 j) = _
    rw [if_neg (by omega), if_neg (by omega)]
  have fv : ∀ j, (fd_si (fd_si (rl_s σ (5 + l) (20 + i0) z) 17 l (nI m)) 13 i0 z).2.1 (20 + i0) j = if j = 9 then z else if j = 10 then -1 else if j = 11 then -1 else σ.2.1 (20 + i0) j := by
    intro j
    rw [si_ne (by omega), si_ne (by omega)]
    show (if 20 + i0 = 20 + i0 then _ else _) = _
    rw [if_pos rfl]
  have fl : ∀ j, (fd_si (fd_si (rl_s σ (5 + l) (20 + i0) z) 17 l (nI m)) 13 i0 z).2.1 (5 + l) j = if j = 6 then σ.2.1 (5 + l) 6 - 1 else if j = 3 then σ.2.1 (5 + l) 3 - (σ.2.1 (20 + i0) 4 + 5) else if j = 4 then σ.2.1 (5 + l) 4 - σ.2.1 (20 + i0) 5 else if j = 5 then σ.2.1 (5 + l) 5 - σ.2.1 (20 + i0) 6 else σ.2.1 (5 + l) j := by
    intro j
    rw [si_ne (by omega), si_ne (by omega)]
    show (if 5 + l = 20 + i0 then _ else if 5 + l = 5 + l then _ else _) = _
    rw [if_neg (by omega), if_pos rfl]
  have g : ∀ i j, (fd_si (fd_si (rl_s σ (5 + l) (20 + i0) z) 17 l (nI m)) 13 i0 z).2.2.1 i j = if i = 20 + i0 then (if j = 12 then none else σ.2.2.1 (20 + i0) j) else if i = 5 + l then (if j = 8 then σ.2.2.1 (20 + i0) 12 else if j = 7 then (if σ.2.2.1 (20 + i0) 12 = none then none else σ.2.2.1 (5 + l) 7) else σ.2.2.1 (5 + l) j) else σ.2.2.1 i j := fun _ _ => rfl
  have gN : (fd_si (fd_si (rl_s σ (5 + l) (20 + i0) z) 17 l (nI m)) 13 i0 z).1 = σ.1 := rfl
  generalize fd_si (fd_si (rl_s σ (5 + l) (20 + i0) z) 17 l (nI m)) 13 i0 z = ρ at *
  have m0 : mm ρ l = m := by unfold mm; rw [f17]; exact nI_clamp (by omega)
  have m1 : ∀ l', l' ≠ l → mm ρ l' = mm σ l' := fun l' q => mm_c (f17' l' q)
  have hsv : ∀ l' k, sv ρ l' k = sv σ l' k := fun l' k => sv_c (f1 18 _ (by decide) (by decide) (by omega) (by omega))
  have hqv : ∀ w s i, qv ρ w s i = qv σ w s i := fun w s i => qv_c (f1 10 _ (by decide) (by decide) (by omega) (by omega)) (f1 11 _ (by decide) (by decide) (by omega) (by omega)) (f1 12 _ (by decide) (by decide) (by omega) (by omega)) w s
  have hW : ∀ l' k, W3 σ ρ l' k := fun l' k j _ => ⟨hsv l' j, fun w => hqv w 0 _⟩
  have hv0 := c2 i0 s2
  obtain ⟨v1, v2, v3, v4, v5, v6, v7, v8, v9, v10, v11, v12, v13⟩ := id hv0
  refine ⟨CB_d gN (fun i j hi => ?_) (fun i j x hx => ?_) (f1 0 1 (by decide) (by decide) (by omega) (by omega)) (f1 9 0 (by decide) (by decide) (by omega) (by omega)) c1, fun i hi => ?_, fun i hi => ?_, fun l' k hl' hk => ?_, fun l' hl' => ?_⟩
  · rw [g, if_neg (by omega), if_neg (by omega)]
  · rw [g] at hx
    rw [gN]
    have hclo := c1.2.2.2.2
    by_cases q1 : i = 20 + i0
    · rw [if_pos q1] at hx
      by_cases q2 : j = 12
      · rw [if_pos q2] at hx; cases hx
      · rw [if_neg q2] at hx; exact hclo _ _ _ hx
    · rw [if_neg q1] at hx
      by_cases q2 : i = 5 + l
      · rw [if_pos q2] at hx
        by_cases q3 : j = 8
        · rw [if_pos q3] at hx; exact hclo _ _ _ hx
        · rw [if_neg q3] at hx
          by_cases q4 : j = 7
          · rw [if_pos q4] at hx
            by_cases q5 : σ.2.2.1 (20 + i0) 12 = none
            · rw [if_pos q5] at hx; cases hx
            · rw [if_neg q5] at hx; exact hclo _ _ _ hx
          · rw [if_neg q4] at hx; exact hclo _ _ _ hx
      · rw [if_neg q2] at hx; exact hclo _ _ _ hx
  · by_cases hi0 : i = i0
    · subst hi0
      refine CV_c (f1 10 _ (by decide) (by decide) (by omega) (by omega)) (f1 11 _ (by decide) (by decide) (by omega) (by omega)) (f1 12 _ (by decide) (by decide) (by omega) (by omega)) (fun j hj => ?_) (c2 i hi)
      rw [fv, if_neg (by omega), if_neg (by omega), if_neg (by omega)]
    · exact CV_c (f1 10 _ (by decide) (by decide) (by omega) (by omega)) (f1 11 _ (by decide) (by decide) (by omega) (by omega)) (f1 12 _ (by decide) (by decide) (by omega) (by omega)) (fun j hj => f1 (20 + i) j (by omega) (by omega) (by omega) (by omega)) (c2 i hi)
  · by_cases hi0 : i = i0
    · subst hi0
      refine ⟨?_, ?_, fun q => absurd (f13.symm.trans q) hz, fun _ => ⟨?_, ?_⟩⟩
      · rw [fv, f13, if_pos rfl]
      · rw [fv, if_neg (by decide), if_neg (by decide), if_neg (by decide), f1 14 _ (by decide) (by decide) (by omega) (by omega)]
        exact (c3 i hi).2.1
      · rw [fv, if_neg (by decide), if_pos rfl]
      · rw [fv, if_neg (by decide), if_neg (by decide), if_pos rfl]
    · have fi : ∀ j, ρ.2.1 (20 + i) j = σ.2.1 (20 + i) j := fun j => f1 (20 + i) j (by omega) (by omega) (by omega) (by omega)
      refine CD_c (fi 9) (fi 10) (fi 11) (by rw [fi, f1 14 _ (by decide) (by decide) (by omega) (by omega)]; exact (c3 i hi).2.1) (f13' i hi0) (fun l' k b1 b2 b3 => ?_) (c3 i hi)
      refine ⟨?_, by rw [hsv]; exact b3⟩
      by_cases q : l' = l
      · subst q
        rw [m0]
        have : k ≠ m := fun e => by subst e; exact hi0 (b3.symm.trans ei)
        omega
      · rw [m1 l' q]; exact b2
  · have hk' : k < mm σ l' ∧ sv σ l' k ≠ i0 := by
      by_cases q : l' = l
      · subst q
        rw [m0] at hk
        refine ⟨by omega, fun e => ?_⟩
        have := inj hl (k := k) (by omega) hl (k' := m) (by omega) (e.trans ei.symm)
        omega
      · rw [m1 l' q] at hk
        refine ⟨hk, fun e => ?_⟩
        exact q (inj hl' hk hl (k' := m) (by omega) (e.trans ei.symm)).1
    refine CS_c (fun j _ => f1 18 _ (by decide) (by decide) (by omega) (by omega)) (f13' _ hk'.2) (f1 _ 10 (by omega) (by omega) (by omega) (by omega)) (f1 _ 11 (by omega) (by omega) (by omega) (by omega)) ?_ (Nat.le_refl n) (c4 l' k hl' hk'.1)
    rw [g, if_neg (by omega), if_neg (by omega)]
  · by_cases q : l' = l
    · subst q
      have r12 : σ.2.2.1 (20 + i0) 12 = if m = 0 then none else some (20 + sv σ l' (m - 1)) := s6
      refine ⟨by omega, by rw [m0]; exact f17, ?_, ?_, ?_, ?_, ?_, ?_, ?_, ?_, ?_, ?_, ?_, ?_⟩
      · rw [m0, fl, if_pos rfl, a3]; exact nI_pred m
      · rw [fl, if_neg (by decide), if_neg (by decide), if_neg (by decide), if_neg (by decide)]; exact a4
      · rw [fl, if_neg (by decide), if_neg (by decide), if_neg (by decide), if_neg (by decide), f1 15 _ (by decide) (by decide) (by omega) (by omega)]; exact a5
      · rw [fl, if_neg (by decide), if_neg (by decide), if_neg (by decide), if_neg (by decide), f1 16 _ (by decide) (by decide) (by omega) (by omega)]; exact a6
      · have e7 : sL σ l' (m + 1) = sL σ l' m - (qv σ 0 0 i0 + 5) := by simp only [sL]; rw [ei]
        rw [m0, fl, if_neg (by decide), if_pos rfl, sL_c (f1 15 _ (by decide) (by decide) (by omega) (by omega)) (hW l' m), f1 15 _ (by decide) (by decide) (by omega) (by omega), v9]
        rw [e7] at a7
        grind
      · have e8 : sM σ l' (m + 1) = sM σ l' m + qv σ 1 0 i0 := by simp only [sM]; rw [ei]
        rw [m0, fl, if_neg (by decide), if_neg (by decide), if_pos rfl, sM_c (hW l' m), v10, a8, e8]
        grind
      · have e9 : sN σ l' (m + 1) = sN σ l' m + qv σ 2 0 i0 := by simp only [sN]; rw [ei]
        rw [m0, fl, if_neg (by decide), if_neg (by decide), if_neg (by decide), if_pos rfl, sN_c (hW l' m), v11, a9, e9]
        grind
      · rw [m0, g, if_neg (by omega), if_pos rfl, if_pos rfl, r12, hsv]
      · rw [m0, g, if_neg (by omega), if_pos rfl, if_neg (by decide), if_pos rfl, r12, hsv, a11]
        by_cases q : m = 0
        · simp [q]
        · simp [q]
      · intro j h7 h8
        rw [g, if_neg (by omega), if_pos rfl, if_neg h8, if_neg h7]
        exact a12 j h7 h8
      · rw [f1 16 _ (by decide) (by decide) (by omega) (by omega)]; exact a13
      · intro k hk
        rw [m0] at hk
        rw [sM_c (hW l' k), f1 16 _ (by decide) (by decide) (by omega) (by omega)]
        exact a14 k (by omega)
    · exact CL_c (f1 15 _ (by decide) (by decide) (by omega) (by omega)) (f1 16 _ (by decide) (by decide) (by omega) (by omega)) (f17' l' q) (hW l' _) (fun j => f1 (5 + l') j (by omega) (by omega) (by omega) (by omega)) (fun j => by rw [g, if_neg (by omega), if_neg (by omega)]) (c5 l' hl')
