/-! what the answers come to, for vehicles that may be -/
theorem nI_n3 {x : Nat} (h : x < 2 ^ 31) : ¬ nI x = -3 := by
  intro e
  have := nI_toInt h
  rw [e] at this
  have h2 : (-3 : Int32).toInt = -3 := by decide
  omega
theorem cv_nat {σ : fd_S} {i : Nat} (h : CV σ i) : ∃ a b, 10 ≤ a ∧ a ≤ 200 ∧ b ≤ 40000 ∧ σ.2.1 11 i = nI a ∧ σ.2.1 12 i = nI b := by
  obtain ⟨_, _, ⟨h1, h2⟩, ⟨h3, h4⟩, _⟩ := h
  obtain ⟨a, ha, ea⟩ := nI_of2 (M := 200) (n := 200) (by decide) (i32_nlt.mpr (Int32.le_trans (by decide) h1)) h2
  obtain ⟨b, hb, eb⟩ := nI_of2 (M := 40000) (n := 40000) (by decide) (i32_nlt.mpr h3) h4
  refine ⟨a, b, ?_, ha, hb, ea, eb⟩
  have h1 : nI 10 ≤ σ.2.1 11 i := h1
  rw [ea, nI_leI (by omega) (by omega)] at h1
  exact h1
theorem q_mass {σ : fd_S} {i : Nat} (h : CV σ i) : ∃ M, M ≤ 60000 ∧ qv σ 1 0 i = nI M := by
  obtain ⟨a, b, ha, ha2, hb, ea, eb⟩ := cv_nat h
  have hk := h.1
  unfold qv
  rw [ea, eb]
  generalize kd σ i = k at hk
  match k, hk with
  | 0, _ => exact ⟨1200 + b, by omega, by rw [av_1_0]; exact nI_add 1200 b⟩
  | 1, _ => exact ⟨1200 + b + 800, by omega, by rw [av_1_1]; show nI 1200 + nI b + nI 800 = _; rw [nI_add, nI_add]⟩
  | 2, _ => exact ⟨1200 + b + 800, by omega, by rw [av_1_2]; show nI 1200 + nI b + nI 800 = _; rw [nI_add, nI_add]⟩
  | 3, _ => exact ⟨1200 + b + 800 + b / 4, by omega, by rw [av_1_3]; show nI 1200 + nI b + nI 800 + nI b / nI 4 = _; rw [nI_add, nI_add, pk_div (by omega) (by decide) (by decide), nI_add]⟩
  | 4, _ => exact ⟨1200 + b + 800 + b / 4, by omega, by rw [av_1_4]; show nI 1200 + nI b + nI 800 + nI b / nI 4 = _; rw [nI_add, nI_add, pk_div (by omega) (by decide) (by decide), nI_add]⟩
  | 5, _ => exact ⟨1200 + b, by omega, by rw [av_1_5]; exact nI_add 1200 b⟩
  | 6, _ => exact ⟨1200 + b + 9000, by omega, by rw [av_1_6]; show nI 1200 + nI b + nI 9000 = _; rw [nI_add, nI_add]⟩
theorem q_toll {σ : fd_S} {i : Nat} (h : CV σ i) : qv σ 4 0 i = -3 ↔ hvy (kd σ i) = false := by
  obtain ⟨a, b, ha, ha2, hb, ea, eb⟩ := cv_nat h
  have hk := h.1
  unfold qv
  rw [ea, eb]
  generalize kd σ i = k at hk
  match k, hk with
  | 0, _ => rw [av_4_0]; decide
  | 1, _ => rw [av_4_1]; decide
  | 5, _ => rw [av_4_5]; decide
  | 2, _ =>
    rw [av_4_2]
    have e : (nI 1200 + nI b + nI 800) / nI 200 = nI ((1200 + b + 800) / 200) := by rw [nI_add, nI_add, pk_div (by omega) (by decide) (by decide)]
    refine ⟨fun q => absurd (e.symm.trans q) (nI_n3 (by omega)), fun q => absurd q (by decide)⟩
  | 3, _ =>
    rw [av_4_3]
    have e : (nI 1200 + nI b + nI 800 + nI b / nI 4) / nI 100 + nI 300 = nI ((1200 + b + 800 + b / 4) / 100 + 300) := by rw [nI_add, nI_add, pk_div (by omega) (by decide) (by decide), nI_add, pk_div (by omega) (by decide) (by decide), nI_add]
    refine ⟨fun q => absurd (e.symm.trans q) (nI_n3 (by omega)), fun q => absurd q (by decide)⟩
  | 4, _ =>
    rw [av_4_4]
    have e : (nI 1200 + nI b + nI 800 + nI b / nI 4) / nI 100 + nI 300 = nI ((1200 + b + 800 + b / 4) / 100 + 300) := by rw [nI_add, nI_add, pk_div (by omega) (by decide) (by decide), nI_add, pk_div (by omega) (by decide) (by decide), nI_add]
    refine ⟨fun q => absurd (e.symm.trans q) (nI_n3 (by omega)), fun q => absurd q (by decide)⟩
  | 6, _ =>
    rw [av_4_6]
    have e : (nI 1200 + nI b + nI 9000) / nI 200 = nI ((1200 + b + 9000) / 200) := by rw [nI_add, nI_add, pk_div (by omega) (by decide) (by decide)]
    refine ⟨fun q => absurd (e.symm.trans q) (nI_n3 (by omega)), fun q => absurd q (by decide)⟩
theorem q_dang {σ : fd_S} {i : Nat} (h : CV σ i) : qv σ 5 0 i = -3 ↔ mrk (kd σ i) = false := by
  obtain ⟨a, b, ha, ha2, hb, ea, eb⟩ := cv_nat h
  have hk := h.1
  unfold qv
  rw [ea, eb]
  generalize kd σ i = k at hk
  match k, hk with
  | 0, _ => rw [av_5_0]; decide
  | 1, _ => rw [av_5_1]; decide
  | 2, _ => rw [av_5_2]; decide
  | 3, _ =>
    rw [av_5_3]
    have e : nI 1 + (nI 1 + (nI a + nI 10) / nI 50) / nI 4 = nI (1 + (1 + (a + 10) / 50) / 4) := by rw [nI_add, pk_div (by omega) (by decide) (by decide), nI_add, pk_div (by omega) (by decide) (by decide), nI_add]
    refine ⟨fun q => absurd (e.symm.trans q) (nI_n3 (by omega)), fun q => absurd q (by decide)⟩
  | 4, _ =>
    rw [av_5_4]
    have e : nI 1 + (nI 1 + (nI 2 * (nI a + nI 10)) / nI 50 + nI 6) / nI 4 = nI (1 + (1 + (2 * (a + 10)) / 50 + 6) / 4) := by rw [nI_add, pk_mul, pk_div (by omega) (by decide) (by decide), nI_add, nI_add, pk_div (by omega) (by decide) (by decide), nI_add]
    refine ⟨fun q => absurd (e.symm.trans q) (nI_n3 (by omega)), fun q => absurd q (by decide)⟩
  | 5, _ =>
    rw [av_5_5]
    have e : nI 1 + (nI 1 + nI a / nI 50) / nI 4 = nI (1 + (1 + a / 50) / 4) := by rw [pk_div (by omega) (by decide) (by decide), nI_add, pk_div (by omega) (by decide) (by decide), nI_add]
    refine ⟨fun q => absurd (e.symm.trans q) (nI_n3 (by omega)), fun q => absurd q (by decide)⟩
  | 6, _ =>
    rw [av_5_6]
    have e : nI 2 + (nI a + nI 5) / nI 100 = nI (2 + (a + 5) / 100) := by rw [nI_add, pk_div (by omega) (by decide) (by decide), nI_add]
    refine ⟨fun q => absurd (e.symm.trans q) (nI_n3 (by omega)), fun q => absurd q (by decide)⟩
/-! one vehicle more in lane l -/
def push (σ : fd_S) (l i : Nat) : fd_S := fd_si (fd_si (fd_si (ap_s σ (5 + l) (20 + i)) 18 (60 * l + mm σ l) (nI i)) 17 l (nI (mm σ l + 1))) 13 i 1
set_option maxHeartbeats 1000000 in
theorem Core_push {σ : fd_S} {n l i0 : Nat} (h : Core σ n) (hl : l < 4) (hi0 : i0 < n) (hw : σ.2.1 13 i0 ≠ 1) (h60 : mm σ l < 60) (hr : qv σ 1 0 i0 ≤ σ.2.1 16 l - sM σ l (mm σ l)) : Core (push σ l i0) n := by
  obtain ⟨c1, c2, c3, c4, c5⟩ := id h
  obtain ⟨a1, a2, a3, a4, a5, a6, a7, a8, a9, a10, a11, a12, a13, a14⟩ := c5 l hl
  have hN := h.N
  have n60 := h.n60
  have hns : ∀ l' k, l' < 4 → k < mm σ l' → sv σ l' k ≠ i0 := fun l' k b1 b2 e => hw (by rw [← e]; exact (c4 l' k b1 b2).2.2.1)
  unfold push
  generalize em : mm σ l = m at *
  have f1 : ∀ a j, a ≠ 13 → a ≠ 17 → a ≠ 18 → a ≠ 20 + i0 → a ≠ 5 + l → (fd_si (fd_si (fd_si (ap_s σ (5 + l) (20 + i0)) 18 (60 * l + m) (nI i0)) 17 l (nI (m + 1))) 13 i0 1).2.1 a j = σ.2.1 a j := by
    intro a j b1 b2 b5 b3 b4
    rw [si_ne b1, si_ne b2, si_ne b5]
    show (if a = 20 + i0 then _ else if a = 5 + l then _ else σ.2.1 a j) = _
    rw [if_neg b3, if_neg b4]
  have f13 : (fd_si (fd_si (fd_si (ap_s σ (5 + l) (20 + i0)) 18 (60 * l + m) (nI i0)) 17 l (nI (m + 1))) 13 i0 1).2.1 13 i0 = 1 := si_eq
  have f13' : ∀ j, j ≠ i0 → (fd_si (fd_si (fd_si (ap_s σ (5 + l) (20 + i0)) 18 (60 * l + m) (nI i0)) 17 l (nI (m + 1))) 13 i0 1).2.1 13 j = σ.2.1 13 j := by
    intro j hj
    rw [si_ne2 hj, si_ne (by decide), si_ne (by decide)]
    show (if 13 = 20 + i0 then _ else if 13 = 5 + l then _ else σ.2.1 13 j) = _
    rw [if_neg (by omega), if_neg (by omega)]
  have f17 : (fd_si (fd_si (fd_si (ap_s σ (5 + l) (20 + i0)) 18 (60 * l + m) (nI i0)) 17 l (nI (m + 1))) 13 i0 1).2.1 17 l = nI (m + 1) := by
    rw [si_ne (by decide)]; exact si_eq
  have f17' : ∀ j, j ≠ l → (fd_si (fd_si (fd_si (ap_s σ (5 + l) (20 + i0)) 18 (60 * l + m) (nI i0)) 17 l (nI (m + 1))) 13 i0 1).2.1 17 j = σ.2.1 17 j := by
    intro j hj
    rw [si_ne (by decide), si_ne2 hj, si_ne (by decide)]
    show (if 17 = 20 + i0 then _ else if 17 = 5 + l then _ else σ.2.1 17 j) = _
    rw [if_neg (by omega), if_neg (by omega)]
  have f18 : (fd_si (fd_si (fd_si (ap_s σ (5 + l) (20 + i0)) 18 (60 * l + m) (nI i0)) 17 l (nI (m + 1))) 13 i0 1).2.1 18 (60 * l + m) = nI i0 := by
    rw [si_ne (by decide), si_ne (by decide)]; exact si_eq
  have f18' : ∀ j, j ≠ 60 * l + m → (fd_si (fd_si (fd_si (ap_s σ (5 + l) (20 + i0)) 18 (60 * l + m) (nI i0)) 17 l (nI (m + 1))) 13 i0 1).2.1 18 j = σ.2.1 18 j := by
    intro j hj
    rw [si_ne (by decide), si_ne (by decide), si_ne2 hj]
    show (if 18 = 20 + i0 then _ else if 18 = 5 + l then _ else σ.2.1 18 j) = _
    rw [if_neg (by omega), if_neg (by omega)]
  have fv : ∀ j, (fd_si (fd_si (fd_si (ap_s σ (5 + l) (20 + i0)) 18 (60 * l + m) (nI i0)) 17 l (nI (m + 1))) 13 i0 1).2.1 (20 + i0) j = if j = 9 then 1 else if j = 10 then σ.2.1 (5 + l) 0 else if j = 11 then σ.2.1 (5 + l) 6 else σ.2.1 (20 + i0) j := by
    intro j
    rw [si_ne (by omega), si_ne (by omega), si_ne (by omega)]
    show (if 20 + i0 = 20 + i0 then _ else _) = _
    rw [if_pos rfl]
  have fl : ∀ j, (fd_si (fd_si (fd_si (ap_s σ (5 + l) (20 + i0)) 18 (60 * l + m) (nI i0)) 17 l (nI (m + 1))) 13 i0 1).2.1 (5 + l) j = if j = 6 then σ.2.1 (5 + l) 6 + 1 else if j = 3 then σ.2.1 (5 + l) 3 + (σ.2.1 (20 + i0) 4 + 5) else if j = 4 then σ.2.1 (5 + l) 4 + σ.2.1 (20 + i0) 5 else if j = 5 then σ.2.1 (5 + l) 5 + σ.2.1 (20 + i0) 6 else σ.2.1 (5 + l) j := by
    intro j
    rw [si_ne (by omega), si_ne (by omega), si_ne (by omega)]
    show (if 5 + l = 20 + i0 then _ else if 5 + l = 5 + l then _ else _) = _
    rw [if_neg (by omega), if_pos rfl]
  have g : ∀ i j, (fd_si (fd_si (fd_si (ap_s σ (5 + l) (20 + i0)) 18 (60 * l + m) (nI i0)) 17 l (nI (m + 1))) 13 i0 1).2.2.1 i j = if i = 20 + i0 then (if j = 12 then σ.2.2.1 (5 + l) 8 else σ.2.2.1 (20 + i0) j) else if i = 5 + l then (if j = 8 then some (20 + i0) else if j = 7 then (if σ.2.2.1 (5 + l) 7 = none then some (20 + i0) else σ.2.2.1 (5 + l) 7) else σ.2.2.1 (5 + l) j) else σ.2.2.1 i j := fun _ _ => rfl
  have gN : (fd_si (fd_si (fd_si (ap_s σ (5 + l) (20 + i0)) 18 (60 * l + m) (nI i0)) 17 l (nI (m + 1))) 13 i0 1).1 = σ.1 := rfl
  generalize fd_si (fd_si (fd_si (ap_s σ (5 + l) (20 + i0)) 18 (60 * l + m) (nI i0)) 17 l (nI (m + 1))) 13 i0 1 = ρ at *
  have m0 : mm ρ l = m + 1 := by unfold mm; rw [f17]; exact nI_clamp (by omega)
  have m1 : ∀ l', l' ≠ l → mm ρ l' = mm σ l' := fun l' q => mm_c (f17' l' q)
  have ix : ∀ l' k, l' < 4 → k < mm σ l' → 60 * l' + k ≠ 60 * l + m := by
    intro l' k b1 b2 e
    have := (c5 l' b1).1
    have e1 : l' = l := by omega
    subst e1
    omega
  have hsv : ∀ l' k, l' < 4 → k < mm σ l' → sv ρ l' k = sv σ l' k := fun l' k b1 b2 => sv_c (f18' _ (ix l' k b1 b2))
  have hsm : sv ρ l m = i0 := by unfold sv; rw [f18]; exact nI_clamp (by omega)
  have hqv : ∀ w s i, qv ρ w s i = qv σ w s i := fun w s i => qv_c (f1 10 _ (by decide) (by decide) (by decide) (by omega) (by omega)) (f1 11 _ (by decide) (by decide) (by decide) (by omega) (by omega)) (f1 12 _ (by decide) (by decide) (by decide) (by omega) (by omega)) w s
  have hW : ∀ l', l' < 4 → W3 σ ρ l' (mm σ l') := fun l' b j hj => ⟨hsv l' j b hj, fun w => hqv w 0 _⟩
  have hWl : W3 σ ρ l m := by have := hW l hl; rw [em] at this; exact this
  have hv0 := c2 i0 hi0
  obtain ⟨v1, v2, v3, v4, v5, v6, v7, v8, v9, v10, v11, v12, v13⟩ := id hv0
  refine ⟨CB_d gN (fun i j hi => ?_) (fun i j x hx => ?_) (f1 0 1 (by decide) (by decide) (by decide) (by omega) (by omega)) (f1 9 0 (by decide) (by decide) (by decide) (by omega) (by omega)) c1, fun i hi => ?_, fun i hi => ?_, fun l' k hl' hk => ?_, fun l' hl' => ?_⟩
  · rw [g, if_neg (by omega), if_neg (by omega)]
  · rw [g] at hx
    rw [gN]
    have hclo := c1.2.2.2.2
    by_cases q1 : i = 20 + i0
    · rw [if_pos q1] at hx
      by_cases q2 : j = 12
      · rw [if_pos q2] at hx; exact hclo _ _ _ hx
      · rw [if_neg q2] at hx; exact hclo _ _ _ hx
    · rw [if_neg q1] at hx
      by_cases q2 : i = 5 + l
      · rw [if_pos q2] at hx
        by_cases q3 : j = 8
        · rw [if_pos q3] at hx; cases hx; omega
        · rw [if_neg q3] at hx
          by_cases q4 : j = 7
          · rw [if_pos q4] at hx
            by_cases q5 : σ.2.2.1 (5 + l) 7 = none
            · rw [if_pos q5] at hx; cases hx; omega
            · rw [if_neg q5] at hx; exact hclo _ _ _ hx
          · rw [if_neg q4] at hx; exact hclo _ _ _ hx
      · rw [if_neg q2] at hx; exact hclo _ _ _ hx
  · refine CV_c (f1 10 _ (by decide) (by decide) (by decide) (by omega) (by omega)) (f1 11 _ (by decide) (by decide) (by decide) (by omega) (by omega)) (f1 12 _ (by decide) (by decide) (by decide) (by omega) (by omega)) (fun j hj => ?_) (c2 i hi)
    by_cases q : i = i0
    · subst q
      rw [fv, if_neg (by omega), if_neg (by omega), if_neg (by omega)]
    · exact f1 (20 + i) j (by omega) (by omega) (by omega) (by omega) (by omega)
  · by_cases q : i = i0
    · subst q
      refine ⟨?_, ?_, fun _ => ⟨l, m, hl, by omega, hsm⟩, fun q => absurd f13 q⟩
      · rw [fv, f13, if_pos rfl]
      · rw [fv, if_neg (by decide), if_neg (by decide), if_neg (by decide), f1 14 _ (by decide) (by decide) (by decide) (by omega) (by omega)]
        exact (c3 i hi).2.1
    · have fi : ∀ j, ρ.2.1 (20 + i) j = σ.2.1 (20 + i) j := fun j => f1 (20 + i) j (by omega) (by omega) (by omega) (by omega) (by omega)
      refine CD_c (fi 9) (fi 10) (fi 11) (by rw [fi, f1 14 _ (by decide) (by decide) (by decide) (by omega) (by omega)]; exact (c3 i hi).2.1) (f13' i q) (fun l' k b1 b2 b3 => ?_) (c3 i hi)
      refine ⟨?_, by rw [hsv l' k b1 b2]; exact b3⟩
      by_cases q : l' = l
      · subst q
        omega
      · rw [m1 l' q]; exact b2
  · by_cases hkm : l' = l ∧ k = m
    · obtain ⟨e1, e2⟩ := hkm
      subst e1
      subst e2
      refine ⟨by rw [hsm]; exact f18, by rw [hsm]; exact hi0, by rw [hsm]; exact f13, ?_, ?_, ?_⟩
      · rw [hsm, fv, if_neg (by decide), if_pos rfl]; exact a4
      · rw [hsm, fv, if_neg (by decide), if_neg (by decide), if_pos rfl]; exact a3
      · rw [hsm, g, if_pos rfl, if_pos rfl, a10]
        by_cases q : k = 0
        · rw [if_pos q, if_pos q]
        · rw [if_neg q, if_neg q, hsv l' (k - 1) hl (by omega)]
    · have hk' : k < mm σ l' := by
        by_cases q : l' = l
        · subst q
          have : k ≠ m := fun e => hkm ⟨rfl, e⟩
          omega
        · rw [m1 l' q] at hk; exact hk
      have hn0 := hns l' k hl' hk'
      refine CS_c (fun j hj => f18' _ (ix l' j hl' (by omega))) (f13' _ hn0) (f1 _ 10 (by omega) (by omega) (by omega) (by omega) (by omega)) (f1 _ 11 (by omega) (by omega) (by omega) (by omega) (by omega)) ?_ (Nat.le_refl n) (c4 l' k hl' hk')
      rw [g, if_neg (by omega), if_neg (by omega)]
  · by_cases q : l' = l
    · subst q
      refine ⟨by omega, by rw [m0]; exact f17, ?_, ?_, ?_, ?_, ?_, ?_, ?_, ?_, ?_, ?_, ?_, ?_⟩
      · rw [m0, fl, if_pos rfl, a3]; exact nI_1 m
      · rw [fl, if_neg (by decide), if_neg (by decide), if_neg (by decide), if_neg (by decide)]; exact a4
      · rw [fl, if_neg (by decide), if_neg (by decide), if_neg (by decide), if_neg (by decide), f1 15 _ (by decide) (by decide) (by decide) (by omega) (by omega)]; exact a5
      · rw [fl, if_neg (by decide), if_neg (by decide), if_neg (by decide), if_neg (by decide), f1 16 _ (by decide) (by decide) (by decide) (by omega) (by omega)]; exact a6
      · have e7 : sL ρ l' (m + 1) = sL σ l' m - (qv σ 0 0 i0 + 5) := by simp only [sL]; rw [hsm, hqv, sL_c (f1 15 _ (by decide) (by decide) (by decide) (by omega) (by omega)) hWl]
        rw [m0, fl, if_neg (by decide), if_pos rfl, f1 15 _ (by decide) (by decide) (by decide) (by omega) (by omega), v9, e7, ← a7]
        grind
      · have e8 : sM ρ l' (m + 1) = sM σ l' m + qv σ 1 0 i0 := by simp only [sM]; rw [hsm, hqv, sM_c hWl]
        rw [m0, fl, if_neg (by decide), if_neg (by decide), if_pos rfl, v10, a8, e8]
      · have e9 : sN ρ l' (m + 1) = sN σ l' m + qv σ 2 0 i0 := by simp only [sN]; rw [hsm, hqv, sN_c hWl]
        rw [m0, fl, if_neg (by decide), if_neg (by decide), if_neg (by decide), if_pos rfl, v11, a9, e9]
      · rw [m0, g, if_neg (by omega), if_pos rfl, if_pos rfl, if_neg (by omega)]
        show _ = some (20 + sv ρ l' m)
        rw [hsm]
      · rw [m0, g, if_neg (by omega), if_pos rfl, if_neg (by decide), if_pos rfl, a11, if_neg (Nat.succ_ne_zero m)]
        by_cases q : m = 0
        · subst q
          rw [if_pos rfl, if_pos rfl, hsm]
        · rw [if_neg q, if_neg (by simp), hsv l' 0 hl (by omega)]
      · intro j h7 h8
        rw [g, if_neg (by omega), if_pos rfl, if_neg h8, if_neg h7]
        exact a12 j h7 h8
      · rw [f1 16 _ (by decide) (by decide) (by decide) (by omega) (by omega)]; exact a13
      · intro k hk
        rw [m0] at hk
        rw [f1 16 _ (by decide) (by decide) (by decide) (by omega) (by omega)]
        by_cases q : k = m + 1
        · subst q
          have e8 : sM ρ l' (m + 1) = sM σ l' m + qv σ 1 0 i0 := by simp only [sM]; rw [hsm, hqv, sM_c hWl]
          rw [e8]
          obtain ⟨M, hM, eM⟩ := q_mass hv0
          obtain ⟨b, hb, eb⟩ := nI_of2 (M := 200000) (n := 200000) (by decide) (i32_nlt.mpr a13.1) a13.2
          have hs := a14 m (Nat.le_refl m)
          obtain ⟨s, hs2, es⟩ := nI_of (i32_nlt.mpr hs.1)
          rw [eb, es] at hs hr
          rw [eM] at hr
          rw [eb, es, eM]
          have hsb : s ≤ b := (nI_leI hs2 (by omega)).mp hs.2
          rw [pk_sub hsb, nI_leI (by omega) (by omega)] at hr
          rw [nI_add]
          exact ⟨nI_pos' (by omega), nI_le (by omega) (by omega)⟩
        · rw [sM_c (hWl.le (by omega))]
          exact a14 k (by omega)
    · exact CL_c (f1 15 _ (by decide) (by decide) (by decide) (by omega) (by omega)) (f1 16 _ (by decide) (by decide) (by decide) (by omega) (by omega)) (f17' l' q) (hW l' hl') (fun j => f1 (5 + l') j (by omega) (by omega) (by omega) (by omega) (by omega)) (fun j => by rw [g, if_neg (by omega), if_neg (by omega)]) (c5 l' hl')
