theorem on_deck {σ : fd_S} {n : Nat} (h : Core σ n) : cn σ 1 n = 0 ↔ nI (mm σ 0) + nI (mm σ 1) + nI (mm σ 2) + nI (mm σ 3) = 0 := by
  have hn := h.n60
  have l0 := (h.2.2.2.2 0 (by decide)).1
  have l1 := (h.2.2.2.2 1 (by decide)).1
  have l2 := (h.2.2.2.2 2 (by decide)).1
  have l3 := (h.2.2.2.2 3 (by decide)).1
  obtain ⟨c, h1, h2, h3⟩ := cn_N (σ := σ) (v := 1) n hn
  rw [h2, nI_add, nI_add, nI_add]
  have e1 : nI c = 0 ↔ c = 0 := nI_eq (b := 0) (by omega) (by decide)
  have e2 : nI (mm σ 0 + mm σ 1 + mm σ 2 + mm σ 3) = 0 ↔ mm σ 0 + mm σ 1 + mm σ 2 + mm σ 3 = 0 := nI_eq (b := 0) (by omega) (by decide)
  rw [e1, e2, h3]
  constructor
  · intro q
    have z : ∀ l, l < 4 → mm σ l = 0 := by
      intro l hl
      by_cases e : mm σ l = 0
      · exact e
      · have cs := h.2.2.2.1 l 0 hl (by omega)
        exact absurd ((h.2.2.1 _ cs.2.1).1.trans cs.2.2.1) (q _ cs.2.1)
    rw [z 0 (by decide), z 1 (by decide), z 2 (by decide), z 3 (by decide)]
  · intro q i hi e
    have cd := h.2.2.1 i hi
    obtain ⟨l, k, hl, hk, _⟩ := cd.2.2.1 (cd.1.symm.trans e)
    have : mm σ l = 0 := by
      match l, hl with
      | 0, _ => omega
      | 1, _ => omega
      | 2, _ => omega
      | 3, _ => omega
    omega
set_option maxHeartbeats 1000000 in
theorem p_sail : Pair 31 71 [] := by
  intro σ n h post k
  have h20 := h.h20
  have hn := h.n60
  obtain ⟨s1, s2, s3, s4, t, b1, b2, b3, b4⟩ := h.2
  have hS : ∀ l, l < 4 → Vs σ l (mm σ l) := fun l hl => h.1.Vs hl
  have hla := h.B.2.2.2.2.2.2.2.2.2
  have hO := on_deck h.1
  have PQ := Pq_ok h.1
  have bd : ∀ l, l < 4 → 0 ≤ sM σ l (mm σ l) ∧ sM σ l (mm σ l) ≤ 200000 := fun l hl => by
    have cl := h.1.2.2.2.2 l hl
    have b := cl.2.2.2.2.2.2.2.2.2.2.2.2.2 (mm σ l) (Nat.le_refl _)
    exact ⟨b.1, Int32.le_trans b.2 cl.2.2.2.2.2.2.2.2.2.2.2.2.1.2⟩
  have c4 : ∀ l, l < 4 → σ.2.1 (5 + l) 4 = sM σ l (mm σ l) := fun l hl => (h.1.2.2.2.2 l hl).2.2.2.2.2.2.2.1
  have c5 : ∀ l, l < 4 → σ.2.1 (5 + l) 5 = sN σ l (mm σ l) := fun l hl => (h.1.2.2.2.2 l hl).2.2.2.2.2.2.2.2.1
  have hA := apart_c (bd 0 (by decide)) (bd 1 (by decide)) (bd 2 (by decide)) (bd 3 (by decide))
  have d0 : σ.2.1 5 4 = sM σ 0 (mm σ 0) := c4 0 (by decide)
  have d1 : σ.2.1 6 4 = sM σ 1 (mm σ 1) := c4 1 (by decide)
  have d2 : σ.2.1 7 4 = sM σ 2 (mm σ 2) := c4 2 (by decide)
  have d3 : σ.2.1 8 4 = sM σ 3 (mm σ 3) := c4 3 (by decide)
  refine c_sail 96 n (mm σ) σ _ h.B (fun l hl => ?_) ?_ (fun q => ?_) (fun q1 q2 => ?_)
  · obtain ⟨_, _, fr, _⟩ := PQ l (by omega)
    obtain ⟨_, _, _, _, _, _, _, i8⟩ := PQ 4 (by omega)
    exact ⟨by rw [fr.1]; exact h20, by rw [(fr.2.2 2 l (by omega)).2]; exact hla l hl, (h.1.2.2.2.2 l hl).1, (i8 l hl).2, (i8 l hl).1⟩
  · obtain ⟨_, _, fr, _⟩ := PQ 4 (by omega)
    rw [fr.1]; exact h20
  · refine k _ _ h20 (fun post' k' => ?_)
    rw [hO, d0, d1, d2, d3, hA] at q
    exact m_sail 93 t (mm σ) σ _ h.M hS b3 b1 (fun _ τ hτ => k' _ n (Cp_q h b3 b1 hτ)) (fun r1 r2 r3 => absurd q (fun z => by rcases z with z | z | z; exact r1 z; exact r2 z; exact r3 z))
  · rw [hO] at q1
    rw [← i32_nlt, d0, d1, d2, d3, hA] at q2
    obtain ⟨i1, i2, i3, i4, i5, i6, i7, i8⟩ := PQ 4 (by omega)
    have e5 : mx (mx (mx (mx 0 (σ.2.1 5 5)) (σ.2.1 6 5)) (σ.2.1 7 5)) (σ.2.1 8 5) = mx (mx (mx (mx 0 (sN σ 0 (mm σ 0))) (sN σ 1 (mm σ 1))) (sN σ 2 (mm σ 2))) (sN σ 3 (mm σ 3)) := by
      have g0 : σ.2.1 5 5 = sN σ 0 (mm σ 0) := c5 0 (by decide)
      have g1 : σ.2.1 6 5 = sN σ 1 (mm σ 1) := c5 1 (by decide)
      have g2 : σ.2.1 7 5 = sN σ 2 (mm σ 2) := c5 2 (by decide)
      have g3 : σ.2.1 8 5 = sN σ 3 (mm σ 3) := c5 3 (by decide)
      rw [g0, g1, g2, g3]
    rw [e5]
    generalize Sq (mm σ) σ 4 = ψ at *
    generalize Pq (mm σ) σ 4 = ρ at *
    have fm : ∀ a j, 9 ≤ a → a < 20 → (fd_si ψ 0 5 (ψ.2.1 0 5 + 1)).2.1 a j = σ.2.1 a j := fun a j c1 c2 => by rw [si_ne (by omega)]; exact (i3.2.2 a j (Or.inr ⟨c1, c2⟩)).1
    have f0 : ∀ a j, a < 5 → ¬ (a = 0 ∧ j = 5) → (fd_si ψ 0 5 (ψ.2.1 0 5 + 1)).2.1 a j = σ.2.1 a j := fun a j c1 c2 => by rw [si_at, if_neg c2]; exact (i3.2.2 a j (Or.inl c1)).1
    have f05 : (fd_si ψ 0 5 (ψ.2.1 0 5 + 1)).2.1 0 5 = σ.2.1 0 5 + 1 := by rw [si_eq, (i3.2.2 0 5 (Or.inl (by decide))).1]
    have fc : ∀ a j, a < 9 ∨ 20 ≤ a → ¬ (a = 0 ∧ j = 5) → (fd_si ψ 0 5 (ψ.2.1 0 5 + 1)).2.1 a j = ρ.2.1 a j := fun a j c1 c2 => by rw [si_at, if_neg c2]; exact (i1.2.2 a j c1).symm
    have gN : (fd_si ψ 0 5 (ψ.2.1 0 5 + 1)).1 = σ.1 := i3.1
    have gL : (fd_si ψ 0 5 (ψ.2.1 0 5 + 1)).2.2.2 = σ.2.2.2 := i3.2.1
    have gR : (fd_si ψ 0 5 (ψ.2.1 0 5 + 1)).2.2.1 = ρ.2.2.1 := i1.2.1.symm
    have g9 : ∀ j, (fd_si ψ 0 5 (ψ.2.1 0 5 + 1)).2.2.1 9 j = σ.2.2.1 9 j := fun j => (i3.2.2 9 j (Or.inr ⟨by decide, by decide⟩)).2
    have gρ : ρ.1 = σ.1 := i1.1.trans i3.1
    generalize fd_si ψ 0 5 (ψ.2.1 0 5 + 1) = π at *
    have mB : Mb π := by
      have hM := h.M
      unfold Mb at hM ⊢
      simp only [g9, gN]
      exact hM
    have hqv : ∀ w s i, qv π w s i = qv σ w s i := fun w s i => qv_c (fm 10 _ (by decide) (by decide)) (fm 11 _ (by decide) (by decide)) (fm 12 _ (by decide) (by decide)) w s
    have hsv : ∀ l k, sv π l k = sv σ l k := fun l k => sv_c (fm 18 _ (by decide) (by decide))
    have hW : ∀ l m, W3 σ π l m := fun l m k _ => ⟨hsv l k, fun w => hqv w 0 _⟩
    refine k _ _ (by omega) (fun post' k' => ?_)
    refine m_sail 93 t (mm σ) π _ mB (fun l' hl' => Vs_c (fun a j c1 c2 _ => fm a j (by omega) (by omega)) (hS l' hl')) (by rw [fm 9 _ (by decide) (by decide)]; exact b3) b1 (fun q => ?_) (fun _ _ _ τ hτ => ?_)
    · rw [sM_c (hW 0 _), sM_c (hW 1 _), sM_c (hW 2 _), sM_c (hW 3 _)] at q
      rcases q with z | z
      · exact absurd z q1
      · exact absurd z q2
    · rw [sN_c (hW 0 _), sN_c (hW 1 _), sN_c (hW 2 _), sN_c (hW 3 _)]
      obtain ⟨z1, z2, z3, z4, z5, z6, z7⟩ := hτ
      have tm : ∀ a j, a ≠ 13 → a ≠ 17 → ¬ JQ t a j → τ.2.1 a j = π.2.1 a j := z4
      have t9 : ∀ j, τ.2.1 9 j = σ.2.1 9 j := fun j => (tm 9 j (by decide) (by decide) (jq_ne (by decide))).trans (fm 9 j (by decide) (by decide))
      refine k' _ n ⟨Core_c (σ := ρ) ?_ ?_ (fun a j hj => ?_) i2, ?_, ?_, ?_, ?_, t, b1, ?_, ?_, fun j hj => ?_⟩
      · exact z1.trans (gN.trans gρ.symm)
      · exact z2.trans gR
      · have a9 : ¬ (a = 9 ∧ j = 11) := fun e => hj (by unfold J0; omega)
        have a19 : a ≠ 19 := fun e => hj (by unfold J0; omega)
        have a05 : ¬ (a = 0 ∧ j = 5) := fun e => hj (by unfold J0; omega)
        rw [si_at, if_neg a9]
        by_cases r1 : a < 9 ∨ 20 ≤ a
        · rw [tm a j (by omega) (by omega) (jq_ne a19)]
          exact fc a j r1 a05
        · by_cases r13 : a = 13
          · subst r13
            by_cases r : ∃ l' k', l' < 4 ∧ k' < mm σ l' ∧ sv σ l' k' = j
            · obtain ⟨l', k', e1, e2, e3⟩ := r
              rw [(z7 j).1 (Or.inl ⟨l', k', e1, e2, by rw [hsv]; exact e3⟩), (i7 j).1 ⟨l', k', e1, e2, e3⟩]
            · rw [(z7 j).2 (fun e => ?_), (i7 j).2 r]
              · exact fm 13 j (by decide) (by decide)
              · rcases e with ⟨l', k', e1, e2, e3⟩ | ⟨k', e1, _⟩
                · exact r ⟨l', k', e1, e2, by rw [← hsv]; exact e3⟩
                · omega
          · by_cases r17 : a = 17
            · subst r17
              by_cases r : j < 4
              · rw [z5 j r, i6 j r]
              · rw [z6 j (by omega), i5 j (by omega)]
                exact fm 17 j (by decide) (by decide)
            · rw [tm a j r13 r17 (jq_ne a19), fm a j (by omega) (by omega), i4 a j (by omega) (by omega) r13 r17]
      · rw [si_ne (by decide), tm 3 2 (by decide) (by decide) (jq_ne (by decide)), f0 3 2 (by decide) (by omega)]; exact s1
      · rw [si_ne (by decide), si_ne2 (by decide), tm 0 4 (by decide) (by decide) (jq_ne (by decide)), f0 0 4 (by decide) (by omega), t9]; exact s2
      · rw [si_ne (by decide), si_eq, tm 0 5 (by decide) (by decide) (jq_ne (by decide)), f05, fm 9 11 (by decide) (by decide), s3]
      · show τ.2.2.2 0 6 = τ.2.2.2 9 12
        rw [z3, gL]; exact s4
      · rw [si_ne (by decide), tm 3 1 (by decide) (by decide) (jq_ne (by decide)), f0 3 1 (by decide) (by omega)]; exact b2
      · rw [si_ne2 (by decide), t9]; exact b3
      · rw [si_ne (by decide), si_ne (by decide), tm 4 j (by decide) (by decide) (jq_ne (by decide)), f0 4 j (by decide) (by omega), tm 19 j (by decide) (by decide) (fun e => by have := e.2; omega), fm 19 j (by decide) (by decide)]
        exact b4 j hj
