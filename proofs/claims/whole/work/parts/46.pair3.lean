theorem sl_at {σ : fd_S} {a k i j : Nat} {v : Int64} : (fd_sl σ a k v).2.2.2 i j = if i = a ∧ j = k then v else σ.2.2.2 i j := by
  show fd_u σ.2.2.2 a k v i j = _
  unfold fd_u
  by_cases h1 : i = a
  · by_cases h2 : j = k
    · rw [if_pos h1, if_pos h2, if_pos ⟨h1, h2⟩]
    · rw [if_pos h1, if_neg h2, if_neg (fun q => h2 q.2)]
  · rw [if_neg h1, if_neg (fun q => h1 q.1)]
/-- the model's rows as they were -/
theorem Vs_c {σ τ : fd_S} {l m : Nat} (h : ∀ a j, 10 ≤ a → a < 19 → a ≠ 13 → τ.2.1 a j = σ.2.1 a j) (hv : Vs σ l m) : Vs τ l m := by
  refine ⟨hv.1, by rw [h 17 _ (by decide) (by decide) (by decide)]; exact hv.2.1, fun k hk => ?_⟩
  have e : sv τ l k = sv σ l k := sv_c (h 18 _ (by decide) (by decide) (by decide))
  have ek : kd τ (sv σ l k) = kd σ (sv σ l k) := kd_c (h 10 _ (by decide) (by decide) (by decide))
  obtain ⟨q1, q2⟩ := hv.2.2 k hk
  rw [e, h 18 _ (by decide) (by decide) (by decide)]
  refine ⟨q1, q2.1, by rw [ek]; exact q2.2.1, by rw [ek, h 10 _ (by decide) (by decide) (by decide)]; exact q2.2.2⟩
theorem Vi_c {σ τ : fd_S} {i : Nat} (h : τ.2.1 10 i = σ.2.1 10 i) (hv : Vi σ i) : Vi τ i := by
  unfold Vi at *
  rw [kd_c h, h]
  exact hv
theorem p_off (x : Int32) : Pair 30 70 [.inl x] := by
  intro σ n h post k
  have h20 := h.h20
  have hn := h.n60
  obtain ⟨s1, s2, s3, s4, t, b1, b2, b3, b4⟩ := h.2
  have hS : ∀ l, l < 4 → Vs σ l (mm σ l) := fun l hl => h.1.Vs hl
  refine c_off 97 n x σ _ h.B h.1.fl (fun a => ?_) (fun l hl hx h8 => ?_) (fun l b hl hx h8 => ?_)
  · refine k _ _ h20 (fun post' k' => ?_)
    exact m_off 97 (mm σ) x σ _ h.M hS (fun _ => k' _ n h) (fun l hl hx => absurd hx (a l hl)) (fun l hl hx => absurd hx (a l hl))
  · have cl := h.1.2.2.2.2 l hl
    have m0 : mm σ l = 0 := by
      have := cl.2.2.2.2.2.2.2.2.2.1
      rw [h8] at this
      by_cases q : mm σ l = 0
      · exact q
      · rw [if_neg q] at this; cases this
    refine k _ _ h20 (fun post' k' => ?_)
    refine m_off 97 (mm σ) x σ _ h.M hS (fun a => absurd hx (a l hl)) (fun _ _ _ _ => k' _ n h) (fun l' hl' hx' q => ?_)
    have ei : l' = l := (nI_eq (by omega) (by omega)).mp (hx'.symm.trans hx)
    subst ei
    omega
  · have cl := h.1.2.2.2.2 l hl
    have hm : mm σ l ≠ 0 ∧ b = 20 + sv σ l (mm σ l - 1) := by
      have := cl.2.2.2.2.2.2.2.2.2.1
      rw [h8] at this
      by_cases q : mm σ l = 0
      · rw [if_pos q] at this; cases this
      · rw [if_neg q] at this; exact ⟨q, Option.some.inj this⟩
    obtain ⟨m0, eb⟩ := hm
    have cs := h.1.2.2.2.1 l (mm σ l - 1) hl (by omega)
    have hi0 := cs.2.1
    generalize ei : sv σ l (mm σ l - 1) = i0 at *
    subst eb
    have cd := h.1.2.2.1 i0 hi0
    have f : ∀ a j, (of_s σ (5 + l) (20 + i0)).2.1 a j = if a = 20 + i0 ∧ j = 13 then 0 else (rl_s σ (5 + l) (20 + i0) 0).2.1 a j := fun a j => by
      show (fd_si (rl_s σ (5 + l) (20 + i0) 0) (20 + i0) 13 0).2.1 a j = _
      rw [si_at]
    have f1 : ∀ a j, a ≠ 20 + i0 → a ≠ 5 + l → (of_s σ (5 + l) (20 + i0)).2.1 a j = σ.2.1 a j := fun a j q1 q2 => by
      rw [f, if_neg (by omega)]
      show (if a = 20 + i0 then _ else if a = 5 + l then _ else σ.2.1 a j) = _
      rw [if_neg q1, if_neg q2]
    have g : (of_s σ (5 + l) (20 + i0)).2.2.1 = (rl_s σ (5 + l) (20 + i0) 0).2.2.1 := rfl
    have g9 : ∀ j, (of_s σ (5 + l) (20 + i0)).2.2.1 9 j = σ.2.2.1 9 j := fun j => by
      show (if 9 = 20 + i0 then _ else if 9 = 5 + l then _ else σ.2.2.1 9 j) = _
      rw [if_neg (by omega), if_neg (by omega)]
    have gN : (of_s σ (5 + l) (20 + i0)).1 = σ.1 := rfl
    have gL : (of_s σ (5 + l) (20 + i0)).2.2.2 = (fd_sl σ 0 6 (σ.2.2.2 0 6 - (σ.2.1 (20 + i0) 13).toInt64)).2.2.2 := rfl
    generalize of_s σ (5 + l) (20 + i0) = π at *
    have mB : Mb π := by
      have hM := h.M
      unfold Mb at hM ⊢
      simp only [g9, gN]
      exact hM
    refine k _ _ (by omega) (fun post' k' => ?_)
    refine m_off 97 (mm σ) x π _ mB (fun l' hl' => Vs_c (fun a j q1 q2 _ => f1 a j (by omega) (by omega)) (hS l' hl')) (fun a => absurd hx (a l hl)) (fun l' hl' hx' q => ?_) (fun l' hl' hx' _ => ?_)
    · have ei : l' = l := (nI_eq (by omega) (by omega)).mp (hx'.symm.trans hx)
      subst ei
      omega
    · have el : l' = l := (nI_eq (by omega) (by omega)).mp (hx'.symm.trans hx)
      subst el
      have es : sv π l' (mm σ l' - 1) = i0 := by rw [sv_c (f1 18 _ (by omega) (by omega))]; exact ei
      have e14 : π.2.1 14 i0 = σ.2.1 (20 + i0) 13 := by rw [f1 14 _ (by omega) (by omega)]; exact cd.2.1.symm
      rw [es, e14]
      have cp := Core_pop (z := 0) h.1 hl (by omega) (by decide)
      unfold pop at cp
      rw [ei] at cp
      have w : ∀ a j, (mo_s π l' (mm σ l') i0).2.1 a j = if a = 14 ∧ j = i0 then 0 else if a = 13 ∧ j = i0 then 0 else if a = 17 ∧ j = l' then nI (mm σ l' - 1) else π.2.1 a j := fun a j => by
        show (fd_si (fd_si (fd_si π 17 l' (nI (mm σ l' - 1))) 13 i0 0) 14 i0 0).2.1 a j = _
        rw [si_at, si_at, si_at]
      refine k' _ n ⟨Core_p (τ := mo_s π l' (mm σ l') i0) ?_ ?_ (fun a j q1 q2 q3 => ?_) (fun i hi => ?_) cp, Cs_c (σ := σ) (fun a j q => ?_) ?_ h.2⟩
      · exact gN
      · exact g
      · rw [w, si_at, si_at, f, if_neg (by omega), if_neg (c := a = 20 + i0 ∧ j = 13) (by omega)]
      · rw [w, w, if_neg (by omega), if_neg (by omega), if_neg (by omega)]
        by_cases q : i = i0
        · subst q
          rw [if_pos ⟨rfl, rfl⟩, f, if_pos ⟨rfl, rfl⟩]
        · rw [if_neg (by omega), if_neg (by omega), if_neg (by omega), f1 _ _ (by omega) (by omega), f1 _ _ (by omega) (by omega)]
          exact (h.1.2.2.1 i hi).2.1
      · rw [w, if_neg (by omega), if_neg (by omega), if_neg (by omega)]
        exact f1 a j (by omega) (by omega)
      · show (fd_sl (fd_si (fd_si (fd_si π 17 l' (nI (mm σ l' - 1))) 13 i0 0) 14 i0 0) 9 12 (π.2.2.2 9 12 - (π.2.1 14 i0).toInt64)).2.2.2 0 6 = (fd_sl (fd_si (fd_si (fd_si π 17 l' (nI (mm σ l' - 1))) 13 i0 0) 14 i0 0) 9 12 (π.2.2.2 9 12 - (π.2.1 14 i0).toInt64)).2.2.2 9 12
        rw [sl_at, sl_at, if_neg (by omega), if_pos ⟨rfl, rfl⟩]
        show π.2.2.2 0 6 = _
        rw [gL, sl_at, sl_at, if_pos ⟨rfl, rfl⟩, if_neg (by omega), e14, s4]
