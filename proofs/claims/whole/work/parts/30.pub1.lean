theorem c_season (d : Nat) (x : Int32) (σ : fd_S) (post : Option fd_V → fd_S → Prop) (h20 : 20 ≤ σ.1) (h1 : 0 ≤ x → x ≤ 3 → post (some (.inl (σ.2.1 0 4))) (fd_si σ 0 4 x)) (h2 : ¬ (0 ≤ x ∧ x ≤ 3) → post (some (.inl (-2))) σ) : fd_Sem (d + 2) 28 [.inr (.inr (.inl (some 0))), .inl x] σ post := by
  intro X hX hV
  repeat (first | refine hX _ _ _ _ _ _ ?_ | refine Exists.intro _ (And.intro (by first | rfl | assumption) (And.intro (by first | assumption | exact fd_lt20 h20 (by decide)) (And.intro (by first | rfl | assumption) ?_))))
  refine ok_within _ _ _ _ _ _ (fun ha hb => ?_) (fun ha => ?_)
  · repeat refine hX _ _ _ _ _ _ ?_
    refine And.intro (fun _ => ?_) (fun hc => absurd (show (1 : Int32) = 0 from hc) (by decide))
    repeat (first | refine hX _ _ _ _ _ _ ?_ | refine Exists.intro _ (And.intro (by first | rfl | assumption) (And.intro (by first | assumption | exact fd_lt20 h20 (by decide)) (And.intro (by first | rfl | assumption) ?_))))
    exact h1 ha hb
  · repeat refine hX _ _ _ _ _ _ ?_
    refine And.intro (fun hc => absurd (show (0 : Int32) = 0 from rfl) hc) (fun _ => ?_)
    repeat (first | refine hX _ _ _ _ _ _ ?_ | refine Exists.intro _ (And.intro (by first | rfl | assumption) (And.intro (by first | assumption | exact fd_lt20 h20 (by decide)) (And.intro (by first | rfl | assumption) ?_))))
    exact h2 ha
theorem m_season (d : Nat) (x : Int32) (σ : fd_S) (post : Option fd_V → fd_S → Prop) (h20 : 20 ≤ σ.1) (h1 : 0 ≤ x → x ≤ 3 → post (some (.inl (σ.2.1 9 10))) (fd_si σ 9 10 x)) (h2 : ¬ (0 ≤ x ∧ x ≤ 3) → post (some (.inl (-2))) σ) : fd_Sem (d + 2) 65 [.inr (.inr (.inl (some 9))), .inl x] σ post := by
  intro X hX hV
  repeat (first | refine hX _ _ _ _ _ _ ?_ | refine Exists.intro _ (And.intro (by first | rfl | assumption) (And.intro (by first | assumption | exact fd_lt20 h20 (by decide)) (And.intro (by first | rfl | assumption) ?_))))
  refine ok_in _ _ _ _ _ _ (fun ha hb => ?_) (fun ha => ?_)
  · repeat refine hX _ _ _ _ _ _ ?_
    refine And.intro (fun _ => ?_) (fun hc => absurd (show (1 : Int32) = 0 from hc) (by decide))
    repeat (first | refine hX _ _ _ _ _ _ ?_ | refine Exists.intro _ (And.intro (by first | rfl | assumption) (And.intro (by first | assumption | exact fd_lt20 h20 (by decide)) (And.intro (by first | rfl | assumption) ?_))))
    exact h1 ha hb
  · repeat refine hX _ _ _ _ _ _ ?_
    refine And.intro (fun hc => absurd (show (0 : Int32) = 0 from rfl) hc) (fun _ => ?_)
    repeat (first | refine hX _ _ _ _ _ _ ?_ | refine Exists.intro _ (And.intro (by first | rfl | assumption) (And.intro (by first | assumption | exact fd_lt20 h20 (by decide)) (And.intro (by first | rfl | assumption) ?_))))
    exact h2 ha
theorem c_till (d : Nat) (σ : fd_S) (post : Option fd_V → fd_S → Prop) (h20 : 20 ≤ σ.1) (h1 : post (some (.inr (.inl (σ.2.2.2 0 6)))) σ) : fd_Sem (d + 1) 36 [.inr (.inr (.inl (some 0)))] σ post := by
  intro X hX hV
  repeat (first | refine hX _ _ _ _ _ _ ?_ | refine Exists.intro _ (And.intro (by first | rfl | assumption) (And.intro (by first | assumption | exact fd_lt20 h20 (by decide)) (And.intro (by first | rfl | assumption) ?_))))
  exact h1
theorem m_till (d : Nat) (σ : fd_S) (post : Option fd_V → fd_S → Prop) (h20 : 20 ≤ σ.1) (h1 : post (some (.inr (.inl (σ.2.2.2 9 12)))) σ) : fd_Sem (d + 1) 78 [.inr (.inr (.inl (some 9)))] σ post := by
  intro X hX hV
  repeat (first | refine hX _ _ _ _ _ _ ?_ | refine Exists.intro _ (And.intro (by first | rfl | assumption) (And.intro (by first | assumption | exact fd_lt20 h20 (by decide)) (And.intro (by first | rfl | assumption) ?_))))
  exact h1
theorem c_back (d n : Nat) (x : Int32) (σ : fd_S) (post : Option fd_V → fd_S → Prop) (hB : fd_B σ n) (h0 : (∀ i, i < n → x ≠ nI i) → post (some (.inl (-2))) σ) (h1 : ∀ i, i < n → x = nI i → σ.2.1 (20 + i) 9 = 2 → post (some (.inl 1)) (fd_si σ (20 + i) 9 0)) (h2 : ∀ i, i < n → x = nI i → ¬ σ.2.1 (20 + i) 9 = 2 → post (some (.inl (-3))) σ) : fd_Sem (d + 3) 32 [.inr (.inr (.inl (some 0))), .inl x] σ post := by
  obtain ⟨h20, hN, hn, hcn, r0, r2, r3, r30, hva, hla⟩ := id hB
  intro X hX hV
  repeat (first | refine hX _ _ _ _ _ _ ?_ | refine Exists.intro _ (And.intro (by first | rfl | assumption) (And.intro (by first | assumption | exact fd_lt20 h20 (by decide)) (And.intro (by first | rfl | assumption) ?_))))
  refine ok_vehicleAt _ _ n _ _ hB (fun i hi e => ?_) (fun hno => ?_)
  · have hv : 20 + i < σ.1 := by omega
    have hs := fd_shV i
    repeat refine hX _ _ _ _ _ _ ?_
    refine And.intro (fun _ => ?_) (fun hc => by cases hc)
    repeat (first | refine hX _ _ _ _ _ _ ?_ | refine Exists.intro _ (And.intro (by first | rfl | assumption) (And.intro (by first | assumption | exact fd_lt20 h20 (by decide)) (And.intro (by first | rfl | assumption) ?_))))
    refine And.intro (fun hc => ?_) (fun hc => ?_) <;> try dsimp only [fd_icmp] at hc
    · repeat (first | refine hX _ _ _ _ _ _ ?_ | refine Exists.intro _ (And.intro (by first | rfl | assumption) (And.intro (by first | assumption | exact fd_lt20 h20 (by decide)) (And.intro (by first | rfl | assumption) ?_))))
      exact h1 i hi e hc
    · repeat (first | refine hX _ _ _ _ _ _ ?_ | refine Exists.intro _ (And.intro (by first | rfl | assumption) (And.intro (by first | assumption | exact fd_lt20 h20 (by decide)) (And.intro (by first | rfl | assumption) ?_))))
      exact h2 i hi e hc
  · repeat refine hX _ _ _ _ _ _ ?_
    refine And.intro (fun hc => absurd rfl hc) (fun _ => ?_)
    repeat refine hX _ _ _ _ _ _ ?_
    exact h0 hno
theorem m_back (d n : Nat) (x : Int32) (σ : fd_S) (post : Option fd_V → fd_S → Prop) (hB : Mb σ) (hn : n ≤ 60) (h90 : σ.2.1 9 0 = nI n) (h0 : (∀ i, i < n → x ≠ nI i) → post (some (.inl (-2))) σ) (h1 : ∀ i, i < n → x = nI i → σ.2.1 13 i = 2 → post (some (.inl 1)) (fd_si σ 13 i 0)) (h2 : ∀ i, i < n → x = nI i → ¬ σ.2.1 13 i = 2 → post (some (.inl (-3))) σ) : fd_Sem (d + 3) 72 [.inr (.inr (.inl (some 9))), .inl x] σ post := by
  obtain ⟨h20, r1, r2, r3, r4, r5, r6, r7, r8, r9, r13⟩ := id hB
  intro X hX hV
  repeat (first | refine hX _ _ _ _ _ _ ?_ | refine Exists.intro _ (And.intro (by first | rfl | assumption) (And.intro (by first | assumption | exact fd_lt20 h20 (by decide)) (And.intro (by first | rfl | assumption) ?_))))
  refine ok_isVehicle _ n _ _ _ h20 hn h90 (fun i hi e => ?_) (fun hno => ?_)
  · subst e
    repeat refine hX _ _ _ _ _ _ ?_
    refine And.intro (fun _ => ?_) (fun hc => absurd (show (1 : Int32) = 0 from hc) (by decide))
    repeat (first | refine hX _ _ _ _ _ _ ?_ | refine Exists.intro _ (And.intro (by first | rfl | assumption) (And.intro (by first | assumption | exact fd_lt20 h20 (by decide)) (And.intro (by first | rfl | assumption) ?_))))
    refine se_iald (SE.rf (P := fun _ _ => False) σ) h20 r4 (by decide) rfl rfl (show i < 60 by omega) rfl id (by decide) ?_
    repeat refine hX _ _ _ _ _ _ ?_
    refine And.intro (fun hc => ?_) (fun hc => ?_) <;> try dsimp only [fd_icmp] at hc
    · repeat (first | refine hX _ _ _ _ _ _ ?_ | refine Exists.intro _ (And.intro (by first | rfl | assumption) (And.intro (by first | assumption | exact fd_lt20 h20 (by decide)) (And.intro (by first | rfl | assumption) ?_))))
      refine Exists.intro _ (Exists.intro _ (And.intro (by first | rfl | assumption) (And.intro (by first | assumption | exact fd_lt20 h20 (by decide)) (And.intro (by first | rfl | assumption) (And.intro (vp_in_nI (show i < 60 by omega) (by decide)) ?_)))))
      repeat refine hX _ _ _ _ _ _ ?_
      have h1 := h1 i hi rfl hc
      rw [← nI_clamp (show i < 2 ^ 31 by omega)] at h1
      exact h1
    · repeat refine hX _ _ _ _ _ _ ?_
      exact h2 i hi rfl hc
  · repeat refine hX _ _ _ _ _ _ ?_
    refine And.intro (fun hc => absurd (show (0 : Int32) = 0 from rfl) hc) (fun _ => ?_)
    repeat refine hX _ _ _ _ _ _ ?_
    exact h0 hno
theorem c_lane (d n : Nat) (x len bea : Int32) (σ : fd_S) (post : Option fd_V → fd_S → Prop) (hB : fd_B σ n) (h0 : ¬ ((∃ l, l < 4 ∧ x = nI l) ∧ (0 ≤ len ∧ len ≤ 2000) ∧ (0 ≤ bea ∧ bea ≤ 200000)) → post (some (.inl (-2))) σ) (h1 : ∀ l, l < 4 → x = nI l → 0 ≤ len → len ≤ 2000 → 0 ≤ bea → bea ≤ 200000 → σ.2.1 (5 + l) 6 ≤ 0 → post (some (.inl 1)) (fd_si (fd_si σ (5 + l) 1 len) (5 + l) 2 bea)) (h2 : ∀ l, l < 4 → x = nI l → 0 ≤ len → len ≤ 2000 → 0 ≤ bea → bea ≤ 200000 → ¬ σ.2.1 (5 + l) 6 ≤ 0 → post (some (.inl (-3))) σ) : fd_Sem (d + 3) 27 [.inr (.inr (.inl (some 0))), .inl x, .inl len, .inl bea] σ post := by
  obtain ⟨h20, hN, hn, hcn, r0, r2, r3, r30, hva, hla⟩ := id hB
  intro X hX hV
  repeat (first | refine hX _ _ _ _ _ _ ?_ | refine Exists.intro _ (And.intro (by first | rfl | assumption) (And.intro (by first | assumption | exact fd_lt20 h20 (by decide)) (And.intro (by first | rfl | assumption) ?_))))
  refine ok_laneAt _ _ n _ _ hB (fun l hl e => ?_) (fun hno => ?_)
  · have hv : 5 + l < σ.1 := by omega
    have hs := fd_sh_lane hl
    repeat refine hX _ _ _ _ _ _ ?_
    refine And.intro (fun hc => by cases hc) (fun _ => ?_)
    repeat refine hX _ _ _ _ _ _ ?_
    refine ok_within _ _ _ _ _ _ (fun ha hb => ?_) (fun ha => ?_)
    · repeat refine hX _ _ _ _ _ _ ?_
      refine And.intro (fun hc => absurd (show (1 : Int32) = 0 from hc) (by decide)) (fun _ => ?_)
      repeat refine hX _ _ _ _ _ _ ?_
      refine ok_within _ _ _ _ _ _ (fun hc hd => ?_) (fun hc => ?_)
      · repeat refine hX _ _ _ _ _ _ ?_
        refine And.intro (fun _ => ?_) (fun hc => absurd (show (1 : Int32) = 0 from hc) (by decide))
        repeat (first | refine hX _ _ _ _ _ _ ?_ | refine Exists.intro _ (And.intro (by first | rfl | assumption) (And.intro (by first | assumption | exact fd_lt20 h20 (by decide)) (And.intro (by first | rfl | assumption) ?_))))
        refine And.intro (fun h6 => ?_) (fun h6 => ?_)
        · repeat (first | refine hX _ _ _ _ _ _ ?_ | refine Exists.intro _ (And.intro (by first | rfl | assumption) (And.intro (by first | assumption | exact fd_lt20 h20 (by decide)) (And.intro (by first | rfl | assumption) ?_))))
          exact h1 l hl e ha hb hc hd h6
        · repeat (first | refine hX _ _ _ _ _ _ ?_ | refine Exists.intro _ (And.intro (by first | rfl | assumption) (And.intro (by first | assumption | exact fd_lt20 h20 (by decide)) (And.intro (by first | rfl | assumption) ?_))))
          exact h2 l hl e ha hb hc hd h6
      · repeat refine hX _ _ _ _ _ _ ?_
        refine And.intro (fun hc => absurd (show (0 : Int32) = 0 from rfl) hc) (fun _ => ?_)
        repeat refine hX _ _ _ _ _ _ ?_
        exact h0 (fun q => hc q.2.2)
    · repeat refine hX _ _ _ _ _ _ ?_
      refine And.intro (fun _ => ?_) (fun hc => absurd (show (0 : Int32) = 0 from rfl) hc)
      repeat refine hX _ _ _ _ _ _ ?_
      exact h0 (fun q => ha q.2.1)
  · repeat refine hX _ _ _ _ _ _ ?_
    refine And.intro (fun _ => ?_) (fun hc => absurd rfl hc)
    repeat refine hX _ _ _ _ _ _ ?_
    exact h0 (fun ⟨⟨l, hl, e⟩, _⟩ => hno l hl e)
theorem m_lane (d : Nat) (x len bea : Int32) (σ : fd_S) (post : Option fd_V → fd_S → Prop) (hB : Mb σ) (h0 : ¬ ((∃ l, l < 4 ∧ x = nI l) ∧ (0 ≤ len ∧ len ≤ 2000) ∧ (0 ≤ bea ∧ bea ≤ 200000)) → post (some (.inl (-2))) σ) (h1 : ∀ l, l < 4 → x = nI l → 0 ≤ len → len ≤ 2000 → 0 ≤ bea → bea ≤ 200000 → σ.2.1 17 l ≤ 0 → post (some (.inl 1)) (fd_si (fd_si σ 15 l len) 16 l bea)) (h2 : ∀ l, l < 4 → x = nI l → 0 ≤ len → len ≤ 2000 → 0 ≤ bea → bea ≤ 200000 → ¬ σ.2.1 17 l ≤ 0 → post (some (.inl (-3))) σ) : fd_Sem (d + 3) 64 [.inr (.inr (.inl (some 9))), .inl x, .inl len, .inl bea] σ post := by
  obtain ⟨h20, r1, r2, r3, r4, r5, r6, r7, r8, r9, r13⟩ := id hB
  intro X hX hV
  repeat (first | refine hX _ _ _ _ _ _ ?_ | refine Exists.intro _ (And.intro (by first | rfl | assumption) (And.intro (by first | assumption | exact fd_lt20 h20 (by decide)) (And.intro (by first | rfl | assumption) ?_))))
  refine ok_isLane _ _ _ _ (fun l hl e => ?_) (fun hno => ?_)
  · subst e
    repeat refine hX _ _ _ _ _ _ ?_
    refine And.intro (fun hc => absurd (show (1 : Int32) = 0 from hc) (by decide)) (fun _ => ?_)
    repeat refine hX _ _ _ _ _ _ ?_
    refine ok_in _ _ _ _ _ _ (fun ha hb => ?_) (fun ha => ?_)
    · repeat refine hX _ _ _ _ _ _ ?_
      refine And.intro (fun hc => absurd (show (1 : Int32) = 0 from hc) (by decide)) (fun _ => ?_)
      repeat refine hX _ _ _ _ _ _ ?_
      refine ok_in _ _ _ _ _ _ (fun hc hd => ?_) (fun hc => ?_)
      · repeat refine hX _ _ _ _ _ _ ?_
        refine And.intro (fun _ => ?_) (fun hc => absurd (show (1 : Int32) = 0 from hc) (by decide))
        repeat (first | refine hX _ _ _ _ _ _ ?_ | refine Exists.intro _ (And.intro (by first | rfl | assumption) (And.intro (by first | assumption | exact fd_lt20 h20 (by decide)) (And.intro (by first | rfl | assumption) ?_))))
        refine se_iald (SE.rf (P := fun _ _ => False) σ) h20 r8 (by decide) rfl rfl hl rfl id (by decide) ?_
        repeat refine hX _ _ _ _ _ _ ?_
        refine And.intro (fun h6 => ?_) (fun h6 => ?_)
        · repeat (first | refine hX _ _ _ _ _ _ ?_ | refine Exists.intro _ (And.intro (by first | rfl | assumption) (And.intro (by first | assumption | exact fd_lt20 h20 (by decide)) (And.intro (by first | rfl | assumption) ?_))))
          refine Exists.intro _ (Exists.intro _ (And.intro (by first | rfl | assumption) (And.intro (by first | assumption | exact fd_lt20 h20 (by decide)) (And.intro (by first | rfl | assumption) (And.intro (vp_in_nI hl (by decide)) ?_)))))
          repeat (first | refine hX _ _ _ _ _ _ ?_ | refine Exists.intro _ (And.intro (by first | rfl | assumption) (And.intro (by first | assumption | exact fd_lt20 h20 (by decide)) (And.intro (by first | rfl | assumption) ?_))))
          refine Exists.intro _ (Exists.intro _ (And.intro (by first | rfl | assumption) (And.intro (by first | assumption | exact fd_lt20 h20 (by decide)) (And.intro (by first | rfl | assumption) (And.intro (vp_in_nI hl (by decide)) ?_)))))
          repeat refine hX _ _ _ _ _ _ ?_
          have h1 := h1 l hl rfl ha hb hc hd h6
          rw [← nI_clamp (show l < 2 ^ 31 by omega)] at h1
          exact h1
        · repeat (first | refine hX _ _ _ _ _ _ ?_ | refine Exists.intro _ (And.intro (by first | rfl | assumption) (And.intro (by first | assumption | exact fd_lt20 h20 (by decide)) (And.intro (by first | rfl | assumption) ?_))))
          exact h2 l hl rfl ha hb hc hd h6
      · repeat refine hX _ _ _ _ _ _ ?_
        refine And.intro (fun hc => absurd (show (0 : Int32) = 0 from rfl) hc) (fun _ => ?_)
        repeat refine hX _ _ _ _ _ _ ?_
        exact h0 (fun q => hc q.2.2)
    · repeat refine hX _ _ _ _ _ _ ?_
      refine And.intro (fun _ => ?_) (fun hc => absurd (show (0 : Int32) = 0 from rfl) hc)
      repeat refine hX _ _ _ _ _ _ ?_
      exact h0 (fun q => ha q.2.1)
  · repeat refine hX _ _ _ _ _ _ ?_
    refine And.intro (fun _ => ?_) (fun hc => absurd (show (0 : Int32) = 0 from rfl) hc)
    repeat refine hX _ _ _ _ _ _ ?_
    exact h0 (fun ⟨⟨l, hl, e⟩, _⟩ => hno l hl e)
theorem c_trace (d : Nat) (x : Int32) (σ : fd_S) (post : Option fd_V → fd_S → Prop) (h20 : 20 ≤ σ.1) (r03 : σ.2.2.1 0 3 = some 3) (r30 : σ.2.2.1 3 0 = some 4) (tl : Nat) (htl : tl ≤ 10) (h31 : σ.2.1 3 1 = nI tl) (h1 : ∀ i, i < tl → x = nI i → post (some (.inl (σ.2.1 4 i))) σ) (h2 : (∀ i, i < tl → x ≠ nI i) → post (some (.inl (-1))) σ) : fd_Sem (d + 3) 26 [.inr (.inr (.inl (some 0))), .inl x] σ post := by
  intro X hX hV
  repeat (first | refine hX _ _ _ _ _ _ ?_ | refine Exists.intro _ (And.intro (by first | rfl | assumption) (And.intro (by first | assumption | exact fd_lt20 h20 (by decide)) (And.intro (by first | rfl | assumption) ?_))))
  refine ok_traceAt _ _ _ _ h20 r30 tl htl h31 (fun i hi e => ?_) (fun hno => ?_)
  · repeat refine hX _ _ _ _ _ _ ?_
    exact h1 i hi e
  · repeat refine hX _ _ _ _ _ _ ?_
    exact h2 hno
theorem m_trace (d : Nat) (x : Int32) (σ : fd_S) (post : Option fd_V → fd_S → Prop) (hB : Mb σ) (tl : Nat) (htl : tl ≤ 10) (h31 : σ.2.1 9 14 = nI tl) (h1 : ∀ i, i < tl → x = nI i → post (some (.inl (σ.2.1 19 i))) σ) (h2 : (∀ i, i < tl → x ≠ nI i) → post (some (.inl (-1))) σ) : fd_Sem (d + 3) 62 [.inr (.inr (.inl (some 9))), .inl x] σ post := by
  obtain ⟨h20, r1, r2, r3, r4, r5, r6, r7, r8, r9, r13⟩ := id hB
  intro X hX hV
  repeat (first | refine hX _ _ _ _ _ _ ?_ | refine Exists.intro _ (And.intro (by first | rfl | assumption) (And.intro (by first | assumption | exact fd_lt20 h20 (by decide)) (And.intro (by first | rfl | assumption) ?_))))
  rw [h31]
  refine ok_in _ _ _ _ _ _ (fun ha hb => ?_) (fun ha => ?_)
  · obtain ⟨i, hi, rfl⟩ := ix_of (by omega) ha hb
    repeat refine hX _ _ _ _ _ _ ?_
    refine And.intro (fun hc => absurd (show (1 : Int32) = 0 from hc) (by decide)) (fun _ => ?_)
    repeat (first | refine hX _ _ _ _ _ _ ?_ | refine Exists.intro _ (And.intro (by first | rfl | assumption) (And.intro (by first | assumption | exact fd_lt20 h20 (by decide)) (And.intro (by first | rfl | assumption) ?_))))
    refine se_iald (SE.rf (P := fun _ _ => False) σ) h20 r13 (by decide) rfl rfl (show i < 60 by omega) rfl id (by decide) ?_
    repeat refine hX _ _ _ _ _ _ ?_
    exact h1 i hi rfl
  · repeat refine hX _ _ _ _ _ _ ?_
    refine And.intro (fun _ => ?_) (fun hc => absurd (show (0 : Int32) = 0 from rfl) hc)
    repeat refine hX _ _ _ _ _ _ ?_
    refine h2 (fun i hi hx => ha ?_)
    rw [hx]
    exact ix_to (by omega) hi
