/-- where x stands: lane lo, place ah; -1 and -1 if nowhere -/
def FM (σ : fd_S) (m : Nat → Nat) (x lo ah : Int32) : Prop := (∃ l k, l < 4 ∧ k < m l ∧ σ.2.1 18 (60 * l + k) = x ∧ (∀ l' k', l' < 4 → k' < m l' → (l' ≠ l ∨ k' ≠ k) → σ.2.1 18 (60 * l' + k') ≠ x) ∧ lo = nI l ∧ ah = nI k) ∨ ((∀ l k, l < 4 → k < m l → σ.2.1 18 (60 * l + k) ≠ x) ∧ lo = -1 ∧ ah = -1)
theorem ok_laneOf (d : Nat) (m : Nat → Nat) (x lo ah : Int32) (σ : fd_S) (post : Option fd_V → fd_S → Prop) (hB : Mb σ) (hm : ∀ l, l < 4 → m l ≤ 60 ∧ σ.2.1 17 l = nI (m l)) (hF : FM σ m x lo ah) (h1 : post (some (.inl lo)) σ) : fd_Sem (d + 1) 73 [.inr (.inr (.inl (some 9))), .inl x] σ post := by
  obtain ⟨h20, r1, r2, r3, r4, r5, r6, r7, r8, r9, r13⟩ := id hB
  intro X hX hV
  have outer : ∀ f l, f + l = 4 → (∀ l' k', l' < l → k' < m l' → σ.2.1 18 (60 * l' + k') ≠ x) → X ((fd_code 73).drop 2) [(2, .inl (nI l)), (0, .inr (.inr (.inl (some 9)))), (1, .inl x)] [] σ 0 0 := by
    intro f
    induction f with
    | zero =>
      intro l hl hno
      have : l = 4 := by omega
      subst this
      repeat refine hX _ _ _ _ _ _ ?_
      refine And.intro (fun _ => ?_) (fun hc => absurd (nI_le (a := 4) (Nat.le_refl 4) (by decide)) hc)
      repeat refine hX _ _ _ _ _ _ ?_
      rcases hF with ⟨l, k, hl4, hk, he, -, -, -⟩ | ⟨-, e, -⟩
      · exact absurd he (hno l k hl4 hk)
      · rw [e] at h1
        exact h1
    | succ f ih =>
      intro l hl hno
      have hl4 : l < 4 := by omega
      obtain ⟨hm60, h17⟩ := hm l hl4
      have inner : ∀ g k, g + k = m l → (∀ k', k' < k → σ.2.1 18 (60 * l + k') ≠ x) → X ((fd_code 73).drop 7) [(3, .inl (nI k)), (2, .inl (nI l)), (0, .inr (.inr (.inl (some 9)))), (1, .inl x)] [] σ 0 0 := by
        intro g
        induction g with
        | zero =>
          intro k hk hnk
          have : k = m l := by omega
          subst this
          repeat (first | refine hX _ _ _ _ _ _ ?_ | refine Exists.intro _ (And.intro (by first | rfl | assumption) (And.intro (by first | assumption | exact fd_lt20 h20 (by decide)) (And.intro (by first | rfl | assumption) ?_))))
          refine se_iald (SE.rf (P := fun _ _ => False) σ) h20 r8 (by decide) rfl rfl hl4 h17 id (by decide) ?_
          repeat refine hX _ _ _ _ _ _ ?_
          refine And.intro (fun _ => ?_) (fun hc => absurd (nI_le (Nat.le_refl (m l)) (by omega)) hc)
          refine hX _ _ _ _ _ _ ?_
          refine hX _ _ _ _ _ _ ?_
          refine hV _ _ [(2, .inl (nI (l + 1))), (0, .inr (.inr (.inl (some 9)))), (1, .inl x)] _ _ _ _ (And.intro (congrArg (fun x => some (Sum.inl x)) (nI_1 l)) (And.intro rfl (And.intro rfl trivial))) (ih (l + 1) (by omega) ?_)
          intro l' k' hl' hk'
          by_cases h : l' = l
          · subst h
            exact hnk k' hk'
          · exact hno l' k' (by omega) hk'
        | succ g ihg =>
          intro k hk hnk
          repeat (first | refine hX _ _ _ _ _ _ ?_ | refine Exists.intro _ (And.intro (by first | rfl | assumption) (And.intro (by first | assumption | exact fd_lt20 h20 (by decide)) (And.intro (by first | rfl | assumption) ?_))))
          refine se_iald (SE.rf (P := fun _ _ => False) σ) h20 r8 (by decide) rfl rfl hl4 h17 id (by decide) ?_
          repeat refine hX _ _ _ _ _ _ ?_
          refine And.intro (fun hc => ?_) (fun _ => ?_)
          · have hc : nI (m l) ≤ nI k := hc
            rw [nI_leI (by omega) (by omega)] at hc
            omega
          · repeat (first | refine hX _ _ _ _ _ _ ?_ | refine Exists.intro _ (And.intro (by first | rfl | assumption) (And.intro (by first | assumption | exact fd_lt20 h20 (by decide)) (And.intro (by first | rfl | assumption) ?_))))
            refine se_iald (SE.rf (P := fun _ _ => False) σ) h20 r9 (by decide) rfl (sq_idx l k) (by omega) rfl id (by decide) ?_
            repeat refine hX _ _ _ _ _ _ ?_
            refine And.intro (fun hc => ?_) (fun hc => ?_) <;> try dsimp only [fd_icmp] at hc
            · refine hX _ _ _ _ _ _ ?_
              refine hX _ _ _ _ _ _ ?_
              refine hV _ _ [(3, .inl (nI (k + 1))), (2, .inl (nI l)), (0, .inr (.inr (.inl (some 9)))), (1, .inl x)] _ _ _ _ (And.intro (congrArg (fun x => some (Sum.inl x)) (nI_1 k)) (And.intro rfl (And.intro rfl (And.intro rfl trivial)))) (ihg (k + 1) (by omega) ?_)
              intro k' hk'
              by_cases h : k' = k
              · subst h
                exact hc
              · exact hnk k' (by omega)
            · repeat refine hX _ _ _ _ _ _ ?_
              rcases hF with ⟨l2, k2, hl2, hk2, he, hu, e, -⟩ | ⟨hno2, -, -⟩
              · by_cases h : l = l2
                · rw [e, ← h] at h1
                  exact h1
                · exact absurd hc (hu l k hl4 (by omega) (Or.inl h))
              · exact absurd hc (hno2 l k hl4 (by omega))
      repeat refine hX _ _ _ _ _ _ ?_
      refine And.intro (fun hc => ?_) (fun _ => ?_)
      · have hc : nI 4 ≤ nI l := hc
        rw [nI_leI (by omega) (by omega)] at hc
        omega
      · refine hX _ _ _ _ _ _ ?_
        refine hX _ _ _ _ _ _ ?_
        exact hV _ _ [(3, .inl (nI 0)), (2, .inl (nI l)), (0, .inr (.inr (.inl (some 9)))), (1, .inl x)] _ _ _ _ (And.intro rfl (And.intro rfl (And.intro rfl (And.intro rfl trivial)))) (inner (m l) 0 rfl (fun _ h => absurd h (Nat.not_lt_zero _)))
  iterate 2 refine hX _ _ _ _ _ _ ?_
  exact outer 4 0 rfl (fun _ _ h => absurd h (Nat.not_lt_zero _))
theorem nI_neg1 {l : Nat} (h : l < 2 ^ 31) : ¬ nI l = -1 := by
  intro hc
  have := congrArg Int32.toInt hc
  rw [nI_toInt h] at this
  have h9 : (-1 : Int32).toInt = -1 := by decide
  rw [h9] at this
  omega
theorem ok_aheadOf (d : Nat) (m : Nat → Nat) (x lo ah : Int32) (σ : fd_S) (post : Option fd_V → fd_S → Prop) (hB : Mb σ) (hm : ∀ l, l < 4 → m l ≤ 60 ∧ σ.2.1 17 l = nI (m l)) (hF : FM σ m x lo ah) (h1 : post (some (.inl ah)) σ) : fd_Sem (d + 2) 74 [.inr (.inr (.inl (some 9))), .inl x] σ post := by
  obtain ⟨h20, r1, r2, r3, r4, r5, r6, r7, r8, r9, r13⟩ := id hB
  intro X hX hV
  repeat (first | refine hX _ _ _ _ _ _ ?_ | refine Exists.intro _ (And.intro (by first | rfl | assumption) (And.intro (by first | assumption | exact fd_lt20 h20 (by decide)) (And.intro (by first | rfl | assumption) ?_))))
  refine ok_laneOf _ m x lo ah σ _ hB hm hF ?_
  rcases hF with ⟨l, k, hl4, hk, he, hu, e1, e2⟩ | ⟨hno, e1, e2⟩
  · subst e1
    subst e2
    have hm60 := (hm l hl4).1
    have loop : ∀ g j, g + j = k → X ((fd_code 74).drop 6) [(3, .inl (nI j)), (2, .inl (nI l)), (0, .inr (.inr (.inl (some 9)))), (1, .inl x)] [] σ 0 0 := by
      intro g
      induction g with
      | zero =>
        intro j hj
        have : j = k := by omega
        subst this
        repeat refine hX _ _ _ _ _ _ ?_
        refine And.intro (fun hc => absurd hc (nI_neg1 (by omega))) (fun _ => ?_)
        repeat (first | refine hX _ _ _ _ _ _ ?_ | refine Exists.intro _ (And.intro (by first | rfl | assumption) (And.intro (by first | assumption | exact fd_lt20 h20 (by decide)) (And.intro (by first | rfl | assumption) ?_))))
        refine se_iald (SE.rf (P := fun _ _ => False) σ) h20 r9 (by decide) rfl (sq_idx l j) (by omega) rfl id (by decide) ?_
        repeat refine hX _ _ _ _ _ _ ?_
        refine And.intro (fun _ => ?_) (fun hc => absurd he hc)
        repeat refine hX _ _ _ _ _ _ ?_
        refine And.intro (fun _ => ?_) (fun hc => absurd hc (nI_neg1 (by omega)))
        repeat refine hX _ _ _ _ _ _ ?_
        exact h1
      | succ g ih =>
        intro j hj
        repeat refine hX _ _ _ _ _ _ ?_
        refine And.intro (fun hc => absurd hc (nI_neg1 (by omega))) (fun _ => ?_)
        repeat (first | refine hX _ _ _ _ _ _ ?_ | refine Exists.intro _ (And.intro (by first | rfl | assumption) (And.intro (by first | assumption | exact fd_lt20 h20 (by decide)) (And.intro (by first | rfl | assumption) ?_))))
        refine se_iald (SE.rf (P := fun _ _ => False) σ) h20 r9 (by decide) rfl (sq_idx l j) (by omega) rfl id (by decide) ?_
        repeat refine hX _ _ _ _ _ _ ?_
        refine And.intro (fun hc => absurd hc (hu l j hl4 (by omega) (Or.inr (by omega)))) (fun _ => ?_)
        refine hX _ _ _ _ _ _ ?_
        refine hX _ _ _ _ _ _ ?_
        exact hV _ _ [(3, .inl (nI (j + 1))), (2, .inl (nI l)), (0, .inr (.inr (.inl (some 9)))), (1, .inl x)] _ _ _ _ (And.intro (congrArg (fun x => some (Sum.inl x)) (nI_1 j)) (And.intro rfl (And.intro rfl (And.intro rfl trivial)))) (ih (j + 1) (by omega))
    iterate 3 refine hX _ _ _ _ _ _ ?_
    exact loop k 0 rfl
  · subst e1
    subst e2
    repeat refine hX _ _ _ _ _ _ ?_
    refine And.intro (fun _ => ?_) (fun hc => absurd (show (-1 : Int32) = -1 from rfl) hc)
    repeat refine hX _ _ _ _ _ _ ?_
    refine And.intro (fun hc => absurd (show (-1 : Int32) = -1 from rfl) hc) (fun _ => ?_)
    repeat refine hX _ _ _ _ _ _ ?_
    exact h1
def mtv (σ : fd_S) (lo ah : Int32) (i j : Nat) : Int32 := match j with
  | 0 => σ.2.1 10 i
  | 1 => σ.2.1 13 i
  | 2 => lo
  | 3 => ah
  | 4 => σ.2.1 14 i
  | 5 => if hvy (kd σ i) = true then 1 else 0
  | _ => if mrk (kd σ i) = true then 1 else 0
theorem m_told (d n : Nat) (m : Nat → Nat) (x w : Int32) (σ : fd_S) (post : Option fd_V → fd_S → Prop) (hB : Mb σ) (hn : n ≤ 60) (h90 : σ.2.1 9 0 = nI n) (hm : ∀ l, l < 4 → m l ≤ 60 ∧ σ.2.1 17 l = nI (m l)) (h0 : (∀ i, i < n → x ≠ nI i) → post (some (.inl (-2))) σ) (h0w : ¬ (0 ≤ w ∧ w ≤ 6) → post (some (.inl (-2))) σ) (h1 : ∀ i, i < n → x = nI i → Vi σ i ∧ ∃ lo ah, FM σ m x lo ah ∧ ∀ j, j ≤ 6 → w = nI j → post (some (.inl (mtv σ lo ah i j))) σ) : fd_Sem (d + 3) 75 [.inr (.inr (.inl (some 9))), .inl x, .inl w] σ post := by
  obtain ⟨h20, r1, r2, r3, r4, r5, r6, r7, r8, r9, r13⟩ := id hB
  intro X hX hV
  repeat (first | refine hX _ _ _ _ _ _ ?_ | refine Exists.intro _ (And.intro (by first | rfl | assumption) (And.intro (by first | assumption | exact fd_lt20 h20 (by decide)) (And.intro (by first | rfl | assumption) ?_))))
  refine ok_isVehicle _ n _ _ _ h20 hn h90 (fun i hi e => ?_) (fun hno => ?_)
  · repeat refine hX _ _ _ _ _ _ ?_
    refine And.intro (fun hc => absurd (show (1 : Int32) = 0 from hc) (by decide)) (fun _ => ?_)
    repeat refine hX _ _ _ _ _ _ ?_
    refine ok_in _ _ _ _ _ _ (fun ha hb => ?_) (fun ha => ?_)
    · obtain ⟨j, hj, rfl⟩ : ∃ j, j < 7 ∧ w = nI j := ix_of (by decide) ha (by rw [show (nI 7 - 1 : Int32) = 6 by decide]; exact hb)
      obtain ⟨hvi, lo, ah, hF, hq⟩ := h1 i hi e
      have hz := hq j (by omega) rfl
      clear hq h1
      subst e
      have hi60 := hvi.1
      repeat refine hX _ _ _ _ _ _ ?_
      refine And.intro (fun _ => ?_) (fun hc => absurd (show (1 : Int32) = 0 from hc) (by decide))
      repeat refine hX _ _ _ _ _ _ ?_
      match j, hj, hz with
      | 0, _, h1 =>
        refine Or.inl (Exists.intro 0 (Exists.intro _ (And.intro rfl (And.intro (by decide) ?_))))
        repeat (first | refine hX _ _ _ _ _ _ ?_ | refine Exists.intro _ (And.intro (by first | rfl | assumption) (And.intro (by first | assumption | exact fd_lt20 h20 (by decide)) (And.intro (by first | rfl | assumption) ?_))))
        refine se_iald (SE.rf (P := fun _ _ => False) σ) h20 r1 (by decide) rfl rfl hi60 rfl id (by decide) ?_
        repeat refine hX _ _ _ _ _ _ ?_
        exact h1
      | 1, _, h1 =>
        refine Or.inl (Exists.intro 1 (Exists.intro _ (And.intro rfl (And.intro (by decide) ?_))))
        repeat (first | refine hX _ _ _ _ _ _ ?_ | refine Exists.intro _ (And.intro (by first | rfl | assumption) (And.intro (by first | assumption | exact fd_lt20 h20 (by decide)) (And.intro (by first | rfl | assumption) ?_))))
        refine se_iald (SE.rf (P := fun _ _ => False) σ) h20 r4 (by decide) rfl rfl hi60 rfl id (by decide) ?_
        repeat refine hX _ _ _ _ _ _ ?_
        exact h1
      | 2, _, h1 =>
        refine Or.inl (Exists.intro 2 (Exists.intro _ (And.intro rfl (And.intro (by decide) ?_))))
        repeat (first | refine hX _ _ _ _ _ _ ?_ | refine Exists.intro _ (And.intro (by first | rfl | assumption) (And.intro (by first | assumption | exact fd_lt20 h20 (by decide)) (And.intro (by first | rfl | assumption) ?_))))
        refine ok_laneOf _ m _ lo ah σ _ hB hm hF ?_
        repeat refine hX _ _ _ _ _ _ ?_
        exact h1
      | 3, _, h1 =>
        refine Or.inl (Exists.intro 3 (Exists.intro _ (And.intro rfl (And.intro (by decide) ?_))))
        repeat (first | refine hX _ _ _ _ _ _ ?_ | refine Exists.intro _ (And.intro (by first | rfl | assumption) (And.intro (by first | assumption | exact fd_lt20 h20 (by decide)) (And.intro (by first | rfl | assumption) ?_))))
        refine ok_aheadOf _ m _ lo ah σ _ hB hm hF ?_
        repeat refine hX _ _ _ _ _ _ ?_
        exact h1
      | 4, _, h1 =>
        refine Or.inl (Exists.intro 4 (Exists.intro _ (And.intro rfl (And.intro (by decide) ?_))))
        repeat (first | refine hX _ _ _ _ _ _ ?_ | refine Exists.intro _ (And.intro (by first | rfl | assumption) (And.intro (by first | assumption | exact fd_lt20 h20 (by decide)) (And.intro (by first | rfl | assumption) ?_))))
        refine se_iald (SE.rf (P := fun _ _ => False) σ) h20 r5 (by decide) rfl rfl hi60 rfl id (by decide) ?_
        repeat refine hX _ _ _ _ _ _ ?_
        exact h1
      | 5, _, h1 =>
        refine Or.inl (Exists.intro 5 (Exists.intro _ (And.intro rfl (And.intro (by decide) ?_))))
        repeat (first | refine hX _ _ _ _ _ _ ?_ | refine Exists.intro _ (And.intro (by first | rfl | assumption) (And.intro (by first | assumption | exact fd_lt20 h20 (by decide)) (And.intro (by first | rfl | assumption) ?_))))
        refine se_iald (SE.rf (P := fun _ _ => False) σ) h20 r1 (by decide) rfl rfl hi60 hvi.2.2 id (by decide) ?_
        repeat refine hX _ _ _ _ _ _ ?_
        have h1 : post (some (.inl (if hvy (kd σ i) = true then 1 else 0))) σ := h1
        refine ok_mheavy _ _ _ _ hvi.2.1 (fun hh => ?_) (fun hh => ?_)
        · rw [if_pos hh] at h1
          repeat refine hX _ _ _ _ _ _ ?_
          refine And.intro (fun hc => absurd (show (1 : Int32) = 0 from hc) (by decide)) (fun _ => ?_)
          repeat refine hX _ _ _ _ _ _ ?_
          exact h1
        · rw [if_neg (by rw [hh]; decide)] at h1
          repeat refine hX _ _ _ _ _ _ ?_
          refine And.intro (fun _ => ?_) (fun hc => absurd (show (0 : Int32) = 0 from rfl) hc)
          repeat refine hX _ _ _ _ _ _ ?_
          exact h1
      | 6, _, h1 =>
        refine Or.inr (And.intro (by decide) ?_)
        repeat (first | refine hX _ _ _ _ _ _ ?_ | refine Exists.intro _ (And.intro (by first | rfl | assumption) (And.intro (by first | assumption | exact fd_lt20 h20 (by decide)) (And.intro (by first | rfl | assumption) ?_))))
        refine se_iald (SE.rf (P := fun _ _ => False) σ) h20 r1 (by decide) rfl rfl hi60 hvi.2.2 id (by decide) ?_
        repeat refine hX _ _ _ _ _ _ ?_
        have h1 : post (some (.inl (if mrk (kd σ i) = true then 1 else 0))) σ := h1
        refine ok_mmarked _ _ _ _ hvi.2.1 (fun hh => ?_) (fun hh => ?_)
        · rw [if_pos hh] at h1
          repeat refine hX _ _ _ _ _ _ ?_
          refine And.intro (fun hc => absurd (show (1 : Int32) = 0 from hc) (by decide)) (fun _ => ?_)
          repeat refine hX _ _ _ _ _ _ ?_
          exact h1
        · rw [if_neg (by rw [hh]; decide)] at h1
          repeat refine hX _ _ _ _ _ _ ?_
          refine And.intro (fun _ => ?_) (fun hc => absurd (show (0 : Int32) = 0 from rfl) hc)
          repeat refine hX _ _ _ _ _ _ ?_
          exact h1
    · repeat refine hX _ _ _ _ _ _ ?_
      refine And.intro (fun hc => absurd (show (0 : Int32) = 0 from rfl) hc) (fun _ => ?_)
      repeat refine hX _ _ _ _ _ _ ?_
      exact h0w ha
  · repeat refine hX _ _ _ _ _ _ ?_
    refine And.intro (fun _ => ?_) (fun hc => absurd (show (0 : Int32) = 0 from rfl) hc)
    repeat refine hX _ _ _ _ _ _ ?_
    exact h0 hno
