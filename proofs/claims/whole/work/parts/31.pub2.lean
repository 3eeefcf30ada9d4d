theorem ts_cases (x : Int32) (N : Nat) : (x.toInt < 0 ∨ (N : Int) < x.toInt) ∨ ∃ j : Nat, j ≤ N ∧ x = nI j := by
  by_cases h : x < 0
  · left; left
    rw [Int32.lt_iff_toInt_lt] at h
    exact h
  · obtain ⟨j, hj, rfl⟩ := nI_of h
    by_cases h2 : j ≤ N
    · right; exact ⟨j, h2, rfl⟩
    · left; right
      rw [nI_toInt hj]
      omega
theorem ts_in {x : Int32} {N : Nat} (hN : N < 2 ^ 31) (h : ¬ ((0 : Int32) ≤ x ∧ x ≤ nI N)) : x.toInt < 0 ∨ (N : Int) < x.toInt := by
  rcases ts_cases x N with h1 | ⟨j, hj, rfl⟩
  · exact h1
  · exact absurd ⟨nI_pos' (by omega), nI_le hj hN⟩ h
theorem ts_out {x : Int32} {N : Nat} (hN : N < 2 ^ 31) (h : x.toInt < 0 ∨ (N : Int) < x.toInt) : ¬ ((0 : Int32) ≤ x ∧ x ≤ nI N) := by
  rintro ⟨h1, h2⟩
  rw [Int32.le_iff_toInt_le] at h1 h2
  rw [nI_toInt hN] at h2
  have : (0 : Int32).toInt = 0 := rfl
  omega
def ccv (σ : fd_S) (n j : Nat) : Int32 := match j with
  | 0 => σ.2.1 0 1
  | 1 => cn σ 0 n
  | 2 => cn σ 1 n
  | 3 => cn σ 2 n
  | 4 => σ.2.1 0 5
  | _ => σ.2.1 0 4
theorem c_count (d n : Nat) (x : Int32) (σ : fd_S) (post : Option fd_V → fd_S → Prop) (hB : fd_B σ n) (h0 : (x.toInt < 0 ∨ (5 : Int) < x.toInt) → post (some (.inl (-2))) σ) (h1 : ∀ j, j ≤ 5 → x = nI j → post (some (.inl (ccv σ n j))) σ) : fd_Sem (d + 4) 35 [.inr (.inr (.inl (some 0))), .inl x] σ post := by
  obtain ⟨h20, hN, hn, hcn, r0, r2, r3, r30, hva, hla⟩ := id hB
  intro X hX hV
  repeat refine hX _ _ _ _ _ _ ?_
  rcases ts_cases x 5 with hx | ⟨j, hj, rfl⟩
  · refine Or.inr (And.intro hx ?_)
    repeat refine hX _ _ _ _ _ _ ?_
    exact h0 hx
  · match j, hj, h1 with
    | 0, _, h1 =>
      refine Or.inl (Exists.intro 0 (Exists.intro _ (And.intro rfl (And.intro (by decide) ?_))))
      repeat (first | refine hX _ _ _ _ _ _ ?_ | refine Exists.intro _ (And.intro (by first | rfl | assumption) (And.intro (by first | assumption | exact fd_lt20 h20 (by decide)) (And.intro (by first | rfl | assumption) ?_))))
      exact h1 0 (by decide) rfl
    | 1, _, h1 =>
      refine Or.inl (Exists.intro 1 (Exists.intro _ (And.intro rfl (And.intro (by decide) ?_))))
      repeat (first | refine hX _ _ _ _ _ _ ?_ | refine Exists.intro _ (And.intro (by first | rfl | assumption) (And.intro (by first | assumption | exact fd_lt20 h20 (by decide)) (And.intro (by first | rfl | assumption) ?_))))
      refine ok_countOf _ n _ _ _ hB ?_
      repeat refine hX _ _ _ _ _ _ ?_
      exact h1 1 (by decide) rfl
    | 2, _, h1 =>
      refine Or.inl (Exists.intro 2 (Exists.intro _ (And.intro rfl (And.intro (by decide) ?_))))
      repeat (first | refine hX _ _ _ _ _ _ ?_ | refine Exists.intro _ (And.intro (by first | rfl | assumption) (And.intro (by first | assumption | exact fd_lt20 h20 (by decide)) (And.intro (by first | rfl | assumption) ?_))))
      refine ok_countOf _ n _ _ _ hB ?_
      repeat refine hX _ _ _ _ _ _ ?_
      exact h1 2 (by decide) rfl
    | 3, _, h1 =>
      refine Or.inl (Exists.intro 3 (Exists.intro _ (And.intro rfl (And.intro (by decide) ?_))))
      repeat (first | refine hX _ _ _ _ _ _ ?_ | refine Exists.intro _ (And.intro (by first | rfl | assumption) (And.intro (by first | assumption | exact fd_lt20 h20 (by decide)) (And.intro (by first | rfl | assumption) ?_))))
      refine ok_countOf _ n _ _ _ hB ?_
      repeat refine hX _ _ _ _ _ _ ?_
      exact h1 3 (by decide) rfl
    | 4, _, h1 =>
      refine Or.inl (Exists.intro 4 (Exists.intro _ (And.intro rfl (And.intro (by decide) ?_))))
      repeat (first | refine hX _ _ _ _ _ _ ?_ | refine Exists.intro _ (And.intro (by first | rfl | assumption) (And.intro (by first | assumption | exact fd_lt20 h20 (by decide)) (And.intro (by first | rfl | assumption) ?_))))
      exact h1 4 (by decide) rfl
    | 5, _, h1 =>
      refine Or.inl (Exists.intro 5 (Exists.intro _ (And.intro rfl (And.intro (by decide) ?_))))
      repeat (first | refine hX _ _ _ _ _ _ ?_ | refine Exists.intro _ (And.intro (by first | rfl | assumption) (And.intro (by first | assumption | exact fd_lt20 h20 (by decide)) (And.intro (by first | rfl | assumption) ?_))))
      exact h1 5 (by decide) rfl
    | j + 6, hj, _ => omega
def mcn (σ : fd_S) (h : Int32) : Nat → Int32
  | 0 => 0
  | k + 1 => mcn σ h k + (if σ.2.1 13 k = h then 1 else 0)
def mcv (σ : fd_S) (n j : Nat) : Int32 := match j with
  | 0 => σ.2.1 9 0
  | 4 => σ.2.1 9 11
  | 5 => σ.2.1 9 10
  | j => mcn σ (nI j - 1) n
theorem m_count (d n : Nat) (x : Int32) (σ : fd_S) (post : Option fd_V → fd_S → Prop) (hB : Mb σ) (hn : n ≤ 60) (h90 : σ.2.1 9 0 = nI n) (h0 : ¬ (0 ≤ x ∧ x ≤ 5) → post (some (.inl (-2))) σ) (h1 : ∀ j, j ≤ 5 → x = nI j → post (some (.inl (mcv σ n j))) σ) : fd_Sem (d + 2) 77 [.inr (.inr (.inl (some 9))), .inl x] σ post := by
  obtain ⟨h20, r1, r2, r3, r4, r5, r6, r7, r8, r9, r13⟩ := id hB
  intro X hX hV
  repeat refine hX _ _ _ _ _ _ ?_
  refine ok_in _ _ _ _ _ _ (fun ha hb => ?_) (fun ha => ?_)
  · obtain ⟨j, hj, rfl⟩ : ∃ j, j < 6 ∧ x = nI j := ix_of (by decide) ha (by rw [show (nI 6 - 1 : Int32) = 5 by decide]; exact hb)
    have loop : ∀ f k, f + k = n → X ((fd_code 77).drop 11) [(3, .inl (nI k)), (2, .inl (mcn σ (nI j - 1) k)), (0, .inr (.inr (.inl (some 9)))), (1, .inl (nI j))] [] σ 0 0 := by
      intro f
      induction f with
      | zero =>
        intro k hk
        have : k = n := by omega
        subst this
        repeat (first | refine hX _ _ _ _ _ _ ?_ | refine Exists.intro _ (And.intro (by first | rfl | assumption) (And.intro (by first | assumption | exact fd_lt20 h20 (by decide)) (And.intro (by first | rfl | assumption) ?_))))
        rw [h90]
        repeat refine hX _ _ _ _ _ _ ?_
        refine And.intro (fun _ => ?_) (fun hc => absurd (nI_le (Nat.le_refl k) (by omega)) hc)
        repeat refine hX _ _ _ _ _ _ ?_
        match j, hj, h1 with
        | 0, _, h1 =>
          repeat (first | refine hX _ _ _ _ _ _ ?_ | refine Exists.intro _ (And.intro (by first | rfl | assumption) (And.intro (by first | assumption | exact fd_lt20 h20 (by decide) | exact md_lt (by assumption) h20 (by decide)) (And.intro (by first | rfl | assumption) ?_))) | refine And.intro (fun hc => absurd hc (by dsimp only [fd_icmp]; decide)) (fun _ => ?_) | refine And.intro (fun _ => ?_) (fun hc => absurd hc (by dsimp only [fd_icmp]; decide)) | refine And.intro (by decide) ?_ | refine md_iald (by assumption) h20 (by assumption) (by decide) rfl hi (by assumption) (by decide) (by decide) ?_ | refine ok_in _ _ _ _ _ _ (fun _ _ => ?_) (fun hc => absurd (by decide) hc) | refine ok_in _ _ _ _ _ _ (fun h1 h2 => absurd (And.intro h1 h2) (by decide)) (fun _ => ?_) | (refine ok_began _ _ h20 r13 (by assumption) (by first | omega | (simp only [List.length_append, List.length_cons, List.length_nil]; omega)) (fun τ hM => ?_)))
          exact h1 0 (by decide) rfl
        | 1, _, h1 =>
          repeat (first | refine hX _ _ _ _ _ _ ?_ | refine Exists.intro _ (And.intro (by first | rfl | assumption) (And.intro (by first | assumption | exact fd_lt20 h20 (by decide) | exact md_lt (by assumption) h20 (by decide)) (And.intro (by first | rfl | assumption) ?_))) | refine And.intro (fun hc => absurd hc (by dsimp only [fd_icmp]; decide)) (fun _ => ?_) | refine And.intro (fun _ => ?_) (fun hc => absurd hc (by dsimp only [fd_icmp]; decide)) | refine And.intro (by decide) ?_ | refine md_iald (by assumption) h20 (by assumption) (by decide) rfl hi (by assumption) (by decide) (by decide) ?_ | refine ok_in _ _ _ _ _ _ (fun _ _ => ?_) (fun hc => absurd (by decide) hc) | refine ok_in _ _ _ _ _ _ (fun h1 h2 => absurd (And.intro h1 h2) (by decide)) (fun _ => ?_) | (refine ok_began _ _ h20 r13 (by assumption) (by first | omega | (simp only [List.length_append, List.length_cons, List.length_nil]; omega)) (fun τ hM => ?_)))
          exact h1 1 (by decide) rfl
        | 2, _, h1 =>
          repeat (first | refine hX _ _ _ _ _ _ ?_ | refine Exists.intro _ (And.intro (by first | rfl | assumption) (And.intro (by first | assumption | exact fd_lt20 h20 (by decide) | exact md_lt (by assumption) h20 (by decide)) (And.intro (by first | rfl | assumption) ?_))) | refine And.intro (fun hc => absurd hc (by dsimp only [fd_icmp]; decide)) (fun _ => ?_) | refine And.intro (fun _ => ?_) (fun hc => absurd hc (by dsimp only [fd_icmp]; decide)) | refine And.intro (by decide) ?_ | refine md_iald (by assumption) h20 (by assumption) (by decide) rfl hi (by assumption) (by decide) (by decide) ?_ | refine ok_in _ _ _ _ _ _ (fun _ _ => ?_) (fun hc => absurd (by decide) hc) | refine ok_in _ _ _ _ _ _ (fun h1 h2 => absurd (And.intro h1 h2) (by decide)) (fun _ => ?_) | (refine ok_began _ _ h20 r13 (by assumption) (by first | omega | (simp only [List.length_append, List.length_cons, List.length_nil]; omega)) (fun τ hM => ?_)))
          exact h1 2 (by decide) rfl
        | 3, _, h1 =>
          repeat (first | refine hX _ _ _ _ _ _ ?_ | refine Exists.intro _ (And.intro (by first | rfl | assumption) (And.intro (by first | assumption | exact fd_lt20 h20 (by decide) | exact md_lt (by assumption) h20 (by decide)) (And.intro (by first | rfl | assumption) ?_))) | refine And.intro (fun hc => absurd hc (by dsimp only [fd_icmp]; decide)) (fun _ => ?_) | refine And.intro (fun _ => ?_) (fun hc => absurd hc (by dsimp only [fd_icmp]; decide)) | refine And.intro (by decide) ?_ | refine md_iald (by assumption) h20 (by assumption) (by decide) rfl hi (by assumption) (by decide) (by decide) ?_ | refine ok_in _ _ _ _ _ _ (fun _ _ => ?_) (fun hc => absurd (by decide) hc) | refine ok_in _ _ _ _ _ _ (fun h1 h2 => absurd (And.intro h1 h2) (by decide)) (fun _ => ?_) | (refine ok_began _ _ h20 r13 (by assumption) (by first | omega | (simp only [List.length_append, List.length_cons, List.length_nil]; omega)) (fun τ hM => ?_)))
          exact h1 3 (by decide) rfl
        | 4, _, h1 =>
          repeat (first | refine hX _ _ _ _ _ _ ?_ | refine Exists.intro _ (And.intro (by first | rfl | assumption) (And.intro (by first | assumption | exact fd_lt20 h20 (by decide) | exact md_lt (by assumption) h20 (by decide)) (And.intro (by first | rfl | assumption) ?_))) | refine And.intro (fun hc => absurd hc (by dsimp only [fd_icmp]; decide)) (fun _ => ?_) | refine And.intro (fun _ => ?_) (fun hc => absurd hc (by dsimp only [fd_icmp]; decide)) | refine And.intro (by decide) ?_ | refine md_iald (by assumption) h20 (by assumption) (by decide) rfl hi (by assumption) (by decide) (by decide) ?_ | refine ok_in _ _ _ _ _ _ (fun _ _ => ?_) (fun hc => absurd (by decide) hc) | refine ok_in _ _ _ _ _ _ (fun h1 h2 => absurd (And.intro h1 h2) (by decide)) (fun _ => ?_) | (refine ok_began _ _ h20 r13 (by assumption) (by first | omega | (simp only [List.length_append, List.length_cons, List.length_nil]; omega)) (fun τ hM => ?_)))
          exact h1 4 (by decide) rfl
        | 5, _, h1 =>
          repeat (first | refine hX _ _ _ _ _ _ ?_ | refine Exists.intro _ (And.intro (by first | rfl | assumption) (And.intro (by first | assumption | exact fd_lt20 h20 (by decide) | exact md_lt (by assumption) h20 (by decide)) (And.intro (by first | rfl | assumption) ?_))) | refine And.intro (fun hc => absurd hc (by dsimp only [fd_icmp]; decide)) (fun _ => ?_) | refine And.intro (fun _ => ?_) (fun hc => absurd hc (by dsimp only [fd_icmp]; decide)) | refine And.intro (by decide) ?_ | refine md_iald (by assumption) h20 (by assumption) (by decide) rfl hi (by assumption) (by decide) (by decide) ?_ | refine ok_in _ _ _ _ _ _ (fun _ _ => ?_) (fun hc => absurd (by decide) hc) | refine ok_in _ _ _ _ _ _ (fun h1 h2 => absurd (And.intro h1 h2) (by decide)) (fun _ => ?_) | (refine ok_began _ _ h20 r13 (by assumption) (by first | omega | (simp only [List.length_append, List.length_cons, List.length_nil]; omega)) (fun τ hM => ?_)))
          exact h1 5 (by decide) rfl
      | succ f ih =>
        intro k hk
        repeat (first | refine hX _ _ _ _ _ _ ?_ | refine Exists.intro _ (And.intro (by first | rfl | assumption) (And.intro (by first | assumption | exact fd_lt20 h20 (by decide)) (And.intro (by first | rfl | assumption) ?_))))
        rw [h90]
        repeat refine hX _ _ _ _ _ _ ?_
        refine And.intro (fun hc => ?_) (fun _ => ?_)
        · have hc : nI n ≤ nI k := hc
          rw [nI_leI (by omega) (by omega)] at hc
          omega
        · repeat (first | refine hX _ _ _ _ _ _ ?_ | refine Exists.intro _ (And.intro (by first | rfl | assumption) (And.intro (by first | assumption | exact fd_lt20 h20 (by decide)) (And.intro (by first | rfl | assumption) ?_))))
          refine se_iald (SE.rf (P := fun _ _ => False) σ) h20 r4 (by decide) rfl rfl (show k < 60 by omega) rfl id (by decide) ?_
          repeat refine hX _ _ _ _ _ _ ?_
          refine And.intro (fun hc => ?_) (fun hc => ?_) <;> try dsimp only [fd_icmp] at hc
          · iterate 5 refine hX _ _ _ _ _ _ ?_
            exact hV _ _ [(3, .inl (nI (k + 1))), (2, .inl (mcn σ (nI j - 1) (k + 1))), (0, .inr (.inr (.inl (some 9)))), (1, .inl (nI j))] _ _ _ _ (And.intro (congrArg (fun x => some (Sum.inl x)) (nI_1 k)) (And.intro (congrArg (fun x => some (Sum.inl (mcn σ (nI j - 1) k + x))) (if_neg hc).symm) (And.intro rfl (And.intro rfl trivial)))) (ih (k + 1) (by omega))
          · iterate 6 refine hX _ _ _ _ _ _ ?_
            exact hV _ _ [(3, .inl (nI (k + 1))), (2, .inl (mcn σ (nI j - 1) (k + 1))), (0, .inr (.inr (.inl (some 9)))), (1, .inl (nI j))] _ _ _ _ (And.intro (congrArg (fun x => some (Sum.inl x)) (nI_1 k)) (And.intro (congrArg (fun x => some (Sum.inl (mcn σ (nI j - 1) k + x))) (if_pos hc).symm) (And.intro rfl (And.intro rfl trivial)))) (ih (k + 1) (by omega))
    repeat refine hX _ _ _ _ _ _ ?_
    refine And.intro (fun _ => ?_) (fun hc => absurd (show (1 : Int32) = 0 from hc) (by decide))
    iterate 4 refine hX _ _ _ _ _ _ ?_
    exact loop n 0 rfl
  · repeat refine hX _ _ _ _ _ _ ?_
    refine And.intro (fun hc => absurd (show (0 : Int32) = 0 from rfl) hc) (fun _ => ?_)
    repeat refine hX _ _ _ _ _ _ ?_
    exact h0 ha
def ctv (σ : fd_S) (a j : Nat) : Int32 := match j with
  | 0 => σ.2.1 a 1
  | 1 => σ.2.1 a 9
  | 2 => σ.2.1 a 10
  | 3 => σ.2.1 a 11
  | 4 => σ.2.1 a 13
  | 5 => if σ.2.1 a 7 = -3 then 0 else 1
  | _ => if σ.2.1 a 8 = -3 then 0 else 1
theorem c_told (d n : Nat) (x w : Int32) (σ : fd_S) (post : Option fd_V → fd_S → Prop) (hB : fd_B σ n) (h0 : (∀ i, i < n → x ≠ nI i) → post (some (.inl (-2))) σ) (h0w : (w.toInt < 0 ∨ (6 : Int) < w.toInt) → post (some (.inl (-2))) σ) (h1 : ∀ i j, i < n → x = nI i → j ≤ 6 → w = nI j → post (some (.inl (ctv σ (20 + i) j))) σ) : fd_Sem (d + 3) 33 [.inr (.inr (.inl (some 0))), .inl x, .inl w] σ post := by
  obtain ⟨h20, hN, hn, hcn, r0, r2, r3, r30, hva, hla⟩ := id hB
  intro X hX hV
  repeat (first | refine hX _ _ _ _ _ _ ?_ | refine Exists.intro _ (And.intro (by first | rfl | assumption) (And.intro (by first | assumption | exact fd_lt20 h20 (by decide)) (And.intro (by first | rfl | assumption) ?_))))
  refine ok_vehicleAt _ _ n _ _ hB (fun i hi e => ?_) (fun hno => ?_)
  · have hv : 20 + i < σ.1 := by omega
    have hs := fd_shV i
    repeat refine hX _ _ _ _ _ _ ?_
    refine And.intro (fun _ => ?_) (fun hc => by cases hc)
    repeat refine hX _ _ _ _ _ _ ?_
    rcases ts_cases w 6 with hx | ⟨j, hj, rfl⟩
    · refine Or.inr (And.intro hx ?_)
      repeat refine hX _ _ _ _ _ _ ?_
      exact h0w hx
    · have h1 := h1 i j hi e hj rfl
      match j, hj, h1 with
      | 0, _, h1 =>
        refine Or.inl (Exists.intro 0 (Exists.intro _ (And.intro rfl (And.intro (by decide) ?_))))
        repeat (first | refine hX _ _ _ _ _ _ ?_ | refine Exists.intro _ (And.intro (by first | rfl | assumption) (And.intro (by first | assumption | exact fd_lt20 h20 (by decide)) (And.intro (by first | rfl | assumption) ?_))))
        exact h1
      | 1, _, h1 =>
        refine Or.inl (Exists.intro 1 (Exists.intro _ (And.intro rfl (And.intro (by decide) ?_))))
        repeat (first | refine hX _ _ _ _ _ _ ?_ | refine Exists.intro _ (And.intro (by first | rfl | assumption) (And.intro (by first | assumption | exact fd_lt20 h20 (by decide)) (And.intro (by first | rfl | assumption) ?_))))
        exact h1
      | 2, _, h1 =>
        refine Or.inl (Exists.intro 2 (Exists.intro _ (And.intro rfl (And.intro (by decide) ?_))))
        repeat (first | refine hX _ _ _ _ _ _ ?_ | refine Exists.intro _ (And.intro (by first | rfl | assumption) (And.intro (by first | assumption | exact fd_lt20 h20 (by decide)) (And.intro (by first | rfl | assumption) ?_))))
        exact h1
      | 3, _, h1 =>
        refine Or.inl (Exists.intro 3 (Exists.intro _ (And.intro rfl (And.intro (by decide) ?_))))
        repeat (first | refine hX _ _ _ _ _ _ ?_ | refine Exists.intro _ (And.intro (by first | rfl | assumption) (And.intro (by first | assumption | exact fd_lt20 h20 (by decide)) (And.intro (by first | rfl | assumption) ?_))))
        exact h1
      | 4, _, h1 =>
        refine Or.inl (Exists.intro 4 (Exists.intro _ (And.intro rfl (And.intro (by decide) ?_))))
        repeat (first | refine hX _ _ _ _ _ _ ?_ | refine Exists.intro _ (And.intro (by first | rfl | assumption) (And.intro (by first | assumption | exact fd_lt20 h20 (by decide)) (And.intro (by first | rfl | assumption) ?_))))
        exact h1
      | 5, _, h1 =>
        refine Or.inl (Exists.intro 5 (Exists.intro _ (And.intro rfl (And.intro (by decide) ?_))))
        repeat (first | refine hX _ _ _ _ _ _ ?_ | refine Exists.intro _ (And.intro (by first | rfl | assumption) (And.intro (by first | assumption | exact fd_lt20 h20 (by decide)) (And.intro (by first | rfl | assumption) ?_))))
        refine ok_isHeavy _ _ _ _ hv hs (fun hh => ?_) (fun hh => ?_)
        · repeat refine hX _ _ _ _ _ _ ?_
          refine And.intro (fun hc => absurd (show (1 : Int32) = 0 from hc) (by decide)) (fun _ => ?_)
          repeat refine hX _ _ _ _ _ _ ?_
          have h1 : post (some (.inl (if σ.2.1 (20 + i) 7 = -3 then 0 else 1))) σ := h1
          rw [if_neg hh] at h1
          exact h1
        · repeat refine hX _ _ _ _ _ _ ?_
          refine And.intro (fun _ => ?_) (fun hc => absurd (show (0 : Int32) = 0 from rfl) hc)
          repeat refine hX _ _ _ _ _ _ ?_
          have h1 : post (some (.inl (if σ.2.1 (20 + i) 7 = -3 then 0 else 1))) σ := h1
          rw [if_pos hh] at h1
          exact h1
      | 6, _, h1 =>
        refine Or.inl (Exists.intro 6 (Exists.intro _ (And.intro rfl (And.intro (by decide) ?_))))
        repeat (first | refine hX _ _ _ _ _ _ ?_ | refine Exists.intro _ (And.intro (by first | rfl | assumption) (And.intro (by first | assumption | exact fd_lt20 h20 (by decide)) (And.intro (by first | rfl | assumption) ?_))))
        refine ok_isMarked _ _ _ _ hv hs (fun hh => ?_) (fun hh => ?_)
        · repeat refine hX _ _ _ _ _ _ ?_
          refine And.intro (fun hc => absurd (show (1 : Int32) = 0 from hc) (by decide)) (fun _ => ?_)
          repeat refine hX _ _ _ _ _ _ ?_
          have h1 : post (some (.inl (if σ.2.1 (20 + i) 8 = -3 then 0 else 1))) σ := h1
          rw [if_neg hh] at h1
          exact h1
        · repeat refine hX _ _ _ _ _ _ ?_
          refine And.intro (fun _ => ?_) (fun hc => absurd (show (0 : Int32) = 0 from rfl) hc)
          repeat refine hX _ _ _ _ _ _ ?_
          have h1 : post (some (.inl (if σ.2.1 (20 + i) 8 = -3 then 0 else 1))) σ := h1
          rw [if_pos hh] at h1
          exact h1
      | j + 7, hj, _ => omega
  · repeat refine hX _ _ _ _ _ _ ?_
    refine And.intro (fun hc => absurd rfl hc) (fun _ => ?_)
    repeat refine hX _ _ _ _ _ _ ?_
    exact h0 hno
