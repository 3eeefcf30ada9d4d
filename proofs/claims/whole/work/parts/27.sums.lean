/-- what stands k-th in lane l, and what the model says of vehicle i -/
def sv (σ : fd_S) (l k : Nat) : Nat := (σ.2.1 18 (60 * l + k)).toNatClampNeg
def kd (σ : fd_S) (i : Nat) : Nat := (σ.2.1 10 i).toNatClampNeg
def qv (σ : fd_S) (w : Nat) (s : Int32) (i : Nat) : Int32 := (an_w (kd σ i) (σ.2.1 11 i) (σ.2.1 12 i) s 16 (kd σ i) w).1
def Vi (σ : fd_S) (i : Nat) : Prop := i < 60 ∧ kd σ i < 7 ∧ σ.2.1 10 i = nI (kd σ i)
def Vs (σ : fd_S) (l m : Nat) : Prop := m ≤ 60 ∧ σ.2.1 17 l = nI m ∧ ∀ k, k < m → σ.2.1 18 (60 * l + k) = nI (sv σ l k) ∧ Vi σ (sv σ l k)
def sL (σ : fd_S) (l : Nat) : Nat → Int32
  | 0 => σ.2.1 15 l
  | k + 1 => sL σ l k - (qv σ 0 0 (sv σ l k) + 5)
def sM (σ : fd_S) (l : Nat) : Nat → Int32
  | 0 => 0
  | k + 1 => sM σ l k + qv σ 1 0 (sv σ l k)
def sN (σ : fd_S) (l : Nat) : Nat → Int32
  | 0 => 0
  | k + 1 => sN σ l k + qv σ 2 0 (sv σ l k)
theorem jq_ne {t i j : Nat} (h : i ≠ 19) : ¬ JQ t i j := fun q => h q.1
theorem sq_idx (l k : Nat) : (fun x y : Int32 => x + y) ((fun x y : Int32 => x * y) 60 (nI l)) (nI k) = nI (60 * l + k) := by
  show nI 60 * nI l + nI k = _
  rw [pk_mul, nI_add]
section
variable (d l m t : Nat) (σ : fd_S) (post : Option fd_V → fd_S → Prop)
theorem ok_leftLength (hB : Mb σ) (hl : l < 4) (hS : Vs σ l m) (ht : σ.2.1 9 14 = nI t) (ht10 : t ≤ 10) (h1 : ∀ τ, SE (JQ t) σ τ → post (some (.inl (sL σ l m))) τ) : fd_Sem (d + 6) 66 [.inr (.inr (.inl (some 9))), .inl (nI l)] σ post := by
  obtain ⟨h20, r1, r2, r3, r4, r5, r6, r7, r8, r9, r13⟩ := id hB
  obtain ⟨hm60, h17, hst⟩ := id hS
  intro X hX hV
  have loop : ∀ f k τ, f + k = m → SE (JQ t) σ τ → X ((fd_code 66).drop 7) [(3, .inl (nI k)), (2, .inl (sL σ l k)), (0, .inr (.inr (.inl (some 9)))), (1, .inl (nI l))] [] τ 0 0 := by
    intro f
    induction f with
    | zero =>
      intro k τ hk hτ
      have : k = m := by omega
      subst this
      have h9 : 9 < τ.1 := by rw [hτ.1]; omega
      repeat (first | refine hX _ _ _ _ _ _ ?_ | refine Exists.intro _ (And.intro (by first | rfl | assumption) (And.intro (by first | assumption | exact fd_lt20 h20 (by decide)) (And.intro (by first | rfl | assumption) ?_))))
      refine se_iald hτ h20 r8 (by decide) rfl rfl hl h17 (jq_ne (by decide)) (by decide) ?_
      repeat refine hX _ _ _ _ _ _ ?_
      refine And.intro (fun hc => ?_) (fun hc => ?_) <;> try dsimp only [fd_icmp] at hc
      · repeat refine hX _ _ _ _ _ _ ?_
        exact h1 τ hτ
      · exact absurd (nI_le (Nat.le_refl k) (by omega)) hc
    | succ f ih =>
      intro k τ hk hτ
      have h9 : 9 < τ.1 := by rw [hτ.1]; omega
      obtain ⟨hsk, hvi⟩ := hst k (by omega)
      repeat (first | refine hX _ _ _ _ _ _ ?_ | refine Exists.intro _ (And.intro (by first | rfl | assumption) (And.intro (by first | assumption | exact fd_lt20 h20 (by decide)) (And.intro (by first | rfl | assumption) ?_))))
      refine se_iald hτ h20 r8 (by decide) rfl rfl hl h17 (jq_ne (by decide)) (by decide) ?_
      repeat refine hX _ _ _ _ _ _ ?_
      refine And.intro (fun hc => ?_) (fun hc => ?_) <;> try dsimp only [fd_icmp] at hc
      · rw [nI_leI (by omega) (by omega)] at hc
        omega
      · repeat (first | refine hX _ _ _ _ _ _ ?_ | refine Exists.intro _ (And.intro (by first | rfl | assumption) (And.intro (by first | assumption | exact fd_lt20 h20 (by decide)) (And.intro (by first | rfl | assumption) ?_))))
        refine se_iald hτ h20 r9 (by decide) rfl (sq_idx l k) (by omega) hsk (jq_ne (by decide)) (by decide) ?_
        repeat (first | refine hX _ _ _ _ _ _ ?_ | refine Exists.intro _ (And.intro (by first | rfl | assumption) (And.intro (by first | assumption | exact fd_lt20 h20 (by decide)) (And.intro (by first | rfl | assumption) ?_))))
        have hBτ : Mb τ := by unfold Mb; rw [hτ.1, hτ.2.1]; exact hB
        refine ok_quiet_0 d _ (kd σ (sv σ l k)) t (σ.2.1 11 (sv σ l k)) (σ.2.1 12 (sv σ l k)) 0 τ _ hBτ hvi.1 hvi.2.1 ?_ ?_ ?_ ?_ ht10 (fun τ2 hτ2 => ?_)
        · rw [hτ.2.2.2 10 _ (jq_ne (by decide))]; exact hvi.2.2
        · exact hτ.2.2.2 11 _ (jq_ne (by decide))
        · exact hτ.2.2.2 12 _ (jq_ne (by decide))
        · rw [hτ.2.2.2 9 14 (jq_ne (by decide))]; exact ht
        · iterate 6 refine hX _ _ _ _ _ _ ?_
          exact hV _ _ [(3, .inl (nI (k + 1))), (2, .inl (sL σ l (k + 1))), (0, .inr (.inr (.inl (some 9)))), (1, .inl (nI l))] _ _ _ _ (And.intro (congrArg (fun x => some (Sum.inl x)) (nI_1 k)) (And.intro rfl (And.intro rfl (And.intro rfl trivial)))) (ih (k + 1) τ2 (by omega) (hτ.trans hτ2))
  repeat (first | refine hX _ _ _ _ _ _ ?_ | refine Exists.intro _ (And.intro (by first | rfl | assumption) (And.intro (by first | assumption | exact fd_lt20 h20 (by decide)) (And.intro (by first | rfl | assumption) ?_))))
  refine se_iald (SE.rf (P := fun _ _ => False) σ) h20 r6 (by decide) rfl rfl hl rfl id (by decide) ?_
  iterate 3 refine hX _ _ _ _ _ _ ?_
  exact loop m 0 σ rfl (SE.rf σ)
theorem ok_carried (hB : Mb σ) (hl : l < 4) (hS : Vs σ l m) (ht : σ.2.1 9 14 = nI t) (ht10 : t ≤ 10) (h1 : ∀ τ, SE (JQ t) σ τ → post (some (.inl (sM σ l m))) τ) : fd_Sem (d + 6) 67 [.inr (.inr (.inl (some 9))), .inl (nI l)] σ post := by
  obtain ⟨h20, r1, r2, r3, r4, r5, r6, r7, r8, r9, r13⟩ := id hB
  obtain ⟨hm60, h17, hst⟩ := id hS
  intro X hX hV
  have loop : ∀ f k τ, f + k = m → SE (JQ t) σ τ → X ((fd_code 67).drop 4) [(3, .inl (nI k)), (2, .inl (sM σ l k)), (0, .inr (.inr (.inl (some 9)))), (1, .inl (nI l))] [] τ 0 0 := by
    intro f
    induction f with
    | zero =>
      intro k τ hk hτ
      have : k = m := by omega
      subst this
      have h9 : 9 < τ.1 := by rw [hτ.1]; omega
      repeat (first | refine hX _ _ _ _ _ _ ?_ | refine Exists.intro _ (And.intro (by first | rfl | assumption) (And.intro (by first | assumption | exact fd_lt20 h20 (by decide)) (And.intro (by first | rfl | assumption) ?_))))
      refine se_iald hτ h20 r8 (by decide) rfl rfl hl h17 (jq_ne (by decide)) (by decide) ?_
      repeat refine hX _ _ _ _ _ _ ?_
      refine And.intro (fun hc => ?_) (fun hc => ?_) <;> try dsimp only [fd_icmp] at hc
      · repeat refine hX _ _ _ _ _ _ ?_
        exact h1 τ hτ
      · exact absurd (nI_le (Nat.le_refl k) (by omega)) hc
    | succ f ih =>
      intro k τ hk hτ
      have h9 : 9 < τ.1 := by rw [hτ.1]; omega
      obtain ⟨hsk, hvi⟩ := hst k (by omega)
      repeat (first | refine hX _ _ _ _ _ _ ?_ | refine Exists.intro _ (And.intro (by first | rfl | assumption) (And.intro (by first | assumption | exact fd_lt20 h20 (by decide)) (And.intro (by first | rfl | assumption) ?_))))
      refine se_iald hτ h20 r8 (by decide) rfl rfl hl h17 (jq_ne (by decide)) (by decide) ?_
      repeat refine hX _ _ _ _ _ _ ?_
      refine And.intro (fun hc => ?_) (fun hc => ?_) <;> try dsimp only [fd_icmp] at hc
      · rw [nI_leI (by omega) (by omega)] at hc
        omega
      · repeat (first | refine hX _ _ _ _ _ _ ?_ | refine Exists.intro _ (And.intro (by first | rfl | assumption) (And.intro (by first | assumption | exact fd_lt20 h20 (by decide)) (And.intro (by first | rfl | assumption) ?_))))
        refine se_iald hτ h20 r9 (by decide) rfl (sq_idx l k) (by omega) hsk (jq_ne (by decide)) (by decide) ?_
        repeat (first | refine hX _ _ _ _ _ _ ?_ | refine Exists.intro _ (And.intro (by first | rfl | assumption) (And.intro (by first | assumption | exact fd_lt20 h20 (by decide)) (And.intro (by first | rfl | assumption) ?_))))
        have hBτ : Mb τ := by unfold Mb; rw [hτ.1, hτ.2.1]; exact hB
        refine ok_quiet_1 d _ (kd σ (sv σ l k)) t (σ.2.1 11 (sv σ l k)) (σ.2.1 12 (sv σ l k)) 0 τ _ hBτ hvi.1 hvi.2.1 ?_ ?_ ?_ ?_ ht10 (fun τ2 hτ2 => ?_)
        · rw [hτ.2.2.2 10 _ (jq_ne (by decide))]; exact hvi.2.2
        · exact hτ.2.2.2 11 _ (jq_ne (by decide))
        · exact hτ.2.2.2 12 _ (jq_ne (by decide))
        · rw [hτ.2.2.2 9 14 (jq_ne (by decide))]; exact ht
        · iterate 4 refine hX _ _ _ _ _ _ ?_
          exact hV _ _ [(3, .inl (nI (k + 1))), (2, .inl (sM σ l (k + 1))), (0, .inr (.inr (.inl (some 9)))), (1, .inl (nI l))] _ _ _ _ (And.intro (congrArg (fun x => some (Sum.inl x)) (nI_1 k)) (And.intro rfl (And.intro rfl (And.intro rfl trivial)))) (ih (k + 1) τ2 (by omega) (hτ.trans hτ2))
  iterate 4 refine hX _ _ _ _ _ _ ?_
  exact loop m 0 σ rfl (SE.rf σ)
theorem ok_lasts (hB : Mb σ) (hl : l < 4) (hS : Vs σ l m) (ht : σ.2.1 9 14 = nI t) (ht10 : t ≤ 10) (h1 : ∀ τ, SE (JQ t) σ τ → post (some (.inl (sN σ l m))) τ) : fd_Sem (d + 6) 68 [.inr (.inr (.inl (some 9))), .inl (nI l)] σ post := by
  obtain ⟨h20, r1, r2, r3, r4, r5, r6, r7, r8, r9, r13⟩ := id hB
  obtain ⟨hm60, h17, hst⟩ := id hS
  intro X hX hV
  have loop : ∀ f k τ, f + k = m → SE (JQ t) σ τ → X ((fd_code 68).drop 4) [(3, .inl (nI k)), (2, .inl (sN σ l k)), (0, .inr (.inr (.inl (some 9)))), (1, .inl (nI l))] [] τ 0 0 := by
    intro f
    induction f with
    | zero =>
      intro k τ hk hτ
      have : k = m := by omega
      subst this
      have h9 : 9 < τ.1 := by rw [hτ.1]; omega
      repeat (first | refine hX _ _ _ _ _ _ ?_ | refine Exists.intro _ (And.intro (by first | rfl | assumption) (And.intro (by first | assumption | exact fd_lt20 h20 (by decide)) (And.intro (by first | rfl | assumption) ?_))))
      refine se_iald hτ h20 r8 (by decide) rfl rfl hl h17 (jq_ne (by decide)) (by decide) ?_
      repeat refine hX _ _ _ _ _ _ ?_
      refine And.intro (fun hc => ?_) (fun hc => ?_) <;> try dsimp only [fd_icmp] at hc
      · repeat refine hX _ _ _ _ _ _ ?_
        exact h1 τ hτ
      · exact absurd (nI_le (Nat.le_refl k) (by omega)) hc
    | succ f ih =>
      intro k τ hk hτ
      have h9 : 9 < τ.1 := by rw [hτ.1]; omega
      obtain ⟨hsk, hvi⟩ := hst k (by omega)
      repeat (first | refine hX _ _ _ _ _ _ ?_ | refine Exists.intro _ (And.intro (by first | rfl | assumption) (And.intro (by first | assumption | exact fd_lt20 h20 (by decide)) (And.intro (by first | rfl | assumption) ?_))))
      refine se_iald hτ h20 r8 (by decide) rfl rfl hl h17 (jq_ne (by decide)) (by decide) ?_
      repeat refine hX _ _ _ _ _ _ ?_
      refine And.intro (fun hc => ?_) (fun hc => ?_) <;> try dsimp only [fd_icmp] at hc
      · rw [nI_leI (by omega) (by omega)] at hc
        omega
      · repeat (first | refine hX _ _ _ _ _ _ ?_ | refine Exists.intro _ (And.intro (by first | rfl | assumption) (And.intro (by first | assumption | exact fd_lt20 h20 (by decide)) (And.intro (by first | rfl | assumption) ?_))))
        refine se_iald hτ h20 r9 (by decide) rfl (sq_idx l k) (by omega) hsk (jq_ne (by decide)) (by decide) ?_
        repeat (first | refine hX _ _ _ _ _ _ ?_ | refine Exists.intro _ (And.intro (by first | rfl | assumption) (And.intro (by first | assumption | exact fd_lt20 h20 (by decide)) (And.intro (by first | rfl | assumption) ?_))))
        have hBτ : Mb τ := by unfold Mb; rw [hτ.1, hτ.2.1]; exact hB
        refine ok_quiet_2 d _ (kd σ (sv σ l k)) t (σ.2.1 11 (sv σ l k)) (σ.2.1 12 (sv σ l k)) 0 τ _ hBτ hvi.1 hvi.2.1 ?_ ?_ ?_ ?_ ht10 (fun τ2 hτ2 => ?_)
        · rw [hτ.2.2.2 10 _ (jq_ne (by decide))]; exact hvi.2.2
        · exact hτ.2.2.2 11 _ (jq_ne (by decide))
        · exact hτ.2.2.2 12 _ (jq_ne (by decide))
        · rw [hτ.2.2.2 9 14 (jq_ne (by decide))]; exact ht
        · iterate 4 refine hX _ _ _ _ _ _ ?_
          exact hV _ _ [(3, .inl (nI (k + 1))), (2, .inl (sN σ l (k + 1))), (0, .inr (.inr (.inl (some 9)))), (1, .inl (nI l))] _ _ _ _ (And.intro (congrArg (fun x => some (Sum.inl x)) (nI_1 k)) (And.intro rfl (And.intro rfl (And.intro rfl trivial)))) (ih (k + 1) τ2 (by omega) (hτ.trans hτ2))
  iterate 4 refine hX _ _ _ _ _ _ ?_
  exact loop m 0 σ rfl (SE.rf σ)
end
