def cdv (σ : fd_S) (a j : Nat) (f g : Int32) : Int32 := match j with
  | 0 => σ.2.1 a 1 - σ.2.1 a 3
  | 1 => σ.2.1 a 2 - σ.2.1 a 4
  | 2 => σ.2.1 a 6
  | 3 => σ.2.1 a 5
  | 4 => f
  | _ => g
def nof (σ : fd_S) (o : Option Nat) : Int32 := match o with
  | none => -1
  | some a => σ.2.1 a 0
theorem c_deck (d n : Nat) (x w : Int32) (σ : fd_S) (post : Option fd_V → fd_S → Prop) (hB : fd_B σ n) (hfl : ∀ l, l < 4 → ∀ j, ∀ a, σ.2.2.1 (5 + l) j = some a → a < σ.1 ∧ fd_sh a = .inl 2) (h0 : (∀ i, i < 4 → x ≠ nI i) → post (some (.inl (-2))) σ) (h0w : (w.toInt < 0 ∨ (5 : Int) < w.toInt) → post (some (.inl (-2))) σ) (h1 : ∀ l j, l < 4 → x = nI l → j ≤ 5 → w = nI j → post (some (.inl (cdv σ (5 + l) j (nof σ (σ.2.2.1 (5 + l) 7)) (nof σ (σ.2.2.1 (5 + l) 8))))) σ) : fd_Sem (d + 3) 34 [.inr (.inr (.inl (some 0))), .inl x, .inl w] σ post := by
  obtain ⟨h20, hN, hn, hcn, r0, r2, r3, r30, hva, hla⟩ := id hB
  intro X hX hV
  repeat (first | refine hX _ _ _ _ _ _ ?_ | refine Exists.intro _ (And.intro (by first | rfl | assumption) (And.intro (by first | assumption | exact fd_lt20 h20 (by decide)) (And.intro (by first | rfl | assumption) ?_))))
  refine ok_laneAt _ _ n _ _ hB (fun l hl e => ?_) (fun hno => ?_)
  · have hv : 5 + l < σ.1 := by omega
    have hs := fd_sh_lane hl
    repeat refine hX _ _ _ _ _ _ ?_
    refine And.intro (fun _ => ?_) (fun hc => by cases hc)
    repeat refine hX _ _ _ _ _ _ ?_
    rcases ts_cases w 5 with hx | ⟨j, hj, rfl⟩
    · refine Or.inr (And.intro hx ?_)
      repeat refine hX _ _ _ _ _ _ ?_
      exact h0w hx
    · have hz := h1 l j hl e hj rfl
      clear h1
      match j, hj, hz with
      | 0, _, h1 =>
        refine Or.inl (Exists.intro 0 (Exists.intro _ (And.intro rfl (And.intro (by decide) ?_))))
        repeat (first | refine hX _ _ _ _ _ _ ?_ | refine Exists.intro _ (And.intro (by first | rfl | assumption) (And.intro (by first | assumption | exact fd_lt20 h20 (by decide)) (And.intro (by first | rfl | assumption) ?_))))
        refine ok_lengthLeft _ _ _ _ hv hs ?_
        repeat refine hX _ _ _ _ _ _ ?_
        exact h1
      | 1, _, h1 =>
        refine Or.inl (Exists.intro 1 (Exists.intro _ (And.intro rfl (And.intro (by decide) ?_))))
        repeat (first | refine hX _ _ _ _ _ _ ?_ | refine Exists.intro _ (And.intro (by first | rfl | assumption) (And.intro (by first | assumption | exact fd_lt20 h20 (by decide)) (And.intro (by first | rfl | assumption) ?_))))
        refine ok_bearingLeft _ _ _ _ hv hs ?_
        repeat refine hX _ _ _ _ _ _ ?_
        exact h1
      | 2, _, h1 =>
        refine Or.inl (Exists.intro 2 (Exists.intro _ (And.intro rfl (And.intro (by decide) ?_))))
        repeat (first | refine hX _ _ _ _ _ _ ?_ | refine Exists.intro _ (And.intro (by first | rfl | assumption) (And.intro (by first | assumption | exact fd_lt20 h20 (by decide)) (And.intro (by first | rfl | assumption) ?_))))
        exact h1
      | 3, _, h1 =>
        refine Or.inl (Exists.intro 3 (Exists.intro _ (And.intro rfl (And.intro (by decide) ?_))))
        repeat (first | refine hX _ _ _ _ _ _ ?_ | refine Exists.intro _ (And.intro (by first | rfl | assumption) (And.intro (by first | assumption | exact fd_lt20 h20 (by decide)) (And.intro (by first | rfl | assumption) ?_))))
        exact h1
      | 4, _, h1 =>
        refine Or.inl (Exists.intro 4 (Exists.intro _ (And.intro rfl (And.intro (by decide) ?_))))
        repeat (first | refine hX _ _ _ _ _ _ ?_ | refine Exists.intro _ (And.intro (by first | rfl | assumption) (And.intro (by first | assumption | exact fd_lt20 h20 (by decide)) (And.intro (by first | rfl | assumption) ?_))))
        have h1 : post (some (.inl (nof σ (σ.2.2.1 (5 + l) 7)))) σ := h1
        refine ok_numberOf _ _ _ _ (fun ho => ?_) (fun a ho => ?_)
        · rw [ho] at h1
          repeat refine hX _ _ _ _ _ _ ?_
          exact h1
        · obtain ⟨q1, q2⟩ := hfl l hl 7 a ho
          rw [ho] at h1
          refine ⟨q1, q2, ?_⟩
          repeat refine hX _ _ _ _ _ _ ?_
          exact h1
      | 5, _, h1 =>
        refine Or.inl (Exists.intro 5 (Exists.intro _ (And.intro rfl (And.intro (by decide) ?_))))
        repeat (first | refine hX _ _ _ _ _ _ ?_ | refine Exists.intro _ (And.intro (by first | rfl | assumption) (And.intro (by first | assumption | exact fd_lt20 h20 (by decide)) (And.intro (by first | rfl | assumption) ?_))))
        have h1 : post (some (.inl (nof σ (σ.2.2.1 (5 + l) 8)))) σ := h1
        refine ok_numberOf _ _ _ _ (fun ho => ?_) (fun a ho => ?_)
        · rw [ho] at h1
          repeat refine hX _ _ _ _ _ _ ?_
          exact h1
        · obtain ⟨q1, q2⟩ := hfl l hl 8 a ho
          rw [ho] at h1
          refine ⟨q1, q2, ?_⟩
          repeat refine hX _ _ _ _ _ _ ?_
          exact h1
      | j + 6, hj, _ => omega
  · repeat refine hX _ _ _ _ _ _ ?_
    refine And.intro (fun hc => absurd rfl hc) (fun _ => ?_)
    repeat refine hX _ _ _ _ _ _ ?_
    exact h0 hno
theorem sq_idx0 (l : Nat) : (fun x y : Int32 => x * y) 60 (nI l) = nI (60 * l + 0) := by
  show nI 60 * nI l = _
  rw [pk_mul]
  rfl
theorem sq_idxm (l m : Nat) (h : 0 < m) : (fun x y : Int32 => x - y) ((fun x y : Int32 => x + y) ((fun x y : Int32 => x * y) 60 (nI l)) (nI m)) 1 = nI (60 * l + (m - 1)) := by
  show nI 60 * nI l + nI m - 1 = _
  rw [pk_mul, nI_add, show 60 * l + m = (60 * l + (m - 1)) + 1 by omega]
  exact nI_pred _
def mdv (σ : fd_S) (l m j : Nat) : Int32 := match j with
  | 0 => sL σ l m
  | 1 => σ.2.1 16 l - sM σ l m
  | 2 => nI m
  | 3 => sN σ l m
  | 4 => if m = 0 then -1 else σ.2.1 18 (60 * l + 0)
  | _ => if m = 0 then -1 else σ.2.1 18 (60 * l + (m - 1))
theorem m_deck (d t : Nat) (m : Nat → Nat) (x w : Int32) (σ : fd_S) (post : Option fd_V → fd_S → Prop) (hB : Mb σ) (hS : ∀ l, l < 4 → Vs σ l (m l)) (ht : σ.2.1 9 14 = nI t) (ht10 : t ≤ 10) (h0 : (∀ i, i < 4 → x ≠ nI i) → post (some (.inl (-2))) σ) (h0w : ¬ (0 ≤ w ∧ w ≤ 5) → post (some (.inl (-2))) σ) (h1 : ∀ l j, l < 4 → x = nI l → j ≤ 5 → w = nI j → ∀ τ, SE (JQ t) σ τ → post (some (.inl (mdv σ l (m l) j))) τ) : fd_Sem (d + 7) 76 [.inr (.inr (.inl (some 9))), .inl x, .inl w] σ post := by
  obtain ⟨h20, r1, r2, r3, r4, r5, r6, r7, r8, r9, r13⟩ := id hB
  intro X hX hV
  repeat (first | refine hX _ _ _ _ _ _ ?_ | refine Exists.intro _ (And.intro (by first | rfl | assumption) (And.intro (by first | assumption | exact fd_lt20 h20 (by decide)) (And.intro (by first | rfl | assumption) ?_))))
  refine ok_isLane _ _ _ _ (fun l hl e => ?_) (fun hno => ?_)
  · repeat refine hX _ _ _ _ _ _ ?_
    refine And.intro (fun hc => absurd (show (1 : Int32) = 0 from hc) (by decide)) (fun _ => ?_)
    repeat refine hX _ _ _ _ _ _ ?_
    refine ok_in _ _ _ _ _ _ (fun ha hb => ?_) (fun ha => ?_)
    · obtain ⟨j, hj, rfl⟩ : ∃ j, j < 6 ∧ w = nI j := ix_of (by decide) ha (by rw [show (nI 6 - 1 : Int32) = 5 by decide]; exact hb)
      have hz := h1 l j hl e (by omega) rfl
      clear h1
      subst e
      obtain ⟨hm60, h17, hst⟩ := id (hS l hl)
      repeat refine hX _ _ _ _ _ _ ?_
      refine And.intro (fun _ => ?_) (fun hc => absurd (show (1 : Int32) = 0 from hc) (by decide))
      repeat refine hX _ _ _ _ _ _ ?_
      match j, hj, hz with
      | 0, _, h1 =>
        refine Or.inl (Exists.intro 0 (Exists.intro _ (And.intro rfl (And.intro (by decide) ?_))))
        repeat (first | refine hX _ _ _ _ _ _ ?_ | refine Exists.intro _ (And.intro (by first | rfl | assumption) (And.intro (by first | assumption | exact fd_lt20 h20 (by decide)) (And.intro (by first | rfl | assumption) ?_))))
        refine ok_leftLength _ l (m l) t σ _ hB hl (hS l hl) ht ht10 (fun τ hτ => ?_)
        repeat refine hX _ _ _ _ _ _ ?_
        exact h1 τ hτ
      | 1, _, h1 =>
        refine Or.inl (Exists.intro 1 (Exists.intro _ (And.intro rfl (And.intro (by decide) ?_))))
        repeat (first | refine hX _ _ _ _ _ _ ?_ | refine Exists.intro _ (And.intro (by first | rfl | assumption) (And.intro (by first | assumption | exact fd_lt20 h20 (by decide)) (And.intro (by first | rfl | assumption) ?_))))
        refine se_iald (SE.rf (P := fun _ _ => False) σ) h20 r7 (by decide) rfl rfl hl rfl id (by decide) ?_
        repeat (first | refine hX _ _ _ _ _ _ ?_ | refine Exists.intro _ (And.intro (by first | rfl | assumption) (And.intro (by first | assumption | exact fd_lt20 h20 (by decide)) (And.intro (by first | rfl | assumption) ?_))))
        refine ok_carried _ l (m l) t σ _ hB hl (hS l hl) ht ht10 (fun τ hτ => ?_)
        repeat refine hX _ _ _ _ _ _ ?_
        exact h1 τ hτ
      | 2, _, h1 =>
        refine Or.inl (Exists.intro 2 (Exists.intro _ (And.intro rfl (And.intro (by decide) ?_))))
        repeat (first | refine hX _ _ _ _ _ _ ?_ | refine Exists.intro _ (And.intro (by first | rfl | assumption) (And.intro (by first | assumption | exact fd_lt20 h20 (by decide)) (And.intro (by first | rfl | assumption) ?_))))
        refine se_iald (SE.rf (P := fun _ _ => False) σ) h20 r8 (by decide) rfl rfl hl h17 id (by decide) ?_
        repeat refine hX _ _ _ _ _ _ ?_
        exact h1 σ (SE.rf σ)
      | 3, _, h1 =>
        refine Or.inl (Exists.intro 3 (Exists.intro _ (And.intro rfl (And.intro (by decide) ?_))))
        repeat (first | refine hX _ _ _ _ _ _ ?_ | refine Exists.intro _ (And.intro (by first | rfl | assumption) (And.intro (by first | assumption | exact fd_lt20 h20 (by decide)) (And.intro (by first | rfl | assumption) ?_))))
        refine ok_lasts _ l (m l) t σ _ hB hl (hS l hl) ht ht10 (fun τ hτ => ?_)
        repeat refine hX _ _ _ _ _ _ ?_
        exact h1 τ hτ
      | 4, _, h1 =>
        refine Or.inl (Exists.intro 4 (Exists.intro _ (And.intro rfl (And.intro (by decide) ?_))))
        repeat (first | refine hX _ _ _ _ _ _ ?_ | refine Exists.intro _ (And.intro (by first | rfl | assumption) (And.intro (by first | assumption | exact fd_lt20 h20 (by decide)) (And.intro (by first | rfl | assumption) ?_))))
        refine se_iald (SE.rf (P := fun _ _ => False) σ) h20 r8 (by decide) rfl rfl hl h17 id (by decide) ?_
        repeat refine hX _ _ _ _ _ _ ?_
        have h1 : post (some (.inl (if m l = 0 then -1 else σ.2.1 18 (60 * l + 0)))) σ := h1 σ (SE.rf σ)
        by_cases hm0 : m l = 0
        · rw [if_pos hm0] at h1
          refine And.intro (fun hc => absurd (show nI (m l) = 0 by rw [hm0]; rfl) hc) (fun _ => ?_)
          repeat refine hX _ _ _ _ _ _ ?_
          exact h1
        · rw [if_neg hm0] at h1
          refine And.intro (fun _ => ?_) (fun hc => absurd hc (nI_ne0 (by omega) (by omega)))
          repeat (first | refine hX _ _ _ _ _ _ ?_ | refine Exists.intro _ (And.intro (by first | rfl | assumption) (And.intro (by first | assumption | exact fd_lt20 h20 (by decide)) (And.intro (by first | rfl | assumption) ?_))))
          refine se_iald (SE.rf (P := fun _ _ => False) σ) h20 r9 (by decide) rfl (sq_idx0 l) (by omega) rfl id (by decide) ?_
          repeat refine hX _ _ _ _ _ _ ?_
          exact h1
      | 5, _, h1 =>
        refine Or.inr (And.intro (by decide) ?_)
        repeat (first | refine hX _ _ _ _ _ _ ?_ | refine Exists.intro _ (And.intro (by first | rfl | assumption) (And.intro (by first | assumption | exact fd_lt20 h20 (by decide)) (And.intro (by first | rfl | assumption) ?_))))
        refine se_iald (SE.rf (P := fun _ _ => False) σ) h20 r8 (by decide) rfl rfl hl h17 id (by decide) ?_
        repeat refine hX _ _ _ _ _ _ ?_
        have h1 : post (some (.inl (if m l = 0 then -1 else σ.2.1 18 (60 * l + (m l - 1))))) σ := h1 σ (SE.rf σ)
        by_cases hm0 : m l = 0
        · rw [if_pos hm0] at h1
          refine And.intro (fun hc => absurd (show nI (m l) = 0 by rw [hm0]; rfl) hc) (fun _ => ?_)
          repeat refine hX _ _ _ _ _ _ ?_
          exact h1
        · rw [if_neg hm0] at h1
          refine And.intro (fun _ => ?_) (fun hc => absurd hc (nI_ne0 (by omega) (by omega)))
          repeat (first | refine hX _ _ _ _ _ _ ?_ | refine Exists.intro _ (And.intro (by first | rfl | assumption) (And.intro (by first | assumption | exact fd_lt20 h20 (by decide)) (And.intro (by first | rfl | assumption) ?_))))
          refine se_iald (SE.rf (P := fun _ _ => False) σ) h20 r8 (by decide) rfl rfl hl h17 id (by decide) ?_
          repeat refine hX _ _ _ _ _ _ ?_
          refine se_iald (SE.rf (P := fun _ _ => False) σ) h20 r9 (by decide) rfl (sq_idxm l (m l) (by omega)) (by omega) rfl id (by decide) ?_
          repeat refine hX _ _ _ _ _ _ ?_
          exact h1
    · repeat refine hX _ _ _ _ _ _ ?_
      refine And.intro (fun hc => absurd (show (0 : Int32) = 0 from rfl) hc) (fun _ => ?_)
      repeat refine hX _ _ _ _ _ _ ?_
      exact h0w ha
  · repeat refine hX _ _ _ _ _ _ ?_
    refine And.intro (fun _ => ?_) (fun hc => absurd (show (0 : Int32) = 0 from rfl) hc)
    repeat refine hX _ _ _ _ _ _ ?_
    exact h0 hno
