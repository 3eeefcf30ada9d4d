def pr (σ : fd_S) (b k : Nat) : Int32 := if σ.2.1 b 7 = -3 then (an_w k (σ.2.1 b 2) (σ.2.1 b 3) (σ.2.1 0 4) 16 k 3).1 else (an_w k (σ.2.1 b 2) (σ.2.1 b 3) (σ.2.1 0 4) 16 k 3).1 + σ.2.1 b 7
def room (σ : fd_S) (a b : Nat) : Prop := σ.2.1 b 4 + 5 ≤ σ.2.1 a 1 - σ.2.1 a 3 ∧ σ.2.1 b 5 ≤ σ.2.1 a 2 - σ.2.1 a 4
def near (σ : fd_S) (a b : Nat) : Prop := ∃ c, σ.2.2.1 a 8 = some c ∧ ¬ σ.2.1 c 8 = -3 ∧ ¬ σ.2.1 b 8 = -3 ∧ 5 < σ.2.1 c 8 + σ.2.1 b 8
theorem c_board (d n : Nat) (x y : Int32) (σ : fd_S) (post : Option fd_V → fd_S → Prop) (hB : fd_B σ n) (tl : Nat) (htl : tl ≤ 10) (h31 : σ.2.1 3 1 = nI tl) (h32 : σ.2.1 3 2 = 0) (hfl : ∀ l, l < 4 → ∀ j, ∀ a, σ.2.2.1 (5 + l) j = some a → a < σ.1 ∧ fd_sh a = .inl 2) (h0 : ¬ ((∃ i, i < n ∧ x = nI i) ∧ ∃ l, l < 4 ∧ y = nI l) → post (some (.inl (-2))) σ)
    (h1 : ∀ i l, i < n → x = nI i → l < 4 → y = nI l → (¬ σ.2.1 (20 + i) 9 = 0 → post (some (.inl (-3))) σ) ∧ (σ.2.1 (20 + i) 9 = 0 → ¬ room σ (5 + l) (20 + i) → post (some (.inl (-4))) σ) ∧ (σ.2.1 (20 + i) 9 = 0 → room σ (5 + l) (20 + i) → near σ (5 + l) (20 + i) → post (some (.inl (-5))) σ) ∧ (σ.2.1 (20 + i) 9 = 0 → room σ (5 + l) (20 + i) → ¬ near σ (5 + l) (20 + i) → ∃ k, k < 7 ∧ σ.2.1 (20 + i) 1 = nI k ∧ ∀ τ, SE JC σ τ → post (some (.inl (pr σ (20 + i) k))) (fd_sl (fd_si (ap_s τ (5 + l) (20 + i)) (20 + i) 13 (pr σ (20 + i) k)) 0 6 (σ.2.2.2 0 6 + (pr σ (20 + i) k).toInt64)))) : fd_Sem (d + 62) 29 [.inr (.inr (.inl (some 0))), .inl x, .inl y] σ post := by
  obtain ⟨h20, hN, hn, hcn, r0, r2, r3, r30, hva, hla⟩ := id hB
  intro X hX hV
  repeat (first | refine hX _ _ _ _ _ _ ?_ | refine Exists.intro _ (And.intro (by first | rfl | assumption) (And.intro (by first | assumption | exact fd_lt20 h20 (by decide)) (And.intro (by first | rfl | assumption) ?_))))
  refine ok_vehicleAt _ _ n _ _ hB (fun i hi e => ?_) (fun hno => ?_)
  · have hvi : 20 + i < σ.1 := by omega
    have hsi := fd_shV i
    repeat (first | refine hX _ _ _ _ _ _ ?_ | refine Exists.intro _ (And.intro (by first | rfl | assumption) (And.intro (by first | assumption | exact fd_lt20 h20 (by decide)) (And.intro (by first | rfl | assumption) ?_))))
    refine ok_laneAt _ _ n _ _ hB (fun l hl e2 => ?_) (fun hno => ?_)
    · have hvl : 5 + l < σ.1 := by omega
      have hsl := fd_sh_lane hl
      obtain ⟨g3, g4, g5, g1⟩ := h1 i l hi e hl e2
      clear h1
      repeat refine hX _ _ _ _ _ _ ?_
      refine And.intro (fun hc => by cases hc) (fun _ => ?_)
      repeat refine hX _ _ _ _ _ _ ?_
      refine And.intro (fun _ => ?_) (fun hc => by cases hc)
      repeat (first | refine hX _ _ _ _ _ _ ?_ | refine Exists.intro _ (And.intro (by first | rfl | assumption) (And.intro (by first | assumption | exact fd_lt20 h20 (by decide)) (And.intro (by first | rfl | assumption) ?_))))
      refine And.intro (fun hh => ?_) (fun hh => ?_)
      · have hh : σ.2.1 (20 + i) 9 = 0 := hh
        repeat (first | refine hX _ _ _ _ _ _ ?_ | refine Exists.intro _ (And.intro (by first | rfl | assumption) (And.intro (by first | assumption | exact fd_lt20 h20 (by decide)) (And.intro (by first | rfl | assumption) ?_))))
        refine ok_hasRoomFor _ _ _ _ _ hvl hsl hvi hsi (fun ha hb => ?_) (fun ha => ?_)
        · have hr : room σ (5 + l) (20 + i) := ⟨ha, hb⟩
          repeat refine hX _ _ _ _ _ _ ?_
          refine And.intro (fun _ => ?_) (fun hc => absurd (show (1 : Int32) = 0 from hc) (by decide))
          repeat (first | refine hX _ _ _ _ _ _ ?_ | refine Exists.intro _ (And.intro (by first | rfl | assumption) (And.intro (by first | assumption | exact fd_lt20 h20 (by decide)) (And.intro (by first | rfl | assumption) ?_))))
          refine ok_tooNear _ (20 + i) (σ.2.2.1 (5 + l) 8) _ _ hvi hsi (fun a ho => hfl l hl 8 a ho) (fun c ho m1 m2 m5 => ?_) (fun hno => ?_)
          · repeat refine hX _ _ _ _ _ _ ?_
            refine And.intro (fun hc => absurd (show (1 : Int32) = 0 from hc) (by decide)) (fun _ => ?_)
            repeat refine hX _ _ _ _ _ _ ?_
            exact g5 hh hr ⟨c, ho, m1, m2, m5⟩
          · obtain ⟨k, hk7, hk, g1⟩ := g1 hh hr hno
            repeat refine hX _ _ _ _ _ _ ?_
            refine And.intro (fun _ => ?_) (fun hc => absurd (show (0 : Int32) = 0 from rfl) hc)
            repeat (first | refine hX _ _ _ _ _ _ ?_ | refine Exists.intro _ (And.intro (by first | rfl | assumption) (And.intro (by first | assumption | exact fd_lt20 h20 (by decide)) (And.intro (by first | rfl | assumption) ?_))))
            refine ok_price d (20 + i) k _ _ σ _ h20 r3 r30 tl htl h31 h32 hvi hsi hk7 hk rfl rfl (fun τ hτ => ?_)
            have g1 := g1 τ hτ
            have hi2 : 20 + i < τ.1 := by rw [hτ.1]; exact hvi
            have hl2 : 5 + l < τ.1 := by rw [hτ.1]; exact hvl
            have hz2 : 0 < τ.1 := by rw [hτ.1]; omega
            rw [← hτ.2.2.1] at g1
            repeat (first | refine hX _ _ _ _ _ _ ?_ | refine Exists.intro _ (And.intro (by first | rfl | assumption) (And.intro (by first | assumption | exact fd_lt20 h20 (by decide)) (And.intro (by first | rfl | assumption) ?_))))
            refine ok_append _ _ _ _ _ hl2 hsl hi2 hsi ?_
            have hi3 : 20 + i < (ap_s τ (5 + l) (20 + i)).1 := hi2
            have hz3 : 0 < (ap_s τ (5 + l) (20 + i)).1 := hz2
            repeat (first | refine hX _ _ _ _ _ _ ?_ | refine Exists.intro _ (And.intro (by first | rfl | assumption) (And.intro (by first | assumption | exact fd_lt20 h20 (by decide)) (And.intro (by first | rfl | assumption) ?_))))
            exact g1
        · repeat refine hX _ _ _ _ _ _ ?_
          refine And.intro (fun hc => absurd (show (0 : Int32) = 0 from rfl) hc) (fun _ => ?_)
          repeat refine hX _ _ _ _ _ _ ?_
          exact g4 hh ha
      · repeat refine hX _ _ _ _ _ _ ?_
        exact g3 hh
    · repeat refine hX _ _ _ _ _ _ ?_
      refine And.intro (fun hc => by cases hc) (fun _ => ?_)
      repeat refine hX _ _ _ _ _ _ ?_
      refine And.intro (fun hc => absurd rfl hc) (fun _ => ?_)
      repeat refine hX _ _ _ _ _ _ ?_
      exact h0 (fun ⟨_, l, hl, e⟩ => hno l hl e)
  · repeat (first | refine hX _ _ _ _ _ _ ?_ | refine Exists.intro _ (And.intro (by first | rfl | assumption) (And.intro (by first | assumption | exact fd_lt20 h20 (by decide)) (And.intro (by first | rfl | assumption) ?_))))
    refine ok_laneAt _ _ n _ _ hB (fun l hl e2 => ?_) (fun hno2 => ?_)
    · repeat refine hX _ _ _ _ _ _ ?_
      refine And.intro (fun _ => ?_) (fun hc => absurd rfl hc)
      repeat refine hX _ _ _ _ _ _ ?_
      exact h0 (fun ⟨⟨i, hi, e⟩, _⟩ => hno i hi e)
    · repeat refine hX _ _ _ _ _ _ ?_
      refine And.intro (fun _ => ?_) (fun hc => absurd rfl hc)
      repeat refine hX _ _ _ _ _ _ ?_
      exact h0 (fun ⟨⟨i, hi, e⟩, _⟩ => hno i hi e)
