def cn (σ : fd_S) (h : Int32) : Nat → Int32
  | 0 => 0
  | i + 1 => if σ.2.1 (20 + i) 9 = h then cn σ h i + 1 else cn σ h i
theorem ok_countOf (d n : Nat) (h : Int32) (σ : fd_S) (post : Option fd_V → fd_S → Prop) (hB : fd_B σ n) (h1 : post (some (.inl (cn σ h n))) σ) : fd_Sem (d + 3) 41 [.inr (.inr (.inl (some 0))), .inl h] σ post := by
  obtain ⟨h20, hN, hn, hcn, r0, r2, r3, r30, hva, hla⟩ := id hB
  intro X hX hV
  have loop : ∀ f i, f + i = n → X ((fd_code 41).drop 4) [(3, .inl (nI i)), (2, .inl (cn σ h i)), (0, .inr (.inr (.inl (some 0)))), (1, .inl h)] [] σ 0 0 := by
    intro f
    induction f with
    | zero =>
      intro i hi
      have : i = n := by omega
      subst this
      repeat (first | refine hX _ _ _ _ _ _ ?_ | refine Exists.intro _ (And.intro (by first | rfl | assumption) (And.intro (by first | assumption | exact fd_lt20 h20 (by decide)) (And.intro (by first | rfl | assumption) ?_))))
      refine And.intro (fun hc => ?_) (fun hc => ?_) <;> try dsimp only [fd_icmp] at hc
      · repeat refine hX _ _ _ _ _ _ ?_
        exact h1
      · exact absurd (by rw [hcn]; exact nI_le (Nat.le_refl i) (by omega)) hc
    | succ f ih =>
      intro i hi
      repeat (first | refine hX _ _ _ _ _ _ ?_ | refine Exists.intro _ (And.intro (by first | rfl | assumption) (And.intro (by first | assumption | exact fd_lt20 h20 (by decide)) (And.intro (by first | rfl | assumption) ?_))))
      refine And.intro (fun hc => ?_) (fun hc => ?_) <;> try dsimp only [fd_icmp] at hc
      · rw [hcn, nI_leI (by omega) (by omega)] at hc
        omega
      · repeat (first | refine hX _ _ _ _ _ _ ?_ | refine Exists.intro _ (And.intro (by first | rfl | assumption) (And.intro (by first | assumption | exact fd_lt20 h20 (by decide)) (And.intro (by first | rfl | assumption) ?_))))
        refine ok_vehicleAt _ _ n _ _ hB (fun i' hi' e => ?_) (fun hno => absurd rfl (hno i (by omega)))
        rw [nI_eq (by omega) (by omega)] at e
        subst e
        have hv : 20 + i < σ.1 := by omega
        have hs := fd_shV i
        repeat refine hX _ _ _ _ _ _ ?_
        refine And.intro (fun hc => by cases hc) (fun _ => ?_)
        repeat (first | refine hX _ _ _ _ _ _ ?_ | refine Exists.intro _ (And.intro (by first | rfl | assumption) (And.intro (by first | assumption | exact fd_lt20 h20 (by decide)) (And.intro (by first | rfl | assumption) ?_))))
        refine And.intro (fun hc => ?_) (fun hc => ?_) <;> try dsimp only [fd_icmp] at hc
        · refine hX _ _ _ _ _ _ ?_
          refine hX _ _ _ _ _ _ ?_
          refine hV _ _ [(3, .inl (nI (i + 1))), (2, .inl (cn σ h (i + 1))), (0, .inr (.inr (.inl (some 0)))), (1, .inl h)] _ _ _ _ (And.intro (congrArg (fun x => some (Sum.inl x)) (nI_1 i)) (And.intro (congrArg (fun x => some (Sum.inl x)) (if_neg hc).symm) (And.intro rfl (And.intro rfl trivial)))) (ih (i + 1) (by omega))
        · refine hX _ _ _ _ _ _ ?_
          refine hX _ _ _ _ _ _ ?_
          refine hX _ _ _ _ _ _ ?_
          refine hV _ _ [(3, .inl (nI (i + 1))), (2, .inl (cn σ h (i + 1))), (0, .inr (.inr (.inl (some 0)))), (1, .inl h)] _ _ _ _ (And.intro (congrArg (fun x => some (Sum.inl x)) (nI_1 i)) (And.intro (congrArg (fun x => some (Sum.inl x)) (if_pos hc).symm) (And.intro rfl (And.intro rfl trivial)))) (ih (i + 1) (by omega))
  iterate 4 refine hX _ _ _ _ _ _ ?_
  exact loop n 0 rfl
/-- apart -/
theorem ok_apart (d n : Nat) (σ : fd_S) (post : Option fd_V → fd_S → Prop) (hB : fd_B σ n) (h1 : post (some (.inl (0 + σ.2.1 5 4 + σ.2.1 6 4 + -σ.2.1 7 4 + -σ.2.1 8 4))) σ) : fd_Sem (d + 1) 45 [.inr (.inr (.inl (some 0)))] σ post := by
  obtain ⟨h20, hN, hn, hcn, r0, r2, r3, r30, hva, hla⟩ := id hB
  intro X hX hV
  have step : ∀ l, l < 4 → ∀ acc : Int32, X ((fd_code 45).drop 4) [(2, .inl (nI (l + 1))), (1, .inl (if l < 2 then acc + σ.2.1 (5 + l) 4 else acc + -σ.2.1 (5 + l) 4)), (0, .inr (.inr (.inl (some 0))))] [] σ 0 0 → X ((fd_code 45).drop 4) [(2, .inl (nI l)), (1, .inl acc), (0, .inr (.inr (.inl (some 0))))] [] σ 0 0 := by
    intro l hl acc hgo
    have hv : 5 + l < σ.1 := by omega
    have hs := fd_sh_lane hl
    repeat refine hX _ _ _ _ _ _ ?_
    refine And.intro (fun hc => ?_) (fun hc => ?_) <;> try dsimp only [fd_icmp] at hc
    · have h2 : nI 4 ≤ nI l := hc
      rw [nI_leI (by omega) (by omega)] at h2
      omega
    · repeat (first | refine hX _ _ _ _ _ _ ?_ | refine Exists.intro _ (And.intro (by first | rfl | assumption) (And.intro (by first | assumption | exact fd_lt20 h20 (by decide)) (And.intro (by first | rfl | assumption) ?_))))
      refine Exists.intro _ (Exists.intro _ (Exists.intro _ (And.intro (by first | rfl | assumption) (And.intro (by first | assumption | exact fd_lt20 h20 (by decide)) (And.intro (by first | rfl | assumption) (And.intro (vp_in_nI hl (by decide)) ?_))))))
      have e : σ.2.2.1 2 (nI l).toNatClampNeg = some (5 + l) := by rw [nI_clamp (by omega)]; exact hla l hl
      refine hX _ _ _ _ _ _ ?_
      rw [e]
      repeat (first | refine hX _ _ _ _ _ _ ?_ | refine Exists.intro _ (And.intro (by first | rfl | assumption) (And.intro (by first | assumption | exact fd_lt20 h20 (by decide)) (And.intro (by first | rfl | assumption) ?_))))
      refine And.intro (fun hc => ?_) (fun hc => ?_) <;> try dsimp only [fd_icmp] at hc
      · have h2 : nI 2 ≤ nI l := hc
        rw [nI_leI (by omega) (by omega)] at h2
        rw [if_neg (by omega)] at hgo
        iterate 6 refine hX _ _ _ _ _ _ ?_
        refine hV _ _ [(2, .inl (nI (l + 1))), (1, .inl (acc + -σ.2.1 (5 + l) 4)), (0, .inr (.inr (.inl (some 0))))] _ _ _ _ (And.intro (congrArg (fun x => some (Sum.inl x)) (nI_1 l)) (And.intro rfl (And.intro rfl trivial))) hgo
      · have h2 : ¬ nI 2 ≤ nI l := hc
        rw [nI_leI (by omega) (by omega)] at h2
        rw [if_pos (by omega)] at hgo
        iterate 6 refine hX _ _ _ _ _ _ ?_
        refine hV _ _ [(2, .inl (nI (l + 1))), (1, .inl (acc + σ.2.1 (5 + l) 4)), (0, .inr (.inr (.inl (some 0))))] _ _ _ _ (And.intro (congrArg (fun x => some (Sum.inl x)) (nI_1 l)) (And.intro rfl (And.intro rfl trivial))) hgo
  iterate 4 refine hX _ _ _ _ _ _ ?_
  refine step 0 (by decide) 0 (step 1 (by decide) _ (step 2 (by decide) _ (step 3 (by decide) _ ?_)))
  repeat refine hX _ _ _ _ _ _ ?_
  refine And.intro (fun _ => ?_) (fun hc => absurd (show (4 : Int32) ≤ nI 4 from nI_le (a := 4) (Nat.le_refl 4) (by decide)) hc)
  repeat refine hX _ _ _ _ _ _ ?_
  exact h1
/-- longestMinutes -/
def mx (x y : Int32) : Int32 := if x < y then y else x
theorem ok_longest (d n : Nat) (σ : fd_S) (post : Option fd_V → fd_S → Prop) (hB : fd_B σ n) (h1 : post (some (.inl (mx (mx (mx (mx 0 (σ.2.1 5 5)) (σ.2.1 6 5)) (σ.2.1 7 5)) (σ.2.1 8 5)))) σ) : fd_Sem (d + 1) 46 [.inr (.inr (.inl (some 0)))] σ post := by
  obtain ⟨h20, hN, hn, hcn, r0, r2, r3, r30, hva, hla⟩ := id hB
  intro X hX hV
  have step : ∀ l, l < 4 → ∀ acc : Int32, X ((fd_code 46).drop 10) [(4, .inl (nI (l + 1))), (1, .inl (mx acc (σ.2.1 (5 + l) 5))), (2, .inr (.inr (.inl (some 2)))), (3, .inl (nI 4))] [] σ 0 0 → X ((fd_code 46).drop 10) [(4, .inl (nI l)), (1, .inl acc), (2, .inr (.inr (.inl (some 2)))), (3, .inl (nI 4))] [] σ 0 0 := by
    intro l hl acc hgo
    have hv : 5 + l < σ.1 := by omega
    have hs := fd_sh_lane hl
    repeat refine hX _ _ _ _ _ _ ?_
    refine And.intro (fun hc => ?_) (fun hc => ?_) <;> try dsimp only [fd_icmp] at hc
    · have h2 : nI 4 ≤ nI l := hc
      rw [nI_leI (by omega) (by omega)] at h2
      omega
    · repeat refine hX _ _ _ _ _ _ ?_
      refine Exists.intro _ (Exists.intro _ (Exists.intro _ (And.intro (by first | rfl | assumption) (And.intro (by first | assumption | exact fd_lt20 h20 (by decide)) (And.intro (by first | rfl | assumption) (And.intro (vp_in_nI hl (by decide)) ?_))))))
      have e : σ.2.2.1 2 (nI l).toNatClampNeg = some (5 + l) := by rw [nI_clamp (by omega)]; exact hla l hl
      refine hX _ _ _ _ _ _ ?_
      rw [e]
      iterate 3 refine hX _ _ _ _ _ _ ?_
      refine Exists.intro _ (And.intro (by first | rfl | assumption) (And.intro (by first | assumption | exact fd_lt20 h20 (by decide)) (And.intro (by first | rfl | assumption) ?_)))
      iterate 4 refine hX _ _ _ _ _ _ ?_
      exact hV _ _ [(4, .inl (nI (l + 1))), (1, .inl (mx acc (σ.2.1 (5 + l) 5))), (2, .inr (.inr (.inl (some 2)))), (3, .inl (nI 4))] _ _ _ _ (And.intro (congrArg (fun x => some (Sum.inl x)) (nI_1 l)) (And.intro rfl (And.intro rfl (And.intro rfl trivial)))) hgo
  iterate 4 refine hX _ _ _ _ _ _ ?_
  refine Exists.intro _ (And.intro (by first | rfl | assumption) (And.intro (by first | assumption | exact fd_lt20 h20 (by decide)) (And.intro (by first | rfl | assumption) ?_)))
  rw [r2]
  repeat refine hX _ _ _ _ _ _ ?_
  refine Exists.intro _ (Exists.intro _ (Exists.intro _ (And.intro rfl (And.intro (fd_lt20 h20 (by decide)) (And.intro rfl ?_)))))
  iterate 3 refine hX _ _ _ _ _ _ ?_
  refine hV _ _ [(4, .inl (nI 0)), (1, .inl 0), (2, .inr (.inr (.inl (some 2)))), (3, .inl (nI 4))] _ _ _ _ (And.intro rfl (And.intro rfl (And.intro rfl (And.intro rfl trivial)))) ?_
  refine step 0 (by decide) 0 (step 1 (by decide) _ (step 2 (by decide) _ (step 3 (by decide) _ ?_)))
  repeat refine hX _ _ _ _ _ _ ?_
  refine And.intro (fun _ => ?_) (fun hc => absurd (nI_le (a := 4) (Nat.le_refl 4) (by decide)) hc)
  repeat refine hX _ _ _ _ _ _ ?_
  exact h1
/-- sendAbroad -/
def sa_s : Nat → fd_S → Nat → fd_S
  | 0, σ, _ => σ
  | m + 1, σ, a => sa_s m (rl_s σ a ((σ.2.2.1 a 8).getD 0) 2) a
def Ln : Nat → fd_S → Nat → Prop
  | 0, _, _ => True
  | m + 1, σ, a => ∃ b, σ.2.2.1 a 8 = some b ∧ b < σ.1 ∧ fd_sh b = .inl 2 ∧ Ln m (rl_s σ a b 2) a
theorem ok_sendAbroad (d a m : Nat) (σ : fd_S) (post : Option fd_V → fd_S → Prop) (ha : a < σ.1) (hsa : fd_sh a = .inl 1) (hm : m ≤ 60) (h6 : σ.2.1 a 6 = nI m) (hl : Ln m σ a) (h1 : post none (sa_s m σ a)) : fd_Sem (d + 3) 18 [.inr (.inr (.inl (some a)))] σ post := by
  intro X hX hV
  have loop : ∀ m σ, m ≤ 60 → a < σ.1 → Ln m σ a → post none (sa_s m σ a) → X ((fd_code 18).drop 3) [(1, .inl (nI m)), (0, .inr (.inr (.inl (some a))))] [] σ 0 0 := by
    intro m
    induction m with
    | zero =>
      intro σ hm ha hl h1
      repeat refine hX _ _ _ _ _ _ ?_
      refine And.intro (fun _ => ?_) (fun hc => absurd (show (nI 0 : Int32) ≤ 0 from nI_le (a := 0) (b := 0) (Nat.le_refl 0) (by decide)) hc)
      repeat refine hX _ _ _ _ _ _ ?_
      exact h1
    | succ m ih =>
      intro σ hm ha hl h1
      obtain ⟨b, hb8, hb, hsb, hl2⟩ := hl
      have h1 : post none (sa_s m (rl_s σ a b 2) a) := by
        have : sa_s (m + 1) σ a = sa_s m (rl_s σ a ((σ.2.2.1 a 8).getD 0) 2) a := rfl
        rw [this, hb8] at h1
        exact h1
      repeat refine hX _ _ _ _ _ _ ?_
      refine And.intro (fun hc => absurd hc (nI_nle (by omega) (by omega))) (fun hc => ?_)
      repeat (first | refine hX _ _ _ _ _ _ ?_ | refine Exists.intro _ (And.intro (by first | rfl | assumption) (And.intro (by first | assumption | exact fd_lt20 h20 (by decide)) (And.intro (by first | rfl | assumption) ?_))))
      refine ok_removeLast _ a b 2 σ _ ha hsa hb hsb hb8 ?_
      refine hX _ _ _ _ _ _ ?_
      refine hX _ _ _ _ _ _ ?_
      exact hV _ _ [(1, .inl (nI m)), (0, .inr (.inr (.inl (some a))))] _ _ _ _ (And.intro (congrArg (fun x => some (Sum.inl x)) (pk_m1 m)) (And.intro rfl trivial)) (ih _ (by omega) ha hl2 h1)
  iterate 2 refine hX _ _ _ _ _ _ ?_
  refine Exists.intro _ (And.intro (by first | rfl | assumption) (And.intro (by first | assumption | exact fd_lt20 h20 (by decide)) (And.intro (by first | rfl | assumption) ?_)))
  rw [h6]
  refine hX _ _ _ _ _ _ ?_
  exact loop m σ hm ha hl h1
/-- measure -/
def JV (b i j : Nat) : Prop := (i = 3 ∧ 3 ≤ j) ∨ (i = b ∧ 4 ≤ j ∧ j ≤ 8)
theorem ok_measure (d b k : Nat) (sz ld : Int32) (σ : fd_S) (post : Option fd_V → fd_S → Prop) (h20 : 20 ≤ σ.1) (r03 : σ.2.2.1 0 3 = some 3) (r30 : σ.2.2.1 3 0 = some 4) (tl : Nat) (htl : tl ≤ 10) (h31 : σ.2.1 3 1 = nI tl) (h32 : σ.2.1 3 2 = 0) (hb : b < σ.1) (hsb : fd_sh b = .inl 2) (hk : k < 7) (h1k : σ.2.1 b 1 = nI k) (h1s : σ.2.1 b 2 = sz) (h1l : σ.2.1 b 3 = ld)
    (h1 : ∀ τ, SE (JV b) σ τ → τ.2.1 b 4 = (an_w k sz ld 0 16 k 0).1 → τ.2.1 b 5 = (an_w k sz ld 0 16 k 1).1 → τ.2.1 b 6 = (an_w k sz ld 0 16 k 2).1 → τ.2.1 b 7 = (an_w k sz ld 0 16 k 4).1 → τ.2.1 b 8 = (an_w k sz ld 0 16 k 5).1 → post none τ) : fd_Sem (d + 61) 42 [.inr (.inr (.inl (some 0))), .inr (.inr (.inl (some b)))] σ post := by
  have hb3 : b ≠ 3 := fun e => by rw [e] at hsb; cases hsb
  have nJ : ∀ {j}, ¬ JC b j := fun q => hb3 q.1
  have n31 : ¬ JC 3 1 := fun q => absurd q.2 (by decide)
  have n32 : ¬ JC 3 2 := fun q => absurd q.2 (by decide)
  intro X hX hV
  repeat (first | refine hX _ _ _ _ _ _ ?_ | refine Exists.intro _ (And.intro (by first | rfl | assumption) (And.intro (by first | assumption | exact fd_lt20 h20 (by decide)) (And.intro (by first | rfl | assumption) ?_))))
  refine ok_answer d b k 0 sz ld 0 _ _ h20 r30 tl htl h31 h32 hb hsb hk h1k h1s h1l (by decide) (fun τ1 t1 => ?_)
  have c1 : b < τ1.1 ∧ 20 ≤ τ1.1 ∧ τ1.2.2.1 0 3 = some 3 ∧ τ1.2.2.1 3 0 = some 4 := by rw [t1.1, t1.2.1]; exact ⟨hb, h20, r03, r30⟩
  obtain ⟨hb1, g20, g03, g30⟩ := c1
  iterate 1 refine hX _ _ _ _ _ _ ?_
  refine Exists.intro _ (And.intro rfl (And.intro hb1 (And.intro hsb ?_)))
  iterate 3 refine hX _ _ _ _ _ _ ?_
  refine Exists.intro _ (And.intro rfl (And.intro (fd_lt20 g20 (by decide)) (And.intro rfl ?_)))
  iterate 4 refine hX _ _ _ _ _ _ ?_
  refine Exists.intro _ (And.intro g03 (And.intro (fd_lt20 g20 (by decide)) (And.intro rfl ?_)))
  have v1 : ∀ i j, ¬ JC i j → (fd_si τ1 b 4 (an_w k sz ld 0 16 k 0).1).2.1 i j = if i = b ∧ j = 4 then (an_w k sz ld 0 16 k 0).1 else σ.2.1 i j := by
    intro i j hj
    show fd_u τ1.2.1 b 4 _ i j = _
    have := t1.2.2.2 i j hj
    unfold fd_u
    grind
  refine ok_answer d b k 1 sz ld 0 _ _ g20 g30 tl htl (by rw [v1 3 1 n31, if_neg (by omega)]; exact h31) (by rw [v1 3 2 n32, if_neg (by omega)]; exact h32) hb1 hsb hk (by rw [v1 b 1 nJ, if_neg (by omega)]; exact h1k) (by rw [v1 b 2 nJ, if_neg (by omega)]; exact h1s) (by rw [v1 b 3 nJ, if_neg (by omega)]; exact h1l) (by decide) (fun τ2 t2 => ?_)
  have c2 : b < τ2.1 ∧ 20 ≤ τ2.1 ∧ τ2.2.2.1 0 3 = some 3 ∧ τ2.2.2.1 3 0 = some 4 := by rw [t2.1, t2.2.1]; exact ⟨hb1, g20, g03, g30⟩
  obtain ⟨hb2, k20, k03, k30⟩ := c2
  iterate 1 refine hX _ _ _ _ _ _ ?_
  refine Exists.intro _ (And.intro rfl (And.intro hb2 (And.intro hsb ?_)))
  iterate 3 refine hX _ _ _ _ _ _ ?_
  refine Exists.intro _ (And.intro rfl (And.intro (fd_lt20 k20 (by decide)) (And.intro rfl ?_)))
  iterate 4 refine hX _ _ _ _ _ _ ?_
  refine Exists.intro _ (And.intro k03 (And.intro (fd_lt20 k20 (by decide)) (And.intro rfl ?_)))
  have v2 : ∀ i j, ¬ JC i j → (fd_si τ2 b 5 (an_w k sz ld 0 16 k 1).1).2.1 i j = if i = b ∧ j = 5 then (an_w k sz ld 0 16 k 1).1 else if i = b ∧ j = 4 then (an_w k sz ld 0 16 k 0).1 else σ.2.1 i j := by
    intro i j hj
    show fd_u τ2.2.1 b 5 _ i j = _
    have := t2.2.2.2 i j hj
    have := v1 i j hj
    unfold fd_u
    grind
  refine ok_answer d b k 2 sz ld 0 _ _ k20 k30 tl htl (by rw [v2 3 1 n31, if_neg (by omega), if_neg (by omega)]; exact h31) (by rw [v2 3 2 n32, if_neg (by omega), if_neg (by omega)]; exact h32) hb2 hsb hk (by rw [v2 b 1 nJ, if_neg (by omega), if_neg (by omega)]; exact h1k) (by rw [v2 b 2 nJ, if_neg (by omega), if_neg (by omega)]; exact h1s) (by rw [v2 b 3 nJ, if_neg (by omega), if_neg (by omega)]; exact h1l) (by decide) (fun τ3 t3 => ?_)
  have c3 : b < τ3.1 ∧ 20 ≤ τ3.1 ∧ τ3.2.2.1 0 3 = some 3 ∧ τ3.2.2.1 3 0 = some 4 := by rw [t3.1, t3.2.1]; exact ⟨hb2, k20, k03, k30⟩
  obtain ⟨hb3', l20, l03, l30⟩ := c3
  iterate 1 refine hX _ _ _ _ _ _ ?_
  refine Exists.intro _ (And.intro rfl (And.intro hb3' (And.intro hsb ?_)))
  iterate 3 refine hX _ _ _ _ _ _ ?_
  refine Exists.intro _ (And.intro rfl (And.intro (fd_lt20 l20 (by decide)) (And.intro rfl ?_)))
  iterate 4 refine hX _ _ _ _ _ _ ?_
  refine Exists.intro _ (And.intro l03 (And.intro (fd_lt20 l20 (by decide)) (And.intro rfl ?_)))
  have v3 : ∀ i j, ¬ JC i j → (fd_si τ3 b 6 (an_w k sz ld 0 16 k 2).1).2.1 i j = if i = b ∧ j = 6 then (an_w k sz ld 0 16 k 2).1 else if i = b ∧ j = 5 then (an_w k sz ld 0 16 k 1).1 else if i = b ∧ j = 4 then (an_w k sz ld 0 16 k 0).1 else σ.2.1 i j := by
    intro i j hj
    show fd_u τ3.2.1 b 6 _ i j = _
    have := t3.2.2.2 i j hj
    have := v2 i j hj
    unfold fd_u
    grind
  refine ok_answer d b k 4 sz ld 0 _ _ l20 l30 tl htl (by rw [v3 3 1 n31, if_neg (by omega), if_neg (by omega), if_neg (by omega)]; exact h31) (by rw [v3 3 2 n32, if_neg (by omega), if_neg (by omega), if_neg (by omega)]; exact h32) hb3' hsb hk (by rw [v3 b 1 nJ, if_neg (by omega), if_neg (by omega), if_neg (by omega)]; exact h1k) (by rw [v3 b 2 nJ, if_neg (by omega), if_neg (by omega), if_neg (by omega)]; exact h1s) (by rw [v3 b 3 nJ, if_neg (by omega), if_neg (by omega), if_neg (by omega)]; exact h1l) (by decide) (fun τ4 t4 => ?_)
  have c4 : b < τ4.1 ∧ 20 ≤ τ4.1 ∧ τ4.2.2.1 0 3 = some 3 ∧ τ4.2.2.1 3 0 = some 4 := by rw [t4.1, t4.2.1]; exact ⟨hb3', l20, l03, l30⟩
  obtain ⟨hb4, m20, m03, m30⟩ := c4
  iterate 1 refine hX _ _ _ _ _ _ ?_
  refine Exists.intro _ (And.intro rfl (And.intro hb4 (And.intro hsb ?_)))
  iterate 3 refine hX _ _ _ _ _ _ ?_
  refine Exists.intro _ (And.intro rfl (And.intro (fd_lt20 m20 (by decide)) (And.intro rfl ?_)))
  iterate 4 refine hX _ _ _ _ _ _ ?_
  refine Exists.intro _ (And.intro m03 (And.intro (fd_lt20 m20 (by decide)) (And.intro rfl ?_)))
  have v4 : ∀ i j, ¬ JC i j → (fd_si τ4 b 7 (an_w k sz ld 0 16 k 4).1).2.1 i j = if i = b ∧ j = 7 then (an_w k sz ld 0 16 k 4).1 else if i = b ∧ j = 6 then (an_w k sz ld 0 16 k 2).1 else if i = b ∧ j = 5 then (an_w k sz ld 0 16 k 1).1 else if i = b ∧ j = 4 then (an_w k sz ld 0 16 k 0).1 else σ.2.1 i j := by
    intro i j hj
    show fd_u τ4.2.1 b 7 _ i j = _
    have := t4.2.2.2 i j hj
    have := v3 i j hj
    unfold fd_u
    grind
  refine ok_answer d b k 5 sz ld 0 _ _ m20 m30 tl htl (by rw [v4 3 1 n31, if_neg (by omega), if_neg (by omega), if_neg (by omega), if_neg (by omega)]; exact h31) (by rw [v4 3 2 n32, if_neg (by omega), if_neg (by omega), if_neg (by omega), if_neg (by omega)]; exact h32) hb4 hsb hk (by rw [v4 b 1 nJ, if_neg (by omega), if_neg (by omega), if_neg (by omega), if_neg (by omega)]; exact h1k) (by rw [v4 b 2 nJ, if_neg (by omega), if_neg (by omega), if_neg (by omega), if_neg (by omega)]; exact h1s) (by rw [v4 b 3 nJ, if_neg (by omega), if_neg (by omega), if_neg (by omega), if_neg (by omega)]; exact h1l) (by decide) (fun τ5 t5 => ?_)
  have hb5 : b < τ5.1 := by rw [t5.1]; exact hb4
  iterate 1 refine hX _ _ _ _ _ _ ?_
  refine Exists.intro _ (And.intro rfl (And.intro hb5 (And.intro hsb ?_)))
  repeat refine hX _ _ _ _ _ _ ?_
  have v5 : ∀ i j, ¬ JC i j → (fd_si τ5 b 8 (an_w k sz ld 0 16 k 5).1).2.1 i j = if i = b ∧ j = 8 then (an_w k sz ld 0 16 k 5).1 else if i = b ∧ j = 7 then (an_w k sz ld 0 16 k 4).1 else if i = b ∧ j = 6 then (an_w k sz ld 0 16 k 2).1 else if i = b ∧ j = 5 then (an_w k sz ld 0 16 k 1).1 else if i = b ∧ j = 4 then (an_w k sz ld 0 16 k 0).1 else σ.2.1 i j := by
    intro i j hj
    show fd_u τ5.2.1 b 8 _ i j = _
    have := t5.2.2.2 i j hj
    have := v4 i j hj
    unfold fd_u
    grind
  refine h1 _ ⟨?_, ?_, ?_, fun i j hj => ?_⟩ ?_ ?_ ?_ ?_ ?_
  · exact t5.1.trans (t4.1.trans (t3.1.trans (t2.1.trans t1.1)))
  · exact t5.2.1.trans (t4.2.1.trans (t3.2.1.trans (t2.2.1.trans t1.2.1)))
  · exact t5.2.2.1.trans (t4.2.2.1.trans (t3.2.2.1.trans (t2.2.2.1.trans t1.2.2.1)))
  · have hj1 : ¬ JC i j := fun q => hj (Or.inl q)
    have hj2 : ¬ (i = b ∧ 4 ≤ j ∧ j ≤ 8) := fun q => hj (Or.inr q)
    have hm : ∀ m, 4 ≤ m → m ≤ 8 → ¬ (i = b ∧ j = m) := fun m h1 h2 q => hj2 ⟨q.1, by omega, by omega⟩
    rw [v5 i j hj1, if_neg (hm 8 (by decide) (by decide)), if_neg (hm 7 (by decide) (by decide)), if_neg (hm 6 (by decide) (by decide)), if_neg (hm 5 (by decide) (by decide)), if_neg (hm 4 (by decide) (by decide))]
  · rw [v5 b 4 nJ]; simp
  · rw [v5 b 5 nJ]; simp
  · rw [v5 b 6 nJ]; simp
  · rw [v5 b 7 nJ]; simp
  · rw [v5 b 8 nJ]; simp
