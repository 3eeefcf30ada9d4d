/-- the same but for some ints -/
def SE (P : Nat → Nat → Prop) (σ τ : fd_S) : Prop := τ.1 = σ.1 ∧ τ.2.2.1 = σ.2.2.1 ∧ τ.2.2.2 = σ.2.2.2 ∧ ∀ i j, ¬ P i j → τ.2.1 i j = σ.2.1 i j
def JC (i j : Nat) : Prop := i = 3 ∧ 3 ≤ j
theorem SE.rf {P : Nat → Nat → Prop} (σ : fd_S) : SE P σ σ := ⟨rfl, rfl, rfl, fun _ _ _ => rfl⟩
theorem SE.trans {P : Nat → Nat → Prop} {σ τ ρ : fd_S} (h1 : SE P σ τ) (h2 : SE P τ ρ) : SE P σ ρ := ⟨h2.1.trans h1.1, h2.2.1.trans h1.2.1, h2.2.2.1.trans h1.2.2.1, fun i j h => (h2.2.2.2 i j h).trans (h1.2.2.2 i j h)⟩
theorem TRs_off : ∀ (l : List Int32) (σ : fd_S), σ.2.1 3 2 = 0 → TRs σ l = σ
  | [], _, _ => rfl
  | b :: l, σ, h => by
    have e : TR σ b = σ := by unfold TR; rw [if_pos h]
    show TRs (TR σ b) l = σ
    rw [e]; exact TRs_off l σ h
def AK (σ : fd_S) (b : Nat) (s : Int32) : fd_S := (σ.1, fun i j => if i = 3 then (if j = 3 then σ.2.1 b 1 else if j = 4 then σ.2.1 b 2 else if j = 5 then σ.2.1 b 3 else if j = 6 then s else σ.2.1 3 j) else σ.2.1 i j, σ.2.2.1, σ.2.2.2)
/-- answer, traced or not -/
theorem ok_answerT (d b k w : Nat) (sz ld s : Int32) (σ : fd_S) (post : Option fd_V → fd_S → Prop) (h20 : 20 ≤ σ.1) (r30 : σ.2.2.1 3 0 = some 4) (tl : Nat) (htl : tl ≤ 10) (h31 : σ.2.1 3 1 = nI tl) (hb : b < σ.1) (hsb : fd_sh b = .inl 2) (hk : k < 7) (h1k : σ.2.1 b 1 = nI k) (h1s : σ.2.1 b 2 = sz) (h1l : σ.2.1 b 3 = ld) (hw : w < 6)
    (h1 : post (some (.inl (an_w k sz ld s 16 k w).1)) (TRs (AK σ b s) (an_w k sz ld s 16 k w).2)) : fd_Sem (d + 60) 1 [.inr (.inr (.inl (some 3))), .inr (.inr (.inl (some b))), .inl (nI w), .inl s] σ post := by
  have hb3 : b ≠ 3 := fun e => by rw [e] at hsb; cases hsb
  intro X hX hV
  repeat (first | refine hX _ _ _ _ _ _ ?_ | refine Exists.intro _ (And.intro (by first | rfl | assumption) (And.intro (by first | assumption | exact fd_lt20 h20 (by decide)) (And.intro (by first | rfl | assumption) ?_))))
  have key : ∀ τ : fd_S, τ = AK σ b s → fd_Sem (d + 59) 4 [.inr (.inr (.inl (some 3))), .inl (nI w), .inl (nI 0)] τ (fun r σ' => X [(35, .ireturn, 1, 0, []), (36, .athrow, 0, 0, [])] (fd_args 0 [.inr (.inr (.inl (some 3))), .inr (.inr (.inl (some b))), .inl (nI w), .inl s]) (r.toList ++ []) σ' 0 0) := by
    intro τ hτ
    subst hτ
    refine ok_own (an_all 16) (d + 6) 0 w k sz ld s _ _ rfl hw ⟨h20, r30, hk, ?_, ?_, ?_, ?_, tl, htl, ?_⟩ ?_
    · exact h1k
    · exact h1s
    · exact h1l
    · rfl
    · exact h31
    · repeat refine hX _ _ _ _ _ _ ?_
      exact h1
  refine key _ ?_
  refine Prod.ext rfl (Prod.ext (funext fun i => funext fun j => ?_) rfl)
  simp only [AK, fd_si, fd_u]; grind
theorem ok_answer (d b k w : Nat) (sz ld s : Int32) (σ : fd_S) (post : Option fd_V → fd_S → Prop) (h20 : 20 ≤ σ.1) (r30 : σ.2.2.1 3 0 = some 4) (tl : Nat) (htl : tl ≤ 10) (h31 : σ.2.1 3 1 = nI tl) (h32 : σ.2.1 3 2 = 0) (hb : b < σ.1) (hsb : fd_sh b = .inl 2) (hk : k < 7) (h1k : σ.2.1 b 1 = nI k) (h1s : σ.2.1 b 2 = sz) (h1l : σ.2.1 b 3 = ld) (hw : w < 6)
    (h1 : ∀ τ, SE JC σ τ → post (some (.inl (an_w k sz ld s 16 k w).1)) τ) : fd_Sem (d + 60) 1 [.inr (.inr (.inl (some 3))), .inr (.inr (.inl (some b))), .inl (nI w), .inl s] σ post := by
  refine ok_answerT d b k w sz ld s σ post h20 r30 tl htl h31 hb hsb hk h1k h1s h1l hw ?_
  rw [TRs_off _ _ (show (AK σ b s).2.1 3 2 = 0 from h32)]
  refine h1 _ ⟨rfl, rfl, rfl, fun i j hj => ?_⟩
  simp only [AK]
  unfold JC at hj
  grind
/-- answerTraced -/
def AT (σ : fd_S) (b : Nat) (s : Int32) (l : List Int32) : fd_S := fd_si (TRs (AK (fd_si (fd_si σ 3 1 0) 3 2 1) b s) l) 3 2 0
theorem ok_answerTraced (d b k w : Nat) (sz ld s : Int32) (σ : fd_S) (post : Option fd_V → fd_S → Prop) (h20 : 20 ≤ σ.1) (r30 : σ.2.2.1 3 0 = some 4) (hb : b < σ.1) (hsb : fd_sh b = .inl 2) (hk : k < 7) (h1k : σ.2.1 b 1 = nI k) (h1s : σ.2.1 b 2 = sz) (h1l : σ.2.1 b 3 = ld) (hw : w < 6)
    (h1 : post (some (.inl (an_w k sz ld s 16 k w).1)) (AT σ b s (an_w k sz ld s 16 k w).2)) : fd_Sem (d + 61) 2 [.inr (.inr (.inl (some 3))), .inr (.inr (.inl (some b))), .inl (nI w), .inl s] σ post := by
  have hb3 : b ≠ 3 := fun e => by rw [e] at hsb; cases hsb
  intro X hX hV
  repeat (first | refine hX _ _ _ _ _ _ ?_ | refine Exists.intro _ (And.intro (by first | rfl | assumption) (And.intro (by first | assumption | exact fd_lt20 h20 (by decide)) (And.intro (by first | rfl | assumption) ?_))))
  refine And.intro (Or.inr rfl) ?_
  repeat (first | refine hX _ _ _ _ _ _ ?_ | refine Exists.intro _ (And.intro (by first | rfl | assumption) (And.intro (by first | assumption | exact fd_lt20 h20 (by decide)) (And.intro (by first | rfl | assumption) ?_))))
  have e1 : ∀ j, (fd_si (fd_si σ 3 1 0) 3 2 1).2.1 b j = σ.2.1 b j := by
    intro j
    show fd_u (fd_u σ.2.1 3 1 0) 3 2 1 b j = _
    rw [fd_u_ne hb3, fd_u_ne hb3]
  refine ok_answerT d b k w sz ld s _ _ h20 r30 0 (by decide) ?_ hb hsb hk ((e1 1).trans h1k) ((e1 2).trans h1s) ((e1 3).trans h1l) hw ?_
  · show fd_u (fd_u σ.2.1 3 1 0) 3 2 1 3 1 = _
    simp [fd_u, nI_0]
  · have hN : ∀ (l : List Int32) (τ : fd_S), (TRs τ l).1 = τ.1 := by
      intro l
      induction l with
      | nil => intro τ; rfl
      | cons b l ih =>
        intro τ
        show (TRs (TR τ b) l).1 = τ.1
        rw [ih]
        unfold TR
        split
        · rfl
        · split <;> rfl
    have h20' : 20 ≤ (TRs (AK (fd_si (fd_si σ 3 1 0) 3 2 1) b s) (an_w k sz ld s 16 k w).2).1 := by rw [hN]; exact h20
    have h3 : 3 < (TRs (AK (fd_si (fd_si σ 3 1 0) 3 2 1) b s) (an_w k sz ld s 16 k w).2).1 := Nat.lt_of_lt_of_le (by decide) h20'
    repeat (first | refine hX _ _ _ _ _ _ ?_ | refine Exists.intro _ (And.intro (by first | rfl | assumption) (And.intro (by first | assumption | exact fd_lt20 h20 (by decide)) (And.intro (by first | rfl | assumption) ?_))))
    refine And.intro (Or.inl rfl) ?_
    repeat refine hX _ _ _ _ _ _ ?_
    exact h1
/-- traceAt -/
theorem ok_traceAt (d : Nat) (x : Int32) (σ : fd_S) (post : Option fd_V → fd_S → Prop) (h20 : 20 ≤ σ.1) (r30 : σ.2.2.1 3 0 = some 4) (tl : Nat) (htl : tl ≤ 10) (h31 : σ.2.1 3 1 = nI tl) (h1 : ∀ i, i < tl → x = nI i → post (some (.inl (σ.2.1 4 i))) σ) (h2 : (∀ i, i < tl → x ≠ nI i) → post (some (.inl (-1))) σ) : fd_Sem (d + 2) 3 [.inr (.inr (.inl (some 3))), .inl x] σ post := by
  intro X hX hV
  repeat (first | refine hX _ _ _ _ _ _ ?_ | refine Exists.intro _ (And.intro (by first | rfl | assumption) (And.intro (by first | assumption | exact fd_lt20 h20 (by decide)) (And.intro (by first | rfl | assumption) ?_))))
  rw [h31]
  refine ok_within _ _ _ _ _ _ (fun ha hb => ?_) (fun ha => ?_)
  · obtain ⟨i, hi, rfl⟩ := ix_of (by omega) ha hb
    repeat refine hX _ _ _ _ _ _ ?_
    refine And.intro (fun hc => absurd (show (1 : Int32) = 0 from hc) (by decide)) (fun _ => ?_)
    repeat (first | refine hX _ _ _ _ _ _ ?_ | refine Exists.intro _ (And.intro (by first | rfl | assumption) (And.intro (by first | assumption | exact fd_lt20 h20 (by decide)) (And.intro (by first | rfl | assumption) ?_))))
    refine Exists.intro _ (Exists.intro _ (And.intro (by first | rfl | assumption) (And.intro (by first | assumption | exact fd_lt20 h20 (by decide)) (And.intro (by first | rfl | assumption) (And.intro (vp_in_nI (by omega) (by decide)) ?_)))))
    have e : σ.2.1 4 (nI i).toNatClampNeg = σ.2.1 4 i := by rw [nI_clamp (by omega)]
    refine hX _ _ _ _ _ _ ?_
    rw [e]
    repeat refine hX _ _ _ _ _ _ ?_
    exact h1 i hi rfl
  · repeat refine hX _ _ _ _ _ _ ?_
    refine And.intro (fun _ => ?_) (fun hc => absurd (show (0 : Int32) = 0 from rfl) hc)
    repeat refine hX _ _ _ _ _ _ ?_
    refine h2 (fun i hi hx => ha ?_)
    rw [hx]
    exact ix_to (by omega) hi
/-- price -/
theorem ok_price (d b k : Nat) (sz ld : Int32) (σ : fd_S) (post : Option fd_V → fd_S → Prop) (h20 : 20 ≤ σ.1) (r03 : σ.2.2.1 0 3 = some 3) (r30 : σ.2.2.1 3 0 = some 4) (tl : Nat) (htl : tl ≤ 10) (h31 : σ.2.1 3 1 = nI tl) (h32 : σ.2.1 3 2 = 0) (hb : b < σ.1) (hsb : fd_sh b = .inl 2) (hk : k < 7) (h1k : σ.2.1 b 1 = nI k) (h1s : σ.2.1 b 2 = sz) (h1l : σ.2.1 b 3 = ld)
    (h1 : ∀ τ, SE JC σ τ → post (some (.inl (if σ.2.1 b 7 = -3 then (an_w k sz ld (σ.2.1 0 4) 16 k 3).1 else (an_w k sz ld (σ.2.1 0 4) 16 k 3).1 + σ.2.1 b 7))) τ) : fd_Sem (d + 61) 43 [.inr (.inr (.inl (some 0))), .inr (.inr (.inl (some b)))] σ post := by
  have hb3 : b ≠ 3 := fun e => by rw [e] at hsb; cases hsb
  intro X hX hV
  repeat (first | refine hX _ _ _ _ _ _ ?_ | refine Exists.intro _ (And.intro (by first | rfl | assumption) (And.intro (by first | assumption | exact fd_lt20 h20 (by decide)) (And.intro (by first | rfl | assumption) ?_))))
  refine ok_answer d b k 3 sz ld (σ.2.1 0 4) _ _ h20 r30 tl htl h31 h32 hb hsb hk h1k h1s h1l (by decide) (fun τ hτ => ?_)
  have h1 := h1 τ hτ
  have hbτ : b < τ.1 := by rw [hτ.1]; exact hb
  have e7 : τ.2.1 b 7 = σ.2.1 b 7 := hτ.2.2.2 b 7 (fun q => hb3 q.1)
  rw [← e7] at h1
  repeat (first | refine hX _ _ _ _ _ _ ?_ | refine Exists.intro _ (And.intro (by first | rfl | assumption) (And.intro (by first | assumption | exact fd_lt20 h20 (by decide)) (And.intro (by first | rfl | assumption) ?_))))
  refine ok_isHeavy _ _ _ _ hbτ hsb (fun hh => ?_) (fun hh => ?_)
  · rw [if_neg hh] at h1
    repeat refine hX _ _ _ _ _ _ ?_
    refine And.intro (fun hc => absurd (show (1 : Int32) = 0 from hc) (by decide)) (fun _ => ?_)
    repeat (first | refine hX _ _ _ _ _ _ ?_ | refine Exists.intro _ (And.intro (by first | rfl | assumption) (And.intro (by first | assumption | exact fd_lt20 h20 (by decide)) (And.intro (by first | rfl | assumption) ?_))))
    exact h1
  · rw [if_pos hh] at h1
    repeat refine hX _ _ _ _ _ _ ?_
    refine And.intro (fun _ => ?_) (fun hc => absurd (show (0 : Int32) = 0 from rfl) hc)
    repeat (first | refine hX _ _ _ _ _ _ ?_ | refine Exists.intro _ (And.intro (by first | rfl | assumption) (And.intro (by first | assumption | exact fd_lt20 h20 (by decide)) (And.intro (by first | rfl | assumption) ?_))))
    exact h1
/-- tooNear -/
theorem ok_tooNear (d b : Nat) (o : Option Nat) (σ : fd_S) (post : Option fd_V → fd_S → Prop) (hb : b < σ.1) (hsb : fd_sh b = .inl 2) (ho : ∀ a, o = some a → a < σ.1 ∧ fd_sh a = .inl 2)
    (h1 : ∀ a, o = some a → ¬ σ.2.1 a 8 = -3 → ¬ σ.2.1 b 8 = -3 → 5 < σ.2.1 a 8 + σ.2.1 b 8 → post (some (.inl 1)) σ) (h2 : (¬ ∃ a, o = some a ∧ ¬ σ.2.1 a 8 = -3 ∧ ¬ σ.2.1 b 8 = -3 ∧ 5 < σ.2.1 a 8 + σ.2.1 b 8) → post (some (.inl 0)) σ) : fd_Sem (d + 2) 44 [.inr (.inr (.inl o)), .inr (.inr (.inl (some b)))] σ post := by
  intro X hX hV
  repeat refine hX _ _ _ _ _ _ ?_
  refine And.intro (fun hc => ?_) (fun hc => ?_) <;> try dsimp only [fd_icmp] at hc
  · repeat refine hX _ _ _ _ _ _ ?_
    exact And.intro (Or.inl rfl) (h2 (fun ⟨a, ha, _⟩ => by rw [hc] at ha; cases ha))
  · cases o with
    | none => exact absurd rfl hc
    | some a =>
      obtain ⟨ha, hsa⟩ := ho a rfl
      repeat (first | refine hX _ _ _ _ _ _ ?_ | refine Exists.intro _ (And.intro (by first | rfl | assumption) (And.intro (by first | assumption | exact fd_lt20 h20 (by decide)) (And.intro (by first | rfl | assumption) ?_))))
      refine ok_isMarked _ _ _ _ ha hsa (fun hm => ?_) (fun hm => ?_)
      · repeat refine hX _ _ _ _ _ _ ?_
        refine And.intro (fun hc => absurd (show (1 : Int32) = 0 from hc) (by decide)) (fun _ => ?_)
        repeat (first | refine hX _ _ _ _ _ _ ?_ | refine Exists.intro _ (And.intro (by first | rfl | assumption) (And.intro (by first | assumption | exact fd_lt20 h20 (by decide)) (And.intro (by first | rfl | assumption) ?_))))
        refine ok_isMarked _ _ _ _ hb hsb (fun hn => ?_) (fun hn => ?_)
        · repeat refine hX _ _ _ _ _ _ ?_
          refine And.intro (fun _ => ?_) (fun hc => absurd (show (1 : Int32) = 0 from hc) (by decide))
          repeat (first | refine hX _ _ _ _ _ _ ?_ | refine Exists.intro _ (And.intro (by first | rfl | assumption) (And.intro (by first | assumption | exact fd_lt20 h20 (by decide)) (And.intro (by first | rfl | assumption) ?_))))
          refine And.intro (fun hc => ?_) (fun hc => ?_) <;> try dsimp only [fd_icmp] at hc
          · repeat refine hX _ _ _ _ _ _ ?_
            refine And.intro (Or.inl rfl) (h2 ?_)
            rintro ⟨a', e, -, -, h5⟩
            cases e
            exact absurd hc (i32_nle.mpr h5)
          · repeat refine hX _ _ _ _ _ _ ?_
            exact And.intro (Or.inr rfl) (h1 a rfl hm hn (i32_nle.mp hc))
        · repeat refine hX _ _ _ _ _ _ ?_
          refine And.intro (fun hc => absurd (show (0 : Int32) = 0 from rfl) hc) (fun _ => ?_)
          repeat refine hX _ _ _ _ _ _ ?_
          refine And.intro (Or.inl rfl) (h2 ?_)
          rintro ⟨a', e, -, h4, -⟩
          exact h4 hn
      · repeat refine hX _ _ _ _ _ _ ?_
        refine And.intro (fun _ => ?_) (fun hc => absurd (show (0 : Int32) = 0 from rfl) hc)
        repeat refine hX _ _ _ _ _ _ ?_
        refine And.intro (Or.inl rfl) (h2 ?_)
        rintro ⟨a', e, h4, -, -⟩
        cases e
        exact h4 hm
