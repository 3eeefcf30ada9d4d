theorem fd_lt20 {σ : fd_S} (h : 20 ≤ σ.1) {a : Nat} (ha : a < 20) : a < σ.1 := Nat.lt_of_lt_of_le ha h
theorem fd_sh_lane {l : Nat} (h : l < 4) : fd_sh (5 + l) = .inl 1 := by
  match l, h with
  | 0, _ => rfl
  | 1, _ => rfl
  | 2, _ => rfl
  | 3, _ => rfl
theorem fd_shV (i : Nat) : fd_sh (20 + i) = .inl 2 := fd_sh_veh (by omega)
theorem i32_nlt {a b : Int32} : ¬ a < b ↔ b ≤ a := by rw [Int32.lt_iff_toInt_lt, Int32.le_iff_toInt_le]; omega
theorem i32_nle {a b : Int32} : ¬ a ≤ b ↔ b < a := by rw [Int32.lt_iff_toInt_lt, Int32.le_iff_toInt_le]; omega
/-- within -/
theorem ok_within (d : Nat) (a b c : Int32) (σ : fd_S) (post : Option fd_V → fd_S → Prop) (h1 : b ≤ a → a ≤ c → post (some (.inl 1)) σ) (h2 : ¬ (b ≤ a ∧ a ≤ c) → post (some (.inl 0)) σ) : fd_Sem (d + 1) 37 [.inl a, .inl b, .inl c] σ post := by
  intro X hX hV
  repeat refine hX _ _ _ _ _ _ ?_
  refine And.intro (fun hc => ?_) (fun hc => ?_) <;> try dsimp only [fd_icmp] at hc
  · repeat refine hX _ _ _ _ _ _ ?_
    exact And.intro (Or.inl rfl) (h2 (fun q => i32_nlt.mpr q.1 hc))
  · have ha := i32_nlt.mp hc
    repeat refine hX _ _ _ _ _ _ ?_
    refine And.intro (fun hc => ?_) (fun hc => ?_) <;> try dsimp only [fd_icmp] at hc
    · repeat refine hX _ _ _ _ _ _ ?_
      exact And.intro (Or.inl rfl) (h2 (fun q => i32_nlt.mpr q.2 hc))
    · repeat refine hX _ _ _ _ _ _ ?_
      exact And.intro (Or.inr rfl) (h1 ha (i32_nlt.mp hc))
/-- the model's in -/
theorem ok_in (d : Nat) (a b c : Int32) (σ : fd_S) (post : Option fd_V → fd_S → Prop) (h1 : b ≤ a → a ≤ c → post (some (.inl 1)) σ) (h2 : ¬ (b ≤ a ∧ a ≤ c) → post (some (.inl 0)) σ) : fd_Sem (d + 1) 48 [.inl a, .inl b, .inl c] σ post := by
  intro X hX hV
  repeat refine hX _ _ _ _ _ _ ?_
  refine And.intro (fun hc => ?_) (fun hc => ?_) <;> try dsimp only [fd_icmp] at hc
  · repeat refine hX _ _ _ _ _ _ ?_
    exact And.intro (Or.inl rfl) (h2 (fun q => i32_nlt.mpr q.1 hc))
  · have ha := i32_nlt.mp hc
    repeat refine hX _ _ _ _ _ _ ?_
    refine And.intro (fun hc => ?_) (fun hc => ?_) <;> try dsimp only [fd_icmp] at hc
    · repeat refine hX _ _ _ _ _ _ ?_
      exact And.intro (Or.inl rfl) (h2 (fun q => i32_nlt.mpr q.2 hc))
    · repeat refine hX _ _ _ _ _ _ ?_
      exact And.intro (Or.inr rfl) (h1 ha (i32_nlt.mp hc))
/-- isHeavy, isMarked -/
theorem ok_isHeavy (d : Nat) (a : Nat) (σ : fd_S) (post : Option fd_V → fd_S → Prop) (hv : a < σ.1) (hs : fd_sh a = .inl 2) (h1 : ¬ σ.2.1 a 7 = -3 → post (some (.inl 1)) σ) (h2 : σ.2.1 a 7 = -3 → post (some (.inl 0)) σ) : fd_Sem (d + 1) 20 [.inr (.inr (.inl (some a)))] σ post := by
  intro X hX hV
  repeat (first | refine hX _ _ _ _ _ _ ?_ | refine Exists.intro _ (And.intro (by first | rfl | assumption) (And.intro (by first | assumption | exact fd_lt20 h20 (by decide)) (And.intro (by first | rfl | assumption) ?_))))
  refine And.intro (fun hc => ?_) (fun hc => ?_) <;> try dsimp only [fd_icmp] at hc
  · repeat refine hX _ _ _ _ _ _ ?_
    exact And.intro (Or.inl rfl) (h2 hc)
  · repeat refine hX _ _ _ _ _ _ ?_
    exact And.intro (Or.inr rfl) (h1 hc)
theorem ok_isMarked (d : Nat) (a : Nat) (σ : fd_S) (post : Option fd_V → fd_S → Prop) (hv : a < σ.1) (hs : fd_sh a = .inl 2) (h1 : ¬ σ.2.1 a 8 = -3 → post (some (.inl 1)) σ) (h2 : σ.2.1 a 8 = -3 → post (some (.inl 0)) σ) : fd_Sem (d + 1) 21 [.inr (.inr (.inl (some a)))] σ post := by
  intro X hX hV
  repeat (first | refine hX _ _ _ _ _ _ ?_ | refine Exists.intro _ (And.intro (by first | rfl | assumption) (And.intro (by first | assumption | exact fd_lt20 h20 (by decide)) (And.intro (by first | rfl | assumption) ?_))))
  refine And.intro (fun hc => ?_) (fun hc => ?_) <;> try dsimp only [fd_icmp] at hc
  · repeat refine hX _ _ _ _ _ _ ?_
    exact And.intro (Or.inl rfl) (h2 hc)
  · repeat refine hX _ _ _ _ _ _ ?_
    exact And.intro (Or.inr rfl) (h1 hc)
/-- leaveDeck -/
def ld_s (σ : fd_S) (a : Nat) (b : Int32) : fd_S := fd_sr (fd_si (fd_si (fd_si σ a 9 b) a 10 (-1)) a 11 (-1)) a 12 none
theorem ok_leaveDeck (d : Nat) (a : Nat) (b : Int32) (σ : fd_S) (post : Option fd_V → fd_S → Prop) (hv : a < σ.1) (hs : fd_sh a = .inl 2) (h1 : post none (ld_s σ a b)) : fd_Sem (d + 1) 22 [.inr (.inr (.inl (some a))), .inl b] σ post := by
  intro X hX hV
  repeat (first | refine hX _ _ _ _ _ _ ?_ | refine Exists.intro _ (And.intro (by first | rfl | assumption) (And.intro (by first | assumption | exact fd_lt20 h20 (by decide)) (And.intro (by first | rfl | assumption) ?_))))
  exact h1
/-- lengthLeft, bearingLeft -/
theorem ok_lengthLeft (d : Nat) (a : Nat) (σ : fd_S) (post : Option fd_V → fd_S → Prop) (hv : a < σ.1) (hs : fd_sh a = .inl 1) (h1 : post (some (.inl (σ.2.1 a 1 - σ.2.1 a 3))) σ) : fd_Sem (d + 1) 13 [.inr (.inr (.inl (some a)))] σ post := by
  intro X hX hV
  repeat (first | refine hX _ _ _ _ _ _ ?_ | refine Exists.intro _ (And.intro (by first | rfl | assumption) (And.intro (by first | assumption | exact fd_lt20 h20 (by decide)) (And.intro (by first | rfl | assumption) ?_))))
  exact h1
theorem ok_bearingLeft (d : Nat) (a : Nat) (σ : fd_S) (post : Option fd_V → fd_S → Prop) (hv : a < σ.1) (hs : fd_sh a = .inl 1) (h1 : post (some (.inl (σ.2.1 a 2 - σ.2.1 a 4))) σ) : fd_Sem (d + 1) 14 [.inr (.inr (.inl (some a)))] σ post := by
  intro X hX hV
  repeat (first | refine hX _ _ _ _ _ _ ?_ | refine Exists.intro _ (And.intro (by first | rfl | assumption) (And.intro (by first | assumption | exact fd_lt20 h20 (by decide)) (And.intro (by first | rfl | assumption) ?_))))
  exact h1
