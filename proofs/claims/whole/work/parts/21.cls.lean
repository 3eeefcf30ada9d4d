theorem ix_of {x : Int32} {n : Nat} (hn : n ≤ 60) (h0 : 0 ≤ x) (h1 : x ≤ nI n - 1) : ∃ i, i < n ∧ x = nI i := by
  obtain ⟨j, hj, rfl⟩ := nI_of (i32_nlt.mpr h0)
  refine ⟨j, ?_, rfl⟩
  have h2 : nI j ≤ nI n - nI 1 := h1
  rw [Int32.le_iff_toInt_le, nI_toInt hj, pk_sub_toInt (by omega) (by omega)] at h2
  omega
theorem ix_to {i n : Nat} (hn : n ≤ 60) (h : i < n) : (0 : Int32) ≤ nI i ∧ nI i ≤ nI n - 1 := by
  refine ⟨nI_pos' (by omega), ?_⟩
  show nI i ≤ nI n - nI 1
  rw [Int32.le_iff_toInt_le, nI_toInt (by omega), pk_sub_toInt (by omega) (by omega)]
  omega
theorem ix_4 : (3 : Int32) = nI 4 - 1 := by decide
/-- the deck's own cells -/
def fd_B (σ : fd_S) (n : Nat) : Prop := 20 ≤ σ.1 ∧ 20 + n ≤ σ.1 ∧ n ≤ 60 ∧ σ.2.1 0 1 = nI n ∧ σ.2.2.1 0 0 = some 1 ∧ σ.2.2.1 0 2 = some 2 ∧ σ.2.2.1 0 3 = some 3 ∧ σ.2.2.1 3 0 = some 4 ∧ (∀ i, i < n → σ.2.2.1 1 i = some (20 + i)) ∧ (∀ l, l < 4 → σ.2.2.1 2 l = some (5 + l))
theorem ok_vehicleAt (d : Nat) (x : Int32) (n : Nat) (σ : fd_S) (post : Option fd_V → fd_S → Prop) (hB : fd_B σ n) (h1 : ∀ i, i < n → x = nI i → post (some (.inr (.inr (.inl (some (20 + i)))))) σ) (h2 : (∀ i, i < n → x ≠ nI i) → post (some (.inr (.inr (.inl none)))) σ) : fd_Sem (d + 2) 38 [.inr (.inr (.inl (some 0))), .inl x] σ post := by
  obtain ⟨h20, hN, hn, hc, r0, r2, r3, r30, hva, hla⟩ := id hB
  intro X hX hV
  repeat (first | refine hX _ _ _ _ _ _ ?_ | refine Exists.intro _ (And.intro (by first | rfl | assumption) (And.intro (by first | assumption | exact fd_lt20 h20 (by decide)) (And.intro (by first | rfl | assumption) ?_))))
  rw [hc]
  refine ok_within _ _ _ _ _ _ (fun ha hb => ?_) (fun ha => ?_)
  · obtain ⟨i, hi, rfl⟩ := ix_of hn ha hb
    repeat refine hX _ _ _ _ _ _ ?_
    refine And.intro (fun hc => absurd (show (1 : Int32) = 0 from hc) (by decide)) (fun _ => ?_)
    repeat (first | refine hX _ _ _ _ _ _ ?_ | refine Exists.intro _ (And.intro (by first | rfl | assumption) (And.intro (by first | assumption | exact fd_lt20 h20 (by decide)) (And.intro (by first | rfl | assumption) ?_))))
    refine Exists.intro _ (Exists.intro _ (Exists.intro _ (And.intro (by first | rfl | assumption) (And.intro (by first | assumption | exact fd_lt20 h20 (by decide)) (And.intro (by first | rfl | assumption) (And.intro (vp_in_nI (by omega) (by decide)) ?_))))))
    have e : σ.2.2.1 1 (nI i).toNatClampNeg = some (20 + i) := by rw [nI_clamp (by omega)]; exact hva i hi
    refine hX _ _ _ _ _ _ ?_
    rw [e]
    repeat refine hX _ _ _ _ _ _ ?_
    exact h1 i hi rfl
  · repeat refine hX _ _ _ _ _ _ ?_
    refine And.intro (fun _ => ?_) (fun hc => absurd (show (0 : Int32) = 0 from rfl) hc)
    repeat refine hX _ _ _ _ _ _ ?_
    refine h2 (fun i hi hx => ha ?_)
    rw [hx]
    exact ix_to hn hi
theorem ok_laneAt (d : Nat) (x : Int32) (n : Nat) (σ : fd_S) (post : Option fd_V → fd_S → Prop) (hB : fd_B σ n) (h1 : ∀ l, l < 4 → x = nI l → post (some (.inr (.inr (.inl (some (5 + l)))))) σ) (h2 : (∀ l, l < 4 → x ≠ nI l) → post (some (.inr (.inr (.inl none)))) σ) : fd_Sem (d + 2) 39 [.inr (.inr (.inl (some 0))), .inl x] σ post := by
  obtain ⟨h20, hN, hn, hc, r0, r2, r3, r30, hva, hla⟩ := id hB
  intro X hX hV
  repeat (first | refine hX _ _ _ _ _ _ ?_ | refine Exists.intro _ (And.intro (by first | rfl | assumption) (And.intro (by first | assumption | exact fd_lt20 h20 (by decide)) (And.intro (by first | rfl | assumption) ?_))))
  refine ok_within _ _ _ _ _ _ (fun ha hb => ?_) (fun ha => ?_)
  · rw [ix_4] at hb
    obtain ⟨i, hi, rfl⟩ := ix_of (by decide) ha hb
    repeat refine hX _ _ _ _ _ _ ?_
    refine And.intro (fun hc => absurd (show (1 : Int32) = 0 from hc) (by decide)) (fun _ => ?_)
    repeat (first | refine hX _ _ _ _ _ _ ?_ | refine Exists.intro _ (And.intro (by first | rfl | assumption) (And.intro (by first | assumption | exact fd_lt20 h20 (by decide)) (And.intro (by first | rfl | assumption) ?_))))
    refine Exists.intro _ (Exists.intro _ (Exists.intro _ (And.intro (by first | rfl | assumption) (And.intro (by first | assumption | exact fd_lt20 h20 (by decide)) (And.intro (by first | rfl | assumption) (And.intro (vp_in_nI hi (by decide)) ?_))))))
    have e : σ.2.2.1 2 (nI i).toNatClampNeg = some (5 + i) := by rw [nI_clamp (by omega)]; exact hla i hi
    refine hX _ _ _ _ _ _ ?_
    rw [e]
    repeat refine hX _ _ _ _ _ _ ?_
    exact h1 i hi rfl
  · repeat refine hX _ _ _ _ _ _ ?_
    refine And.intro (fun _ => ?_) (fun hc => absurd (show (0 : Int32) = 0 from rfl) hc)
    repeat refine hX _ _ _ _ _ _ ?_
    refine h2 (fun i hi hx => ha ?_)
    rw [hx, ix_4]
    exact ix_to (by decide) hi
theorem ok_numberOf (d : Nat) (o : Option Nat) (σ : fd_S) (post : Option fd_V → fd_S → Prop) (h1 : o = none → post (some (.inl (-1))) σ) (h2 : ∀ a, o = some a → a < σ.1 ∧ fd_sh a = .inl 2 ∧ post (some (.inl (σ.2.1 a 0))) σ) : fd_Sem (d + 1) 40 [.inr (.inr (.inl o))] σ post := by
  intro X hX hV
  repeat refine hX _ _ _ _ _ _ ?_
  refine And.intro (fun hc => ?_) (fun hc => ?_) <;> try dsimp only [fd_icmp] at hc
  · cases o with
    | none => exact absurd rfl hc
    | some a =>
      obtain ⟨hv, hs, hp⟩ := h2 a rfl
      repeat (first | refine hX _ _ _ _ _ _ ?_ | refine Exists.intro _ (And.intro (by first | rfl | assumption) (And.intro (by first | assumption | exact fd_lt20 h20 (by decide)) (And.intro (by first | rfl | assumption) ?_))))
      exact hp
  · repeat refine hX _ _ _ _ _ _ ?_
    exact h1 hc
theorem ok_hasRoomFor (d : Nat) (a b : Nat) (σ : fd_S) (post : Option fd_V → fd_S → Prop) (ha : a < σ.1) (hsa : fd_sh a = .inl 1) (hb : b < σ.1) (hsb : fd_sh b = .inl 2) (h1 : σ.2.1 b 4 + 5 ≤ σ.2.1 a 1 - σ.2.1 a 3 → σ.2.1 b 5 ≤ σ.2.1 a 2 - σ.2.1 a 4 → post (some (.inl 1)) σ) (h2 : ¬ (σ.2.1 b 4 + 5 ≤ σ.2.1 a 1 - σ.2.1 a 3 ∧ σ.2.1 b 5 ≤ σ.2.1 a 2 - σ.2.1 a 4) → post (some (.inl 0)) σ) : fd_Sem (d + 2) 15 [.inr (.inr (.inl (some a))), .inr (.inr (.inl (some b)))] σ post := by
  intro X hX hV
  repeat (first | refine hX _ _ _ _ _ _ ?_ | refine Exists.intro _ (And.intro (by first | rfl | assumption) (And.intro (by first | assumption | exact fd_lt20 h20 (by decide)) (And.intro (by first | rfl | assumption) ?_))))
  refine ok_lengthLeft _ _ _ _ ha hsa ?_
  repeat refine hX _ _ _ _ _ _ ?_
  refine And.intro (fun hc => ?_) (fun hc => ?_) <;> try dsimp only [fd_icmp] at hc
  · repeat refine hX _ _ _ _ _ _ ?_
    exact And.intro (Or.inl rfl) (h2 (fun q => i32_nlt.mpr q.1 hc))
  · repeat (first | refine hX _ _ _ _ _ _ ?_ | refine Exists.intro _ (And.intro (by first | rfl | assumption) (And.intro (by first | assumption | exact fd_lt20 h20 (by decide)) (And.intro (by first | rfl | assumption) ?_))))
    refine ok_bearingLeft _ _ _ _ ha hsa ?_
    have h5 := i32_nlt.mp hc
    repeat refine hX _ _ _ _ _ _ ?_
    refine And.intro (fun hc => ?_) (fun hc => ?_) <;> try dsimp only [fd_icmp] at hc
    · repeat refine hX _ _ _ _ _ _ ?_
      exact And.intro (Or.inl rfl) (h2 (fun q => i32_nlt.mpr q.2 hc))
    · repeat refine hX _ _ _ _ _ _ ?_
      exact And.intro (Or.inr rfl) (h1 h5 (i32_nlt.mp hc))
/-- append -/
def ap_s (σ : fd_S) (a b : Nat) : fd_S := (σ.1,
  fun i j => if i = b then (if j = 9 then 1 else if j = 10 then σ.2.1 a 0 else if j = 11 then σ.2.1 a 6 else σ.2.1 b j) else if i = a then (if j = 6 then σ.2.1 a 6 + 1 else if j = 3 then σ.2.1 a 3 + (σ.2.1 b 4 + 5) else if j = 4 then σ.2.1 a 4 + σ.2.1 b 5 else if j = 5 then σ.2.1 a 5 + σ.2.1 b 6 else σ.2.1 a j) else σ.2.1 i j,
  fun i j => if i = b then (if j = 12 then σ.2.2.1 a 8 else σ.2.2.1 b j) else if i = a then (if j = 8 then some b else if j = 7 then (if σ.2.2.1 a 7 = none then some b else σ.2.2.1 a 7) else σ.2.2.1 a j) else σ.2.2.1 i j, σ.2.2.2)
theorem ok_append (d : Nat) (a b : Nat) (σ : fd_S) (post : Option fd_V → fd_S → Prop) (ha : a < σ.1) (hsa : fd_sh a = .inl 1) (hb : b < σ.1) (hsb : fd_sh b = .inl 2) (h1 : post none (ap_s σ a b)) : fd_Sem (d + 1) 16 [.inr (.inr (.inl (some a))), .inr (.inr (.inl (some b)))] σ post := by
  have hab : a ≠ b := fun e => by rw [e, hsb] at hsa; cases hsa
  intro X hX hV
  repeat (first | refine hX _ _ _ _ _ _ ?_ | refine Exists.intro _ (And.intro (by first | rfl | assumption) (And.intro (by first | assumption | exact fd_lt20 h20 (by decide)) (And.intro (by first | rfl | assumption) ?_))))
  refine And.intro (fun hc => ?_) (fun hc => ?_) <;> try dsimp only [fd_icmp] at hc
  · repeat (first | refine hX _ _ _ _ _ _ ?_ | refine Exists.intro _ (And.intro (by first | rfl | assumption) (And.intro (by first | assumption | exact fd_lt20 h20 (by decide)) (And.intro (by first | rfl | assumption) ?_))))
    refine cast (congrArg (post none) ?_) h1
    refine Prod.ext rfl (Prod.ext (funext fun i => funext fun j => ?_) (Prod.ext (funext fun i => funext fun j => ?_) rfl))
    · simp only [ap_s, fd_si, fd_sr, fd_u]; grind
    · simp only [fd_si, fd_sr, fd_u] at hc
      simp only [ap_s, fd_si, fd_sr, fd_u]; grind
  · repeat (first | refine hX _ _ _ _ _ _ ?_ | refine Exists.intro _ (And.intro (by first | rfl | assumption) (And.intro (by first | assumption | exact fd_lt20 h20 (by decide)) (And.intro (by first | rfl | assumption) ?_))))
    refine cast (congrArg (post none) ?_) h1
    refine Prod.ext rfl (Prod.ext (funext fun i => funext fun j => ?_) (Prod.ext (funext fun i => funext fun j => ?_) rfl))
    · simp only [ap_s, fd_si, fd_sr, fd_u]; grind
    · simp only [fd_si, fd_sr, fd_u] at hc
      simp only [ap_s, fd_si, fd_sr, fd_u]; grind
/-- removeLast -/
def rl_s (σ : fd_S) (a b : Nat) (z : Int32) : fd_S := (σ.1,
  fun i j => if i = b then (if j = 9 then z else if j = 10 then -1 else if j = 11 then -1 else σ.2.1 b j) else if i = a then (if j = 6 then σ.2.1 a 6 - 1 else if j = 3 then σ.2.1 a 3 - (σ.2.1 b 4 + 5) else if j = 4 then σ.2.1 a 4 - σ.2.1 b 5 else if j = 5 then σ.2.1 a 5 - σ.2.1 b 6 else σ.2.1 a j) else σ.2.1 i j,
  fun i j => if i = b then (if j = 12 then none else σ.2.2.1 b j) else if i = a then (if j = 8 then σ.2.2.1 b 12 else if j = 7 then (if σ.2.2.1 b 12 = none then none else σ.2.2.1 a 7) else σ.2.2.1 a j) else σ.2.2.1 i j, σ.2.2.2)
theorem ok_removeLast (d : Nat) (a b : Nat) (z : Int32) (σ : fd_S) (post : Option fd_V → fd_S → Prop) (ha : a < σ.1) (hsa : fd_sh a = .inl 1) (hb : b < σ.1) (hsb : fd_sh b = .inl 2) (hl : σ.2.2.1 a 8 = some b) (h1 : post none (rl_s σ a b z)) : fd_Sem (d + 2) 17 [.inr (.inr (.inl (some a))), .inl z] σ post := by
  have hab : a ≠ b := fun e => by rw [e, hsb] at hsa; cases hsa
  intro X hX hV
  refine hX _ _ _ _ _ _ ?_
  refine hX _ _ _ _ _ _ ?_
  refine Exists.intro _ (And.intro (by first | rfl | assumption) (And.intro (by first | assumption | exact fd_lt20 h20 (by decide)) (And.intro (by first | rfl | assumption) ?_)))
  rw [hl]
  repeat (first | refine hX _ _ _ _ _ _ ?_ | refine Exists.intro _ (And.intro (by first | rfl | assumption) (And.intro (by first | assumption | exact fd_lt20 h20 (by decide)) (And.intro (by first | rfl | assumption) ?_))))
  refine And.intro (fun hc => ?_) (fun hc => absurd hc (by simp))
  repeat (first | refine hX _ _ _ _ _ _ ?_ | refine Exists.intro _ (And.intro (by first | rfl | assumption) (And.intro (by first | assumption | exact fd_lt20 h20 (by decide)) (And.intro (by first | rfl | assumption) ?_))))
  refine And.intro (fun hc => ?_) (fun hc => ?_) <;> try dsimp only [fd_icmp] at hc
  · repeat (first | refine hX _ _ _ _ _ _ ?_ | refine Exists.intro _ (And.intro (by first | rfl | assumption) (And.intro (by first | assumption | exact fd_lt20 h20 (by decide)) (And.intro (by first | rfl | assumption) ?_))))
    refine ok_leaveDeck _ _ _ _ _ hb hsb ?_
    repeat (first | refine hX _ _ _ _ _ _ ?_ | refine Exists.intro _ (And.intro (by first | rfl | assumption) (And.intro (by first | assumption | exact fd_lt20 h20 (by decide)) (And.intro (by first | rfl | assumption) ?_))))
    refine cast (congrArg (post none) ?_) h1
    refine Prod.ext rfl (Prod.ext (funext fun i => funext fun j => ?_) (Prod.ext (funext fun i => funext fun j => ?_) rfl))
    · simp only [rl_s, ld_s, fd_si, fd_sr, fd_u]; grind
    · simp only [fd_si, fd_sr, fd_u] at hc
      simp only [rl_s, ld_s, fd_si, fd_sr, fd_u]; grind
  · repeat (first | refine hX _ _ _ _ _ _ ?_ | refine Exists.intro _ (And.intro (by first | rfl | assumption) (And.intro (by first | assumption | exact fd_lt20 h20 (by decide)) (And.intro (by first | rfl | assumption) ?_))))
    refine ok_leaveDeck _ _ _ _ _ hb hsb ?_
    repeat (first | refine hX _ _ _ _ _ _ ?_ | refine Exists.intro _ (And.intro (by first | rfl | assumption) (And.intro (by first | assumption | exact fd_lt20 h20 (by decide)) (And.intro (by first | rfl | assumption) ?_))))
    refine cast (congrArg (post none) ?_) h1
    refine Prod.ext rfl (Prod.ext (funext fun i => funext fun j => ?_) (Prod.ext (funext fun i => funext fun j => ?_) rfl))
    · simp only [rl_s, ld_s, fd_si, fd_sr, fd_u]; grind
    · simp only [fd_si, fd_sr, fd_u] at hc
      simp only [rl_s, ld_s, fd_si, fd_sr, fd_u]; grind
