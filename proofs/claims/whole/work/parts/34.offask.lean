theorem si_eq {σ : fd_S} {a k : Nat} {v : Int32} : (fd_si σ a k v).2.1 a k = v := by show fd_u σ.2.1 a k v a k = v; exact fd_u_eq
theorem si_ne {σ : fd_S} {a k i j : Nat} {v : Int32} (h : i ≠ a) : (fd_si σ a k v).2.1 i j = σ.2.1 i j := by show fd_u σ.2.1 a k v i j = _; exact fd_u_ne h
theorem ia_ld {τ : fd_S} (h20 : 20 ≤ τ.1) {f a n i : Nat} {x y : Int32} {X : fd_X} {nx : List fd_E} {lv : fd_L} {t : List fd_V} {cc ss : Nat} (hf : τ.2.2.1 9 f = some a) (ha : a < 20) (hs : fd_sh a = .inr (n, none)) (hy : y = nI i) (hi : i < n) (hx : τ.2.1 a i = x) (hn : n < 2 ^ 31) (k : X nx lv (.inl x :: t) τ cc ss) : fd_ial none X nx lv (.inl y :: .inr (.inr (.inl (τ.2.2.1 9 f))) :: t) τ cc ss := se_iald (SE.rf (P := fun _ _ => False) τ) h20 hf ha hs hy hi hx id hn k
theorem ia_st {τ : fd_S} (h20 : 20 ≤ τ.1) {f a n i : Nat} {v y : Int32} {X : fd_X} {nx : List fd_E} {lv : fd_L} {t : List fd_V} {cc ss : Nat} (hf : τ.2.2.1 9 f = some a) (ha : a < 20) (hs : fd_sh a = .inr (n, none)) (hy : y = nI i) (hi : i < n) (hn : n < 2 ^ 31) (k : X nx lv t (fd_si τ a i v) cc ss) : fd_ias X nx lv (.inl v :: .inl y :: .inr (.inr (.inl (τ.2.2.1 9 f))) :: t) τ cc ss := by
  subst hy
  refine ⟨a, n, hf, by omega, hs, vp_in_nI hi hn, ?_⟩
  rw [nI_clamp (by omega)]
  exact k
def of_s (σ : fd_S) (a b : Nat) : fd_S := fd_sl (fd_si (rl_s σ a b 0) b 13 0) 0 6 (σ.2.2.2 0 6 - (σ.2.1 b 13).toInt64)
theorem c_off (d n : Nat) (x : Int32) (σ : fd_S) (post : Option fd_V → fd_S → Prop) (hB : fd_B σ n) (hfl : ∀ l, l < 4 → ∀ j, ∀ a, σ.2.2.1 (5 + l) j = some a → a < σ.1 ∧ fd_sh a = .inl 2) (h0 : (∀ i, i < 4 → x ≠ nI i) → post (some (.inl (-2))) σ) (h2 : ∀ l, l < 4 → x = nI l → σ.2.2.1 (5 + l) 8 = none → post (some (.inl (-3))) σ) (h1 : ∀ l b, l < 4 → x = nI l → σ.2.2.1 (5 + l) 8 = some b → post (some (.inl (σ.2.1 b 13))) (of_s σ (5 + l) b)) : fd_Sem (d + 3) 30 [.inr (.inr (.inl (some 0))), .inl x] σ post := by
  obtain ⟨h20, hN, hn, hcn, r0, r2, r3, r30, hva, hla⟩ := id hB
  intro X hX hV
  repeat (first | refine hX _ _ _ _ _ _ ?_ | refine Exists.intro _ (And.intro (by first | rfl | assumption) (And.intro (by first | assumption | exact fd_lt20 h20 (by decide)) (And.intro (by first | rfl | assumption) ?_))))
  refine ok_laneAt _ _ n _ _ hB (fun l hl e => ?_) (fun hno => ?_)
  · have hv : 5 + l < σ.1 := by omega
    have hs := fd_sh_lane hl
    repeat refine hX _ _ _ _ _ _ ?_
    refine And.intro (fun _ => ?_) (fun hc => by cases hc)
    iterate 2 refine hX _ _ _ _ _ _ ?_
    refine Exists.intro _ (And.intro (by first | rfl | assumption) (And.intro (by first | assumption | exact fd_lt20 h20 (by decide)) (And.intro (by first | rfl | assumption) ?_)))
    obtain ⟨o, ho⟩ : ∃ o, σ.2.2.1 (5 + l) 8 = o := ⟨_, rfl⟩
    rw [ho]
    cases o with
    | none =>
      repeat refine hX _ _ _ _ _ _ ?_
      refine And.intro (fun hc => absurd rfl hc) (fun _ => ?_)
      repeat refine hX _ _ _ _ _ _ ?_
      exact h2 l hl e ho
    | some b =>
      obtain ⟨hb, hsb⟩ := hfl l hl 8 b ho
      have h1 := h1 l b hl e ho
      have e13 : (rl_s σ (5 + l) b 0).2.1 b 13 = σ.2.1 b 13 := by simp [rl_s]
      have hb2 : b < (rl_s σ (5 + l) b 0).1 := hb
      repeat refine hX _ _ _ _ _ _ ?_
      refine And.intro (fun _ => ?_) (fun hc => by cases hc)
      repeat (first | refine hX _ _ _ _ _ _ ?_ | refine Exists.intro _ (And.intro (by first | rfl | assumption) (And.intro (by first | assumption | exact fd_lt20 h20 (by decide)) (And.intro (by first | rfl | assumption) ?_))))
      refine ok_removeLast _ (5 + l) b 0 σ _ hv hs hb hsb ho ?_
      iterate 2 refine hX _ _ _ _ _ _ ?_
      refine Exists.intro _ (And.intro (by first | rfl | assumption) (And.intro (by first | assumption | exact fd_lt20 h20 (by decide)) (And.intro (by first | rfl | assumption) ?_)))
      rw [e13]
      have g20 : 20 ≤ (rl_s σ (5 + l) b 0).1 := h20
      have h20 := g20
      repeat (first | refine hX _ _ _ _ _ _ ?_ | refine Exists.intro _ (And.intro (by first | rfl | assumption) (And.intro (by first | assumption | exact fd_lt20 h20 (by decide)) (And.intro (by first | rfl | assumption) ?_))))
      exact h1
  · repeat refine hX _ _ _ _ _ _ ?_
    refine And.intro (fun hc => absurd rfl hc) (fun _ => ?_)
    repeat refine hX _ _ _ _ _ _ ?_
    exact h0 hno
def mo_s (σ : fd_S) (l m i : Nat) : fd_S := fd_sl (fd_si (fd_si (fd_si σ 17 l (nI (m - 1))) 13 i 0) 14 i 0) 9 12 (σ.2.2.2 9 12 - (σ.2.1 14 i).toInt64)
theorem m_off (d : Nat) (m : Nat → Nat) (x : Int32) (σ : fd_S) (post : Option fd_V → fd_S → Prop) (hB : Mb σ) (hS : ∀ l, l < 4 → Vs σ l (m l)) (h0 : (∀ i, i < 4 → x ≠ nI i) → post (some (.inl (-2))) σ) (h2 : ∀ l, l < 4 → x = nI l → m l = 0 → post (some (.inl (-3))) σ) (h1 : ∀ l, l < 4 → x = nI l → 0 < m l → post (some (.inl (σ.2.1 14 (sv σ l (m l - 1))))) (mo_s σ l (m l) (sv σ l (m l - 1)))) : fd_Sem (d + 3) 70 [.inr (.inr (.inl (some 9))), .inl x] σ post := by
  obtain ⟨h20, r1, r2, r3, r4, r5, r6, r7, r8, r9, r13⟩ := id hB
  intro X hX hV
  repeat (first | refine hX _ _ _ _ _ _ ?_ | refine Exists.intro _ (And.intro (by first | rfl | assumption) (And.intro (by first | assumption | exact fd_lt20 h20 (by decide)) (And.intro (by first | rfl | assumption) ?_))))
  refine ok_isLane _ _ _ _ (fun l hl e => ?_) (fun hno => ?_)
  · obtain ⟨hm60, h17, hst⟩ := id (hS l hl)
    have g1 := h1 l hl e
    have g2 := h2 l hl e
    clear h1 h2
    subst e
    repeat refine hX _ _ _ _ _ _ ?_
    refine And.intro (fun _ => ?_) (fun hc => absurd (show (1 : Int32) = 0 from hc) (by decide))
    repeat (first | refine hX _ _ _ _ _ _ ?_ | refine Exists.intro _ (And.intro (by first | rfl | assumption) (And.intro (by first | assumption | exact fd_lt20 h20 (by decide)) (And.intro (by first | rfl | assumption) ?_))))
    refine ia_ld (by exact h20) (by exact r8) (by decide) (by rfl) rfl hl h17 (by decide) ?_
    repeat refine hX _ _ _ _ _ _ ?_
    by_cases hm0 : m l = 0
    · refine And.intro (fun hc => absurd (show nI (m l) = 0 by rw [hm0]; rfl) hc) (fun _ => ?_)
      repeat refine hX _ _ _ _ _ _ ?_
      exact g2 hm0
    · have h1 := g1 (by omega)
      obtain ⟨hsk, hvi⟩ := hst (m l - 1) (by omega)
      refine And.intro (fun _ => ?_) (fun hc => absurd hc (nI_ne0 (by omega) (by omega)))
      repeat (first | refine hX _ _ _ _ _ _ ?_ | refine Exists.intro _ (And.intro (by first | rfl | assumption) (And.intro (by first | assumption | exact fd_lt20 h20 (by decide)) (And.intro (by first | rfl | assumption) ?_))))
      refine ia_ld (by exact h20) (by exact r8) (by decide) (by rfl) rfl hl h17 (by decide) ?_
      iterate 3 refine hX _ _ _ _ _ _ ?_
      rw [show (fun x y : Int32 => x - y) (nI (m l)) 1 = nI (m l - 1) from by show nI (m l) - 1 = _; rw [show m l = (m l - 1) + 1 by omega]; exact nI_pred _]
      refine ia_st (by exact h20) (by exact r8) (by decide) (by rfl) rfl hl (by decide) ?_
      repeat (first | refine hX _ _ _ _ _ _ ?_ | refine Exists.intro _ (And.intro (by first | rfl | assumption) (And.intro (by first | assumption | exact fd_lt20 h20 (by decide)) (And.intro (by first | rfl | assumption) ?_))))
      refine ia_ld (by exact h20) (by exact r8) (by decide) (by rfl) rfl hl (x := nI (m l - 1)) (by exact si_eq) (by decide) ?_
      repeat (first | refine hX _ _ _ _ _ _ ?_ | refine Exists.intro _ (And.intro (by first | rfl | assumption) (And.intro (by first | assumption | exact fd_lt20 h20 (by decide)) (And.intro (by first | rfl | assumption) ?_))))
      refine ia_ld (by exact h20) (by exact r9) (by decide) (by rfl) (sq_idx l (m l - 1)) (by omega) (x := nI (sv σ l (m l - 1))) (by rw [si_ne (by decide)]; exact hsk) (by decide) ?_
      repeat (first | refine hX _ _ _ _ _ _ ?_ | refine Exists.intro _ (And.intro (by first | rfl | assumption) (And.intro (by first | assumption | exact fd_lt20 h20 (by decide)) (And.intro (by first | rfl | assumption) ?_))))
      refine ia_ld (by exact h20) (by exact r5) (by decide) (by rfl) rfl hvi.1 (x := σ.2.1 14 (sv σ l (m l - 1))) (by rw [si_ne (by decide)]) (by decide) ?_
      repeat (first | refine hX _ _ _ _ _ _ ?_ | refine Exists.intro _ (And.intro (by first | rfl | assumption) (And.intro (by first | assumption | exact fd_lt20 h20 (by decide)) (And.intro (by first | rfl | assumption) ?_))))
      refine ia_st (by exact h20) (by exact r4) (by decide) (by rfl) rfl hvi.1 (by decide) ?_
      repeat (first | refine hX _ _ _ _ _ _ ?_ | refine Exists.intro _ (And.intro (by first | rfl | assumption) (And.intro (by first | assumption | exact fd_lt20 h20 (by decide)) (And.intro (by first | rfl | assumption) ?_))))
      refine ia_st (by exact h20) (by exact r5) (by decide) (by rfl) rfl hvi.1 (by decide) ?_
      repeat (first | refine hX _ _ _ _ _ _ ?_ | refine Exists.intro _ (And.intro (by first | rfl | assumption) (And.intro (by first | assumption | exact fd_lt20 h20 (by decide)) (And.intro (by first | rfl | assumption) ?_))))
      exact h1
  · repeat refine hX _ _ _ _ _ _ ?_
    refine And.intro (fun hc => absurd (show (0 : Int32) = 0 from rfl) hc) (fun _ => ?_)
    repeat refine hX _ _ _ _ _ _ ?_
    exact h0 hno
theorem c_ask (d n : Nat) (x w s : Int32) (σ : fd_S) (post : Option fd_V → fd_S → Prop) (hB : fd_B σ n) (h0 : ¬ ((∃ i, i < n ∧ x = nI i) ∧ (0 ≤ w ∧ w ≤ 5) ∧ (w = 3 → 0 ≤ s ∧ s ≤ 3)) → post (some (.inl (-2))) σ) (h1 : ∀ i j, i < n → x = nI i → j < 6 → w = nI j → (w = 3 → 0 ≤ s ∧ s ≤ 3) → ∃ k, k < 7 ∧ σ.2.1 (20 + i) 1 = nI k ∧ post (some (.inl (an_w k (σ.2.1 (20 + i) 2) (σ.2.1 (20 + i) 3) s 16 k j).1)) (AT σ (20 + i) s (an_w k (σ.2.1 (20 + i) 2) (σ.2.1 (20 + i) 3) s 16 k j).2)) : fd_Sem (d + 62) 25 [.inr (.inr (.inl (some 0))), .inl x, .inl w, .inl s] σ post := by
  obtain ⟨h20, hN, hn, hcn, r0, r2, r3, r30, hva, hla⟩ := id hB
  intro X hX hV
  repeat (first | refine hX _ _ _ _ _ _ ?_ | refine Exists.intro _ (And.intro (by first | rfl | assumption) (And.intro (by first | assumption | exact fd_lt20 h20 (by decide)) (And.intro (by first | rfl | assumption) ?_))))
  refine ok_vehicleAt _ _ n _ _ hB (fun i hi e => ?_) (fun hno => ?_)
  · have hv : 20 + i < σ.1 := by omega
    have hs := fd_shV i
    repeat refine hX _ _ _ _ _ _ ?_
    refine And.intro (fun hc => by cases hc) (fun _ => ?_)
    repeat refine hX _ _ _ _ _ _ ?_
    refine ok_within _ _ _ _ _ _ (fun ha hb => ?_) (fun ha => ?_)
    · obtain ⟨j, hj, hw⟩ : ∃ j, j < 6 ∧ w = nI j := ix_of (by decide) ha (by rw [show (nI 6 - 1 : Int32) = 5 by decide]; exact hb)
      have fin : (w = 3 → 0 ≤ s ∧ s ≤ 3) → X ((fd_code 25).drop 23) [(4, .inr (.inr (.inl (some (20 + i))))), (0, .inr (.inr (.inl (some 0)))), (2, .inl w), (3, .inl s)] [] σ 0 0 := by
        intro h3
        obtain ⟨k, hk7, hk, h1⟩ := h1 i j hi e hj hw h3
        rw [hw]
        repeat (first | refine hX _ _ _ _ _ _ ?_ | refine Exists.intro _ (And.intro (by first | rfl | assumption) (And.intro (by first | assumption | exact fd_lt20 h20 (by decide)) (And.intro (by first | rfl | assumption) ?_))))
        refine ok_answerTraced d (20 + i) k j _ _ s σ _ h20 r30 hv hs hk7 hk rfl rfl hj ?_
        repeat refine hX _ _ _ _ _ _ ?_
        exact h1
      repeat refine hX _ _ _ _ _ _ ?_
      refine And.intro (fun _ => ?_) (fun hc => absurd (show (1 : Int32) = 0 from hc) (by decide))
      repeat refine hX _ _ _ _ _ _ ?_
      refine And.intro (fun hc => ?_) (fun hc => ?_) <;> try dsimp only [fd_icmp] at hc
      · exact hV _ _ [(4, .inr (.inr (.inl (some (20 + i))))), (0, .inr (.inr (.inl (some 0)))), (2, .inl w), (3, .inl s)] _ _ _ _ (And.intro rfl (And.intro rfl (And.intro rfl (And.intro rfl trivial)))) (fin (fun q => absurd q hc))
      · repeat refine hX _ _ _ _ _ _ ?_
        refine ok_within _ _ _ _ _ _ (fun h5 h6 => ?_) (fun h5 => ?_)
        · repeat refine hX _ _ _ _ _ _ ?_
          refine And.intro (fun _ => ?_) (fun hc => absurd (show (1 : Int32) = 0 from hc) (by decide))
          exact hV _ _ [(4, .inr (.inr (.inl (some (20 + i))))), (0, .inr (.inr (.inl (some 0)))), (2, .inl w), (3, .inl s)] _ _ _ _ (And.intro rfl (And.intro rfl (And.intro rfl (And.intro rfl trivial)))) (fin (fun _ => ⟨h5, h6⟩))
        · repeat refine hX _ _ _ _ _ _ ?_
          refine And.intro (fun hc => absurd (show (0 : Int32) = 0 from rfl) hc) (fun _ => ?_)
          repeat refine hX _ _ _ _ _ _ ?_
          exact h0 (fun q => h5 (q.2.2 hc))
    · repeat refine hX _ _ _ _ _ _ ?_
      refine And.intro (fun hc => absurd (show (0 : Int32) = 0 from rfl) hc) (fun _ => ?_)
      repeat refine hX _ _ _ _ _ _ ?_
      exact h0 (fun q => ha q.2.1)
  · repeat refine hX _ _ _ _ _ _ ?_
    refine And.intro (fun _ => ?_) (fun hc => absurd rfl hc)
    repeat refine hX _ _ _ _ _ _ ?_
    exact h0 (fun ⟨⟨i, hi, e⟩, _⟩ => hno i hi e)
theorem an_w4_no {k : Nat} (hk : k < 7) (h : hvy k = false) (sz ld s : Int32) : an_w k sz ld s 16 k 4 = (-3, []) := by
  match k, hk, h with
  | 0, _, _ => rfl
  | 1, _, _ => rfl
  | 5, _, _ => rfl
  | 2, _, h => cases h
  | 3, _, h => cases h
  | 4, _, h => cases h
  | 6, _, h => cases h
theorem an_w5_no {k : Nat} (hk : k < 7) (h : mrk k = false) (sz ld s : Int32) : an_w k sz ld s 16 k 5 = (-3, []) := by
  match k, hk, h with
  | 0, _, _ => rfl
  | 1, _, _ => rfl
  | 2, _, _ => rfl
  | 3, _, h => cases h
  | 4, _, h => cases h
  | 5, _, h => cases h
  | 6, _, h => cases h
theorem m_ask (d n : Nat) (x w s : Int32) (σ : fd_S) (post : Option fd_V → fd_S → Prop) (hB : Mb σ) (hn : n ≤ 60) (h90 : σ.2.1 9 0 = nI n) (h0 : ¬ ((∃ i, i < n ∧ x = nI i) ∧ (0 ≤ w ∧ w ≤ 5) ∧ (w = 3 → 0 ≤ s ∧ s ≤ 3)) → post (some (.inl (-2))) σ) (h1 : ∀ i j, i < n → x = nI i → j < 6 → w = nI j → (w = 3 → 0 ≤ s ∧ s ≤ 3) → ∃ k, k < 7 ∧ σ.2.1 10 i = nI k ∧ ∀ τ, Md (fd_si σ 9 14 0) 0 (an_w k (σ.2.1 11 i) (σ.2.1 12 i) s 16 k j).2 τ → post (some (.inl (an_w k (σ.2.1 11 i) (σ.2.1 12 i) s 16 k j).1)) τ) : fd_Sem (d + 5) 61 [.inr (.inr (.inl (some 9))), .inl x, .inl w, .inl s] σ post := by
  obtain ⟨h20, r1, r2, r3, r4, r5, r6, r7, r8, r9, r13⟩ := id hB
  intro X hX hV
  repeat (first | refine hX _ _ _ _ _ _ ?_ | refine Exists.intro _ (And.intro (by first | rfl | assumption) (And.intro (by first | assumption | exact fd_lt20 h20 (by decide)) (And.intro (by first | rfl | assumption) ?_))))
  refine ok_isVehicle _ n _ _ _ h20 hn h90 (fun i hi e => ?_) (fun hno => ?_)
  · repeat refine hX _ _ _ _ _ _ ?_
    refine And.intro (fun hc => absurd (show (1 : Int32) = 0 from hc) (by decide)) (fun _ => ?_)
    repeat refine hX _ _ _ _ _ _ ?_
    refine ok_in _ _ _ _ _ _ (fun ha hb => ?_) (fun ha => ?_)
    · obtain ⟨j, hj, hw⟩ : ∃ j, j < 6 ∧ w = nI j := ix_of (by decide) ha (by rw [show (nI 6 - 1 : Int32) = 5 by decide]; exact hb)
      have fin : (w = 3 → 0 ≤ s ∧ s ≤ 3) → X ((fd_code 61).drop 19) [(0, .inr (.inr (.inl (some 9)))), (1, .inl x), (2, .inl w), (3, .inl s)] [] σ 0 0 := by
        intro h3
        obtain ⟨k, hk7, hk, hz⟩ := h1 i j hi e hj hw h3
        clear h1 h0
        have hi60 : i < 60 := by omega
        subst e
        subst hw
        have hB1 : Mb (fd_si σ 9 14 0) := hB
        have hk1 : (fd_si σ 9 14 0).2.1 10 i = nI k := by show fd_u σ.2.1 9 14 0 10 i = _; rw [fd_u_ne (by decide)]; exact hk
        have hs1 : (fd_si σ 9 14 0).2.1 11 i = σ.2.1 11 i := by show fd_u σ.2.1 9 14 0 11 i = _; rw [fd_u_ne (by decide)]
        have hl1 : (fd_si σ 9 14 0).2.1 12 i = σ.2.1 12 i := by show fd_u σ.2.1 9 14 0 12 i = _; rw [fd_u_ne (by decide)]
        have hM : Md (fd_si σ 9 14 0) 0 [] (fd_si σ 9 14 0) := ⟨SE.rf _, by show fd_u σ.2.1 9 14 0 9 14 = _; rw [fd_u_eq]; rfl, fun j hj => by simp at hj⟩
        repeat (first | refine hX _ _ _ _ _ _ ?_ | refine Exists.intro _ (And.intro (by first | rfl | assumption) (And.intro (by first | assumption | exact fd_lt20 h20 (by decide)) (And.intro (by first | rfl | assumption) ?_))))
        match j, hj, hz with
        | 0, _, hz =>
          refine Or.inl (Exists.intro 0 (Exists.intro _ (And.intro rfl (And.intro (by decide) ?_))))
          repeat (first | refine hX _ _ _ _ _ _ ?_ | refine Exists.intro _ (And.intro (by first | rfl | assumption) (And.intro (by first | assumption | exact fd_lt20 h20 (by decide)) (And.intro (by first | rfl | assumption) ?_))))
          refine ok_mlen _ i 0 k _ _ s hB1 hi60 hk7 hk1 hs1 hl1 hM (by decide) (fun τ hτ => ?_)
          repeat refine hX _ _ _ _ _ _ ?_
          exact hz τ hτ
        | 1, _, hz =>
          refine Or.inl (Exists.intro 1 (Exists.intro _ (And.intro rfl (And.intro (by decide) ?_))))
          repeat (first | refine hX _ _ _ _ _ _ ?_ | refine Exists.intro _ (And.intro (by first | rfl | assumption) (And.intro (by first | assumption | exact fd_lt20 h20 (by decide)) (And.intro (by first | rfl | assumption) ?_))))
          refine ok_mmass _ i 0 k _ _ s hB1 hi60 hk7 hk1 hs1 hl1 hM (by decide) (fun τ hτ => ?_)
          repeat refine hX _ _ _ _ _ _ ?_
          exact hz τ hτ
        | 2, _, hz =>
          refine Or.inl (Exists.intro 2 (Exists.intro _ (And.intro rfl (And.intro (by decide) ?_))))
          repeat (first | refine hX _ _ _ _ _ _ ?_ | refine Exists.intro _ (And.intro (by first | rfl | assumption) (And.intro (by first | assumption | exact fd_lt20 h20 (by decide)) (And.intro (by first | rfl | assumption) ?_))))
          refine ok_mmin _ i 0 k _ _ s hB1 hi60 hk7 hk1 hs1 hl1 hM (by decide) (fun τ hτ => ?_)
          repeat refine hX _ _ _ _ _ _ ?_
          exact hz τ hτ
        | 3, _, hz =>
          refine Or.inl (Exists.intro 3 (Exists.intro _ (And.intro rfl (And.intro (by decide) ?_))))
          repeat (first | refine hX _ _ _ _ _ _ ?_ | refine Exists.intro _ (And.intro (by first | rfl | assumption) (And.intro (by first | assumption | exact fd_lt20 h20 (by decide)) (And.intro (by first | rfl | assumption) ?_))))
          refine ok_mfare _ i 0 k _ _ s hB1 hi60 hk7 hk1 hs1 hl1 hM (by decide) (fun τ hτ => ?_)
          repeat refine hX _ _ _ _ _ _ ?_
          exact hz τ hτ
        | 4, _, hz =>
          refine Or.inl (Exists.intro 4 (Exists.intro _ (And.intro rfl (And.intro (by decide) ?_))))
          repeat (first | refine hX _ _ _ _ _ _ ?_ | refine Exists.intro _ (And.intro (by first | rfl | assumption) (And.intro (by first | assumption | exact fd_lt20 h20 (by decide)) (And.intro (by first | rfl | assumption) ?_))))
          refine ia_ld (by exact h20) (by exact r1) (by decide) (by rfl) rfl hi60 hk1 (by decide) ?_
          repeat refine hX _ _ _ _ _ _ ?_
          refine ok_mheavy _ k _ _ hk7 (fun hh => ?_) (fun hh => ?_)
          · repeat refine hX _ _ _ _ _ _ ?_
            refine And.intro (fun hc => absurd (show (1 : Int32) = 0 from hc) (by decide)) (fun _ => ?_)
            repeat (first | refine hX _ _ _ _ _ _ ?_ | refine Exists.intro _ (And.intro (by first | rfl | assumption) (And.intro (by first | assumption | exact fd_lt20 h20 (by decide)) (And.intro (by first | rfl | assumption) ?_))))
            refine ok_mtoll _ i 0 k _ _ s hB1 hi60 hk7 hh hk1 hs1 hl1 hM (by decide) (fun τ hτ => ?_)
            repeat refine hX _ _ _ _ _ _ ?_
            exact hz τ hτ
          · rw [an_w4_no hk7 hh] at hz
            repeat refine hX _ _ _ _ _ _ ?_
            refine And.intro (fun _ => ?_) (fun hc => absurd (show (0 : Int32) = 0 from rfl) hc)
            repeat refine hX _ _ _ _ _ _ ?_
            exact hz _ hM
        | 5, _, hz =>
          refine Or.inr (And.intro (by decide) ?_)
          repeat (first | refine hX _ _ _ _ _ _ ?_ | refine Exists.intro _ (And.intro (by first | rfl | assumption) (And.intro (by first | assumption | exact fd_lt20 h20 (by decide)) (And.intro (by first | rfl | assumption) ?_))))
          refine ia_ld (by exact h20) (by exact r1) (by decide) (by rfl) rfl hi60 hk1 (by decide) ?_
          repeat refine hX _ _ _ _ _ _ ?_
          refine ok_mmarked _ k _ _ hk7 (fun hh => ?_) (fun hh => ?_)
          · repeat refine hX _ _ _ _ _ _ ?_
            refine And.intro (fun hc => absurd (show (1 : Int32) = 0 from hc) (by decide)) (fun _ => ?_)
            repeat (first | refine hX _ _ _ _ _ _ ?_ | refine Exists.intro _ (And.intro (by first | rfl | assumption) (And.intro (by first | assumption | exact fd_lt20 h20 (by decide)) (And.intro (by first | rfl | assumption) ?_))))
            refine ok_mdang _ i 0 k _ _ s hB1 hi60 hk7 hh hk1 hs1 hl1 hM (by decide) (fun τ hτ => ?_)
            repeat refine hX _ _ _ _ _ _ ?_
            exact hz τ hτ
          · rw [an_w5_no hk7 hh] at hz
            repeat refine hX _ _ _ _ _ _ ?_
            refine And.intro (fun _ => ?_) (fun hc => absurd (show (0 : Int32) = 0 from rfl) hc)
            repeat refine hX _ _ _ _ _ _ ?_
            exact hz _ hM
      repeat refine hX _ _ _ _ _ _ ?_
      refine And.intro (fun hc => absurd (show (1 : Int32) = 0 from hc) (by decide)) (fun _ => ?_)
      repeat refine hX _ _ _ _ _ _ ?_
      refine And.intro (fun hc => ?_) (fun hc => ?_) <;> try dsimp only [fd_icmp] at hc
      · exact hV _ _ [(0, .inr (.inr (.inl (some 9)))), (1, .inl x), (2, .inl w), (3, .inl s)] _ _ _ _ (And.intro rfl (And.intro rfl (And.intro rfl (And.intro rfl trivial)))) (fin (fun q => absurd q hc))
      · repeat refine hX _ _ _ _ _ _ ?_
        refine ok_in _ _ _ _ _ _ (fun h5 h6 => ?_) (fun h5 => ?_)
        · repeat refine hX _ _ _ _ _ _ ?_
          refine And.intro (fun _ => ?_) (fun hc => absurd (show (1 : Int32) = 0 from hc) (by decide))
          exact hV _ _ [(0, .inr (.inr (.inl (some 9)))), (1, .inl x), (2, .inl w), (3, .inl s)] _ _ _ _ (And.intro rfl (And.intro rfl (And.intro rfl (And.intro rfl trivial)))) (fin (fun _ => ⟨h5, h6⟩))
        · repeat refine hX _ _ _ _ _ _ ?_
          refine And.intro (fun hc => absurd (show (0 : Int32) = 0 from rfl) hc) (fun _ => ?_)
          repeat refine hX _ _ _ _ _ _ ?_
          exact h0 (fun q => h5 (q.2.2 hc))
    · repeat refine hX _ _ _ _ _ _ ?_
      refine And.intro (fun _ => ?_) (fun hc => absurd (show (0 : Int32) = 0 from rfl) hc)
      repeat refine hX _ _ _ _ _ _ ?_
      exact h0 (fun q => ha q.2.1)
  · repeat refine hX _ _ _ _ _ _ ?_
    refine And.intro (fun _ => ?_) (fun hc => absurd (show (0 : Int32) = 0 from rfl) hc)
    repeat refine hX _ _ _ _ _ _ ?_
    exact h0 (fun ⟨⟨i, hi, e⟩, _⟩ => hno i hi e)
