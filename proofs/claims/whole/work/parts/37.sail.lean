def Sq (m : Nat → Nat) (σ : fd_S) : Nat → fd_S
  | 0 => σ
  | l + 1 => sa_s (m l) (Sq m σ l) (5 + l)
def aabs (x : Int32) : Int32 := if 0 ≤ x then x else 0 - x
theorem c_sail (d n : Nat) (m : Nat → Nat) (σ : fd_S) (post : Option fd_V → fd_S → Prop) (hB : fd_B σ n) (hL : ∀ l, l < 4 → 20 ≤ (Sq m σ l).1 ∧ (Sq m σ l).2.2.1 2 l = some (5 + l) ∧ m l ≤ 60 ∧ (Sq m σ l).2.1 (5 + l) 6 = nI (m l) ∧ Ln (m l) (Sq m σ l) (5 + l)) (h4 : 20 ≤ (Sq m σ 4).1)
    (h0 : (cn σ 1 n = 0 ∨ 30000 < aabs (0 + σ.2.1 5 4 + σ.2.1 6 4 + -σ.2.1 7 4 + -σ.2.1 8 4)) → post (some (.inl (-3))) σ) (h1 : ¬ cn σ 1 n = 0 → aabs (0 + σ.2.1 5 4 + σ.2.1 6 4 + -σ.2.1 7 4 + -σ.2.1 8 4) ≤ 30000 → post (some (.inl (mx (mx (mx (mx 0 (σ.2.1 5 5)) (σ.2.1 6 5)) (σ.2.1 7 5)) (σ.2.1 8 5) + 30))) (fd_si (Sq m σ 4) 0 5 ((Sq m σ 4).2.1 0 5 + 1))) : fd_Sem (d + 4) 31 [.inr (.inr (.inl (some 0)))] σ post := by
  obtain ⟨h20, hN, hn, hcn, r0, r2, r3, r30, hva, hla⟩ := id hB
  intro X hX hV
  repeat (first | refine hX _ _ _ _ _ _ ?_ | refine Exists.intro _ (And.intro (by first | rfl | assumption) (And.intro (by first | assumption | exact fd_lt20 h20 (by decide)) (And.intro (by first | rfl | assumption) ?_))))
  refine ok_countOf _ n _ _ _ hB ?_
  repeat refine hX _ _ _ _ _ _ ?_
  refine And.intro (fun hc => ?_) (fun hc => ?_) <;> try dsimp only [fd_icmp] at hc
  · repeat refine hX _ _ _ _ _ _ ?_
    exact h0 (Or.inl hc)
  · repeat (first | refine hX _ _ _ _ _ _ ?_ | refine Exists.intro _ (And.intro (by first | rfl | assumption) (And.intro (by first | assumption | exact fd_lt20 h20 (by decide)) (And.intro (by first | rfl | assumption) ?_))))
    refine ok_apart _ n _ _ hB ?_
    repeat refine hX _ _ _ _ _ _ ?_
    refine And.intro (fun hd => ?_) (fun hd => ?_)
    · have hd : aabs (0 + σ.2.1 5 4 + σ.2.1 6 4 + -σ.2.1 7 4 + -σ.2.1 8 4) ≤ 30000 := hd
      have h1 := h1 hc hd
      repeat (first | refine hX _ _ _ _ _ _ ?_ | refine Exists.intro _ (And.intro (by first | rfl | assumption) (And.intro (by first | assumption | exact fd_lt20 h20 (by decide)) (And.intro (by first | rfl | assumption) ?_))))
      refine ok_longest _ n _ _ hB ?_
      generalize hR : mx (mx (mx (mx 0 (σ.2.1 5 5)) (σ.2.1 6 5)) (σ.2.1 7 5)) (σ.2.1 8 5) = R at h1 ⊢
      have step : ∀ l, l < 4 → X ((fd_code 31).drop 24) [(4, .inl (nI (l + 1))), (0, .inr (.inr (.inl (some 0)))), (1, .inl (R + 30)), (2, .inr (.inr (.inl (some 2)))), (3, .inl (nI 4))] [] (Sq m σ (l + 1)) 0 0 → X ((fd_code 31).drop 24) [(4, .inl (nI l)), (0, .inr (.inr (.inl (some 0)))), (1, .inl (R + 30)), (2, .inr (.inr (.inl (some 2)))), (3, .inl (nI 4))] [] (Sq m σ l) 0 0 := by
        intro l hl hgo
        obtain ⟨g20, gr, gm, g6, gL⟩ := hL l hl
        have hv : 5 + l < (Sq m σ l).1 := by omega
        have hs := fd_sh_lane hl
        have h20 := g20
        repeat refine hX _ _ _ _ _ _ ?_
        refine And.intro (fun hc => ?_) (fun _ => ?_)
        · have h2 : nI 4 ≤ nI l := hc
          rw [nI_leI (by omega) (by omega)] at h2
          omega
        · repeat refine hX _ _ _ _ _ _ ?_
          refine Exists.intro _ (Exists.intro _ (Exists.intro _ (And.intro (by first | rfl | assumption) (And.intro (by first | assumption | exact fd_lt20 h20 (by decide)) (And.intro (by first | rfl | assumption) (And.intro (vp_in_nI hl (by decide)) ?_))))))
          have e : (Sq m σ l).2.2.1 2 (nI l).toNatClampNeg = some (5 + l) := by rw [nI_clamp (by omega)]; exact gr
          refine hX _ _ _ _ _ _ ?_
          rw [e]
          repeat (first | refine hX _ _ _ _ _ _ ?_ | refine Exists.intro _ (And.intro (by first | rfl | assumption) (And.intro (by first | assumption | exact fd_lt20 h20 (by decide)) (And.intro (by first | rfl | assumption) ?_))))
          refine ok_sendAbroad _ (5 + l) (m l) _ _ hv hs gm g6 gL ?_
          refine hX _ _ _ _ _ _ ?_
          refine hX _ _ _ _ _ _ ?_
          exact hV _ _ [(4, .inl (nI (l + 1))), (0, .inr (.inr (.inl (some 0)))), (1, .inl (R + 30)), (2, .inr (.inr (.inl (some 2)))), (3, .inl (nI 4))] _ _ _ _ (And.intro (congrArg (fun x => some (Sum.inl x)) (nI_1 l)) (And.intro rfl (And.intro rfl (And.intro rfl (And.intro rfl trivial))))) hgo
      iterate 5 refine hX _ _ _ _ _ _ ?_
      refine Exists.intro _ (And.intro (by first | rfl | assumption) (And.intro (by first | assumption | exact fd_lt20 h20 (by decide)) (And.intro (by first | rfl | assumption) ?_)))
      rw [r2]
      repeat refine hX _ _ _ _ _ _ ?_
      refine Exists.intro _ (Exists.intro _ (Exists.intro _ (And.intro rfl (And.intro (fd_lt20 h20 (by decide)) (And.intro rfl ?_)))))
      iterate 3 refine hX _ _ _ _ _ _ ?_
      refine hV _ _ [(4, .inl (nI 0)), (0, .inr (.inr (.inl (some 0)))), (1, .inl (R + 30)), (2, .inr (.inr (.inl (some 2)))), (3, .inl (nI 4))] _ _ _ _ (And.intro rfl (And.intro rfl (And.intro rfl (And.intro rfl (And.intro rfl trivial))))) ?_
      refine step 0 (by decide) (step 1 (by decide) (step 2 (by decide) (step 3 (by decide) ?_)))
      have h20 := h4
      repeat refine hX _ _ _ _ _ _ ?_
      refine And.intro (fun _ => ?_) (fun hc => absurd (nI_le (a := 4) (Nat.le_refl 4) (by decide)) hc)
      repeat (first | refine hX _ _ _ _ _ _ ?_ | refine Exists.intro _ (And.intro (by first | rfl | assumption) (And.intro (by first | assumption | exact fd_lt20 h20 (by decide)) (And.intro (by first | rfl | assumption) ?_))))
      exact h1
    · have hd : ¬ aabs (0 + σ.2.1 5 4 + σ.2.1 6 4 + -σ.2.1 7 4 + -σ.2.1 8 4) ≤ 30000 := hd
      repeat refine hX _ _ _ _ _ _ ?_
      exact h0 (Or.inr (i32_nle.mp hd))
def PS (σ : fd_S) (m : Nat → Nat) (l k i : Nat) : Prop := (∃ l' k', l' < l ∧ k' < m l' ∧ sv σ l' k' = i) ∨ (∃ k', k' < k ∧ sv σ l k' = i)
def ZR (σ : fd_S) (m : Nat → Nat) (t l k : Nat) (τ : fd_S) : Prop := τ.1 = σ.1 ∧ τ.2.2.1 = σ.2.2.1 ∧ τ.2.2.2 = σ.2.2.2 ∧ (∀ a j, a ≠ 13 → a ≠ 17 → ¬ JQ t a j → τ.2.1 a j = σ.2.1 a j) ∧ (∀ l', l' < l → τ.2.1 17 l' = 0) ∧ (∀ l', l ≤ l' → τ.2.1 17 l' = σ.2.1 17 l') ∧ (∀ i, (PS σ m l k i → τ.2.1 13 i = 2) ∧ (¬ PS σ m l k i → τ.2.1 13 i = σ.2.1 13 i))
theorem zr_sv {σ τ : fd_S} {m : Nat → Nat} {t l k : Nat} (h : ZR σ m t l k τ) (l' k' : Nat) : sv τ l' k' = sv σ l' k' := by unfold sv; rw [h.2.2.2.1 18 _ (by decide) (by decide) (jq_ne (by decide))]
theorem zr_kd {σ τ : fd_S} {m : Nat → Nat} {t l k : Nat} (h : ZR σ m t l k τ) (i : Nat) : kd τ i = kd σ i := by unfold kd; rw [h.2.2.2.1 10 _ (by decide) (by decide) (jq_ne (by decide))]
theorem zr_qv {σ τ : fd_S} {m : Nat → Nat} {t l k : Nat} (h : ZR σ m t l k τ) (w : Nat) (s : Int32) (i : Nat) : qv τ w s i = qv σ w s i := by unfold qv; rw [zr_kd h, h.2.2.2.1 11 _ (by decide) (by decide) (jq_ne (by decide)), h.2.2.2.1 12 _ (by decide) (by decide) (jq_ne (by decide))]
theorem zr_sN {σ τ : fd_S} {m : Nat → Nat} {t l k : Nat} (h : ZR σ m t l k τ) (l' : Nat) : ∀ n, sN τ l' n = sN σ l' n
  | 0 => rfl
  | n + 1 => by simp only [sN]; rw [zr_sN h l' n, zr_qv h, zr_sv h]
theorem zr_se {σ τ ρ : fd_S} {m : Nat → Nat} {t l k : Nat} (h : ZR σ m t l k τ) (h2 : SE (JQ t) τ ρ) : ZR σ m t l k ρ := ⟨h2.1.trans h.1, h2.2.1.trans h.2.1, h2.2.2.1.trans h.2.2.1, fun a j a1 a2 a3 => (h2.2.2.2 a j a3).trans (h.2.2.2.1 a j a1 a2 a3), fun l' h' => (jq_at h2 (by decide)).trans (h.2.2.2.2.1 l' h'), fun l' h' => (jq_at h2 (by decide)).trans (h.2.2.2.2.2.1 l' h'), fun i => ⟨fun q => (jq_at h2 (by decide)).trans ((h.2.2.2.2.2.2 i).1 q), fun q => (jq_at h2 (by decide)).trans ((h.2.2.2.2.2.2 i).2 q)⟩⟩
theorem si_ne2 {σ : fd_S} {a k i j : Nat} {v : Int32} (h : j ≠ k) : (fd_si σ a k v).2.1 i j = σ.2.1 i j := by show fd_u σ.2.1 a k v i j = _; exact fd_u_ne2 h
set_option maxHeartbeats 1000000 in
theorem m_sail (d t : Nat) (m : Nat → Nat) (σ : fd_S) (post : Option fd_V → fd_S → Prop) (hB : Mb σ) (hS : ∀ l, l < 4 → Vs σ l (m l)) (ht : σ.2.1 9 14 = nI t) (ht10 : t ≤ 10)
    (h0 : (nI (m 0) + nI (m 1) + nI (m 2) + nI (m 3) = 0 ∨ 30000 < sM σ 0 (m 0) + sM σ 1 (m 1) - sM σ 2 (m 2) - sM σ 3 (m 3) ∨ sM σ 0 (m 0) + sM σ 1 (m 1) - sM σ 2 (m 2) - sM σ 3 (m 3) < -30000) → ∀ τ, SE (JQ t) σ τ → post (some (.inl (-3))) τ) (h1 : ¬ nI (m 0) + nI (m 1) + nI (m 2) + nI (m 3) = 0 → ¬ 30000 < sM σ 0 (m 0) + sM σ 1 (m 1) - sM σ 2 (m 2) - sM σ 3 (m 3) → ¬ sM σ 0 (m 0) + sM σ 1 (m 1) - sM σ 2 (m 2) - sM σ 3 (m 3) < -30000 → ∀ τ, ZR σ m t 4 0 τ → post (some (.inl (mx (mx (mx (mx 0 (sN σ 0 (m 0))) (sN σ 1 (m 1))) (sN σ 2 (m 2))) (sN σ 3 (m 3)) + 30))) (fd_si τ 9 11 (σ.2.1 9 11 + 1))) : fd_Sem (d + 7) 71 [.inr (.inr (.inl (some 9)))] σ post := by
  obtain ⟨h20, r1, r2, r3, r4, r5, r6, r7, r8, r9, r13⟩ := id hB
  intro X hX hV
  repeat (first | refine hX _ _ _ _ _ _ ?_ | refine Exists.intro _ (And.intro (by first | rfl | assumption) (And.intro (by first | assumption | exact fd_lt20 h20 (by decide)) (And.intro (by first | rfl | assumption) ?_))))
  refine ia_ld (by exact h20) (by exact r8) (by decide) (by rfl) (i := 0) rfl (by decide) (hS 0 (by decide)).2.1 (by decide) ?_
  repeat (first | refine hX _ _ _ _ _ _ ?_ | refine Exists.intro _ (And.intro (by first | rfl | assumption) (And.intro (by first | assumption | exact fd_lt20 h20 (by decide)) (And.intro (by first | rfl | assumption) ?_))))
  refine ia_ld (by exact h20) (by exact r8) (by decide) (by rfl) (i := 1) rfl (by decide) (hS 1 (by decide)).2.1 (by decide) ?_
  repeat (first | refine hX _ _ _ _ _ _ ?_ | refine Exists.intro _ (And.intro (by first | rfl | assumption) (And.intro (by first | assumption | exact fd_lt20 h20 (by decide)) (And.intro (by first | rfl | assumption) ?_))))
  refine ia_ld (by exact h20) (by exact r8) (by decide) (by rfl) (i := 2) rfl (by decide) (hS 2 (by decide)).2.1 (by decide) ?_
  repeat (first | refine hX _ _ _ _ _ _ ?_ | refine Exists.intro _ (And.intro (by first | rfl | assumption) (And.intro (by first | assumption | exact fd_lt20 h20 (by decide)) (And.intro (by first | rfl | assumption) ?_))))
  refine ia_ld (by exact h20) (by exact r8) (by decide) (by rfl) (i := 3) rfl (by decide) (hS 3 (by decide)).2.1 (by decide) ?_
  repeat (first | refine hX _ _ _ _ _ _ ?_ | refine Exists.intro _ (And.intro (by first | rfl | assumption) (And.intro (by first | assumption | exact fd_lt20 h20 (by decide)) (And.intro (by first | rfl | assumption) ?_))))
  refine ok_carried _ 0 (m 0) t σ _ hB (by decide) (hS 0 (by decide)) ht ht10 (fun τ1 t1 => ?_)
  have p9 : 9 < τ1.1 := by rw [t1.1]; omega
  repeat (first | refine hX _ _ _ _ _ _ ?_ | refine Exists.intro _ (And.intro (by first | rfl | assumption) (And.intro (by first | assumption | exact fd_lt20 h20 (by decide)) (And.intro (by first | rfl | assumption) ?_))))
  refine ok_carried _ 1 (m 1) t τ1 _ (Mb_se t1 hB) (by decide) (Vs_se t1 (hS 1 (by decide))) (by rw [jq_at t1 (by decide)]; exact ht) ht10 (fun τ2 t2' => ?_)
  have t2 := t1.trans t2'
  rw [sM_se t1]
  have p9 : 9 < τ2.1 := by rw [t2.1]; omega
  repeat (first | refine hX _ _ _ _ _ _ ?_ | refine Exists.intro _ (And.intro (by first | rfl | assumption) (And.intro (by first | assumption | exact fd_lt20 h20 (by decide)) (And.intro (by first | rfl | assumption) ?_))))
  refine ok_carried _ 2 (m 2) t τ2 _ (Mb_se t2 hB) (by decide) (Vs_se t2 (hS 2 (by decide))) (by rw [jq_at t2 (by decide)]; exact ht) ht10 (fun τ3 t3' => ?_)
  have t3 := t2.trans t3'
  rw [sM_se t2]
  have p9 : 9 < τ3.1 := by rw [t3.1]; omega
  repeat (first | refine hX _ _ _ _ _ _ ?_ | refine Exists.intro _ (And.intro (by first | rfl | assumption) (And.intro (by first | assumption | exact fd_lt20 h20 (by decide)) (And.intro (by first | rfl | assumption) ?_))))
  refine ok_carried _ 3 (m 3) t τ3 _ (Mb_se t3 hB) (by decide) (Vs_se t3 (hS 3 (by decide))) (by rw [jq_at t3 (by decide)]; exact ht) ht10 (fun τ4 t4' => ?_)
  have t4 := t3.trans t4'
  rw [sM_se t3]
  repeat refine hX _ _ _ _ _ _ ?_
  refine And.intro (fun hc => ?_) (fun ha => ?_)
  · have hc : nI (m 0) + nI (m 1) + nI (m 2) + nI (m 3) = 0 := hc
    repeat refine hX _ _ _ _ _ _ ?_
    exact h0 (Or.inl hc) τ4 t4
  · have ha : ¬ nI (m 0) + nI (m 1) + nI (m 2) + nI (m 3) = 0 := ha
    repeat refine hX _ _ _ _ _ _ ?_
    refine And.intro (fun hc => ?_) (fun hb => ?_)
    · have hc : 30000 < sM σ 0 (m 0) + sM σ 1 (m 1) - sM σ 2 (m 2) - sM σ 3 (m 3) := hc
      repeat refine hX _ _ _ _ _ _ ?_
      exact h0 (Or.inr (Or.inl hc)) τ4 t4
    · have hb : ¬ 30000 < sM σ 0 (m 0) + sM σ 1 (m 1) - sM σ 2 (m 2) - sM σ 3 (m 3) := hb
      repeat refine hX _ _ _ _ _ _ ?_
      refine And.intro (fun hc => ?_) (fun hc => ?_)
      · have hc : -30000 ≤ sM σ 0 (m 0) + sM σ 1 (m 1) - sM σ 2 (m 2) - sM σ 3 (m 3) := hc
        have h1 := h1 ha hb (i32_nlt.mpr hc)
        have step : ∀ l, l < 4 → ∀ acc : Int32, (∀ τ, ZR σ m t (l + 1) 0 τ → X ((fd_code 71).drop 50) [(4, .inl (nI (l + 1))), (3, .inl (mx acc (sN σ l (m l)))), (0, .inr (.inr (.inl (some 9))))] [] τ 0 0) → ∀ τ, ZR σ m t l 0 τ → X ((fd_code 71).drop 50) [(4, .inl (nI l)), (3, .inl acc), (0, .inr (.inr (.inl (some 9))))] [] τ 0 0 := by
          intro l hl acc hgo τ hτ
          obtain ⟨hm60, h17, hst⟩ := id (hS l hl)
          have p9 : 9 < τ.1 := by rw [hτ.1]; omega
          have hVs : Vs τ l (m l) := by
            refine ⟨hm60, (hτ.2.2.2.2.2.1 l (Nat.le_refl l)).trans h17, fun k hk => ?_⟩
            obtain ⟨a1, a2⟩ := hst k hk
            rw [zr_sv hτ]
            refine ⟨(hτ.2.2.2.1 18 _ (by decide) (by decide) (jq_ne (by decide))).trans a1, ?_⟩
            unfold Vi at a2 ⊢
            rw [zr_kd hτ, hτ.2.2.2.1 10 _ (by decide) (by decide) (jq_ne (by decide))]
            exact a2
          have hBτ : Mb τ := by unfold Mb; rw [hτ.1, hτ.2.1]; exact hB
          repeat refine hX _ _ _ _ _ _ ?_
          refine And.intro (fun hc => ?_) (fun _ => ?_)
          · have h2 : nI 4 ≤ nI l := hc
            rw [nI_leI (by omega) (by omega)] at h2
            omega
          · repeat (first | refine hX _ _ _ _ _ _ ?_ | refine Exists.intro _ (And.intro (by first | rfl | assumption) (And.intro (by first | assumption | exact fd_lt20 h20 (by decide)) (And.intro (by first | rfl | assumption) ?_))))
            refine ok_lasts _ l (m l) t τ _ hBτ hl hVs ((hτ.2.2.2.1 9 14 (by decide) (by decide) (jq_ne (by decide))).trans ht) ht10 (fun ρ hρ' => ?_)
            rw [zr_sN hτ]
            have hρ := zr_se hτ hρ'
            have inner : ∀ g k ρ, g + k = m l → ZR σ m t l k ρ → X ((fd_code 71).drop 66) [(6, .inl (nI k)), (4, .inl (nI l)), (3, .inl (mx acc (sN σ l (m l)))), (0, .inr (.inr (.inl (some 9))))] [] ρ 0 0 := by
              intro g
              induction g with
              | zero =>
                intro k ρ hk hρ
                have : k = m l := by omega
                subst this
                have w20 : 20 ≤ ρ.1 := by rw [hρ.1]; exact h20
                have p9 : 9 < ρ.1 := by omega
                have rr : ∀ f, ρ.2.2.1 9 f = σ.2.2.1 9 f := fun f => by rw [hρ.2.1]
                repeat (first | refine hX _ _ _ _ _ _ ?_ | refine Exists.intro _ (And.intro (by first | rfl | assumption) (And.intro (by first | assumption | exact fd_lt20 h20 (by decide)) (And.intro (by first | rfl | assumption) ?_))))
                refine ia_ldo (by exact w20) (by exact (rr 8).trans r8) (by decide) (by rfl) rfl hl (x := nI (m l)) (by exact (hρ.2.2.2.2.2.1 l (Nat.le_refl l)).trans h17) (by decide) ?_
                repeat refine hX _ _ _ _ _ _ ?_
                refine And.intro (fun _ => ?_) (fun hc => absurd (nI_le (Nat.le_refl (m l)) (by omega)) hc)
                repeat (first | refine hX _ _ _ _ _ _ ?_ | refine Exists.intro _ (And.intro (by first | rfl | assumption) (And.intro (by first | assumption | exact fd_lt20 h20 (by decide)) (And.intro (by first | rfl | assumption) ?_))))
                refine ia_sto (by exact w20) (by exact (rr 8).trans r8) (by decide) (by rfl) rfl hl (by decide) ?_
                refine hX _ _ _ _ _ _ ?_
                refine hX _ _ _ _ _ _ ?_
                refine hV _ _ [(4, .inl (nI (l + 1))), (3, .inl (mx acc (sN σ l (m l)))), (0, .inr (.inr (.inl (some 9))))] _ _ _ _ (And.intro (congrArg (fun x => some (Sum.inl x)) (nI_1 l)) (And.intro rfl (And.intro rfl trivial))) (hgo _ ⟨hρ.1, hρ.2.1, hρ.2.2.1, fun a j a1 a2 a3 => (si_ne a2).trans (hρ.2.2.2.1 a j a1 a2 a3), fun l' h' => ?_, fun l' h' => ?_, fun i => ?_⟩)
                · by_cases hll : l' = l
                  · subst hll
                    exact si_eq
                  · rw [si_ne2 hll]
                    exact hρ.2.2.2.2.1 l' (by omega)
                · rw [si_ne2 (by omega)]
                  exact hρ.2.2.2.2.2.1 l' (by omega)
                · rw [si_ne (by decide)]
                  have hps : PS σ m (l + 1) 0 i ↔ PS σ m l (m l) i := by
                    unfold PS
                    constructor
                    · rintro (⟨l', k', a1, a2, a3⟩ | ⟨k', a1, _⟩)
                      · by_cases hll : l' = l
                        · subst hll
                          exact Or.inr ⟨k', a2, a3⟩
                        · exact Or.inl ⟨l', k', by omega, a2, a3⟩
                      · omega
                    · rintro (⟨l', k', a1, a2, a3⟩ | ⟨k', a1, a2⟩)
                      · exact Or.inl ⟨l', k', by omega, a2, a3⟩
                      · exact Or.inl ⟨l, k', by omega, a1, a2⟩
                  rw [hps]
                  exact hρ.2.2.2.2.2.2 i
              | succ g ih =>
                intro k ρ hk hρ
                have w20 : 20 ≤ ρ.1 := by rw [hρ.1]; exact h20
                have p9 : 9 < ρ.1 := by omega
                have rr : ∀ f, ρ.2.2.1 9 f = σ.2.2.1 9 f := fun f => by rw [hρ.2.1]
                obtain ⟨hsk, hvk⟩ := hst k (by omega)
                repeat (first | refine hX _ _ _ _ _ _ ?_ | refine Exists.intro _ (And.intro (by first | rfl | assumption) (And.intro (by first | assumption | exact fd_lt20 h20 (by decide)) (And.intro (by first | rfl | assumption) ?_))))
                refine ia_ldo (by exact w20) (by exact (rr 8).trans r8) (by decide) (by rfl) rfl hl (x := nI (m l)) (by exact (hρ.2.2.2.2.2.1 l (Nat.le_refl l)).trans h17) (by decide) ?_
                repeat refine hX _ _ _ _ _ _ ?_
                refine And.intro (fun hc => ?_) (fun _ => ?_)
                · have hc : nI (m l) ≤ nI k := hc
                  rw [nI_leI (by omega) (by omega)] at hc
                  omega
                · repeat (first | refine hX _ _ _ _ _ _ ?_ | refine Exists.intro _ (And.intro (by first | rfl | assumption) (And.intro (by first | assumption | exact fd_lt20 h20 (by decide)) (And.intro (by first | rfl | assumption) ?_))))
                  refine ia_ldo (by exact w20) (by exact (rr 9).trans r9) (by decide) (by rfl) (sq_idx l k) (by omega) (x := nI (sv σ l k)) (by exact (hρ.2.2.2.1 18 _ (by decide) (by decide) (jq_ne (by decide))).trans hsk) (by decide) ?_
                  refine hX _ _ _ _ _ _ ?_
                  refine hX _ _ _ _ _ _ ?_
                  refine ia_sto (by exact w20) (by exact (rr 4).trans r4) (by decide) (by rfl) rfl hvk.1 (by decide) ?_
                  refine hX _ _ _ _ _ _ ?_
                  refine hX _ _ _ _ _ _ ?_
                  refine hV _ _ [(6, .inl (nI (k + 1))), (4, .inl (nI l)), (3, .inl (mx acc (sN σ l (m l)))), (0, .inr (.inr (.inl (some 9))))] _ _ _ _ (And.intro (congrArg (fun x => some (Sum.inl x)) (nI_1 k)) (And.intro rfl (And.intro rfl (And.intro rfl trivial)))) (ih (k + 1) _ (by omega) ⟨hρ.1, hρ.2.1, hρ.2.2.1, fun a j a1 a2 a3 => (si_ne a1).trans (hρ.2.2.2.1 a j a1 a2 a3), fun l' h' => (si_ne (by decide)).trans (hρ.2.2.2.2.1 l' h'), fun l' h' => (si_ne (by decide)).trans (hρ.2.2.2.2.2.1 l' h'), fun i => ?_⟩)
                  have hps : PS σ m l (k + 1) i ↔ PS σ m l k i ∨ sv σ l k = i := by
                    unfold PS
                    constructor
                    · rintro (h | ⟨k', a1, a2⟩)
                      · exact Or.inl (Or.inl h)
                      · by_cases hkk : k' = k
                        · subst hkk
                          exact Or.inr a2
                        · exact Or.inl (Or.inr ⟨k', by omega, a2⟩)
                    · rintro ((h | ⟨k', a1, a2⟩) | h)
                      · exact Or.inl h
                      · exact Or.inr ⟨k', by omega, a2⟩
                      · exact Or.inr ⟨k, by omega, h⟩
                  rw [hps]
                  by_cases hii : i = sv σ l k
                  · subst hii
                    exact ⟨fun _ => si_eq, fun q => absurd (Or.inr rfl) q⟩
                  · rw [si_ne2 hii]
                    refine ⟨fun q => (hρ.2.2.2.2.2.2 i).1 (q.elim id (fun e => absurd e.symm hii)), fun q => (hρ.2.2.2.2.2.2 i).2 (fun z => q (Or.inl z))⟩
            repeat refine hX _ _ _ _ _ _ ?_
            refine And.intro (fun hc => ?_) (fun hc => ?_)
            · have hc : sN σ l (m l) ≤ acc := hc
              have emx : mx acc (sN σ l (m l)) = acc := if_neg (i32_nlt.mpr hc)
              iterate 3 refine hX _ _ _ _ _ _ ?_
              refine hX _ _ _ _ _ _ ?_
              exact hV _ _ [(6, .inl (nI 0)), (4, .inl (nI l)), (3, .inl (mx acc (sN σ l (m l)))), (0, .inr (.inr (.inl (some 9))))] _ _ _ _ (And.intro rfl (And.intro rfl (And.intro (congrArg (fun x => some (Sum.inl x)) emx.symm) (And.intro rfl trivial)))) (inner (m l) 0 ρ rfl hρ)
            · have hc : ¬ sN σ l (m l) ≤ acc := hc
              have emx : mx acc (sN σ l (m l)) = sN σ l (m l) := if_pos (i32_nle.mp hc)
              iterate 4 refine hX _ _ _ _ _ _ ?_
              refine hX _ _ _ _ _ _ ?_
              exact hV _ _ [(6, .inl (nI 0)), (4, .inl (nI l)), (3, .inl (mx acc (sN σ l (m l)))), (0, .inr (.inr (.inl (some 9))))] _ _ _ _ (And.intro rfl (And.intro rfl (And.intro (congrArg (fun x => some (Sum.inl x)) emx.symm) (And.intro rfl trivial)))) (inner (m l) 0 ρ rfl hρ)
        iterate 4 refine hX _ _ _ _ _ _ ?_
        have z4 : ZR σ m t 0 0 τ4 := ⟨t4.1, t4.2.1, t4.2.2.1, fun a j _ _ a3 => t4.2.2.2 a j a3, fun l' h' => absurd h' (Nat.not_lt_zero _), fun l' _ => jq_at t4 (by decide), fun i => ⟨fun q => by rcases q with ⟨l', _, h', _⟩ | ⟨k', h', _⟩ <;> omega, fun _ => jq_at t4 (by decide)⟩⟩
        refine hV _ _ [(4, .inl (nI 0)), (3, .inl 0), (0, .inr (.inr (.inl (some 9))))] _ _ _ _ (And.intro rfl (And.intro rfl (And.intro rfl trivial))) ?_
        refine step 0 (by decide) 0 (step 1 (by decide) _ (step 2 (by decide) _ (step 3 (by decide) _ (fun τ hτ => ?_)))) τ4 z4
        have p9 : 9 < τ.1 := by rw [hτ.1]; omega
        have h1 := h1 τ hτ
        rw [← hτ.2.2.2.1 9 11 (by decide) (by decide) (jq_ne (by decide))] at h1
        repeat refine hX _ _ _ _ _ _ ?_
        refine And.intro (fun _ => ?_) (fun hc => absurd (nI_le (a := 4) (Nat.le_refl 4) (by decide)) hc)
        repeat (first | refine hX _ _ _ _ _ _ ?_ | refine Exists.intro _ (And.intro (by first | rfl | assumption) (And.intro (by first | assumption | exact fd_lt20 h20 (by decide)) (And.intro (by first | rfl | assumption) ?_))))
        exact h1
      · have hc : ¬ -30000 ≤ sM σ 0 (m 0) + sM σ 1 (m 1) - sM σ 2 (m 2) - sM σ 3 (m 3) := hc
        repeat refine hX _ _ _ _ _ _ ?_
        exact h0 (Or.inr (Or.inr (i32_nle.mp hc))) τ4 t4
