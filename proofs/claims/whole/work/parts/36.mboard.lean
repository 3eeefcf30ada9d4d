section
variable {t l m : Nat} {σ τ : fd_S}
theorem jq_at (h : SE (JQ t) σ τ) {i j : Nat} (hi : i ≠ 19) : τ.2.1 i j = σ.2.1 i j := h.2.2.2 i j (jq_ne hi)
theorem sv_se (h : SE (JQ t) σ τ) (k : Nat) : sv τ l k = sv σ l k := by unfold sv; rw [jq_at h (by decide)]
theorem kd_se (h : SE (JQ t) σ τ) (i : Nat) : kd τ i = kd σ i := by unfold kd; rw [jq_at h (by decide)]
theorem qv_se (h : SE (JQ t) σ τ) (w : Nat) (s : Int32) (i : Nat) : qv τ w s i = qv σ w s i := by unfold qv; rw [kd_se h, jq_at h (by decide), jq_at h (by decide)]
theorem Vi_se (h : SE (JQ t) σ τ) {i : Nat} (hv : Vi σ i) : Vi τ i := by unfold Vi at *; rw [kd_se h, jq_at h (by decide)]; exact hv
theorem Vs_se (h : SE (JQ t) σ τ) (hv : Vs σ l m) : Vs τ l m := ⟨hv.1, by rw [jq_at h (by decide)]; exact hv.2.1, fun k hk => ⟨by rw [sv_se h, jq_at h (by decide)]; exact (hv.2.2 k hk).1, by rw [sv_se h]; exact Vi_se h (hv.2.2 k hk).2⟩⟩
theorem Mb_se {P : Nat → Nat → Prop} (h : SE P σ τ) (hB : Mb σ) : Mb τ := by unfold Mb; rw [h.1, h.2.1]; exact hB
theorem sL_se (h : SE (JQ t) σ τ) : ∀ m, sL τ l m = sL σ l m
  | 0 => jq_at h (by decide)
  | m + 1 => by simp only [sL]; rw [sL_se h m, qv_se h, sv_se h]
theorem sM_se (h : SE (JQ t) σ τ) : ∀ m, sM τ l m = sM σ l m
  | 0 => rfl
  | m + 1 => by simp only [sM]; rw [sM_se h m, qv_se h, sv_se h]
theorem sN_se (h : SE (JQ t) σ τ) : ∀ m, sN τ l m = sN σ l m
  | 0 => rfl
  | m + 1 => by simp only [sN]; rw [sN_se h m, qv_se h, sv_se h]
end
theorem ia_sto {τ : fd_S} {a n i : Nat} {v y : Int32} {o : Option Nat} {X : fd_X} {nx : List fd_E} {lv : fd_L} {t : List fd_V} {cc ss : Nat} (h20 : 20 ≤ τ.1) (hf : o = some a) (ha : a < 20) (hs : fd_sh a = .inr (n, none)) (hy : y = nI i) (hi : i < n) (hn : n < 2 ^ 31) (k : X nx lv t (fd_si τ a i v) cc ss) : fd_ias X nx lv (.inl v :: .inl y :: .inr (.inr (.inl o)) :: t) τ cc ss := by
  subst hy
  refine ⟨a, n, hf, by omega, hs, vp_in_nI hi hn, ?_⟩
  rw [nI_clamp (by omega)]
  exact k
theorem ia_ldo {τ : fd_S} {a n i : Nat} {x y : Int32} {o : Option Nat} {X : fd_X} {nx : List fd_E} {lv : fd_L} {t : List fd_V} {cc ss : Nat} (h20 : 20 ≤ τ.1) (hf : o = some a) (ha : a < 20) (hs : fd_sh a = .inr (n, none)) (hy : y = nI i) (hi : i < n) (hx : τ.2.1 a i = x) (hn : n < 2 ^ 31) (k : X nx lv (.inl x :: t) τ cc ss) : fd_ial none X nx lv (.inl y :: .inr (.inr (.inl o)) :: t) τ cc ss := by
  subst hy
  refine ⟨a, n, hf, by omega, hs, vp_in_nI hi hn, ?_⟩
  rw [nI_clamp (by omega), hx]
  exact k
def mpay (σ : fd_S) (i : Nat) : Int32 := qv σ 3 (σ.2.1 9 10) i + (if hvy (kd σ i) = true then qv σ 4 0 i else 0)
def mb_s (σ : fd_S) (l m i : Nat) : fd_S := fd_sl (fd_si (fd_si (fd_si (fd_si σ 18 (60 * l + m) (nI i)) 17 l (nI (m + 1))) 13 i 1) 14 i (mpay σ i)) 9 12 (σ.2.2.2 9 12 + (mpay σ i).toInt64)
def mroom (σ : fd_S) (l m i : Nat) : Prop := qv σ 0 0 i + 5 ≤ sL σ l m ∧ qv σ 1 0 i ≤ σ.2.1 16 l - sM σ l m
def mnear (σ : fd_S) (l m i : Nat) : Prop := 0 < m ∧ mrk (kd σ i) = true ∧ mrk (kd σ (sv σ l (m - 1))) = true ∧ 5 < qv σ 5 0 (sv σ l (m - 1)) + qv σ 5 0 i
set_option maxHeartbeats 1000000 in
theorem m_board (d n t : Nat) (m : Nat → Nat) (x y : Int32) (σ : fd_S) (post : Option fd_V → fd_S → Prop) (hB : Mb σ) (hn : n ≤ 60) (h90 : σ.2.1 9 0 = nI n) (hS : ∀ l, l < 4 → Vs σ l (m l)) (hVi : ∀ i, i < n → Vi σ i) (ht : σ.2.1 9 14 = nI t) (ht10 : t ≤ 10) (h0 : ¬ ((∃ i, i < n ∧ x = nI i) ∧ ∃ l, l < 4 ∧ y = nI l) → post (some (.inl (-2))) σ)
    (h1 : ∀ i l, i < n → x = nI i → l < 4 → y = nI l → (¬ σ.2.1 13 i = 0 → post (some (.inl (-3))) σ) ∧ (σ.2.1 13 i = 0 → ¬ mroom σ l (m l) i → ∀ τ, SE (JQ t) σ τ → post (some (.inl (-4))) τ) ∧ (σ.2.1 13 i = 0 → mroom σ l (m l) i → mnear σ l (m l) i → ∀ τ, SE (JQ t) σ τ → post (some (.inl (-5))) τ) ∧ (σ.2.1 13 i = 0 → mroom σ l (m l) i → ¬ mnear σ l (m l) i → m l < 60 ∧ ∀ τ, SE (JQ t) (mb_s σ l (m l) i) τ → post (some (.inl (mpay σ i))) τ)) : fd_Sem (d + 7) 69 [.inr (.inr (.inl (some 9))), .inl x, .inl y] σ post := by
  obtain ⟨h20, r1, r2, r3, r4, r5, r6, r7, r8, r9, r13⟩ := id hB
  intro X hX hV
  repeat (first | refine hX _ _ _ _ _ _ ?_ | refine Exists.intro _ (And.intro (by first | rfl | assumption) (And.intro (by first | assumption | exact fd_lt20 h20 (by decide)) (And.intro (by first | rfl | assumption) ?_))))
  refine ok_isVehicle _ n _ _ _ h20 hn h90 (fun i hi e => ?_) (fun hno => ?_)
  · repeat refine hX _ _ _ _ _ _ ?_
    refine And.intro (fun hc => absurd (show (1 : Int32) = 0 from hc) (by decide)) (fun _ => ?_)
    repeat refine hX _ _ _ _ _ _ ?_
    refine ok_isLane _ _ _ _ (fun l hl e2 => ?_) (fun hno => ?_)
    · obtain ⟨g3, g4, g5, g1⟩ := h1 i l hi e hl e2
      have hvi := hVi i hi
      have hi60 := hvi.1
      obtain ⟨hm60, h17, hst⟩ := id (hS l hl)
      clear h1 h0
      subst e
      subst e2
      repeat refine hX _ _ _ _ _ _ ?_
      refine And.intro (fun _ => ?_) (fun hc => absurd (show (1 : Int32) = 0 from hc) (by decide))
      repeat (first | refine hX _ _ _ _ _ _ ?_ | refine Exists.intro _ (And.intro (by first | rfl | assumption) (And.intro (by first | assumption | exact fd_lt20 h20 (by decide)) (And.intro (by first | rfl | assumption) ?_))))
      refine ia_ld (by exact h20) (by exact r4) (by decide) (by rfl) rfl hi60 rfl (by decide) ?_
      repeat refine hX _ _ _ _ _ _ ?_
      refine And.intro (fun hh => ?_) (fun hh => ?_)
      · have hh : σ.2.1 13 i = 0 := hh
        have g4 := g4 hh
        have g5 := g5 hh
        have g1 := g1 hh
        clear g3
        repeat (first | refine hX _ _ _ _ _ _ ?_ | refine Exists.intro _ (And.intro (by first | rfl | assumption) (And.intro (by first | assumption | exact fd_lt20 h20 (by decide)) (And.intro (by first | rfl | assumption) ?_))))
        refine ok_quiet_0 _ i (kd σ i) t _ _ 0 σ _ hB hi60 hvi.2.1 hvi.2.2 rfl rfl ht ht10 (fun τ1 t1 => ?_)
        have p9 : 9 < τ1.1 := by rw [t1.1]; omega
        repeat (first | refine hX _ _ _ _ _ _ ?_ | refine Exists.intro _ (And.intro (by first | rfl | assumption) (And.intro (by first | assumption | exact fd_lt20 h20 (by decide)) (And.intro (by first | rfl | assumption) ?_))))
        refine ok_leftLength _ l (m l) t τ1 _ (Mb_se t1 hB) hl (Vs_se t1 (hS l hl)) (by rw [jq_at t1 (by decide)]; exact ht) ht10 (fun τ2 t2' => ?_)
        have t2 := t1.trans t2'
        rw [sL_se t1]
        repeat refine hX _ _ _ _ _ _ ?_
        refine And.intro (fun hc => ?_) (fun hc => ?_)
        · have hc : sL σ l (m l) < qv σ 0 0 i + 5 := hc
          repeat refine hX _ _ _ _ _ _ ?_
          exact g4 (fun q => i32_nlt.mpr q.1 hc) τ2 t2
        · have hc1 : qv σ 0 0 i + 5 ≤ sL σ l (m l) := i32_nlt.mp hc
          have p9 : 9 < τ2.1 := by rw [t2.1]; omega
          repeat (first | refine hX _ _ _ _ _ _ ?_ | refine Exists.intro _ (And.intro (by first | rfl | assumption) (And.intro (by first | assumption | exact fd_lt20 h20 (by decide)) (And.intro (by first | rfl | assumption) ?_))))
          refine ok_quiet_1 _ i (kd σ i) t (σ.2.1 11 i) (σ.2.1 12 i) 0 τ2 _ (Mb_se t2 hB) hi60 hvi.2.1 (by rw [jq_at t2 (by decide)]; exact hvi.2.2) (jq_at t2 (by decide)) (jq_at t2 (by decide)) (by rw [jq_at t2 (by decide)]; exact ht) ht10 (fun τ3 t3' => ?_)
          have t3 := t2.trans t3'
          have p9 : 9 < τ3.1 := by rw [t3.1]; omega
          have q20 : 20 ≤ τ3.1 := by rw [t3.1]; exact h20
          repeat (first | refine hX _ _ _ _ _ _ ?_ | refine Exists.intro _ (And.intro (by first | rfl | assumption) (And.intro (by first | assumption | exact fd_lt20 h20 (by decide)) (And.intro (by first | rfl | assumption) ?_))))
          refine ia_ldo (by exact q20) (by rw [t3.2.1]; exact r7) (by decide) (by rfl) rfl hl (x := σ.2.1 16 l) (by exact jq_at t3 (by decide)) (by decide) ?_
          repeat (first | refine hX _ _ _ _ _ _ ?_ | refine Exists.intro _ (And.intro (by first | rfl | assumption) (And.intro (by first | assumption | exact fd_lt20 h20 (by decide)) (And.intro (by first | rfl | assumption) ?_))))
          refine ok_carried _ l (m l) t τ3 _ (Mb_se t3 hB) hl (Vs_se t3 (hS l hl)) (by rw [jq_at t3 (by decide)]; exact ht) ht10 (fun τ4 t4' => ?_)
          have t4 := t3.trans t4'
          rw [sM_se t3]
          repeat refine hX _ _ _ _ _ _ ?_
          refine And.intro (fun hc => ?_) (fun hc => ?_)
          · have hc2 : qv σ 1 0 i ≤ σ.2.1 16 l - sM σ l (m l) := hc
            have hroom : mroom σ l (m l) i := ⟨hc1, hc2⟩
            have g5 := g5 hroom
            have g1 := g1 hroom
            clear g4
            have fin : ∀ τ, SE (JQ t) σ τ → ¬ mnear σ l (m l) i → X ((fd_code 69).drop 89) [(0, .inr (.inr (.inl (some 9)))), (1, .inl (nI i)), (2, .inl (nI l))] [] τ 0 0 := by
              intro τ hτ hnn
              obtain ⟨hm, g1⟩ := g1 hnn
              have w20 : 20 ≤ τ.1 := by rw [hτ.1]; exact h20
              have p9 : 9 < τ.1 := by omega
              have rr : ∀ f, τ.2.2.1 9 f = σ.2.2.1 9 f := fun f => by rw [hτ.2.1]
              repeat (first | refine hX _ _ _ _ _ _ ?_ | refine Exists.intro _ (And.intro (by first | rfl | assumption) (And.intro (by first | assumption | exact fd_lt20 h20 (by decide)) (And.intro (by first | rfl | assumption) ?_))))
              refine ia_ldo (by exact w20) (by rw [rr]; exact r8) (by decide) (by rfl) rfl hl (x := nI (m l)) (by rw [jq_at hτ (by decide)]; exact h17) (by decide) ?_
              iterate 3 refine hX _ _ _ _ _ _ ?_
              refine ia_sto (by exact w20) (by exact (rr 9).trans r9) (by decide) (by rfl) (sq_idx l (m l)) (by omega) (by decide) ?_
              repeat (first | refine hX _ _ _ _ _ _ ?_ | refine Exists.intro _ (And.intro (by first | rfl | assumption) (And.intro (by first | assumption | exact fd_lt20 h20 (by decide)) (And.intro (by first | rfl | assumption) ?_))))
              refine ia_ldo (by exact w20) (by exact (rr 8).trans r8) (by decide) (by rfl) rfl hl (x := nI (m l)) (by rw [si_ne (by decide), jq_at hτ (by decide)]; exact h17) (by decide) ?_
              iterate 3 refine hX _ _ _ _ _ _ ?_
              rw [show (fun x y : Int32 => x + y) (nI (m l)) 1 = nI (m l + 1) from nI_1 _]
              refine ia_sto (by exact w20) (by exact (rr 8).trans r8) (by decide) (by rfl) rfl hl (by decide) ?_
              repeat (first | refine hX _ _ _ _ _ _ ?_ | refine Exists.intro _ (And.intro (by first | rfl | assumption) (And.intro (by first | assumption | exact fd_lt20 h20 (by decide)) (And.intro (by first | rfl | assumption) ?_))))
              refine ia_sto (by exact w20) (by exact (rr 4).trans r4) (by decide) (by rfl) rfl hi60 (by decide) ?_
              have eρ : ∀ a j, a ≠ 18 → a ≠ 17 → a ≠ 13 → a ≠ 19 → (fd_si (fd_si (fd_si τ 18 (60 * l + m l) (nI i)) 17 l (nI (m l + 1))) 13 i 1).2.1 a j = σ.2.1 a j := by
                intro a j a1 a2 a3 a4
                rw [si_ne a3, si_ne a2, si_ne a1, jq_at hτ a4]
              have hBρ : Mb (fd_si (fd_si (fd_si τ 18 (60 * l + m l) (nI i)) 17 l (nI (m l + 1))) 13 i 1) := (Mb_se hτ hB : Mb τ)
              repeat (first | refine hX _ _ _ _ _ _ ?_ | refine Exists.intro _ (And.intro (by first | rfl | assumption) (And.intro (by first | assumption | exact fd_lt20 h20 (by decide)) (And.intro (by first | rfl | assumption) ?_))))
              rw [eρ 9 10 (by decide) (by decide) (by decide) (by decide)]
              refine ok_quiet_3 _ i (kd σ i) t (σ.2.1 11 i) (σ.2.1 12 i) (σ.2.1 9 10) _ _ hBρ hi60 hvi.2.1 (by rw [eρ 10 _ (by decide) (by decide) (by decide) (by decide)]; exact hvi.2.2) (eρ 11 _ (by decide) (by decide) (by decide) (by decide)) (eρ 12 _ (by decide) (by decide) (by decide) (by decide)) (by rw [eρ 9 14 (by decide) (by decide) (by decide) (by decide)]; exact ht) ht10 (fun ρ1 s1 => ?_)
              have p9 : 9 < ρ1.1 := by rw [s1.1]; exact p9
              repeat (first | refine hX _ _ _ _ _ _ ?_ | refine Exists.intro _ (And.intro (by first | rfl | assumption) (And.intro (by first | assumption | exact fd_lt20 h20 (by decide)) (And.intro (by first | rfl | assumption) ?_))))
              refine ok_quiet_4 _ i (kd σ i) t (σ.2.1 11 i) (σ.2.1 12 i) 0 ρ1 _ (Mb_se s1 hBρ) hi60 hvi.2.1 (by rw [jq_at s1 (by decide), eρ 10 _ (by decide) (by decide) (by decide) (by decide)]; exact hvi.2.2) (by rw [jq_at s1 (by decide), eρ 11 _ (by decide) (by decide) (by decide) (by decide)]) (by rw [jq_at s1 (by decide), eρ 12 _ (by decide) (by decide) (by decide) (by decide)]) (by rw [jq_at s1 (by decide), eρ 9 14 (by decide) (by decide) (by decide) (by decide)]; exact ht) ht10 (fun ρ2 s2' => ?_)
              have s2 := s1.trans s2'
              have u20 : 20 ≤ ρ2.1 := by rw [s2.1]; exact w20
              have p9 : 9 < ρ2.1 := by omega
              have ru : ∀ f, ρ2.2.2.1 9 f = σ.2.2.1 9 f := fun f => by rw [s2.2.1]; exact rr f
              refine hX _ _ _ _ _ _ ?_
              refine hX _ _ _ _ _ _ ?_
              refine ia_sto (by exact u20) (by exact (rr 5).trans r5) (by decide) (by rfl) rfl hi60 (by decide) ?_
              repeat (first | refine hX _ _ _ _ _ _ ?_ | refine Exists.intro _ (And.intro (by first | rfl | assumption) (And.intro (by first | assumption | exact fd_lt20 h20 (by decide)) (And.intro (by first | rfl | assumption) ?_))))
              refine ia_ldo (by exact u20) (by exact (ru 5).trans r5) (by decide) (by rfl) rfl hi60 (x := mpay σ i) (by exact si_eq) (by decide) ?_
              repeat (first | refine hX _ _ _ _ _ _ ?_ | refine Exists.intro _ (And.intro (by first | rfl | assumption) (And.intro (by first | assumption | exact fd_lt20 h20 (by decide)) (And.intro (by first | rfl | assumption) ?_))))
              refine ia_ldo (by exact u20) (by exact (ru 5).trans r5) (by decide) (by rfl) rfl hi60 (x := mpay σ i) (by exact (si_eq (σ := ρ2) (a := 14) (k := i) (v := mpay σ i))) (by decide) ?_
              repeat refine hX _ _ _ _ _ _ ?_
              refine g1 _ ⟨?_, ?_, ?_, fun a j hj => ?_⟩
              · exact s2.1.trans hτ.1
              · exact s2.2.1.trans hτ.2.1
              · show fd_u ρ2.2.2.2 9 12 (ρ2.2.2.2 9 12 + (mpay σ i).toInt64) = fd_u σ.2.2.2 9 12 (σ.2.2.2 9 12 + (mpay σ i).toInt64)
                have : ρ2.2.2.2 = σ.2.2.2 := s2.2.2.1.trans hτ.2.2.1
                rw [this]
              · show fd_u ρ2.2.1 14 i (mpay σ i) a j = fd_u (fd_si (fd_si (fd_si σ 18 (60 * l + m l) (nI i)) 17 l (nI (m l + 1))) 13 i 1).2.1 14 i (mpay σ i) a j
                have e5 := s2.2.2.2 a j hj
                have e6 := hτ.2.2.2 a j hj
                unfold fd_u
                rw [e5]
                simp only [fd_si]
                unfold fd_u
                rw [e6]
            have q20 : 20 ≤ τ4.1 := by rw [t4.1]; exact h20
            have p9 : 9 < τ4.1 := by omega
            have rr : ∀ f, τ4.2.2.1 9 f = σ.2.2.1 9 f := fun f => by rw [t4.2.1]
            repeat (first | refine hX _ _ _ _ _ _ ?_ | refine Exists.intro _ (And.intro (by first | rfl | assumption) (And.intro (by first | assumption | exact fd_lt20 h20 (by decide)) (And.intro (by first | rfl | assumption) ?_))))
            refine ia_ldo (by exact q20) (by exact (rr 8).trans r8) (by decide) (by rfl) rfl hl (x := nI (m l)) (by rw [jq_at t4 (by decide)]; exact h17) (by decide) ?_
            repeat refine hX _ _ _ _ _ _ ?_
            by_cases hm0 : m l = 0
            · refine And.intro (fun _ => ?_) (fun hc => absurd (show nI (m l) ≤ 0 by rw [hm0]; exact nI_le (a := 0) (b := 0) (Nat.le_refl 0) (by decide)) hc)
              exact hV _ _ [(0, .inr (.inr (.inl (some 9)))), (1, .inl (nI i)), (2, .inl (nI l))] _ _ _ _ (And.intro rfl (And.intro rfl (And.intro rfl trivial))) (fin τ4 t4 (fun q => by have := q.1; omega))
            · refine And.intro (fun hc => absurd hc (nI_nle (by omega) (by omega))) (fun _ => ?_)
              repeat (first | refine hX _ _ _ _ _ _ ?_ | refine Exists.intro _ (And.intro (by first | rfl | assumption) (And.intro (by first | assumption | exact fd_lt20 h20 (by decide)) (And.intro (by first | rfl | assumption) ?_))))
              refine ia_ldo (by exact q20) (by exact (rr 1).trans r1) (by decide) (by rfl) rfl hi60 (x := nI (kd σ i)) (by rw [jq_at t4 (by decide)]; exact hvi.2.2) (by decide) ?_
              repeat refine hX _ _ _ _ _ _ ?_
              refine ok_mmarked _ (kd σ i) _ _ hvi.2.1 (fun m1 => ?_) (fun m1 => ?_)
              · obtain ⟨hsk, hvk⟩ := hst (m l - 1) (by omega)
                repeat refine hX _ _ _ _ _ _ ?_
                refine And.intro (fun hc => absurd (show (1 : Int32) = 0 from hc) (by decide)) (fun _ => ?_)
                repeat (first | refine hX _ _ _ _ _ _ ?_ | refine Exists.intro _ (And.intro (by first | rfl | assumption) (And.intro (by first | assumption | exact fd_lt20 h20 (by decide)) (And.intro (by first | rfl | assumption) ?_))))
                refine ia_ldo (by exact q20) (by exact (rr 8).trans r8) (by decide) (by rfl) rfl hl (x := nI (m l)) (by rw [jq_at t4 (by decide)]; exact h17) (by decide) ?_
                repeat refine hX _ _ _ _ _ _ ?_
                refine ia_ldo (by exact q20) (by exact (rr 9).trans r9) (by decide) (by rfl) (sq_idxm l (m l) (by omega)) (by omega) (x := nI (sv σ l (m l - 1))) (by rw [jq_at t4 (by decide)]; exact hsk) (by decide) ?_
                repeat (first | refine hX _ _ _ _ _ _ ?_ | refine Exists.intro _ (And.intro (by first | rfl | assumption) (And.intro (by first | assumption | exact fd_lt20 h20 (by decide)) (And.intro (by first | rfl | assumption) ?_))))
                refine ia_ldo (by exact q20) (by exact (rr 1).trans r1) (by decide) (by rfl) rfl hvk.1 (x := nI (kd σ (sv σ l (m l - 1)))) (by rw [jq_at t4 (by decide)]; exact hvk.2.2) (by decide) ?_
                repeat refine hX _ _ _ _ _ _ ?_
                refine ok_mmarked _ (kd σ (sv σ l (m l - 1))) _ _ hvk.2.1 (fun m2 => ?_) (fun m2 => ?_)
                · repeat refine hX _ _ _ _ _ _ ?_
                  refine And.intro (fun hc => absurd (show (1 : Int32) = 0 from hc) (by decide)) (fun _ => ?_)
                  repeat (first | refine hX _ _ _ _ _ _ ?_ | refine Exists.intro _ (And.intro (by first | rfl | assumption) (And.intro (by first | assumption | exact fd_lt20 h20 (by decide)) (And.intro (by first | rfl | assumption) ?_))))
                  refine ok_quiet_5 _ (sv σ l (m l - 1)) (kd σ (sv σ l (m l - 1))) t (σ.2.1 11 (sv σ l (m l - 1))) (σ.2.1 12 (sv σ l (m l - 1))) 0 τ4 _ (Mb_se t4 hB) hvk.1 hvk.2.1 m2 (by rw [jq_at t4 (by decide)]; exact hvk.2.2) (jq_at t4 (by decide)) (jq_at t4 (by decide)) (by rw [jq_at t4 (by decide)]; exact ht) ht10 (fun τ5 t5' => ?_)
                  have t5 := t4.trans t5'
                  have p9 : 9 < τ5.1 := by rw [t5.1]; omega
                  repeat (first | refine hX _ _ _ _ _ _ ?_ | refine Exists.intro _ (And.intro (by first | rfl | assumption) (And.intro (by first | assumption | exact fd_lt20 h20 (by decide)) (And.intro (by first | rfl | assumption) ?_))))
                  refine ok_quiet_5 _ i (kd σ i) t (σ.2.1 11 i) (σ.2.1 12 i) 0 τ5 _ (Mb_se t5 hB) hi60 hvi.2.1 m1 (by rw [jq_at t5 (by decide)]; exact hvi.2.2) (jq_at t5 (by decide)) (jq_at t5 (by decide)) (by rw [jq_at t5 (by decide)]; exact ht) ht10 (fun τ6 t6' => ?_)
                  have t6 := t5.trans t6'
                  repeat refine hX _ _ _ _ _ _ ?_
                  refine And.intro (fun hc => ?_) (fun hc => ?_)
                  · have hc : qv σ 5 0 (sv σ l (m l - 1)) + qv σ 5 0 i ≤ 5 := hc
                    exact hV _ _ [(0, .inr (.inr (.inl (some 9)))), (1, .inl (nI i)), (2, .inl (nI l))] _ _ _ _ (And.intro rfl (And.intro rfl (And.intro rfl trivial))) (fin τ6 t6 (fun q => i32_nle.mpr q.2.2.2 hc))
                  · have hc : ¬ qv σ 5 0 (sv σ l (m l - 1)) + qv σ 5 0 i ≤ 5 := hc
                    repeat refine hX _ _ _ _ _ _ ?_
                    exact g5 ⟨by omega, m1, m2, i32_nle.mp hc⟩ τ6 t6
                · repeat refine hX _ _ _ _ _ _ ?_
                  refine And.intro (fun _ => ?_) (fun hc => absurd (show (0 : Int32) = 0 from rfl) hc)
                  exact hV _ _ [(0, .inr (.inr (.inl (some 9)))), (1, .inl (nI i)), (2, .inl (nI l))] _ _ _ _ (And.intro rfl (And.intro rfl (And.intro rfl trivial))) (fin τ4 t4 (fun q => by have := q.2.2.1; rw [m2] at this; cases this))
              · repeat refine hX _ _ _ _ _ _ ?_
                refine And.intro (fun _ => ?_) (fun hc => absurd (show (0 : Int32) = 0 from rfl) hc)
                exact hV _ _ [(0, .inr (.inr (.inl (some 9)))), (1, .inl (nI i)), (2, .inl (nI l))] _ _ _ _ (And.intro rfl (And.intro rfl (And.intro rfl trivial))) (fin τ4 t4 (fun q => by have := q.2.1; rw [m1] at this; cases this))
          · have hc2 : ¬ qv σ 1 0 i ≤ σ.2.1 16 l - sM σ l (m l) := hc
            repeat refine hX _ _ _ _ _ _ ?_
            exact g4 (fun q => hc2 q.2) τ4 t4
      · repeat refine hX _ _ _ _ _ _ ?_
        exact g3 hh
    · repeat refine hX _ _ _ _ _ _ ?_
      refine And.intro (fun hc => absurd (show (0 : Int32) = 0 from rfl) hc) (fun _ => ?_)
      repeat refine hX _ _ _ _ _ _ ?_
      exact h0 (fun ⟨_, l, hl, e⟩ => hno l hl e)
  · repeat refine hX _ _ _ _ _ _ ?_
    refine And.intro (fun _ => ?_) (fun hc => absurd (show (0 : Int32) = 0 from rfl) hc)
    repeat refine hX _ _ _ _ _ _ ?_
    exact h0 (fun ⟨⟨i, hi, e⟩, _⟩ => hno i hi e)
