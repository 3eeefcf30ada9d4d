/-! the constructors -/
theorem clo_al {σ : fd_S} (h : fd_clo σ) : fd_clo (fd_alloc σ) := by
  intro a k x hx
  have hx : (if a = σ.1 then none else σ.2.2.1 a k) = some x := hx
  have : σ.2.2.1 a k = some x := by
    split at hx
    · cases hx
    · exact hx
  exact Nat.lt_succ_of_lt (h a k x this)
theorem clo_sr {σ : fd_S} {a k : Nat} {w : Option Nat} (h : fd_clo σ) (hw : ∀ x, w = some x → x < σ.1) : fd_clo (fd_sr σ a k w) := by
  intro i j x hx
  have hx : fd_u σ.2.2.1 a k w i j = some x := hx
  unfold fd_u at hx
  split at hx
  · split at hx
    · exact hw x hx
    · exact h i j x hx
  · exact h i j x hx
theorem clo_eq {σ τ : fd_S} (h : fd_clo σ) (h1 : τ.1 = σ.1) (h2 : τ.2.2.1 = σ.2.2.1) : fd_clo τ := by
  intro i j x hx
  rw [h2] at hx
  rw [h1]
  exact h i j x hx
/-- Lane's own beginning -/
def li_s (σ : fd_S) (a : Nat) (x : Int32) : fd_S := (σ.1, fun i j => if i = a then (if j = 0 then x else if j ≤ 6 then 0 else σ.2.1 a j) else σ.2.1 i j, fun i j => if i = a ∧ (j = 7 ∨ j = 8) then none else σ.2.2.1 i j, σ.2.2.2)
theorem ok_linit (d a : Nat) (x : Int32) (σ : fd_S) (post : Option fd_V → fd_S → Prop) (hv : a < σ.1) (hs : fd_sh a = .inl 1) (h1 : post none (li_s σ a x)) : fd_Sem (d + 1) 12 [.inr (.inr (.inl (some a))), .inl x] σ post := by
  intro X hX hV
  refine hX _ _ _ _ _ _ ?_
  refine hX _ _ _ _ _ _ ?_
  refine Exists.intro _ (And.intro rfl ?_)
  repeat (first | refine hX _ _ _ _ _ _ ?_ | refine Exists.intro _ (And.intro (by first | rfl | assumption) (And.intro (by first | assumption | exact fd_lt20 h20 (by decide)) (And.intro (by first | rfl | assumption) ?_))))
  refine cast (congrArg (post none) ?_) h1
  refine Prod.ext rfl (Prod.ext (funext fun i => funext fun j => ?_) (Prod.ext (funext fun i => funext fun j => ?_) rfl))
  · clear hX hV h1
    simp only [li_s, fd_si, fd_sr, fd_u]
    by_cases h : i = a
    · subst h; simp only [if_true]; grind (splits := 20)
    · simp only [h, if_false]
  · simp only [li_s, fd_si, fd_sr, fd_u]; grind
/-- Answers' own beginning: cell 3, its row cell 4 -/
theorem ok_ainit (d : Nat) (σ : fd_S) (post : Option fd_V → fd_S → Prop) (hN : σ.1 = 4) (hclo : fd_clo σ) (h1 : ∀ τ : fd_S, τ.1 = 5 → (∀ i j, τ.2.2.1 i j = if i = 4 then none else if i = 3 ∧ j = 0 then some 4 else σ.2.2.1 i j) → (∀ i j, τ.2.1 i j = if i = 4 ∨ (i = 3 ∧ 1 ≤ j ∧ j ≤ 6) then 0 else σ.2.1 i j) → (∀ i j, τ.2.2.2 i j = if i = 4 then 0 else σ.2.2.2 i j) → fd_clo τ → post none τ) : fd_Sem (d + 1) 0 [.inr (.inr (.inl (some 3)))] σ post := by
  obtain ⟨N, H, R, L⟩ := σ
  have hN : N = 4 := hN
  subst hN
  intro X hX hV
  refine hX _ _ _ _ _ _ ?_
  refine hX _ _ _ _ _ _ ?_
  refine Exists.intro _ (And.intro rfl ?_)
  repeat refine hX _ _ _ _ _ _ ?_
  refine Exists.intro 10 (And.intro rfl (And.intro (by decide) (And.intro (by decide) (And.intro rfl (And.intro ⟨by decide, by decide, okL_c (ok_r (show 3 < 4 by decide)) okL_n, okV_c (ok_r (show 3 < 4 by decide)) okV_n, hclo⟩ ?_)))))
  refine hX _ _ _ _ _ _ ?_
  refine Exists.intro _ (And.intro rfl (And.intro (show 3 < 5 by decide) (And.intro rfl ?_)))
  have c1 := clo_sr (σ := fd_alloc (4, H, R, L)) (a := 3) (k := 0) (w := some 4) (clo_al hclo) (fun x e => by cases e; exact (show 4 < 5 by decide))
  have e1 : ∀ i j, (fd_sr (fd_alloc (4, H, R, L)) 3 0 (some 4)).2.1 i j = if i = 4 then 0 else H i j := fun _ _ => rfl
  have e2 : ∀ i j, (fd_sr (fd_alloc (4, H, R, L)) 3 0 (some 4)).2.2.1 i j = if i = 4 then none else if i = 3 ∧ j = 0 then some 4 else R i j := by
    intro i j
    show fd_u (fd_u0 R 4 none) 3 0 (some 4) i j = _
    unfold fd_u fd_u0
    grind
  have e3 : ∀ i j, (fd_sr (fd_alloc (4, H, R, L)) 3 0 (some 4)).2.2.2 i j = if i = 4 then 0 else L i j := fun _ _ => rfl
  have e4 : (fd_sr (fd_alloc (4, H, R, L)) 3 0 (some 4)).1 = 5 := rfl
  generalize fd_sr (fd_alloc (4, H, R, L)) 3 0 (some 4) = ρ at *
  suffices key : X ((fd_code 0).drop 6) [(0, .inr (.inr (.inl (some 3))))] [] ρ 1 10 from key
  have h3 : 3 < ρ.1 := by omega
  repeat (first | refine hX _ _ _ _ _ _ ?_ | refine Exists.intro _ (And.intro (by first | rfl | assumption) (And.intro (by first | assumption | exact fd_lt20 h20 (by decide)) (And.intro (by first | rfl | assumption) ?_))))
  refine And.intro (Or.inl rfl) ?_
  repeat (first | refine hX _ _ _ _ _ _ ?_ | refine Exists.intro _ (And.intro (by first | rfl | assumption) (And.intro (by first | assumption | exact fd_lt20 h20 (by decide)) (And.intro (by first | rfl | assumption) ?_))))
  refine h1 _ e4 e2 (fun i j => ?_) e3 (clo_eq c1 rfl rfl)
  simp only [fd_si, fd_u]
  have := e1 i j
  grind

/-- the deck with l lanes made -/
def IN (l : Nat) (σ : fd_S) : Prop := σ.1 = 5 + l ∧ (∀ i j, σ.2.2.1 i j = if i = 0 then (if j = 0 then some 1 else if j = 2 then some 2 else if j = 3 then some 3 else none) else if i = 3 ∧ j = 0 then some 4 else if i = 2 ∧ j < l then some (5 + j) else none) ∧ (∀ i j, σ.2.1 i j = if 5 ≤ i ∧ i < 5 + l ∧ j = 0 then nI (i - 5) else 0) ∧ (∀ i j, σ.2.2.2 i j = 0)
theorem in_clo {l : Nat} {σ : fd_S} (h : IN l σ) : fd_clo σ := by
  intro i j x hx
  rw [h.2.1 i j] at hx
  rw [h.1]
  split at hx
  · split at hx
    · cases hx; omega
    · split at hx
      · cases hx; omega
      · split at hx
        · cases hx; omega
        · cases hx
  · split at hx
    · cases hx; omega
    · split at hx
      · cases hx; omega
      · cases hx
theorem ok_dinit (d : Nat) (σ : fd_S) (post : Option fd_V → fd_S → Prop) (hN : σ.1 = 1) (hH : ∀ i j, σ.2.1 i j = 0) (hR : ∀ i j, σ.2.2.1 i j = none) (hL : ∀ i j, σ.2.2.2 i j = 0) (h1 : ∀ τ, IN 4 τ → post none τ) : fd_Sem (d + 2) 23 [.inr (.inr (.inl (some 0)))] σ post := by
  obtain ⟨N, H, R, L⟩ := σ
  have hN : N = 1 := hN
  subst hN
  have hclo : fd_clo (1, H, R, L) := fun i j x hx => by rw [hR i j] at hx; cases hx
  intro X hX hV
  have step : ∀ m l σ cc ss, l + m = 4 → cc + m ≤ 8 → ss + 9 * m ≤ 117 → IN l σ → X ((fd_code 23).drop 29) [(1, .inl (nI l)), (0, .inr (.inr (.inl (some 0))))] [] σ cc ss := by
    intro m
    induction m with
    | zero =>
      intro l σ cc ss hl _ _ hI
      have hl : l = 4 := by omega
      subst hl
      repeat refine hX _ _ _ _ _ _ ?_
      refine And.intro (fun _ => ?_) (fun hc => absurd (show (4 : Int32) ≤ nI 4 from nI_le (a := 4) (Nat.le_refl 4) (by decide)) hc)
      repeat refine hX _ _ _ _ _ _ ?_
      exact h1 _ hI
    | succ m ih =>
      intro l σ cc ss hl hcc hss hI
      have hcl := in_clo hI
      obtain ⟨i1, i2, i3, i4⟩ := id hI
      have h0 : 0 < σ.1 := by omega
      repeat refine hX _ _ _ _ _ _ ?_
      refine And.intro (fun hc => ?_) (fun _ => ?_)
      · have h2 : nI 4 ≤ nI l := hc
        rw [nI_leI (by omega) (by omega)] at h2
        omega
      refine hX _ _ _ _ _ _ ?_
      refine hX _ _ _ _ _ _ ?_
      refine Exists.intro _ (And.intro (by first | rfl | assumption) (And.intro (by first | assumption | exact fd_lt20 h20 (by decide)) (And.intro (by first | rfl | assumption) ?_)))
      have r2 : σ.2.2.1 0 2 = some 2 := by rw [i2]; rfl
      rw [r2]
      refine hX _ _ _ _ _ _ ?_
      refine hX _ _ _ _ _ _ ?_
      have hsh : fd_sh σ.1 = .inl 1 := by rw [i1]; exact fd_sh_lane (by omega)
      refine And.intro hsh (And.intro ⟨by show cc + 1 ≤ 8; omega, by show ss + 9 ≤ 117; omega, okL_c trivial (okL_c (ok_r h0) okL_n), okV_c trivial (okV_c (ok_r (by omega)) okV_n), hcl⟩ ?_)
      have hv : σ.1 < (fd_alloc σ).1 := Nat.lt_succ_self _
      repeat refine hX _ _ _ _ _ _ ?_
      refine Exists.intro _ (And.intro rfl ?_)
      refine ok_linit _ _ _ _ _ hv hsh ?_
      refine hX _ _ _ _ _ _ ?_
      have hv2 : σ.1 < (li_s (fd_alloc σ) σ.1 (nI l)).1 := hv
      have hv3 : 2 < (li_s (fd_alloc σ) σ.1 (nI l)).1 := by omega
      refine Exists.intro 2 (Exists.intro 4 (Exists.intro 1 (Exists.intro σ.1 (And.intro rfl (And.intro hv3 (And.intro rfl (And.intro (vp_in_nI (by omega) (by decide)) (And.intro rfl (And.intro hv2 (And.intro hsh ?_))))))))))
      rw [nI_clamp (show l < 2 ^ 31 by omega)]
      refine hX _ _ _ _ _ _ ?_
      refine hX _ _ _ _ _ _ ?_
      refine hV _ _ [(1, .inl (nI (l + 1))), (0, .inr (.inr (.inl (some 0))))] _ _ _ _ (And.intro (congrArg (fun x => some (Sum.inl x)) (nI_1 l)) (And.intro rfl trivial)) (ih (l + 1) _ _ _ (by omega) (by omega) (by show ss + 9 + 9 * m ≤ 117; omega) ⟨?_, ?_, ?_, ?_⟩)
      · show σ.1 + 1 = _; omega
      · intro i j
        show fd_u (fun i j => if i = σ.1 ∧ (j = 7 ∨ j = 8) then none else fd_u0 σ.2.2.1 σ.1 none i j) 2 l (some σ.1) i j = _
        have := i2 i j
        unfold fd_u fd_u0
        grind
      · intro i j
        show (if i = σ.1 then (if j = 0 then nI l else if j ≤ 6 then 0 else fd_u0 σ.2.1 σ.1 0 σ.1 j) else fd_u0 σ.2.1 σ.1 0 i j) = _
        have := i3 i j
        unfold fd_u0
        grind
      · intro i j
        show fd_u0 σ.2.2.2 σ.1 0 i j = 0
        have := i4 i j
        unfold fd_u0
        grind
  refine hX _ _ _ _ _ _ ?_
  refine hX _ _ _ _ _ _ ?_
  refine Exists.intro _ (And.intro rfl ?_)
  repeat refine hX _ _ _ _ _ _ ?_
  refine Exists.intro 60 (And.intro rfl (And.intro (by decide) (And.intro (by decide) (And.intro rfl (And.intro ⟨by decide, by decide, okL_c (ok_r (show 0 < 1 by decide)) okL_n, okV_c (ok_r (show 0 < 1 by decide)) okV_n, hclo⟩ ?_)))))
  refine hX _ _ _ _ _ _ ?_
  refine Exists.intro _ (And.intro rfl (And.intro (show 0 < 2 by decide) (And.intro rfl ?_)))
  repeat refine hX _ _ _ _ _ _ ?_
  refine Exists.intro _ (And.intro rfl (And.intro (show 0 < 2 by decide) (And.intro rfl ?_)))
  have c1 : fd_clo (fd_si (fd_sr (fd_alloc (1, H, R, L)) 0 0 (some 1)) 0 1 0) := clo_eq (clo_sr (σ := fd_alloc (1, H, R, L)) (a := 0) (k := 0) (w := some 1) (clo_al hclo) (fun x e => by cases e; exact (show 1 < 2 by decide))) rfl rfl
  repeat refine hX _ _ _ _ _ _ ?_
  refine Exists.intro 4 (And.intro rfl (And.intro (by decide) (And.intro (by decide) (And.intro rfl (And.intro ⟨by decide, by decide, okL_c (ok_r (show 0 < 2 by decide)) okL_n, okV_c (ok_r (show 0 < 2 by decide)) okV_n, c1⟩ ?_)))))
  refine hX _ _ _ _ _ _ ?_
  refine Exists.intro _ (And.intro rfl (And.intro (show 0 < 3 by decide) (And.intro rfl ?_)))
  have c2 : fd_clo (fd_sr (fd_alloc (fd_si (fd_sr (fd_alloc (1, H, R, L)) 0 0 (some 1)) 0 1 0)) 0 2 (some 2)) := clo_sr (clo_al c1) (fun x e => by cases e; exact (show 2 < 3 by decide))
  refine hX _ _ _ _ _ _ ?_
  refine hX _ _ _ _ _ _ ?_
  refine And.intro rfl (And.intro ⟨by decide, by decide, okL_c (ok_r (show 0 < 3 by decide)) okL_n, okV_c (ok_r (show 0 < 3 by decide)) okV_n, c2⟩ ?_)
  have c3 := clo_al c2
  have e1 : (fd_alloc (fd_sr (fd_alloc (fd_si (fd_sr (fd_alloc (1, H, R, L)) 0 0 (some 1)) 0 1 0)) 0 2 (some 2))).1 = 4 := rfl
  have e2 : ∀ i j, (fd_alloc (fd_sr (fd_alloc (fd_si (fd_sr (fd_alloc (1, H, R, L)) 0 0 (some 1)) 0 1 0)) 0 2 (some 2))).2.2.1 i j = if i = 0 ∧ j = 0 then some 1 else if i = 0 ∧ j = 2 then some 2 else none := by
    intro i j
    show fd_u0 (fd_u (fd_u0 (fd_u (fd_u0 R 1 none) 0 0 (some 1)) 2 none) 0 2 (some 2)) 3 none i j = _
    have : R i j = none := hR i j
    unfold fd_u fd_u0
    grind
  have e3 : ∀ i j, (fd_alloc (fd_sr (fd_alloc (fd_si (fd_sr (fd_alloc (1, H, R, L)) 0 0 (some 1)) 0 1 0)) 0 2 (some 2))).2.1 i j = 0 := by
    intro i j
    show fd_u0 (fd_u0 (fd_u (fd_u0 H 1 0) 0 1 0) 2 0) 3 0 i j = _
    have : H i j = 0 := hH i j
    unfold fd_u fd_u0
    grind
  have e4 : ∀ i j, (fd_alloc (fd_sr (fd_alloc (fd_si (fd_sr (fd_alloc (1, H, R, L)) 0 0 (some 1)) 0 1 0)) 0 2 (some 2))).2.2.2 i j = 0 := by
    intro i j
    show fd_u0 (fd_u0 (fd_u0 L 1 0) 2 0) 3 0 i j = _
    have : L i j = 0 := hL i j
    unfold fd_u0
    grind
  suffices key : ∀ ρ : fd_S, fd_clo ρ → ρ.1 = 4 → (∀ i j, ρ.2.2.1 i j = if i = 0 ∧ j = 0 then some 1 else if i = 0 ∧ j = 2 then some 2 else none) → (∀ i j, ρ.2.1 i j = 0) → (∀ i j, ρ.2.2.2 i j = 0) → X ((fd_code 23).drop 15) [(0, .inr (.inr (.inl (some 0))))] [.inr (.inr (.inl (some 3))), .inr (.inr (.inl (some 0)))] ρ 3 71 from key _ c3 e1 e2 e3 e4
  intro ρ c3 e1 e2 e3 e4
  repeat refine hX _ _ _ _ _ _ ?_
  refine Exists.intro _ (And.intro rfl ?_)
  refine And.intro ⟨by decide, by decide, okL_c (ok_r (by omega)) okL_n, okV_c (ok_r (by omega)) (okV_c (ok_r (by omega)) okV_n), c3⟩ ?_
  refine ok_ainit _ ρ _ e1 c3 (fun τ t1 t2 t3 t4 t5 => ?_)
  have h0 : 0 < τ.1 := by omega
  refine hX _ _ _ _ _ _ ?_
  refine Exists.intro _ (And.intro (by first | rfl | assumption) (And.intro (by first | assumption | exact fd_lt20 h20 (by decide)) (And.intro (by first | rfl | assumption) ?_)))
  iterate 2 refine hX _ _ _ _ _ _ ?_
  refine hX _ _ _ _ _ _ ?_
  refine Exists.intro _ (And.intro (by first | rfl | assumption) (And.intro (by first | assumption | exact fd_lt20 h20 (by decide)) (And.intro (by first | rfl | assumption) ?_)))
  iterate 2 refine hX _ _ _ _ _ _ ?_
  refine hX _ _ _ _ _ _ ?_
  refine Exists.intro _ (And.intro (by first | rfl | assumption) (And.intro (by first | assumption | exact fd_lt20 h20 (by decide)) (And.intro (by first | rfl | assumption) ?_)))
  iterate 2 refine hX _ _ _ _ _ _ ?_
  refine hX _ _ _ _ _ _ ?_
  refine Exists.intro _ (And.intro (by first | rfl | assumption) (And.intro (by first | assumption | exact fd_lt20 h20 (by decide)) (And.intro (by first | rfl | assumption) ?_)))
  refine hX _ _ _ _ _ _ ?_
  refine hX _ _ _ _ _ _ ?_
  refine step 4 0 _ _ _ rfl (by decide) (by decide) ⟨t1, fun i j => ?_, fun i j => ?_, fun i j => ?_⟩
  · show fd_u τ.2.2.1 0 3 (some 3) i j = _
    have := t2 i j
    have := e2 i j
    unfold fd_u
    grind
  · show fd_u (fd_u τ.2.1 0 4 0) 0 5 0 i j = _
    have := t3 i j
    have := e3 i j
    unfold fd_u
    grind
  · show fd_u τ.2.2.2 0 6 0 i j = _
    have := t4 i j
    have := e4 i j
    unfold fd_u
    grind
