/-! the class that answers: tables, bodies, the trace -/
def an_par (t : Nat) : Nat := [0, 0, 1, 2, 3, 0, 5].getD t 0
def an_tel (k w : Nat) : Option Nat := ([some 0, some 0, some 2, some 2, some 4, some 0, some 6,
  some 0, some 1, some 1, some 3, some 3, some 0, some 6,
  some 0, some 0, some 0, some 0, some 4, some 0, some 0,
  some 0, some 1, some 1, some 3, some 4, some 0, some 6,
  none, none, some 2, some 3, some 3, none, some 6,
  none, none, none, some 3, some 3, some 5, some 6] : List (Option Nat)).getD (7 * w + k) none
def TR (σ : fd_S) (b : Int32) : fd_S := if σ.2.1 3 2 = 0 then σ else if 10 ≤ σ.2.1 3 1 then σ else fd_si (fd_si σ 4 (σ.2.1 3 1).toNatClampNeg b) 3 1 (σ.2.1 3 1 + 1)
def TRs (σ : fd_S) (l : List Int32) : fd_S := l.foldl TR σ
def askd (σ : fd_S) (k0 : Nat) (sz ld se : Int32) : Prop := 20 ≤ σ.1 ∧ σ.2.2.1 3 0 = some 4 ∧ k0 < 7 ∧ σ.2.1 3 3 = nI k0 ∧ σ.2.1 3 4 = sz ∧ σ.2.1 3 5 = ld ∧ σ.2.1 3 6 = se ∧ ∃ tl : Nat, tl ≤ 10 ∧ σ.2.1 3 1 = nI tl
theorem askd_TR {σ : fd_S} {k0 : Nat} {sz ld se b : Int32} (h : askd σ k0 sz ld se) : askd (TR σ b) k0 sz ld se := by
  obtain ⟨h1, h2, h3, h4, h5, h6, h7, tl, h8, h9⟩ := id h
  unfold TR
  split
  · exact h
  · split
    · exact h
    · rename_i hz ht
      rw [h9] at ht
      have ht2 : ¬ nI 10 ≤ nI tl := ht
      rw [nI_leI (by omega) (by omega)] at ht2
      refine ⟨h1, h2, h3, ?_, ?_, ?_, ?_, tl + 1, by omega, ?_⟩
      · show fd_u (fd_u σ.2.1 4 (σ.2.1 3 1).toNatClampNeg b) 3 1 (σ.2.1 3 1 + 1) 3 3 = _
        simp [fd_u, h4]
      · show fd_u (fd_u σ.2.1 4 (σ.2.1 3 1).toNatClampNeg b) 3 1 (σ.2.1 3 1 + 1) 3 4 = _
        simp [fd_u, h5]
      · show fd_u (fd_u σ.2.1 4 (σ.2.1 3 1).toNatClampNeg b) 3 1 (σ.2.1 3 1 + 1) 3 5 = _
        simp [fd_u, h6]
      · show fd_u (fd_u σ.2.1 4 (σ.2.1 3 1).toNatClampNeg b) 3 1 (σ.2.1 3 1 + 1) 3 6 = _
        simp [fd_u, h7]
      · show fd_u (fd_u σ.2.1 4 (σ.2.1 3 1).toNatClampNeg b) 3 1 (σ.2.1 3 1 + 1) 3 1 = _
        rw [fd_u_eq, h9]; exact nI_1 tl
theorem askd_TRs {k0 : Nat} {sz ld se : Int32} : ∀ {l : List Int32} {σ : fd_S}, askd σ k0 sz ld se → askd (TRs σ l) k0 sz ld se
  | [], _, h => h
  | b :: l, σ, h => askd_TRs (l := l) (askd_TR (b := b) h)
theorem TRs_app (σ : fd_S) (l m : List Int32) : TRs σ (l ++ m) = TRs (TRs σ l) m := by simp [TRs]
/-- value and trace of a body -/
def an_b (sz ld se : Int32) (up : Int32 × List Int32) (own : Nat → Int32 × List Int32) (b : Nat) : Int32 × List Int32 := match b with
  | 1 => (sz, 1 :: [])
  | 2 => (up.1 + 10, 2 :: up.2)
  | 3 => (2 * up.1, 3 :: up.2)
  | 4 => (up.1 + 5, 4 :: up.2)
  | 11 => (1200 + ld, 11 :: [])
  | 12 => (up.1 + 800, 12 :: up.2)
  | 13 => (up.1 + ld / 4, 13 :: up.2)
  | 14 => (up.1 + 9000, 14 :: up.2)
  | 21 => (1 + (own 0).1 / 50, 21 :: (own 0).2)
  | 22 => (up.1 + 6, 22 :: up.2)
  | 31 => (500 + (own 0).1 * (10 + se), 31 :: (own 0).2)
  | 32 => (up.1 + 20 * se, 32 :: up.2)
  | 33 => (2 * up.1, 33 :: up.2)
  | 34 => (up.1 + (own 1).1 / 100, 34 :: (up.2 ++ (own 1).2))
  | 35 => (up.1 - up.1 / 10, 35 :: up.2)
  | 41 => ((own 1).1 / 200, 41 :: (own 1).2)
  | 42 => ((own 1).1 / 100 + 300, 42 :: (own 1).2)
  | 51 => (1 + (own 2).1 / 4, 51 :: (own 2).2)
  | 52 => (2 + (own 0).1 / 100, 52 :: (own 0).2)
  | _ => (-3, [])
/-- value and trace of 'what' answered by kind k -/
def an_w (k0 : Nat) (sz ld se : Int32) : Nat → Nat → Nat → Int32 × List Int32
  | 0, _, _ => (-3, [])
  | f + 1, k, w => match an_tel k w with
    | none => (-3, [])
    | some t => an_b sz ld se (an_w k0 sz ld se f (an_par t) w) (fun v => an_w k0 sz ld se f k0 v) (fd_sa 1 (7 * w + t)).toNatClampNeg
theorem ok_lessATenth (d : Nat) (x : Int32) (σ : fd_S) (post : Option fd_V → fd_S → Prop) (h1 : post (some (.inl (x - x / 10))) σ) : fd_Sem (d + 1) 11 [.inl x] σ post := by
  intro X hX hV
  repeat refine hX _ _ _ _ _ _ ?_
  refine And.intro (by decide) ?_
  repeat refine hX _ _ _ _ _ _ ?_
  exact h1
theorem an_sm {a b : Nat} (h : a < 7) (hb : b < 6) : nI b * 7 + nI a = nI (7 * b + a) := by
  show nI b * nI 7 + nI a = _
  rw [pk_mul, nI_add, Nat.mul_comm]
theorem ok_bodyOf (d : Nat) (a b : Nat) (σ : fd_S) (post : Option fd_V → fd_S → Prop) (ha : a < 7) (hb : b < 6) (h1 : post (some (.inl (fd_sa 1 (7 * b + a)))) σ) : fd_Sem (d + 1) 8 [.inl (nI a), .inl (nI b)] σ post := by
  intro X hX hV
  iterate 6 refine hX _ _ _ _ _ _ ?_
  refine hV _ _ [(2, .inl (nI (7 * b + a))), (0, .inl (nI a)), (1, .inl (nI b))] _ _ _ _ (And.intro (congrArg (fun x => some (Sum.inl x)) (an_sm ha hb)) (And.intro rfl (And.intro rfl trivial))) ?_
  repeat refine hX _ _ _ _ _ _ ?_
  refine And.intro (fun hc => absurd hc (nI_pos (by omega))) (fun hc => ?_)
  repeat refine hX _ _ _ _ _ _ ?_
  refine Or.inl (And.intro (by decide) ?_)
  repeat refine hX _ _ _ _ _ _ ?_
  refine And.intro (fun hc => ?_) (fun hc => ?_)
  · have h2 : nI 42 ≤ nI (7 * b + a) := hc
    rw [nI_leI (by omega) (by omega)] at h2
    omega
  · repeat refine hX _ _ _ _ _ _ ?_
    refine Or.inl (And.intro (by decide) (And.intro (vp_in_nI (N := 42) (by omega) (by decide)) ?_))
    have e : fd_sa 1 (nI (7 * b + a)).toNatClampNeg = fd_sa 1 (7 * b + a) := by rw [nI_clamp (by omega)]
    refine hX _ _ _ _ _ _ ?_
    rw [e]
    repeat refine hX _ _ _ _ _ _ ?_
    exact h1
theorem ok_leave (d : Nat) (b : Int32) (σ : fd_S) (post : Option fd_V → fd_S → Prop) {k0 : Nat} {sz ld se : Int32} (h : askd σ k0 sz ld se) (h1 : post none (TR σ b)) : fd_Sem (d + 1) 9 [.inr (.inr (.inl (some 3))), .inl b] σ post := by
  obtain ⟨h20, r30, hk, h33, h34, h35, h36, tl, htl, h31⟩ := id h
  unfold TR at h1
  intro X hX hV
  repeat (first | refine hX _ _ _ _ _ _ ?_ | refine Exists.intro _ (And.intro (by first | rfl | assumption) (And.intro (by first | assumption | exact fd_lt20 h20 (by decide)) (And.intro (by first | rfl | assumption) ?_))))
  refine And.intro (fun hc => ?_) (fun hc => ?_) <;> try dsimp only [fd_icmp] at hc
  · rw [if_pos hc] at h1
    repeat (first | refine hX _ _ _ _ _ _ ?_ | refine Exists.intro _ (And.intro (by first | rfl | assumption) (And.intro (by first | assumption | exact fd_lt20 h20 (by decide)) (And.intro (by first | rfl | assumption) ?_))))
    exact h1
  · rw [if_neg hc] at h1
    repeat (first | refine hX _ _ _ _ _ _ ?_ | refine Exists.intro _ (And.intro (by first | rfl | assumption) (And.intro (by first | assumption | exact fd_lt20 h20 (by decide)) (And.intro (by first | rfl | assumption) ?_))))
    refine And.intro (fun hc => ?_) (fun hc => ?_) <;> try dsimp only [fd_icmp] at hc
    · rw [if_pos hc] at h1
      repeat (first | refine hX _ _ _ _ _ _ ?_ | refine Exists.intro _ (And.intro (by first | rfl | assumption) (And.intro (by first | assumption | exact fd_lt20 h20 (by decide)) (And.intro (by first | rfl | assumption) ?_))))
      exact h1
    · rw [if_neg hc] at h1
      have hlt : tl < 10 := by
        have h2 : ¬ nI 10 ≤ σ.2.1 3 1 := hc
        rw [h31, nI_leI (by omega) (by omega)] at h2
        omega
      repeat (first | refine hX _ _ _ _ _ _ ?_ | refine Exists.intro _ (And.intro (by first | rfl | assumption) (And.intro (by first | assumption | exact fd_lt20 h20 (by decide)) (And.intro (by first | rfl | assumption) ?_))))
      refine Exists.intro _ (Exists.intro _ (And.intro (by first | rfl | assumption) (And.intro (by first | assumption | exact fd_lt20 h20 (by decide)) (And.intro (by first | rfl | assumption) (And.intro (by rw [h31]; exact vp_in_nI hlt (by decide)) ?_)))))
      repeat (first | refine hX _ _ _ _ _ _ ?_ | refine Exists.intro _ (And.intro (by first | rfl | assumption) (And.intro (by first | assumption | exact fd_lt20 h20 (by decide)) (And.intro (by first | rfl | assumption) ?_))))
      exact h1
/-- the kind itself or the nearest above that tells -/
def an_up (w : Nat) : Nat → Nat → Option Nat
  | 0, _ => none
  | f + 1, t => if fd_sa 1 (7 * w + t) ≠ 0 then some t else if t = 0 then none else an_up w f (an_par t)
def an_o (o : Option Nat) : Int32 := match o with
  | none => -1
  | some t => nI t
theorem an_up_tel : ∀ w, w < 6 → ∀ k, k < 7 → an_up w 7 k = an_tel k w := by decide +kernel
theorem an_parV : ∀ t, t < 7 → fd_sa 0 t = (if t = 0 then -1 else nI (an_par t)) := by decide +kernel
theorem an_par7 : ∀ t, t < 7 → an_par t < 7 := by decide +kernel
theorem an_telB : ∀ w, w < 6 → ∀ k, k < 7 → ∀ t, an_tel k w = some t → t < 7 ∧ fd_sa 1 (7 * w + t) ≠ 0 := by
  intro w hw k hk t ht
  have : ∀ w, w < 6 → ∀ k, k < 7 → (match an_tel k w with
    | none => true
    | some t => decide (t < 7) && decide (fd_sa 1 (7 * w + t) ≠ 0)) = true := by decide +kernel
  have h := this w hw k hk
  rw [ht] at h
  simpa using h
def an_upo (w f : Nat) (o : Option Nat) : Option Nat := match o with
  | none => none
  | some t => an_up w f t
theorem ok_tellerOf (d : Nat) (k w : Nat) (σ : fd_S) (post : Option fd_V → fd_S → Prop) (hk : k < 7) (hw : w < 6) (h1 : post (some (.inl (an_o (an_tel k w)))) σ) : fd_Sem (d + 2) 7 [.inl (nI k), .inl (nI w)] σ post := by
  intro X hX hV
  have loop : ∀ f j o, f + j = 7 → (∀ t, o = some t → t < 7) → an_upo w f o = an_tel k w → X ((fd_code 7).drop 4) [(3, .inl (nI j)), (2, .inl (an_o o)), (0, .inl (nI k)), (1, .inl (nI w))] [] σ 0 0 := by
    intro f
    induction f with
    | zero =>
      intro j o hj ho hu
      have : j = 7 := by omega
      subst this
      repeat refine hX _ _ _ _ _ _ ?_
      refine And.intro (fun hc => ?_) (fun hc => absurd (nI_le (Nat.le_refl 7) (by decide)) hc)
      repeat refine hX _ _ _ _ _ _ ?_
      have e : an_upo w 0 o = none := by cases o <;> rfl
      rw [← hu, e] at h1
      exact h1
    | succ f ih =>
      intro j o hj ho hu
      repeat refine hX _ _ _ _ _ _ ?_
      refine And.intro (fun hc => ?_) (fun hc => ?_)
      · have h2 : nI 7 ≤ nI j := hc
        rw [nI_leI (by omega) (by omega)] at h2
        omega
      · repeat refine hX _ _ _ _ _ _ ?_
        cases o with
        | none =>
          refine ok_within _ _ _ _ _ _ (fun ha hb => absurd (show (0 : Int32) ≤ -1 from ha) (by decide)) (fun _ => ?_)
          repeat refine hX _ _ _ _ _ _ ?_
          refine And.intro (fun _ => ?_) (fun hc => absurd (show (0 : Int32) = 0 from rfl) hc)
          repeat refine hX _ _ _ _ _ _ ?_
          rw [← hu] at h1
          exact h1
        | some t =>
          have ht := ho t rfl
          refine ok_within _ _ _ _ _ _ (fun ha hb => ?_) (fun ha => absurd (And.intro (nI_pos' (by omega)) (nI_le (by omega) (by decide) : nI t ≤ nI 6)) ha)
          repeat refine hX _ _ _ _ _ _ ?_
          refine And.intro (fun hc => absurd (show (1 : Int32) = 0 from hc) (by decide)) (fun _ => ?_)
          repeat refine hX _ _ _ _ _ _ ?_
          refine ok_bodyOf _ t w _ _ ht hw ?_
          repeat refine hX _ _ _ _ _ _ ?_
          refine And.intro (fun hz => ?_) (fun hz => ?_)
          · have hz : fd_sa 1 (7 * w + t) = 0 := hz
            repeat refine hX _ _ _ _ _ _ ?_
            refine Or.inl (And.intro (by decide) (And.intro (vp_in_nI (N := 7) ht (by decide)) ?_))
            have e : fd_sa 0 (an_o (some t)).toNatClampNeg = an_o (if t = 0 then none else some (an_par t)) := by
              show fd_sa 0 (nI t).toNatClampNeg = _
              rw [nI_clamp (by omega), an_parV t ht]
              by_cases h0 : t = 0
              · rw [if_pos h0, if_pos h0]; rfl
              · rw [if_neg h0, if_neg h0]; rfl
            refine hX _ _ _ _ _ _ ?_
            rw [e]
            refine hX _ _ _ _ _ _ ?_
            refine hX _ _ _ _ _ _ ?_
            refine hV _ _ [(3, .inl (nI (j + 1))), (2, .inl (an_o (if t = 0 then none else some (an_par t)))), (0, .inl (nI k)), (1, .inl (nI w))] _ _ _ _ (And.intro (congrArg (fun x => some (Sum.inl x)) (nI_1 j)) (And.intro rfl (And.intro rfl (And.intro rfl trivial)))) ?_
            refine ih (j + 1) _ (by omega) ?_ ?_
            · intro t' h'
              by_cases h0 : t = 0
              · rw [if_pos h0] at h'; cases h'
              · rw [if_neg h0] at h'; cases h'; exact an_par7 t ht
            · rw [← hu]
              show _ = (if fd_sa 1 (7 * w + t) ≠ 0 then some t else if t = 0 then none else an_up w f (an_par t))
              rw [if_neg (show ¬ fd_sa 1 (7 * w + t) ≠ 0 from fun q => q hz)]
              by_cases h0 : t = 0
              · rw [if_pos h0, if_pos h0]; rfl
              · rw [if_neg h0, if_neg h0]; rfl
          · repeat refine hX _ _ _ _ _ _ ?_
            have e : an_upo w (f + 1) (some t) = some t := by
              show (if fd_sa 1 (7 * w + t) ≠ 0 then some t else _) = _
              rw [if_pos (show fd_sa 1 (7 * w + t) ≠ 0 from hz)]
            rw [← hu, e] at h1
            exact h1
  iterate 4 refine hX _ _ _ _ _ _ ?_
  exact loop 7 0 (some k) rfl (fun t ht => by cases ht; exact hk) (an_up_tel w hw k hk)
/-- what is claimed of a call f levels above the depth's end -/
def an_P (f : Nat) : Prop := ∀ (d dp k w k0 : Nat) (sz ld se : Int32) (σ : fd_S) (post : Option fd_V → fd_S → Prop), f + dp = 16 → k < 7 → w < 6 → askd σ k0 sz ld se → post (some (.inl (an_w k0 sz ld se f k w).1)) (TRs σ (an_w k0 sz ld se f k w).2) → fd_Sem (d + 3 * f + 4) 6 [.inr (.inr (.inl (some 3))), .inl (nI k), .inl (nI w), .inl (nI dp)] σ post
theorem ok_own {f : Nat} (hP : an_P f) (d dp w k0 : Nat) (sz ld se : Int32) (σ : fd_S) (post : Option fd_V → fd_S → Prop) (hf : f + dp = 16) (hw : w < 6) (h : askd σ k0 sz ld se) (h1 : post (some (.inl (an_w k0 sz ld se f k0 w).1)) (TRs σ (an_w k0 sz ld se f k0 w).2)) : fd_Sem (d + 3 * f + 5) 4 [.inr (.inr (.inl (some 3))), .inl (nI w), .inl (nI dp)] σ post := by
  obtain ⟨h20, r30, hk, h33, h34, h35, h36, tl, htl, h31⟩ := id h
  intro X hX hV
  iterate 3 refine hX _ _ _ _ _ _ ?_
  refine Exists.intro _ (And.intro (by first | rfl | assumption) (And.intro (by first | assumption | exact fd_lt20 h20 (by decide)) (And.intro (by first | rfl | assumption) ?_)))
  rw [h33]
  repeat (first | refine hX _ _ _ _ _ _ ?_ | refine Exists.intro _ (And.intro (by first | rfl | assumption) (And.intro (by first | assumption | exact fd_lt20 h20 (by decide)) (And.intro (by first | rfl | assumption) ?_))))
  refine hP d dp k0 w k0 sz ld se σ _ hf hk hw h ?_
  repeat refine hX _ _ _ _ _ _ ?_
  exact h1
theorem ok_above {f : Nat} (hP : an_P f) (d dp t w k0 : Nat) (sz ld se : Int32) (σ : fd_S) (post : Option fd_V → fd_S → Prop) (hf : f + dp = 16) (ht : t < 7) (h0 : t ≠ 0) (hw : w < 6) (h : askd σ k0 sz ld se) (h1 : post (some (.inl (an_w k0 sz ld se f (an_par t) w).1)) (TRs σ (an_w k0 sz ld se f (an_par t) w).2)) : fd_Sem (d + 3 * f + 5) 5 [.inr (.inr (.inl (some 3))), .inl (nI t), .inl (nI w), .inl (nI dp)] σ post := by
  obtain ⟨h20, r30, hk, h33, h34, h35, h36, tl, htl, h31⟩ := id h
  intro X hX hV
  repeat refine hX _ _ _ _ _ _ ?_
  refine ok_within _ _ _ _ _ _ (fun ha hb => ?_) (fun ha => absurd (And.intro (nI_pos' (by omega)) (nI_le (by omega) (by decide) : nI t ≤ nI 6)) ha)
  repeat refine hX _ _ _ _ _ _ ?_
  refine And.intro (fun hc => absurd (show (1 : Int32) = 0 from hc) (by decide)) (fun _ => ?_)
  repeat refine hX _ _ _ _ _ _ ?_
  refine Or.inl (And.intro (by decide) (And.intro (vp_in_nI (N := 7) ht (by decide)) ?_))
  have e : fd_sa 0 (nI t).toNatClampNeg = nI (an_par t) := by rw [nI_clamp (by omega), an_parV t ht, if_neg h0]
  refine hX _ _ _ _ _ _ ?_
  rw [e]
  repeat (first | refine hX _ _ _ _ _ _ ?_ | refine Exists.intro _ (And.intro (by first | rfl | assumption) (And.intro (by first | assumption | exact fd_lt20 h20 (by decide)) (And.intro (by first | rfl | assumption) ?_))))
  refine hP d dp (an_par t) w k0 sz ld se σ _ hf (an_par7 t ht) hw h ?_
  repeat refine hX _ _ _ _ _ _ ?_
  exact h1
theorem ok_by_1_0 {f : Nat} (hP : an_P f) (d dp k0 : Nat) (sz ld se : Int32) (σ : fd_S) (post : Option fd_V → fd_S → Prop) (hf : f + dp = 16) (h : askd σ k0 sz ld se) (h1 : post (some (.inl (sz))) (TRs σ (1 :: []))) : fd_Sem (d + 3 * f + 6) 10 [.inr (.inr (.inl (some 3))), .inl 1, .inl (nI 0), .inl (nI 0), .inl (nI dp)] σ post := by
  obtain ⟨h20, r30, hk, h33, h34, h35, h36, tl, htl, h31⟩ := id h
  intro X hX hV
  repeat (first | refine hX _ _ _ _ _ _ ?_ | refine Exists.intro _ (And.intro (by first | rfl | assumption) (And.intro (by first | assumption | exact fd_lt20 h20 (by decide)) (And.intro (by first | rfl | assumption) ?_))))
  refine ok_leave _ _ _ _ h ?_
  have hs1 := askd_TR (b := 1) h
  obtain ⟨h20, r30, -, h33, h34, h35, h36, -⟩ := id hs1
  repeat refine hX _ _ _ _ _ _ ?_
  refine Or.inl (Exists.intro 0 (Exists.intro _ (And.intro rfl (And.intro (by decide) ?_))))
  repeat (first | refine hX _ _ _ _ _ _ ?_ | refine Exists.intro _ (And.intro (by first | rfl | assumption) (And.intro (by first | assumption | exact fd_lt20 h20 (by decide)) (And.intro (by first | rfl | assumption) ?_))))
  rw [← h34] at h1
  exact h1
theorem ok_by_2_2 {f : Nat} (hP : an_P f) (d dp k0 : Nat) (sz ld se : Int32) (σ : fd_S) (post : Option fd_V → fd_S → Prop) (hf : f + dp = 16) (h : askd σ k0 sz ld se) (h1 : post (some (.inl ((an_w k0 sz ld se f 1 0).1 + 10))) (TRs σ (2 :: (an_w k0 sz ld se f 1 0).2))) : fd_Sem (d + 3 * f + 6) 10 [.inr (.inr (.inl (some 3))), .inl 2, .inl (nI 2), .inl (nI 0), .inl (nI dp)] σ post := by
  obtain ⟨h20, r30, hk, h33, h34, h35, h36, tl, htl, h31⟩ := id h
  intro X hX hV
  repeat (first | refine hX _ _ _ _ _ _ ?_ | refine Exists.intro _ (And.intro (by first | rfl | assumption) (And.intro (by first | assumption | exact fd_lt20 h20 (by decide)) (And.intro (by first | rfl | assumption) ?_))))
  refine ok_leave _ _ _ _ h ?_
  have hs1 := askd_TR (b := 2) h
  obtain ⟨h20, r30, -, h33, h34, h35, h36, -⟩ := id hs1
  repeat refine hX _ _ _ _ _ _ ?_
  refine Or.inl (Exists.intro 1 (Exists.intro _ (And.intro rfl (And.intro (by decide) ?_))))
  repeat (first | refine hX _ _ _ _ _ _ ?_ | refine Exists.intro _ (And.intro (by first | rfl | assumption) (And.intro (by first | assumption | exact fd_lt20 h20 (by decide)) (And.intro (by first | rfl | assumption) ?_))))
  refine ok_above hP d dp 2 0 k0 sz ld se _ _ hf (by decide) (by decide) (by decide) hs1 ?_
  have hs2 := askd_TRs (l := (an_w k0 sz ld se f 1 0).2) hs1
  obtain ⟨h20, r30, -, h33, h34, h35, h36, -⟩ := id hs2
  repeat (first | refine hX _ _ _ _ _ _ ?_ | refine Exists.intro _ (And.intro (by first | rfl | assumption) (And.intro (by first | assumption | exact fd_lt20 h20 (by decide)) (And.intro (by first | rfl | assumption) ?_))))
  exact h1
theorem ok_by_3_4 {f : Nat} (hP : an_P f) (d dp k0 : Nat) (sz ld se : Int32) (σ : fd_S) (post : Option fd_V → fd_S → Prop) (hf : f + dp = 16) (h : askd σ k0 sz ld se) (h1 : post (some (.inl (2 * (an_w k0 sz ld se f 3 0).1))) (TRs σ (3 :: (an_w k0 sz ld se f 3 0).2))) : fd_Sem (d + 3 * f + 6) 10 [.inr (.inr (.inl (some 3))), .inl 3, .inl (nI 4), .inl (nI 0), .inl (nI dp)] σ post := by
  obtain ⟨h20, r30, hk, h33, h34, h35, h36, tl, htl, h31⟩ := id h
  intro X hX hV
  repeat (first | refine hX _ _ _ _ _ _ ?_ | refine Exists.intro _ (And.intro (by first | rfl | assumption) (And.intro (by first | assumption | exact fd_lt20 h20 (by decide)) (And.intro (by first | rfl | assumption) ?_))))
  refine ok_leave _ _ _ _ h ?_
  have hs1 := askd_TR (b := 3) h
  obtain ⟨h20, r30, -, h33, h34, h35, h36, -⟩ := id hs1
  repeat refine hX _ _ _ _ _ _ ?_
  refine Or.inl (Exists.intro 2 (Exists.intro _ (And.intro rfl (And.intro (by decide) ?_))))
  repeat (first | refine hX _ _ _ _ _ _ ?_ | refine Exists.intro _ (And.intro (by first | rfl | assumption) (And.intro (by first | assumption | exact fd_lt20 h20 (by decide)) (And.intro (by first | rfl | assumption) ?_))))
  refine ok_above hP d dp 4 0 k0 sz ld se _ _ hf (by decide) (by decide) (by decide) hs1 ?_
  have hs2 := askd_TRs (l := (an_w k0 sz ld se f 3 0).2) hs1
  obtain ⟨h20, r30, -, h33, h34, h35, h36, -⟩ := id hs2
  repeat (first | refine hX _ _ _ _ _ _ ?_ | refine Exists.intro _ (And.intro (by first | rfl | assumption) (And.intro (by first | assumption | exact fd_lt20 h20 (by decide)) (And.intro (by first | rfl | assumption) ?_))))
  exact h1
theorem ok_by_4_6 {f : Nat} (hP : an_P f) (d dp k0 : Nat) (sz ld se : Int32) (σ : fd_S) (post : Option fd_V → fd_S → Prop) (hf : f + dp = 16) (h : askd σ k0 sz ld se) (h1 : post (some (.inl ((an_w k0 sz ld se f 5 0).1 + 5))) (TRs σ (4 :: (an_w k0 sz ld se f 5 0).2))) : fd_Sem (d + 3 * f + 6) 10 [.inr (.inr (.inl (some 3))), .inl 4, .inl (nI 6), .inl (nI 0), .inl (nI dp)] σ post := by
  obtain ⟨h20, r30, hk, h33, h34, h35, h36, tl, htl, h31⟩ := id h
  intro X hX hV
  repeat (first | refine hX _ _ _ _ _ _ ?_ | refine Exists.intro _ (And.intro (by first | rfl | assumption) (And.intro (by first | assumption | exact fd_lt20 h20 (by decide)) (And.intro (by first | rfl | assumption) ?_))))
  refine ok_leave _ _ _ _ h ?_
  have hs1 := askd_TR (b := 4) h
  obtain ⟨h20, r30, -, h33, h34, h35, h36, -⟩ := id hs1
  repeat refine hX _ _ _ _ _ _ ?_
  refine Or.inl (Exists.intro 3 (Exists.intro _ (And.intro rfl (And.intro (by decide) ?_))))
  repeat (first | refine hX _ _ _ _ _ _ ?_ | refine Exists.intro _ (And.intro (by first | rfl | assumption) (And.intro (by first | assumption | exact fd_lt20 h20 (by decide)) (And.intro (by first | rfl | assumption) ?_))))
  refine ok_above hP d dp 6 0 k0 sz ld se _ _ hf (by decide) (by decide) (by decide) hs1 ?_
  have hs2 := askd_TRs (l := (an_w k0 sz ld se f 5 0).2) hs1
  obtain ⟨h20, r30, -, h33, h34, h35, h36, -⟩ := id hs2
  repeat (first | refine hX _ _ _ _ _ _ ?_ | refine Exists.intro _ (And.intro (by first | rfl | assumption) (And.intro (by first | assumption | exact fd_lt20 h20 (by decide)) (And.intro (by first | rfl | assumption) ?_))))
  exact h1
theorem ok_by_11_0 {f : Nat} (hP : an_P f) (d dp k0 : Nat) (sz ld se : Int32) (σ : fd_S) (post : Option fd_V → fd_S → Prop) (hf : f + dp = 16) (h : askd σ k0 sz ld se) (h1 : post (some (.inl (1200 + ld))) (TRs σ (11 :: []))) : fd_Sem (d + 3 * f + 6) 10 [.inr (.inr (.inl (some 3))), .inl 11, .inl (nI 0), .inl (nI 1), .inl (nI dp)] σ post := by
  obtain ⟨h20, r30, hk, h33, h34, h35, h36, tl, htl, h31⟩ := id h
  intro X hX hV
  repeat (first | refine hX _ _ _ _ _ _ ?_ | refine Exists.intro _ (And.intro (by first | rfl | assumption) (And.intro (by first | assumption | exact fd_lt20 h20 (by decide)) (And.intro (by first | rfl | assumption) ?_))))
  refine ok_leave _ _ _ _ h ?_
  have hs1 := askd_TR (b := 11) h
  obtain ⟨h20, r30, -, h33, h34, h35, h36, -⟩ := id hs1
  repeat refine hX _ _ _ _ _ _ ?_
  refine Or.inl (Exists.intro 10 (Exists.intro _ (And.intro rfl (And.intro (by decide) ?_))))
  repeat (first | refine hX _ _ _ _ _ _ ?_ | refine Exists.intro _ (And.intro (by first | rfl | assumption) (And.intro (by first | assumption | exact fd_lt20 h20 (by decide)) (And.intro (by first | rfl | assumption) ?_))))
  rw [← h35] at h1
  exact h1
theorem ok_by_12_1 {f : Nat} (hP : an_P f) (d dp k0 : Nat) (sz ld se : Int32) (σ : fd_S) (post : Option fd_V → fd_S → Prop) (hf : f + dp = 16) (h : askd σ k0 sz ld se) (h1 : post (some (.inl ((an_w k0 sz ld se f 0 1).1 + 800))) (TRs σ (12 :: (an_w k0 sz ld se f 0 1).2))) : fd_Sem (d + 3 * f + 6) 10 [.inr (.inr (.inl (some 3))), .inl 12, .inl (nI 1), .inl (nI 1), .inl (nI dp)] σ post := by
  obtain ⟨h20, r30, hk, h33, h34, h35, h36, tl, htl, h31⟩ := id h
  intro X hX hV
  repeat (first | refine hX _ _ _ _ _ _ ?_ | refine Exists.intro _ (And.intro (by first | rfl | assumption) (And.intro (by first | assumption | exact fd_lt20 h20 (by decide)) (And.intro (by first | rfl | assumption) ?_))))
  refine ok_leave _ _ _ _ h ?_
  have hs1 := askd_TR (b := 12) h
  obtain ⟨h20, r30, -, h33, h34, h35, h36, -⟩ := id hs1
  repeat refine hX _ _ _ _ _ _ ?_
  refine Or.inl (Exists.intro 11 (Exists.intro _ (And.intro rfl (And.intro (by decide) ?_))))
  repeat (first | refine hX _ _ _ _ _ _ ?_ | refine Exists.intro _ (And.intro (by first | rfl | assumption) (And.intro (by first | assumption | exact fd_lt20 h20 (by decide)) (And.intro (by first | rfl | assumption) ?_))))
  refine ok_above hP d dp 1 1 k0 sz ld se _ _ hf (by decide) (by decide) (by decide) hs1 ?_
  have hs2 := askd_TRs (l := (an_w k0 sz ld se f 0 1).2) hs1
  obtain ⟨h20, r30, -, h33, h34, h35, h36, -⟩ := id hs2
  repeat (first | refine hX _ _ _ _ _ _ ?_ | refine Exists.intro _ (And.intro (by first | rfl | assumption) (And.intro (by first | assumption | exact fd_lt20 h20 (by decide)) (And.intro (by first | rfl | assumption) ?_))))
  exact h1
theorem ok_by_13_3 {f : Nat} (hP : an_P f) (d dp k0 : Nat) (sz ld se : Int32) (σ : fd_S) (post : Option fd_V → fd_S → Prop) (hf : f + dp = 16) (h : askd σ k0 sz ld se) (h1 : post (some (.inl ((an_w k0 sz ld se f 2 1).1 + ld / 4))) (TRs σ (13 :: (an_w k0 sz ld se f 2 1).2))) : fd_Sem (d + 3 * f + 6) 10 [.inr (.inr (.inl (some 3))), .inl 13, .inl (nI 3), .inl (nI 1), .inl (nI dp)] σ post := by
  obtain ⟨h20, r30, hk, h33, h34, h35, h36, tl, htl, h31⟩ := id h
  intro X hX hV
  repeat (first | refine hX _ _ _ _ _ _ ?_ | refine Exists.intro _ (And.intro (by first | rfl | assumption) (And.intro (by first | assumption | exact fd_lt20 h20 (by decide)) (And.intro (by first | rfl | assumption) ?_))))
  refine ok_leave _ _ _ _ h ?_
  have hs1 := askd_TR (b := 13) h
  obtain ⟨h20, r30, -, h33, h34, h35, h36, -⟩ := id hs1
  repeat refine hX _ _ _ _ _ _ ?_
  refine Or.inl (Exists.intro 12 (Exists.intro _ (And.intro rfl (And.intro (by decide) ?_))))
  repeat (first | refine hX _ _ _ _ _ _ ?_ | refine Exists.intro _ (And.intro (by first | rfl | assumption) (And.intro (by first | assumption | exact fd_lt20 h20 (by decide)) (And.intro (by first | rfl | assumption) ?_))))
  refine ok_above hP d dp 3 1 k0 sz ld se _ _ hf (by decide) (by decide) (by decide) hs1 ?_
  have hs2 := askd_TRs (l := (an_w k0 sz ld se f 2 1).2) hs1
  obtain ⟨h20, r30, -, h33, h34, h35, h36, -⟩ := id hs2
  repeat (first | refine hX _ _ _ _ _ _ ?_ | refine Exists.intro _ (And.intro (by first | rfl | assumption) (And.intro (by first | assumption | exact fd_lt20 h20 (by decide)) (And.intro (by first | rfl | assumption) ?_))))
  refine And.intro (by decide) ?_
  repeat (first | refine hX _ _ _ _ _ _ ?_ | refine Exists.intro _ (And.intro (by first | rfl | assumption) (And.intro (by first | assumption | exact fd_lt20 h20 (by decide)) (And.intro (by first | rfl | assumption) ?_))))
  exact (congrArg (fun z => post (some (.inl ((an_w k0 sz ld se f 2 1).1 + z / 4))) (TRs σ (13 :: (an_w k0 sz ld se f 2 1).2))) h35).mpr h1
theorem ok_by_14_6 {f : Nat} (hP : an_P f) (d dp k0 : Nat) (sz ld se : Int32) (σ : fd_S) (post : Option fd_V → fd_S → Prop) (hf : f + dp = 16) (h : askd σ k0 sz ld se) (h1 : post (some (.inl ((an_w k0 sz ld se f 5 1).1 + 9000))) (TRs σ (14 :: (an_w k0 sz ld se f 5 1).2))) : fd_Sem (d + 3 * f + 6) 10 [.inr (.inr (.inl (some 3))), .inl 14, .inl (nI 6), .inl (nI 1), .inl (nI dp)] σ post := by
  obtain ⟨h20, r30, hk, h33, h34, h35, h36, tl, htl, h31⟩ := id h
  intro X hX hV
  repeat (first | refine hX _ _ _ _ _ _ ?_ | refine Exists.intro _ (And.intro (by first | rfl | assumption) (And.intro (by first | assumption | exact fd_lt20 h20 (by decide)) (And.intro (by first | rfl | assumption) ?_))))
  refine ok_leave _ _ _ _ h ?_
  have hs1 := askd_TR (b := 14) h
  obtain ⟨h20, r30, -, h33, h34, h35, h36, -⟩ := id hs1
  repeat refine hX _ _ _ _ _ _ ?_
  refine Or.inl (Exists.intro 13 (Exists.intro _ (And.intro rfl (And.intro (by decide) ?_))))
  repeat (first | refine hX _ _ _ _ _ _ ?_ | refine Exists.intro _ (And.intro (by first | rfl | assumption) (And.intro (by first | assumption | exact fd_lt20 h20 (by decide)) (And.intro (by first | rfl | assumption) ?_))))
  refine ok_above hP d dp 6 1 k0 sz ld se _ _ hf (by decide) (by decide) (by decide) hs1 ?_
  have hs2 := askd_TRs (l := (an_w k0 sz ld se f 5 1).2) hs1
  obtain ⟨h20, r30, -, h33, h34, h35, h36, -⟩ := id hs2
  repeat (first | refine hX _ _ _ _ _ _ ?_ | refine Exists.intro _ (And.intro (by first | rfl | assumption) (And.intro (by first | assumption | exact fd_lt20 h20 (by decide)) (And.intro (by first | rfl | assumption) ?_))))
  exact h1
theorem ok_by_21_0 {f : Nat} (hP : an_P f) (d dp k0 : Nat) (sz ld se : Int32) (σ : fd_S) (post : Option fd_V → fd_S → Prop) (hf : f + dp = 16) (h : askd σ k0 sz ld se) (h1 : post (some (.inl (1 + (an_w k0 sz ld se f k0 0).1 / 50))) (TRs σ (21 :: (an_w k0 sz ld se f k0 0).2))) : fd_Sem (d + 3 * f + 6) 10 [.inr (.inr (.inl (some 3))), .inl 21, .inl (nI 0), .inl (nI 2), .inl (nI dp)] σ post := by
  obtain ⟨h20, r30, hk, h33, h34, h35, h36, tl, htl, h31⟩ := id h
  intro X hX hV
  repeat (first | refine hX _ _ _ _ _ _ ?_ | refine Exists.intro _ (And.intro (by first | rfl | assumption) (And.intro (by first | assumption | exact fd_lt20 h20 (by decide)) (And.intro (by first | rfl | assumption) ?_))))
  refine ok_leave _ _ _ _ h ?_
  have hs1 := askd_TR (b := 21) h
  obtain ⟨h20, r30, -, h33, h34, h35, h36, -⟩ := id hs1
  repeat refine hX _ _ _ _ _ _ ?_
  refine Or.inl (Exists.intro 20 (Exists.intro _ (And.intro rfl (And.intro (by decide) ?_))))
  repeat (first | refine hX _ _ _ _ _ _ ?_ | refine Exists.intro _ (And.intro (by first | rfl | assumption) (And.intro (by first | assumption | exact fd_lt20 h20 (by decide)) (And.intro (by first | rfl | assumption) ?_))))
  refine ok_own hP d dp 0 k0 sz ld se _ _ hf (by decide) hs1 ?_
  have hs2 := askd_TRs (l := (an_w k0 sz ld se f k0 0).2) hs1
  obtain ⟨h20, r30, -, h33, h34, h35, h36, -⟩ := id hs2
  repeat (first | refine hX _ _ _ _ _ _ ?_ | refine Exists.intro _ (And.intro (by first | rfl | assumption) (And.intro (by first | assumption | exact fd_lt20 h20 (by decide)) (And.intro (by first | rfl | assumption) ?_))))
  refine And.intro (by decide) ?_
  repeat (first | refine hX _ _ _ _ _ _ ?_ | refine Exists.intro _ (And.intro (by first | rfl | assumption) (And.intro (by first | assumption | exact fd_lt20 h20 (by decide)) (And.intro (by first | rfl | assumption) ?_))))
  exact h1
theorem ok_by_22_4 {f : Nat} (hP : an_P f) (d dp k0 : Nat) (sz ld se : Int32) (σ : fd_S) (post : Option fd_V → fd_S → Prop) (hf : f + dp = 16) (h : askd σ k0 sz ld se) (h1 : post (some (.inl ((an_w k0 sz ld se f 3 2).1 + 6))) (TRs σ (22 :: (an_w k0 sz ld se f 3 2).2))) : fd_Sem (d + 3 * f + 6) 10 [.inr (.inr (.inl (some 3))), .inl 22, .inl (nI 4), .inl (nI 2), .inl (nI dp)] σ post := by
  obtain ⟨h20, r30, hk, h33, h34, h35, h36, tl, htl, h31⟩ := id h
  intro X hX hV
  repeat (first | refine hX _ _ _ _ _ _ ?_ | refine Exists.intro _ (And.intro (by first | rfl | assumption) (And.intro (by first | assumption | exact fd_lt20 h20 (by decide)) (And.intro (by first | rfl | assumption) ?_))))
  refine ok_leave _ _ _ _ h ?_
  have hs1 := askd_TR (b := 22) h
  obtain ⟨h20, r30, -, h33, h34, h35, h36, -⟩ := id hs1
  repeat refine hX _ _ _ _ _ _ ?_
  refine Or.inl (Exists.intro 21 (Exists.intro _ (And.intro rfl (And.intro (by decide) ?_))))
  repeat (first | refine hX _ _ _ _ _ _ ?_ | refine Exists.intro _ (And.intro (by first | rfl | assumption) (And.intro (by first | assumption | exact fd_lt20 h20 (by decide)) (And.intro (by first | rfl | assumption) ?_))))
  refine ok_above hP d dp 4 2 k0 sz ld se _ _ hf (by decide) (by decide) (by decide) hs1 ?_
  have hs2 := askd_TRs (l := (an_w k0 sz ld se f 3 2).2) hs1
  obtain ⟨h20, r30, -, h33, h34, h35, h36, -⟩ := id hs2
  repeat (first | refine hX _ _ _ _ _ _ ?_ | refine Exists.intro _ (And.intro (by first | rfl | assumption) (And.intro (by first | assumption | exact fd_lt20 h20 (by decide)) (And.intro (by first | rfl | assumption) ?_))))
  exact h1
theorem ok_by_31_0 {f : Nat} (hP : an_P f) (d dp k0 : Nat) (sz ld se : Int32) (σ : fd_S) (post : Option fd_V → fd_S → Prop) (hf : f + dp = 16) (h : askd σ k0 sz ld se) (h1 : post (some (.inl (500 + (an_w k0 sz ld se f k0 0).1 * (10 + se)))) (TRs σ (31 :: (an_w k0 sz ld se f k0 0).2))) : fd_Sem (d + 3 * f + 6) 10 [.inr (.inr (.inl (some 3))), .inl 31, .inl (nI 0), .inl (nI 3), .inl (nI dp)] σ post := by
  obtain ⟨h20, r30, hk, h33, h34, h35, h36, tl, htl, h31⟩ := id h
  intro X hX hV
  repeat (first | refine hX _ _ _ _ _ _ ?_ | refine Exists.intro _ (And.intro (by first | rfl | assumption) (And.intro (by first | assumption | exact fd_lt20 h20 (by decide)) (And.intro (by first | rfl | assumption) ?_))))
  refine ok_leave _ _ _ _ h ?_
  have hs1 := askd_TR (b := 31) h
  obtain ⟨h20, r30, -, h33, h34, h35, h36, -⟩ := id hs1
  repeat refine hX _ _ _ _ _ _ ?_
  refine Or.inl (Exists.intro 30 (Exists.intro _ (And.intro rfl (And.intro (by decide) ?_))))
  repeat (first | refine hX _ _ _ _ _ _ ?_ | refine Exists.intro _ (And.intro (by first | rfl | assumption) (And.intro (by first | assumption | exact fd_lt20 h20 (by decide)) (And.intro (by first | rfl | assumption) ?_))))
  refine ok_own hP d dp 0 k0 sz ld se _ _ hf (by decide) hs1 ?_
  have hs2 := askd_TRs (l := (an_w k0 sz ld se f k0 0).2) hs1
  obtain ⟨h20, r30, -, h33, h34, h35, h36, -⟩ := id hs2
  repeat (first | refine hX _ _ _ _ _ _ ?_ | refine Exists.intro _ (And.intro (by first | rfl | assumption) (And.intro (by first | assumption | exact fd_lt20 h20 (by decide)) (And.intro (by first | rfl | assumption) ?_))))
  exact (congrArg (fun z => post (some (.inl (500 + (an_w k0 sz ld se f k0 0).1 * (10 + z)))) (TRs σ (31 :: (an_w k0 sz ld se f k0 0).2))) h36).mpr h1
theorem ok_by_32_1 {f : Nat} (hP : an_P f) (d dp k0 : Nat) (sz ld se : Int32) (σ : fd_S) (post : Option fd_V → fd_S → Prop) (hf : f + dp = 16) (h : askd σ k0 sz ld se) (h1 : post (some (.inl ((an_w k0 sz ld se f 0 3).1 + 20 * se))) (TRs σ (32 :: (an_w k0 sz ld se f 0 3).2))) : fd_Sem (d + 3 * f + 6) 10 [.inr (.inr (.inl (some 3))), .inl 32, .inl (nI 1), .inl (nI 3), .inl (nI dp)] σ post := by
  obtain ⟨h20, r30, hk, h33, h34, h35, h36, tl, htl, h31⟩ := id h
  intro X hX hV
  repeat (first | refine hX _ _ _ _ _ _ ?_ | refine Exists.intro _ (And.intro (by first | rfl | assumption) (And.intro (by first | assumption | exact fd_lt20 h20 (by decide)) (And.intro (by first | rfl | assumption) ?_))))
  refine ok_leave _ _ _ _ h ?_
  have hs1 := askd_TR (b := 32) h
  obtain ⟨h20, r30, -, h33, h34, h35, h36, -⟩ := id hs1
  repeat refine hX _ _ _ _ _ _ ?_
  refine Or.inl (Exists.intro 31 (Exists.intro _ (And.intro rfl (And.intro (by decide) ?_))))
  repeat (first | refine hX _ _ _ _ _ _ ?_ | refine Exists.intro _ (And.intro (by first | rfl | assumption) (And.intro (by first | assumption | exact fd_lt20 h20 (by decide)) (And.intro (by first | rfl | assumption) ?_))))
  refine ok_above hP d dp 1 3 k0 sz ld se _ _ hf (by decide) (by decide) (by decide) hs1 ?_
  have hs2 := askd_TRs (l := (an_w k0 sz ld se f 0 3).2) hs1
  obtain ⟨h20, r30, -, h33, h34, h35, h36, -⟩ := id hs2
  repeat (first | refine hX _ _ _ _ _ _ ?_ | refine Exists.intro _ (And.intro (by first | rfl | assumption) (And.intro (by first | assumption | exact fd_lt20 h20 (by decide)) (And.intro (by first | rfl | assumption) ?_))))
  exact (congrArg (fun z => post (some (.inl ((an_w k0 sz ld se f 0 3).1 + 20 * z))) (TRs σ (32 :: (an_w k0 sz ld se f 0 3).2))) h36).mpr h1
theorem ok_by_33_3 {f : Nat} (hP : an_P f) (d dp k0 : Nat) (sz ld se : Int32) (σ : fd_S) (post : Option fd_V → fd_S → Prop) (hf : f + dp = 16) (h : askd σ k0 sz ld se) (h1 : post (some (.inl (2 * (an_w k0 sz ld se f 2 3).1))) (TRs σ (33 :: (an_w k0 sz ld se f 2 3).2))) : fd_Sem (d + 3 * f + 6) 10 [.inr (.inr (.inl (some 3))), .inl 33, .inl (nI 3), .inl (nI 3), .inl (nI dp)] σ post := by
  obtain ⟨h20, r30, hk, h33, h34, h35, h36, tl, htl, h31⟩ := id h
  intro X hX hV
  repeat (first | refine hX _ _ _ _ _ _ ?_ | refine Exists.intro _ (And.intro (by first | rfl | assumption) (And.intro (by first | assumption | exact fd_lt20 h20 (by decide)) (And.intro (by first | rfl | assumption) ?_))))
  refine ok_leave _ _ _ _ h ?_
  have hs1 := askd_TR (b := 33) h
  obtain ⟨h20, r30, -, h33, h34, h35, h36, -⟩ := id hs1
  repeat refine hX _ _ _ _ _ _ ?_
  refine Or.inl (Exists.intro 32 (Exists.intro _ (And.intro rfl (And.intro (by decide) ?_))))
  repeat (first | refine hX _ _ _ _ _ _ ?_ | refine Exists.intro _ (And.intro (by first | rfl | assumption) (And.intro (by first | assumption | exact fd_lt20 h20 (by decide)) (And.intro (by first | rfl | assumption) ?_))))
  refine ok_above hP d dp 3 3 k0 sz ld se _ _ hf (by decide) (by decide) (by decide) hs1 ?_
  have hs2 := askd_TRs (l := (an_w k0 sz ld se f 2 3).2) hs1
  obtain ⟨h20, r30, -, h33, h34, h35, h36, -⟩ := id hs2
  repeat (first | refine hX _ _ _ _ _ _ ?_ | refine Exists.intro _ (And.intro (by first | rfl | assumption) (And.intro (by first | assumption | exact fd_lt20 h20 (by decide)) (And.intro (by first | rfl | assumption) ?_))))
  exact h1
theorem ok_by_34_4 {f : Nat} (hP : an_P f) (d dp k0 : Nat) (sz ld se : Int32) (σ : fd_S) (post : Option fd_V → fd_S → Prop) (hf : f + dp = 16) (h : askd σ k0 sz ld se) (h1 : post (some (.inl ((an_w k0 sz ld se f 3 3).1 + (an_w k0 sz ld se f k0 1).1 / 100))) (TRs σ (34 :: ((an_w k0 sz ld se f 3 3).2 ++ (an_w k0 sz ld se f k0 1).2)))) : fd_Sem (d + 3 * f + 6) 10 [.inr (.inr (.inl (some 3))), .inl 34, .inl (nI 4), .inl (nI 3), .inl (nI dp)] σ post := by
  obtain ⟨h20, r30, hk, h33, h34, h35, h36, tl, htl, h31⟩ := id h
  intro X hX hV
  repeat (first | refine hX _ _ _ _ _ _ ?_ | refine Exists.intro _ (And.intro (by first | rfl | assumption) (And.intro (by first | assumption | exact fd_lt20 h20 (by decide)) (And.intro (by first | rfl | assumption) ?_))))
  refine ok_leave _ _ _ _ h ?_
  have hs1 := askd_TR (b := 34) h
  obtain ⟨h20, r30, -, h33, h34, h35, h36, -⟩ := id hs1
  repeat refine hX _ _ _ _ _ _ ?_
  refine Or.inl (Exists.intro 33 (Exists.intro _ (And.intro rfl (And.intro (by decide) ?_))))
  repeat (first | refine hX _ _ _ _ _ _ ?_ | refine Exists.intro _ (And.intro (by first | rfl | assumption) (And.intro (by first | assumption | exact fd_lt20 h20 (by decide)) (And.intro (by first | rfl | assumption) ?_))))
  refine ok_above hP d dp 4 3 k0 sz ld se _ _ hf (by decide) (by decide) (by decide) hs1 ?_
  have hs2 := askd_TRs (l := (an_w k0 sz ld se f 3 3).2) hs1
  obtain ⟨h20, r30, -, h33, h34, h35, h36, -⟩ := id hs2
  repeat (first | refine hX _ _ _ _ _ _ ?_ | refine Exists.intro _ (And.intro (by first | rfl | assumption) (And.intro (by first | assumption | exact fd_lt20 h20 (by decide)) (And.intro (by first | rfl | assumption) ?_))))
  refine ok_own hP d dp 1 k0 sz ld se _ _ hf (by decide) hs2 ?_
  have hs3 := askd_TRs (l := (an_w k0 sz ld se f k0 1).2) hs2
  obtain ⟨h20, r30, -, h33, h34, h35, h36, -⟩ := id hs3
  repeat (first | refine hX _ _ _ _ _ _ ?_ | refine Exists.intro _ (And.intro (by first | rfl | assumption) (And.intro (by first | assumption | exact fd_lt20 h20 (by decide)) (And.intro (by first | rfl | assumption) ?_))))
  refine And.intro (by decide) ?_
  repeat (first | refine hX _ _ _ _ _ _ ?_ | refine Exists.intro _ (And.intro (by first | rfl | assumption) (And.intro (by first | assumption | exact fd_lt20 h20 (by decide)) (And.intro (by first | rfl | assumption) ?_))))
  rw [show TRs σ (34 :: ((an_w k0 sz ld se f 3 3).2 ++ (an_w k0 sz ld se f k0 1).2)) = TRs (TRs (TR σ 34) (an_w k0 sz ld se f 3 3).2) (an_w k0 sz ld se f k0 1).2 from TRs_app (TR σ 34) _ _] at h1
  exact h1
theorem ok_by_35_6 {f : Nat} (hP : an_P f) (d dp k0 : Nat) (sz ld se : Int32) (σ : fd_S) (post : Option fd_V → fd_S → Prop) (hf : f + dp = 16) (h : askd σ k0 sz ld se) (h1 : post (some (.inl ((an_w k0 sz ld se f 5 3).1 - (an_w k0 sz ld se f 5 3).1 / 10))) (TRs σ (35 :: (an_w k0 sz ld se f 5 3).2))) : fd_Sem (d + 3 * f + 6) 10 [.inr (.inr (.inl (some 3))), .inl 35, .inl (nI 6), .inl (nI 3), .inl (nI dp)] σ post := by
  obtain ⟨h20, r30, hk, h33, h34, h35, h36, tl, htl, h31⟩ := id h
  intro X hX hV
  repeat (first | refine hX _ _ _ _ _ _ ?_ | refine Exists.intro _ (And.intro (by first | rfl | assumption) (And.intro (by first | assumption | exact fd_lt20 h20 (by decide)) (And.intro (by first | rfl | assumption) ?_))))
  refine ok_leave _ _ _ _ h ?_
  have hs1 := askd_TR (b := 35) h
  obtain ⟨h20, r30, -, h33, h34, h35, h36, -⟩ := id hs1
  repeat refine hX _ _ _ _ _ _ ?_
  refine Or.inl (Exists.intro 34 (Exists.intro _ (And.intro rfl (And.intro (by decide) ?_))))
  repeat (first | refine hX _ _ _ _ _ _ ?_ | refine Exists.intro _ (And.intro (by first | rfl | assumption) (And.intro (by first | assumption | exact fd_lt20 h20 (by decide)) (And.intro (by first | rfl | assumption) ?_))))
  refine ok_above hP d dp 6 3 k0 sz ld se _ _ hf (by decide) (by decide) (by decide) hs1 ?_
  have hs2 := askd_TRs (l := (an_w k0 sz ld se f 5 3).2) hs1
  obtain ⟨h20, r30, -, h33, h34, h35, h36, -⟩ := id hs2
  repeat (first | refine hX _ _ _ _ _ _ ?_ | refine Exists.intro _ (And.intro (by first | rfl | assumption) (And.intro (by first | assumption | exact fd_lt20 h20 (by decide)) (And.intro (by first | rfl | assumption) ?_))))
  refine ok_lessATenth _ _ _ _ ?_
  repeat (first | refine hX _ _ _ _ _ _ ?_ | refine Exists.intro _ (And.intro (by first | rfl | assumption) (And.intro (by first | assumption | exact fd_lt20 h20 (by decide)) (And.intro (by first | rfl | assumption) ?_))))
  exact h1
theorem ok_by_41_2 {f : Nat} (hP : an_P f) (d dp k0 : Nat) (sz ld se : Int32) (σ : fd_S) (post : Option fd_V → fd_S → Prop) (hf : f + dp = 16) (h : askd σ k0 sz ld se) (h1 : post (some (.inl ((an_w k0 sz ld se f k0 1).1 / 200))) (TRs σ (41 :: (an_w k0 sz ld se f k0 1).2))) : fd_Sem (d + 3 * f + 6) 10 [.inr (.inr (.inl (some 3))), .inl 41, .inl (nI 2), .inl (nI 4), .inl (nI dp)] σ post := by
  obtain ⟨h20, r30, hk, h33, h34, h35, h36, tl, htl, h31⟩ := id h
  intro X hX hV
  repeat (first | refine hX _ _ _ _ _ _ ?_ | refine Exists.intro _ (And.intro (by first | rfl | assumption) (And.intro (by first | assumption | exact fd_lt20 h20 (by decide)) (And.intro (by first | rfl | assumption) ?_))))
  refine ok_leave _ _ _ _ h ?_
  have hs1 := askd_TR (b := 41) h
  obtain ⟨h20, r30, -, h33, h34, h35, h36, -⟩ := id hs1
  repeat refine hX _ _ _ _ _ _ ?_
  refine Or.inl (Exists.intro 40 (Exists.intro _ (And.intro rfl (And.intro (by decide) ?_))))
  repeat (first | refine hX _ _ _ _ _ _ ?_ | refine Exists.intro _ (And.intro (by first | rfl | assumption) (And.intro (by first | assumption | exact fd_lt20 h20 (by decide)) (And.intro (by first | rfl | assumption) ?_))))
  refine ok_own hP d dp 1 k0 sz ld se _ _ hf (by decide) hs1 ?_
  have hs2 := askd_TRs (l := (an_w k0 sz ld se f k0 1).2) hs1
  obtain ⟨h20, r30, -, h33, h34, h35, h36, -⟩ := id hs2
  repeat (first | refine hX _ _ _ _ _ _ ?_ | refine Exists.intro _ (And.intro (by first | rfl | assumption) (And.intro (by first | assumption | exact fd_lt20 h20 (by decide)) (And.intro (by first | rfl | assumption) ?_))))
  refine And.intro (by decide) ?_
  repeat (first | refine hX _ _ _ _ _ _ ?_ | refine Exists.intro _ (And.intro (by first | rfl | assumption) (And.intro (by first | assumption | exact fd_lt20 h20 (by decide)) (And.intro (by first | rfl | assumption) ?_))))
  exact h1
theorem ok_by_41_6 {f : Nat} (hP : an_P f) (d dp k0 : Nat) (sz ld se : Int32) (σ : fd_S) (post : Option fd_V → fd_S → Prop) (hf : f + dp = 16) (h : askd σ k0 sz ld se) (h1 : post (some (.inl ((an_w k0 sz ld se f k0 1).1 / 200))) (TRs σ (41 :: (an_w k0 sz ld se f k0 1).2))) : fd_Sem (d + 3 * f + 6) 10 [.inr (.inr (.inl (some 3))), .inl 41, .inl (nI 6), .inl (nI 4), .inl (nI dp)] σ post := by
  obtain ⟨h20, r30, hk, h33, h34, h35, h36, tl, htl, h31⟩ := id h
  intro X hX hV
  repeat (first | refine hX _ _ _ _ _ _ ?_ | refine Exists.intro _ (And.intro (by first | rfl | assumption) (And.intro (by first | assumption | exact fd_lt20 h20 (by decide)) (And.intro (by first | rfl | assumption) ?_))))
  refine ok_leave _ _ _ _ h ?_
  have hs1 := askd_TR (b := 41) h
  obtain ⟨h20, r30, -, h33, h34, h35, h36, -⟩ := id hs1
  repeat refine hX _ _ _ _ _ _ ?_
  refine Or.inl (Exists.intro 40 (Exists.intro _ (And.intro rfl (And.intro (by decide) ?_))))
  repeat (first | refine hX _ _ _ _ _ _ ?_ | refine Exists.intro _ (And.intro (by first | rfl | assumption) (And.intro (by first | assumption | exact fd_lt20 h20 (by decide)) (And.intro (by first | rfl | assumption) ?_))))
  refine ok_own hP d dp 1 k0 sz ld se _ _ hf (by decide) hs1 ?_
  have hs2 := askd_TRs (l := (an_w k0 sz ld se f k0 1).2) hs1
  obtain ⟨h20, r30, -, h33, h34, h35, h36, -⟩ := id hs2
  repeat (first | refine hX _ _ _ _ _ _ ?_ | refine Exists.intro _ (And.intro (by first | rfl | assumption) (And.intro (by first | assumption | exact fd_lt20 h20 (by decide)) (And.intro (by first | rfl | assumption) ?_))))
  refine And.intro (by decide) ?_
  repeat (first | refine hX _ _ _ _ _ _ ?_ | refine Exists.intro _ (And.intro (by first | rfl | assumption) (And.intro (by first | assumption | exact fd_lt20 h20 (by decide)) (And.intro (by first | rfl | assumption) ?_))))
  exact h1
theorem ok_by_42_3 {f : Nat} (hP : an_P f) (d dp k0 : Nat) (sz ld se : Int32) (σ : fd_S) (post : Option fd_V → fd_S → Prop) (hf : f + dp = 16) (h : askd σ k0 sz ld se) (h1 : post (some (.inl ((an_w k0 sz ld se f k0 1).1 / 100 + 300))) (TRs σ (42 :: (an_w k0 sz ld se f k0 1).2))) : fd_Sem (d + 3 * f + 6) 10 [.inr (.inr (.inl (some 3))), .inl 42, .inl (nI 3), .inl (nI 4), .inl (nI dp)] σ post := by
  obtain ⟨h20, r30, hk, h33, h34, h35, h36, tl, htl, h31⟩ := id h
  intro X hX hV
  repeat (first | refine hX _ _ _ _ _ _ ?_ | refine Exists.intro _ (And.intro (by first | rfl | assumption) (And.intro (by first | assumption | exact fd_lt20 h20 (by decide)) (And.intro (by first | rfl | assumption) ?_))))
  refine ok_leave _ _ _ _ h ?_
  have hs1 := askd_TR (b := 42) h
  obtain ⟨h20, r30, -, h33, h34, h35, h36, -⟩ := id hs1
  repeat refine hX _ _ _ _ _ _ ?_
  refine Or.inl (Exists.intro 41 (Exists.intro _ (And.intro rfl (And.intro (by decide) ?_))))
  repeat (first | refine hX _ _ _ _ _ _ ?_ | refine Exists.intro _ (And.intro (by first | rfl | assumption) (And.intro (by first | assumption | exact fd_lt20 h20 (by decide)) (And.intro (by first | rfl | assumption) ?_))))
  refine ok_own hP d dp 1 k0 sz ld se _ _ hf (by decide) hs1 ?_
  have hs2 := askd_TRs (l := (an_w k0 sz ld se f k0 1).2) hs1
  obtain ⟨h20, r30, -, h33, h34, h35, h36, -⟩ := id hs2
  repeat (first | refine hX _ _ _ _ _ _ ?_ | refine Exists.intro _ (And.intro (by first | rfl | assumption) (And.intro (by first | assumption | exact fd_lt20 h20 (by decide)) (And.intro (by first | rfl | assumption) ?_))))
  refine And.intro (by decide) ?_
  repeat (first | refine hX _ _ _ _ _ _ ?_ | refine Exists.intro _ (And.intro (by first | rfl | assumption) (And.intro (by first | assumption | exact fd_lt20 h20 (by decide)) (And.intro (by first | rfl | assumption) ?_))))
  exact h1
theorem ok_by_51_3 {f : Nat} (hP : an_P f) (d dp k0 : Nat) (sz ld se : Int32) (σ : fd_S) (post : Option fd_V → fd_S → Prop) (hf : f + dp = 16) (h : askd σ k0 sz ld se) (h1 : post (some (.inl (1 + (an_w k0 sz ld se f k0 2).1 / 4))) (TRs σ (51 :: (an_w k0 sz ld se f k0 2).2))) : fd_Sem (d + 3 * f + 6) 10 [.inr (.inr (.inl (some 3))), .inl 51, .inl (nI 3), .inl (nI 5), .inl (nI dp)] σ post := by
  obtain ⟨h20, r30, hk, h33, h34, h35, h36, tl, htl, h31⟩ := id h
  intro X hX hV
  repeat (first | refine hX _ _ _ _ _ _ ?_ | refine Exists.intro _ (And.intro (by first | rfl | assumption) (And.intro (by first | assumption | exact fd_lt20 h20 (by decide)) (And.intro (by first | rfl | assumption) ?_))))
  refine ok_leave _ _ _ _ h ?_
  have hs1 := askd_TR (b := 51) h
  obtain ⟨h20, r30, -, h33, h34, h35, h36, -⟩ := id hs1
  repeat refine hX _ _ _ _ _ _ ?_
  refine Or.inl (Exists.intro 50 (Exists.intro _ (And.intro rfl (And.intro (by decide) ?_))))
  repeat (first | refine hX _ _ _ _ _ _ ?_ | refine Exists.intro _ (And.intro (by first | rfl | assumption) (And.intro (by first | assumption | exact fd_lt20 h20 (by decide)) (And.intro (by first | rfl | assumption) ?_))))
  refine ok_own hP d dp 2 k0 sz ld se _ _ hf (by decide) hs1 ?_
  have hs2 := askd_TRs (l := (an_w k0 sz ld se f k0 2).2) hs1
  obtain ⟨h20, r30, -, h33, h34, h35, h36, -⟩ := id hs2
  repeat (first | refine hX _ _ _ _ _ _ ?_ | refine Exists.intro _ (And.intro (by first | rfl | assumption) (And.intro (by first | assumption | exact fd_lt20 h20 (by decide)) (And.intro (by first | rfl | assumption) ?_))))
  refine And.intro (by decide) ?_
  repeat (first | refine hX _ _ _ _ _ _ ?_ | refine Exists.intro _ (And.intro (by first | rfl | assumption) (And.intro (by first | assumption | exact fd_lt20 h20 (by decide)) (And.intro (by first | rfl | assumption) ?_))))
  exact h1
theorem ok_by_51_5 {f : Nat} (hP : an_P f) (d dp k0 : Nat) (sz ld se : Int32) (σ : fd_S) (post : Option fd_V → fd_S → Prop) (hf : f + dp = 16) (h : askd σ k0 sz ld se) (h1 : post (some (.inl (1 + (an_w k0 sz ld se f k0 2).1 / 4))) (TRs σ (51 :: (an_w k0 sz ld se f k0 2).2))) : fd_Sem (d + 3 * f + 6) 10 [.inr (.inr (.inl (some 3))), .inl 51, .inl (nI 5), .inl (nI 5), .inl (nI dp)] σ post := by
  obtain ⟨h20, r30, hk, h33, h34, h35, h36, tl, htl, h31⟩ := id h
  intro X hX hV
  repeat (first | refine hX _ _ _ _ _ _ ?_ | refine Exists.intro _ (And.intro (by first | rfl | assumption) (And.intro (by first | assumption | exact fd_lt20 h20 (by decide)) (And.intro (by first | rfl | assumption) ?_))))
  refine ok_leave _ _ _ _ h ?_
  have hs1 := askd_TR (b := 51) h
  obtain ⟨h20, r30, -, h33, h34, h35, h36, -⟩ := id hs1
  repeat refine hX _ _ _ _ _ _ ?_
  refine Or.inl (Exists.intro 50 (Exists.intro _ (And.intro rfl (And.intro (by decide) ?_))))
  repeat (first | refine hX _ _ _ _ _ _ ?_ | refine Exists.intro _ (And.intro (by first | rfl | assumption) (And.intro (by first | assumption | exact fd_lt20 h20 (by decide)) (And.intro (by first | rfl | assumption) ?_))))
  refine ok_own hP d dp 2 k0 sz ld se _ _ hf (by decide) hs1 ?_
  have hs2 := askd_TRs (l := (an_w k0 sz ld se f k0 2).2) hs1
  obtain ⟨h20, r30, -, h33, h34, h35, h36, -⟩ := id hs2
  repeat (first | refine hX _ _ _ _ _ _ ?_ | refine Exists.intro _ (And.intro (by first | rfl | assumption) (And.intro (by first | assumption | exact fd_lt20 h20 (by decide)) (And.intro (by first | rfl | assumption) ?_))))
  refine And.intro (by decide) ?_
  repeat (first | refine hX _ _ _ _ _ _ ?_ | refine Exists.intro _ (And.intro (by first | rfl | assumption) (And.intro (by first | assumption | exact fd_lt20 h20 (by decide)) (And.intro (by first | rfl | assumption) ?_))))
  exact h1
theorem ok_by_52_6 {f : Nat} (hP : an_P f) (d dp k0 : Nat) (sz ld se : Int32) (σ : fd_S) (post : Option fd_V → fd_S → Prop) (hf : f + dp = 16) (h : askd σ k0 sz ld se) (h1 : post (some (.inl (2 + (an_w k0 sz ld se f k0 0).1 / 100))) (TRs σ (52 :: (an_w k0 sz ld se f k0 0).2))) : fd_Sem (d + 3 * f + 6) 10 [.inr (.inr (.inl (some 3))), .inl 52, .inl (nI 6), .inl (nI 5), .inl (nI dp)] σ post := by
  obtain ⟨h20, r30, hk, h33, h34, h35, h36, tl, htl, h31⟩ := id h
  intro X hX hV
  repeat (first | refine hX _ _ _ _ _ _ ?_ | refine Exists.intro _ (And.intro (by first | rfl | assumption) (And.intro (by first | assumption | exact fd_lt20 h20 (by decide)) (And.intro (by first | rfl | assumption) ?_))))
  refine ok_leave _ _ _ _ h ?_
  have hs1 := askd_TR (b := 52) h
  obtain ⟨h20, r30, -, h33, h34, h35, h36, -⟩ := id hs1
  repeat refine hX _ _ _ _ _ _ ?_
  refine Or.inl (Exists.intro 51 (Exists.intro _ (And.intro rfl (And.intro (by decide) ?_))))
  repeat (first | refine hX _ _ _ _ _ _ ?_ | refine Exists.intro _ (And.intro (by first | rfl | assumption) (And.intro (by first | assumption | exact fd_lt20 h20 (by decide)) (And.intro (by first | rfl | assumption) ?_))))
  refine ok_own hP d dp 0 k0 sz ld se _ _ hf (by decide) hs1 ?_
  have hs2 := askd_TRs (l := (an_w k0 sz ld se f k0 0).2) hs1
  obtain ⟨h20, r30, -, h33, h34, h35, h36, -⟩ := id hs2
  repeat (first | refine hX _ _ _ _ _ _ ?_ | refine Exists.intro _ (And.intro (by first | rfl | assumption) (And.intro (by first | assumption | exact fd_lt20 h20 (by decide)) (And.intro (by first | rfl | assumption) ?_))))
  refine And.intro (by decide) ?_
  repeat (first | refine hX _ _ _ _ _ _ ?_ | refine Exists.intro _ (And.intro (by first | rfl | assumption) (And.intro (by first | assumption | exact fd_lt20 h20 (by decide)) (And.intro (by first | rfl | assumption) ?_))))
  exact h1
set_option maxRecDepth 100000 in
theorem ok_byBody_0 {f : Nat} (hP : an_P f) (d dp k0 : Nat) (sz ld se : Int32) (σ : fd_S) (post : Option fd_V → fd_S → Prop) (hf : f + dp = 16) (h : askd σ k0 sz ld se) : ∀ (t : Nat), t < 7 → fd_sa 1 (7 * 0 + t) ≠ 0 → (∀ r, r = an_b sz ld se (an_w k0 sz ld se f (an_par t) 0) (fun v => an_w k0 sz ld se f k0 v) (fd_sa 1 (7 * 0 + t)).toNatClampNeg → post (some (.inl r.1)) (TRs σ r.2)) → fd_Sem (d + 3 * f + 6) 10 [.inr (.inr (.inl (some 3))), .inl (fd_sa 1 (7 * 0 + t)), .inl (nI t), .inl (nI 0), .inl (nI dp)] σ post
  | 0, _, _, h1 => ok_by_1_0 hP d dp k0 sz ld se σ post hf h (h1 _ rfl)
  | 1, _, hb0, _ => absurd rfl hb0
  | 2, _, _, h1 => ok_by_2_2 hP d dp k0 sz ld se σ post hf h (h1 _ rfl)
  | 3, _, hb0, _ => absurd rfl hb0
  | 4, _, _, h1 => ok_by_3_4 hP d dp k0 sz ld se σ post hf h (h1 _ rfl)
  | 5, _, hb0, _ => absurd rfl hb0
  | 6, _, _, h1 => ok_by_4_6 hP d dp k0 sz ld se σ post hf h (h1 _ rfl)
  | t + 7, ht, _, _ => absurd ht (by omega)
set_option maxRecDepth 100000 in
theorem ok_byBody_1 {f : Nat} (hP : an_P f) (d dp k0 : Nat) (sz ld se : Int32) (σ : fd_S) (post : Option fd_V → fd_S → Prop) (hf : f + dp = 16) (h : askd σ k0 sz ld se) : ∀ (t : Nat), t < 7 → fd_sa 1 (7 * 1 + t) ≠ 0 → (∀ r, r = an_b sz ld se (an_w k0 sz ld se f (an_par t) 1) (fun v => an_w k0 sz ld se f k0 v) (fd_sa 1 (7 * 1 + t)).toNatClampNeg → post (some (.inl r.1)) (TRs σ r.2)) → fd_Sem (d + 3 * f + 6) 10 [.inr (.inr (.inl (some 3))), .inl (fd_sa 1 (7 * 1 + t)), .inl (nI t), .inl (nI 1), .inl (nI dp)] σ post
  | 0, _, _, h1 => ok_by_11_0 hP d dp k0 sz ld se σ post hf h (h1 _ rfl)
  | 1, _, _, h1 => ok_by_12_1 hP d dp k0 sz ld se σ post hf h (h1 _ rfl)
  | 2, _, hb0, _ => absurd rfl hb0
  | 3, _, _, h1 => ok_by_13_3 hP d dp k0 sz ld se σ post hf h (h1 _ rfl)
  | 4, _, hb0, _ => absurd rfl hb0
  | 5, _, hb0, _ => absurd rfl hb0
  | 6, _, _, h1 => ok_by_14_6 hP d dp k0 sz ld se σ post hf h (h1 _ rfl)
  | t + 7, ht, _, _ => absurd ht (by omega)
set_option maxRecDepth 100000 in
theorem ok_byBody_2 {f : Nat} (hP : an_P f) (d dp k0 : Nat) (sz ld se : Int32) (σ : fd_S) (post : Option fd_V → fd_S → Prop) (hf : f + dp = 16) (h : askd σ k0 sz ld se) : ∀ (t : Nat), t < 7 → fd_sa 1 (7 * 2 + t) ≠ 0 → (∀ r, r = an_b sz ld se (an_w k0 sz ld se f (an_par t) 2) (fun v => an_w k0 sz ld se f k0 v) (fd_sa 1 (7 * 2 + t)).toNatClampNeg → post (some (.inl r.1)) (TRs σ r.2)) → fd_Sem (d + 3 * f + 6) 10 [.inr (.inr (.inl (some 3))), .inl (fd_sa 1 (7 * 2 + t)), .inl (nI t), .inl (nI 2), .inl (nI dp)] σ post
  | 0, _, _, h1 => ok_by_21_0 hP d dp k0 sz ld se σ post hf h (h1 _ rfl)
  | 1, _, hb0, _ => absurd rfl hb0
  | 2, _, hb0, _ => absurd rfl hb0
  | 3, _, hb0, _ => absurd rfl hb0
  | 4, _, _, h1 => ok_by_22_4 hP d dp k0 sz ld se σ post hf h (h1 _ rfl)
  | 5, _, hb0, _ => absurd rfl hb0
  | 6, _, hb0, _ => absurd rfl hb0
  | t + 7, ht, _, _ => absurd ht (by omega)
set_option maxRecDepth 100000 in
theorem ok_byBody_3 {f : Nat} (hP : an_P f) (d dp k0 : Nat) (sz ld se : Int32) (σ : fd_S) (post : Option fd_V → fd_S → Prop) (hf : f + dp = 16) (h : askd σ k0 sz ld se) : ∀ (t : Nat), t < 7 → fd_sa 1 (7 * 3 + t) ≠ 0 → (∀ r, r = an_b sz ld se (an_w k0 sz ld se f (an_par t) 3) (fun v => an_w k0 sz ld se f k0 v) (fd_sa 1 (7 * 3 + t)).toNatClampNeg → post (some (.inl r.1)) (TRs σ r.2)) → fd_Sem (d + 3 * f + 6) 10 [.inr (.inr (.inl (some 3))), .inl (fd_sa 1 (7 * 3 + t)), .inl (nI t), .inl (nI 3), .inl (nI dp)] σ post
  | 0, _, _, h1 => ok_by_31_0 hP d dp k0 sz ld se σ post hf h (h1 _ rfl)
  | 1, _, _, h1 => ok_by_32_1 hP d dp k0 sz ld se σ post hf h (h1 _ rfl)
  | 2, _, hb0, _ => absurd rfl hb0
  | 3, _, _, h1 => ok_by_33_3 hP d dp k0 sz ld se σ post hf h (h1 _ rfl)
  | 4, _, _, h1 => ok_by_34_4 hP d dp k0 sz ld se σ post hf h (h1 _ rfl)
  | 5, _, hb0, _ => absurd rfl hb0
  | 6, _, _, h1 => ok_by_35_6 hP d dp k0 sz ld se σ post hf h (h1 _ rfl)
  | t + 7, ht, _, _ => absurd ht (by omega)
set_option maxRecDepth 100000 in
theorem ok_byBody_4 {f : Nat} (hP : an_P f) (d dp k0 : Nat) (sz ld se : Int32) (σ : fd_S) (post : Option fd_V → fd_S → Prop) (hf : f + dp = 16) (h : askd σ k0 sz ld se) : ∀ (t : Nat), t < 7 → fd_sa 1 (7 * 4 + t) ≠ 0 → (∀ r, r = an_b sz ld se (an_w k0 sz ld se f (an_par t) 4) (fun v => an_w k0 sz ld se f k0 v) (fd_sa 1 (7 * 4 + t)).toNatClampNeg → post (some (.inl r.1)) (TRs σ r.2)) → fd_Sem (d + 3 * f + 6) 10 [.inr (.inr (.inl (some 3))), .inl (fd_sa 1 (7 * 4 + t)), .inl (nI t), .inl (nI 4), .inl (nI dp)] σ post
  | 0, _, hb0, _ => absurd rfl hb0
  | 1, _, hb0, _ => absurd rfl hb0
  | 2, _, _, h1 => ok_by_41_2 hP d dp k0 sz ld se σ post hf h (h1 _ rfl)
  | 3, _, _, h1 => ok_by_42_3 hP d dp k0 sz ld se σ post hf h (h1 _ rfl)
  | 4, _, hb0, _ => absurd rfl hb0
  | 5, _, hb0, _ => absurd rfl hb0
  | 6, _, _, h1 => ok_by_41_6 hP d dp k0 sz ld se σ post hf h (h1 _ rfl)
  | t + 7, ht, _, _ => absurd ht (by omega)
set_option maxRecDepth 100000 in
theorem ok_byBody_5 {f : Nat} (hP : an_P f) (d dp k0 : Nat) (sz ld se : Int32) (σ : fd_S) (post : Option fd_V → fd_S → Prop) (hf : f + dp = 16) (h : askd σ k0 sz ld se) : ∀ (t : Nat), t < 7 → fd_sa 1 (7 * 5 + t) ≠ 0 → (∀ r, r = an_b sz ld se (an_w k0 sz ld se f (an_par t) 5) (fun v => an_w k0 sz ld se f k0 v) (fd_sa 1 (7 * 5 + t)).toNatClampNeg → post (some (.inl r.1)) (TRs σ r.2)) → fd_Sem (d + 3 * f + 6) 10 [.inr (.inr (.inl (some 3))), .inl (fd_sa 1 (7 * 5 + t)), .inl (nI t), .inl (nI 5), .inl (nI dp)] σ post
  | 0, _, hb0, _ => absurd rfl hb0
  | 1, _, hb0, _ => absurd rfl hb0
  | 2, _, hb0, _ => absurd rfl hb0
  | 3, _, _, h1 => ok_by_51_3 hP d dp k0 sz ld se σ post hf h (h1 _ rfl)
  | 4, _, hb0, _ => absurd rfl hb0
  | 5, _, _, h1 => ok_by_51_5 hP d dp k0 sz ld se σ post hf h (h1 _ rfl)
  | 6, _, _, h1 => ok_by_52_6 hP d dp k0 sz ld se σ post hf h (h1 _ rfl)
  | t + 7, ht, _, _ => absurd ht (by omega)
theorem ok_byBody {f : Nat} (hP : an_P f) (d dp k0 : Nat) (sz ld se : Int32) (σ : fd_S) (post : Option fd_V → fd_S → Prop) (hf : f + dp = 16) (h : askd σ k0 sz ld se) : ∀ (w : Nat), w < 6 → ∀ (t : Nat), t < 7 → fd_sa 1 (7 * w + t) ≠ 0 → (∀ r, r = an_b sz ld se (an_w k0 sz ld se f (an_par t) w) (fun v => an_w k0 sz ld se f k0 v) (fd_sa 1 (7 * w + t)).toNatClampNeg → post (some (.inl r.1)) (TRs σ r.2)) → fd_Sem (d + 3 * f + 6) 10 [.inr (.inr (.inl (some 3))), .inl (fd_sa 1 (7 * w + t)), .inl (nI t), .inl (nI w), .inl (nI dp)] σ post
  | 0, _ => ok_byBody_0 hP d dp k0 sz ld se σ post hf h
  | 1, _ => ok_byBody_1 hP d dp k0 sz ld se σ post hf h
  | 2, _ => ok_byBody_2 hP d dp k0 sz ld se σ post hf h
  | 3, _ => ok_byBody_3 hP d dp k0 sz ld se σ post hf h
  | 4, _ => ok_byBody_4 hP d dp k0 sz ld se σ post hf h
  | 5, _ => ok_byBody_5 hP d dp k0 sz ld se σ post hf h
  | w + 6, hw => absurd hw (by omega)
theorem an_P0 : an_P 0 := by
  intro d dp k w k0 sz ld se σ post hf hk hw h h1
  have : dp = 16 := by omega
  subst this
  intro X hX hV
  repeat refine hX _ _ _ _ _ _ ?_
  refine ok_tellerOf _ k w _ _ hk hw ?_
  repeat refine hX _ _ _ _ _ _ ?_
  refine And.intro (fun hc => ?_) (fun hc => ?_) <;> try dsimp only [fd_icmp] at hc
  · repeat refine hX _ _ _ _ _ _ ?_
    exact h1
  · repeat refine hX _ _ _ _ _ _ ?_
    refine And.intro (fun hc => absurd (show nI 16 < nI 16 from hc) (nI_nlt (Nat.le_refl 16) (by decide))) (fun hc => ?_)
    repeat refine hX _ _ _ _ _ _ ?_
    exact h1
theorem an_PS (f : Nat) (hP : an_P f) : an_P (f + 1) := by
  intro d dp k w k0 sz ld se σ post hf hk hw h h1
  obtain ⟨h20, r30, hk0, h33, h34, h35, h36, tl, htl, h31⟩ := id h
  intro X hX hV
  repeat refine hX _ _ _ _ _ _ ?_
  refine ok_tellerOf _ k w _ _ hk hw ?_
  obtain ⟨o, ho⟩ : ∃ o, an_tel k w = o := ⟨_, rfl⟩
  unfold an_w at h1
  rw [ho] at h1 ⊢
  cases o with
  | none =>
    repeat refine hX _ _ _ _ _ _ ?_
    refine And.intro (fun hc => ?_) (fun hc => absurd (show (-1 : Int32) = -1 from rfl) hc)
    repeat refine hX _ _ _ _ _ _ ?_
    exact h1
  | some t =>
    obtain ⟨ht, hb0⟩ := an_telB w hw k hk t ho
    dsimp only at h1
    repeat refine hX _ _ _ _ _ _ ?_
    refine And.intro (fun hc => ?_) (fun hc => ?_)
    · have hc : nI t = -1 := hc
      have := congrArg Int32.toInt hc
      rw [nI_toInt (by omega)] at this
      have h9 : (-1 : Int32).toInt = -1 := by decide
      rw [h9] at this
      omega
    · repeat refine hX _ _ _ _ _ _ ?_
      refine And.intro (fun hc => ?_) (fun hc => ?_)
      · repeat refine hX _ _ _ _ _ _ ?_
        refine ok_bodyOf _ t w _ _ ht hw ?_
        refine hX _ _ _ _ _ _ ?_
        refine hX _ _ _ _ _ _ ?_
        refine hX _ _ _ _ _ _ ?_
        refine hX _ _ _ _ _ _ ?_
        refine hX _ _ _ _ _ _ ?_
        refine hX _ _ _ _ _ _ ?_
        refine Exists.intro _ (And.intro (by first | rfl | assumption) (And.intro (by first | assumption | exact fd_lt20 h20 (by decide)) (And.intro (by first | rfl | assumption) ?_)))
        rw [show ((fun x y => x + y) (nI dp) 1 : Int32) = nI (dp + 1) from nI_1 dp]
        have hf1 : f + (dp + 1) = 16 := by omega
        refine ok_byBody hP d (dp + 1) k0 sz ld se σ _ hf1 h w hw t ht hb0 (fun r hr => ?_)
        subst hr
        refine hX _ _ _ _ _ _ ?_
        exact h1
      · have h2 : ¬ nI dp < nI 16 := hc
        rw [nI_ltI (by omega) (by omega)] at h2
        omega
theorem an_all : ∀ f, an_P f
  | 0 => an_P0
  | f + 1 => an_PS f (an_all f)
