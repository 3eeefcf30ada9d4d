/-- Vehicle's own beginning -/
def vi_s (σ : fd_S) (a : Nat) (x k s l : Int32) : fd_S := (σ.1, fun i j => if i = a then (if j = 0 then x else if j = 1 then k else if j = 2 then s else if j = 3 then l else if j = 4 ∨ j = 5 ∨ j = 6 ∨ j = 9 ∨ j = 13 then 0 else if j = 7 ∨ j = 8 then -3 else if j = 10 ∨ j = 11 then -1 else σ.2.1 a j) else σ.2.1 i j, fun i j => if i = a ∧ j = 12 then none else σ.2.2.1 i j, σ.2.2.2)
set_option maxHeartbeats 1000000 in
theorem ok_vinit (d a : Nat) (x k s l : Int32) (σ : fd_S) (post : Option fd_V → fd_S → Prop) (hv : a < σ.1) (hs : fd_sh a = .inl 2) (h1 : post none (vi_s σ a x k s l)) : fd_Sem (d + 1) 19 [.inr (.inr (.inl (some a))), .inl x, .inl k, .inl s, .inl l] σ post := by
  intro X hX hV
  refine hX _ _ _ _ _ _ ?_
  refine hX _ _ _ _ _ _ ?_
  refine Exists.intro _ (And.intro rfl ?_)
  repeat (first | refine hX _ _ _ _ _ _ ?_ | refine Exists.intro _ (And.intro (by first | rfl | assumption) (And.intro (by first | assumption | exact fd_lt20 h20 (by decide)) (And.intro (by first | rfl | assumption) ?_))))
  refine cast (congrArg (post none) ?_) h1
  refine Prod.ext rfl (Prod.ext (funext fun i => funext fun j => ?_) (Prod.ext (funext fun i => funext fun j => ?_) rfl))
  · clear hX hV h1
    simp only [vi_s, fd_si, fd_sr, fd_u]
    by_cases h : i = a
    · subst h; simp only [if_true]; grind (splits := 20)
    · simp only [h, if_false]
  · simp only [vi_s, fd_si, fd_sr, fd_u]; grind
theorem okL_c {N : Nat} {q : Nat × fd_V} {r : fd_L} (h : fd_ok1 N q.2) (h2 : fd_okL N r) : fd_okL N (q :: r) := List.forall_mem_cons.mpr ⟨h, h2⟩
theorem okL_n {N : Nat} : fd_okL N [] := fun _ h => by cases h
theorem okV_c {N : Nat} {q : fd_V} {r : List fd_V} (h : fd_ok1 N q) (h2 : fd_okV N r) : fd_okV N (q :: r) := List.forall_mem_cons.mpr ⟨h, h2⟩
theorem okV_n {N : Nat} : fd_okV N [] := fun _ h => by cases h
theorem ok_r {N a : Nat} (h : a < N) : fd_ok1 N (.inr (.inr (.inl (some a)))) := fun _ e => by cases e; exact h
def Vok (k s l : Int32) : Prop := (0 ≤ k ∧ k ≤ 6) ∧ (10 ≤ s ∧ s ≤ 200) ∧ (0 ≤ l ∧ l ≤ 40000)
/-- a vehicle more, cell v -/
def VN (σ : fd_S) (n k : Nat) (s l : Int32) (τ : fd_S) : Prop := τ.1 = σ.1 + 1 ∧ τ.2.2.1 = (fun i j => if i = σ.1 then none else if i = 1 ∧ j = n then some σ.1 else σ.2.2.1 i j) ∧ (∀ i j, i ≠ σ.1 → τ.2.2.2 i j = σ.2.2.2 i j) ∧ (∀ i j, i ≠ σ.1 → ¬ (i = 0 ∧ j = 1) → ¬ JC i j → τ.2.1 i j = σ.2.1 i j) ∧ τ.2.1 0 1 = nI (n + 1) ∧ τ.2.1 σ.1 0 = nI n ∧ τ.2.1 σ.1 1 = nI k ∧ τ.2.1 σ.1 2 = s ∧ τ.2.1 σ.1 3 = l ∧ τ.2.1 σ.1 4 = (an_w k s l 0 16 k 0).1 ∧ τ.2.1 σ.1 5 = (an_w k s l 0 16 k 1).1 ∧ τ.2.1 σ.1 6 = (an_w k s l 0 16 k 2).1 ∧ τ.2.1 σ.1 7 = (an_w k s l 0 16 k 4).1 ∧ τ.2.1 σ.1 8 = (an_w k s l 0 16 k 5).1 ∧ τ.2.1 σ.1 9 = 0 ∧ τ.2.1 σ.1 10 = -1 ∧ τ.2.1 σ.1 11 = -1 ∧ τ.2.1 σ.1 13 = 0
set_option maxHeartbeats 1000000 in
theorem c_vehicle (d n : Nat) (x s l : Int32) (σ : fd_S) (post : Option fd_V → fd_S → Prop) (hB : fd_B σ n) (hN : σ.1 = 20 + n) (hclo : fd_clo σ) (tl : Nat) (htl : tl ≤ 10) (h31 : σ.2.1 3 1 = nI tl) (h32 : σ.2.1 3 2 = 0) (h0 : ¬ Vok x s l → post (some (.inl (-2))) σ) (h4 : Vok x s l → n = 60 → post (some (.inl (-4))) σ) (h1 : ∀ k, k < 7 → x = nI k → Vok x s l → n < 60 → ∀ τ, VN σ n k s l τ → post (some (.inl (nI n))) τ) : fd_Sem (d + 62) 24 [.inr (.inr (.inl (some 0))), .inl x, .inl s, .inl l] σ post := by
  obtain ⟨h20, hN', hn, hc, r0, r2, r3, r30, hva, hla⟩ := id hB
  intro X hX hV
  have bad : ¬ Vok x s l → X ((fd_code 24).drop 15) [(0, .inr (.inr (.inl (some 0)))), (1, .inl x), (2, .inl s), (3, .inl l)] [] σ 0 0 := by
    intro hb
    repeat refine hX _ _ _ _ _ _ ?_
    exact h0 hb
  repeat refine hX _ _ _ _ _ _ ?_
  refine ok_within _ _ _ _ _ _ (fun ha hb => ?_) (fun ha => ?_)
  · repeat refine hX _ _ _ _ _ _ ?_
    refine And.intro (fun hc => absurd (show (1 : Int32) = 0 from hc) (by decide)) (fun _ => ?_)
    repeat refine hX _ _ _ _ _ _ ?_
    refine ok_within _ _ _ _ _ _ (fun ha2 hb2 => ?_) (fun ha2 => ?_)
    · repeat refine hX _ _ _ _ _ _ ?_
      refine And.intro (fun hc => absurd (show (1 : Int32) = 0 from hc) (by decide)) (fun _ => ?_)
      repeat refine hX _ _ _ _ _ _ ?_
      refine ok_within _ _ _ _ _ _ (fun ha3 hb3 => ?_) (fun ha3 => ?_)
      · have hok : Vok x s l := ⟨⟨ha, hb⟩, ⟨ha2, hb2⟩, ⟨ha3, hb3⟩⟩
        repeat refine hX _ _ _ _ _ _ ?_
        refine And.intro (fun _ => ?_) (fun hc => absurd (show (1 : Int32) = 0 from hc) (by decide))
        repeat (first | refine hX _ _ _ _ _ _ ?_ | refine Exists.intro _ (And.intro (by first | rfl | assumption) (And.intro (by first | assumption | exact fd_lt20 h20 (by decide)) (And.intro (by first | rfl | assumption) ?_))))
        rw [hc]
        refine And.intro (fun hc => ?_) (fun hc => ?_) <;> try dsimp only [fd_icmp] at hc
        · have hlt : n < 60 := by
            have h2 : nI n < nI 60 := hc
            rw [nI_ltI (by omega) (by omega)] at h2
            exact h2
          refine hX _ _ _ _ _ _ ?_
          refine And.intro (by rw [hN]; exact fd_shV n) (And.intro ⟨by decide, by decide, okL_c (ok_r (by omega)) (okL_c trivial (okL_c trivial (okL_c trivial okL_n))), okV_n, hclo⟩ ?_)
          have hsv : fd_sh σ.1 = .inl 2 := by rw [hN]; exact fd_shV n
          have hρ0 : ∀ i j, i ≠ σ.1 → (fd_alloc σ).2.1 i j = σ.2.1 i j := fun i j h => if_neg h
          have hρ1 : ∀ i j, (fd_alloc σ).2.2.1 i j = if i = σ.1 then none else σ.2.2.1 i j := fun i j => rfl
          have hρ2 : ∀ i j, i ≠ σ.1 → (fd_alloc σ).2.2.2 i j = σ.2.2.2 i j := fun i j h => if_neg h
          have hρ3 : (fd_alloc σ).1 = σ.1 + 1 := rfl
          generalize fd_alloc σ = ρ at *
          have h20 : 20 ≤ ρ.1 := by omega
          have hv : σ.1 < ρ.1 := by omega
          repeat (first | refine hX _ _ _ _ _ _ ?_ | refine Exists.intro _ (And.intro (by first | rfl | assumption) (And.intro (by first | assumption | exact fd_lt20 h20 (by decide)) (And.intro (by first | rfl | assumption) ?_))))
          refine Exists.intro _ (And.intro rfl ?_)
          have e01 : ρ.2.1 0 1 = nI n := by rw [hρ0 0 1 (by omega)]; assumption
          rw [e01]
          obtain ⟨k, hk, rfl⟩ : ∃ k, k < 7 ∧ x = nI k := ix_of (n := 7) (by decide) ha hb
          refine ok_vinit _ _ _ _ _ _ _ _ hv hsv ?_
          have w0 : ∀ i j, (vi_s ρ σ.1 (nI n) (nI k) s l).2.1 i j = if i = σ.1 then (if j = 0 then nI n else if j = 1 then nI k else if j = 2 then s else if j = 3 then l else if j = 4 ∨ j = 5 ∨ j = 6 ∨ j = 9 ∨ j = 13 then 0 else if j = 7 ∨ j = 8 then -3 else if j = 10 ∨ j = 11 then -1 else ρ.2.1 σ.1 j) else σ.2.1 i j := by
            intro i j
            simp only [vi_s]
            have := hρ0 i j
            grind
          have w1 : ∀ i j, (vi_s ρ σ.1 (nI n) (nI k) s l).2.2.1 i j = if i = σ.1 then none else σ.2.2.1 i j := by
            intro i j
            simp only [vi_s]
            have := hρ1 i j
            grind
          have w2 : (vi_s ρ σ.1 (nI n) (nI k) s l).2.2.2 = ρ.2.2.2 := rfl
          have w3 : (vi_s ρ σ.1 (nI n) (nI k) s l).1 = ρ.1 := rfl
          generalize vi_s ρ σ.1 (nI n) (nI k) s l = π at *
          have h20 : 20 ≤ π.1 := by omega
          have hv : σ.1 < π.1 := by omega
          repeat (first | refine hX _ _ _ _ _ _ ?_ | refine Exists.intro _ (And.intro (by first | rfl | assumption) (And.intro (by first | assumption | exact fd_lt20 h20 (by decide)) (And.intro (by first | rfl | assumption) ?_))))
          have g3 : ∀ j, π.2.1 3 j = σ.2.1 3 j := fun j => by rw [w0, if_neg (by omega)]
          refine ok_measure d σ.1 k s l π _ h20 (by rw [w1, if_neg (by omega)]; assumption) (by rw [w1, if_neg (by omega)]; assumption) tl htl (by rw [g3]; assumption) (by rw [g3]; assumption) hv hsv hk (by rw [w0]; simp) (by rw [w0]; simp) (by rw [w0]; simp) (fun τ hτ q4 q5 q6 q7 q8 => ?_)
          obtain ⟨t1, t2, t3, t4⟩ := id hτ
          have h20 : 20 ≤ τ.1 := by omega
          have hv : σ.1 < τ.1 := by omega
          have r0' : τ.2.2.1 0 0 = some 1 := by rw [t2, w1, if_neg (by omega)]; assumption
          have c1' : τ.2.1 0 1 = nI n := by rw [t4 0 1 (fun q => by rcases q with q | q <;> omega), w0, if_neg (by omega)]; assumption
          repeat (first | refine hX _ _ _ _ _ _ ?_ | refine Exists.intro _ (And.intro (by first | rfl | assumption) (And.intro (by first | assumption | exact fd_lt20 h20 (by decide)) (And.intro (by first | rfl | assumption) ?_))))
          have e : (τ.2.1 0 1).toNatClampNeg = n := by rw [c1']; exact nI_clamp (by omega)
          refine Exists.intro 1 (Exists.intro 60 (Exists.intro 2 (Exists.intro σ.1 (And.intro r0' (And.intro (by omega) (And.intro rfl (And.intro (by rw [c1']; exact vp_in_nI hlt (by decide)) (And.intro rfl (And.intro hv (And.intro hsv ?_))))))))))
          rw [e]
          repeat (first | refine hX _ _ _ _ _ _ ?_ | refine Exists.intro _ (And.intro (by first | rfl | assumption) (And.intro (by first | assumption | exact fd_lt20 h20 (by decide)) (And.intro (by first | rfl | assumption) ?_))))
          have u0 : ∀ i j, i ≠ σ.1 → ¬ (i = 0 ∧ j = 1) → ¬ JC i j → (fd_si (fd_sr τ 1 n (some σ.1)) 0 1 (τ.2.1 0 1 + 1)).2.1 i j = σ.2.1 i j := by
            intro i j a1 a2 a3
            show fd_u τ.2.1 0 1 _ i j = _
            have b1 := t4 i j (fun q => by rcases q with q | q; exact a3 q; exact a1 q.1)
            have b2 := w0 i j
            unfold fd_u
            grind
          have u1 : ∀ j, (fd_si (fd_sr τ 1 n (some σ.1)) 0 1 (τ.2.1 0 1 + 1)).2.1 σ.1 j = τ.2.1 σ.1 j := fun j => if_neg (by omega)
          have u2 : ∀ j, ¬ (4 ≤ j ∧ j ≤ 8) → τ.2.1 σ.1 j = π.2.1 σ.1 j := fun j hj => t4 σ.1 j (fun q => by rcases q with q | q <;> omega)
          suffices key : post (some (.inl ((fd_si (fd_sr τ 1 n (some σ.1)) 0 1 (τ.2.1 0 1 + 1)).2.1 σ.1 0))) (fd_si (fd_sr τ 1 n (some σ.1)) 0 1 (τ.2.1 0 1 + 1)) from key
          refine cast (congrArg (fun v => post (some (.inl v)) _) (?_ : nI n = _)) (h1 k hk rfl hok hlt _ ⟨?_, ?_, ?_, u0, ?_, ?_, ?_, ?_, ?_, ?_, ?_, ?_, ?_, ?_, ?_, ?_, ?_, ?_⟩)
          · rw [u1, u2 0 (by omega), w0]; simp
          · show τ.1 = _; omega
          · funext i j
            show fd_u τ.2.2.1 1 n (some σ.1) i j = _
            rw [t2]
            have := w1 i j
            unfold fd_u
            grind
          · intro i j hi
            show τ.2.2.2 i j = _
            rw [t3, w2, hρ2 i j hi]
          · show fd_u τ.2.1 0 1 _ 0 1 = _
            rw [fd_u_eq, c1']; exact nI_1 n
          · rw [u1, u2 0 (by omega), w0]; simp
          · rw [u1, u2 1 (by omega), w0]; simp
          · rw [u1, u2 2 (by omega), w0]; simp
          · rw [u1, u2 3 (by omega), w0]; simp
          · rw [u1]; exact q4
          · rw [u1]; exact q5
          · rw [u1]; exact q6
          · rw [u1]; exact q7
          · rw [u1]; exact q8
          · rw [u1, u2 9 (by omega), w0]; simp
          · rw [u1, u2 10 (by omega), w0]; simp
          · rw [u1, u2 11 (by omega), w0]; simp
          · rw [u1, u2 13 (by omega), w0]; simp
        · have h60 : n = 60 := by
            have h2 : ¬ nI n < nI 60 := hc
            rw [nI_ltI (by omega) (by omega)] at h2
            omega
          repeat refine hX _ _ _ _ _ _ ?_
          exact h4 hok h60
      · repeat refine hX _ _ _ _ _ _ ?_
        refine And.intro (fun hc => absurd (show (0 : Int32) = 0 from rfl) hc) (fun _ => ?_)
        exact bad (fun q => ha3 q.2.2)
    · repeat refine hX _ _ _ _ _ _ ?_
      refine And.intro (fun _ => ?_) (fun hc => absurd (show (0 : Int32) = 0 from rfl) hc)
      exact bad (fun q => ha2 q.2.1)
  · repeat refine hX _ _ _ _ _ _ ?_
    refine And.intro (fun _ => ?_) (fun hc => absurd (show (0 : Int32) = 0 from rfl) hc)
    exact bad (fun q => ha q.1)

def mv_s (σ : fd_S) (n : Nat) (k s l : Int32) : fd_S := fd_si (fd_si (fd_si (fd_si (fd_si (fd_si σ 10 n k) 11 n s) 12 n l) 13 n 0) 14 n 0) 9 0 (nI (n + 1))
theorem m_vehicle (d n : Nat) (x s l : Int32) (σ : fd_S) (post : Option fd_V → fd_S → Prop) (hB : Mb σ) (hn : n ≤ 60) (h90 : σ.2.1 9 0 = nI n) (h0 : ¬ Vok x s l → post (some (.inl (-2))) σ) (h4 : Vok x s l → n = 60 → post (some (.inl (-4))) σ) (h1 : Vok x s l → n < 60 → post (some (.inl (nI n))) (mv_s σ n x s l)) : fd_Sem (d + 2) 51 [.inr (.inr (.inl (some 9))), .inl x, .inl s, .inl l] σ post := by
  obtain ⟨h20, r1, r2, r3, r4, r5, r6, r7, r8, r9, r13⟩ := id hB
  intro X hX hV
  have bad : ¬ Vok x s l → X ((fd_code 51).drop 15) [(0, .inr (.inr (.inl (some 9)))), (1, .inl x), (2, .inl s), (3, .inl l)] [] σ 0 0 := by
    intro hb
    repeat refine hX _ _ _ _ _ _ ?_
    exact h0 hb
  repeat refine hX _ _ _ _ _ _ ?_
  refine ok_in _ _ _ _ _ _ (fun ha hb => ?_) (fun ha => ?_)
  · repeat refine hX _ _ _ _ _ _ ?_
    refine And.intro (fun hc => absurd (show (1 : Int32) = 0 from hc) (by decide)) (fun _ => ?_)
    repeat refine hX _ _ _ _ _ _ ?_
    refine ok_in _ _ _ _ _ _ (fun ha2 hb2 => ?_) (fun ha2 => ?_)
    · repeat refine hX _ _ _ _ _ _ ?_
      refine And.intro (fun hc => absurd (show (1 : Int32) = 0 from hc) (by decide)) (fun _ => ?_)
      repeat refine hX _ _ _ _ _ _ ?_
      refine ok_in _ _ _ _ _ _ (fun ha3 hb3 => ?_) (fun ha3 => ?_)
      · have hok : Vok x s l := ⟨⟨ha, hb⟩, ⟨ha2, hb2⟩, ⟨ha3, hb3⟩⟩
        repeat refine hX _ _ _ _ _ _ ?_
        refine And.intro (fun _ => ?_) (fun hc => absurd (show (1 : Int32) = 0 from hc) (by decide))
        repeat (first | refine hX _ _ _ _ _ _ ?_ | refine Exists.intro _ (And.intro (by first | rfl | assumption) (And.intro (by first | assumption | exact fd_lt20 h20 (by decide)) (And.intro (by first | rfl | assumption) ?_))))
        rw [h90]
        refine And.intro (fun hc => ?_) (fun hc => ?_) <;> try dsimp only [fd_icmp] at hc
        · have hlt : n < 60 := by
            have h2 : ¬ nI n = nI 60 := hc
            rw [nI_eq (by omega) (by omega)] at h2
            omega
          repeat (first | refine hX _ _ _ _ _ _ ?_ | refine Exists.intro _ (And.intro (by first | rfl | assumption) (And.intro (by first | assumption | exact fd_lt20 h20 (by decide)) (And.intro (by first | rfl | assumption) ?_))))
          refine ia_st (τ := σ) h20 (n := 60) r1 (by decide) rfl h90 hlt (by decide) ?_
          repeat (first | refine hX _ _ _ _ _ _ ?_ | refine Exists.intro _ (And.intro (by first | rfl | assumption) (And.intro (by first | assumption | exact fd_lt20 h20 (by decide)) (And.intro (by first | rfl | assumption) ?_))))
          refine ia_st (τ := (fd_si σ 10 n x)) h20 (n := 60) r2 (by decide) rfl h90 hlt (by decide) ?_
          repeat (first | refine hX _ _ _ _ _ _ ?_ | refine Exists.intro _ (And.intro (by first | rfl | assumption) (And.intro (by first | assumption | exact fd_lt20 h20 (by decide)) (And.intro (by first | rfl | assumption) ?_))))
          refine ia_st (τ := (fd_si (fd_si σ 10 n x) 11 n s)) h20 (n := 60) r3 (by decide) rfl h90 hlt (by decide) ?_
          repeat (first | refine hX _ _ _ _ _ _ ?_ | refine Exists.intro _ (And.intro (by first | rfl | assumption) (And.intro (by first | assumption | exact fd_lt20 h20 (by decide)) (And.intro (by first | rfl | assumption) ?_))))
          refine ia_st (τ := (fd_si (fd_si (fd_si σ 10 n x) 11 n s) 12 n l)) h20 (n := 60) r4 (by decide) rfl h90 hlt (by decide) ?_
          repeat (first | refine hX _ _ _ _ _ _ ?_ | refine Exists.intro _ (And.intro (by first | rfl | assumption) (And.intro (by first | assumption | exact fd_lt20 h20 (by decide)) (And.intro (by first | rfl | assumption) ?_))))
          refine ia_st (τ := (fd_si (fd_si (fd_si (fd_si σ 10 n x) 11 n s) 12 n l) 13 n 0)) h20 (n := 60) r5 (by decide) rfl h90 hlt (by decide) ?_
          repeat (first | refine hX _ _ _ _ _ _ ?_ | refine Exists.intro _ (And.intro (by first | rfl | assumption) (And.intro (by first | assumption | exact fd_lt20 h20 (by decide)) (And.intro (by first | rfl | assumption) ?_))))
          have e1 : σ.2.1 9 0 + 1 = nI (n + 1) := by rw [h90]; exact nI_1 n
          refine cast ?_ (h1 hok hlt)
          have e2 : ∀ y, y = nI (n + 1) → post (some (.inl (nI n))) (mv_s σ n x s l) = post (some (.inl (y - 1))) (fd_si (fd_si (fd_si (fd_si (fd_si (fd_si σ 10 n x) 11 n s) 12 n l) 13 n 0) 14 n 0) 9 0 y) := by
            intro y hy
            subst hy
            rw [nI_pred]
            rfl
          exact e2 _ e1
        · have h60 : n = 60 := by
            have h2 : nI n = nI 60 := hc
            rw [nI_eq (by omega) (by omega)] at h2
            exact h2
          repeat refine hX _ _ _ _ _ _ ?_
          exact h4 hok h60
      · repeat refine hX _ _ _ _ _ _ ?_
        refine And.intro (fun hc => absurd (show (0 : Int32) = 0 from rfl) hc) (fun _ => ?_)
        exact bad (fun q => ha3 q.2.2)
    · repeat refine hX _ _ _ _ _ _ ?_
      refine And.intro (fun _ => ?_) (fun hc => absurd (show (0 : Int32) = 0 from rfl) hc)
      exact bad (fun q => ha2 q.2.1)
  · repeat refine hX _ _ _ _ _ _ ?_
    refine And.intro (fun _ => ?_) (fun hc => absurd (show (0 : Int32) = 0 from rfl) hc)
    exact bad (fun q => ha q.1)
