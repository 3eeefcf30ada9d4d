/-! THE PAIRS: what the class answers, the model answers after it, and the coupling holds again -/
def Cs (σ : fd_S) : Prop := σ.2.1 3 2 = 0 ∧ σ.2.1 0 4 = σ.2.1 9 10 ∧ σ.2.1 0 5 = σ.2.1 9 11 ∧ σ.2.2.2 0 6 = σ.2.2.2 9 12 ∧ ∃ t, t ≤ 10 ∧ σ.2.1 3 1 = nI t ∧ σ.2.1 9 14 = nI t ∧ ∀ j, j < t → σ.2.1 4 j = σ.2.1 19 j
def Cp (σ : fd_S) (n : Nat) : Prop := Core σ n ∧ Cs σ
abbrev rf (a : Nat) : fd_V := .inr (.inr (.inl (some a)))
def Pair (kc km : Nat) (as : List fd_V) : Prop := ∀ σ n, Cp σ n → ∀ post : Option fd_V → fd_S → Prop, (∀ (v : Int32) (τ : fd_S), 20 ≤ τ.1 → (∀ post' : Option fd_V → fd_S → Prop, (∀ τ' n', Cp τ' n' → post' (some (.inl v)) τ') → fd_Sem 100 km (rf 9 :: as) τ post') → post (some (.inl v)) τ) → fd_Sem 100 kc (rf 0 :: as) σ post
section
variable {σ : fd_S} {n : Nat}
theorem Cp.B (h : Cp σ n) : fd_B σ n := h.1.1.1
theorem Cp.M (h : Cp σ n) : Mb σ := h.1.1.2.1
theorem Cp.h20 (h : Cp σ n) : 20 ≤ σ.1 := h.1.1.1.1
theorem Cp.h90 (h : Cp σ n) : σ.2.1 9 0 = nI n := h.1.1.2.2.2.1
theorem Cp.n60 (h : Cp σ n) : n ≤ 60 := h.1.n60
end
theorem Cs_c {σ τ : fd_S} (h1 : ∀ i j, (i = 0 ∧ (j = 4 ∨ j = 5)) ∨ (i = 3 ∧ (j = 1 ∨ j = 2)) ∨ i = 4 ∨ (i = 9 ∧ 10 ≤ j) ∨ i = 19 → τ.2.1 i j = σ.2.1 i j) (h2 : τ.2.2.2 0 6 = τ.2.2.2 9 12) (h : Cs σ) : Cs τ := by
  obtain ⟨a1, a2, a3, a4, t, b1, b2, b3, b4⟩ := h
  refine ⟨?_, ?_, ?_, h2, t, b1, ?_, ?_, fun j hj => ?_⟩
  · rw [h1 3 2 (by omega)]; exact a1
  · rw [h1 0 4 (by omega), h1 9 10 (by omega)]; exact a2
  · rw [h1 0 5 (by omega), h1 9 11 (by omega)]; exact a3
  · rw [h1 3 1 (by omega)]; exact b2
  · rw [h1 9 14 (by omega)]; exact b3
  · rw [h1 4 j (by omega), h1 19 j (by omega)]; exact b4 j hj
theorem p_season (x : Int32) : Pair 28 65 [.inl x] := by
  intro σ n h post k
  have h20 := h.h20
  refine c_season 98 x σ _ h20 (fun a1 a2 => ?_) (fun a => ?_)
  · refine k _ _ h20 (fun post' k' => ?_)
    refine m_season 98 x _ _ h20 (fun _ _ => ?_) (fun q => absurd ⟨a1, a2⟩ q)
    obtain ⟨s1, s2, s3, s4, t, b1, b2, b3, b4⟩ := h.2
    have e : (fd_si σ 0 4 x).2.1 9 10 = σ.2.1 0 4 := by rw [si_ne (by decide), s2]
    rw [e]
    refine k' _ n ⟨Core_c (σ := σ) rfl rfl (fun i j hj => ?_) h.1, ?_, ?_, ?_, s4, t, b1, ?_, ?_, fun j hj => ?_⟩
    · rw [si_at, si_at, if_neg (fun q => hj (by unfold J0; omega)), if_neg (fun q => hj (by unfold J0; omega))]
    · rw [si_ne (by decide), si_ne (by decide)]; exact s1
    · rw [si_ne (by decide), si_eq, si_eq]
    · rw [si_ne (by decide), si_ne2 (by decide), si_ne2 (by decide), si_ne (by decide)]; exact s3
    · rw [si_ne (by decide), si_ne (by decide)]; exact b2
    · rw [si_ne2 (by decide), si_ne (by decide)]; exact b3
    · rw [si_ne (by decide), si_ne (by decide), si_ne (by decide), si_ne (by decide)]; exact b4 j hj
  · refine k _ _ h20 (fun post' k' => ?_)
    exact m_season 98 x _ _ h20 (fun q1 q2 => absurd ⟨q1, q2⟩ a) (fun _ => k' _ n h)
theorem p_back (x : Int32) : Pair 32 72 [.inl x] := by
  intro σ n h post k
  have h20 := h.h20
  have hn := h.n60
  refine c_back 97 n x σ _ h.B (fun a => ?_) (fun i hi hx hw => ?_) (fun i hi hx hw => ?_)
  · refine k _ _ h20 (fun post' k' => ?_)
    exact m_back 97 n x σ _ h.M hn h.h90 (fun _ => k' _ n h) (fun i hi hx => absurd hx (a i hi)) (fun i hi hx => absurd hx (a i hi))
  · refine k _ _ h20 (fun post' k' => ?_)
    have e := (h.1.2.2.1 i hi).1
    have e13 : σ.2.1 13 i = 2 := by rw [← e]; exact hw
    refine m_back 97 n x _ _ h.M hn ?_ (fun a => absurd hx (a i hi)) (fun i' hi' hx' _ => ?_) (fun i' hi' hx' q => ?_)
    · rw [si_ne (by omega)]; exact h.h90
    · have ei : i' = i := (nI_eq (by omega) (by omega)).mp (hx'.symm.trans hx)
      subst ei
      refine k' _ n ⟨Core_back h.1 hi e13, Cs_c (σ := σ) (fun a j q => ?_) h.2.2.2.2.1 h.2⟩
      rw [si_at, si_at, if_neg (by omega), if_neg (by omega)]
    · have ei : i' = i := (nI_eq (by omega) (by omega)).mp (hx'.symm.trans hx)
      subst ei
      rw [si_ne (by omega)] at q
      exact absurd e13 q
  · refine k _ _ h20 (fun post' k' => ?_)
    have e := (h.1.2.2.1 i hi).1
    refine m_back 97 n x σ _ h.M hn h.h90 (fun a => absurd hx (a i hi)) (fun i' hi' hx' q => ?_) (fun _ _ _ _ => k' _ n h)
    have ei : i' = i := (nI_eq (by omega) (by omega)).mp (hx'.symm.trans hx)
    subst ei
    exact absurd (e.trans q) hw
theorem p_lane (x y z : Int32) : Pair 27 64 [.inl x, .inl y, .inl z] := by
  intro σ n h post k
  have h20 := h.h20
  refine c_lane 97 n x y z σ _ h.B (fun a => ?_) (fun l hl hx q1 q2 q3 q4 q5 => ?_) (fun l hl hx q1 q2 q3 q4 q5 => ?_)
  · refine k _ _ h20 (fun post' k' => ?_)
    exact m_lane 97 x y z σ _ h.M (fun _ => k' _ n h) (fun l hl hx q1 q2 q3 q4 _ => absurd ⟨⟨l, hl, hx⟩, ⟨q1, q2⟩, ⟨q3, q4⟩⟩ a) (fun l hl hx q1 q2 q3 q4 _ => absurd ⟨⟨l, hl, hx⟩, ⟨q1, q2⟩, ⟨q3, q4⟩⟩ a)
  · have cl := h.1.2.2.2.2 l hl
    have m0 : mm σ l = 0 := by
      rw [cl.2.2.1] at q5
      have : nI (mm σ l) ≤ nI 0 := q5
      rw [nI_leI (by have := cl.1; omega) (by decide)] at this
      omega
    have e17 : σ.2.1 17 l = 0 := by rw [cl.2.1, m0]; exact nI_0
    refine k _ _ h20 (fun post' k' => ?_)
    have e17' : ∀ j, (fd_si (fd_si σ (5 + l) 1 y) (5 + l) 2 z).2.1 17 j = σ.2.1 17 j := fun j => by rw [si_ne (by omega), si_ne (by omega)]
    refine m_lane 97 x y z _ _ h.M (fun a => absurd ⟨⟨l, hl, hx⟩, ⟨q1, q2⟩, ⟨q3, q4⟩⟩ a) (fun l' hl' hx' _ _ _ _ _ => ?_) (fun l' hl' hx' _ _ _ _ q => ?_)
    · have ei : l' = l := (nI_eq (by omega) (by omega)).mp (hx'.symm.trans hx)
      subst ei
      refine k' _ n ⟨Core_lane h.1 hl m0 q3 q4, Cs_c (σ := σ) (fun a j q => ?_) h.2.2.2.2.1 h.2⟩
      rw [si_at, si_at, si_at, si_at, if_neg (by omega), if_neg (by omega), if_neg (by omega), if_neg (by omega)]
    · have ei : l' = l := (nI_eq (by omega) (by omega)).mp (hx'.symm.trans hx)
      subst ei
      rw [e17', e17] at q
      exact absurd (Int32.le_refl 0) q
  · have cl := h.1.2.2.2.2 l hl
    refine k _ _ h20 (fun post' k' => ?_)
    refine m_lane 97 x y z _ _ h.M (fun a => absurd ⟨⟨l, hl, hx⟩, ⟨q1, q2⟩, ⟨q3, q4⟩⟩ a) (fun l' hl' hx' _ _ _ _ q => ?_) (fun _ _ _ _ _ _ _ _ => k' _ n h)
    have ei : l' = l := (nI_eq (by omega) (by omega)).mp (hx'.symm.trans hx)
    subst ei
    rw [cl.2.1, ← cl.2.2.1] at q
    exact absurd q q5
theorem p_trace (x : Int32) : Pair 26 62 [.inl x] := by
  intro σ n h post k
  have h20 := h.h20
  obtain ⟨s1, s2, s3, s4, t, b1, b2, b3, b4⟩ := h.2
  obtain ⟨_, _, _, _, r0, r2, r3, r30, _⟩ := h.B
  refine c_trace 97 x σ _ h20 r3 r30 t b1 b2 (fun i hi hx => ?_) (fun a => ?_)
  · refine k _ _ h20 (fun post' k' => ?_)
    refine m_trace 97 x σ _ h.M t b1 b3 (fun i' hi' hx' => ?_) (fun a => absurd hx (a i hi))
    have ei : i' = i := (nI_eq (by omega) (by omega)).mp (hx'.symm.trans hx)
    subst ei
    rw [← b4 i' hi]
    exact k' _ n h
  · refine k _ _ h20 (fun post' k' => ?_)
    exact m_trace 97 x σ _ h.M t b1 b3 (fun i' hi' hx' => absurd hx' (a i' hi')) (fun _ => k' _ n h)
theorem cn_mcn {σ : fd_S} {v : Int32} : ∀ {n : Nat}, (∀ i, i < n → σ.2.1 (20 + i) 9 = σ.2.1 13 i) → cn σ v n = mcn σ v n
  | 0, _ => rfl
  | n + 1, h => by
    have ih := cn_mcn (σ := σ) (v := v) (n := n) (fun i hi => h i (by omega))
    simp only [cn, mcn]
    rw [h n (Nat.lt_succ_self n), ih]
    by_cases q : σ.2.1 13 n = v
    · rw [if_pos q, if_pos q]
    · rw [if_neg q, if_neg q]; grind
theorem p_count (x : Int32) : Pair 35 77 [.inl x] := by
  intro σ n h post k
  have h20 := h.h20
  have hn := h.n60
  obtain ⟨s1, s2, s3, s4, t, b1, b2, b3, b4⟩ := h.2
  have hc : ∀ v, cn σ v n = mcn σ v n := fun v => cn_mcn (fun i hi => (h.1.2.2.1 i hi).1)
  have key : ∀ j, j ≤ 5 → ccv σ n j = mcv σ n j := by
    intro j hj
    match j, hj with
    | 0, _ => exact h.B.2.2.2.1.trans h.h90.symm
    | 1, _ => exact hc 0
    | 2, _ => exact hc 1
    | 3, _ => exact hc 2
    | 4, _ => exact s3
    | 5, _ => exact s2
  refine c_count 96 n x σ _ h.B (fun a => ?_) (fun j hj hx => ?_)
  · refine k _ _ h20 (fun post' k' => ?_)
    refine m_count 98 n x σ _ h.M hn h.h90 (fun _ => k' _ n h) (fun j hj hx => ?_)
    exact absurd ⟨by rw [hx]; exact nI_pos' (by omega), by rw [hx]; exact nI_le hj (by decide)⟩ (ts_out (N := 5) (by decide) a)
  · refine k _ _ h20 (fun post' k' => ?_)
    refine m_count 98 n x σ _ h.M hn h.h90 (fun a => absurd ⟨by rw [hx]; exact nI_pos' (by omega), by rw [hx]; exact nI_le hj (by decide)⟩ a) (fun j' hj' hx' => ?_)
    have ei : j' = j := (nI_eq (by omega) (by omega)).mp (hx'.symm.trans hx)
    subst ei
    rw [← key j' hj]
    exact k' _ n h
theorem p_till (σ : fd_S) (n : Nat) (h : Cp σ n) (post : Option fd_V → fd_S → Prop) (k : ∀ (v : Int64), (∀ post' : Option fd_V → fd_S → Prop, post' (some (.inr (.inl v))) σ → fd_Sem 100 78 [rf 9] σ post') → post (some (.inr (.inl v))) σ) : fd_Sem 100 36 [rf 0] σ post := by
  have h20 := h.h20
  refine c_till 99 σ _ h20 (k _ (fun post' k' => ?_))
  refine m_till 99 σ _ h20 ?_
  rw [← h.2.2.2.2.1]
  exact k'
