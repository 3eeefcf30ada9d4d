/-! sailing: the lanes empty themselves one by one; beside it the model's rows, as they would go along -/
def CE (σ ρ : fd_S) : Prop := ρ.1 = σ.1 ∧ ρ.2.2.1 = σ.2.2.1 ∧ ∀ i j, i < 9 ∨ 20 ≤ i → ρ.2.1 i j = σ.2.1 i j
def Fr (σ τ : fd_S) : Prop := τ.1 = σ.1 ∧ τ.2.2.2 = σ.2.2.2 ∧ ∀ i j, i < 5 ∨ (9 ≤ i ∧ i < 20) → τ.2.1 i j = σ.2.1 i j ∧ τ.2.2.1 i j = σ.2.2.1 i j
theorem Fr.rf (σ : fd_S) : Fr σ σ := ⟨rfl, rfl, fun _ _ _ => ⟨rfl, rfl⟩⟩
theorem Fr.trans {σ τ ρ : fd_S} (h1 : Fr σ τ) (h2 : Fr τ ρ) : Fr σ ρ := ⟨h2.1.trans h1.1, h2.2.1.trans h1.2.1, fun i j h => ⟨((h2.2.2 i j h).1).trans (h1.2.2 i j h).1, ((h2.2.2 i j h).2).trans (h1.2.2 i j h).2⟩⟩
theorem rl_fr {σ : fd_S} {l b : Nat} {z : Int32} (hl : l < 4) (hb : 20 ≤ b) : Fr σ (rl_s σ (5 + l) b z) := by
  refine ⟨rfl, rfl, fun i j h => ⟨?_, ?_⟩⟩
  · show (if i = b then _ else if i = 5 + l then _ else σ.2.1 i j) = _
    rw [if_neg (by omega), if_neg (by omega)]
  · show (if i = b then _ else if i = 5 + l then _ else σ.2.2.1 i j) = _
    rw [if_neg (by omega), if_neg (by omega)]
theorem rl_out {σ : fd_S} {l b : Nat} {z : Int32} {i j : Nat} (h1 : i ≠ b) (h2 : i ≠ 5 + l) : (rl_s σ (5 + l) b z).2.1 i j = σ.2.1 i j := by
  show (if i = b then _ else if i = 5 + l then _ else σ.2.1 i j) = _
  rw [if_neg h1, if_neg h2]
theorem ce_pop {σ ρ : fd_S} {l : Nat} (h : CE σ ρ) (hl : l < 4) : CE (rl_s σ (5 + l) (20 + sv ρ l (mm ρ l - 1)) 2) (pop ρ l 2) := by
  obtain ⟨h1, h2, h3⟩ := h
  unfold pop
  generalize sv ρ l (mm ρ l - 1) = i0
  have e2 : (rl_s ρ (5 + l) (20 + i0) 2).2.2.1 = (rl_s σ (5 + l) (20 + i0) 2).2.2.1 := by unfold rl_s; rw [h2]
  refine ⟨h1, e2, fun i j hi => ?_⟩
  rw [si_ne (by omega), si_ne (by omega)]
  unfold rl_s
  simp only [h3 i j hi, h3 (5 + l) _ (Or.inl (by omega)), h3 (20 + i0) _ (Or.inr (by omega))]
section
variable {ρ : fd_S} {l : Nat} {z : Int32}
theorem pop_row (hl : l < 4) {a j : Nat} (h1 : 9 ≤ a) (h2 : a < 20) (h3 : a ≠ 13) (h4 : a ≠ 17) : (pop ρ l z).2.1 a j = ρ.2.1 a j := by
  unfold pop
  rw [si_ne h3, si_ne h4, rl_out (by omega) (by omega)]
theorem pop_17 (hl : l < 4) {j : Nat} (h : j ≠ l) : (pop ρ l z).2.1 17 j = ρ.2.1 17 j := by
  unfold pop
  rw [si_ne (by decide), si_ne2 h, rl_out (by omega) (by omega)]
theorem pop_17l (hm : mm ρ l ≤ 60) : mm (pop ρ l z) l = mm ρ l - 1 := by
  show ((pop ρ l z).2.1 17 l).toNatClampNeg = _
  have : (pop ρ l z).2.1 17 l = nI (mm ρ l - 1) := by
    unfold pop
    rw [si_ne (by decide), si_eq]
  rw [this]
  exact nI_clamp (by omega)
theorem pop_13 (hl : l < 4) {j : Nat} (h : j ≠ sv ρ l (mm ρ l - 1)) : (pop ρ l z).2.1 13 j = ρ.2.1 13 j := by
  unfold pop
  rw [si_ne2 h, si_ne (by decide), rl_out (by omega) (by omega)]
theorem pop_13l : (pop ρ l z).2.1 13 (sv ρ l (mm ρ l - 1)) = z := by
  unfold pop
  exact si_eq
end
def pops : Nat → fd_S → Nat → fd_S
  | 0, ρ, _ => ρ
  | m + 1, ρ, l => pops m (pop ρ l 2) l
theorem pops_ok {n l : Nat} (hl : l < 4) : ∀ (m : Nat) (σ ρ : fd_S), CE σ ρ → Core ρ n → mm ρ l = m → Ln m σ (5 + l) ∧ Fr σ (sa_s m σ (5 + l)) ∧ CE (sa_s m σ (5 + l)) (pops m ρ l) ∧ Core (pops m ρ l) n ∧ mm (pops m ρ l) l = 0 ∧ (∀ a j, 9 ≤ a → a < 20 → a ≠ 13 → a ≠ 17 → (pops m ρ l).2.1 a j = ρ.2.1 a j) ∧ (∀ j, j ≠ l → (pops m ρ l).2.1 17 j = ρ.2.1 17 j) ∧ ∀ i, ((∃ k, k < m ∧ sv ρ l k = i) → (pops m ρ l).2.1 13 i = 2) ∧ ((¬ ∃ k, k < m ∧ sv ρ l k = i) → (pops m ρ l).2.1 13 i = ρ.2.1 13 i)
  | 0, σ, ρ, hce, hc, hm => ⟨trivial, Fr.rf σ, hce, hc, hm, fun _ _ _ _ _ _ => rfl, fun _ _ => rfl, fun i => ⟨fun ⟨k, hk, _⟩ => absurd hk (Nat.not_lt_zero k), fun _ => rfl⟩⟩
  | m + 1, σ, ρ, hce, hc, hm => by
    have cl := hc.2.2.2.2 l hl
    have cs := hc.2.2.2.1 l m hl (by omega)
    have hi0 := cs.2.1
    have hN := hc.N
    have r8 : σ.2.2.1 (5 + l) 8 = some (20 + sv ρ l m) := by
      rw [← hce.2.1, cl.2.2.2.2.2.2.2.2.2.1, hm, if_neg (Nat.succ_ne_zero m)]
      rfl
    have em : mm ρ l - 1 = m := by omega
    have hce2 := ce_pop hce hl
    rw [em] at hce2
    have hm2 : mm (pop ρ l 2) l = m := by rw [pop_17l cl.1]; exact em
    have ih := pops_ok hl m (rl_s σ (5 + l) (20 + sv ρ l m) 2) (pop ρ l 2) hce2 (Core_pop hc hl (by omega) (by decide)) hm2
    obtain ⟨j1, j2, j3, j4, j5, j6, j7, j8⟩ := ih
    have esa : sa_s (m + 1) σ (5 + l) = sa_s m (rl_s σ (5 + l) (20 + sv ρ l m) 2) (5 + l) := by
      show sa_s m (rl_s σ (5 + l) ((σ.2.2.1 (5 + l) 8).getD 0) 2) (5 + l) = _
      rw [r8]
      rfl
    have esv : ∀ k, sv (pop ρ l 2) l k = sv ρ l k := fun k => sv_c (pop_row hl (by decide) (by decide) (by decide) (by decide))
    rw [esa]
    refine ⟨⟨_, r8, by rw [← hce.1, hN]; omega, fd_shV _, j1⟩, (rl_fr hl (by omega)).trans j2, j3, j4, j5, fun a j c1 c2 c3 c4 => (j6 a j c1 c2 c3 c4).trans (pop_row hl c1 c2 c3 c4), fun j hj => (j7 j hj).trans (pop_17 hl hj), fun i => ⟨fun ⟨k, hk, e⟩ => ?_, fun hno => ?_⟩⟩
    · by_cases q : ∃ k, k < m ∧ sv (pop ρ l 2) l k = i
      · exact (j8 i).1 q
      · have hkm : k = m := by
          by_cases z : k = m
          · exact z
          · exact absurd ⟨k, by omega, by rw [esv]; exact e⟩ q
        subst hkm
        show (pops k (pop ρ l 2) l).2.1 13 i = 2
        rw [(j8 i).2 q, ← e, ← em, em]
        have := pop_13l (ρ := ρ) (l := l) (z := 2)
        rw [em] at this
        exact this
    · have q : ¬ ∃ k, k < m ∧ sv (pop ρ l 2) l k = i := fun ⟨k, hk, e⟩ => hno ⟨k, by omega, by rw [← esv]; exact e⟩
      show (pops m (pop ρ l 2) l).2.1 13 i = _
      rw [(j8 i).2 q]
      refine pop_13 hl (fun e => hno ⟨m, Nat.lt_succ_self m, ?_⟩)
      rw [em] at e
      exact e.symm
def Pq (m : Nat → Nat) (σ : fd_S) : Nat → fd_S
  | 0 => σ
  | l + 1 => pops (m l) (Pq m σ l) l
theorem Pq_ok {σ : fd_S} {n : Nat} (hc : Core σ n) : ∀ l, l ≤ 4 → CE (Sq (mm σ) σ l) (Pq (mm σ) σ l) ∧ Core (Pq (mm σ) σ l) n ∧ Fr σ (Sq (mm σ) σ l) ∧ (∀ a j, 9 ≤ a → a < 20 → a ≠ 13 → a ≠ 17 → (Pq (mm σ) σ l).2.1 a j = σ.2.1 a j) ∧ (∀ l', l ≤ l' → (Pq (mm σ) σ l).2.1 17 l' = σ.2.1 17 l') ∧ (∀ l', l' < l → (Pq (mm σ) σ l).2.1 17 l' = 0) ∧ (∀ i, ((∃ l' k, l' < l ∧ k < mm σ l' ∧ sv σ l' k = i) → (Pq (mm σ) σ l).2.1 13 i = 2) ∧ ((¬ ∃ l' k, l' < l ∧ k < mm σ l' ∧ sv σ l' k = i) → (Pq (mm σ) σ l).2.1 13 i = σ.2.1 13 i)) ∧ ∀ l', l' < l → Ln (mm σ l') (Sq (mm σ) σ l') (5 + l') ∧ (Sq (mm σ) σ l').2.1 (5 + l') 6 = nI (mm σ l')
  | 0, _ => ⟨⟨rfl, rfl, fun _ _ _ => rfl⟩, hc, Fr.rf σ, fun _ _ _ _ _ _ => rfl, fun _ _ => rfl, fun l' h => absurd h (Nat.not_lt_zero l'), fun i => ⟨fun ⟨l', k, h, _⟩ => absurd h (Nat.not_lt_zero l'), fun _ => rfl⟩, fun l' h => absurd h (Nat.not_lt_zero l')⟩
  | l + 1, hl => by
    obtain ⟨i1, i2, i3, i4, i5, i6, i7, i8⟩ := Pq_ok hc l (by omega)
    have hml : mm (Pq (mm σ) σ l) l = mm σ l := mm_c (i5 l (Nat.le_refl l))
    obtain ⟨j1, j2, j3, j4, j5, j6, j7, j8⟩ := pops_ok (show l < 4 by omega) (mm σ l) (Sq (mm σ) σ l) (Pq (mm σ) σ l) i1 i2 hml
    have esv : ∀ k, sv (Pq (mm σ) σ l) l k = sv σ l k := fun k => sv_c (i4 18 _ (by decide) (by decide) (by decide) (by decide))
    have e6 : (Sq (mm σ) σ l).2.1 (5 + l) 6 = nI (mm σ l) := by
      rw [← i1.2.2 (5 + l) 6 (Or.inl (by omega))]
      have := (i2.2.2.2.2 l (by omega)).2.2.1
      rw [hml] at this
      exact this
    refine ⟨j3, j4, i3.trans j2, fun a j c1 c2 c3 c4 => (j6 a j c1 c2 c3 c4).trans (i4 a j c1 c2 c3 c4), fun l' h' => (j7 l' (by omega)).trans (i5 l' (by omega)), fun l' h' => ?_, fun i => ⟨fun ⟨l', k, h1, h2, h3⟩ => ?_, fun hno => ?_⟩, fun l' h' => ?_⟩
    · by_cases q : l' = l
      · subst q
        have := (j4.2.2.2.2 l' (by omega)).2.1
        rw [j5] at this
        exact this.trans nI_0
      · exact (j7 l' q).trans (i6 l' (by omega))
    · by_cases q : l' = l
      · subst q
        exact (j8 i).1 ⟨k, h2, by rw [esv]; exact h3⟩
      · have e2 := (i7 i).1 ⟨l', k, by omega, h2, h3⟩
        by_cases z : ∃ k, k < mm σ l ∧ sv (Pq (mm σ) σ l) l k = i
        · exact (j8 i).1 z
        · exact ((j8 i).2 z).trans e2
    · have z : ¬ ∃ k, k < mm σ l ∧ sv (Pq (mm σ) σ l) l k = i := fun ⟨k, h1, h2⟩ => hno ⟨l, k, Nat.lt_succ_self l, h1, by rw [← esv]; exact h2⟩
      exact ((j8 i).2 z).trans ((i7 i).2 (fun ⟨l', k, h1, h2⟩ => hno ⟨l', k, by omega, h2⟩))
    · by_cases q : l' = l
      · subst q
        exact ⟨j1, e6⟩
      · exact i8 l' (by omega)
theorem cn_N {σ : fd_S} {v : Int32} : ∀ n, n ≤ 60 → ∃ c, c ≤ n ∧ cn σ v n = nI c ∧ (c = 0 ↔ ∀ i, i < n → σ.2.1 (20 + i) 9 ≠ v)
  | 0, _ => ⟨0, Nat.le_refl 0, nI_0.symm, ⟨fun _ i hi => absurd hi (Nat.not_lt_zero i), fun _ => rfl⟩⟩
  | n + 1, hn => by
    obtain ⟨c, h1, h2, h3⟩ := cn_N (σ := σ) (v := v) n (by omega)
    by_cases q : σ.2.1 (20 + n) 9 = v
    · refine ⟨c + 1, by omega, ?_, ⟨fun e => by omega, fun e => absurd q (e n (Nat.lt_succ_self n))⟩⟩
      simp only [cn]
      rw [if_pos q, h2]
      exact nI_1 c
    · refine ⟨c, by omega, ?_, ⟨fun e i hi => ?_, fun e => h3.mpr (fun i hi => e i (by omega))⟩⟩
      · simp only [cn]
        rw [if_neg q, h2]
      · by_cases z : i = n
        · subst z; exact q
        · exact h3.mp e i (by omega)
/-- how far apart, by one way or the other -/
theorem apart_c {a b c d : Int32} (ha : 0 ≤ a ∧ a ≤ 200000) (hb : 0 ≤ b ∧ b ≤ 200000) (hc : 0 ≤ c ∧ c ≤ 200000) (hd : 0 ≤ d ∧ d ≤ 200000) : 30000 < aabs (0 + a + b + -c + -d) ↔ (30000 < a + b - c - d ∨ a + b - c - d < -30000) := by
  obtain ⟨A, hA, rfl⟩ := nI_of2 (M := 200000) (n := 200000) (by decide) (i32_nlt.mpr ha.1) ha.2
  obtain ⟨B, hB, rfl⟩ := nI_of2 (M := 200000) (n := 200000) (by decide) (i32_nlt.mpr hb.1) hb.2
  obtain ⟨C, hC, rfl⟩ := nI_of2 (M := 200000) (n := 200000) (by decide) (i32_nlt.mpr hc.1) hc.2
  obtain ⟨D, hD, rfl⟩ := nI_of2 (M := 200000) (n := 200000) (by decide) (i32_nlt.mpr hd.1) hd.2
  have e1 : 0 + nI A + nI B + -nI C + -nI D = (nI A + nI B) - (nI C + nI D) := by grind
  have e2 : nI A + nI B - nI C - nI D = (nI A + nI B) - (nI C + nI D) := by grind
  rw [e1, e2, nI_add, nI_add]
  have e3 : (0 : Int32) - (nI (A + B) - nI (C + D)) = nI (C + D) - nI (A + B) := by grind
  have t1 := pk_sub_toInt (a := A + B) (b := C + D) (by omega) (by omega)
  have t2 := pk_sub_toInt (a := C + D) (b := A + B) (by omega) (by omega)
  have c1 : (30000 : Int32).toInt = 30000 := by decide
  have c2 : (-30000 : Int32).toInt = -30000 := by decide
  have c3 : (0 : Int32).toInt = 0 := by decide
  unfold aabs
  by_cases q : (0 : Int32) ≤ nI (A + B) - nI (C + D)
  · rw [if_pos q]
    simp only [Int32.lt_iff_toInt_lt, Int32.le_iff_toInt_le, t1, c1, c2, c3] at q ⊢
    omega
  · rw [if_neg q, e3]
    simp only [Int32.lt_iff_toInt_lt, Int32.le_iff_toInt_le, t1, t2, c1, c2, c3] at q ⊢
    omega
