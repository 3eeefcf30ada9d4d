/-! THE COUPLING: the deck's cells against the model's -/
def mm (σ : fd_S) (l : Nat) : Nat := (σ.2.1 17 l).toNatClampNeg
def CB (σ : fd_S) (n : Nat) : Prop := fd_B σ n ∧ Mb σ ∧ σ.1 = 20 + n ∧ σ.2.1 9 0 = nI n ∧ fd_clo σ
/-- what a vehicle is -/
def CV (σ : fd_S) (i : Nat) : Prop := kd σ i < 7 ∧ σ.2.1 10 i = nI (kd σ i) ∧ (10 ≤ σ.2.1 11 i ∧ σ.2.1 11 i ≤ 200) ∧ (0 ≤ σ.2.1 12 i ∧ σ.2.1 12 i ≤ 40000) ∧ σ.2.1 (20 + i) 0 = nI i ∧ σ.2.1 (20 + i) 1 = σ.2.1 10 i ∧ σ.2.1 (20 + i) 2 = σ.2.1 11 i ∧ σ.2.1 (20 + i) 3 = σ.2.1 12 i ∧ σ.2.1 (20 + i) 4 = qv σ 0 0 i ∧ σ.2.1 (20 + i) 5 = qv σ 1 0 i ∧ σ.2.1 (20 + i) 6 = qv σ 2 0 i ∧ σ.2.1 (20 + i) 7 = qv σ 4 0 i ∧ σ.2.1 (20 + i) 8 = qv σ 5 0 i
/-- where it is -/
def CD (σ : fd_S) (i : Nat) : Prop := σ.2.1 (20 + i) 9 = σ.2.1 13 i ∧ σ.2.1 (20 + i) 13 = σ.2.1 14 i ∧ (σ.2.1 13 i = 1 → ∃ l k, l < 4 ∧ k < mm σ l ∧ sv σ l k = i) ∧ (σ.2.1 13 i ≠ 1 → σ.2.1 (20 + i) 10 = -1 ∧ σ.2.1 (20 + i) 11 = -1)
/-- who stands k-th in lane l -/
def CS (σ : fd_S) (n l k : Nat) : Prop := σ.2.1 18 (60 * l + k) = nI (sv σ l k) ∧ sv σ l k < n ∧ σ.2.1 13 (sv σ l k) = 1 ∧ σ.2.1 (20 + sv σ l k) 10 = nI l ∧ σ.2.1 (20 + sv σ l k) 11 = nI k ∧ σ.2.2.1 (20 + sv σ l k) 12 = if k = 0 then none else some (20 + sv σ l (k - 1))
/-- a lane -/
def CL (σ : fd_S) (l : Nat) : Prop := mm σ l ≤ 60 ∧ σ.2.1 17 l = nI (mm σ l) ∧ σ.2.1 (5 + l) 6 = nI (mm σ l) ∧ σ.2.1 (5 + l) 0 = nI l ∧ σ.2.1 (5 + l) 1 = σ.2.1 15 l ∧ σ.2.1 (5 + l) 2 = σ.2.1 16 l ∧ σ.2.1 15 l - σ.2.1 (5 + l) 3 = sL σ l (mm σ l) ∧ σ.2.1 (5 + l) 4 = sM σ l (mm σ l) ∧ σ.2.1 (5 + l) 5 = sN σ l (mm σ l) ∧ (σ.2.2.1 (5 + l) 8 = if mm σ l = 0 then none else some (20 + sv σ l (mm σ l - 1))) ∧ (σ.2.2.1 (5 + l) 7 = if mm σ l = 0 then none else some (20 + sv σ l 0)) ∧ (∀ j, j ≠ 7 → j ≠ 8 → σ.2.2.1 (5 + l) j = none) ∧ (0 ≤ σ.2.1 16 l ∧ σ.2.1 16 l ≤ 200000) ∧ ∀ k, k ≤ mm σ l → 0 ≤ sM σ l k ∧ sM σ l k ≤ σ.2.1 16 l
def Core (σ : fd_S) (n : Nat) : Prop := CB σ n ∧ (∀ i, i < n → CV σ i) ∧ (∀ i, i < n → CD σ i) ∧ (∀ l k, l < 4 → k < mm σ l → CS σ n l k) ∧ ∀ l, l < 4 → CL σ l
/-- ints that the core does not look at -/
def J0 (i j : Nat) : Prop := (i = 0 ∧ (j = 4 ∨ j = 5)) ∨ (i = 9 ∧ 10 ≤ j) ∨ i = 3 ∨ i = 4 ∨ i = 19
section
variable {σ τ : fd_S}
theorem kd_c {i : Nat} (h : τ.2.1 10 i = σ.2.1 10 i) : kd τ i = kd σ i := by unfold kd; rw [h]
theorem qv_c {i : Nat} (h : τ.2.1 10 i = σ.2.1 10 i) (h1 : τ.2.1 11 i = σ.2.1 11 i) (h2 : τ.2.1 12 i = σ.2.1 12 i) (w : Nat) (s : Int32) : qv τ w s i = qv σ w s i := by unfold qv; rw [kd_c h, h1, h2]
theorem sv_c {l k : Nat} (h : τ.2.1 18 (60 * l + k) = σ.2.1 18 (60 * l + k)) : sv τ l k = sv σ l k := by unfold sv; rw [h]
theorem mm_c {l : Nat} (h : τ.2.1 17 l = σ.2.1 17 l) : mm τ l = mm σ l := by unfold mm; rw [h]
/-- the same m vehicles stand there, and answer the same -/
def W3 (σ τ : fd_S) (l m : Nat) : Prop := ∀ k, k < m → sv τ l k = sv σ l k ∧ ∀ w, qv τ w 0 (sv σ l k) = qv σ w 0 (sv σ l k)
theorem W3.le {l m k : Nat} (h : W3 σ τ l m) (hk : k ≤ m) : W3 σ τ l k := fun j hj => h j (Nat.lt_of_lt_of_le hj hk)
theorem sL_c {l : Nat} (h : τ.2.1 15 l = σ.2.1 15 l) : ∀ {m : Nat}, W3 σ τ l m → sL τ l m = sL σ l m
  | 0, _ => h
  | m + 1, hw => by simp only [sL]; rw [sL_c h (hw.le (Nat.le_succ m)), (hw m (Nat.lt_succ_self m)).1, (hw m (Nat.lt_succ_self m)).2 0]
theorem sM_c {l : Nat} : ∀ {m : Nat}, W3 σ τ l m → sM τ l m = sM σ l m
  | 0, _ => rfl
  | m + 1, hw => by simp only [sM]; rw [sM_c (hw.le (Nat.le_succ m)), (hw m (Nat.lt_succ_self m)).1, (hw m (Nat.lt_succ_self m)).2 1]
theorem sN_c {l : Nat} : ∀ {m : Nat}, W3 σ τ l m → sN τ l m = sN σ l m
  | 0, _ => rfl
  | m + 1, hw => by simp only [sN]; rw [sN_c (hw.le (Nat.le_succ m)), (hw m (Nat.lt_succ_self m)).1, (hw m (Nat.lt_succ_self m)).2 2]
theorem CB_c {n : Nat} (h1 : τ.1 = σ.1) (h2 : τ.2.2.1 = σ.2.2.1) (h3 : τ.2.1 0 1 = σ.2.1 0 1) (h4 : τ.2.1 9 0 = σ.2.1 9 0) (h : CB σ n) : CB τ n := by
  unfold CB fd_B Mb fd_clo at *
  rw [h1, h2, h3, h4]
  exact h
theorem CV_c {i : Nat} (h0 : τ.2.1 10 i = σ.2.1 10 i) (h1 : τ.2.1 11 i = σ.2.1 11 i) (h2 : τ.2.1 12 i = σ.2.1 12 i) (h3 : ∀ j, j < 9 → τ.2.1 (20 + i) j = σ.2.1 (20 + i) j) (h : CV σ i) : CV τ i := by
  unfold CV at *
  simp only [qv_c h0 h1 h2, kd_c h0, h0, h1, h2, h3 0 (by decide), h3 1 (by decide), h3 2 (by decide), h3 3 (by decide), h3 4 (by decide), h3 5 (by decide), h3 6 (by decide), h3 7 (by decide), h3 8 (by decide)]
  exact h
theorem CD_c {i : Nat} (h9 : τ.2.1 (20 + i) 9 = σ.2.1 (20 + i) 9) (h10 : τ.2.1 (20 + i) 10 = σ.2.1 (20 + i) 10) (h11 : τ.2.1 (20 + i) 11 = σ.2.1 (20 + i) 11) (hp : τ.2.1 (20 + i) 13 = τ.2.1 14 i) (h13 : τ.2.1 13 i = σ.2.1 13 i) (hw : ∀ l k, l < 4 → k < mm σ l → sv σ l k = i → k < mm τ l ∧ sv τ l k = i) (h : CD σ i) : CD τ i := by
  refine ⟨by rw [h9, h13]; exact h.1, hp, fun q => ?_, fun q => ?_⟩
  · rw [h13] at q
    obtain ⟨l, k, a, b, c⟩ := h.2.2.1 q
    exact ⟨l, k, a, (hw l k a b c).1, (hw l k a b c).2⟩
  · rw [h13] at q
    rw [h10, h11]
    exact h.2.2.2 q
theorem CS_c {n n' l k : Nat} (h18 : ∀ j, j ≤ k → τ.2.1 18 (60 * l + j) = σ.2.1 18 (60 * l + j)) (h13 : τ.2.1 13 (sv σ l k) = σ.2.1 13 (sv σ l k)) (h10 : τ.2.1 (20 + sv σ l k) 10 = σ.2.1 (20 + sv σ l k) 10) (h11 : τ.2.1 (20 + sv σ l k) 11 = σ.2.1 (20 + sv σ l k) 11) (h12 : τ.2.2.1 (20 + sv σ l k) 12 = σ.2.2.1 (20 + sv σ l k) 12) (hn : n ≤ n') (h : CS σ n l k) : CS τ n' l k := by
  unfold CS at *
  rw [sv_c (h18 k (Nat.le_refl k)), sv_c (h18 (k - 1) (Nat.sub_le k 1)), h18 k (Nat.le_refl k), h13, h10, h11, h12]
  exact ⟨h.1, Nat.lt_of_lt_of_le h.2.1 hn, h.2.2⟩
theorem CL_c {l : Nat} (h15 : τ.2.1 15 l = σ.2.1 15 l) (h16 : τ.2.1 16 l = σ.2.1 16 l) (h17 : τ.2.1 17 l = σ.2.1 17 l) (hw : W3 σ τ l (mm σ l)) (h5 : ∀ j, τ.2.1 (5 + l) j = σ.2.1 (5 + l) j) (hr : ∀ j, τ.2.2.1 (5 + l) j = σ.2.2.1 (5 + l) j) (h : CL σ l) : CL τ l := by
  have e1 : mm σ l ≠ 0 → sv τ l (mm σ l - 1) = sv σ l (mm σ l - 1) := fun q => (hw _ (by omega)).1
  have e2 : mm σ l ≠ 0 → sv τ l 0 = sv σ l 0 := fun q => (hw _ (by omega)).1
  obtain ⟨a1, a2, a3, a4, a5, a6, a7, a8, a9, a10, a11, a12, a13, a14⟩ := h
  unfold CL
  rw [mm_c h17, h17, h15, h16, sL_c h15 hw, sM_c hw, sN_c hw]
  simp only [h5, hr]
  refine ⟨a1, a2, a3, a4, a5, a6, a7, a8, a9, ?_, ?_, a12, a13, fun k hk => ?_⟩
  · rw [a10]
    by_cases q : mm σ l = 0
    · rw [if_pos q, if_pos q]
    · rw [if_neg q, if_neg q, e1 q]
  · rw [a11]
    by_cases q : mm σ l = 0
    · rw [if_pos q, if_pos q]
    · rw [if_neg q, if_neg q, e2 q]
  · rw [sM_c (hw.le hk)]
    exact a14 k hk
theorem Core_p {n : Nat} (h1 : τ.1 = σ.1) (h2 : τ.2.2.1 = σ.2.2.1) (h3 : ∀ i j, ¬ J0 i j → i ≠ 14 → ¬ (20 ≤ i ∧ j = 13) → τ.2.1 i j = σ.2.1 i j) (hp : ∀ i, i < n → τ.2.1 (20 + i) 13 = τ.2.1 14 i) (h : Core σ n) : Core τ n := by
  have j1 : ∀ i j, 5 ≤ i → i < 9 → τ.2.1 i j = σ.2.1 i j := fun i j a b => h3 i j (fun q => by unfold J0 at q; omega) (by omega) (by omega)
  have j2 : ∀ i j, 10 ≤ i → i < 19 → i ≠ 14 → τ.2.1 i j = σ.2.1 i j := fun i j a b c => h3 i j (fun q => by unfold J0 at q; omega) c (by omega)
  have j3 : ∀ i j, 20 ≤ i → j ≠ 13 → τ.2.1 i j = σ.2.1 i j := fun i j a c => h3 i j (fun q => by unfold J0 at q; omega) (by omega) (by omega)
  have j10 := fun j => j2 10 j (by decide) (by decide) (by decide)
  have j11 := fun j => j2 11 j (by decide) (by decide) (by decide)
  have j12 := fun j => j2 12 j (by decide) (by decide) (by decide)
  have j13 := fun j => j2 13 j (by decide) (by decide) (by decide)
  have j15 := fun j => j2 15 j (by decide) (by decide) (by decide)
  have j16 := fun j => j2 16 j (by decide) (by decide) (by decide)
  have j17 := fun j => j2 17 j (by decide) (by decide) (by decide)
  have j18 := fun j => j2 18 j (by decide) (by decide) (by decide)
  have jv := fun i j (hj : j ≠ 13) => j3 (20 + i) j (by omega) hj
  obtain ⟨c1, c2, c3, c4, c5⟩ := h
  refine ⟨CB_c h1 h2 (h3 0 1 (fun q => by unfold J0 at q; omega) (by decide) (by decide)) (h3 9 0 (fun q => by unfold J0 at q; omega) (by decide) (by decide)) c1, fun i hi => CV_c (j10 i) (j11 i) (j12 i) (fun j hj => jv i j (by omega)) (c2 i hi), fun i hi => ?_, fun l k hl hk => ?_, fun l hl => ?_⟩
  · refine CD_c (jv i 9 (by decide)) (jv i 10 (by decide)) (jv i 11 (by decide)) (hp i hi) (j13 i) (fun l k _ b c => ⟨by rw [mm_c (j17 l)]; exact b, by rw [sv_c (j18 _)]; exact c⟩) (c3 i hi)
  · rw [mm_c (j17 l)] at hk
    exact CS_c (fun j _ => j18 _) (j13 _) (jv _ 10 (by decide)) (jv _ 11 (by decide)) (by rw [h2]) (Nat.le_refl n) (c4 l k hl hk)
  · exact CL_c (j15 l) (j16 l) (j17 l) (fun k _ => ⟨sv_c (j18 _), fun w => qv_c (j10 _) (j11 _) (j12 _) w 0⟩) (fun j => j1 (5 + l) j (by omega) (by omega)) (fun j => by rw [h2]) (c5 l hl)
theorem Core_c {n : Nat} (h1 : τ.1 = σ.1) (h2 : τ.2.2.1 = σ.2.2.1) (h3 : ∀ i j, ¬ J0 i j → τ.2.1 i j = σ.2.1 i j) (h : Core σ n) : Core τ n :=
  Core_p h1 h2 (fun i j a _ _ => h3 i j a) (fun i hi => by
    rw [h3 (20 + i) 13 (fun q => by unfold J0 at q; omega), h3 14 i (fun q => by unfold J0 at q; omega)]
    exact (h.2.2.1 i hi).2.1) h
end
section
variable {σ : fd_S} {n : Nat}
theorem Core.N (h : Core σ n) : σ.1 = 20 + n := h.1.2.2.1
theorem Core.n60 (h : Core σ n) : n ≤ 60 := h.1.1.2.2.1
theorem Core.inj (h : Core σ n) {l k l' k' : Nat} (hl : l < 4) (hk : k < mm σ l) (hl' : l' < 4) (hk' : k' < mm σ l') (e : sv σ l k = sv σ l' k') : l = l' ∧ k = k' := by
  have a := h.2.2.2.1 l k hl hk
  have b := h.2.2.2.1 l' k' hl' hk'
  have m1 := (h.2.2.2.2 l hl).1
  have m2 := (h.2.2.2.2 l' hl').1
  have a1 := a.2.2.2.1
  have a2 := a.2.2.2.2.1
  rw [e, b.2.2.2.1, nI_eq (by omega) (by omega)] at a1
  rw [e, b.2.2.2.2.1, nI_eq (by omega) (by omega)] at a2
  exact ⟨a1.symm, a2.symm⟩
theorem Core.Vi (h : Core σ n) {i : Nat} (hi : i < n) : Vi σ i := ⟨Nat.lt_of_lt_of_le hi h.n60, (h.2.1 i hi).1, (h.2.1 i hi).2.1⟩
theorem Core.Vs (h : Core σ n) {l : Nat} (hl : l < 4) : Vs σ l (mm σ l) := ⟨(h.2.2.2.2 l hl).1, (h.2.2.2.2 l hl).2.1, fun k hk => ⟨(h.2.2.2.1 l k hl hk).1, h.Vi (h.2.2.2.1 l k hl hk).2.1⟩⟩
theorem Core.fl (h : Core σ n) : ∀ l, l < 4 → ∀ j, ∀ a, σ.2.2.1 (5 + l) j = some a → a < σ.1 ∧ fd_sh a = .inl 2 := by
  intro l hl j a ha
  obtain ⟨a1, a2, a3, a4, a5, a6, a7, a8, a9, a10, a11, a12, a13, a14⟩ := h.2.2.2.2 l hl
  rw [h.N]
  by_cases h8 : j = 8
  · subst h8
    rw [a10] at ha
    by_cases hm : mm σ l = 0
    · rw [if_pos hm] at ha; cases ha
    · rw [if_neg hm] at ha; cases ha
      have := (h.2.2.2.1 l (mm σ l - 1) hl (by omega)).2.1
      exact ⟨by omega, fd_shV _⟩
  · by_cases h7 : j = 7
    · subst h7
      rw [a11] at ha
      by_cases hm : mm σ l = 0
      · rw [if_pos hm] at ha; cases ha
      · rw [if_neg hm] at ha; cases ha
        have := (h.2.2.2.1 l 0 hl (by omega)).2.1
        exact ⟨by omega, fd_shV _⟩
    · rw [a12 j h7 h8] at ha; cases ha
end
