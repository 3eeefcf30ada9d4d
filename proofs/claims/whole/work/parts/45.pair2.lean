theorem an_len (sz ld s : Int32) : ∀ w k, w < 6 → k < 7 → (an_w k sz ld s 16 k w).2.length ≤ 10
  | 0, 0, _, _ => by rw [at_0_0]; decide
  | 0, 1, _, _ => by rw [at_0_1]; decide
  | 0, 2, _, _ => by rw [at_0_2]; decide
  | 0, 3, _, _ => by rw [at_0_3]; decide
  | 0, 4, _, _ => by rw [at_0_4]; decide
  | 0, 5, _, _ => by rw [at_0_5]; decide
  | 0, 6, _, _ => by rw [at_0_6]; decide
  | 1, 0, _, _ => by rw [at_1_0]; decide
  | 1, 1, _, _ => by rw [at_1_1]; decide
  | 1, 2, _, _ => by rw [at_1_2]; decide
  | 1, 3, _, _ => by rw [at_1_3]; decide
  | 1, 4, _, _ => by rw [at_1_4]; decide
  | 1, 5, _, _ => by rw [at_1_5]; decide
  | 1, 6, _, _ => by rw [at_1_6]; decide
  | 2, 0, _, _ => by rw [at_2_0]; decide
  | 2, 1, _, _ => by rw [at_2_1]; decide
  | 2, 2, _, _ => by rw [at_2_2]; decide
  | 2, 3, _, _ => by rw [at_2_3]; decide
  | 2, 4, _, _ => by rw [at_2_4]; decide
  | 2, 5, _, _ => by rw [at_2_5]; decide
  | 2, 6, _, _ => by rw [at_2_6]; decide
  | 3, 0, _, _ => by rw [at_3_0]; decide
  | 3, 1, _, _ => by rw [at_3_1]; decide
  | 3, 2, _, _ => by rw [at_3_2]; decide
  | 3, 3, _, _ => by rw [at_3_3]; decide
  | 3, 4, _, _ => by rw [at_3_4]; decide
  | 3, 5, _, _ => by rw [at_3_5]; decide
  | 3, 6, _, _ => by rw [at_3_6]; decide
  | 4, 0, _, _ => by rw [at_4_0]; decide
  | 4, 1, _, _ => by rw [at_4_1]; decide
  | 4, 2, _, _ => by rw [at_4_2]; decide
  | 4, 3, _, _ => by rw [at_4_3]; decide
  | 4, 4, _, _ => by rw [at_4_4]; decide
  | 4, 5, _, _ => by rw [at_4_5]; decide
  | 4, 6, _, _ => by rw [at_4_6]; decide
  | 5, 0, _, _ => by rw [at_5_0]; decide
  | 5, 1, _, _ => by rw [at_5_1]; decide
  | 5, 2, _, _ => by rw [at_5_2]; decide
  | 5, 3, _, _ => by rw [at_5_3]; decide
  | 5, 4, _, _ => by rw [at_5_4]; decide
  | 5, 5, _, _ => by rw [at_5_5]; decide
  | 5, 6, _, _ => by rw [at_5_6]; decide
  | _ + 6, _, h, _ => by omega
  | 0, _ + 7, _, h => by omega
  | 1, _ + 7, _, h => by omega
  | 2, _ + 7, _, h => by omega
  | 3, _ + 7, _, h => by omega
  | 4, _ + 7, _, h => by omega
  | 5, _ + 7, _, h => by omega
/-- where the model's row says that a vehicle stands, and what the vehicle's own fields say -/
theorem FM_c {σ : fd_S} {n i : Nat} (h : Core σ n) (hi : i < n) : FM σ (mm σ) (nI i) (σ.2.1 (20 + i) 10) (σ.2.1 (20 + i) 11) := by
  have hn := h.n60
  have cd := h.2.2.1 i hi
  by_cases q : σ.2.1 13 i = 1
  · obtain ⟨l, k, hl, hk, e⟩ := cd.2.2.1 q
    have cs := h.2.2.2.1 l k hl hk
    refine Or.inl ⟨l, k, hl, hk, by rw [← e]; exact cs.1, fun l' k' hl' hk' hne e2 => ?_, by rw [← e]; exact cs.2.2.2.1, by rw [← e]; exact cs.2.2.2.2.1⟩
    have cs' := h.2.2.2.1 l' k' hl' hk'
    rw [cs'.1, nI_eq (by have := cs'.2.1; omega) (by omega)] at e2
    have := h.inj hl' hk' hl hk (e2.trans e.symm)
    omega
  · refine Or.inr ⟨fun l k hl hk e => ?_, (cd.2.2.2 q).1, (cd.2.2.2 q).2⟩
    have cs := h.2.2.2.1 l k hl hk
    rw [cs.1, nI_eq (by have := cs.2.1; omega) (by omega)] at e
    exact q (by rw [← e]; exact cs.2.2.1)
theorem p_told (x w : Int32) : Pair 33 75 [.inl x, .inl w] := by
  intro σ n h post k
  have h20 := h.h20
  have hn := h.n60
  have hm : ∀ l, l < 4 → mm σ l ≤ 60 ∧ σ.2.1 17 l = nI (mm σ l) := fun l hl => ⟨(h.1.2.2.2.2 l hl).1, (h.1.2.2.2.2 l hl).2.1⟩
  have key : ∀ i j, i < n → j ≤ 6 → ctv σ (20 + i) j = mtv σ (σ.2.1 (20 + i) 10) (σ.2.1 (20 + i) 11) i j := by
    intro i j hi hj
    have cv := h.1.2.1 i hi
    have cd := h.1.2.2.1 i hi
    obtain ⟨v1, v2, v3, v4, v5, v6, v7, v8, v9, v10, v11, v12, v13⟩ := id cv
    match j, hj with
    | 0, _ => exact v6
    | 1, _ => exact cd.1
    | 2, _ => rfl
    | 3, _ => rfl
    | 4, _ => exact cd.2.1
    | 5, _ =>
      show (if σ.2.1 (20 + i) 7 = -3 then 0 else 1) = (if hvy (kd σ i) = true then 1 else 0)
      rw [v12]
      have := q_toll cv
      by_cases q : hvy (kd σ i) = true
      · rw [if_pos q, if_neg (fun e => by rw [this.mp e] at q; cases q)]
      · rw [if_neg q, if_pos (this.mpr (by simpa using q))]
    | 6, _ =>
      show (if σ.2.1 (20 + i) 8 = -3 then 0 else 1) = (if mrk (kd σ i) = true then 1 else 0)
      rw [v13]
      have := q_dang cv
      by_cases q : mrk (kd σ i) = true
      · rw [if_pos q, if_neg (fun e => by rw [this.mp e] at q; cases q)]
      · rw [if_neg q, if_pos (this.mpr (by simpa using q))]
  have no : ∀ j, j ≤ 6 → w = nI j → ¬ (w.toInt < 0 ∨ (6 : Int) < w.toInt) := fun j hj hw a => absurd ⟨by rw [hw]; exact nI_pos' (by omega), by rw [hw]; exact nI_le hj (by decide)⟩ (ts_out (N := 6) (by decide) a)
  refine c_told 97 n x w σ _ h.B (fun a => ?_) (fun a => ?_) (fun i j hi hx hj hw => ?_)
  · refine k _ _ h20 (fun post' k' => ?_)
    exact m_told 97 n (mm σ) x w σ _ h.M hn h.h90 hm (fun _ => k' _ n h) (fun _ => k' _ n h) (fun i hi hx => absurd hx (a i hi))
  · refine k _ _ h20 (fun post' k' => ?_)
    exact m_told 97 n (mm σ) x w σ _ h.M hn h.h90 hm (fun _ => k' _ n h) (fun _ => k' _ n h) (fun i hi hx => ⟨h.1.Vi hi, _, _, by rw [hx]; exact FM_c h.1 hi, fun j hj hw => absurd a (no j hj hw)⟩)
  · refine k _ _ h20 (fun post' k' => ?_)
    refine m_told 97 n (mm σ) x w σ _ h.M hn h.h90 hm (fun a => absurd hx (a i hi)) (fun a => ?_) (fun i' hi' hx' => ?_)
    · exact absurd ⟨by rw [hw]; exact nI_pos' (by omega), by rw [hw]; exact nI_le hj (by decide)⟩ a
    · have ei : i' = i := (nI_eq (by omega) (by omega)).mp (hx'.symm.trans hx)
      subst ei
      refine ⟨h.1.Vi hi, _, _, by rw [hx]; exact FM_c h.1 hi, fun j' hj' hw' => ?_⟩
      have ej : j' = j := (nI_eq (by omega) (by omega)).mp (hw'.symm.trans hw)
      subst ej
      rw [← key i' j' hi hj]
      exact k' _ n h
theorem Cp_q {σ τ : fd_S} {n t : Nat} (h : Cp σ n) (ht : σ.2.1 9 14 = nI t) (ht10 : t ≤ 10) (hq : SE (JQ t) σ τ) : Cp τ n := by
  obtain ⟨s1, s2, s3, s4, t', b1, b2, b3, b4⟩ := h.2
  have e : t' = t := (nI_eq (by omega) (by omega)).mp (b3.symm.trans ht)
  subst e
  obtain ⟨z1, z2, z3, z4⟩ := hq
  have f : ∀ i j, i ≠ 19 → τ.2.1 i j = σ.2.1 i j := fun i j hi => z4 i j (fun q => hi q.1)
  refine ⟨Core_c z1 z2 (fun i j hj => f i j (fun q => hj (by unfold J0; omega))) h.1, ?_, ?_, ?_, by rw [z3]; exact s4, t', b1, ?_, ?_, fun j hj => ?_⟩
  · rw [f 3 2 (by decide)]; exact s1
  · rw [f 0 4 (by decide), f 9 10 (by decide)]; exact s2
  · rw [f 0 5 (by decide), f 9 11 (by decide)]; exact s3
  · rw [f 3 1 (by decide)]; exact b2
  · rw [f 9 14 (by decide)]; exact b3
  · rw [f 4 j (by decide), z4 19 j (fun q => by have := q.2; omega)]; exact b4 j hj
theorem p_deck (x w : Int32) : Pair 34 76 [.inl x, .inl w] := by
  intro σ n h post k
  have h20 := h.h20
  have hn := h.n60
  obtain ⟨s1, s2, s3, s4, t, b1, b2, b3, b4⟩ := h.2
  have hS : ∀ l, l < 4 → Vs σ l (mm σ l) := fun l hl => h.1.Vs hl
  have key : ∀ l j, l < 4 → j ≤ 5 → cdv σ (5 + l) j (nof σ (σ.2.2.1 (5 + l) 7)) (nof σ (σ.2.2.1 (5 + l) 8)) = mdv σ l (mm σ l) j := by
    intro l j hl hj
    obtain ⟨a1, a2, a3, a4, a5, a6, a7, a8, a9, a10, a11, a12, a13, a14⟩ := h.1.2.2.2.2 l hl
    match j, hj with
    | 0, _ =>
      show σ.2.1 (5 + l) 1 - σ.2.1 (5 + l) 3 = sL σ l (mm σ l)
      rw [a5]; exact a7
    | 1, _ =>
      show σ.2.1 (5 + l) 2 - σ.2.1 (5 + l) 4 = σ.2.1 16 l - sM σ l (mm σ l)
      rw [a6, a8]
    | 2, _ => exact a3
    | 3, _ => exact a9
    | 4, _ =>
      show nof σ (σ.2.2.1 (5 + l) 7) = if mm σ l = 0 then -1 else σ.2.1 18 (60 * l + 0)
      rw [a11]
      by_cases q : mm σ l = 0
      · rw [if_pos q, if_pos q]; rfl
      · rw [if_neg q, if_neg q]
        have cs := h.1.2.2.2.1 l 0 hl (by omega)
        show σ.2.1 (20 + sv σ l 0) 0 = _
        rw [cs.1]
        exact (h.1.2.1 _ cs.2.1).2.2.2.2.1
    | 5, _ =>
      show nof σ (σ.2.2.1 (5 + l) 8) = if mm σ l = 0 then -1 else σ.2.1 18 (60 * l + (mm σ l - 1))
      rw [a10]
      by_cases q : mm σ l = 0
      · rw [if_pos q, if_pos q]; rfl
      · rw [if_neg q, if_neg q]
        have cs := h.1.2.2.2.1 l (mm σ l - 1) hl (by omega)
        show σ.2.1 (20 + sv σ l (mm σ l - 1)) 0 = _
        rw [cs.1]
        exact (h.1.2.1 _ cs.2.1).2.2.2.2.1
  have no : ∀ j, j ≤ 5 → w = nI j → ¬ (w.toInt < 0 ∨ (5 : Int) < w.toInt) := fun j hj hw a => absurd ⟨by rw [hw]; exact nI_pos' (by omega), by rw [hw]; exact nI_le hj (by decide)⟩ (ts_out (N := 5) (by decide) a)
  refine c_deck 97 n x w σ _ h.B h.1.fl (fun a => ?_) (fun a => ?_) (fun l j hl hx hj hw => ?_)
  · refine k _ _ h20 (fun post' k' => ?_)
    exact m_deck 93 t (mm σ) x w σ _ h.M hS b3 b1 (fun _ => k' _ n h) (fun _ => k' _ n h) (fun l j hl hx => absurd hx (a l hl))
  · refine k _ _ h20 (fun post' k' => ?_)
    exact m_deck 93 t (mm σ) x w σ _ h.M hS b3 b1 (fun _ => k' _ n h) (fun _ => k' _ n h) (fun l j hl hx hj hw => absurd a (no j hj hw))
  · refine k _ _ h20 (fun post' k' => ?_)
    refine m_deck 93 t (mm σ) x w σ _ h.M hS b3 b1 (fun a => absurd hx (a l hl)) (fun a => ?_) (fun l' j' hl' hx' hj' hw' τ hτ => ?_)
    · exact absurd ⟨by rw [hw]; exact nI_pos' (by omega), by rw [hw]; exact nI_le hj (by decide)⟩ a
    · have ei : l' = l := (nI_eq (by omega) (by omega)).mp (hx'.symm.trans hx)
      have ej : j' = j := (nI_eq (by omega) (by omega)).mp (hw'.symm.trans hw)
      subst ei
      subst ej
      rw [← key l' j' hl hj]
      exact k' _ n (Cp_q h b3 b1 hτ)
theorem p_vehicle (x s l : Int32) : Pair 24 51 [.inl x, .inl s, .inl l] := by
  intro σ n h post k
  have h20 := h.h20
  have hn := h.n60
  have hN := h.1.N
  obtain ⟨s1, s2, s3, s4, t, b1, b2, b3, b4⟩ := h.2
  refine c_vehicle 38 n x s l σ _ h.B hN h.1.1.2.2.2.2 t b1 b2 s1 (fun a => ?_) (fun a a60 => ?_) (fun kk hkk hx a hlt τ hV => ?_)
  · refine k _ _ h20 (fun post' k' => ?_)
    exact m_vehicle 98 n x s l σ _ h.M hn h.h90 (fun _ => k' _ n h) (fun q => absurd q a) (fun q => absurd q a)
  · refine k _ _ h20 (fun post' k' => ?_)
    exact m_vehicle 98 n x s l σ _ h.M hn h.h90 (fun q => absurd a q) (fun _ _ => k' _ n h) (fun _ q => by omega)
  · subst hx
    obtain ⟨p1, p2, p3, p4, p5, _⟩ := id hV
    refine k _ _ (by omega) (fun post' k' => ?_)
    have r9 : ∀ j, τ.2.2.1 9 j = σ.2.2.1 9 j := fun j => by rw [p2]; show (if 9 = σ.1 then none else if 9 = 1 ∧ j = n then some σ.1 else σ.2.2.1 9 j) = _; rw [if_neg (by omega), if_neg (by omega)]
    have mB : Mb τ := by
      have hM := h.M
      unfold Mb at hM ⊢
      simp only [r9]
      exact ⟨by omega, hM.2⟩
    have e9 : τ.2.1 9 0 = nI n := by rw [p4 9 0 (by omega) (by omega) (fun q => absurd q.1 (by decide))]; exact h.h90
    refine m_vehicle 98 n (nI kk) s l τ _ mB hn e9 (fun q => absurd a q) (fun _ q => by omega) (fun _ _ => ?_)
    refine k' _ (n + 1) ⟨Core_veh h.1 hlt hkk a hV, Cs_c (σ := σ) (fun i j q => ?_) ?_ h.2⟩
    · unfold mv_s
      rw [si_at, si_at, si_at, si_at, si_at, si_at, if_neg (by omega), if_neg (by omega), if_neg (by omega), if_neg (by omega), if_neg (by omega), if_neg (by omega)]
      exact p4 i j (by omega) (by omega) (fun q2 => by have := q2.1; have := q2.2; omega)
    · show τ.2.2.2 0 6 = τ.2.2.2 9 12
      rw [p3 0 6 (by omega), p3 9 12 (by omega)]
      exact s4
/-- what the trace is, once told -/
theorem TRs_on : ∀ (l : List Int32) (σ : fd_S) (t : Nat), σ.2.1 3 2 = 1 → σ.2.1 3 1 = nI t → t + l.length ≤ 10 → (TRs σ l).1 = σ.1 ∧ (TRs σ l).2.2.1 = σ.2.2.1 ∧ (TRs σ l).2.2.2 = σ.2.2.2 ∧ (TRs σ l).2.1 3 1 = nI (t + l.length) ∧ (∀ i j, ¬ (i = 4 ∧ t ≤ j) → ¬ (i = 3 ∧ j = 1) → (TRs σ l).2.1 i j = σ.2.1 i j) ∧ ∀ j, j < l.length → (TRs σ l).2.1 4 (t + j) = l.getD j 0
  | [], σ, t, _, h1, _ => ⟨rfl, rfl, rfl, h1, fun _ _ _ _ => rfl, fun j hj => absurd hj (Nat.not_lt_zero j)⟩
  | b :: l, σ, t, h2, h1, hl => by
    have hl' : t + 1 + l.length ≤ 10 := by simp only [List.length_cons] at hl; omega
    have e : TR σ b = fd_si (fd_si σ 4 t b) 3 1 (nI (t + 1)) := by
      unfold TR
      rw [if_neg (by rw [h2]; decide), if_neg (by rw [h1]; show ¬ nI 10 ≤ nI t; rw [nI_leI (by decide) (by omega)]; omega), h1, nI_clamp (by omega), nI_1]
    have e2 : TRs σ (b :: l) = TRs (fd_si (fd_si σ 4 t b) 3 1 (nI (t + 1))) l := by show TRs (TR σ b) l = _; rw [e]
    have ih := TRs_on l (fd_si (fd_si σ 4 t b) 3 1 (nI (t + 1))) (t + 1) (by rw [si_ne2 (by decide), si_ne (by decide)]; exact h2) si_eq hl'
    rw [e2]
    obtain ⟨i1, i2, i3, i4, i5, i6⟩ := ih
    refine ⟨i1, i2, i3, ?_, fun i j a1 a2 => ?_, fun j hj => ?_⟩
    · rw [i4]; congr 1; simp only [List.length_cons]; omega
    · rw [i5 i j (by omega) a2, si_at, si_at, if_neg a2, if_neg (by omega)]
    · match j, hj with
      | 0, _ => rw [i5 4 (t + 0) (by omega) (by omega), si_at, si_at, if_neg (by omega), if_pos ⟨rfl, rfl⟩]; rfl
      | j + 1, hj =>
        have : t + (j + 1) = t + 1 + j := by omega
        rw [this, i6 j (by simp only [List.length_cons] at hj; omega)]
        rfl
theorem p_ask (x w s : Int32) : Pair 25 61 [.inl x, .inl w, .inl s] := by
  intro σ n h post k
  have h20 := h.h20
  have hn := h.n60
  obtain ⟨s1, s2, s3, s4, t, b1, b2, b3, b4⟩ := h.2
  refine c_ask 38 n x w s σ _ h.B (fun a => ?_) (fun i j hi hx hj hw hs => ?_)
  · refine k _ _ h20 (fun post' k' => ?_)
    refine m_ask 95 n x w s σ _ h.M hn h.h90 (fun _ => k' _ n h) (fun i j hi hx hj hw hs => absurd ⟨⟨i, hi, hx⟩, ⟨?_, ?_⟩, hs⟩ a)
    · rw [hw]; exact nI_pos' (by omega)
    · rw [hw]; exact nI_le (b := 5) (by omega) (by decide)
  · obtain ⟨v1, v2, v3, v4, v5, v6, v7, v8, v9, v10, v11, v12, v13⟩ := h.1.2.1 i hi
    refine ⟨kd σ i, v1, v6.trans v2, ?_⟩
    rw [v7, v8]
    have hlen := an_len (σ.2.1 11 i) (σ.2.1 12 i) s j (kd σ i) hj v1
    generalize hA : an_w (kd σ i) (σ.2.1 11 i) (σ.2.1 12 i) s 16 (kd σ i) j = A at hlen
    have TS := TRs_on A.2 (AK (fd_si (fd_si σ 3 1 0) 3 2 1) (20 + i) s) 0 (by show (fd_si (fd_si σ 3 1 0) 3 2 1).2.1 3 2 = 1; exact si_eq) (by show (fd_si (fd_si σ 3 1 0) 3 2 1).2.1 3 1 = nI 0; rw [si_ne2 (by decide)]; exact si_eq) (by omega)
    obtain ⟨i1, i2, i3, i4, i5, i6⟩ := TS
    have q1 : (AT σ (20 + i) s A.2).1 = σ.1 := i1
    have q2 : (AT σ (20 + i) s A.2).2.2.1 = σ.2.2.1 := i2
    have q3 : (AT σ (20 + i) s A.2).2.2.2 = σ.2.2.2 := i3
    have q4 : (AT σ (20 + i) s A.2).2.1 3 1 = nI A.2.length := by
      show (fd_si _ 3 2 0).2.1 3 1 = _
      rw [si_ne2 (by decide), i4, Nat.zero_add]
    have q5 : (AT σ (20 + i) s A.2).2.1 3 2 = 0 := si_eq
    have q6 : ∀ j, j < A.2.length → (AT σ (20 + i) s A.2).2.1 4 j = A.2.getD j 0 := by
      intro j hj
      have := i6 j hj
      rw [Nat.zero_add] at this
      show (fd_si _ 3 2 0).2.1 4 j = _
      rw [si_ne (by decide)]; exact this
    have q7 : ∀ a j, a ≠ 3 → a ≠ 4 → (AT σ (20 + i) s A.2).2.1 a j = σ.2.1 a j := by
      intro a j c1 c2
      show (fd_si _ 3 2 0).2.1 a j = _
      rw [si_ne c1, i5 a j (fun q => c2 q.1) (fun q => c1 q.1)]
      show (if a = 3 then _ else (fd_si (fd_si σ 3 1 0) 3 2 1).2.1 a j) = _
      rw [if_neg c1, si_ne c1, si_ne c1]
    generalize AT σ (20 + i) s A.2 = π at *
    have mB : Mb π := by
      have hM := h.M
      unfold Mb at hM ⊢
      rw [q1, q2]
      exact hM
    refine k _ _ (by omega) (fun post' k' => ?_)
    have hw5 : 0 ≤ w ∧ w ≤ 5 := ⟨by rw [hw]; exact nI_pos' (by omega), by rw [hw]; exact nI_le (b := 5) (by omega) (by decide)⟩
    refine m_ask 95 n x w s π _ mB hn (by rw [q7 9 0 (by decide) (by decide)]; exact h.h90) (fun a => absurd ⟨⟨i, hi, hx⟩, hw5, hs⟩ a) (fun i' j' hi' hx' hj' hw' _ => ?_)
    · have ei : i' = i := (nI_eq (by omega) (by omega)).mp (hx'.symm.trans hx)
      have ej : j' = j := (nI_eq (by omega) (by omega)).mp (hw'.symm.trans hw)
      subst ei
      subst ej
      refine ⟨kd σ i', v1, by rw [q7 10 _ (by decide) (by decide)]; exact v2, ?_⟩
      rw [q7 11 _ (by decide) (by decide), q7 12 _ (by decide) (by decide), hA]
      intro τ hτ
      obtain ⟨⟨z1, z2, z3, z4⟩, y1, y2⟩ := hτ
      have z4' : ∀ a j, a ≠ 19 → ¬ (a = 9 ∧ j = 14) → τ.2.1 a j = π.2.1 a j := fun a j c1 c2 => by
        rw [z4 a j (fun q => by rcases q with q | q; exact c1 q.1; exact c2 q), si_at, if_neg c2]
      refine k' _ n ⟨Core_c (σ := σ) (z1.trans q1) (z2.trans q2) (fun a j hj => ?_) h.1, ?_, ?_, ?_, ?_, A.2.length, hlen, ?_, ?_, fun j hj => ?_⟩
      · rw [z4' a j (fun q => hj (by unfold J0; omega)) (fun q => hj (by unfold J0; omega)), q7 a j (fun q => hj (by unfold J0; omega)) (fun q => hj (by unfold J0; omega))]
      · rw [z4' 3 2 (by decide) (by omega)]; exact q5
      · rw [z4' 0 4 (by decide) (by omega), z4' 9 10 (by decide) (by omega), q7 0 4 (by decide) (by decide), q7 9 10 (by decide) (by decide)]; exact s2
      · rw [z4' 0 5 (by decide) (by omega), z4' 9 11 (by decide) (by omega), q7 0 5 (by decide) (by decide), q7 9 11 (by decide) (by decide)]; exact s3
      · rw [z3]
        show π.2.2.2 0 6 = π.2.2.2 9 12
        rw [q3]; exact s4
      · rw [z4' 3 1 (by decide) (by omega)]; exact q4
      · rw [y1, Nat.zero_add]
      · rw [z4' 4 j (by decide) (by omega), q6 j hj]
        have := y2 j hj
        rw [Nat.zero_add] at this
        exact this.symm
