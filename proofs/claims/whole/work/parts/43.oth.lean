theorem si_at {σ : fd_S} {a k i j : Nat} {v : Int32} : (fd_si σ a k v).2.1 i j = if i = a ∧ j = k then v else σ.2.1 i j := by
  show fd_u σ.2.1 a k v i j = _
  unfold fd_u
  by_cases h1 : i = a
  · by_cases h2 : j = k
    · rw [if_pos h1, if_pos h2, if_pos ⟨h1, h2⟩]
    · rw [if_pos h1, if_neg h2, if_neg (fun q => h2 q.2)]
  · rw [if_neg h1, if_neg (fun q => h1 q.1)]
/-- a vehicle comes back -/
theorem Core_back {σ : fd_S} {n i0 : Nat} (h : Core σ n) (hi0 : i0 < n) (h2 : σ.2.1 13 i0 = 2) : Core (fd_si (fd_si σ (20 + i0) 9 0) 13 i0 0) n := by
  obtain ⟨c1, c2, c3, c4, c5⟩ := id h
  have f : ∀ a j, (fd_si (fd_si σ (20 + i0) 9 0) 13 i0 0).2.1 a j = if a = 13 ∧ j = i0 then 0 else if a = 20 + i0 ∧ j = 9 then 0 else σ.2.1 a j := fun a j => by rw [si_at, si_at]
  have g : (fd_si (fd_si σ (20 + i0) 9 0) 13 i0 0).2.2.1 = σ.2.2.1 := rfl
  have gN : (fd_si (fd_si σ (20 + i0) 9 0) 13 i0 0).1 = σ.1 := rfl
  generalize fd_si (fd_si σ (20 + i0) 9 0) 13 i0 0 = ρ at *
  have f1 : ∀ a j, a ≠ 13 → ¬ (a = 20 + i0 ∧ j = 9) → ρ.2.1 a j = σ.2.1 a j := fun a j b1 b2 => by rw [f, if_neg (fun q => b1 q.1), if_neg b2]
  have m1 : ∀ l, mm ρ l = mm σ l := fun l => mm_c (f1 17 _ (by decide) (by omega))
  have hsv : ∀ l k, sv ρ l k = sv σ l k := fun l k => sv_c (f1 18 _ (by decide) (by omega))
  have hqv : ∀ w s i, qv ρ w s i = qv σ w s i := fun w s i => qv_c (f1 10 _ (by decide) (by omega)) (f1 11 _ (by decide) (by omega)) (f1 12 _ (by decide) (by omega)) w s
  refine ⟨CB_c gN g (f1 0 1 (by decide) (by omega)) (f1 9 0 (by decide) (by omega)) c1, fun i hi => CV_c (f1 10 _ (by decide) (by omega)) (f1 11 _ (by decide) (by omega)) (f1 12 _ (by decide) (by omega)) (fun j hj => f1 _ j (by omega) (by omega)) (c2 i hi), fun i hi => ?_, fun l k hl hk => ?_, fun l hl => ?_⟩
  · by_cases q : i = i0
    · subst q
      have e13 : ρ.2.1 13 i = 0 := by rw [f, if_pos ⟨rfl, rfl⟩]
      have e10 := (c3 i hi).2.2.2 (by rw [h2]; decide)
      refine ⟨?_, ?_, fun q => ?_, fun _ => ⟨?_, ?_⟩⟩
      · rw [e13, f, if_neg (by omega), if_pos ⟨rfl, rfl⟩]
      · rw [f1 _ 13 (by omega) (by omega), f1 14 _ (by decide) (by omega)]; exact (c3 i hi).2.1
      · rw [e13] at q; exact absurd q (by decide)
      · rw [f1 _ 10 (by omega) (by omega)]; exact e10.1
      · rw [f1 _ 11 (by omega) (by omega)]; exact e10.2
    · have fi : ∀ j, ρ.2.1 (20 + i) j = σ.2.1 (20 + i) j := fun j => f1 (20 + i) j (by omega) (by omega)
      refine CD_c (fi 9) (fi 10) (fi 11) (by rw [fi, f1 14 _ (by decide) (by omega)]; exact (c3 i hi).2.1) (by rw [f, if_neg (by omega), if_neg (by omega)]) (fun l' k b1 b2 b3 => ⟨by rw [m1]; exact b2, by rw [hsv]; exact b3⟩) (c3 i hi)
  · rw [m1] at hk
    have cs := c4 l k hl hk
    have hn0 : sv σ l k ≠ i0 := fun e => by
      have := cs.2.2.1
      rw [e, h2] at this
      exact absurd this (by decide)
    exact CS_c (fun j _ => f1 18 _ (by decide) (by omega)) (by rw [f, if_neg (fun q => hn0 q.2), if_neg (by omega)]) (f1 _ 10 (by omega) (by omega)) (f1 _ 11 (by omega) (by omega)) (by rw [g]) (Nat.le_refl n) cs
  · exact CL_c (f1 15 _ (by decide) (by omega)) (f1 16 _ (by decide) (by omega)) (f1 17 _ (by decide) (by omega)) (fun k _ => ⟨hsv l k, fun w => hqv w 0 _⟩) (fun j => f1 (5 + l) j (by omega) (by omega)) (fun j => by rw [g]) (c5 l hl)
theorem i32_sub0 {x y z : Int32} (h : x - y = x) : z - y = z := by
  grind
theorem sM_0 (σ : fd_S) (l : Nat) : sM σ l 0 = 0 := rfl
theorem sN_0 (σ : fd_S) (l : Nat) : sN σ l 0 = 0 := rfl
/-- an empty lane changes -/
theorem Core_lane {σ : fd_S} {n l0 : Nat} {len bea : Int32} (h : Core σ n) (hl0 : l0 < 4) (hm : mm σ l0 = 0) (hb0 : 0 ≤ bea) (hb1 : bea ≤ 200000) : Core (fd_si (fd_si (fd_si (fd_si σ (5 + l0) 1 len) (5 + l0) 2 bea) 15 l0 len) 16 l0 bea) n := by
  obtain ⟨c1, c2, c3, c4, c5⟩ := id h
  obtain ⟨a1, a2, a3, a4, a5, a6, a7, a8, a9, a10, a11, a12, a13, a14⟩ := c5 l0 hl0
  rw [hm] at a2 a3 a7 a8 a9 a10 a11 a14
  have f : ∀ a j, (fd_si (fd_si (fd_si (fd_si σ (5 + l0) 1 len) (5 + l0) 2 bea) 15 l0 len) 16 l0 bea).2.1 a j = if a = 16 ∧ j = l0 then bea else if a = 15 ∧ j = l0 then len else if a = 5 + l0 ∧ j = 2 then bea else if a = 5 + l0 ∧ j = 1 then len else σ.2.1 a j := fun a j => by rw [si_at, si_at, si_at, si_at]
  have g : (fd_si (fd_si (fd_si (fd_si σ (5 + l0) 1 len) (5 + l0) 2 bea) 15 l0 len) 16 l0 bea).2.2.1 = σ.2.2.1 := rfl
  have gN : (fd_si (fd_si (fd_si (fd_si σ (5 + l0) 1 len) (5 + l0) 2 bea) 15 l0 len) 16 l0 bea).1 = σ.1 := rfl
  generalize fd_si (fd_si (fd_si (fd_si σ (5 + l0) 1 len) (5 + l0) 2 bea) 15 l0 len) 16 l0 bea = ρ at *
  have f1 : ∀ a j, ¬ (a = 15 ∧ j = l0) → ¬ (a = 16 ∧ j = l0) → ¬ (a = 5 + l0 ∧ (j = 1 ∨ j = 2)) → ρ.2.1 a j = σ.2.1 a j := fun a j b1 b2 b3 => by rw [f, if_neg b2, if_neg b1, if_neg (by omega), if_neg (by omega)]
  have m1 : ∀ l, mm ρ l = mm σ l := fun l => mm_c (f1 17 _ (by omega) (by omega) (by omega))
  have hsv : ∀ l k, sv ρ l k = sv σ l k := fun l k => sv_c (f1 18 _ (by omega) (by omega) (by omega))
  have hqv : ∀ w s i, qv ρ w s i = qv σ w s i := fun w s i => qv_c (f1 10 _ (by omega) (by omega) (by omega)) (f1 11 _ (by omega) (by omega) (by omega)) (f1 12 _ (by omega) (by omega) (by omega)) w s
  have fi : ∀ i j, ρ.2.1 (20 + i) j = σ.2.1 (20 + i) j := fun i j => f1 (20 + i) j (by omega) (by omega) (by omega)
  refine ⟨CB_c gN g (f1 0 1 (by omega) (by omega) (by omega)) (f1 9 0 (by omega) (by omega) (by omega)) c1, fun i hi => CV_c (f1 10 _ (by omega) (by omega) (by omega)) (f1 11 _ (by omega) (by omega) (by omega)) (f1 12 _ (by omega) (by omega) (by omega)) (fun j hj => fi i j) (c2 i hi), fun i hi => ?_, fun l k hl hk => ?_, fun l hl => ?_⟩
  · refine CD_c (fi i 9) (fi i 10) (fi i 11) (by rw [fi, f1 14 _ (by omega) (by omega) (by omega)]; exact (c3 i hi).2.1) (f1 13 _ (by omega) (by omega) (by omega)) (fun l' k b1 b2 b3 => ⟨by rw [m1]; exact b2, by rw [hsv]; exact b3⟩) (c3 i hi)
  · rw [m1] at hk
    exact CS_c (fun j _ => f1 18 _ (by omega) (by omega) (by omega)) (f1 13 _ (by omega) (by omega) (by omega)) (fi _ 10) (fi _ 11) (by rw [g]) (Nat.le_refl n) (c4 l k hl hk)
  · by_cases q : l = l0
    · subst q
      have e15 : ρ.2.1 15 l = len := by rw [f, if_neg (by omega), if_pos ⟨rfl, rfl⟩]
      have e16 : ρ.2.1 16 l = bea := by rw [f, if_pos ⟨rfl, rfl⟩]
      have fl : ∀ j, j ≠ 1 → j ≠ 2 → ρ.2.1 (5 + l) j = σ.2.1 (5 + l) j := fun j b1 b2 => f1 _ j (by omega) (by omega) (by omega)
      have mρ : mm ρ l = 0 := by rw [m1]; exact hm
      unfold CL
      rw [mρ, g, e15, e16, fl 6 (by decide) (by decide), fl 0 (by decide) (by decide), fl 3 (by decide) (by decide), fl 4 (by decide) (by decide), fl 5 (by decide) (by decide), a3, a8, a9, sM_0, sM_0, sN_0, sN_0]
      refine ⟨by decide, ?_, rfl, a4, ?_, ?_, ?_, rfl, rfl, by rw [a10, if_pos rfl, if_pos rfl], by rw [a11, if_pos rfl, if_pos rfl], a12, ⟨hb0, hb1⟩, fun k hk => ?_⟩
      · rw [f1 17 _ (by omega) (by omega) (by omega)]; exact a2
      · rw [f, if_neg (by omega), if_neg (by omega), if_neg (by omega), if_pos ⟨rfl, rfl⟩]
      · rw [f, if_neg (by omega), if_neg (by omega), if_pos ⟨rfl, rfl⟩]
      · have e7 : sL σ l 0 = σ.2.1 15 l := rfl
        have e8 : sL ρ l 0 = len := e15
        rw [e7] at a7
        rw [e8]
        exact i32_sub0 a7
      · have : k = 0 := by omega
        subst this
        rw [sM_0]
        exact ⟨Int32.le_refl 0, hb0⟩
    · exact CL_c (f1 15 _ (by omega) (by omega) (by omega)) (f1 16 _ (by omega) (by omega) (by omega)) (f1 17 _ (by omega) (by omega) (by omega)) (fun k _ => ⟨hsv l k, fun w => hqv w 0 _⟩) (fun j => f1 (5 + l) j (by omega) (by omega) (by omega)) (fun j => by rw [g]) (c5 l hl)
/-- a vehicle more -/
theorem Core_veh {σ π : fd_S} {n k : Nat} {s l : Int32} (h : Core σ n) (hn : n < 60) (hk : k < 7) (hok : Vok (nI k) s l) (hV : VN σ n k s l π) : Core (mv_s π n (nI k) s l) (n + 1) := by
  obtain ⟨c1, c2, c3, c4, c5⟩ := id h
  have hN := h.N
  obtain ⟨p1, p2, p3, p4, p5, q0, q1, q2, q3, q4, q5, q6, q7, q8, q9, q10, q11, q13⟩ := hV
  rw [hN] at p1 p2 p3 p4 q0 q1 q2 q3 q4 q5 q6 q7 q8 q9 q10 q11 q13
  have f : ∀ a j, (mv_s π n (nI k) s l).2.1 a j = if a = 9 ∧ j = 0 then nI (n + 1) else if a = 14 ∧ j = n then 0 else if a = 13 ∧ j = n then 0 else if a = 12 ∧ j = n then l else if a = 11 ∧ j = n then s else if a = 10 ∧ j = n then nI k else π.2.1 a j := fun a j => by unfold mv_s; rw [si_at, si_at, si_at, si_at, si_at, si_at]
  have g : ∀ a j, (mv_s π n (nI k) s l).2.2.1 a j = if a = 20 + n then none else if a = 1 ∧ j = n then some (20 + n) else σ.2.2.1 a j := fun a j => by
    have : (mv_s π n (nI k) s l).2.2.1 = π.2.2.1 := rfl
    rw [this, p2]
  have gN : (mv_s π n (nI k) s l).1 = 20 + n + 1 := p1
  generalize mv_s π n (nI k) s l = ρ at *
  have f1 : ∀ a j, a ≠ 0 → a ≠ 3 → ¬ (a = 9 ∧ j = 0) → ¬ (10 ≤ a ∧ a ≤ 14 ∧ j = n) → a ≠ 20 + n → ρ.2.1 a j = σ.2.1 a j := fun a j b1 b2 b3 b4 b5 => by
    rw [f, if_neg b3, if_neg (by omega), if_neg (by omega), if_neg (by omega), if_neg (by omega), if_neg (by omega), p4 a j b5 (by omega) (fun q => b2 q.1)]
  have fn : ∀ j, ρ.2.1 (20 + n) j = π.2.1 (20 + n) j := fun j => by rw [f, if_neg (by omega), if_neg (by omega), if_neg (by omega), if_neg (by omega), if_neg (by omega), if_neg (by omega)]
  have m1 : ∀ l, mm ρ l = mm σ l := fun l => mm_c (f1 17 _ (by omega) (by omega) (by omega) (by omega) (by omega))
  have hsv : ∀ l k, sv ρ l k = sv σ l k := fun l k => sv_c (f1 18 _ (by omega) (by omega) (by omega) (by omega) (by omega))
  have hqv : ∀ w s i, i < n → qv ρ w s i = qv σ w s i := fun w s i hi => qv_c (f1 10 _ (by omega) (by omega) (by omega) (by omega) (by omega)) (f1 11 _ (by omega) (by omega) (by omega) (by omega) (by omega)) (f1 12 _ (by omega) (by omega) (by omega) (by omega) (by omega)) w s
  have fi : ∀ i j, i < n → ρ.2.1 (20 + i) j = σ.2.1 (20 + i) j := fun i j hi => f1 (20 + i) j (by omega) (by omega) (by omega) (by omega) (by omega)
  have e10 : ρ.2.1 10 n = nI k := by rw [f, if_neg (by omega), if_neg (by omega), if_neg (by omega), if_neg (by omega), if_neg (by omega), if_pos ⟨rfl, rfl⟩]
  have e11 : ρ.2.1 11 n = s := by rw [f, if_neg (by omega), if_neg (by omega), if_neg (by omega), if_neg (by omega), if_pos ⟨rfl, rfl⟩]
  have e12 : ρ.2.1 12 n = l := by rw [f, if_neg (by omega), if_neg (by omega), if_neg (by omega), if_pos ⟨rfl, rfl⟩]
  have e13 : ρ.2.1 13 n = 0 := by rw [f, if_neg (by omega), if_neg (by omega), if_pos ⟨rfl, rfl⟩]
  have e14 : ρ.2.1 14 n = 0 := by rw [f, if_neg (by omega), if_pos ⟨rfl, rfl⟩]
  have ek : kd ρ n = k := by unfold kd; rw [e10]; exact nI_clamp (by omega)
  have eq : ∀ w, qv ρ w 0 n = (an_w k s l 0 16 k w).1 := fun w => by unfold qv; rw [ek, e11, e12]
  obtain ⟨⟨b20, bN, bn, bc, r0, r2, r3, r30, hva, hla⟩, ⟨mb, k1, k2, k3, k4, k5, k6, k7, k8, k9, k13⟩, _, _, hclo⟩ := id c1
  have g9 : ∀ j, ρ.2.2.1 9 j = σ.2.2.1 9 j := fun j => by rw [g, if_neg (by omega), if_neg (by omega)]
  refine ⟨⟨⟨by omega, by omega, by omega, ?_, ?_, ?_, ?_, ?_, fun i hi => ?_, fun i hi => ?_⟩, ⟨by omega, ?_, ?_, ?_, ?_, ?_, ?_, ?_, ?_, ?_, ?_⟩, by omega, ?_, fun a j x hx => ?_⟩, fun i hi => ?_, fun i hi => ?_, fun l k hl hk => ?_, fun l hl => ?_⟩
  · rw [f, if_neg (by omega), if_neg (by omega), if_neg (by omega), if_neg (by omega), if_neg (by omega), if_neg (by omega)]; exact p5
  · rw [g, if_neg (by omega), if_neg (by omega)]; exact r0
  · rw [g, if_neg (by omega), if_neg (by omega)]; exact r2
  · rw [g, if_neg (by omega), if_neg (by omega)]; exact r3
  · rw [g, if_neg (by omega), if_neg (by omega)]; exact r30
  · rw [g, if_neg (by omega)]
    by_cases q : i = n
    · subst q
      rw [if_pos ⟨rfl, rfl⟩]
    · rw [if_neg (by omega)]; exact hva i (by omega)
  · rw [g, if_neg (by omega), if_neg (by omega)]; exact hla i hi
  · rw [g9]; exact k1
  · rw [g9]; exact k2
  · rw [g9]; exact k3
  · rw [g9]; exact k4
  · rw [g9]; exact k5
  · rw [g9]; exact k6
  · rw [g9]; exact k7
  · rw [g9]; exact k8
  · rw [g9]; exact k9
  · rw [g9]; exact k13
  · rw [f, if_pos ⟨rfl, rfl⟩]
  · rw [g] at hx
    rw [gN]
    by_cases z1 : a = 20 + n
    · rw [if_pos z1] at hx; cases hx
    · rw [if_neg z1] at hx
      by_cases z2 : a = 1 ∧ j = n
      · rw [if_pos z2] at hx; cases hx; omega
      · rw [if_neg z2] at hx
        have := hclo a j x hx
        omega
  · by_cases q : i = n
    · subst q
      refine ⟨by rw [ek]; exact hk, by rw [ek]; exact e10, by rw [e11]; exact hok.2.1, by rw [e12]; exact hok.2.2, ?_, ?_, ?_, ?_, ?_, ?_, ?_, ?_, ?_⟩
      · rw [fn]; exact q0
      · rw [fn, e10]; exact q1
      · rw [fn, e11]; exact q2
      · rw [fn, e12]; exact q3
      · rw [fn, eq]; exact q4
      · rw [fn, eq]; exact q5
      · rw [fn, eq]; exact q6
      · rw [fn, eq]; exact q7
      · rw [fn, eq]; exact q8
    · exact CV_c (f1 10 _ (by omega) (by omega) (by omega) (by omega) (by omega)) (f1 11 _ (by omega) (by omega) (by omega) (by omega) (by omega)) (f1 12 _ (by omega) (by omega) (by omega) (by omega) (by omega)) (fun j hj => fi i j (by omega)) (c2 i (by omega))
  · by_cases q : i = n
    · subst q
      refine ⟨by rw [fn, e13]; exact q9, by rw [fn, e14]; exact q13, fun q => ?_, fun _ => ⟨by rw [fn]; exact q10, by rw [fn]; exact q11⟩⟩
      rw [e13] at q
      exact absurd q (by decide)
    · have hi' : i < n := by omega
      refine CD_c (fi i 9 hi') (fi i 10 hi') (fi i 11 hi') (by rw [fi i 13 hi', f1 14 _ (by omega) (by omega) (by omega) (by omega) (by omega)]; exact (c3 i hi').2.1) (f1 13 _ (by omega) (by omega) (by omega) (by omega) (by omega)) (fun l' k b1 b2 b3 => ⟨by rw [m1]; exact b2, by rw [hsv]; exact b3⟩) (c3 i hi')
  · rw [m1] at hk
    have cs := c4 l k hl hk
    have hlt := cs.2.1
    exact CS_c (fun j _ => f1 18 _ (by omega) (by omega) (by omega) (by omega) (by omega)) (f1 13 _ (by omega) (by omega) (by omega) (by omega) (by omega)) (fi _ 10 hlt) (fi _ 11 hlt) (by rw [g, if_neg (by omega), if_neg (by omega)]) (Nat.le_succ n) cs
  · exact CL_c (f1 15 _ (by omega) (by omega) (by omega) (by omega) (by omega)) (f1 16 _ (by omega) (by omega) (by omega) (by omega) (by omega)) (f1 17 _ (by omega) (by omega) (by omega) (by omega) (by omega)) (fun k hk => ⟨hsv l k, fun w => hqv w 0 _ (c4 l k hl hk).2.1⟩) (fun j => f1 (5 + l) j (by omega) (by omega) (by omega) (by omega) (by omega)) (fun j => by rw [g, if_neg (by omega), if_neg (by omega)]) (c5 l hl)
