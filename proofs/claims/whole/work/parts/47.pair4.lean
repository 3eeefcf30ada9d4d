theorem pig : ∀ (N m : Nat) (f : Nat → Nat), (∀ k, k < m → f k < N) → (∀ a b, a < m → b < m → f a = f b → a = b) → m ≤ N
  | 0, m, f, h1, _ => by
    by_cases q : m = 0
    · omega
    · exact absurd (h1 0 (by omega)) (by omega)
  | N + 1, m, f, h1, h2 => by
    by_cases q : m = 0
    · omega
    · obtain ⟨m', rfl⟩ : ∃ m', m = m' + 1 := ⟨m - 1, by omega⟩
      have hm : m' ≤ N := by
        refine pig N m' (fun k => if f k = N then f m' else f k) (fun k hk => ?_) (fun a b ha hb e => ?_)
        · have e1 := h1 k (by omega)
          have e2 := h1 m' (by omega)
          show (if f k = N then f m' else f k) < N
          by_cases z : f k = N
          · rw [if_pos z]
            have : f m' ≠ N := fun q => by
              have := h2 k m' (by omega) (by omega) (z.trans q.symm)
              omega
            omega
          · rw [if_neg z]; omega
        · have e : (if f a = N then f m' else f a) = (if f b = N then f m' else f b) := e
          by_cases za : f a = N
          · by_cases zb : f b = N
            · exact h2 a b (by omega) (by omega) (za.trans zb.symm)
            · rw [if_pos za, if_neg zb] at e
              have := h2 m' b (by omega) (by omega) e
              omega
          · by_cases zb : f b = N
            · rw [if_neg za, if_pos zb] at e
              have := h2 a m' (by omega) (by omega) e
              omega
            · rw [if_neg za, if_neg zb] at e
              exact h2 a b (by omega) (by omega) e
      omega
theorem Core.m60 {σ : fd_S} {n l i : Nat} (h : Core σ n) (hl : l < 4) (hi : i < n) (hw : σ.2.1 13 i ≠ 1) : mm σ l < 60 := by
  have hn := h.n60
  have hns : ∀ k, k < mm σ l → sv σ l k ≠ i := fun k hk e => hw (by rw [← e]; exact (h.2.2.2.1 l k hl hk).2.2.1)
  have := pig n (mm σ l + 1) (fun k => if k < mm σ l then sv σ l k else i) (fun k hk => by
    show (if k < mm σ l then sv σ l k else i) < n
    by_cases q : k < mm σ l
    · rw [if_pos q]; exact (h.2.2.2.1 l k hl q).2.1
    · rw [if_neg q]; exact hi) (fun a b ha hb e => by
    have e : (if a < mm σ l then sv σ l a else i) = (if b < mm σ l then sv σ l b else i) := e
    by_cases qa : a < mm σ l
    · by_cases qb : b < mm σ l
      · rw [if_pos qa, if_pos qb] at e
        exact (h.inj hl qa hl qb e).2
      · rw [if_pos qa, if_neg qb] at e
        exact absurd e (hns a qa)
    · by_cases qb : b < mm σ l
      · rw [if_neg qa, if_pos qb] at e
        exact absurd e.symm (hns b qb)
      · omega)
  omega
theorem room_c {σ : fd_S} {n l i : Nat} (h : Core σ n) (hl : l < 4) (hi : i < n) : room σ (5 + l) (20 + i) ↔ mroom σ l (mm σ l) i := by
  obtain ⟨a1, a2, a3, a4, a5, a6, a7, a8, a9, a10, a11, a12, a13, a14⟩ := h.2.2.2.2 l hl
  obtain ⟨v1, v2, v3, v4, v5, v6, v7, v8, v9, v10, v11, v12, v13⟩ := h.2.1 i hi
  unfold room mroom
  rw [v9, v10, a5, a7, a6, a8]
theorem near_c {σ : fd_S} {n l i : Nat} (h : Core σ n) (hl : l < 4) (hi : i < n) : near σ (5 + l) (20 + i) ↔ mnear σ l (mm σ l) i := by
  obtain ⟨a1, a2, a3, a4, a5, a6, a7, a8, a9, a10, a11, a12, a13, a14⟩ := h.2.2.2.2 l hl
  have cv := h.2.1 i hi
  obtain ⟨v1, v2, v3, v4, v5, v6, v7, v8, v9, v10, v11, v12, v13⟩ := id cv
  unfold near mnear
  rw [a10, v13]
  by_cases q : mm σ l = 0
  · rw [if_pos q]
    exact ⟨fun ⟨c, e, _⟩ => (by cases e), fun ⟨q2, _⟩ => (by omega)⟩
  · rw [if_neg q]
    have cs := h.2.2.2.1 l (mm σ l - 1) hl (by omega)
    have cv' := h.2.1 _ cs.2.1
    obtain ⟨u1, u2, u3, u4, u5, u6, u7, u8, u9, u10, u11, u12, u13⟩ := id cv'
    have t1 := q_dang cv
    have t2 := q_dang cv'
    refine ⟨fun ⟨c, e, c1, c2, c3⟩ => ?_, fun ⟨_, c1, c2, c3⟩ => ⟨_, rfl, ?_, ?_, ?_⟩⟩
    · have e := Option.some.inj e
      subst e
      rw [u13] at c1 c3
      refine ⟨by omega, ?_, ?_, c3⟩
      · cases z : mrk (kd σ i) with
        | true => rfl
        | false => exact absurd (t1.mpr z) c2
      · cases z : mrk (kd σ (sv σ l (mm σ l - 1))) with
        | true => rfl
        | false => exact absurd (t2.mpr z) c1
    · rw [u13]
      intro e
      rw [t2.mp e] at c2
      cases c2
    · intro e
      rw [t1.mp e] at c1
      cases c1
    · rw [u13]; exact c3
theorem pay_c {σ : fd_S} {n i : Nat} (h : Cp σ n) (hi : i < n) : pr σ (20 + i) (kd σ i) = mpay σ i := by
  have cv := h.1.2.1 i hi
  obtain ⟨v1, v2, v3, v4, v5, v6, v7, v8, v9, v10, v11, v12, v13⟩ := id cv
  have t1 := q_toll cv
  unfold pr mpay
  rw [v7, v8, v12, h.2.2.1]
  show (if qv σ 4 0 i = -3 then qv σ 3 (σ.2.1 9 10) i else qv σ 3 (σ.2.1 9 10) i + qv σ 4 0 i) = _
  by_cases q : hvy (kd σ i) = true
  · rw [if_pos q, if_neg (fun e => by rw [t1.mp e] at q; cases q)]
  · rw [if_neg q, if_pos (t1.mpr (by simpa using q))]
    grind
set_option maxHeartbeats 1000000 in
theorem p_board (x y : Int32) : Pair 29 69 [.inl x, .inl y] := by
  intro σ n h post k
  have h20 := h.h20
  have hn := h.n60
  obtain ⟨s1, s2, s3, s4, t, b1, b2, b3, b4⟩ := h.2
  have hS : ∀ l, l < 4 → Vs σ l (mm σ l) := fun l hl => h.1.Vs hl
  have hVi : ∀ i, i < n → Vi σ i := fun i hi => h.1.Vi hi
  refine c_board 38 n x y σ _ h.B t b1 b2 s1 h.1.fl (fun a => ?_) (fun i l hi hx hl hy => ?_)
  · refine k _ _ h20 (fun post' k' => ?_)
    exact m_board 93 n t (mm σ) x y σ _ h.M hn h.h90 hS hVi b3 b1 (fun _ => k' _ n h) (fun i l hi hx hl hy => absurd ⟨⟨i, hi, hx⟩, ⟨l, hl, hy⟩⟩ a)
  · have e9 := (h.1.2.2.1 i hi).1
    have rc := room_c h.1 hl hi
    have nc := near_c h.1 hl hi
    refine ⟨fun q => ?_, fun q q2 => ?_, fun q q2 q3 => ?_, fun q q2 q3 => ?_⟩
    · refine k _ _ h20 (fun post' k' => ?_)
      refine m_board 93 n t (mm σ) x y σ _ h.M hn h.h90 hS hVi b3 b1 (fun a => absurd ⟨⟨i, hi, hx⟩, ⟨l, hl, hy⟩⟩ a) (fun i' l' hi' hx' hl' hy' => ?_)
      have ei : i' = i := (nI_eq (by omega) (by omega)).mp (hx'.symm.trans hx)
      subst ei
      rw [e9] at q
      exact ⟨fun _ => k' _ n h, fun z => absurd z q, fun z => absurd z q, fun z => absurd z q⟩
    · refine k _ _ h20 (fun post' k' => ?_)
      refine m_board 93 n t (mm σ) x y σ _ h.M hn h.h90 hS hVi b3 b1 (fun a => absurd ⟨⟨i, hi, hx⟩, ⟨l, hl, hy⟩⟩ a) (fun i' l' hi' hx' hl' hy' => ?_)
      have ei : i' = i := (nI_eq (by omega) (by omega)).mp (hx'.symm.trans hx)
      have el : l' = l := (nI_eq (by omega) (by omega)).mp (hy'.symm.trans hy)
      subst ei
      subst el
      rw [e9] at q
      rw [rc] at q2
      exact ⟨fun z => absurd q z, fun _ _ τ hτ => k' _ n (Cp_q h b3 b1 hτ), fun _ z => absurd z q2, fun _ z => absurd z q2⟩
    · refine k _ _ h20 (fun post' k' => ?_)
      refine m_board 93 n t (mm σ) x y σ _ h.M hn h.h90 hS hVi b3 b1 (fun a => absurd ⟨⟨i, hi, hx⟩, ⟨l, hl, hy⟩⟩ a) (fun i' l' hi' hx' hl' hy' => ?_)
      have ei : i' = i := (nI_eq (by omega) (by omega)).mp (hx'.symm.trans hx)
      have el : l' = l := (nI_eq (by omega) (by omega)).mp (hy'.symm.trans hy)
      subst ei
      subst el
      rw [e9] at q
      rw [rc] at q2
      rw [nc] at q3
      exact ⟨fun z => absurd q z, fun _ z => absurd q2 z, fun _ _ _ τ hτ => k' _ n (Cp_q h b3 b1 hτ), fun _ _ z => absurd q3 z⟩
    · have cv := h.1.2.1 i hi
      refine ⟨kd σ i, cv.1, by rw [cv.2.2.2.2.2.1]; exact cv.2.1, fun τ hτ => ?_⟩
      rw [pay_c h hi]
      obtain ⟨z1, z2, z3, z4⟩ := hτ
      have q13 : σ.2.1 13 i = 0 := by rw [← e9]; exact q
      rw [rc] at q2
      rw [nc] at q3
      have w13 : σ.2.1 13 i ≠ 1 := by rw [q13]; decide
      have h60 := h.1.m60 hl hi w13
      have f : ∀ a j, (fd_sl (fd_si (ap_s τ (5 + l) (20 + i)) (20 + i) 13 (mpay σ i)) 0 6 (σ.2.2.2 0 6 + (mpay σ i).toInt64)).2.1 a j = if a = 20 + i ∧ j = 13 then mpay σ i else (ap_s τ (5 + l) (20 + i)).2.1 a j := fun a j => by
        show (fd_si (ap_s τ (5 + l) (20 + i)) (20 + i) 13 (mpay σ i)).2.1 a j = _
        rw [si_at]
      have ft : ∀ a j, a ≠ 3 → (ap_s τ (5 + l) (20 + i)).2.1 a j = (ap_s σ (5 + l) (20 + i)).2.1 a j := by
        intro a j a3
        have zz : ∀ a j, a ≠ 3 → τ.2.1 a j = σ.2.1 a j := fun a j a3 => z4 a j (fun q => a3 q.1)
        unfold ap_s
        simp only [zz a j a3, zz (5 + l) _ (by omega), zz (20 + i) _ (by omega)]
      have f1 : ∀ a j, a ≠ 3 → a ≠ 20 + i → a ≠ 5 + l → (fd_sl (fd_si (ap_s τ (5 + l) (20 + i)) (20 + i) 13 (mpay σ i)) 0 6 (σ.2.2.2 0 6 + (mpay σ i).toInt64)).2.1 a j = σ.2.1 a j := fun a j a3 c1 c2 => by
        rw [f, if_neg (by omega), ft a j a3]
        show (if a = 20 + i then _ else if a = 5 + l then _ else σ.2.1 a j) = _
        rw [if_neg c1, if_neg c2]
      have f3 : ∀ j, j < 3 → (fd_sl (fd_si (ap_s τ (5 + l) (20 + i)) (20 + i) 13 (mpay σ i)) 0 6 (σ.2.2.2 0 6 + (mpay σ i).toInt64)).2.1 3 j = σ.2.1 3 j := fun j hj => by
        rw [f, if_neg (by omega)]
        show (if 3 = 20 + i then _ else if 3 = 5 + l then _ else τ.2.1 3 j) = _
        rw [if_neg (by omega), if_neg (by omega)]
        exact z4 3 j (fun q => by have := q.2; omega)
      have g : (fd_sl (fd_si (ap_s τ (5 + l) (20 + i)) (20 + i) 13 (mpay σ i)) 0 6 (σ.2.2.2 0 6 + (mpay σ i).toInt64)).2.2.1 = (ap_s σ (5 + l) (20 + i)).2.2.1 := by
        show (ap_s τ (5 + l) (20 + i)).2.2.1 = _
        unfold ap_s
        rw [z2]
      have gN : (fd_sl (fd_si (ap_s τ (5 + l) (20 + i)) (20 + i) 13 (mpay σ i)) 0 6 (σ.2.2.2 0 6 + (mpay σ i).toInt64)).1 = σ.1 := z1
      have gL : ∀ a j, (fd_sl (fd_si (ap_s τ (5 + l) (20 + i)) (20 + i) 13 (mpay σ i)) 0 6 (σ.2.2.2 0 6 + (mpay σ i).toInt64)).2.2.2 a j = if a = 0 ∧ j = 6 then σ.2.2.2 0 6 + (mpay σ i).toInt64 else σ.2.2.2 a j := fun a j => by
        rw [sl_at]
        show (if _ then _ else τ.2.2.2 a j) = _
        rw [z3]
      generalize fd_sl (fd_si (ap_s τ (5 + l) (20 + i)) (20 + i) 13 (mpay σ i)) 0 6 (σ.2.2.2 0 6 + (mpay σ i).toInt64) = π at *
      have g9 : ∀ j, π.2.2.1 9 j = σ.2.2.1 9 j := fun j => by
        rw [g]
        show (if 9 = 20 + i then _ else if 9 = 5 + l then _ else σ.2.2.1 9 j) = _
        rw [if_neg (by omega), if_neg (by omega)]
      have fm : ∀ a j, 9 ≤ a → a < 20 → π.2.1 a j = σ.2.1 a j := fun a j c1 c2 => f1 a j (by omega) (by omega) (by omega)
      have mB : Mb π := by
        have hM := h.M
        unfold Mb at hM ⊢
        simp only [g9, gN]
        exact hM
      have hqv : ∀ w s i, qv π w s i = qv σ w s i := fun w s i => qv_c (fm 10 _ (by decide) (by decide)) (fm 11 _ (by decide) (by decide)) (fm 12 _ (by decide) (by decide)) w s
      have hkd : ∀ i, kd π i = kd σ i := fun i => kd_c (fm 10 _ (by decide) (by decide))
      have hsv : ∀ l k, sv π l k = sv σ l k := fun l k => sv_c (fm 18 _ (by decide) (by decide))
      have hW : ∀ l m, W3 σ π l m := fun l m k _ => ⟨hsv l k, fun w => hqv w 0 _⟩
      have rm : mroom π l (mm σ l) i := by
        unfold mroom at q2 ⊢
        rw [hqv, hqv, sL_c (fm 15 _ (by decide) (by decide)) (hW l _), sM_c (hW l _), fm 16 _ (by decide) (by decide)]
        exact q2
      have nm : ¬ mnear π l (mm σ l) i := by
        unfold mnear at q3 ⊢
        rw [hkd, hkd, hsv, hqv, hqv]
        exact q3
      have pm : mpay π i = mpay σ i := by
        unfold mpay
        rw [hqv, hqv, hkd, fm 9 _ (by decide) (by decide)]
      refine k _ _ (by omega) (fun post' k' => ?_)
      refine m_board 93 n t (mm σ) x y π _ mB hn (by rw [fm 9 _ (by decide) (by decide)]; exact h.h90) (fun l' hl' => Vs_c (fun a j c1 c2 _ => fm a j (by omega) (by omega)) (hS l' hl')) (fun i' hi' => Vi_c (fm 10 _ (by decide) (by decide)) (hVi i' hi')) (by rw [fm 9 _ (by decide) (by decide)]; exact b3) b1 (fun a => absurd ⟨⟨i, hi, hx⟩, ⟨l, hl, hy⟩⟩ a) (fun i' l' hi' hx' hl' hy' => ?_)
      have ei : i' = i := (nI_eq (by omega) (by omega)).mp (hx'.symm.trans hx)
      have el : l' = l := (nI_eq (by omega) (by omega)).mp (hy'.symm.trans hy)
      subst ei
      subst el
      have p13 : π.2.1 13 i' = 0 := by rw [fm 13 _ (by decide) (by decide)]; exact q13
      refine ⟨fun z => absurd p13 z, fun _ z => absurd rm z, fun _ _ z => absurd z nm, fun _ _ _ => ⟨h60, fun ω hω => ?_⟩⟩
      rw [pm]
      have cp := Core_push h.1 hl hi w13 h60 q2.2
      unfold push at cp
      have w : ∀ a j, (mb_s π l' (mm σ l') i').2.1 a j = if a = 14 ∧ j = i' then mpay σ i' else if a = 13 ∧ j = i' then 1 else if a = 17 ∧ j = l' then nI (mm σ l' + 1) else if a = 18 ∧ j = 60 * l' + mm σ l' then nI i' else π.2.1 a j := fun a j => by
        show (fd_si (fd_si (fd_si (fd_si π 18 (60 * l' + mm σ l') (nI i')) 17 l' (nI (mm σ l' + 1))) 13 i' 1) 14 i' (mpay π i')).2.1 a j = _
        rw [si_at, si_at, si_at, si_at, pm]
      have wJ : ∀ a j, a < 10 → (mb_s π l' (mm σ l') i').2.1 a j = π.2.1 a j := fun a j ha => by rw [w, if_neg (by omega), if_neg (by omega), if_neg (by omega), if_neg (by omega)]
      have CP : Cp (mb_s π l' (mm σ l') i') n := by
        refine ⟨Core_p (τ := mb_s π l' (mm σ l') i') ?_ ?_ (fun a j c1 c2 c3 => ?_) (fun i2 hi2 => ?_) cp, Cs_c (σ := σ) (fun a j q => ?_) ?_ h.2⟩
        · exact gN
        · exact g
        · have a3 : a ≠ 3 := fun e => c1 (by unfold J0; omega)
          rw [w, si_at, si_at, si_at, f, ft a j a3, if_neg (by omega), if_neg (c := a = 20 + i' ∧ j = 13) (by omega)]
        · rw [w, w, if_neg (by omega), if_neg (by omega), if_neg (by omega), if_neg (by omega)]
          by_cases q : i2 = i'
          · subst q
            rw [if_pos ⟨rfl, rfl⟩, f, if_pos ⟨rfl, rfl⟩]
          · rw [if_neg (by omega), if_neg (by omega), if_neg (by omega), if_neg (by omega), f1 _ _ (by omega) (by omega) (by omega), f1 _ _ (by omega) (by omega) (by omega)]
            exact (h.1.2.2.1 i2 hi2).2.1
        · rw [w, if_neg (by omega), if_neg (by omega), if_neg (by omega), if_neg (by omega)]
          by_cases a3 : a = 3
          · subst a3
            exact f3 j (by omega)
          · exact f1 a j a3 (by omega) (by omega)
        · show (fd_sl (fd_si (fd_si (fd_si (fd_si π 18 (60 * l' + mm σ l') (nI i')) 17 l' (nI (mm σ l' + 1))) 13 i' 1) 14 i' (mpay π i')) 9 12 (π.2.2.2 9 12 + (mpay π i').toInt64)).2.2.2 0 6 = (fd_sl (fd_si (fd_si (fd_si (fd_si π 18 (60 * l' + mm σ l') (nI i')) 17 l' (nI (mm σ l' + 1))) 13 i' 1) 14 i' (mpay π i')) 9 12 (π.2.2.2 9 12 + (mpay π i').toInt64)).2.2.2 9 12
          rw [sl_at, sl_at, if_neg (by omega), if_pos ⟨rfl, rfl⟩]
          show π.2.2.2 0 6 = _
          rw [gL, gL, if_pos ⟨rfl, rfl⟩, if_neg (by omega), pm, s4]
      refine k' _ n (Cp_q CP (t := t) ?_ b1 hω)
      rw [wJ 9 14 (by decide), fm 9 14 (by decide) (by decide)]
      exact b3
