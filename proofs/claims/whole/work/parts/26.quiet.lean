def hvy (k : Nat) : Bool := decide (k = 2) || decide (k = 3) || decide (k = 4) || decide (k = 6)
def mrk (k : Nat) : Bool := decide (3 ≤ k)
def JQ (t i j : Nat) : Prop := i = 19 ∧ t ≤ j
section
variable (d i t0 : Nat) (k : Nat) (sz ld s : Int32) {σ0 τ : fd_S} {L : List Int32} {post : Option fd_V → fd_S → Prop}
set_option maxRecDepth 100000 in
theorem ok_mlen (hB : Mb σ0) (hi : i < 60) (hk7 : k < 7) (hk : σ0.2.1 10 i = nI k) (hs : σ0.2.1 11 i = sz) (hl : σ0.2.1 12 i = ld) (hM : Md σ0 t0 L τ) (ht : t0 + L.length + 3 ≤ 60) (h1 : ∀ τ', Md σ0 t0 (L ++ (an_w k sz ld s 16 k 0).2) τ' → post (some (.inl (an_w k sz ld s 16 k 0).1)) τ') : fd_Sem (d + 2) 53 [.inr (.inr (.inl (some 9))), .inl (nI i)] τ post := by
  match k, hk7, hk, h1 with
  | 0, _, hk, h1 => exact ok_mlen_0 d i t0 sz ld s hB hi hk hs hl hM ht h1
  | 1, _, hk, h1 => exact ok_mlen_1 d i t0 sz ld s hB hi hk hs hl hM ht h1
  | 2, _, hk, h1 => exact ok_mlen_2 d i t0 sz ld s hB hi hk hs hl hM ht h1
  | 3, _, hk, h1 => exact ok_mlen_3 d i t0 sz ld s hB hi hk hs hl hM ht h1
  | 4, _, hk, h1 => exact ok_mlen_4 d i t0 sz ld s hB hi hk hs hl hM ht h1
  | 5, _, hk, h1 => exact ok_mlen_5 d i t0 sz ld s hB hi hk hs hl hM ht h1
  | 6, _, hk, h1 => exact ok_mlen_6 d i t0 sz ld s hB hi hk hs hl hM ht h1
set_option maxRecDepth 100000 in
theorem ok_mmass (hB : Mb σ0) (hi : i < 60) (hk7 : k < 7) (hk : σ0.2.1 10 i = nI k) (hs : σ0.2.1 11 i = sz) (hl : σ0.2.1 12 i = ld) (hM : Md σ0 t0 L τ) (ht : t0 + L.length + 3 ≤ 60) (h1 : ∀ τ', Md σ0 t0 (L ++ (an_w k sz ld s 16 k 1).2) τ' → post (some (.inl (an_w k sz ld s 16 k 1).1)) τ') : fd_Sem (d + 2) 54 [.inr (.inr (.inl (some 9))), .inl (nI i)] τ post := by
  match k, hk7, hk, h1 with
  | 0, _, hk, h1 => exact ok_mmass_0 d i t0 sz ld s hB hi hk hs hl hM ht h1
  | 1, _, hk, h1 => exact ok_mmass_1 d i t0 sz ld s hB hi hk hs hl hM ht h1
  | 2, _, hk, h1 => exact ok_mmass_2 d i t0 sz ld s hB hi hk hs hl hM ht h1
  | 3, _, hk, h1 => exact ok_mmass_3 d i t0 sz ld s hB hi hk hs hl hM ht h1
  | 4, _, hk, h1 => exact ok_mmass_4 d i t0 sz ld s hB hi hk hs hl hM ht h1
  | 5, _, hk, h1 => exact ok_mmass_5 d i t0 sz ld s hB hi hk hs hl hM ht h1
  | 6, _, hk, h1 => exact ok_mmass_6 d i t0 sz ld s hB hi hk hs hl hM ht h1
set_option maxRecDepth 100000 in
theorem ok_mmin (hB : Mb σ0) (hi : i < 60) (hk7 : k < 7) (hk : σ0.2.1 10 i = nI k) (hs : σ0.2.1 11 i = sz) (hl : σ0.2.1 12 i = ld) (hM : Md σ0 t0 L τ) (ht : t0 + L.length + 5 ≤ 60) (h1 : ∀ τ', Md σ0 t0 (L ++ (an_w k sz ld s 16 k 2).2) τ' → post (some (.inl (an_w k sz ld s 16 k 2).1)) τ') : fd_Sem (d + 3) 55 [.inr (.inr (.inl (some 9))), .inl (nI i)] τ post := by
  match k, hk7, hk, h1 with
  | 0, _, hk, h1 => exact ok_mmin_0 d i t0 sz ld s hB hi hk hs hl hM ht h1
  | 1, _, hk, h1 => exact ok_mmin_1 d i t0 sz ld s hB hi hk hs hl hM ht h1
  | 2, _, hk, h1 => exact ok_mmin_2 d i t0 sz ld s hB hi hk hs hl hM ht h1
  | 3, _, hk, h1 => exact ok_mmin_3 d i t0 sz ld s hB hi hk hs hl hM ht h1
  | 4, _, hk, h1 => exact ok_mmin_4 d i t0 sz ld s hB hi hk hs hl hM ht h1
  | 5, _, hk, h1 => exact ok_mmin_5 d i t0 sz ld s hB hi hk hs hl hM ht h1
  | 6, _, hk, h1 => exact ok_mmin_6 d i t0 sz ld s hB hi hk hs hl hM ht h1
set_option maxRecDepth 100000 in
theorem ok_mfare (hB : Mb σ0) (hi : i < 60) (hk7 : k < 7) (hk : σ0.2.1 10 i = nI k) (hs : σ0.2.1 11 i = sz) (hl : σ0.2.1 12 i = ld) (hM : Md σ0 t0 L τ) (ht : t0 + L.length + 10 ≤ 60) (h1 : ∀ τ', Md σ0 t0 (L ++ (an_w k sz ld s 16 k 3).2) τ' → post (some (.inl (an_w k sz ld s 16 k 3).1)) τ') : fd_Sem (d + 3) 56 [.inr (.inr (.inl (some 9))), .inl (nI i), .inl s] τ post := by
  match k, hk7, hk, h1 with
  | 0, _, hk, h1 => exact ok_mfare_0 d i t0 sz ld s hB hi hk hs hl hM ht h1
  | 1, _, hk, h1 => exact ok_mfare_1 d i t0 sz ld s hB hi hk hs hl hM ht h1
  | 2, _, hk, h1 => exact ok_mfare_2 d i t0 sz ld s hB hi hk hs hl hM ht h1
  | 3, _, hk, h1 => exact ok_mfare_3 d i t0 sz ld s hB hi hk hs hl hM ht h1
  | 4, _, hk, h1 => exact ok_mfare_4 d i t0 sz ld s hB hi hk hs hl hM ht h1
  | 5, _, hk, h1 => exact ok_mfare_5 d i t0 sz ld s hB hi hk hs hl hM ht h1
  | 6, _, hk, h1 => exact ok_mfare_6 d i t0 sz ld s hB hi hk hs hl hM ht h1
set_option maxRecDepth 100000 in
theorem ok_mtoll (hB : Mb σ0) (hi : i < 60) (hk7 : k < 7) (hh : hvy k = true) (hk : σ0.2.1 10 i = nI k) (hs : σ0.2.1 11 i = sz) (hl : σ0.2.1 12 i = ld) (hM : Md σ0 t0 L τ) (ht : t0 + L.length + 4 ≤ 60) (h1 : ∀ τ', Md σ0 t0 (L ++ (an_w k sz ld s 16 k 4).2) τ' → post (some (.inl (an_w k sz ld s 16 k 4).1)) τ') : fd_Sem (d + 3) 59 [.inr (.inr (.inl (some 9))), .inl (nI i)] τ post := by
  match k, hk7, hh, hk, h1 with
  | 0, _, hh, _, _ => cases hh
  | 1, _, hh, _, _ => cases hh
  | 2, _, _, hk, h1 => exact ok_mtoll_2 d i t0 sz ld s hB hi hk hs hl hM ht h1
  | 3, _, _, hk, h1 => exact ok_mtoll_3 d i t0 sz ld s hB hi hk hs hl hM ht h1
  | 4, _, _, hk, h1 => exact ok_mtoll_4 d i t0 sz ld s hB hi hk hs hl hM ht h1
  | 5, _, hh, _, _ => cases hh
  | 6, _, _, hk, h1 => exact ok_mtoll_6 d i t0 sz ld s hB hi hk hs hl hM ht h1
set_option maxRecDepth 100000 in
theorem ok_mdang (hB : Mb σ0) (hi : i < 60) (hk7 : k < 7) (hh : mrk k = true) (hk : σ0.2.1 10 i = nI k) (hs : σ0.2.1 11 i = sz) (hl : σ0.2.1 12 i = ld) (hM : Md σ0 t0 L τ) (ht : t0 + L.length + 6 ≤ 60) (h1 : ∀ τ', Md σ0 t0 (L ++ (an_w k sz ld s 16 k 5).2) τ' → post (some (.inl (an_w k sz ld s 16 k 5).1)) τ') : fd_Sem (d + 4) 60 [.inr (.inr (.inl (some 9))), .inl (nI i)] τ post := by
  match k, hk7, hh, hk, h1 with
  | 0, _, hh, _, _ => cases hh
  | 1, _, hh, _, _ => cases hh
  | 2, _, hh, _, _ => cases hh
  | 3, _, _, hk, h1 => exact ok_mdang_3 d i t0 sz ld s hB hi hk hs hl hM ht h1
  | 4, _, _, hk, h1 => exact ok_mdang_4 d i t0 sz ld s hB hi hk hs hl hM ht h1
  | 5, _, _, hk, h1 => exact ok_mdang_5 d i t0 sz ld s hB hi hk hs hl hM ht h1
  | 6, _, _, hk, h1 => exact ok_mdang_6 d i t0 sz ld s hB hi hk hs hl hM ht h1
end
theorem ok_mheavy (d k : Nat) (σ : fd_S) (post : Option fd_V → fd_S → Prop) (hk7 : k < 7) (h1 : hvy k = true → post (some (.inl 1)) σ) (h2 : hvy k = false → post (some (.inl 0)) σ) : fd_Sem (d + 2) 57 [.inl (nI k)] σ post := by
  match k, hk7, h1, h2 with
  | 0, _, _, h2 =>
    intro X hX hV
    repeat (first | refine hX _ _ _ _ _ _ ?_ | refine Exists.intro _ (And.intro (by first | rfl | assumption) (And.intro (by first | assumption | exact fd_lt20 h20 (by decide) | exact md_lt (by assumption) h20 (by decide)) (And.intro (by first | rfl | assumption) ?_))) | refine And.intro (fun hc => absurd hc (by dsimp only [fd_icmp]; decide)) (fun _ => ?_) | refine And.intro (fun _ => ?_) (fun hc => absurd hc (by dsimp only [fd_icmp]; decide)) | refine And.intro (by decide) ?_ | refine md_iald (by assumption) h20 (by assumption) (by decide) rfl hi (by assumption) (by decide) (by decide) ?_ | refine ok_in _ _ _ _ _ _ (fun _ _ => ?_) (fun hc => absurd (by decide) hc) | refine ok_in _ _ _ _ _ _ (fun h1 h2 => absurd (And.intro h1 h2) (by decide)) (fun _ => ?_) | (refine ok_began _ _ h20 r13 (by assumption) (by first | omega | (simp only [List.length_append, List.length_cons, List.length_nil]; omega)) (fun τ hM => ?_)))
    exact h2 rfl
  | 1, _, _, h2 =>
    intro X hX hV
    repeat (first | refine hX _ _ _ _ _ _ ?_ | refine Exists.intro _ (And.intro (by first | rfl | assumption) (And.intro (by first | assumption | exact fd_lt20 h20 (by decide) | exact md_lt (by assumption) h20 (by decide)) (And.intro (by first | rfl | assumption) ?_))) | refine And.intro (fun hc => absurd hc (by dsimp only [fd_icmp]; decide)) (fun _ => ?_) | refine And.intro (fun _ => ?_) (fun hc => absurd hc (by dsimp only [fd_icmp]; decide)) | refine And.intro (by decide) ?_ | refine md_iald (by assumption) h20 (by assumption) (by decide) rfl hi (by assumption) (by decide) (by decide) ?_ | refine ok_in _ _ _ _ _ _ (fun _ _ => ?_) (fun hc => absurd (by decide) hc) | refine ok_in _ _ _ _ _ _ (fun h1 h2 => absurd (And.intro h1 h2) (by decide)) (fun _ => ?_) | (refine ok_began _ _ h20 r13 (by assumption) (by first | omega | (simp only [List.length_append, List.length_cons, List.length_nil]; omega)) (fun τ hM => ?_)))
    exact h2 rfl
  | 2, _, h1, _ =>
    intro X hX hV
    repeat (first | refine hX _ _ _ _ _ _ ?_ | refine Exists.intro _ (And.intro (by first | rfl | assumption) (And.intro (by first | assumption | exact fd_lt20 h20 (by decide) | exact md_lt (by assumption) h20 (by decide)) (And.intro (by first | rfl | assumption) ?_))) | refine And.intro (fun hc => absurd hc (by dsimp only [fd_icmp]; decide)) (fun _ => ?_) | refine And.intro (fun _ => ?_) (fun hc => absurd hc (by dsimp only [fd_icmp]; decide)) | refine And.intro (by decide) ?_ | refine md_iald (by assumption) h20 (by assumption) (by decide) rfl hi (by assumption) (by decide) (by decide) ?_ | refine ok_in _ _ _ _ _ _ (fun _ _ => ?_) (fun hc => absurd (by decide) hc) | refine ok_in _ _ _ _ _ _ (fun h1 h2 => absurd (And.intro h1 h2) (by decide)) (fun _ => ?_) | (refine ok_began _ _ h20 r13 (by assumption) (by first | omega | (simp only [List.length_append, List.length_cons, List.length_nil]; omega)) (fun τ hM => ?_)))
    exact h1 rfl
  | 3, _, h1, _ =>
    intro X hX hV
    repeat (first | refine hX _ _ _ _ _ _ ?_ | refine Exists.intro _ (And.intro (by first | rfl | assumption) (And.intro (by first | assumption | exact fd_lt20 h20 (by decide) | exact md_lt (by assumption) h20 (by decide)) (And.intro (by first | rfl | assumption) ?_))) | refine And.intro (fun hc => absurd hc (by dsimp only [fd_icmp]; decide)) (fun _ => ?_) | refine And.intro (fun _ => ?_) (fun hc => absurd hc (by dsimp only [fd_icmp]; decide)) | refine And.intro (by decide) ?_ | refine md_iald (by assumption) h20 (by assumption) (by decide) rfl hi (by assumption) (by decide) (by decide) ?_ | refine ok_in _ _ _ _ _ _ (fun _ _ => ?_) (fun hc => absurd (by decide) hc) | refine ok_in _ _ _ _ _ _ (fun h1 h2 => absurd (And.intro h1 h2) (by decide)) (fun _ => ?_) | (refine ok_began _ _ h20 r13 (by assumption) (by first | omega | (simp only [List.length_append, List.length_cons, List.length_nil]; omega)) (fun τ hM => ?_)))
    exact h1 rfl
  | 4, _, h1, _ =>
    intro X hX hV
    repeat (first | refine hX _ _ _ _ _ _ ?_ | refine Exists.intro _ (And.intro (by first | rfl | assumption) (And.intro (by first | assumption | exact fd_lt20 h20 (by decide) | exact md_lt (by assumption) h20 (by decide)) (And.intro (by first | rfl | assumption) ?_))) | refine And.intro (fun hc => absurd hc (by dsimp only [fd_icmp]; decide)) (fun _ => ?_) | refine And.intro (fun _ => ?_) (fun hc => absurd hc (by dsimp only [fd_icmp]; decide)) | refine And.intro (by decide) ?_ | refine md_iald (by assumption) h20 (by assumption) (by decide) rfl hi (by assumption) (by decide) (by decide) ?_ | refine ok_in _ _ _ _ _ _ (fun _ _ => ?_) (fun hc => absurd (by decide) hc) | refine ok_in _ _ _ _ _ _ (fun h1 h2 => absurd (And.intro h1 h2) (by decide)) (fun _ => ?_) | (refine ok_began _ _ h20 r13 (by assumption) (by first | omega | (simp only [List.length_append, List.length_cons, List.length_nil]; omega)) (fun τ hM => ?_)))
    exact h1 rfl
  | 5, _, _, h2 =>
    intro X hX hV
    repeat (first | refine hX _ _ _ _ _ _ ?_ | refine Exists.intro _ (And.intro (by first | rfl | assumption) (And.intro (by first | assumption | exact fd_lt20 h20 (by decide) | exact md_lt (by assumption) h20 (by decide)) (And.intro (by first | rfl | assumption) ?_))) | refine And.intro (fun hc => absurd hc (by dsimp only [fd_icmp]; decide)) (fun _ => ?_) | refine And.intro (fun _ => ?_) (fun hc => absurd hc (by dsimp only [fd_icmp]; decide)) | refine And.intro (by decide) ?_ | refine md_iald (by assumption) h20 (by assumption) (by decide) rfl hi (by assumption) (by decide) (by decide) ?_ | refine ok_in _ _ _ _ _ _ (fun _ _ => ?_) (fun hc => absurd (by decide) hc) | refine ok_in _ _ _ _ _ _ (fun h1 h2 => absurd (And.intro h1 h2) (by decide)) (fun _ => ?_) | (refine ok_began _ _ h20 r13 (by assumption) (by first | omega | (simp only [List.length_append, List.length_cons, List.length_nil]; omega)) (fun τ hM => ?_)))
    exact h2 rfl
  | 6, _, h1, _ =>
    intro X hX hV
    repeat (first | refine hX _ _ _ _ _ _ ?_ | refine Exists.intro _ (And.intro (by first | rfl | assumption) (And.intro (by first | assumption | exact fd_lt20 h20 (by decide) | exact md_lt (by assumption) h20 (by decide)) (And.intro (by first | rfl | assumption) ?_))) | refine And.intro (fun hc => absurd hc (by dsimp only [fd_icmp]; decide)) (fun _ => ?_) | refine And.intro (fun _ => ?_) (fun hc => absurd hc (by dsimp only [fd_icmp]; decide)) | refine And.intro (by decide) ?_ | refine md_iald (by assumption) h20 (by assumption) (by decide) rfl hi (by assumption) (by decide) (by decide) ?_ | refine ok_in _ _ _ _ _ _ (fun _ _ => ?_) (fun hc => absurd (by decide) hc) | refine ok_in _ _ _ _ _ _ (fun h1 h2 => absurd (And.intro h1 h2) (by decide)) (fun _ => ?_) | (refine ok_began _ _ h20 r13 (by assumption) (by first | omega | (simp only [List.length_append, List.length_cons, List.length_nil]; omega)) (fun τ hM => ?_)))
    exact h1 rfl
theorem ok_mmarked (d k : Nat) (σ : fd_S) (post : Option fd_V → fd_S → Prop) (hk7 : k < 7) (h1 : mrk k = true → post (some (.inl 1)) σ) (h2 : mrk k = false → post (some (.inl 0)) σ) : fd_Sem (d + 1) 58 [.inl (nI k)] σ post := by
  intro X hX hV
  repeat refine hX _ _ _ _ _ _ ?_
  refine And.intro (fun hc => ?_) (fun hc => ?_) <;> try dsimp only [fd_icmp] at hc
  · have hc : nI k < nI 3 := hc
    rw [nI_ltI (by omega) (by omega)] at hc
    repeat refine hX _ _ _ _ _ _ ?_
    exact And.intro (Or.inl rfl) (h2 (by simp [mrk]; omega))
  · have hc : ¬ nI k < nI 3 := hc
    rw [nI_ltI (by omega) (by omega)] at hc
    repeat refine hX _ _ _ _ _ _ ?_
    exact And.intro (Or.inr rfl) (h1 (by simp [mrk]; omega))
theorem ok_isVehicle (d n : Nat) (x : Int32) (σ : fd_S) (post : Option fd_V → fd_S → Prop) (h20 : 20 ≤ σ.1) (hn : n ≤ 60) (h90 : σ.2.1 9 0 = nI n) (h1 : ∀ i, i < n → x = nI i → post (some (.inl 1)) σ) (h2 : (∀ i, i < n → x ≠ nI i) → post (some (.inl 0)) σ) : fd_Sem (d + 2) 49 [.inr (.inr (.inl (some 9))), .inl x] σ post := by
  intro X hX hV
  repeat (first | refine hX _ _ _ _ _ _ ?_ | refine Exists.intro _ (And.intro (by first | rfl | assumption) (And.intro (by first | assumption | exact fd_lt20 h20 (by decide)) (And.intro (by first | rfl | assumption) ?_))))
  rw [h90]
  refine ok_in _ _ _ _ _ _ (fun ha hb => ?_) (fun ha => ?_)
  · obtain ⟨i, hi, e⟩ := ix_of hn ha hb
    repeat refine hX _ _ _ _ _ _ ?_
    exact And.intro (Or.inr rfl) (h1 i hi e)
  · repeat refine hX _ _ _ _ _ _ ?_
    refine And.intro (Or.inl rfl) (h2 (fun i hi hx => ha ?_))
    rw [hx]
    exact ix_to hn hi
theorem ok_isLane (d : Nat) (x : Int32) (σ : fd_S) (post : Option fd_V → fd_S → Prop) (h1 : ∀ i, i < 4 → x = nI i → post (some (.inl 1)) σ) (h2 : (∀ i, i < 4 → x ≠ nI i) → post (some (.inl 0)) σ) : fd_Sem (d + 2) 50 [.inl x] σ post := by
  intro X hX hV
  repeat (first | refine hX _ _ _ _ _ _ ?_ | refine Exists.intro _ (And.intro (by first | rfl | assumption) (And.intro (by first | assumption | exact fd_lt20 h20 (by decide)) (And.intro (by first | rfl | assumption) ?_))))
  refine ok_in _ _ _ _ _ _ (fun ha hb => ?_) (fun ha => ?_)
  · rw [ix_4] at hb
    obtain ⟨i, hi, e⟩ := ix_of (by decide) ha hb
    repeat refine hX _ _ _ _ _ _ ?_
    exact And.intro (Or.inr rfl) (h1 i hi e)
  · repeat refine hX _ _ _ _ _ _ ?_
    refine And.intro (Or.inl rfl) (h2 (fun i hi hx => ha ?_))
    rw [hx, ix_4]
    exact ix_to (by decide) hi
theorem md_q {σ τ : fd_S} {t : Nat} {L : List Int32} (h : Md σ t L τ) : SE (JQ t) σ (fd_si τ 9 14 (σ.2.1 9 14)) := by
  refine ⟨h.1.1, h.1.2.1, h.1.2.2.1, fun i j hj => ?_⟩
  show fd_u τ.2.1 9 14 _ i j = _
  by_cases h9 : i = 9 ∧ j = 14
  · obtain ⟨rfl, rfl⟩ := h9
    rw [fd_u_eq]
  · have := h.1.2.2.2 i j (fun q => q.elim hj h9)
    rw [← this]
    unfold fd_u
    grind
theorem se_iald {P : Nat → Nat → Prop} {σ τ : fd_S} (h : SE P σ τ) (h20 : 20 ≤ σ.1) {f a n i : Nat} {x y : Int32} {X : fd_X} {nx : List fd_E} {lv : fd_L} {t : List fd_V} {cc ss : Nat} (hf : σ.2.2.1 9 f = some a) (ha : a < 20) (hs : fd_sh a = .inr (n, none)) (hy : y = nI i) (hi : i < n) (hx : σ.2.1 a i = x) (hP : ¬ P a i) (hn : n < 2 ^ 31) (k : X nx lv (.inl x :: t) τ cc ss) : fd_ial none X nx lv (.inl y :: .inr (.inr (.inl (τ.2.2.1 9 f))) :: t) τ cc ss := by
  subst hy
  have e : τ.2.1 a (nI i).toNatClampNeg = x := by
    rw [nI_clamp (by omega), h.2.2.2 a i hP]
    exact hx
  refine ⟨a, n, by rw [h.2.1]; exact hf, by rw [h.1]; omega, hs, vp_in_nI hi hn, ?_⟩
  rw [e]
  exact k
section
variable (d i k t : Nat) (sz ld s : Int32) (σ : fd_S) (post : Option fd_V → fd_S → Prop)
theorem ok_quiet_0 (hB : Mb σ) (hi : i < 60) (hk7 : k < 7) (hk : σ.2.1 10 i = nI k) (hs : σ.2.1 11 i = sz) (hl : σ.2.1 12 i = ld) (ht : σ.2.1 9 14 = nI t) (ht10 : t ≤ 10) (h1 : ∀ τ, SE (JQ t) σ τ → post (some (.inl (an_w k sz ld s 16 k 0).1)) τ) : fd_Sem (d + 5) 63 [.inr (.inr (.inl (some 9))), .inl (nI i), .inl 0, .inl s] σ post := by
  obtain ⟨h20, r1, r2, r3, r4, r5, r6, r7, r8, r9, r13⟩ := id hB
  have hM : Md σ t [] σ := ⟨SE.rf σ, by simpa using ht, fun j hj => by simp at hj⟩
  intro X hX hV
  repeat (first | refine hX _ _ _ _ _ _ ?_ | refine Exists.intro _ (And.intro (by first | rfl | assumption) (And.intro (by first | assumption | exact fd_lt20 h20 (by decide)) (And.intro (by first | rfl | assumption) ?_))))
  refine Or.inl (Exists.intro 0 (Exists.intro _ (And.intro rfl (And.intro (by decide) ?_))))
  repeat (first | refine hX _ _ _ _ _ _ ?_ | refine Exists.intro _ (And.intro (by first | rfl | assumption) (And.intro (by first | assumption | exact fd_lt20 h20 (by decide)) (And.intro (by first | rfl | assumption) ?_))))
  refine ok_mlen _ i t k sz ld s hB hi hk7 hk hs hl hM (by simp; omega) (fun τ hτ => ?_)
  have h9 : 9 < τ.1 := md_lt hτ h20 (by decide)
  repeat (first | refine hX _ _ _ _ _ _ ?_ | refine Exists.intro _ (And.intro (by first | rfl | assumption) (And.intro (by first | assumption | exact fd_lt20 h20 (by decide)) (And.intro (by first | rfl | assumption) ?_))))
  exact h1 _ (md_q hτ)
theorem ok_quiet_1 (hB : Mb σ) (hi : i < 60) (hk7 : k < 7) (hk : σ.2.1 10 i = nI k) (hs : σ.2.1 11 i = sz) (hl : σ.2.1 12 i = ld) (ht : σ.2.1 9 14 = nI t) (ht10 : t ≤ 10) (h1 : ∀ τ, SE (JQ t) σ τ → post (some (.inl (an_w k sz ld s 16 k 1).1)) τ) : fd_Sem (d + 5) 63 [.inr (.inr (.inl (some 9))), .inl (nI i), .inl 1, .inl s] σ post := by
  obtain ⟨h20, r1, r2, r3, r4, r5, r6, r7, r8, r9, r13⟩ := id hB
  have hM : Md σ t [] σ := ⟨SE.rf σ, by simpa using ht, fun j hj => by simp at hj⟩
  intro X hX hV
  repeat (first | refine hX _ _ _ _ _ _ ?_ | refine Exists.intro _ (And.intro (by first | rfl | assumption) (And.intro (by first | assumption | exact fd_lt20 h20 (by decide)) (And.intro (by first | rfl | assumption) ?_))))
  refine Or.inl (Exists.intro 1 (Exists.intro _ (And.intro rfl (And.intro (by decide) ?_))))
  repeat (first | refine hX _ _ _ _ _ _ ?_ | refine Exists.intro _ (And.intro (by first | rfl | assumption) (And.intro (by first | assumption | exact fd_lt20 h20 (by decide)) (And.intro (by first | rfl | assumption) ?_))))
  refine ok_mmass _ i t k sz ld s hB hi hk7 hk hs hl hM (by simp; omega) (fun τ hτ => ?_)
  have h9 : 9 < τ.1 := md_lt hτ h20 (by decide)
  repeat (first | refine hX _ _ _ _ _ _ ?_ | refine Exists.intro _ (And.intro (by first | rfl | assumption) (And.intro (by first | assumption | exact fd_lt20 h20 (by decide)) (And.intro (by first | rfl | assumption) ?_))))
  exact h1 _ (md_q hτ)
theorem ok_quiet_2 (hB : Mb σ) (hi : i < 60) (hk7 : k < 7) (hk : σ.2.1 10 i = nI k) (hs : σ.2.1 11 i = sz) (hl : σ.2.1 12 i = ld) (ht : σ.2.1 9 14 = nI t) (ht10 : t ≤ 10) (h1 : ∀ τ, SE (JQ t) σ τ → post (some (.inl (an_w k sz ld s 16 k 2).1)) τ) : fd_Sem (d + 5) 63 [.inr (.inr (.inl (some 9))), .inl (nI i), .inl 2, .inl s] σ post := by
  obtain ⟨h20, r1, r2, r3, r4, r5, r6, r7, r8, r9, r13⟩ := id hB
  have hM : Md σ t [] σ := ⟨SE.rf σ, by simpa using ht, fun j hj => by simp at hj⟩
  intro X hX hV
  repeat (first | refine hX _ _ _ _ _ _ ?_ | refine Exists.intro _ (And.intro (by first | rfl | assumption) (And.intro (by first | assumption | exact fd_lt20 h20 (by decide)) (And.intro (by first | rfl | assumption) ?_))))
  refine Or.inl (Exists.intro 2 (Exists.intro _ (And.intro rfl (And.intro (by decide) ?_))))
  repeat (first | refine hX _ _ _ _ _ _ ?_ | refine Exists.intro _ (And.intro (by first | rfl | assumption) (And.intro (by first | assumption | exact fd_lt20 h20 (by decide)) (And.intro (by first | rfl | assumption) ?_))))
  refine ok_mmin _ i t k sz ld s hB hi hk7 hk hs hl hM (by simp; omega) (fun τ hτ => ?_)
  have h9 : 9 < τ.1 := md_lt hτ h20 (by decide)
  repeat (first | refine hX _ _ _ _ _ _ ?_ | refine Exists.intro _ (And.intro (by first | rfl | assumption) (And.intro (by first | assumption | exact fd_lt20 h20 (by decide)) (And.intro (by first | rfl | assumption) ?_))))
  exact h1 _ (md_q hτ)
theorem ok_quiet_3 (hB : Mb σ) (hi : i < 60) (hk7 : k < 7) (hk : σ.2.1 10 i = nI k) (hs : σ.2.1 11 i = sz) (hl : σ.2.1 12 i = ld) (ht : σ.2.1 9 14 = nI t) (ht10 : t ≤ 10) (h1 : ∀ τ, SE (JQ t) σ τ → post (some (.inl (an_w k sz ld s 16 k 3).1)) τ) : fd_Sem (d + 5) 63 [.inr (.inr (.inl (some 9))), .inl (nI i), .inl 3, .inl s] σ post := by
  obtain ⟨h20, r1, r2, r3, r4, r5, r6, r7, r8, r9, r13⟩ := id hB
  have hM : Md σ t [] σ := ⟨SE.rf σ, by simpa using ht, fun j hj => by simp at hj⟩
  intro X hX hV
  repeat (first | refine hX _ _ _ _ _ _ ?_ | refine Exists.intro _ (And.intro (by first | rfl | assumption) (And.intro (by first | assumption | exact fd_lt20 h20 (by decide)) (And.intro (by first | rfl | assumption) ?_))))
  refine Or.inl (Exists.intro 3 (Exists.intro _ (And.intro rfl (And.intro (by decide) ?_))))
  repeat (first | refine hX _ _ _ _ _ _ ?_ | refine Exists.intro _ (And.intro (by first | rfl | assumption) (And.intro (by first | assumption | exact fd_lt20 h20 (by decide)) (And.intro (by first | rfl | assumption) ?_))))
  refine ok_mfare _ i t k sz ld s hB hi hk7 hk hs hl hM (by simp; omega) (fun τ hτ => ?_)
  have h9 : 9 < τ.1 := md_lt hτ h20 (by decide)
  repeat (first | refine hX _ _ _ _ _ _ ?_ | refine Exists.intro _ (And.intro (by first | rfl | assumption) (And.intro (by first | assumption | exact fd_lt20 h20 (by decide)) (And.intro (by first | rfl | assumption) ?_))))
  exact h1 _ (md_q hτ)
theorem ok_quiet_4 (hB : Mb σ) (hi : i < 60) (hk7 : k < 7) (hk : σ.2.1 10 i = nI k) (hs : σ.2.1 11 i = sz) (hl : σ.2.1 12 i = ld) (ht : σ.2.1 9 14 = nI t) (ht10 : t ≤ 10) (h1 : ∀ τ, SE (JQ t) σ τ → post (some (.inl (if hvy k = true then (an_w k sz ld s 16 k 4).1 else 0))) τ) : fd_Sem (d + 5) 63 [.inr (.inr (.inl (some 9))), .inl (nI i), .inl 4, .inl s] σ post := by
  obtain ⟨h20, r1, r2, r3, r4, r5, r6, r7, r8, r9, r13⟩ := id hB
  have hM : Md σ t [] σ := ⟨SE.rf σ, by simpa using ht, fun j hj => by simp at hj⟩
  intro X hX hV
  repeat (first | refine hX _ _ _ _ _ _ ?_ | refine Exists.intro _ (And.intro (by first | rfl | assumption) (And.intro (by first | assumption | exact fd_lt20 h20 (by decide)) (And.intro (by first | rfl | assumption) ?_))))
  refine Or.inl (Exists.intro 4 (Exists.intro _ (And.intro rfl (And.intro (by decide) ?_))))
  repeat (first | refine hX _ _ _ _ _ _ ?_ | refine Exists.intro _ (And.intro (by first | rfl | assumption) (And.intro (by first | assumption | exact fd_lt20 h20 (by decide)) (And.intro (by first | rfl | assumption) ?_))))
  refine se_iald (SE.rf (P := fun _ _ => False) σ) h20 r1 (by decide) rfl rfl hi hk id (by decide) ?_
  repeat (first | refine hX _ _ _ _ _ _ ?_ | refine Exists.intro _ (And.intro (by first | rfl | assumption) (And.intro (by first | assumption | exact fd_lt20 h20 (by decide)) (And.intro (by first | rfl | assumption) ?_))))
  refine ok_mheavy _ k _ _ hk7 (fun hh => ?_) (fun hh => ?_)
  · repeat refine hX _ _ _ _ _ _ ?_
    refine And.intro (fun hc => absurd (show (1 : Int32) = 0 from hc) (by decide)) (fun _ => ?_)
    repeat (first | refine hX _ _ _ _ _ _ ?_ | refine Exists.intro _ (And.intro (by first | rfl | assumption) (And.intro (by first | assumption | exact fd_lt20 h20 (by decide)) (And.intro (by first | rfl | assumption) ?_))))
    refine ok_mtoll _ i t k sz ld s hB hi hk7 hh hk hs hl hM (by simp; omega) (fun τ hτ => ?_)
    have h9 : 9 < τ.1 := md_lt hτ h20 (by decide)
    repeat (first | refine hX _ _ _ _ _ _ ?_ | refine Exists.intro _ (And.intro (by first | rfl | assumption) (And.intro (by first | assumption | exact fd_lt20 h20 (by decide)) (And.intro (by first | rfl | assumption) ?_))))
    have h1 := h1 _ (md_q hτ)
    rw [if_pos hh] at h1
    exact h1
  · repeat refine hX _ _ _ _ _ _ ?_
    refine And.intro (fun _ => ?_) (fun hc => absurd (show (0 : Int32) = 0 from rfl) hc)
    repeat (first | refine hX _ _ _ _ _ _ ?_ | refine Exists.intro _ (And.intro (by first | rfl | assumption) (And.intro (by first | assumption | exact fd_lt20 h20 (by decide)) (And.intro (by first | rfl | assumption) ?_))))
    have h1 := h1 _ (md_q hM)
    rw [if_neg (by rw [hh]; decide)] at h1
    exact h1
theorem ok_quiet_5 (hB : Mb σ) (hi : i < 60) (hk7 : k < 7) (hm : mrk k = true) (hk : σ.2.1 10 i = nI k) (hs : σ.2.1 11 i = sz) (hl : σ.2.1 12 i = ld) (ht : σ.2.1 9 14 = nI t) (ht10 : t ≤ 10) (h1 : ∀ τ, SE (JQ t) σ τ → post (some (.inl (an_w k sz ld s 16 k 5).1)) τ) : fd_Sem (d + 5) 63 [.inr (.inr (.inl (some 9))), .inl (nI i), .inl 5, .inl s] σ post := by
  obtain ⟨h20, r1, r2, r3, r4, r5, r6, r7, r8, r9, r13⟩ := id hB
  have hM : Md σ t [] σ := ⟨SE.rf σ, by simpa using ht, fun j hj => by simp at hj⟩
  intro X hX hV
  repeat (first | refine hX _ _ _ _ _ _ ?_ | refine Exists.intro _ (And.intro (by first | rfl | assumption) (And.intro (by first | assumption | exact fd_lt20 h20 (by decide)) (And.intro (by first | rfl | assumption) ?_))))
  refine Or.inr (And.intro (by decide) ?_)
  repeat (first | refine hX _ _ _ _ _ _ ?_ | refine Exists.intro _ (And.intro (by first | rfl | assumption) (And.intro (by first | assumption | exact fd_lt20 h20 (by decide)) (And.intro (by first | rfl | assumption) ?_))))
  refine ok_mdang _ i t k sz ld s hB hi hk7 hm hk hs hl hM (by simp; omega) (fun τ hτ => ?_)
  have h9 : 9 < τ.1 := md_lt hτ h20 (by decide)
  repeat (first | refine hX _ _ _ _ _ _ ?_ | refine Exists.intro _ (And.intro (by first | rfl | assumption) (And.intro (by first | assumption | exact fd_lt20 h20 (by decide)) (And.intro (by first | rfl | assumption) ?_))))
  exact h1 _ (md_q hτ)
end
