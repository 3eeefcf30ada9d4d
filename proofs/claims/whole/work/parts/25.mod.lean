/-- the model's own cells -/
def Mb (σ : fd_S) : Prop := 20 ≤ σ.1 ∧ σ.2.2.1 9 1 = some 10 ∧ σ.2.2.1 9 2 = some 11 ∧ σ.2.2.1 9 3 = some 12 ∧ σ.2.2.1 9 4 = some 13 ∧ σ.2.2.1 9 5 = some 14 ∧ σ.2.2.1 9 6 = some 15 ∧ σ.2.2.1 9 7 = some 16 ∧ σ.2.2.1 9 8 = some 17 ∧ σ.2.2.1 9 9 = some 18 ∧ σ.2.2.1 9 13 = some 19
/-- the model's trace from t0 on, and how many it has -/
def JM (t0 i j : Nat) : Prop := (i = 19 ∧ t0 ≤ j) ∨ (i = 9 ∧ j = 14)
/-- since σ0 the model has begun the bodies L -/
def Md (σ0 : fd_S) (t0 : Nat) (L : List Int32) (τ : fd_S) : Prop := SE (JM t0) σ0 τ ∧ τ.2.1 9 14 = nI (t0 + L.length) ∧ ∀ j, j < L.length → τ.2.1 19 (t0 + j) = L.getD j 0
theorem md_lt {σ0 τ : fd_S} {t0 : Nat} {L : List Int32} (h : Md σ0 t0 L τ) (h20 : 20 ≤ σ0.1) {a : Nat} (ha : a < 20) : a < τ.1 := by rw [h.1.1]; omega
theorem md_iald {σ0 τ : fd_S} {t0 : Nat} {L : List Int32} (h : Md σ0 t0 L τ) (h20 : 20 ≤ σ0.1) {f a n i : Nat} {x : Int32} {X : fd_X} {nx : List fd_E} {lv : fd_L} {t : List fd_V} {cc ss : Nat} (hf : σ0.2.2.1 9 f = some a) (ha : a < 19) (hs : fd_sh a = .inr (n, none)) (hi : i < n) (hx : σ0.2.1 a i = x) (h9 : a ≠ 9) (hn : n < 2 ^ 31) (k : X nx lv (.inl x :: t) τ cc ss) : fd_ial none X nx lv (.inl (nI i) :: .inr (.inr (.inl (τ.2.2.1 9 f))) :: t) τ cc ss := by
  have e : τ.2.1 a (nI i).toNatClampNeg = x := by
    rw [nI_clamp (by omega), h.1.2.2.2 a i (fun q => q.elim (fun q => by omega) (fun q => h9 q.1))]
    exact hx
  refine ⟨a, n, by rw [h.1.2.1]; exact hf, md_lt h h20 (by omega), hs, vp_in_nI hi hn, ?_⟩
  rw [e]
  exact k
theorem ok_began (d : Nat) (b : Int32) {σ0 τ : fd_S} {t0 : Nat} {L : List Int32} (h20 : 20 ≤ σ0.1) (r13 : σ0.2.2.1 9 13 = some 19) (hM : Md σ0 t0 L τ) (ht : t0 + L.length < 60) {post : Option fd_V → fd_S → Prop} (h1 : ∀ τ', Md σ0 t0 (L ++ [b]) τ' → post none τ') : fd_Sem (d + 1) 52 [.inr (.inr (.inl (some 9))), .inl b] τ post := by
  have g20 : 20 ≤ τ.1 := by rw [hM.1.1]; exact h20
  have h20 := g20
  have rr : τ.2.2.1 9 13 = some 19 := by rw [hM.1.2.1]; exact r13
  have hin : vp_in (τ.2.1 9 14) 60 := by rw [hM.2.1]; exact vp_in_nI ht (by decide)
  intro X hX hV
  repeat (first | refine hX _ _ _ _ _ _ ?_ | refine Exists.intro _ (And.intro (by first | rfl | assumption) (And.intro (by first | assumption | exact fd_lt20 h20 (by decide)) (And.intro (by first | rfl | assumption) ?_))))
  refine Exists.intro _ (Exists.intro _ (And.intro (by first | rfl | assumption) (And.intro (by first | assumption | exact fd_lt20 h20 (by decide)) (And.intro (by first | rfl | assumption) (And.intro hin ?_)))))
  repeat (first | refine hX _ _ _ _ _ _ ?_ | refine Exists.intro _ (And.intro (by first | rfl | assumption) (And.intro (by first | assumption | exact fd_lt20 h20 (by decide)) (And.intro (by first | rfl | assumption) ?_))))
  have ec : (τ.2.1 9 14).toNatClampNeg = t0 + L.length := by rw [hM.2.1, nI_clamp (by omega)]
  have key : ∀ i j, (fd_si (fd_si τ 19 (τ.2.1 9 14).toNatClampNeg b) 9 14 ((fd_si τ 19 (τ.2.1 9 14).toNatClampNeg b).2.1 9 14 + 1)).2.1 i j = if i = 9 ∧ j = 14 then τ.2.1 9 14 + 1 else if i = 19 ∧ j = t0 + L.length then b else τ.2.1 i j := by
    intro i j
    rw [ec]
    simp only [fd_si, fd_u]
    grind
  refine h1 _ ⟨⟨hM.1.1, hM.1.2.1, hM.1.2.2.1, fun i j hj => ?_⟩, ?_, fun j hj => ?_⟩
  · have h5 := hM.1.2.2.2 i j hj
    unfold JM at hj
    refine (key i j).trans ?_
    rw [if_neg (fun q => hj (Or.inr q)), if_neg (fun q => hj (Or.inl ⟨q.1, by omega⟩))]
    exact h5
  · refine (key 9 14).trans ?_
    rw [if_pos ⟨rfl, rfl⟩, hM.2.1, nI_1, List.length_append]
    rfl
  · refine (key 19 (t0 + j)).trans ?_
    rw [if_neg (by omega)]
    rw [List.length_append] at hj
    have hj : j < L.length + 1 := hj
    by_cases h5 : j = L.length
    · subst h5
      rw [if_pos ⟨rfl, rfl⟩]
      simp [List.getD]
    · rw [if_neg (by omega), hM.2.2 j (by omega)]
      simp [List.getD, List.getElem?_append_left (show j < L.length by omega)]
/-! the answers in the open -/
theorem av_0_0 (sz ld s : Int32) : (an_w 0 sz ld s 16 0 0).1 = sz := rfl
theorem at_0_0 (sz ld s : Int32) : (an_w 0 sz ld s 16 0 0).2 = [1] := rfl
theorem av_0_1 (sz ld s : Int32) : (an_w 1 sz ld s 16 1 0).1 = sz := rfl
theorem at_0_1 (sz ld s : Int32) : (an_w 1 sz ld s 16 1 0).2 = [1] := rfl
theorem av_0_2 (sz ld s : Int32) : (an_w 2 sz ld s 16 2 0).1 = (sz + 10) := rfl
theorem at_0_2 (sz ld s : Int32) : (an_w 2 sz ld s 16 2 0).2 = [2, 1] := rfl
theorem av_0_3 (sz ld s : Int32) : (an_w 3 sz ld s 16 3 0).1 = (sz + 10) := rfl
theorem at_0_3 (sz ld s : Int32) : (an_w 3 sz ld s 16 3 0).2 = [2, 1] := rfl
theorem av_0_4 (sz ld s : Int32) : (an_w 4 sz ld s 16 4 0).1 = (2 * (sz + 10)) := rfl
theorem at_0_4 (sz ld s : Int32) : (an_w 4 sz ld s 16 4 0).2 = [3, 2, 1] := rfl
theorem av_0_5 (sz ld s : Int32) : (an_w 5 sz ld s 16 5 0).1 = sz := rfl
theorem at_0_5 (sz ld s : Int32) : (an_w 5 sz ld s 16 5 0).2 = [1] := rfl
theorem av_0_6 (sz ld s : Int32) : (an_w 6 sz ld s 16 6 0).1 = (sz + 5) := rfl
theorem at_0_6 (sz ld s : Int32) : (an_w 6 sz ld s 16 6 0).2 = [4, 1] := rfl
theorem av_1_0 (sz ld s : Int32) : (an_w 0 sz ld s 16 0 1).1 = (1200 + ld) := rfl
theorem at_1_0 (sz ld s : Int32) : (an_w 0 sz ld s 16 0 1).2 = [11] := rfl
theorem av_1_1 (sz ld s : Int32) : (an_w 1 sz ld s 16 1 1).1 = (1200 + ld + 800) := rfl
theorem at_1_1 (sz ld s : Int32) : (an_w 1 sz ld s 16 1 1).2 = [12, 11] := rfl
theorem av_1_2 (sz ld s : Int32) : (an_w 2 sz ld s 16 2 1).1 = (1200 + ld + 800) := rfl
theorem at_1_2 (sz ld s : Int32) : (an_w 2 sz ld s 16 2 1).2 = [12, 11] := rfl
theorem av_1_3 (sz ld s : Int32) : (an_w 3 sz ld s 16 3 1).1 = (1200 + ld + 800 + ld / 4) := rfl
theorem at_1_3 (sz ld s : Int32) : (an_w 3 sz ld s 16 3 1).2 = [13, 12, 11] := rfl
theorem av_1_4 (sz ld s : Int32) : (an_w 4 sz ld s 16 4 1).1 = (1200 + ld + 800 + ld / 4) := rfl
theorem at_1_4 (sz ld s : Int32) : (an_w 4 sz ld s 16 4 1).2 = [13, 12, 11] := rfl
theorem av_1_5 (sz ld s : Int32) : (an_w 5 sz ld s 16 5 1).1 = (1200 + ld) := rfl
theorem at_1_5 (sz ld s : Int32) : (an_w 5 sz ld s 16 5 1).2 = [11] := rfl
theorem av_1_6 (sz ld s : Int32) : (an_w 6 sz ld s 16 6 1).1 = (1200 + ld + 9000) := rfl
theorem at_1_6 (sz ld s : Int32) : (an_w 6 sz ld s 16 6 1).2 = [14, 11] := rfl
theorem av_2_0 (sz ld s : Int32) : (an_w 0 sz ld s 16 0 2).1 = (1 + sz / 50) := rfl
theorem at_2_0 (sz ld s : Int32) : (an_w 0 sz ld s 16 0 2).2 = [21, 1] := rfl
theorem av_2_1 (sz ld s : Int32) : (an_w 1 sz ld s 16 1 2).1 = (1 + sz / 50) := rfl
theorem at_2_1 (sz ld s : Int32) : (an_w 1 sz ld s 16 1 2).2 = [21, 1] := rfl
theorem av_2_2 (sz ld s : Int32) : (an_w 2 sz ld s 16 2 2).1 = (1 + (sz + 10) / 50) := rfl
theorem at_2_2 (sz ld s : Int32) : (an_w 2 sz ld s 16 2 2).2 = [21, 2, 1] := rfl
theorem av_2_3 (sz ld s : Int32) : (an_w 3 sz ld s 16 3 2).1 = (1 + (sz + 10) / 50) := rfl
theorem at_2_3 (sz ld s : Int32) : (an_w 3 sz ld s 16 3 2).2 = [21, 2, 1] := rfl
theorem av_2_4 (sz ld s : Int32) : (an_w 4 sz ld s 16 4 2).1 = (1 + (2 * (sz + 10)) / 50)+ 6 := rfl
theorem at_2_4 (sz ld s : Int32) : (an_w 4 sz ld s 16 4 2).2 = [22, 21, 3, 2, 1] := rfl
theorem av_2_5 (sz ld s : Int32) : (an_w 5 sz ld s 16 5 2).1 = (1 + sz / 50) := rfl
theorem at_2_5 (sz ld s : Int32) : (an_w 5 sz ld s 16 5 2).2 = [21, 1] := rfl
theorem av_2_6 (sz ld s : Int32) : (an_w 6 sz ld s 16 6 2).1 = (1 + (sz + 5) / 50) := rfl
theorem at_2_6 (sz ld s : Int32) : (an_w 6 sz ld s 16 6 2).2 = [21, 4, 1] := rfl
theorem av_3_0 (sz ld s : Int32) : (an_w 0 sz ld s 16 0 3).1 = (500 + sz * (10 + s)) := rfl
theorem at_3_0 (sz ld s : Int32) : (an_w 0 sz ld s 16 0 3).2 = [31, 1] := rfl
theorem av_3_1 (sz ld s : Int32) : (an_w 1 sz ld s 16 1 3).1 = ((500 + sz * (10 + s)) + 20 * s) := rfl
theorem at_3_1 (sz ld s : Int32) : (an_w 1 sz ld s 16 1 3).2 = [32, 31, 1] := rfl
theorem av_3_2 (sz ld s : Int32) : (an_w 2 sz ld s 16 2 3).1 = ((500 + (sz + 10) * (10 + s)) + 20 * s) := rfl
theorem at_3_2 (sz ld s : Int32) : (an_w 2 sz ld s 16 2 3).2 = [32, 31, 2, 1] := rfl
theorem av_3_3 (sz ld s : Int32) : (an_w 3 sz ld s 16 3 3).1 = (2 * ((500 + (sz + 10) * (10 + s)) + 20 * s)) := rfl
theorem at_3_3 (sz ld s : Int32) : (an_w 3 sz ld s 16 3 3).2 = [33, 32, 31, 2, 1] := rfl
theorem av_3_4 (sz ld s : Int32) : (an_w 4 sz ld s 16 4 3).1 = (2 * ((500 + (2 * (sz + 10)) * (10 + s)) + 20 * s) + (1200 + ld + 800 + ld / 4) / 100) := rfl
theorem at_3_4 (sz ld s : Int32) : (an_w 4 sz ld s 16 4 3).2 = [34, 33, 32, 31, 3, 2, 1, 13, 12, 11] := rfl
theorem av_3_5 (sz ld s : Int32) : (an_w 5 sz ld s 16 5 3).1 = (500 + sz * (10 + s)) := rfl
theorem at_3_5 (sz ld s : Int32) : (an_w 5 sz ld s 16 5 3).2 = [31, 1] := rfl
theorem av_3_6 (sz ld s : Int32) : (an_w 6 sz ld s 16 6 3).1 = ((500 + (sz + 5) * (10 + s)) - (500 + (sz + 5) * (10 + s)) / 10) := rfl
theorem at_3_6 (sz ld s : Int32) : (an_w 6 sz ld s 16 6 3).2 = [35, 31, 4, 1] := rfl
theorem av_4_0 (sz ld s : Int32) : (an_w 0 sz ld s 16 0 4).1 = -3 := rfl
theorem at_4_0 (sz ld s : Int32) : (an_w 0 sz ld s 16 0 4).2 = [] := rfl
theorem av_4_1 (sz ld s : Int32) : (an_w 1 sz ld s 16 1 4).1 = -3 := rfl
theorem at_4_1 (sz ld s : Int32) : (an_w 1 sz ld s 16 1 4).2 = [] := rfl
theorem av_4_2 (sz ld s : Int32) : (an_w 2 sz ld s 16 2 4).1 = (1200 + ld + 800) / 200 := rfl
theorem at_4_2 (sz ld s : Int32) : (an_w 2 sz ld s 16 2 4).2 = [41, 12, 11] := rfl
theorem av_4_3 (sz ld s : Int32) : (an_w 3 sz ld s 16 3 4).1 = (1200 + ld + 800 + ld / 4) / 100 + 300 := rfl
theorem at_4_3 (sz ld s : Int32) : (an_w 3 sz ld s 16 3 4).2 = [42, 13, 12, 11] := rfl
theorem av_4_4 (sz ld s : Int32) : (an_w 4 sz ld s 16 4 4).1 = (1200 + ld + 800 + ld / 4) / 100 + 300 := rfl
theorem at_4_4 (sz ld s : Int32) : (an_w 4 sz ld s 16 4 4).2 = [42, 13, 12, 11] := rfl
theorem av_4_5 (sz ld s : Int32) : (an_w 5 sz ld s 16 5 4).1 = -3 := rfl
theorem at_4_5 (sz ld s : Int32) : (an_w 5 sz ld s 16 5 4).2 = [] := rfl
theorem av_4_6 (sz ld s : Int32) : (an_w 6 sz ld s 16 6 4).1 = (1200 + ld + 9000) / 200 := rfl
theorem at_4_6 (sz ld s : Int32) : (an_w 6 sz ld s 16 6 4).2 = [41, 14, 11] := rfl
theorem av_5_0 (sz ld s : Int32) : (an_w 0 sz ld s 16 0 5).1 = -3 := rfl
theorem at_5_0 (sz ld s : Int32) : (an_w 0 sz ld s 16 0 5).2 = [] := rfl
theorem av_5_1 (sz ld s : Int32) : (an_w 1 sz ld s 16 1 5).1 = -3 := rfl
theorem at_5_1 (sz ld s : Int32) : (an_w 1 sz ld s 16 1 5).2 = [] := rfl
theorem av_5_2 (sz ld s : Int32) : (an_w 2 sz ld s 16 2 5).1 = -3 := rfl
theorem at_5_2 (sz ld s : Int32) : (an_w 2 sz ld s 16 2 5).2 = [] := rfl
theorem av_5_3 (sz ld s : Int32) : (an_w 3 sz ld s 16 3 5).1 = 1 + ((1 + (sz + 10) / 50)) / 4 := rfl
theorem at_5_3 (sz ld s : Int32) : (an_w 3 sz ld s 16 3 5).2 = [51, 21, 2, 1] := rfl
theorem av_5_4 (sz ld s : Int32) : (an_w 4 sz ld s 16 4 5).1 = 1 + ((1 + (2 * (sz + 10)) / 50)+ 6) / 4 := rfl
theorem at_5_4 (sz ld s : Int32) : (an_w 4 sz ld s 16 4 5).2 = [51, 22, 21, 3, 2, 1] := rfl
theorem av_5_5 (sz ld s : Int32) : (an_w 5 sz ld s 16 5 5).1 = 1 + ((1 + sz / 50)) / 4 := rfl
theorem at_5_5 (sz ld s : Int32) : (an_w 5 sz ld s 16 5 5).2 = [51, 21, 1] := rfl
theorem av_5_6 (sz ld s : Int32) : (an_w 6 sz ld s 16 6 5).1 = 2 + (sz + 5) / 100 := rfl
theorem at_5_6 (sz ld s : Int32) : (an_w 6 sz ld s 16 6 5).2 = [52, 4, 1] := rfl
set_option maxRecDepth 100000 in
theorem ok_mlen_0 (d i t0 : Nat) (sz ld s : Int32) {σ0 τ : fd_S} {L : List Int32} {post : Option fd_V → fd_S → Prop} (hB : Mb σ0) (hi : i < 60) (hk : σ0.2.1 10 i = nI 0) (hs : σ0.2.1 11 i = sz) (hl : σ0.2.1 12 i = ld) (hM : Md σ0 t0 L τ) (ht : t0 + L.length + 3 ≤ 60) (h1 : ∀ τ', Md σ0 t0 (L ++ (an_w 0 sz ld s 16 0 0).2) τ' → post (some (.inl (an_w 0 sz ld s 16 0 0).1)) τ') : fd_Sem (d + 2) 53 [.inr (.inr (.inl (some 9))), .inl (nI i)] τ post := by
  obtain ⟨h20, r1, r2, r3, r4, r5, r6, r7, r8, r9, r13⟩ := id hB
  intro X hX hV
  repeat (first | refine hX _ _ _ _ _ _ ?_ | refine Exists.intro _ (And.intro (by first | rfl | assumption) (And.intro (by first | assumption | exact fd_lt20 h20 (by decide) | exact md_lt (by assumption) h20 (by decide)) (And.intro (by first | rfl | assumption) ?_))) | refine And.intro (fun hc => absurd hc (by dsimp only [fd_icmp]; decide)) (fun _ => ?_) | refine And.intro (fun _ => ?_) (fun hc => absurd hc (by dsimp only [fd_icmp]; decide)) | refine And.intro (by decide) ?_ | refine md_iald (by assumption) h20 (by assumption) (by decide) rfl hi (by assumption) (by decide) (by decide) ?_ | refine ok_in _ _ _ _ _ _ (fun _ _ => ?_) (fun hc => absurd (by decide) hc) | refine ok_in _ _ _ _ _ _ (fun h1 h2 => absurd (And.intro h1 h2) (by decide)) (fun _ => ?_) | (refine ok_began _ _ h20 r13 (by assumption) (by first | omega | (simp only [List.length_append, List.length_cons, List.length_nil]; omega)) (fun τ hM => ?_)))
  refine cast (congrArg (fun z => post (some (.inl z)) τ) ?_) (h1 τ ?_)
  · simp only [av_0_0, av_1_0, av_2_0, av_3_0, av_4_0, av_5_0, Int32.add_zero]
  · rw [at_0_0]
    try simp only [at_0_0, at_1_0, at_2_0, List.append_assoc, List.cons_append, List.nil_append] at hM ⊢
    exact hM
set_option maxRecDepth 100000 in
theorem ok_mlen_1 (d i t0 : Nat) (sz ld s : Int32) {σ0 τ : fd_S} {L : List Int32} {post : Option fd_V → fd_S → Prop} (hB : Mb σ0) (hi : i < 60) (hk : σ0.2.1 10 i = nI 1) (hs : σ0.2.1 11 i = sz) (hl : σ0.2.1 12 i = ld) (hM : Md σ0 t0 L τ) (ht : t0 + L.length + 3 ≤ 60) (h1 : ∀ τ', Md σ0 t0 (L ++ (an_w 1 sz ld s 16 1 0).2) τ' → post (some (.inl (an_w 1 sz ld s 16 1 0).1)) τ') : fd_Sem (d + 2) 53 [.inr (.inr (.inl (some 9))), .inl (nI i)] τ post := by
  obtain ⟨h20, r1, r2, r3, r4, r5, r6, r7, r8, r9, r13⟩ := id hB
  intro X hX hV
  repeat (first | refine hX _ _ _ _ _ _ ?_ | refine Exists.intro _ (And.intro (by first | rfl | assumption) (And.intro (by first | assumption | exact fd_lt20 h20 (by decide) | exact md_lt (by assumption) h20 (by decide)) (And.intro (by first | rfl | assumption) ?_))) | refine And.intro (fun hc => absurd hc (by dsimp only [fd_icmp]; decide)) (fun _ => ?_) | refine And.intro (fun _ => ?_) (fun hc => absurd hc (by dsimp only [fd_icmp]; decide)) | refine And.intro (by decide) ?_ | refine md_iald (by assumption) h20 (by assumption) (by decide) rfl hi (by assumption) (by decide) (by decide) ?_ | refine ok_in _ _ _ _ _ _ (fun _ _ => ?_) (fun hc => absurd (by decide) hc) | refine ok_in _ _ _ _ _ _ (fun h1 h2 => absurd (And.intro h1 h2) (by decide)) (fun _ => ?_) | (refine ok_began _ _ h20 r13 (by assumption) (by first | omega | (simp only [List.length_append, List.length_cons, List.length_nil]; omega)) (fun τ hM => ?_)))
  refine cast (congrArg (fun z => post (some (.inl z)) τ) ?_) (h1 τ ?_)
  · simp only [av_0_1, av_1_1, av_2_1, av_3_1, av_4_1, av_5_1, Int32.add_zero]
  · rw [at_0_1]
    try simp only [at_0_1, at_1_1, at_2_1, List.append_assoc, List.cons_append, List.nil_append] at hM ⊢
    exact hM
set_option maxRecDepth 100000 in
theorem ok_mlen_2 (d i t0 : Nat) (sz ld s : Int32) {σ0 τ : fd_S} {L : List Int32} {post : Option fd_V → fd_S → Prop} (hB : Mb σ0) (hi : i < 60) (hk : σ0.2.1 10 i = nI 2) (hs : σ0.2.1 11 i = sz) (hl : σ0.2.1 12 i = ld) (hM : Md σ0 t0 L τ) (ht : t0 + L.length + 3 ≤ 60) (h1 : ∀ τ', Md σ0 t0 (L ++ (an_w 2 sz ld s 16 2 0).2) τ' → post (some (.inl (an_w 2 sz ld s 16 2 0).1)) τ') : fd_Sem (d + 2) 53 [.inr (.inr (.inl (some 9))), .inl (nI i)] τ post := by
  obtain ⟨h20, r1, r2, r3, r4, r5, r6, r7, r8, r9, r13⟩ := id hB
  intro X hX hV
  repeat (first | refine hX _ _ _ _ _ _ ?_ | refine Exists.intro _ (And.intro (by first | rfl | assumption) (And.intro (by first | assumption | exact fd_lt20 h20 (by decide) | exact md_lt (by assumption) h20 (by decide)) (And.intro (by first | rfl | assumption) ?_))) | refine And.intro (fun hc => absurd hc (by dsimp only [fd_icmp]; decide)) (fun _ => ?_) | refine And.intro (fun _ => ?_) (fun hc => absurd hc (by dsimp only [fd_icmp]; decide)) | refine And.intro (by decide) ?_ | refine md_iald (by assumption) h20 (by assumption) (by decide) rfl hi (by assumption) (by decide) (by decide) ?_ | refine ok_in _ _ _ _ _ _ (fun _ _ => ?_) (fun hc => absurd (by decide) hc) | refine ok_in _ _ _ _ _ _ (fun h1 h2 => absurd (And.intro h1 h2) (by decide)) (fun _ => ?_) | (refine ok_began _ _ h20 r13 (by assumption) (by first | omega | (simp only [List.length_append, List.length_cons, List.length_nil]; omega)) (fun τ hM => ?_)))
  refine cast (congrArg (fun z => post (some (.inl z)) τ) ?_) (h1 τ ?_)
  · simp only [av_0_2, av_1_2, av_2_2, av_3_2, av_4_2, av_5_2, Int32.add_zero]
  · rw [at_0_2]
    try simp only [at_0_2, at_1_2, at_2_2, List.append_assoc, List.cons_append, List.nil_append] at hM ⊢
    exact hM
set_option maxRecDepth 100000 in
theorem ok_mlen_3 (d i t0 : Nat) (sz ld s : Int32) {σ0 τ : fd_S} {L : List Int32} {post : Option fd_V → fd_S → Prop} (hB : Mb σ0) (hi : i < 60) (hk : σ0.2.1 10 i = nI 3) (hs : σ0.2.1 11 i = sz) (hl : σ0.2.1 12 i = ld) (hM : Md σ0 t0 L τ) (ht : t0 + L.length + 3 ≤ 60) (h1 : ∀ τ', Md σ0 t0 (L ++ (an_w 3 sz ld s 16 3 0).2) τ' → post (some (.inl (an_w 3 sz ld s 16 3 0).1)) τ') : fd_Sem (d + 2) 53 [.inr (.inr (.inl (some 9))), .inl (nI i)] τ post := by
  obtain ⟨h20, r1, r2, r3, r4, r5, r6, r7, r8, r9, r13⟩ := id hB
  intro X hX hV
  repeat (first | refine hX _ _ _ _ _ _ ?_ | refine Exists.intro _ (And.intro (by first | rfl | assumption) (And.intro (by first | assumption | exact fd_lt20 h20 (by decide) | exact md_lt (by assumption) h20 (by decide)) (And.intro (by first | rfl | assumption) ?_))) | refine And.intro (fun hc => absurd hc (by dsimp only [fd_icmp]; decide)) (fun _ => ?_) | refine And.intro (fun _ => ?_) (fun hc => absurd hc (by dsimp only [fd_icmp]; decide)) | refine And.intro (by decide) ?_ | refine md_iald (by assumption) h20 (by assumption) (by decide) rfl hi (by assumption) (by decide) (by decide) ?_ | refine ok_in _ _ _ _ _ _ (fun _ _ => ?_) (fun hc => absurd (by decide) hc) | refine ok_in _ _ _ _ _ _ (fun h1 h2 => absurd (And.intro h1 h2) (by decide)) (fun _ => ?_) | (refine ok_began _ _ h20 r13 (by assumption) (by first | omega | (simp only [List.length_append, List.length_cons, List.length_nil]; omega)) (fun τ hM => ?_)))
  refine cast (congrArg (fun z => post (some (.inl z)) τ) ?_) (h1 τ ?_)
  · simp only [av_0_3, av_1_3, av_2_3, av_3_3, av_4_3, av_5_3, Int32.add_zero]
  · rw [at_0_3]
    try simp only [at_0_3, at_1_3, at_2_3, List.append_assoc, List.cons_append, List.nil_append] at hM ⊢
    exact hM
set_option maxRecDepth 100000 in
theorem ok_mlen_4 (d i t0 : Nat) (sz ld s : Int32) {σ0 τ : fd_S} {L : List Int32} {post : Option fd_V → fd_S → Prop} (hB : Mb σ0) (hi : i < 60) (hk : σ0.2.1 10 i = nI 4) (hs : σ0.2.1 11 i = sz) (hl : σ0.2.1 12 i = ld) (hM : Md σ0 t0 L τ) (ht : t0 + L.length + 3 ≤ 60) (h1 : ∀ τ', Md σ0 t0 (L ++ (an_w 4 sz ld s 16 4 0).2) τ' → post (some (.inl (an_w 4 sz ld s 16 4 0).1)) τ') : fd_Sem (d + 2) 53 [.inr (.inr (.inl (some 9))), .inl (nI i)] τ post := by
  obtain ⟨h20, r1, r2, r3, r4, r5, r6, r7, r8, r9, r13⟩ := id hB
  intro X hX hV
  repeat (first | refine hX _ _ _ _ _ _ ?_ | refine Exists.intro _ (And.intro (by first | rfl | assumption) (And.intro (by first | assumption | exact fd_lt20 h20 (by decide) | exact md_lt (by assumption) h20 (by decide)) (And.intro (by first | rfl | assumption) ?_))) | refine And.intro (fun hc => absurd hc (by dsimp only [fd_icmp]; decide)) (fun _ => ?_) | refine And.intro (fun _ => ?_) (fun hc => absurd hc (by dsimp only [fd_icmp]; decide)) | refine And.intro (by decide) ?_ | refine md_iald (by assumption) h20 (by assumption) (by decide) rfl hi (by assumption) (by decide) (by decide) ?_ | refine ok_in _ _ _ _ _ _ (fun _ _ => ?_) (fun hc => absurd (by decide) hc) | refine ok_in _ _ _ _ _ _ (fun h1 h2 => absurd (And.intro h1 h2) (by decide)) (fun _ => ?_) | (refine ok_began _ _ h20 r13 (by assumption) (by first | omega | (simp only [List.length_append, List.length_cons, List.length_nil]; omega)) (fun τ hM => ?_)))
  refine cast (congrArg (fun z => post (some (.inl z)) τ) ?_) (h1 τ ?_)
  · simp only [av_0_4, av_1_4, av_2_4, av_3_4, av_4_4, av_5_4, Int32.add_zero]
  · rw [at_0_4]
    try simp only [at_0_4, at_1_4, at_2_4, List.append_assoc, List.cons_append, List.nil_append] at hM ⊢
    exact hM
set_option maxRecDepth 100000 in
theorem ok_mlen_5 (d i t0 : Nat) (sz ld s : Int32) {σ0 τ : fd_S} {L : List Int32} {post : Option fd_V → fd_S → Prop} (hB : Mb σ0) (hi : i < 60) (hk : σ0.2.1 10 i = nI 5) (hs : σ0.2.1 11 i = sz) (hl : σ0.2.1 12 i = ld) (hM : Md σ0 t0 L τ) (ht : t0 + L.length + 3 ≤ 60) (h1 : ∀ τ', Md σ0 t0 (L ++ (an_w 5 sz ld s 16 5 0).2) τ' → post (some (.inl (an_w 5 sz ld s 16 5 0).1)) τ') : fd_Sem (d + 2) 53 [.inr (.inr (.inl (some 9))), .inl (nI i)] τ post := by
  obtain ⟨h20, r1, r2, r3, r4, r5, r6, r7, r8, r9, r13⟩ := id hB
  intro X hX hV
  repeat (first | refine hX _ _ _ _ _ _ ?_ | refine Exists.intro _ (And.intro (by first | rfl | assumption) (And.intro (by first | assumption | exact fd_lt20 h20 (by decide) | exact md_lt (by assumption) h20 (by decide)) (And.intro (by first | rfl | assumption) ?_))) | refine And.intro (fun hc => absurd hc (by dsimp only [fd_icmp]; decide)) (fun _ => ?_) | refine And.intro (fun _ => ?_) (fun hc => absurd hc (by dsimp only [fd_icmp]; decide)) | refine And.intro (by decide) ?_ | refine md_iald (by assumption) h20 (by assumption) (by decide) rfl hi (by assumption) (by decide) (by decide) ?_ | refine ok_in _ _ _ _ _ _ (fun _ _ => ?_) (fun hc => absurd (by decide) hc) | refine ok_in _ _ _ _ _ _ (fun h1 h2 => absurd (And.intro h1 h2) (by decide)) (fun _ => ?_) | (refine ok_began _ _ h20 r13 (by assumption) (by first | omega | (simp only [List.length_append, List.length_cons, List.length_nil]; omega)) (fun τ hM => ?_)))
  refine cast (congrArg (fun z => post (some (.inl z)) τ) ?_) (h1 τ ?_)
  · simp only [av_0_5, av_1_5, av_2_5, av_3_5, av_4_5, av_5_5, Int32.add_zero]
  · rw [at_0_5]
    try simp only [at_0_5, at_1_5, at_2_5, List.append_assoc, List.cons_append, List.nil_append] at hM ⊢
    exact hM
set_option maxRecDepth 100000 in
theorem ok_mlen_6 (d i t0 : Nat) (sz ld s : Int32) {σ0 τ : fd_S} {L : List Int32} {post : Option fd_V → fd_S → Prop} (hB : Mb σ0) (hi : i < 60) (hk : σ0.2.1 10 i = nI 6) (hs : σ0.2.1 11 i = sz) (hl : σ0.2.1 12 i = ld) (hM : Md σ0 t0 L τ) (ht : t0 + L.length + 3 ≤ 60) (h1 : ∀ τ', Md σ0 t0 (L ++ (an_w 6 sz ld s 16 6 0).2) τ' → post (some (.inl (an_w 6 sz ld s 16 6 0).1)) τ') : fd_Sem (d + 2) 53 [.inr (.inr (.inl (some 9))), .inl (nI i)] τ post := by
  obtain ⟨h20, r1, r2, r3, r4, r5, r6, r7, r8, r9, r13⟩ := id hB
  intro X hX hV
  repeat (first | refine hX _ _ _ _ _ _ ?_ | refine Exists.intro _ (And.intro (by first | rfl | assumption) (And.intro (by first | assumption | exact fd_lt20 h20 (by decide) | exact md_lt (by assumption) h20 (by decide)) (And.intro (by first | rfl | assumption) ?_))) | refine And.intro (fun hc => absurd hc (by dsimp only [fd_icmp]; decide)) (fun _ => ?_) | refine And.intro (fun _ => ?_) (fun hc => absurd hc (by dsimp only [fd_icmp]; decide)) | refine And.intro (by decide) ?_ | refine md_iald (by assumption) h20 (by assumption) (by decide) rfl hi (by assumption) (by decide) (by decide) ?_ | refine ok_in _ _ _ _ _ _ (fun _ _ => ?_) (fun hc => absurd (by decide) hc) | refine ok_in _ _ _ _ _ _ (fun h1 h2 => absurd (And.intro h1 h2) (by decide)) (fun _ => ?_) | (refine ok_began _ _ h20 r13 (by assumption) (by first | omega | (simp only [List.length_append, List.length_cons, List.length_nil]; omega)) (fun τ hM => ?_)))
  refine cast (congrArg (fun z => post (some (.inl z)) τ) ?_) (h1 τ ?_)
  · simp only [av_0_6, av_1_6, av_2_6, av_3_6, av_4_6, av_5_6, Int32.add_zero]
  · rw [at_0_6]
    try simp only [at_0_6, at_1_6, at_2_6, List.append_assoc, List.cons_append, List.nil_append] at hM ⊢
    exact hM
