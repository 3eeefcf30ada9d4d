set_option maxRecDepth 100000 in
theorem ok_mfare_0 (d i t0 : Nat) (sz ld s : Int32) {σ0 τ : fd_S} {L : List Int32} {post : Option fd_V → fd_S → Prop} (hB : Mb σ0) (hi : i < 60) (hk : σ0.2.1 10 i = nI 0) (hs : σ0.2.1 11 i = sz) (hl : σ0.2.1 12 i = ld) (hM : Md σ0 t0 L τ) (ht : t0 + L.length + 10 ≤ 60) (h1 : ∀ τ', Md σ0 t0 (L ++ (an_w 0 sz ld s 16 0 3).2) τ' → post (some (.inl (an_w 0 sz ld s 16 0 3).1)) τ') : fd_Sem (d + 3) 56 [.inr (.inr (.inl (some 9))), .inl (nI i), .inl s] τ post := by
  obtain ⟨h20, r1, r2, r3, r4, r5, r6, r7, r8, r9, r13⟩ := id hB
  have e0 : (an_w 0 sz ld s 16 0 0).2.length = 1 := rfl
  have e1 : (an_w 0 sz ld s 16 0 1).2.length = 1 := rfl
  have e2 : (an_w 0 sz ld s 16 0 2).2.length = 2 := rfl
  intro X hX hV
  repeat (first | refine hX _ _ _ _ _ _ ?_ | refine Exists.intro _ (And.intro (by first | rfl | assumption) (And.intro (by first | assumption | exact fd_lt20 h20 (by decide) | exact md_lt (by assumption) h20 (by decide)) (And.intro (by first | rfl | assumption) ?_))) | refine And.intro (fun hc => absurd hc (by dsimp only [fd_icmp]; decide)) (fun _ => ?_) | refine And.intro (fun _ => ?_) (fun hc => absurd hc (by dsimp only [fd_icmp]; decide)) | refine And.intro (by decide) ?_ | refine md_iald (by assumption) h20 (by assumption) (by decide) rfl hi (by assumption) (by decide) (by decide) ?_ | refine ok_in _ _ _ _ _ _ (fun _ _ => ?_) (fun hc => absurd (by decide) hc) | refine ok_in _ _ _ _ _ _ (fun h1 h2 => absurd (And.intro h1 h2) (by decide)) (fun _ => ?_) | (refine ok_began _ _ h20 r13 (by assumption) (by first | omega | (simp only [List.length_append, List.length_cons, List.length_nil]; omega)) (fun τ hM => ?_)) | (refine ok_mlen_0 _ i t0 sz ld s hB hi hk hs hl (by assumption) (by first | omega | (simp only [List.length_append, List.length_cons, List.length_nil]; omega)) (fun τ hM => ?_)) | (refine ok_mmass_0 _ i t0 sz ld s hB hi hk hs hl (by assumption) (by first | omega | (simp only [List.length_append, List.length_cons, List.length_nil]; omega)) (fun τ hM => ?_)))
  refine cast (congrArg (fun z => post (some (.inl z)) τ) ?_) (h1 τ ?_)
  · simp only [av_0_0, av_1_0, av_2_0, av_3_0, av_4_0, av_5_0, Int32.add_zero]
  · rw [at_3_0]
    try simp only [at_0_0, at_1_0, at_2_0, List.append_assoc, List.cons_append, List.nil_append] at hM ⊢
    exact hM
set_option maxRecDepth 100000 in
theorem ok_mfare_1 (d i t0 : Nat) (sz ld s : Int32) {σ0 τ : fd_S} {L : List Int32} {post : Option fd_V → fd_S → Prop} (hB : Mb σ0) (hi : i < 60) (hk : σ0.2.1 10 i = nI 1) (hs : σ0.2.1 11 i = sz) (hl : σ0.2.1 12 i = ld) (hM : Md σ0 t0 L τ) (ht : t0 + L.length + 10 ≤ 60) (h1 : ∀ τ', Md σ0 t0 (L ++ (an_w 1 sz ld s 16 1 3).2) τ' → post (some (.inl (an_w 1 sz ld s 16 1 3).1)) τ') : fd_Sem (d + 3) 56 [.inr (.inr (.inl (some 9))), .inl (nI i), .inl s] τ post := by
  obtain ⟨h20, r1, r2, r3, r4, r5, r6, r7, r8, r9, r13⟩ := id hB
  have e0 : (an_w 1 sz ld s 16 1 0).2.length = 1 := rfl
  have e1 : (an_w 1 sz ld s 16 1 1).2.length = 2 := rfl
  have e2 : (an_w 1 sz ld s 16 1 2).2.length = 2 := rfl
  intro X hX hV
  repeat (first | refine hX _ _ _ _ _ _ ?_ | refine Exists.intro _ (And.intro (by first | rfl | assumption) (And.intro (by first | assumption | exact fd_lt20 h20 (by decide) | exact md_lt (by assumption) h20 (by decide)) (And.intro (by first | rfl | assumption) ?_))) | refine And.intro (fun hc => absurd hc (by dsimp only [fd_icmp]; decide)) (fun _ => ?_) | refine And.intro (fun _ => ?_) (fun hc => absurd hc (by dsimp only [fd_icmp]; decide)) | refine And.intro (by decide) ?_ | refine md_iald (by assumption) h20 (by assumption) (by decide) rfl hi (by assumption) (by decide) (by decide) ?_ | refine ok_in _ _ _ _ _ _ (fun _ _ => ?_) (fun hc => absurd (by decide) hc) | refine ok_in _ _ _ _ _ _ (fun h1 h2 => absurd (And.intro h1 h2) (by decide)) (fun _ => ?_) | (refine ok_began _ _ h20 r13 (by assumption) (by first | omega | (simp only [List.length_append, List.length_cons, List.length_nil]; omega)) (fun τ hM => ?_)) | (refine ok_mlen_1 _ i t0 sz ld s hB hi hk hs hl (by assumption) (by first | omega | (simp only [List.length_append, List.length_cons, List.length_nil]; omega)) (fun τ hM => ?_)) | (refine ok_mmass_1 _ i t0 sz ld s hB hi hk hs hl (by assumption) (by first | omega | (simp only [List.length_append, List.length_cons, List.length_nil]; omega)) (fun τ hM => ?_)))
  refine cast (congrArg (fun z => post (some (.inl z)) τ) ?_) (h1 τ ?_)
  · simp only [av_0_1, av_1_1, av_2_1, av_3_1, av_4_1, av_5_1, Int32.add_zero]
  · rw [at_3_1]
    try simp only [at_0_1, at_1_1, at_2_1, List.append_assoc, List.cons_append, List.nil_append] at hM ⊢
    exact hM
set_option maxRecDepth 100000 in
theorem ok_mfare_2 (d i t0 : Nat) (sz ld s : Int32) {σ0 τ : fd_S} {L : List Int32} {post : Option fd_V → fd_S → Prop} (hB : Mb σ0) (hi : i < 60) (hk : σ0.2.1 10 i = nI 2) (hs : σ0.2.1 11 i = sz) (hl : σ0.2.1 12 i = ld) (hM : Md σ0 t0 L τ) (ht : t0 + L.length + 10 ≤ 60) (h1 : ∀ τ', Md σ0 t0 (L ++ (an_w 2 sz ld s 16 2 3).2) τ' → post (some (.inl (an_w 2 sz ld s 16 2 3).1)) τ') : fd_Sem (d + 3) 56 [.inr (.inr (.inl (some 9))), .inl (nI i), .inl s] τ post := by
  obtain ⟨h20, r1, r2, r3, r4, r5, r6, r7, r8, r9, r13⟩ := id hB
  have e0 : (an_w 2 sz ld s 16 2 0).2.length = 2 := rfl
  have e1 : (an_w 2 sz ld s 16 2 1).2.length = 2 := rfl
  have e2 : (an_w 2 sz ld s 16 2 2).2.length = 3 := rfl
  intro X hX hV
  repeat (first | refine hX _ _ _ _ _ _ ?_ | refine Exists.intro _ (And.intro (by first | rfl | assumption) (And.intro (by first | assumption | exact fd_lt20 h20 (by decide) | exact md_lt (by assumption) h20 (by decide)) (And.intro (by first | rfl | assumption) ?_))) | refine And.intro (fun hc => absurd hc (by dsimp only [fd_icmp]; decide)) (fun _ => ?_) | refine And.intro (fun _ => ?_) (fun hc => absurd hc (by dsimp only [fd_icmp]; decide)) | refine And.intro (by decide) ?_ | refine md_iald (by assumption) h20 (by assumption) (by decide) rfl hi (by assumption) (by decide) (by decide) ?_ | refine ok_in _ _ _ _ _ _ (fun _ _ => ?_) (fun hc => absurd (by decide) hc) | refine ok_in _ _ _ _ _ _ (fun h1 h2 => absurd (And.intro h1 h2) (by decide)) (fun _ => ?_) | (refine ok_began _ _ h20 r13 (by assumption) (by first | omega | (simp only [List.length_append, List.length_cons, List.length_nil]; omega)) (fun τ hM => ?_)) | (refine ok_mlen_2 _ i t0 sz ld s hB hi hk hs hl (by assumption) (by first | omega | (simp only [List.length_append, List.length_cons, List.length_nil]; omega)) (fun τ hM => ?_)) | (refine ok_mmass_2 _ i t0 sz ld s hB hi hk hs hl (by assumption) (by first | omega | (simp only [List.length_append, List.length_cons, List.length_nil]; omega)) (fun τ hM => ?_)))
  refine cast (congrArg (fun z => post (some (.inl z)) τ) ?_) (h1 τ ?_)
  · simp only [av_0_2, av_1_2, av_2_2, av_3_2, av_4_2, av_5_2, Int32.add_zero]
  · rw [at_3_2]
    try simp only [at_0_2, at_1_2, at_2_2, List.append_assoc, List.cons_append, List.nil_append] at hM ⊢
    exact hM
set_option maxRecDepth 100000 in
theorem ok_mfare_3 (d i t0 : Nat) (sz ld s : Int32) {σ0 τ : fd_S} {L : List Int32} {post : Option fd_V → fd_S → Prop} (hB : Mb σ0) (hi : i < 60) (hk : σ0.2.1 10 i = nI 3) (hs : σ0.2.1 11 i = sz) (hl : σ0.2.1 12 i = ld) (hM : Md σ0 t0 L τ) (ht : t0 + L.length + 10 ≤ 60) (h1 : ∀ τ', Md σ0 t0 (L ++ (an_w 3 sz ld s 16 3 3).2) τ' → post (some (.inl (an_w 3 sz ld s 16 3 3).1)) τ') : fd_Sem (d + 3) 56 [.inr (.inr (.inl (some 9))), .inl (nI i), .inl s] τ post := by
  obtain ⟨h20, r1, r2, r3, r4, r5, r6, r7, r8, r9, r13⟩ := id hB
  have e0 : (an_w 3 sz ld s 16 3 0).2.length = 2 := rfl
  have e1 : (an_w 3 sz ld s 16 3 1).2.length = 3 := rfl
  have e2 : (an_w 3 sz ld s 16 3 2).2.length = 3 := rfl
  intro X hX hV
  repeat (first | refine hX _ _ _ _ _ _ ?_ | refine Exists.intro _ (And.intro (by first | rfl | assumption) (And.intro (by first | assumption | exact fd_lt20 h20 (by decide) | exact md_lt (by assumption) h20 (by decide)) (And.intro (by first | rfl | assumption) ?_))) | refine And.intro (fun hc => absurd hc (by dsimp only [fd_icmp]; decide)) (fun _ => ?_) | refine And.intro (fun _ => ?_) (fun hc => absurd hc (by dsimp only [fd_icmp]; decide)) | refine And.intro (by decide) ?_ | refine md_iald (by assumption) h20 (by assumption) (by decide) rfl hi (by assumption) (by decide) (by decide) ?_ | refine ok_in _ _ _ _ _ _ (fun _ _ => ?_) (fun hc => absurd (by decide) hc) | refine ok_in _ _ _ _ _ _ (fun h1 h2 => absurd (And.intro h1 h2) (by decide)) (fun _ => ?_) | (refine ok_began _ _ h20 r13 (by assumption) (by first | omega | (simp only [List.length_append, List.length_cons, List.length_nil]; omega)) (fun τ hM => ?_)) | (refine ok_mlen_3 _ i t0 sz ld s hB hi hk hs hl (by assumption) (by first | omega | (simp only [List.length_append, List.length_cons, List.length_nil]; omega)) (fun τ hM => ?_)) | (refine ok_mmass_3 _ i t0 sz ld s hB hi hk hs hl (by assumption) (by first | omega | (simp only [List.length_append, List.length_cons, List.length_nil]; omega)) (fun τ hM => ?_)))
  refine cast (congrArg (fun z => post (some (.inl z)) τ) ?_) (h1 τ ?_)
  · simp only [av_0_3, av_1_3, av_2_3, av_3_3, av_4_3, av_5_3, Int32.add_zero]
  · rw [at_3_3]
    try simp only [at_0_3, at_1_3, at_2_3, List.append_assoc, List.cons_append, List.nil_append] at hM ⊢
    exact hM
set_option maxRecDepth 100000 in
theorem ok_mfare_4 (d i t0 : Nat) (sz ld s : Int32) {σ0 τ : fd_S} {L : List Int32} {post : Option fd_V → fd_S → Prop} (hB : Mb σ0) (hi : i < 60) (hk : σ0.2.1 10 i = nI 4) (hs : σ0.2.1 11 i = sz) (hl : σ0.2.1 12 i = ld) (hM : Md σ0 t0 L τ) (ht : t0 + L.length + 10 ≤ 60) (h1 : ∀ τ', Md σ0 t0 (L ++ (an_w 4 sz ld s 16 4 3).2) τ' → post (some (.inl (an_w 4 sz ld s 16 4 3).1)) τ') : fd_Sem (d + 3) 56 [.inr (.inr (.inl (some 9))), .inl (nI i), .inl s] τ post := by
  obtain ⟨h20, r1, r2, r3, r4, r5, r6, r7, r8, r9, r13⟩ := id hB
  have e0 : (an_w 4 sz ld s 16 4 0).2.length = 3 := rfl
  have e1 : (an_w 4 sz ld s 16 4 1).2.length = 3 := rfl
  have e2 : (an_w 4 sz ld s 16 4 2).2.length = 5 := rfl
  intro X hX hV
  repeat (first | refine hX _ _ _ _ _ _ ?_ | refine Exists.intro _ (And.intro (by first | rfl | assumption) (And.intro (by first | assumption | exact fd_lt20 h20 (by decide) | exact md_lt (by assumption) h20 (by decide)) (And.intro (by first | rfl | assumption) ?_))) | refine And.intro (fun hc => absurd hc (by dsimp only [fd_icmp]; decide)) (fun _ => ?_) | refine And.intro (fun _ => ?_) (fun hc => absurd hc (by dsimp only [fd_icmp]; decide)) | refine And.intro (by decide) ?_ | refine md_iald (by assumption) h20 (by assumption) (by decide) rfl hi (by assumption) (by decide) (by decide) ?_ | refine ok_in _ _ _ _ _ _ (fun _ _ => ?_) (fun hc => absurd (by decide) hc) | refine ok_in _ _ _ _ _ _ (fun h1 h2 => absurd (And.intro h1 h2) (by decide)) (fun _ => ?_) | (refine ok_began _ _ h20 r13 (by assumption) (by first | omega | (simp only [List.length_append, List.length_cons, List.length_nil]; omega)) (fun τ hM => ?_)) | (refine ok_mlen_4 _ i t0 sz ld s hB hi hk hs hl (by assumption) (by first | omega | (simp only [List.length_append, List.length_cons, List.length_nil]; omega)) (fun τ hM => ?_)) | (refine ok_mmass_4 _ i t0 sz ld s hB hi hk hs hl (by assumption) (by first | omega | (simp only [List.length_append, List.length_cons, List.length_nil]; omega)) (fun τ hM => ?_)))
  refine cast (congrArg (fun z => post (some (.inl z)) τ) ?_) (h1 τ ?_)
  · simp only [av_0_4, av_1_4, av_2_4, av_3_4, av_4_4, av_5_4, Int32.add_zero]
  · rw [at_3_4]
    try simp only [at_0_4, at_1_4, at_2_4, List.append_assoc, List.cons_append, List.nil_append] at hM ⊢
    exact hM
set_option maxRecDepth 100000 in
theorem ok_mfare_5 (d i t0 : Nat) (sz ld s : Int32) {σ0 τ : fd_S} {L : List Int32} {post : Option fd_V → fd_S → Prop} (hB : Mb σ0) (hi : i < 60) (hk : σ0.2.1 10 i = nI 5) (hs : σ0.2.1 11 i = sz) (hl : σ0.2.1 12 i = ld) (hM : Md σ0 t0 L τ) (ht : t0 + L.length + 10 ≤ 60) (h1 : ∀ τ', Md σ0 t0 (L ++ (an_w 5 sz ld s 16 5 3).2) τ' → post (some (.inl (an_w 5 sz ld s 16 5 3).1)) τ') : fd_Sem (d + 3) 56 [.inr (.inr (.inl (some 9))), .inl (nI i), .inl s] τ post := by
  obtain ⟨h20, r1, r2, r3, r4, r5, r6, r7, r8, r9, r13⟩ := id hB
  have e0 : (an_w 5 sz ld s 16 5 0).2.length = 1 := rfl
  have e1 : (an_w 5 sz ld s 16 5 1).2.length = 1 := rfl
  have e2 : (an_w 5 sz ld s 16 5 2).2.length = 2 := rfl
  intro X hX hV
  repeat (first | refine hX _ _ _ _ _ _ ?_ | refine Exists.intro _ (And.intro (by first | rfl | assumption) (And.intro (by first | assumption | exact fd_lt20 h20 (by decide) | exact md_lt (by assumption) h20 (by decide)) (And.intro (by first | rfl | assumption) ?_))) | refine And.intro (fun hc => absurd hc (by dsimp only [fd_icmp]; decide)) (fun _ => ?_) | refine And.intro (fun _ => ?_) (fun hc => absurd hc (by dsimp only [fd_icmp]; decide)) | refine And.intro (by decide) ?_ | refine md_iald (by assumption) h20 (by assumption) (by decide) rfl hi (by assumption) (by decide) (by decide) ?_ | refine ok_in _ _ _ _ _ _ (fun _ _ => ?_) (fun hc => absurd (by decide) hc) | refine ok_in _ _ _ _ _ _ (fun h1 h2 => absurd (And.intro h1 h2) (by decide)) (fun _ => ?_) | (refine ok_began _ _ h20 r13 (by assumption) (by first | omega | (simp only [List.length_append, List.length_cons, List.length_nil]; omega)) (fun τ hM => ?_)) | (refine ok_mlen_5 _ i t0 sz ld s hB hi hk hs hl (by assumption) (by first | omega | (simp only [List.length_append, List.length_cons, List.length_nil]; omega)) (fun τ hM => ?_)) | (refine ok_mmass_5 _ i t0 sz ld s hB hi hk hs hl (by assumption) (by first | omega | (simp only [List.length_append, List.length_cons, List.length_nil]; omega)) (fun τ hM => ?_)))
  refine cast (congrArg (fun z => post (some (.inl z)) τ) ?_) (h1 τ ?_)
  · simp only [av_0_5, av_1_5, av_2_5, av_3_5, av_4_5, av_5_5, Int32.add_zero]
  · rw [at_3_5]
    try simp only [at_0_5, at_1_5, at_2_5, List.append_assoc, List.cons_append, List.nil_append] at hM ⊢
    exact hM
set_option maxRecDepth 100000 in
theorem ok_mfare_6 (d i t0 : Nat) (sz ld s : Int32) {σ0 τ : fd_S} {L : List Int32} {post : Option fd_V → fd_S → Prop} (hB : Mb σ0) (hi : i < 60) (hk : σ0.2.1 10 i = nI 6) (hs : σ0.2.1 11 i = sz) (hl : σ0.2.1 12 i = ld) (hM : Md σ0 t0 L τ) (ht : t0 + L.length + 10 ≤ 60) (h1 : ∀ τ', Md σ0 t0 (L ++ (an_w 6 sz ld s 16 6 3).2) τ' → post (some (.inl (an_w 6 sz ld s 16 6 3).1)) τ') : fd_Sem (d + 3) 56 [.inr (.inr (.inl (some 9))), .inl (nI i), .inl s] τ post := by
  obtain ⟨h20, r1, r2, r3, r4, r5, r6, r7, r8, r9, r13⟩ := id hB
  have e0 : (an_w 6 sz ld s 16 6 0).2.length = 2 := rfl
  have e1 : (an_w 6 sz ld s 16 6 1).2.length = 2 := rfl
  have e2 : (an_w 6 sz ld s 16 6 2).2.length = 3 := rfl
  intro X hX hV
  repeat (first | refine hX _ _ _ _ _ _ ?_ | refine Exists.intro _ (And.intro (by first | rfl | assumption) (And.intro (by first | assumption | exact fd_lt20 h20 (by decide) | exact md_lt (by assumption) h20 (by decide)) (And.intro (by first | rfl | assumption) ?_))) | refine And.intro (fun hc => absurd hc (by dsimp only [fd_icmp]; decide)) (fun _ => ?_) | refine And.intro (fun _ => ?_) (fun hc => absurd hc (by dsimp only [fd_icmp]; decide)) | refine And.intro (by decide) ?_ | refine md_iald (by assumption) h20 (by assumption) (by decide) rfl hi (by assumption) (by decide) (by decide) ?_ | refine ok_in _ _ _ _ _ _ (fun _ _ => ?_) (fun hc => absurd (by decide) hc) | refine ok_in _ _ _ _ _ _ (fun h1 h2 => absurd (And.intro h1 h2) (by decide)) (fun _ => ?_) | (refine ok_began _ _ h20 r13 (by assumption) (by first | omega | (simp only [List.length_append, List.length_cons, List.length_nil]; omega)) (fun τ hM => ?_)) | (refine ok_mlen_6 _ i t0 sz ld s hB hi hk hs hl (by assumption) (by first | omega | (simp only [List.length_append, List.length_cons, List.length_nil]; omega)) (fun τ hM => ?_)) | (refine ok_mmass_6 _ i t0 sz ld s hB hi hk hs hl (by assumption) (by first | omega | (simp only [List.length_append, List.length_cons, List.length_nil]; omega)) (fun τ hM => ?_)))
  refine cast (congrArg (fun z => post (some (.inl z)) τ) ?_) (h1 τ ?_)
  · simp only [av_0_6, av_1_6, av_2_6, av_3_6, av_4_6, av_5_6, Int32.add_zero]
  · rw [at_3_6]
    try simp only [at_0_6, at_1_6, at_2_6, List.append_assoc, List.cons_append, List.nil_append] at hM ⊢
    exact hM
