section
variable {p : Program} {l : Launch} {e : Env} {R : Room} {s : State} {m : MethodId} {args : Array Value} {below : List Frame} {meth : Method} {c : Code} {Q : State → Prop}
variable {mi D : Nat} {A : Nat → Prop} {tA : Nat → Nat} {dC : Nat → ClassId} {dI : Nat → Nat → Nat} {N0 : Nat} {ad0 : Nat → Nat} {ca0 : Nat → ClassId} {scr : Option (Nat × (Nat → Int32))} {C : fd_C} {post : Option fd_V → fd_S → Prop}
/-- a call as fd_call has it -/
theorem fd_w_call {X : fd_X} {nx : List fd_E} {lv : fd_L} {as t : List fd_V} {σ : fd_S} {cc ss k : Nat} {G : Prop} (hk : k < 79) (h : fd_call C mi X nx lv as t σ cc ss k)
    (go : ∀ pk, (∀ r σ', pk r σ' → X nx lv (r.toList ++ t) σ' (cc + fd_mc k) (ss + fd_mS k)) → fd_cats t ≤ 8 → fd_cats as ≤ fd_mL k → (cc ≤ fd_mc mi → ss ≤ fd_mS mi → cc + fd_mc k ≤ fd_mc mi ∧ ss + fd_mS k ≤ fd_mS mi) → (fd_mc k = 0 ∨ (fd_okL σ.1 lv ∧ fd_okV σ.1 t)) → C k as σ pk → G) : G := by
  unfold fd_call at h
  split at h
  · exact h.elim
  · rename_i hb
    simp only [Bool.and_eq_true] at hb
    have h1 := Nat.le_of_ble_eq_true hb.1
    have h2 := Nat.le_of_ble_eq_true hb.2
    split at h
    · rename_i h0
      have h3 := fd_mS0 hk h0
      refine go _ ?_ h1 h2 (fun a b => by rw [h0, h3]; exact ⟨a, b⟩) (Or.inl h0) h
      intro r σ' hr
      rw [h0, h3]; exact hr
    · exact go _ (fun r σ' hr => hr) h1 h2 (fun _ _ => ⟨h.1.1, h.1.2.1⟩) (Or.inr ⟨h.1.2.2.1, h.1.2.2.2.1⟩) h.2
set_option maxHeartbeats 4000000 in
set_option maxRecDepth 100000 in
/-- one step of the abstract machine is one of the machine -/
theorem fd_stepW (cx : fd_ctx p R s m args meth c mi D A tA dC dI scr) (hck : fd_ckL mi (fd_code mi) = true) (hC : ∀ k as σ pk, k < 79 → fd_cats as ≤ fd_mL k → C k as σ pk → fd_Met l D k as σ pk)
    (hret : ∀ (r : Option fd_V) (σ : fd_S) (pc : Nat) (lv : fd_L) (cc ss : Nat) (ad : Nat → Nat) (ca : Nat → ClassId) (H : Heap) (locs : List Loc) (ls : Array Slot), post r σ → fd_rok mi pc r → fd_Rp s mi A tA dC dI N0 ad0 ca0 lv σ cc ss ad ca H locs ls → W p l e R s m args below meth c H locs cc ss Q (F0 m pc ls (r.map (fd_tr tA ad)).toList))
    (suf : List fd_E) (lv : fd_L) (st : List fd_V) (σ : fd_S) (cc ss : Nat) (h : fd_step C scr mi post (fd_W p l e R s m args below meth c Q mi A tA dC dI N0 ad0 ca0) suf lv st σ cc ss) : fd_W p l e R s m args below meth c Q mi A tA dC dI N0 ad0 ca0 suf lv st σ cc ss := by
  intro k hk
  cases suf with
  | nil => exact h.elim
  | cons e0 nx =>
  obtain ⟨pc, ins, len, v, rs⟩ := e0
  show fd_Wp p l e R s m args below meth c Q mi A tA dC dI N0 ad0 ca0 pc lv st σ cc ss
  have hnx : nx = (fd_code mi).drop (k + 1) := by rw [← List.tail_drop, ← hk]; rfl
  have hx := cx.1
  have hb := cx.2.1
  have hat : ins = .athrow ∨ (decode (fd_b mi) pc = .ok (ins, len) ∧ fd_ckI mi pc ins len v rs = true ∧ fd_pc nx = pc + len) := fd_ckL_at (fd_code mi) k _ nx hck hk.symm
  rcases hat with hat | ⟨hd, hi, hpc⟩
  · subst hat
    exact h.elim
  have nxt : ∀ {lv : fd_L} {st : List fd_V} {σ : fd_S} {cc ss : Nat}, fd_W p l e R s m args below meth c Q mi A tA dC dI N0 ad0 ca0 nx lv st σ cc ss → fd_Wp p l e R s m args below meth c Q mi A tA dC dI N0 ad0 ca0 (pc + len) lv st σ cc ss := fun h => by rw [← hpc]; exact h (k + 1) hnx
  have jmp : ∀ {k' tg : Nat} {lv : fd_L} {st : List fd_V} {σ : fd_S} {cc ss : Nat}, fd_pc ((fd_code mi).drop k') = tg → fd_W p l e R s m args below meth c Q mi A tA dC dI N0 ad0 ca0 ((fd_code mi).drop k') lv st σ cc ss → fd_Wp p l e R s m args below meth c Q mi A tA dC dI N0 ad0 ca0 tg lv st σ cc ss := fun e h => by rw [← e]; exact h _ rfl
  clear hk hnx hpc hck
  cases ins with
  | iconst n =>
    simp only [fd_ckI, Bool.and_eq_true, beq_iff_eq] at hi
    obtain ⟨rfl, hv⟩ := hi
    exact fun ad ca H locs ls hR => lv_iconst hx hb hd hv (nxt h ad ca H locs ls hR)
  | bipush n =>
    simp only [fd_ckI, Bool.and_eq_true, beq_iff_eq] at hi
    obtain ⟨rfl, hv⟩ := hi
    exact fun ad ca H locs ls hR => lv_bipush hx hb hd hv (nxt h ad ca H locs ls hR)
  | sipush n =>
    simp only [fd_ckI, Bool.and_eq_true, beq_iff_eq] at hi
    obtain ⟨rfl, hv⟩ := hi
    exact fun ad ca H locs ls hR => lv_sipush hx hb hd hv (nxt h ad ca H locs ls hR)
  | ldc n =>
    simp only [fd_ckI, Bool.and_eq_true, beq_iff_eq] at hi
    obtain ⟨rfl, hv⟩ := hi
    obtain ⟨q, hq, he⟩ := List.any_eq_true.mp hv
    simp only [Bool.and_eq_true, beq_iff_eq] at he
    obtain ⟨⟨e1, e2⟩, e3⟩ := he
    have hw := fd_at_tb (fd_cs_ok q hq)
    rw [e1, e2, e3] at hw
    exact fun ad ca H locs ls hR => lv_ldc hx hb cx.2.2.2.1 (cx.2.2.2.2.1 _ hw) hd (nxt h ad ca H locs ls hR)
  | lconst n =>
    simp only [fd_ckI, Bool.and_eq_true, beq_iff_eq] at hi
    obtain ⟨rfl, hv⟩ := hi
    exact fun ad ca H locs ls hR => lv_lconst hx hb hd (by rw [hv]; rfl) (nxt h ad ca H locs ls hR)
  | aconst_null =>
    simp only [fd_ckI, beq_iff_eq] at hi
    subst hi
    exact fun ad ca H locs ls hR => lv_null hx hb hd (nxt h ad ca H locs ls hR)
  | iload i =>
    simp only [fd_ckI, Bool.and_eq_true, beq_iff_eq] at hi
    obtain ⟨rfl, rfl⟩ := hi
    replace h : fd_ldI _ nx lv st σ cc ss [i] := h
    unfold fd_ldI at h
    dsimp only at h
    split at h
    · rename_i x hg
      exact fun ad ca H locs ls hR => lv_iload hx hb hd (fd_lv_at hR.2.2.2.2.2.1 hg) (nxt h ad ca H locs ls hR)
    · exact h.elim
  | iload_n i =>
    simp only [fd_ckI, Bool.and_eq_true, beq_iff_eq] at hi
    obtain ⟨rfl, rfl⟩ := hi
    replace h : fd_ldI _ nx lv st σ cc ss [i.val] := h
    unfold fd_ldI at h
    dsimp only at h
    split at h
    · rename_i x hg
      exact fun ad ca H locs ls hR => lv_iload_n hx hb hd rfl (fd_lv_at hR.2.2.2.2.2.1 hg) (nxt h ad ca H locs ls hR)
    · exact h.elim
  | aload i =>
    simp only [fd_ckI, Bool.and_eq_true, beq_iff_eq] at hi
    obtain ⟨rfl, rfl⟩ := hi
    replace h : fd_ldA _ nx lv st σ cc ss [i] := h
    unfold fd_ldA at h
    dsimp only at h
    split at h
    · rename_i w hg
      rcases w with o | k
      · cases o with
        | none => exact fun ad ca H locs ls hR => lv_aloadN hx hb hd (fd_lv_at hR.2.2.2.2.2.1 hg) (nxt h ad ca H locs ls hR)
        | some a => exact fun ad ca H locs ls hR => lv_aload hx hb hd (fd_lv_at hR.2.2.2.2.2.1 hg) (nxt h ad ca H locs ls hR)
      · exact fun ad ca H locs ls hR => lv_aload hx hb hd (fd_lv_at hR.2.2.2.2.2.1 hg) (nxt h ad ca H locs ls hR)
    · exact h.elim
  | aload_n i =>
    simp only [fd_ckI, Bool.and_eq_true, beq_iff_eq] at hi
    obtain ⟨rfl, rfl⟩ := hi
    replace h : fd_ldA _ nx lv st σ cc ss [i.val] := h
    unfold fd_ldA at h
    dsimp only at h
    split at h
    · rename_i w hg
      rcases w with o | k
      · cases o with
        | none => exact fun ad ca H locs ls hR => lv_aload_nN hx hb hd rfl (fd_lv_at hR.2.2.2.2.2.1 hg) (nxt h ad ca H locs ls hR)
        | some a => exact fun ad ca H locs ls hR => lv_aload_n hx hb hd rfl (fd_lv_at hR.2.2.2.2.2.1 hg) (nxt h ad ca H locs ls hR)
      · exact fun ad ca H locs ls hR => lv_aload_n hx hb hd rfl (fd_lv_at hR.2.2.2.2.2.1 hg) (nxt h ad ca H locs ls hR)
    · exact h.elim
  | istore i =>
    simp only [fd_ckI, Bool.and_eq_true, beq_iff_eq, decide_eq_true_eq] at hi
    obtain ⟨⟨rfl, rfl⟩, hlt⟩ := hi
    replace h : fd_stI _ nx lv st σ cc ss [i] := h
    unfold fd_stI at h
    dsimp only at h
    split at h
    · rename_i x t
      exact fun ad ca H locs ls hR => lv_istore hx hb hd hR.2.2.2.2.2.1 hlt (fd_put_lv tA ad lv i (.inl x)) (fun ls' hl' => nxt h ad ca H locs ls' ⟨hR.1, hR.2.1, hR.2.2.1, hR.2.2.2.1, hR.2.2.2.2.1, hl', hR.2.2.2.2.2.2.1, hR.2.2.2.2.2.2.2⟩)
    · exact h.elim
  | istore_n i =>
    simp only [fd_ckI, Bool.and_eq_true, beq_iff_eq, decide_eq_true_eq] at hi
    obtain ⟨⟨rfl, rfl⟩, hlt⟩ := hi
    replace h : fd_stI _ nx lv st σ cc ss [i.val] := h
    unfold fd_stI at h
    dsimp only at h
    split at h
    · rename_i x t
      exact fun ad ca H locs ls hR => lv_istore_n hx hb hd rfl hR.2.2.2.2.2.1 hlt (fd_put_lv tA ad lv i.val (.inl x)) (fun ls' hl' => nxt h ad ca H locs ls' ⟨hR.1, hR.2.1, hR.2.2.1, hR.2.2.2.1, hR.2.2.2.2.1, hl', hR.2.2.2.2.2.2.1, hR.2.2.2.2.2.2.2⟩)
    · exact h.elim
  | astore i =>
    simp only [fd_ckI, Bool.and_eq_true, beq_iff_eq, decide_eq_true_eq] at hi
    obtain ⟨⟨rfl, rfl⟩, hlt⟩ := hi
    replace h : fd_stA _ nx lv st σ cc ss [i] := h
    unfold fd_stA at h
    dsimp only at h
    split at h
    · rename_i o t
      cases o with
      | none => exact fun ad ca H locs ls hR => lv_astoreN hx hb hd hR.2.2.2.2.2.1 hlt (fd_put_lv tA ad lv i (.inr (.inr (.inl none)))) (fun ls' hl' => nxt h ad ca H locs ls' ⟨hR.1, hR.2.1, hR.2.2.1, hR.2.2.2.1, hR.2.2.2.2.1, hl', hR.2.2.2.2.2.2.1, hR.2.2.2.2.2.2.2⟩)
      | some a => exact fun ad ca H locs ls hR => lv_astore hx hb hd hR.2.2.2.2.2.1 hlt (fd_put_lv tA ad lv i (.inr (.inr (.inl (some a))))) (fun ls' hl' => nxt h ad ca H locs ls' ⟨hR.1, hR.2.1, hR.2.2.1, hR.2.2.2.1, hR.2.2.2.2.1, hl', hR.2.2.2.2.2.2.1, hR.2.2.2.2.2.2.2⟩)
    · exact h.elim
  | astore_n i =>
    simp only [fd_ckI, Bool.and_eq_true, beq_iff_eq, decide_eq_true_eq] at hi
    obtain ⟨⟨rfl, rfl⟩, hlt⟩ := hi
    replace h : fd_stA _ nx lv st σ cc ss [i.val] := h
    unfold fd_stA at h
    dsimp only at h
    split at h
    · rename_i o t
      cases o with
      | none => exact fun ad ca H locs ls hR => lv_astore_nN hx hb hd rfl hR.2.2.2.2.2.1 hlt (fd_put_lv tA ad lv i.val (.inr (.inr (.inl none)))) (fun ls' hl' => nxt h ad ca H locs ls' ⟨hR.1, hR.2.1, hR.2.2.1, hR.2.2.2.1, hR.2.2.2.2.1, hl', hR.2.2.2.2.2.2.1, hR.2.2.2.2.2.2.2⟩)
      | some a => exact fun ad ca H locs ls hR => lv_astore_n hx hb hd rfl hR.2.2.2.2.2.1 hlt (fd_put_lv tA ad lv i.val (.inr (.inr (.inl (some a))))) (fun ls' hl' => nxt h ad ca H locs ls' ⟨hR.1, hR.2.1, hR.2.2.1, hR.2.2.2.1, hR.2.2.2.2.1, hl', hR.2.2.2.2.2.2.1, hR.2.2.2.2.2.2.2⟩)
    · exact h.elim
  | iinc i n =>
    simp only [fd_ckI, Bool.and_eq_true, beq_iff_eq, decide_eq_true_eq] at hi
    obtain ⟨⟨⟨rfl, rfl⟩, hv⟩, hlt⟩ := hi
    subst hv
    replace h : (match fd_get lv i with
        | some (.inl x) => fd_W p l e R s m args below meth c Q mi A tA dC dI N0 ad0 ca0 nx (fd_put lv i (.inl (x + Int32.ofInt n))) st σ cc ss
        | _ => False) := h
    split at h
    · rename_i x hg
      intro ad ca H locs ls hR
      obtain ⟨k', hk'⟩ := List.getElem?_of_mem (List.mem_map.mpr ⟨(i, (.inl x : fd_V)), fd_get_mem hg, rfl⟩ : (i, fd_tr tA ad (.inl x)) ∈ fd_lv tA ad lv)
      exact lv_iinc hx hb hd hR.2.2.2.2.2.1 hk' rfl hlt (fd_put_lv tA ad lv i (.inl (x + Int32.ofInt n))) (fun ls' hl' => nxt h ad ca H locs ls' ⟨hR.1, hR.2.1, hR.2.2.1, hR.2.2.2.1, hR.2.2.2.2.1, hl', hR.2.2.2.2.2.2.1, hR.2.2.2.2.2.2.2⟩)
    · exact h.elim
  | iadd =>
    simp only [fd_ckI, beq_iff_eq] at hi
    subst hi
    replace h : fd_bin _ nx lv st σ cc ss (fun x y => x + y) := h
    unfold fd_bin at h
    split at h
    · exact fun ad ca H locs ls hR => lv_iadd hx hb hd (nxt h ad ca H locs ls hR)
    · exact h.elim
  | isub =>
    simp only [fd_ckI, beq_iff_eq] at hi
    subst hi
    replace h : fd_bin _ nx lv st σ cc ss (fun x y => x - y) := h
    unfold fd_bin at h
    split at h
    · exact fun ad ca H locs ls hR => lv_isub hx hb hd (nxt h ad ca H locs ls hR)
    · exact h.elim
  | imul =>
    simp only [fd_ckI, beq_iff_eq] at hi
    subst hi
    replace h : fd_bin _ nx lv st σ cc ss (fun x y => x * y) := h
    unfold fd_bin at h
    split at h
    · exact fun ad ca H locs ls hR => lv_imul hx hb hd (nxt h ad ca H locs ls hR)
    · exact h.elim
  | iand =>
    simp only [fd_ckI, beq_iff_eq] at hi
    subst hi
    replace h : fd_bin _ nx lv st σ cc ss (fun x y => x &&& y) := h
    unfold fd_bin at h
    split at h
    · exact fun ad ca H locs ls hR => lv_iand hx hb hd (nxt h ad ca H locs ls hR)
    · exact h.elim
  | idiv =>
    simp only [fd_ckI, beq_iff_eq] at hi
    subst hi
    unfold fd_step at h
    dsimp only at h
    split at h
    · exact fun ad ca H locs ls hR => lv_idiv hx hb hd h.1 (nxt h.2 ad ca H locs ls hR)
    · exact h.elim
  | ineg =>
    simp only [fd_ckI, beq_iff_eq] at hi
    subst hi
    unfold fd_step at h
    dsimp only at h
    split at h
    · exact fun ad ca H locs ls hR => lv_ineg hx hb hd (nxt h ad ca H locs ls hR)
    · exact h.elim
  | i2l =>
    simp only [fd_ckI, beq_iff_eq] at hi
    subst hi
    unfold fd_step at h
    dsimp only at h
    split at h
    · exact fun ad ca H locs ls hR => lv_i2l hx hb hd rfl (nxt h ad ca H locs ls hR)
    · exact h.elim
  | ladd =>
    simp only [fd_ckI, beq_iff_eq] at hi
    subst hi
    unfold fd_step at h
    dsimp only at h
    split at h
    · exact fun ad ca H locs ls hR => lv_ladd hx hb hd (nxt h ad ca H locs ls hR)
    · exact h.elim
  | lsub =>
    simp only [fd_ckI, beq_iff_eq] at hi
    subst hi
    unfold fd_step at h
    dsimp only at h
    split at h
    · exact fun ad ca H locs ls hR => lv_lsub hx hb hd (nxt h ad ca H locs ls hR)
    · exact h.elim
  | lcmp =>
    simp only [fd_ckI, beq_iff_eq] at hi
    subst hi
    unfold fd_step at h
    dsimp only at h
    split at h
    · exact fun ad ca H locs ls hR => W.lcmp hx hb hd (nxt h ad ca H locs ls hR)
    · exact h.elim
  | dup =>
    simp only [fd_ckI, beq_iff_eq] at hi
    subst hi
    unfold fd_step at h
    dsimp only at h
    split at h
    · exact fun ad ca H locs ls hR => lv_dup hx hb hd (fd_trcat tA ad _) (nxt h ad ca H locs ls hR)
    · exact fun ad ca H locs ls hR => lv_dup hx hb hd (fd_trcat tA ad _) (nxt h ad ca H locs ls hR)
    · exact h.elim
  | dup2 =>
    simp only [fd_ckI, beq_iff_eq] at hi
    subst hi
    unfold fd_step at h
    dsimp only at h
    split at h
    · exact fun ad ca H locs ls hR => lv_dup2_11 hx hb hd (fd_trcat tA ad _) (fd_trcat tA ad _) (nxt h ad ca H locs ls hR)
    · exact h.elim
  | if_icmp cnd off =>
    obtain ⟨j, rfl, rfl, htg⟩ := fd_jmp_use hi
    obtain ⟨tg, ht, hp⟩ := fd_tgt_use htg
    unfold fd_step at h
    dsimp only at h
    split at h
    · unfold fd_br at h
      dsimp only at h
      cases cnd with
      | eq => exact fun ad ca H locs ls hR => lv_icmp_eq hx hb hd ht (fun q => jmp hp (h.1 q) ad ca H locs ls hR) (fun q => nxt (h.2 q) ad ca H locs ls hR)
      | ne => exact fun ad ca H locs ls hR => lv_icmp_ne hx hb hd ht (fun q => jmp hp (h.1 q) ad ca H locs ls hR) (fun q => nxt (h.2 q) ad ca H locs ls hR)
      | lt => exact fun ad ca H locs ls hR => lv_icmp_lt hx hb hd ht (fun q => jmp hp (h.1 q) ad ca H locs ls hR) (fun q => nxt (h.2 q) ad ca H locs ls hR)
      | ge => exact fun ad ca H locs ls hR => lv_icmp_ge hx hb hd ht (fun q => jmp hp (h.1 q) ad ca H locs ls hR) (fun q => nxt (h.2 q) ad ca H locs ls hR)
      | gt => exact fun ad ca H locs ls hR => lv_icmp_gt hx hb hd ht (fun q => jmp hp (h.1 q) ad ca H locs ls hR) (fun q => nxt (h.2 q) ad ca H locs ls hR)
      | le => exact fun ad ca H locs ls hR => lv_icmp_le hx hb hd ht (fun q => jmp hp (h.1 q) ad ca H locs ls hR) (fun q => nxt (h.2 q) ad ca H locs ls hR)
    · exact h.elim
  | ifCond cnd off =>
    obtain ⟨j, rfl, rfl, htg⟩ := fd_jmp_use hi
    obtain ⟨tg, ht, hp⟩ := fd_tgt_use htg
    unfold fd_step at h
    dsimp only at h
    split at h
    · unfold fd_br at h
      dsimp only at h
      cases cnd with
      | eq => exact fun ad ca H locs ls hR => lv_if_eq hx hb hd ht (fun q => jmp hp (h.1 q) ad ca H locs ls hR) (fun q => nxt (h.2 q) ad ca H locs ls hR)
      | ne => exact fun ad ca H locs ls hR => lv_if_ne hx hb hd ht (fun q => jmp hp (h.1 q) ad ca H locs ls hR) (fun q => nxt (h.2 q) ad ca H locs ls hR)
      | lt => exact fun ad ca H locs ls hR => lv_if_lt hx hb hd ht (fun q => jmp hp (h.1 q) ad ca H locs ls hR) (fun q => nxt (h.2 q) ad ca H locs ls hR)
      | ge => exact fun ad ca H locs ls hR => lv_if_ge hx hb hd ht (fun q => jmp hp (h.1 q) ad ca H locs ls hR) (fun q => nxt (h.2 q) ad ca H locs ls hR)
      | gt => exact fun ad ca H locs ls hR => lv_if_gt hx hb hd ht (fun q => jmp hp (h.1 q) ad ca H locs ls hR) (fun q => nxt (h.2 q) ad ca H locs ls hR)
      | le => exact fun ad ca H locs ls hR => lv_if_le hx hb hd ht (fun q => jmp hp (h.1 q) ad ca H locs ls hR) (fun q => nxt (h.2 q) ad ca H locs ls hR)
    · exact h.elim
  | ifnull off =>
    obtain ⟨j, rfl, rfl, htg⟩ := fd_jmp_use hi
    obtain ⟨tg, ht, hp⟩ := fd_tgt_use htg
    unfold fd_step at h
    dsimp only at h
    split at h
    · rename_i o t
      unfold fd_br at h
      dsimp only at h
      cases o with
      | none => exact fun ad ca H locs ls hR => lv_ifnullN hx hb hd ht (jmp hp (h.1 rfl) ad ca H locs ls hR)
      | some a => exact fun ad ca H locs ls hR => lv_ifnull hx hb hd (nxt (h.2 (by simp)) ad ca H locs ls hR)
    · exact h.elim
  | ifnonnull off =>
    obtain ⟨j, rfl, rfl, htg⟩ := fd_jmp_use hi
    obtain ⟨tg, ht, hp⟩ := fd_tgt_use htg
    unfold fd_step at h
    dsimp only at h
    split at h
    · rename_i o t
      unfold fd_br at h
      dsimp only at h
      cases o with
      | none => exact fun ad ca H locs ls hR => lv_ifnonnullN hx hb hd (nxt (h.2 rfl) ad ca H locs ls hR)
      | some a => exact fun ad ca H locs ls hR => lv_ifnonnull hx hb hd ht (jmp hp (h.1 (by simp)) ad ca H locs ls hR)
    · exact h.elim
  | goto off =>
    obtain ⟨j, rfl, rfl, htg⟩ := fd_jmp_use hi
    obtain ⟨tg, ht, hp⟩ := fd_tgt_use htg
    exact fun ad ca H locs ls hR => lv_goto hx hb hd ht (jmp hp h ad ca H locs ls hR)
  | tableswitch dflt lo hi' offs =>
    unfold fd_step at h
    dsimp only at h
    unfold fd_ckI at hi
    dsimp only at hi
    split at h
    · rename_i dk ts
      simp only [Bool.and_eq_true, decide_eq_true_eq, List.all_eq_true, List.mem_range] at hi
      obtain ⟨⟨hi1, hi2⟩, hi3⟩ := hi
      split at h
      · rename_i x t
        rcases h with ⟨j, k', hj, hxj, hX⟩ | ⟨hout, hX⟩
        · obtain ⟨hjl, hje⟩ := List.getElem?_eq_some_iff.mp hj
          have h3 := hi3 j hjl
          split at h3
          · rename_i off hoff
            have hgd : ts.getD j 0 = k' := by simp [List.getD, hj]
            rw [hgd] at h3
            obtain ⟨tg, ht, hp⟩ := fd_tgt_use h3
            have ej : (x.toInt - lo).toNat = j := by omega
            exact fun ad ca H locs ls hR => lv_tableIn hx hb hd (by omega) (by omega) (by rw [ej]; exact hoff) ht (jmp hp hX ad ca H locs ls hR)
          · cases h3
        · obtain ⟨tg, ht, hp⟩ := fd_tgt_use hi1
          exact fun ad ca H locs ls hR => lv_tableOut hx hb hd hout ht (jmp hp hX ad ca H locs ls hR)
      · exact h.elim
    · exact h.elim
  | getstatic i =>
    unfold fd_step at h
    dsimp only at h
    unfold fd_ckI at hi
    dsimp only at hi
    split at h
    · rename_i k'
      simp only [Bool.and_eq_true, beq_iff_eq] at hi
      obtain ⟨rfl, hv⟩ := hi
      obtain ⟨q, hq, he⟩ := List.any_eq_true.mp hv
      simp only [Bool.and_eq_true, beq_iff_eq] at he
      obtain ⟨⟨e1, e2⟩, e3⟩ := he
      have hw := fd_stt_ok q hq
      simp only [Bool.and_eq_true, decide_eq_true_eq] at hw
      obtain ⟨hw, h2⟩ := hw
      have hw := fd_at_tb hw
      rw [e1, e2, e3] at hw
      rw [e3] at h2
      have hst := cx.2.2.2.2.2.2.1
      match k', h2 with
      | 0, _ => exact fun ad ca H locs ls hR => va_gets hx hb hst.1 hR.2.2.2.2.1 cx.2.2.2.1 (cx.2.2.2.2.1 _ hw) (fun _ h => h) hd (nxt h ad ca H locs ls hR)
      | 1, _ => exact fun ad ca H locs ls hR => va_gets hx hb hst.2.2.1 hR.2.2.2.2.1 cx.2.2.2.1 (cx.2.2.2.2.1 _ hw) (fun _ h => h) hd (nxt h ad ca H locs ls hR)
    · exact h.elim
  | getfield i =>
    replace h : fd_gf _ nx lv st σ cc ss rs := h
    unfold fd_gf at h
    unfold fd_ckI at hi
    dsimp only at hi
    split at h
    · rename_i ci k' ty
      simp only [Bool.and_eq_true, beq_iff_eq] at hi
      obtain ⟨⟨rfl, hl⟩, hty⟩ := hi
      split at h
      · rename_i o t
        obtain ⟨a, rfl, ha, hs, hX⟩ := h
        have key : ∀ (T : FieldType), fd_tyf ci k' = T → fd_Wp p l e R s m args below meth c Q mi A tA dC dI N0 ad0 ca0 pc lv (.inr (.inr (.inl (some a))) :: t) σ cc ss := by
          intro T hT
          rw [hT] at hty
          subst hty
          cases T with
          | long => exact fd_w_gf cx hl hd ha hs (fun ad => by rw [hT]; rfl) (nxt hX)
          | object n => exact fd_w_gf cx hl hd ha hs (fun ad => by rw [hT]; rfl) (nxt hX)
          | array n => exact fd_w_gf cx hl hd ha hs (fun ad => by rw [hT]; rfl) (nxt hX)
          | boolean => exact fd_w_gf cx hl hd ha hs (fun ad => by rw [hT]; rfl) (nxt hX)
          | int => exact fd_w_gf cx hl hd ha hs (fun ad => by rw [hT]; rfl) (nxt hX)
          | byte => exact fd_w_gf cx hl hd ha hs (fun ad => by rw [hT]; rfl) (nxt hX)
          | char => exact fd_w_gf cx hl hd ha hs (fun ad => by rw [hT]; rfl) (nxt hX)
          | short => exact fd_w_gf cx hl hd ha hs (fun ad => by rw [hT]; rfl) (nxt hX)
          | float => exact fd_w_gf cx hl hd ha hs (fun ad => by rw [hT]; rfl) (nxt hX)
          | double => exact fd_w_gf cx hl hd ha hs (fun ad => by rw [hT]; rfl) (nxt hX)
        exact key _ rfl
      · exact h.elim
    · exact h.elim
  | iaload =>
    simp only [fd_ckI, beq_iff_eq] at hi
    subst hi
    replace h : fd_ial scr _ nx lv st σ cc ss := h
    unfold fd_ial at h
    split at h
    · rename_i i o t
      obtain ⟨a, n, rfl, ha, hs, hin, hX⟩ := h
      exact fun ad ca H locs ls hR => va_iald (D := (dC, dI)) hx hb (fd_Ka cx.2.2.2.2.2.1 hR.2.2.1 ha hs) hR.1 a 0 (by rw [fd_ws_get ha, fd_cell_int hs]) rfl hin hd (nxt hX ad ca H locs ls hR)
    · rename_i i k' t
      rcases h with ⟨h2, hin, hX⟩ | ⟨h2, n, f, hsc, hin, hX⟩
      · have hst := cx.2.2.2.2.2.2.1
        match k', h2 with
        | 0, _ => exact fun ad ca H locs ls hR => va_ti hx hb hst.2.1 hR.2.2.2.2.1 hin rfl hd (nxt hX ad ca H locs ls hR)
        | 1, _ => exact fun ad ca H locs ls hR => va_ti hx hb hst.2.2.2 hR.2.2.2.2.1 hin rfl hd (nxt hX ad ca H locs ls hR)
      · subst h2
        obtain ⟨s1, s2, s3⟩ := cx.2.2.2.2.2.2.2.2.2.2.2.1 n f hsc
        exact fun ad ca H locs ls hR => va_sld hx hb s1 s2 s3 hR.2.2.2.2.1 hin hd (nxt hX ad ca H locs ls hR)
    · exact h.elim
  | aaload =>
    simp only [fd_ckI, beq_iff_eq] at hi
    subst hi
    replace h : fd_aal _ nx lv st σ cc ss := h
    unfold fd_aal at h
    split at h
    · rename_i i o t
      obtain ⟨a, n, c', rfl, ha, hs, hin, hX⟩ := h
      exact fun ad ca H locs ls hR => va_aldq (D := (dC, dI)) (f := fun j => (σ.2.2.1 a j).map ad) hx hb (fd_Ka cx.2.2.2.2.2.1 hR.2.2.1 ha hs) hR.1 a 0 (by rw [fd_ws_get ha, fd_cell_ref hs]) rfl hin hd (nxt hX ad ca H locs ls hR)
    · exact h.elim
  | iastore =>
    simp only [fd_ckI, beq_iff_eq] at hi
    subst hi
    replace h : fd_ias _ nx lv st σ cc ss := h
    unfold fd_ias at h
    split at h
    · rename_i x i o t
      obtain ⟨a, n, rfl, ha, hs, hin, hX⟩ := h
      exact fun ad ca H locs ls hR => va_iast (D := (dC, dI)) hx hb (fd_Ka cx.2.2.2.2.2.1 hR.2.2.1 ha hs) hR.1 hR.2.1 hR.2.2.2.2.1 a 0 (by rw [fd_ws_get ha, fd_cell_int hs]) rfl hin hd (fun H1 locs1 hP1 hD1 hS1 => by
        rw [fd_ws_iarr hs] at hP1 hD1
        exact nxt hX ad ca H1 locs1 ls ⟨hP1, hD1, hR.2.2.1, hR.2.2.2.1, hS1, hR.2.2.2.2.2⟩)
    · exact h.elim
  | aastore =>
    simp only [fd_ckI, beq_iff_eq] at hi
    subst hi
    replace h : fd_aas _ nx lv st σ cc ss := h
    unfold fd_aas at h
    split at h
    · rename_i w i o t
      obtain ⟨a, n, c', z, rfl, ha, hs, hin, rfl, hz, hsz, hX⟩ := h
      have hc5 : c' < 5 := fd_sh_ref hs
      exact fun ad ca H locs ls hR => va_astq (D := (dC, dI)) (r := fd_cl5 c') hx hb (fd_Ka cx.2.2.2.2.2.1 hR.2.2.1 ha hs) hR.1 hR.2.1 hR.2.2.2.2.1 a 0 z c' (by rw [fd_ws_get ha, fd_cell_ref hs]) rfl (by rw [fd_ws_get hz, fd_cell_obj hsz]) (fd_vwCl hc5) hin hd (fun H1 locs1 hP1 hD1 hS1 => by
        rw [fd_ws_rarr hs] at hP1 hD1
        exact nxt hX ad ca H1 locs1 ls ⟨hP1, hD1, hR.2.2.1, hR.2.2.2.1, hS1, hR.2.2.2.2.2⟩)
    · exact h.elim
  | arraylength =>
    simp only [fd_ckI, beq_iff_eq] at hi
    subst hi
    replace h : fd_aln scr _ nx lv st σ cc ss := h
    unfold fd_aln at h
    split at h
    · rename_i o t
      obtain ⟨a, n, c', rfl, ha, hs, hX⟩ := h
      cases c' with
      | none => exact fun ad ca H locs ls hR => va_alen (D := (dC, dI)) (x := (n, .inl (fun j => σ.2.1 a j))) hx hb (fd_Ka cx.2.2.2.2.2.1 hR.2.2.1 ha hs) hR.1 a 0 (by rw [fd_ws_get ha, fd_cell_int hs]) rfl rfl hd (nxt hX ad ca H locs ls hR)
      | some c' => exact fun ad ca H locs ls hR => va_alen (D := (dC, dI)) (x := (n, .inr (.inr (.inr (.inr (fun j => (σ.2.2.1 a j).map ad)))))) hx hb (fd_Ka cx.2.2.2.2.2.1 hR.2.2.1 ha hs) hR.1 a 0 (by rw [fd_ws_get ha, fd_cell_ref hs]) rfl rfl hd (nxt hX ad ca H locs ls hR)
    · rename_i k' t
      rcases h with ⟨h2, hX⟩ | ⟨h2, n, f, hsc, hX⟩
      · have hst := cx.2.2.2.2.2.2.1
        match k', h2 with
        | 0, _ => exact fun ad ca H locs ls hR => va_tlen hx hb hst.2.1 hR.2.2.2.2.1 rfl hd (nxt hX ad ca H locs ls hR)
        | 1, _ => exact fun ad ca H locs ls hR => va_tlen hx hb hst.2.2.2 hR.2.2.2.2.1 rfl hd (nxt hX ad ca H locs ls hR)
      · subst h2
        obtain ⟨s1, s2, s3⟩ := cx.2.2.2.2.2.2.2.2.2.2.2.1 n f hsc
        exact fun ad ca H locs ls hR => va_slen hx hb s1 s2 s3 hR.2.2.2.2.1 hd (nxt hX ad ca H locs ls hR)
    · exact h.elim
  | ireturn =>
    simp only [fd_ckI, beq_iff_eq] at hi
    subst hi
    unfold fd_step at h
    dsimp only at h
    split at h
    · rename_i x
      split at h
      · rename_i hr
        exact fun ad ca H locs ls hR => hret (some (.inl x)) σ pc lv cc ss ad ca H locs ls h ⟨hd, Or.inl hr⟩ hR
      · rename_i hr
        exact fun ad ca H locs ls hR => hret (some (.inl x)) σ pc lv cc ss ad ca H locs ls h.2 ⟨hd, Or.inr ⟨hr, h.1⟩⟩ hR
      · exact h.elim
    · exact h.elim
  | lreturn =>
    simp only [fd_ckI, beq_iff_eq] at hi
    subst hi
    unfold fd_step at h
    dsimp only at h
    split at h
    · rename_i x
      split at h
      · rename_i hr
        exact fun ad ca H locs ls hR => hret (some (.inr (.inl x))) σ pc lv cc ss ad ca H locs ls h ⟨hd, hr⟩ hR
      · exact h.elim
    · exact h.elim
  | areturn =>
    simp only [fd_ckI, beq_iff_eq] at hi
    subst hi
    unfold fd_step at h
    dsimp only at h
    split at h
    · rename_i o
      split at h
      · rename_i n hr
        exact fun ad ca H locs ls hR => hret (some (.inr (.inr (.inl o)))) σ pc lv cc ss ad ca H locs ls h ⟨hd, n, hr⟩ hR
      · exact h.elim
    · exact h.elim
  | return_ =>
    simp only [fd_ckI, beq_iff_eq] at hi
    subst hi
    unfold fd_step at h
    dsimp only at h
    split at h
    · split at h
      · rename_i hr
        exact fun ad ca H locs ls hR => hret none σ pc lv cc ss ad ca H locs ls h ⟨hd, hr⟩ hR
      · exact h.elim
    · exact h.elim
  | putfield i =>
    replace h : fd_pf _ nx lv st σ cc ss rs := h
    unfold fd_ckI at hi
    dsimp only at hi
    split at hi
    · rename_i ci k' ty f
      simp only [Bool.and_eq_true] at hi
      obtain ⟨⟨⟨hlen, hl⟩, hty⟩, hf⟩ := hi
      simp only [beq_iff_eq] at hlen hty
      subst hlen
      exact fd_w_putfield cx h hl hty hf hd nxt
    · cases hi
  | newarray t =>
    simp only [fd_ckI, Bool.and_eq_true, beq_iff_eq, decide_eq_true_eq] at hi
    obtain ⟨rfl, rfl⟩ := hi
    replace h : fd_nwa mi _ nx lv st σ cc ss none := h
    unfold fd_nwa at h
    split at h
    · rename_i n t
      obtain ⟨N, hN, hn0, hle, hs, hnew, hX⟩ := h
      intro ad ca H locs ls hR
      have hm := fd_math_ok
      simp only [Bool.and_eq_true] at hm
      have harr := cx.2.2.2.2.1 _ (fd_in_tb hm.2)
      have hz : (fun j => (fd_alloc σ).2.1 σ.1 j) = (fun _ => (0 : Int32)) := funext (fun j => fd_u0_eq)
      have hby : N * componentBytes .int ≤ 536870912 := by
        have : componentBytes .int = 4 := rfl
        rw [this]; omega
      refine va_newa (atype := .int) (D := (dC, dI)) (ty := .int) (a0 := (N, .inl (fun _ => 0))) (N' := N) hx hb harr rfl cx.2.2.2.2.2.1 hR.1 hR.2.1 hR.2.2.2.2.1 cx.2.2.2.2.2.2.2.2.1 (fun cA => rfl) hn0 hN hby (Nat.le_trans hnew.1 cx.2.2.2.2.2.2.2.2.2.1.1) (Nat.le_trans hnew.2.1 cx.2.2.2.2.2.2.2.2.2.1.2) hd ?_
      intro q cA H1 hK1 hP1 hD1 hS1
      refine fd_w_new (nc := 0) (ca := ca) (cA := cA) hnew hR.2.2.1 (fun n' c' hs' => ?_) hR.2.2.2.1 hR.2.2.2.2.2.1 ?_ hP1 hD1 hS1 (nxt hX)
      · rw [hs] at hs'
        cases hs'
        exact hK1.2 0 (cA, .int) rfl
      · have e2 : vp_upC ca σ.1 cA σ.1 = cA := by simp [vp_upC]
        rw [fd_cell_int hs, hz, e2]
    · exact h.elim
  | anewarray i =>
    unfold fd_step at h
    dsimp only at h
    unfold fd_ckI at hi
    dsimp only at hi
    split at h
    · rename_i k'
      simp only [Bool.and_eq_true, beq_iff_eq] at hi
      obtain ⟨⟨rfl, hv⟩, hk12⟩ := hi
      obtain ⟨q, hq, he⟩ := List.any_eq_true.mp hv
      simp only [Bool.and_eq_true, beq_iff_eq] at he
      obtain ⟨⟨e1, e2⟩, e3⟩ := he
      have hw := fd_clk_ok q hq
      simp only [Bool.and_eq_true, decide_eq_true_eq] at hw
      obtain ⟨hw, h2⟩ := hw
      have hw := fd_at_tb hw
      rw [e1, e2, e3] at hw
      have hao : va_AO (fd_R k') s := by
        simp only [Bool.or_eq_true, beq_iff_eq] at hk12
        rcases hk12 with rfl | rfl
        · exact cx.2.2.2.2.2.2.2.1.2.2.1
        · exact cx.2.2.2.2.2.2.2.1.2.2.2
      unfold fd_nwa at h
      split at h
      · rename_i n t
        obtain ⟨N, hN, hn0, hle, hs, hnew, hX⟩ := h
        intro ad ca H locs ls hR
        refine va_newq (D := (dC, dI)) (N' := N) hx hb cx.2.2.2.1 (cx.2.2.2.2.1 _ hw) hao cx.2.2.2.2.2.1 hR.1 hR.2.1 hR.2.2.2.2.1 cx.2.2.2.2.2.2.2.2.1 hn0 hN (by omega) (Nat.le_trans hnew.1 cx.2.2.2.2.2.2.2.2.2.1.1) (Nat.le_trans hnew.2.1 cx.2.2.2.2.2.2.2.2.2.1.2) hd ?_
        intro q cA H1 hK1 hP1 hD1 hS1
        refine fd_w_new (nc := 0) (ca := ca) (cA := cA) hnew hR.2.2.1 (fun n' c' hs' => ?_) hR.2.2.2.1 hR.2.2.2.2.2.1 ?_ hP1 hD1 hS1 (nxt hX)
        · rw [hs] at hs'
          cases hs'
          exact hK1.2 0 (cA, .object (fd_R k')) rfl
        · have e2 : vp_upC ca σ.1 cA σ.1 = cA := by simp [vp_upC]
          have hz : (fun j => ((fd_alloc σ).2.2.1 σ.1 j).map (va_up ad σ.1 q)) = (fun _ => none) := by
            funext j
            have e3 : (fd_alloc σ).2.2.1 σ.1 j = none := fd_u0_eq
            rw [e3]; rfl
          rw [fd_cell_ref hs, hz, e2]
      · exact h.elim
    · exact h.elim
  | new i =>
    unfold fd_step at h
    dsimp only at h
    unfold fd_ckI at hi
    dsimp only at hi
    split at h
    · rename_i k'
      simp only [Bool.and_eq_true, beq_iff_eq] at hi
      obtain ⟨rfl, hv⟩ := hi
      obtain ⟨q, hq, he⟩ := List.any_eq_true.mp hv
      simp only [Bool.and_eq_true, beq_iff_eq] at he
      obtain ⟨⟨e1, e2⟩, e3⟩ := he
      have hw := fd_clk_ok q hq
      simp only [Bool.and_eq_true, decide_eq_true_eq] at hw
      obtain ⟨hw, h2⟩ := hw
      have hw := fd_at_tb hw
      rw [e1, e2, e3] at hw
      rw [e3] at h2
      obtain ⟨hs, hnew, hX⟩ := h
      have hco := fd_cls_ok k' h2
      simp only [Bool.and_eq_true] at hco
      intro ad ca H locs ls hR
      refine va_new (D := (dC, dI)) (fs := fd_fs ad (fd_alloc σ) k' σ.1) hx hb cx.2.2.2.2.1 (fd_wsIn h2) (fd_tyf k') (fd_tyok h2) cx.2.2.2.1 (cx.2.2.2.2.1 _ hw) (cx.2.2.2.2.1 _ (fd_in_tb hco.1.1)) (cx.2.2.2.2.1 _ (fd_in_tb hco.1.2)) cx.2.2.2.2.2.1 hR.1 hR.2.1 hR.2.2.2.2.1 cx.2.2.2.2.2.2.2.2.1 (fd_vwCl h2) (fun j hj => ?_) (Nat.le_trans hnew.1 cx.2.2.2.2.2.2.2.2.2.1.1) (Nat.le_trans hnew.2.1 cx.2.2.2.2.2.2.2.2.2.1.2) hd ?_
      · have hz := fd_tyz k' h2 j hj
        simp only [Bool.or_eq_true, bne_iff_ne, decide_eq_true_eq] at hz
        rw [fd_def σ ad j _ hz]
        simp [vp_V, List.getD, fd_fs_get hj]
      · intro q H1 hP1 hD1 hS1
        refine fd_w_new (nc := 0) (ca := ca) (cA := ca 0) hnew hR.2.2.1 (fun n' c' hs' => ?_) hR.2.2.2.1 hR.2.2.2.2.2.1 ?_ hP1 hD1 hS1 (nxt hX)
        · rw [hs] at hs'
          cases hs'
        · rw [fd_cell_obj hs]
          congr 2
          unfold fd_fs
          apply List.map_congr_left
          intro j hj
          have hj' := List.mem_range.mp hj
          have hz := fd_tyz k' h2 j hj'
          simp only [Bool.or_eq_true, bne_iff_ne, decide_eq_true_eq] at hz
          rw [← fd_def σ ad j _ hz, ← fd_def σ _ j _ hz]
    · exact h.elim
  | invokevirtual i =>
    unfold fd_step at h
    dsimp only at h
    unfold fd_ckI at hi
    dsimp only at hi
    split at h
    · rename_i k'
      simp only [Bool.and_eq_true, beq_iff_eq] at hi
      obtain ⟨rfl, hl⟩ := hi
      have hk' := (fd_mt_use hl).1
      split at h
      · rename_i as o t hpop
        obtain ⟨a, rfl, ha, hs, hcall⟩ := h
        obtain ⟨xs, e1, e2, e3⟩ := fd_popn_spec _ _ _ _ _ hpop
        rw [List.append_nil] at e1
        subst e1
        rw [e2]
        exact fd_w_call hk' hcall (fun pk hpk h8 hmL hbud hal hCk => fd_w_V cx hC hl hd e3 h8 hmL ha hs hbud hal hCk (fun r σ' hr => nxt (hpk r σ' hr)))
      · exact h.elim
    · exact h.elim
  | invokestatic i =>
    unfold fd_step at h
    dsimp only at h
    unfold fd_ckI at hi
    dsimp only at hi
    split at h
    · rename_i k'
      simp only [Bool.and_eq_true, beq_iff_eq] at hi
      obtain ⟨rfl, hl⟩ := hi
      have hk' := (fd_mt_use hl).1
      split at h
      · rename_i as t hpop
        obtain ⟨xs, e1, e2, e3⟩ := fd_popn_spec _ _ _ _ _ hpop
        rw [List.append_nil] at e1
        subst e1
        rw [e2]
        exact fd_w_call hk' h (fun pk hpk h8 hmL hbud hal hCk => fd_w_S cx hC (Or.inl rfl) hl hd e3 h8 hmL hbud hal hCk (fun r σ' hr => nxt (hpk r σ' hr)))
      · exact h.elim
    · rename_i k'
      simp only [Bool.and_eq_true, beq_iff_eq] at hi
      obtain ⟨rfl, hl⟩ := hi
      have hk' := (fd_mt_use hl).1
      split at h
      · rename_i as t hpop
        obtain ⟨xs, e1, e2, e3⟩ := fd_popn_spec _ _ _ _ _ hpop
        rw [List.append_nil] at e1
        subst e1
        rw [e2]
        exact fd_w_call hk' h (fun pk hpk h8 hmL hbud hal hCk => fd_w_S cx hC (Or.inr rfl) hl hd e3 h8 hmL hbud hal hCk (fun r σ' hr => nxt (hpk r σ' hr)))
      · exact h.elim
    · simp only [Bool.and_eq_true, beq_iff_eq] at hi
      obtain ⟨rfl, hl⟩ := hi
      have hw := fd_sp_use hl
      have hm := fd_math_ok
      simp only [Bool.and_eq_true] at hm
      obtain ⟨⟨⟨⟨⟨m1, m2⟩, m3⟩, m4⟩, m5⟩, m6⟩ := hm
      have hts := cx.2.2.2.2.1
      split at h
      · rename_i y x t
        split at h
        · rename_i h8
          intro ad ca H locs ls hR
          exact va_mmax hx hb (by rw [cx.2.2.1]; exact hR.2.2.2.2.2.1.1.symm) cx.2.2.2.1 (hts _ hw) (hts _ (fd_in_tb m1)) (hts _ (fd_in_tb m3)) (hts _ (fd_in_tb m4)) (by have := cx.2.2.2.2.2.2.2.2.2.2.1.1; omega) (by rw [fd_cats_tr]; have := cx.2.2.2.2.2.2.2.2.2.2.1.2; have := Nat.le_of_ble_eq_true h8; omega) (Nat.le_trans hR.2.2.2.2.2.2.1 cx.2.2.2.2.2.2.2.2.2.1.1) (Nat.le_trans hR.2.2.2.2.2.2.2 cx.2.2.2.2.2.2.2.2.2.1.2) hd (nxt h ad ca H locs ls hR)
        · exact h.elim
      · exact h.elim
    · simp only [Bool.and_eq_true, beq_iff_eq] at hi
      obtain ⟨rfl, hl⟩ := hi
      have hw := fd_sp_use hl
      have hm := fd_math_ok
      simp only [Bool.and_eq_true] at hm
      obtain ⟨⟨⟨⟨⟨m1, m2⟩, m3⟩, m4⟩, m5⟩, m6⟩ := hm
      have hts := cx.2.2.2.2.1
      split at h
      · rename_i x t
        split at h
        · rename_i h8
          intro ad ca H locs ls hR
          exact va_mabs hx hb (by rw [cx.2.2.1]; exact hR.2.2.2.2.2.1.1.symm) cx.2.2.2.1 (hts _ hw) (hts _ (fd_in_tb m2)) (hts _ (fd_in_tb m3)) (hts _ (fd_in_tb m5)) (by have := cx.2.2.2.2.2.2.2.2.2.2.1.1; omega) (by rw [fd_cats_tr]; have := cx.2.2.2.2.2.2.2.2.2.2.1.2; have := Nat.le_of_ble_eq_true h8; omega) (Nat.le_trans hR.2.2.2.2.2.2.1 cx.2.2.2.2.2.2.2.2.2.1.1) (Nat.le_trans hR.2.2.2.2.2.2.2 cx.2.2.2.2.2.2.2.2.2.1.2) hd (nxt h ad ca H locs ls hR)
        · exact h.elim
      · exact h.elim
    · exact h.elim
  | invokespecial i =>
    unfold fd_step at h
    dsimp only at h
    unfold fd_ckI at hi
    dsimp only at hi
    split at h
    · simp only [Bool.and_eq_true, beq_iff_eq] at hi
      obtain ⟨rfl, hl⟩ := hi
      have hw := fd_sp_use hl
      have hm := fd_obj_ok
      simp only [Bool.and_eq_true] at hm
      have hts := cx.2.2.2.2.1
      split at h
      · rename_i o t
        split at h
        · rename_i h8
          obtain ⟨a, rfl, hX⟩ := h
          intro ad ca H locs ls hR
          refine W.objInit hx hb cx.2.2.2.1 (hts _ hw) (hts _ (fd_in_tb hm.1)) (hts _ (fd_in_tb hm.2)) rfl (by rw [cx.2.2.1]; exact hR.2.2.2.2.2.1.1) (a := ad a) (rest := t.map (fd_tr tA ad)) rfl hd (by have := cx.2.2.2.2.2.2.2.2.2.2.1.1; omega) ?_ ?_
          · have h9 : 2 * (F0 m pc ls ((.inr (.inr (.inl (some a))) :: t).map (fd_tr tA ad))).monitorRoom + ((t.map (fd_tr tA ad)).map fun v => v.category).sum ≤ 8 := lv_room (by rw [fd_cats_tr]; exact Nat.le_of_ble_eq_true h8)
            have := cx.2.2.2.2.2.2.2.2.2.2.1.2
            omega
          · exact nxt hX ad ca H locs ls hR
        · exact h.elim
      · exact h.elim
    · rename_i k'
      simp only [Bool.and_eq_true, beq_iff_eq] at hi
      obtain ⟨rfl, hl⟩ := hi
      have hk' := (fd_mt_use hl).1
      split at h
      · rename_i as o t hpop
        obtain ⟨a, rfl, hcall⟩ := h
        obtain ⟨xs, e1, e2, e3⟩ := fd_popn_spec _ _ _ _ _ hpop
        rw [List.append_nil] at e1
        subst e1
        rw [e2]
        exact fd_w_call hk' hcall (fun pk hpk h8 hmL hbud hal hCk => fd_w_I cx hC (Or.inl rfl) hl hd e3 h8 hmL hbud hal hCk (fun r σ' hr => nxt (hpk r σ' hr)))
      · exact h.elim
    · rename_i k'
      simp only [Bool.and_eq_true, beq_iff_eq] at hi
      obtain ⟨rfl, hl⟩ := hi
      have hk' := (fd_mt_use hl).1
      split at h
      · rename_i as o t hpop
        obtain ⟨a, rfl, hcall⟩ := h
        obtain ⟨xs, e1, e2, e3⟩ := fd_popn_spec _ _ _ _ _ hpop
        rw [List.append_nil] at e1
        subst e1
        rw [e2]
        exact fd_w_call hk' hcall (fun pk hpk h8 hmL hbud hal hCk => fd_w_I cx hC (Or.inr rfl) hl hd e3 h8 hmL hbud hal hCk (fun r σ' hr => nxt (hpk r σ' hr)))
      · exact h.elim
    · exact h.elim
  | _ => exact h.elim
end
