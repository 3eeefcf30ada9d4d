theorem fd_pc0 : ∀ k, k < 79 → fd_pc (fd_code k) = 0 := by decide +kernel
theorem fd_sub_lv {tA ad : Nat → Nat} {ls : Array Slot} {n : Nat} {lv : fd_L} (h : lv_has ls n (fd_lv tA ad lv)) : ∀ (lv' : fd_L), fd_sub lv' lv → lv_has ls n (fd_lv tA ad lv')
  | [], _ => ⟨h.1, h.2.1, fun q hq => by simp [fd_lv] at hq⟩
  | q :: r, hs => by
    have ih := fd_sub_lv h r hs.2
    refine ⟨h.1, h.2.1, fun x hx => ?_⟩
    simp only [fd_lv, List.map_cons, List.mem_cons] at hx
    rcases hx with rfl | hx
    · exact fd_lv_at h hs.1
    · exact ih.2.2 x hx
theorem fd_W_sub {p : Program} {l : Launch} {e : Env} {R : Room} {s : State} {m : MethodId} {args : Array Value} {below : List Frame} {meth : Method} {c : Code} {Q : State → Prop} {mi : Nat} {A : Nat → Prop} {tA : Nat → Nat} {dC : Nat → ClassId} {dI : Nat → Nat → Nat} {N0 : Nat} {ad0 : Nat → Nat} {ca0 : Nat → ClassId} : fd_subX (fd_W p l e R s m args below meth c Q mi A tA dC dI N0 ad0 ca0) := by
  intro suf lv lv' st σ cc ss hs h k hk ad ca H locs ls hR
  exact h k hk ad ca H locs ls ⟨hR.1, hR.2.1, hR.2.2.1, hR.2.2.2.1, hR.2.2.2.2.1, fd_sub_lv hR.2.2.2.2.2.1 lv' hs, hR.2.2.2.2.2.2⟩
set_option maxHeartbeats 4000000 in
/-- what the abstract machine comes to is a contract of the machine -/
theorem fd_sound (l : Launch) : ∀ (D k : Nat) (as : List fd_V) (σ : fd_S) (post : Option fd_V → fd_S → Prop), k < 79 → fd_cats as ≤ fd_mL k → fd_Sem D k as σ post → fd_Met l D k as σ post
  | 0, _, _, _, _, _, _, h => h.elim
  | D + 1, k, as, σ, post, hk, has, h => by
    obtain ⟨hy1, hy2, hy3, hy4, hy5, hy6, hy7, hy8, hy9, hy10⟩ := fd_mok_use hk
    intro dC dI tA ad ca sz
    refine Met.ofW (cc := fd_b k) (maxL := fd_mL k) (ret := fd_ret k) hy4 rfl ?_
    intro p e s m args below meth c s₁ B hml hv
    obtain ⟨rfl, hsz, hP, hK, hKA, hD, hst, hnst⟩ := hv
    subst hsz
    have hx := B.exec
    have hb := B.bytes
    have hr := B.returns
    have hts := atoms_spec (ws := fd_wk k) B.pre
    have hown : s.vm.findClass (fd_R (fd_own k)) = some m.cls := by rw [← hy3]; exact findClass_of_methodNamed B.named
    have hlocks := B.notSynchronized
    have hnm : meth.name = (fd_y k).name := (name_of_methodNamed B.named B.method).1
    have hl := lv_entry (as.map (fd_tr tA ad)) (n := fd_mL k) (by rw [fd_slen]; exact has)
    rw [fd_args_lv] at hl
    rw [lg_entry_eq]
    generalize (lg_sl (as.map (fd_tr tA ad)) ++ List.replicate (fd_mL k - (lg_sl (as.map (fd_tr tA ad))).length) Slot.unset).toArray = ls at hl ⊢
    have cx : fd_ctx p (fd_rm (D + 1) k) s m (as.map (fd_tr tA ad)).toArray meth c k D (va_A (fd_ws ad ca σ) s.heap.size) tA dC dI none :=
      ⟨hx, hb, hml, hown, fun w hw => hts w (List.mem_cons_of_mem _ hw), hK, hst, hnst, fun q hq => Or.inr hq, ⟨Nat.le_refl _, Nat.le_refl _⟩, ⟨Nat.le_refl _, Nat.le_refl _⟩, fun n f hh => by simp at hh, fun hh => hnm.trans hh⟩
    have key := h (fd_W p l e (fd_rm (D + 1) k) s m (as.map (fd_tr tA ad)).toArray below meth c (MQ below (fd_Qc tA dC dI ad ca σ (fd_mc k) post (va_A (fd_ws ad ca σ) s.heap.size)) (as.map (fd_tr tA ad)).toArray s (fd_mc k) (fd_mS k) (va_A (fd_ws ad ca σ) s.heap.size)) k (va_A (fd_ws ad ca σ) s.heap.size) tA dC dI σ.1 ad ca)
      (fun suf lv st σ1 cc ss hstep => fd_stepW cx hy8 (fun k as σ pk h1 h2 h3 => fd_sound l D k as σ pk h1 h2 h3) ?_ suf lv st σ1 cc ss hstep) fd_W_sub 0 rfl ad ca s.heap [] ls ⟨hP, hD.self, hKA, ⟨fun i _ => rfl, Nat.le_refl _, fun _ => ⟨rfl, rfl, rfl⟩⟩, va_S.rf, hl, Nat.zero_le _, Nat.zero_le _⟩
    · rw [fd_pc0 k hk] at key
      exact key
    · intro r σ1 pc lv1 cc1 ss1 ad1 ca1 H locs ls1 hpost hrok hR
      obtain ⟨hP1, hD1, hKA1, hE1, hS1, hlv1, hcc1, hss1⟩ := hR
      have hq : ∀ t : State, t.heap = H → s.WarmedH t.vm → fd_Qc tA dC dI ad ca σ (fd_mc k) post (va_A (fd_ws ad ca σ) s.heap.size) (as.map (fd_tr tA ad)).toArray s (.returned (r.map (fd_tr tA ad1))) t := by
        intro t ht hW
        exact ⟨⟨r, σ1, ad1, ca1, rfl, hpost, by rw [ht]; exact hP1, hD1, hKA1.moved hW.alike, hE1⟩, hS1.F ht⟩
      refine W.widen (k := fd_mc k) (n := fd_mS k) hcc1 hss1 ?_
      rcases r with _ | x | x | o | k'
      · exact W.vret hx hb (hr.trans hrok.2) hq hS1.2.2 hrok.1
      · rcases hrok.2 with h1 | ⟨h1, h2⟩
        · exact W.iret hx hb (hr.trans h1) hq hS1.2.2 hrok.1
        · exact W.zret hx hb (hr.trans h1) (fd_vin0 h2).1 hq hS1.2.2 hrok.1
      · exact W.lret hx hb (hr.trans hrok.2) hq hS1.2.2 hrok.1
      · obtain ⟨hd1, n, hn⟩ := hrok
        refine W.aret (v := va_rf (o.map ad1)) hx hb (hr.trans hn) (Or.inl ⟨n, rfl⟩) ?_ hq hS1.2.2 hd1
        cases o with
        | none => exact Or.inl rfl
        | some a => exact Or.inr ⟨_, rfl⟩
      · exact hrok.elim
