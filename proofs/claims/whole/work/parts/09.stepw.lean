theorem fd_tgt_use {mi pc k : Nat} {off : Int} (h : fd_tgt mi pc off k = true) : ∃ tg : Nat, (pc : Int) + off = (tg : Int) ∧ fd_pc ((fd_code mi).drop k) = tg := by
  unfold fd_tgt at h
  split at h
  · rename_i e he
    exact ⟨e.1, of_decide_eq_true h, fd_pc_drop he⟩
  · cases h
theorem fd_vin0 {v : Int32} (h : v = 0 ∨ v = 1) : narrow .boolean (.int v) = .int v ∧ fits .boolean (.int v) = true := by
  rcases h with rfl | rfl <;> decide
section
variable {p : Program} {l : Launch} {e : Env} {R : Room} {s : State} {m : MethodId} {args : Array Value} {below : List Frame} {meth : Method} {c : Code} {Q : State → Prop}
variable {mi D : Nat} {A : Nat → Prop} {tA : Nat → Nat} {dC : Nat → ClassId} {dI : Nat → Nat → Nat} {N0 : Nat} {ad0 : Nat → Nat} {ca0 : Nat → ClassId} {scr : Option (Nat × (Nat → Int32))} {C : fd_C} {post : Option fd_V → fd_S → Prop}
/-- a field is read -/
theorem fd_w_gf (cx : fd_ctx p R s m args meth c mi D A tA dC dI scr) {pc ci k a i : Nat} {lv : fd_L} {t : List fd_V} {σ : fd_S} {cc ss : Nat} {w : fd_V} (hl : fd_ftl (fd_own mi) i ci k = true) (hd : decode (fd_b mi) pc = .ok (.getfield i, 3)) (ha : a < σ.1) (hs : fd_sh a = .inl ci) (hw : ∀ ad, fd_fv ad σ a k (fd_tyf ci k) = fd_tr tA ad w)
    (kk : fd_Wp p l e R s m args below meth c Q mi A tA dC dI N0 ad0 ca0 (pc + 3) lv (w :: t) σ cc ss) : fd_Wp p l e R s m args below meth c Q mi A tA dC dI N0 ad0 ca0 pc lv (.inr (.inr (.inl (some a))) :: t) σ cc ss := by
  intro ad ca H locs ls hR
  obtain ⟨hx, hb, hml, hown, hts, hK, hst, hnst, hA, hroom, hfr, hscr, hnm⟩ := id cx
  obtain ⟨hlk, hci, hk⟩ := fd_ft_use hl
  have he : (fd_ws ad ca σ)[a]? = some (ad a, .inr (ci, fd_fs ad σ ci a)) := by rw [fd_ws_get ha, fd_cell_obj hs]
  have := kk ad ca H locs ls hR
  rw [List.map_cons, ← hw ad] at this
  exact va_get (D := (dC, dI)) hx hb hts (fd_wsIn hci) hown hK hR.1 a he (fd_vwCl hci) k hk (hts _ hlk) (fun _ h => h) (fd_fs_get hk) hd this
/-- a field is written -/
theorem fd_w_pf (cx : fd_ctx p R s m args meth c mi D A tA dC dI scr) {pc ci k a i f : Nat} {lv : fd_L} {t : List fd_V} {σ τ : fd_S} {cc ss : Nat} {w : fd_V} (hl : fd_ftl (fd_own mi) i ci k = true) (hf : (match f with
      | 0 => (fd_T ci k).2.2.2 == false
      | _ => (fd_T ci k).2.2.2 == true && (fd_y mi).name == "<init>" && fd_own mi == ci) = true) (hd : decode (fd_b mi) pc = .ok (.putfield i, 3)) (ha : a < σ.1) (hs : fd_sh a = .inl ci)
    (hn : ∀ ad, narrow (fd_tyf ci k) (fd_tr tA ad w) = fd_tr tA ad w ∧ fits (fd_tyf ci k) (fd_tr tA ad w) = true) (hτ : τ.1 = σ.1 ∧ (∀ i j, (i ≠ a ∨ j ≠ k) → τ.2.1 i j = σ.2.1 i j) ∧ (∀ i j, (i ≠ a ∨ j ≠ k) → τ.2.2.1 i j = σ.2.2.1 i j) ∧ (∀ i j, (i ≠ a ∨ j ≠ k) → τ.2.2.2 i j = σ.2.2.2 i j) ∧ ∀ ad, fd_fv ad τ a k (fd_tyf ci k) = fd_tr tA ad w)
    (kk : fd_Wp p l e R s m args below meth c Q mi A tA dC dI N0 ad0 ca0 (pc + 3) lv t τ cc ss) : fd_Wp p l e R s m args below meth c Q mi A tA dC dI N0 ad0 ca0 pc lv (w :: .inr (.inr (.inl (some a))) :: t) σ cc ss := by
  intro ad ca H locs ls hR
  obtain ⟨hx, hb, hml, hown, hts, hK, hst, hnst, hA, hroom, hfr, hscr, hnm⟩ := id cx
  obtain ⟨hlk, hci, hk⟩ := fd_ft_use hl
  obtain ⟨hP, hD, hKA, hE, hS, hlv, hcc, hss⟩ := hR
  have he : (fd_ws ad ca σ)[a]? = some (ad a, .inr (ci, fd_fs ad σ ci a)) := by rw [fd_ws_get ha, fd_cell_obj hs]
  have hset := fd_ws_fld (ad := ad) (ca := ca) (v := fd_tr tA ad w) hs hτ.1 hτ.2.1 hτ.2.2.1 hτ.2.2.2.1 (hτ.2.2.2.2 ad)
  have hlen : k < (fd_fs ad σ ci a).length := by simp [fd_fs, hk]
  have hgo : ∀ (H1 : Heap) (locs1 : List Loc), va_P (dC, dI) vwCl ((fd_ws ad ca σ).set a (ad a, .inr (ci, (fd_fs ad σ ci a).set k (fd_tr tA ad w)))) H1 → va_D A ((fd_ws ad ca σ).set a (ad a, .inr (ci, (fd_fs ad σ ci a).set k (fd_tr tA ad w)))) → va_S A s.heap H1 locs1 → W p l e R s m args below meth c H1 locs1 cc ss Q (F0 m (pc + 3) ls (t.map (fd_tr tA ad))) := by
    intro H1 locs1 hP1 hD1 hS1
    rw [hset] at hP1 hD1
    exact kk ad ca H1 locs1 ls ⟨hP1, hD1, fun a' n' c' ha' => hKA a' n' c' (by rw [← hτ.1]; exact ha'), ⟨hE.1, by rw [hτ.1]; exact hE.2.1, fun h0 => by rw [hτ.1]; exact hE.2.2 h0⟩, hS1, hlv, hcc, hss⟩
  match f, hf with
  | 0, hf =>
    have hfin : (fd_T ci k).2.2.2 = false := beq_iff_eq.mp hf
    exact va_put (D := (dC, dI)) hx hb hts (fd_wsIn hci) (fd_tyf ci) (fd_tyok hci) (fd_nm hci) hown hK hP hD hS a he (fd_vwCl hci) k hk (hts _ hlk) (fun _ h => h) hfin (fd_tyok hci k hk) (hn ad).1 (hn ad).2 hlen hd hgo
  | f + 1, hf =>
    simp only [Bool.and_eq_true, beq_iff_eq] at hf
    obtain ⟨⟨hfin, hin⟩, ho⟩ := hf
    exact va_putF (D := (dC, dI)) hx hb hts (fd_wsIn hci) (fd_tyf ci) (fd_tyok hci) (fd_nm hci) hown hK hP hD hS a he (fd_vwCl hci) k hk (hts _ hlk) (fun _ h => h) hfin (hnm hin) (by rw [fd_own1 hci k hk, ho]) (fd_tyok hci k hk) (hn ad).1 (hn ad).2 hlen hd hgo
/-- what is on hand where a cell has been made -/
theorem fd_w_new {lv : fd_L} {t : List fd_V} {σ : fd_S} {cc ss nc ns : Nat} {ad : Nat → Nat} {ca : Nat → ClassId} {H1 : Heap} {locs : List Loc} {ls : Array Slot} {q : Nat} {cA : ClassId} {x : va_E} {c1 : Code} {pc : Nat}
    (hnew : fd_new mi lv t σ cc ss (nc + 1) ns) (hKA : fd_KA s ca σ) (hKn : ∀ n c', fd_sh σ.1 = .inr (n, c') → ArrOfT s cA (fd_ety c') ∧ va_RA s cA (fd_ety c')) (hE : fd_ext N0 ad0 ca0 (fd_mc mi) ad ca σ) (hlv : lv_has ls (fd_mL mi) (fd_lv tA ad lv)) (hcell : fd_cell (va_up ad σ.1 q) (vp_upC ca σ.1 cA) (fd_alloc σ) σ.1 = x)
    (hP1 : va_P (dC, dI) vwCl (fd_ws ad ca σ ++ [(q, x)]) H1) (hD1 : va_D A (fd_ws ad ca σ ++ [(q, x)])) (hS1 : va_S A s.heap H1 locs)
    (kk : fd_Wp p l e R s m args below meth c1 Q mi A tA dC dI N0 ad0 ca0 pc lv (.inr (.inr (.inl (some σ.1))) :: t) (fd_alloc σ) (cc + (nc + 1)) (ss + ns)) : W p l e R s m args below meth c1 H1 locs (cc + (nc + 1)) (ss + ns) Q (F0 m pc ls (.ref q :: t.map (fd_tr tA ad))) := by
  obtain ⟨h1, h2, h3, h4, h5⟩ := hnew
  have hup : ∀ i, i < σ.1 → va_up ad σ.1 q i = ad i := fun i hi => by simp [va_up, Nat.ne_of_lt hi]
  have hupc : ∀ i, i < σ.1 → vp_upC ca σ.1 cA i = ca i := fun i hi => by simp [vp_upC, Nat.ne_of_lt hi]
  rw [fd_ws_push h5 hcell] at hP1 hD1
  have := kk (va_up ad σ.1 q) (vp_upC ca σ.1 cA) H1 locs ls ⟨hP1, hD1, ?_, ⟨fun i hi => (hup i (Nat.lt_of_lt_of_le hi hE.2.1)).trans (hE.1 i hi), Nat.le_succ_of_le hE.2.1, fun h0 => by omega⟩, hS1, by rw [fd_lv_ext hup h3]; exact hlv, h1, h2⟩
  · rw [List.map_cons, fd_trV_ext hup h4] at this
    have e1 : fd_tr tA (va_up ad σ.1 q) (.inr (.inr (.inl (some σ.1)))) = .ref q := by simp [fd_tr, va_up, va_rf]
    rw [e1] at this
    exact this
  · intro a n c' ha hs
    have ha' : a < σ.1 + 1 := ha
    by_cases hq : a = σ.1
    · subst hq
      have e2 : vp_upC ca σ.1 cA σ.1 = cA := by simp [vp_upC]
      rw [e2]; exact hKn n c' hs
    · have hlt : a < σ.1 := by omega
      rw [hupc a hlt]; exact hKA a n c' hlt hs
end
