
/-- the model's own beginning: cell 9, its rows 10 to 19 -/
def INM (H : Nat → Nat → Int32) (R : Nat → Nat → Option Nat) (L : Nat → Nat → Int64) (τ : fd_S) : Prop := τ.1 = 20 ∧ (∀ i j, i < 9 → τ.2.2.1 i j = R i j) ∧ (∀ i j, i < 10 → τ.2.1 i j = H i j) ∧ (∀ i j, 10 ≤ i → i < 20 → τ.2.1 i j = 0) ∧ (∀ i j, i < 10 → τ.2.2.2 i j = L i j) ∧ Mb τ ∧ fd_clo τ
set_option maxHeartbeats 2000000 in
theorem ok_minit (d : Nat) (H : Nat → Nat → Int32) (R : Nat → Nat → Option Nat) (L : Nat → Nat → Int64) (post : Option fd_V → fd_S → Prop) (hclo : fd_clo (10, H, R, L)) (h1 : ∀ τ, INM H R L τ → post none τ) : fd_Sem (d + 1) 47 [.inr (.inr (.inl (some 9)))] (10, H, R, L) post := by
  intro X hX hV
  refine hX _ _ _ _ _ _ ?_
  refine hX _ _ _ _ _ _ ?_
  refine Exists.intro _ (And.intro rfl ?_)
  have c0 := hclo
  refine hX _ _ _ _ _ _ ?_
  refine hX _ _ _ _ _ _ ?_
  refine hX _ _ _ _ _ _ ?_
  refine Exists.intro 60 (And.intro rfl (And.intro (by decide) (And.intro (by decide) (And.intro rfl (And.intro ⟨by decide, by decide, okL_c (ok_r (show 9 < 10 by decide)) okL_n, okV_c (ok_r (show 9 < 10 by decide)) okV_n, c0⟩ ?_)))))
  refine hX _ _ _ _ _ _ ?_
  refine Exists.intro _ (And.intro rfl (And.intro (show 9 < 11 by decide) (And.intro rfl ?_)))
  have c1 : fd_clo (fd_sr (fd_alloc (10, H, R, L)) 9 1 (some 10)) := clo_sr (clo_al c0) (fun x e => by cases e; exact (show 10 < 11 by decide))
  refine hX _ _ _ _ _ _ ?_
  refine hX _ _ _ _ _ _ ?_
  refine hX _ _ _ _ _ _ ?_
  refine Exists.intro 60 (And.intro rfl (And.intro (by decide) (And.intro (by decide) (And.intro rfl (And.intro ⟨by decide, by decide, okL_c (ok_r (show 9 < 11 by decide)) okL_n, okV_c (ok_r (show 9 < 11 by decide)) okV_n, c1⟩ ?_)))))
  refine hX _ _ _ _ _ _ ?_
  refine Exists.intro _ (And.intro rfl (And.intro (show 9 < 12 by decide) (And.intro rfl ?_)))
  have c2 : fd_clo (fd_sr (fd_alloc (fd_sr (fd_alloc (10, H, R, L)) 9 1 (some 10))) 9 2 (some 11)) := clo_sr (clo_al c1) (fun x e => by cases e; exact (show 11 < 12 by decide))
  refine hX _ _ _ _ _ _ ?_
  refine hX _ _ _ _ _ _ ?_
  refine hX _ _ _ _ _ _ ?_
  refine Exists.intro 60 (And.intro rfl (And.intro (by decide) (And.intro (by decide) (And.intro rfl (And.intro ⟨by decide, by decide, okL_c (ok_r (show 9 < 12 by decide)) okL_n, okV_c (ok_r (show 9 < 12 by decide)) okV_n, c2⟩ ?_)))))
  refine hX _ _ _ _ _ _ ?_
  refine Exists.intro _ (And.intro rfl (And.intro (show 9 < 13 by decide) (And.intro rfl ?_)))
  have c3 : fd_clo (fd_sr (fd_alloc (fd_sr (fd_alloc (fd_sr (fd_alloc (10, H, R, L)) 9 1 (some 10))) 9 2 (some 11))) 9 3 (some 12)) := clo_sr (clo_al c2) (fun x e => by cases e; exact (show 12 < 13 by decide))
  refine hX _ _ _ _ _ _ ?_
  refine hX _ _ _ _ _ _ ?_
  refine hX _ _ _ _ _ _ ?_
  refine Exists.intro 60 (And.intro rfl (And.intro (by decide) (And.intro (by decide) (And.intro rfl (And.intro ⟨by decide, by decide, okL_c (ok_r (show 9 < 13 by decide)) okL_n, okV_c (ok_r (show 9 < 13 by decide)) okV_n, c3⟩ ?_)))))
  refine hX _ _ _ _ _ _ ?_
  refine Exists.intro _ (And.intro rfl (And.intro (show 9 < 14 by decide) (And.intro rfl ?_)))
  have c4 : fd_clo (fd_sr (fd_alloc (fd_sr (fd_alloc (fd_sr (fd_alloc (fd_sr (fd_alloc (10, H, R, L)) 9 1 (some 10))) 9 2 (some 11))) 9 3 (some 12))) 9 4 (some 13)) := clo_sr (clo_al c3) (fun x e => by cases e; exact (show 13 < 14 by decide))
  refine hX _ _ _ _ _ _ ?_
  refine hX _ _ _ _ _ _ ?_
  refine hX _ _ _ _ _ _ ?_
  refine Exists.intro 60 (And.intro rfl (And.intro (by decide) (And.intro (by decide) (And.intro rfl (And.intro ⟨by decide, by decide, okL_c (ok_r (show 9 < 14 by decide)) okL_n, okV_c (ok_r (show 9 < 14 by decide)) okV_n, c4⟩ ?_)))))
  refine hX _ _ _ _ _ _ ?_
  refine Exists.intro _ (And.intro rfl (And.intro (show 9 < 15 by decide) (And.intro rfl ?_)))
  have c5 : fd_clo (fd_sr (fd_alloc (fd_sr (fd_alloc (fd_sr (fd_alloc (fd_sr (fd_alloc (fd_sr (fd_alloc (10, H, R, L)) 9 1 (some 10))) 9 2 (some 11))) 9 3 (some 12))) 9 4 (some 13))) 9 5 (some 14)) := clo_sr (clo_al c4) (fun x e => by cases e; exact (show 14 < 15 by decide))
  refine hX _ _ _ _ _ _ ?_
  refine hX _ _ _ _ _ _ ?_
  refine hX _ _ _ _ _ _ ?_
  refine Exists.intro 4 (And.intro rfl (And.intro (by decide) (And.intro (by decide) (And.intro rfl (And.intro ⟨by decide, by decide, okL_c (ok_r (show 9 < 15 by decide)) okL_n, okV_c (ok_r (show 9 < 15 by decide)) okV_n, c5⟩ ?_)))))
  refine hX _ _ _ _ _ _ ?_
  refine Exists.intro _ (And.intro rfl (And.intro (show 9 < 16 by decide) (And.intro rfl ?_)))
  have c6 : fd_clo (fd_sr (fd_alloc (fd_sr (fd_alloc (fd_sr (fd_alloc (fd_sr (fd_alloc (fd_sr (fd_alloc (fd_sr (fd_alloc (10, H, R, L)) 9 1 (some 10))) 9 2 (some 11))) 9 3 (some 12))) 9 4 (some 13))) 9 5 (some 14))) 9 6 (some 15)) := clo_sr (clo_al c5) (fun x e => by cases e; exact (show 15 < 16 by decide))
  refine hX _ _ _ _ _ _ ?_
  refine hX _ _ _ _ _ _ ?_
  refine hX _ _ _ _ _ _ ?_
  refine Exists.intro 4 (And.intro rfl (And.intro (by decide) (And.intro (by decide) (And.intro rfl (And.intro ⟨by decide, by decide, okL_c (ok_r (show 9 < 16 by decide)) okL_n, okV_c (ok_r (show 9 < 16 by decide)) okV_n, c6⟩ ?_)))))
  refine hX _ _ _ _ _ _ ?_
  refine Exists.intro _ (And.intro rfl (And.intro (show 9 < 17 by decide) (And.intro rfl ?_)))
  have c7 : fd_clo (fd_sr (fd_alloc (fd_sr (fd_alloc (fd_sr (fd_alloc (fd_sr (fd_alloc (fd_sr (fd_alloc (fd_sr (fd_alloc (fd_sr (fd_alloc (10, H, R, L)) 9 1 (some 10))) 9 2 (some 11))) 9 3 (some 12))) 9 4 (some 13))) 9 5 (some 14))) 9 6 (some 15))) 9 7 (some 16)) := clo_sr (clo_al c6) (fun x e => by cases e; exact (show 16 < 17 by decide))
  refine hX _ _ _ _ _ _ ?_
  refine hX _ _ _ _ _ _ ?_
  refine hX _ _ _ _ _ _ ?_
  refine Exists.intro 4 (And.intro rfl (And.intro (by decide) (And.intro (by decide) (And.intro rfl (And.intro ⟨by decide, by decide, okL_c (ok_r (show 9 < 17 by decide)) okL_n, okV_c (ok_r (show 9 < 17 by decide)) okV_n, c7⟩ ?_)))))
  refine hX _ _ _ _ _ _ ?_
  refine Exists.intro _ (And.intro rfl (And.intro (show 9 < 18 by decide) (And.intro rfl ?_)))
  have c8 : fd_clo (fd_sr (fd_alloc (fd_sr (fd_alloc (fd_sr (fd_alloc (fd_sr (fd_alloc (fd_sr (fd_alloc (fd_sr (fd_alloc (fd_sr (fd_alloc (fd_sr (fd_alloc (10, H, R, L)) 9 1 (some 10))) 9 2 (some 11))) 9 3 (some 12))) 9 4 (some 13))) 9 5 (some 14))) 9 6 (some 15))) 9 7 (some 16))) 9 8 (some 17)) := clo_sr (clo_al c7) (fun x e => by cases e; exact (show 17 < 18 by decide))
  refine hX _ _ _ _ _ _ ?_
  refine hX _ _ _ _ _ _ ?_
  refine hX _ _ _ _ _ _ ?_
  refine Exists.intro 240 (And.intro rfl (And.intro (by decide) (And.intro (by decide) (And.intro rfl (And.intro ⟨by decide, by decide, okL_c (ok_r (show 9 < 18 by decide)) okL_n, okV_c (ok_r (show 9 < 18 by decide)) okV_n, c8⟩ ?_)))))
  refine hX _ _ _ _ _ _ ?_
  refine Exists.intro _ (And.intro rfl (And.intro (show 9 < 19 by decide) (And.intro rfl ?_)))
  have c9 : fd_clo (fd_sr (fd_alloc (fd_sr (fd_alloc (fd_sr (fd_alloc (fd_sr (fd_alloc (fd_sr (fd_alloc (fd_sr (fd_alloc (fd_sr (fd_alloc (fd_sr (fd_alloc (fd_sr (fd_alloc (10, H, R, L)) 9 1 (some 10))) 9 2 (some 11))) 9 3 (some 12))) 9 4 (some 13))) 9 5 (some 14))) 9 6 (some 15))) 9 7 (some 16))) 9 8 (some 17))) 9 9 (some 18)) := clo_sr (clo_al c8) (fun x e => by cases e; exact (show 18 < 19 by decide))
  refine hX _ _ _ _ _ _ ?_
  refine hX _ _ _ _ _ _ ?_
  refine hX _ _ _ _ _ _ ?_
  refine Exists.intro 60 (And.intro rfl (And.intro (by decide) (And.intro (by decide) (And.intro rfl (And.intro ⟨by decide, by decide, okL_c (ok_r (show 9 < 19 by decide)) okL_n, okV_c (ok_r (show 9 < 19 by decide)) okV_n, c9⟩ ?_)))))
  refine hX _ _ _ _ _ _ ?_
  refine Exists.intro _ (And.intro rfl (And.intro (show 9 < 20 by decide) (And.intro rfl ?_)))
  have c10 : fd_clo (fd_sr (fd_alloc (fd_sr (fd_alloc (fd_sr (fd_alloc (fd_sr (fd_alloc (fd_sr (fd_alloc (fd_sr (fd_alloc (fd_sr (fd_alloc (fd_sr (fd_alloc (fd_sr (fd_alloc (fd_sr (fd_alloc (10, H, R, L)) 9 1 (some 10))) 9 2 (some 11))) 9 3 (some 12))) 9 4 (some 13))) 9 5 (some 14))) 9 6 (some 15))) 9 7 (some 16))) 9 8 (some 17))) 9 9 (some 18))) 9 13 (some 19)) := clo_sr (clo_al c9) (fun x e => by cases e; exact (show 19 < 20 by decide))
  refine hX _ _ _ _ _ _ ?_
  refine h1 _ ⟨rfl, fun i j hi => ?_, fun i j hi => ?_, fun i j hi hi2 => ?_, fun i j hi => ?_, ⟨Nat.le_refl 20, rfl, rfl, rfl, rfl, rfl, rfl, rfl, rfl, rfl, rfl⟩, c10⟩
  · show (fd_u (fd_u0 (fd_u (fd_u0 (fd_u (fd_u0 (fd_u (fd_u0 (fd_u (fd_u0 (fd_u (fd_u0 (fd_u (fd_u0 (fd_u (fd_u0 (fd_u (fd_u0 (fd_u (fd_u0 R 10 none) 9 1 (some 10)) 11 none) 9 2 (some 11)) 12 none) 9 3 (some 12)) 13 none) 9 4 (some 13)) 14 none) 9 5 (some 14)) 15 none) 9 6 (some 15)) 16 none) 9 7 (some 16)) 17 none) 9 8 (some 17)) 18 none) 9 9 (some 18)) 19 none) 9 13 (some 19)) i j = _
    have h9 : i ≠ 9 := by omega
    have z : ∀ (f : Nat → Nat → Option Nat) (a : Nat), 10 ≤ a → fd_u0 f a none i j = f i j := fun f a h => if_neg (by omega)
    iterate 10 rw [fd_u_ne h9, z _ _ (by decide)]
  · show (fd_u0 (fd_u0 (fd_u0 (fd_u0 (fd_u0 (fd_u0 (fd_u0 (fd_u0 (fd_u0 (fd_u0 H 10 0) 11 0) 12 0) 13 0) 14 0) 15 0) 16 0) 17 0) 18 0) 19 0) i j = _
    unfold fd_u0
    repeat rw [if_neg (by omega)]
  · show (fd_u0 (fd_u0 (fd_u0 (fd_u0 (fd_u0 (fd_u0 (fd_u0 (fd_u0 (fd_u0 (fd_u0 H 10 0) 11 0) 12 0) 13 0) 14 0) 15 0) 16 0) 17 0) 18 0) 19 0) i j = _
    unfold fd_u0
    grind (splits := 20)
  · show (fd_u0 (fd_u0 (fd_u0 (fd_u0 (fd_u0 (fd_u0 (fd_u0 (fd_u0 (fd_u0 (fd_u0 L 10 0) 11 0) 12 0) 13 0) 14 0) 15 0) 16 0) 17 0) 18 0) 19 0) i j = _
    unfold fd_u0
    repeat rw [if_neg (by omega)]
