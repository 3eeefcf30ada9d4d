theorem fd_sh_veh {a : Nat} (h : 20 ≤ a) : fd_sh a = .inl 2 := by
  unfold fd_sh
  rw [List.getD, List.getElem?_eq_none (by simpa using h)]
  rfl
theorem fd_sh_ref20 : ∀ a, a < 20 → (match fd_sh a with
  | .inr (_, some c) => decide (c < 5)
  | _ => true) = true := by decide +kernel
theorem fd_sh_ref {a n c : Nat} (h : fd_sh a = .inr (n, some c)) : c < 5 := by
  rcases Nat.lt_or_ge a 20 with h1 | h1
  · have := fd_sh_ref20 a h1
    rw [h] at this
    exact of_decide_eq_true this
  · rw [fd_sh_veh h1] at h
    cases h
theorem fd_def (σ : fd_S) (ad : Nat → Nat) (k : Nat) (t : FieldType) (h : fd_tyc t ≠ 0 ∨ t = .int) : defaultValue t = fd_fv ad (fd_alloc σ) σ.1 k t := by
  have e1 : (fd_alloc σ).2.1 σ.1 k = 0 := fd_u0_eq
  have e2 : (fd_alloc σ).2.2.1 σ.1 k = none := fd_u0_eq
  have e3 : (fd_alloc σ).2.2.2 σ.1 k = 0 := fd_u0_eq
  cases t <;> simp [fd_tyc] at h <;> simp [fd_fv, e1, e2, e3, defaultValue, va_rf]
theorem fd_tyz : ∀ ci, ci < 5 → ∀ k, k < fd_nf ci → (fd_tyc (fd_tyf ci k) != 0 || decide (fd_tyf ci k = .int)) = true := by decide +kernel
theorem fd_jmp_use {mi pc len : Nat} {off : Int} {rs : List Nat} (h : fd_jmp mi pc off len rs = true) : ∃ k, rs = [k] ∧ len = 3 ∧ fd_tgt mi pc off k = true := by
  unfold fd_jmp at h
  split at h
  · rename_i k
    simp only [Bool.and_eq_true, beq_iff_eq] at h
    exact ⟨k, rfl, h.1, h.2⟩
  · cases h
def fd_spw (o i kd : Nat) : Jvm.Cond := match kd with
  | 5 => Jvm.Cond.methodLink (fd_R o) i objectInit
  | 6 => Jvm.Cond.methodLink (fd_R o) i Lib.Math.max.name
  | _ => Jvm.Cond.methodLink (fd_R o) i Lib.Math.abs.name
theorem fd_sp_ok2 : ∀ q ∈ fd_sp, fd_at q.2.2.2 (fd_spw q.1 q.2.1 q.2.2.1) = true := by decide +kernel
theorem fd_sp_use {o i kd : Nat} (h : fd_spl o i kd = true) : fd_spw o i kd ∈ fd_tb := by
  unfold fd_spl at h
  obtain ⟨q, hq, he⟩ := List.any_eq_true.mp h
  simp only [Bool.and_eq_true, beq_iff_eq] at he
  obtain ⟨⟨rfl, rfl⟩, rfl⟩ := he
  exact fd_at_tb (fd_sp_ok2 q hq)
/-- the four kinds of putfield -/
def fd_pfI (X : fd_X) (nx : List fd_E) (lv : fd_L) (st : List fd_V) (σ : fd_S) (cc ss ci k : Nat) : Prop := match st with
  | .inl v :: .inr (.inr (.inl o)) :: t => ∃ a, o = some a ∧ a < σ.1 ∧ fd_sh a = .inl ci ∧ X nx lv t (fd_si σ a k v) cc ss
  | _ => False
def fd_pfR (X : fd_X) (nx : List fd_E) (lv : fd_L) (st : List fd_V) (σ : fd_S) (cc ss ci k : Nat) : Prop := match st with
  | .inr (.inr (.inl w)) :: .inr (.inr (.inl o)) :: t => ∃ a, o = some a ∧ a < σ.1 ∧ fd_sh a = .inl ci ∧ X nx lv t (fd_sr σ a k w) cc ss
  | _ => False
def fd_pfL (X : fd_X) (nx : List fd_E) (lv : fd_L) (st : List fd_V) (σ : fd_S) (cc ss ci k : Nat) : Prop := match st with
  | .inr (.inl v) :: .inr (.inr (.inl o)) :: t => ∃ a, o = some a ∧ a < σ.1 ∧ fd_sh a = .inl ci ∧ X nx lv t (fd_sl σ a k v) cc ss
  | _ => False
def fd_pfZ (X : fd_X) (nx : List fd_E) (lv : fd_L) (st : List fd_V) (σ : fd_S) (cc ss ci k : Nat) : Prop := match st with
  | .inl v :: .inr (.inr (.inl o)) :: t => ∃ a, o = some a ∧ a < σ.1 ∧ fd_sh a = .inl ci ∧ (v = 0 ∨ v = 1) ∧ X nx lv t (fd_si σ a k v) cc ss
  | _ => False
def fd_fin (mi ci k f : Nat) : Bool := match f with
  | 0 => (fd_T ci k).2.2.2 == false
  | _ => (fd_T ci k).2.2.2 == true && (fd_y mi).name == "<init>" && fd_own mi == ci
section
variable {p : Program} {l : Launch} {e : Env} {R : Room} {s : State} {m : MethodId} {args : Array Value} {below : List Frame} {meth : Method} {c : Code} {Q : State → Prop}
variable {mi D : Nat} {A : Nat → Prop} {tA : Nat → Nat} {dC : Nat → ClassId} {dI : Nat → Nat → Nat} {N0 : Nat} {ad0 : Nat → Nat} {ca0 : Nat → ClassId} {scr : Option (Nat × (Nat → Int32))} {C : fd_C} {post : Option fd_V → fd_S → Prop}
set_option maxHeartbeats 4000000 in
theorem fd_w_putfield (cx : fd_ctx p R s m args meth c mi D A tA dC dI scr) {pc i ci k ty f : Nat} {nx : List fd_E} {lv : fd_L} {st : List fd_V} {σ : fd_S} {cc ss : Nat} (h : fd_pf (fd_W p l e R s m args below meth c Q mi A tA dC dI N0 ad0 ca0) nx lv st σ cc ss [ci, k, ty, f]) (hl : fd_ftl (fd_own mi) i ci k = true) (hty : fd_tyc (fd_tyf ci k) = ty) (hf : fd_fin mi ci k f = true) (hd : decode (fd_b mi) pc = .ok (.putfield i, 3))
    (nxt : ∀ {lv : fd_L} {st : List fd_V} {σ : fd_S} {cc ss : Nat}, fd_W p l e R s m args below meth c Q mi A tA dC dI N0 ad0 ca0 nx lv st σ cc ss → fd_Wp p l e R s m args below meth c Q mi A tA dC dI N0 ad0 ca0 (pc + 3) lv st σ cc ss) : fd_Wp p l e R s m args below meth c Q mi A tA dC dI N0 ad0 ca0 pc lv st σ cc ss := by
  obtain ⟨T, hT⟩ : ∃ T, fd_tyf ci k = T := ⟨_, rfl⟩
  rw [hT] at hty
  subst hty
  cases T with
  | long =>
    replace h : fd_pfL _ nx lv st σ cc ss ci k := h
    unfold fd_pfL at h
    split at h
    · rename_i w o t
      obtain ⟨a, rfl, ha, hs, hX⟩ := h
      exact fd_w_pf (τ := fd_sl σ a k w) cx hl hf hd ha hs (fun ad => by rw [hT]; exact ⟨rfl, rfl⟩) ⟨rfl, fun _ _ _ => rfl, fun _ _ _ => rfl, fun _ _ q => fd_u_or q, fun ad => by rw [hT]; show Value.long (fd_u σ.2.2.2 a k _ a k) = _; rw [fd_u_eq]; rfl⟩ (nxt hX)
    · exact h.elim
  | object n =>
    replace h : fd_pfR _ nx lv st σ cc ss ci k := h
    unfold fd_pfR at h
    split at h
    · rename_i w o t
      obtain ⟨a, rfl, ha, hs, hX⟩ := h
      exact fd_w_pf (τ := fd_sr σ a k w) cx hl hf hd ha hs (fun ad => by rw [hT]; cases w <;> exact ⟨rfl, rfl⟩) ⟨rfl, fun _ _ _ => rfl, fun _ _ q => fd_u_or q, fun _ _ _ => rfl, fun ad => by rw [hT]; show va_rf ((fd_u σ.2.2.1 a k w a k).map ad) = _; rw [fd_u_eq]; rfl⟩ (nxt hX)
    · exact h.elim
  | array n =>
    replace h : fd_pfR _ nx lv st σ cc ss ci k := h
    unfold fd_pfR at h
    split at h
    · rename_i w o t
      obtain ⟨a, rfl, ha, hs, hX⟩ := h
      exact fd_w_pf (τ := fd_sr σ a k w) cx hl hf hd ha hs (fun ad => by rw [hT]; cases w <;> exact ⟨rfl, rfl⟩) ⟨rfl, fun _ _ _ => rfl, fun _ _ q => fd_u_or q, fun _ _ _ => rfl, fun ad => by rw [hT]; show va_rf ((fd_u σ.2.2.1 a k w a k).map ad) = _; rw [fd_u_eq]; rfl⟩ (nxt hX)
    · exact h.elim
  | boolean =>
    replace h : fd_pfZ _ nx lv st σ cc ss ci k := h
    unfold fd_pfZ at h
    split at h
    · rename_i w o t
      obtain ⟨a, rfl, ha, hs, hv, hX⟩ := h
      exact fd_w_pf (τ := fd_si σ a k w) cx hl hf hd ha hs (fun ad => by rw [hT]; exact fd_vin0 hv) ⟨rfl, fun _ _ q => fd_u_or q, fun _ _ _ => rfl, fun _ _ _ => rfl, fun ad => by rw [hT]; show Value.int (fd_u σ.2.1 a k _ a k) = _; rw [fd_u_eq]; rfl⟩ (nxt hX)
    · exact h.elim
  | int =>
    replace h : fd_pfI _ nx lv st σ cc ss ci k := h
    unfold fd_pfI at h
    split at h
    · rename_i w o t
      obtain ⟨a, rfl, ha, hs, hX⟩ := h
      exact fd_w_pf (τ := fd_si σ a k w) cx hl hf hd ha hs (fun ad => by rw [hT]; exact ⟨rfl, rfl⟩) ⟨rfl, fun _ _ q => fd_u_or q, fun _ _ _ => rfl, fun _ _ _ => rfl, fun ad => by rw [hT]; show Value.int (fd_u σ.2.1 a k _ a k) = _; rw [fd_u_eq]; rfl⟩ (nxt hX)
    · exact h.elim
  | _ =>
    obtain ⟨-, hci, hk5⟩ := fd_ft_use hl
    have := fd_tyz ci hci k hk5
    rw [hT] at this
    simp [fd_tyc] at this
end
