/-! what the abstract state is in the machine -/
def fd_tr (tA ad : Nat → Nat) : fd_V → Value
  | .inl x => .int x
  | .inr (.inl x) => .long x
  | .inr (.inr (.inl o)) => va_rf (o.map ad)
  | .inr (.inr (.inr k)) => .ref (tA k)
def fd_fv (ad : Nat → Nat) (σ : fd_S) (a k : Nat) (t : FieldType) : Value := match t with
  | .long => .long (σ.2.2.2 a k)
  | .object _ => va_rf ((σ.2.2.1 a k).map ad)
  | .array _ => va_rf ((σ.2.2.1 a k).map ad)
  | _ => .int (σ.2.1 a k)
def fd_fs (ad : Nat → Nat) (σ : fd_S) (ci a : Nat) : List Value := (List.range (fd_nf ci)).map (fun k => fd_fv ad σ a k (fd_tyf ci k))
def fd_cell (ad : Nat → Nat) (ca : Nat → ClassId) (σ : fd_S) (a : Nat) : va_E := match fd_sh a with
  | .inl ci => .inr (ci, fd_fs ad σ ci a)
  | .inr (n, none) => .inl (ca a, n, .inl (fun j => σ.2.1 a j))
  | .inr (n, some _) => .inl (ca a, n, .inr (.inr (.inr (.inr (fun j => (σ.2.2.1 a j).map ad)))))
def fd_ws (ad : Nat → Nat) (ca : Nat → ClassId) (σ : fd_S) : va_W := (List.range σ.1).map (fun i => (ad i, fd_cell ad ca σ i))
def fd_ety (c : Option Nat) : FieldType := match c with
  | none => .int
  | some c => .object (fd_R c)
def fd_KA (U : State) (ca : Nat → ClassId) (σ : fd_S) : Prop := ∀ a n c, a < σ.1 → fd_sh a = .inr (n, c) → ArrOfT U (ca a) (fd_ety c) ∧ va_RA U (ca a) (fd_ety c)
def fd_stat (tA : Nat → Nat) (A : Nat → Prop) (U : State) (H : Heap) : Prop := va_Z RX0 "ABOVE" "[I" (.ref (tA 0)) A U H ∧ va_T .int (tA 0) 7 (fun j => .int (fd_sa 0 j)) A U H ∧ va_Z RX0 "TOLD_BODIES" "[I" (.ref (tA 1)) A U H ∧ va_T .int (tA 1) 42 (fun j => .int (fd_sa 1 j)) A U H
def fd_nst (U : State) : Prop := va_Nw (.methodLinkNest RX0 54 yX3_within RX3) U ∧ va_Nw (.methodLinkNest RX3 27 yX0_init RX3) U ∧ va_AO RX1 U ∧ va_AO RX2 U
def fd_ext (N0 : Nat) (ad0 : Nat → Nat) (ca0 : Nat → ClassId) (mc : Nat) (ad : Nat → Nat) (ca : Nat → ClassId) (σ : fd_S) : Prop := (∀ i, i < N0 → ad i = ad0 i) ∧ N0 ≤ σ.1 ∧ (mc = 0 → ad = ad0 ∧ ca = ca0 ∧ σ.1 = N0)
def fd_lv (tA ad : Nat → Nat) (lv : fd_L) : List (Nat × Value) := lv.map (fun q => (q.1, fd_tr tA ad q.2))
abbrev fd_cl5 (ci : Nat) : vw_C := (fd_R ci, fd_T ci, fd_nf ci)
theorem fd_vwCl : ∀ {ci : Nat}, ci < 5 → vwCl[ci]? = some (fd_cl5 ci)
  | 0, _ => rfl
  | 1, _ => rfl
  | 2, _ => rfl
  | 3, _ => rfl
  | 4, _ => rfl
  | n + 5, h => absurd h (by omega)
theorem fd_tyok : ∀ {ci : Nat}, ci < 5 → ∀ k, k < fd_nf ci → parseFieldDescriptor (fd_T ci k).2.2.1 = some (fd_tyf ci k)
  | 0, _ => tyX0_ok
  | 1, _ => tyX1_ok
  | 2, _ => tyX2_ok
  | 3, _ => tyX3_ok
  | 4, _ => tyX4_ok
  | n + 5, h => absurd h (by omega)
theorem fd_nm : ∀ {ci : Nat}, ci < 5 → ∀ a, a < fd_nf ci → ∀ b, b < fd_nf ci → a ≠ b → (fd_T ci a).2.1 ≠ (fd_T ci b).2.1
  | 0, _ => nmX0
  | 1, _ => nmX1
  | 2, _ => nmX2
  | 3, _ => nmX3
  | 4, _ => nmX4
  | n + 5, h => absurd h (by omega)
theorem fd_own1 : ∀ {ci : Nat}, ci < 5 → ∀ k, k < fd_nf ci → (fd_T ci k).1 = fd_R ci
  | 0, _ => by decide +kernel
  | 1, _ => by decide +kernel
  | 2, _ => by decide +kernel
  | 3, _ => by decide +kernel
  | 4, _ => by decide +kernel
  | n + 5, h => absurd h (by omega)
theorem fd_trcat (tA ad : Nat → Nat) (v : fd_V) : (fd_tr tA ad v).category = fd_cat v := by
  rcases v with x | x | o | k
  · rfl
  · rfl
  · cases o <;> rfl
  · rfl
theorem fd_cats_tr (tA ad : Nat → Nat) (t : List fd_V) : ((t.map (fd_tr tA ad)).map fun v => v.category).sum = fd_cats t := by
  simp only [fd_cats, List.map_map]
  congr 1
  exact List.map_congr_left (fun v _ => fd_trcat tA ad v)
theorem fd_get_mem : ∀ {lv : fd_L} {i : Nat} {v : fd_V}, fd_get lv i = some v → (i, v) ∈ lv
  | [], _, _, h => by simp [fd_get] at h
  | q :: l, i, v, h => by
    unfold fd_get at h
    split at h
    · rename_i hq
      have := beq_iff_eq.mp hq
      have h2 := Option.some.inj h
      rw [← this, ← h2]; exact List.mem_cons_self
    · exact List.mem_cons_of_mem _ (fd_get_mem h)
theorem fd_lv_at {tA ad : Nat → Nat} {ls : Array Slot} {n i : Nat} {lv : fd_L} {v : fd_V} (h : lv_has ls n (fd_lv tA ad lv)) (hg : fd_get lv i = some v) : ls[i]? = some (.val (fd_tr tA ad v)) :=
  h.2.2 (i, fd_tr tA ad v) (List.mem_map.mpr ⟨(i, v), fd_get_mem hg, rfl⟩)
theorem fd_put_lv (tA ad : Nat → Nat) (lv : fd_L) (i : Nat) (v : fd_V) : (i, fd_tr tA ad v) :: (fd_lv tA ad lv).filter (fun q => !(q.1 == i) && !(q.1 + 1 == i && q.2.category == 2)) = fd_lv tA ad (fd_put lv i v) := by
  simp only [fd_lv, fd_put, List.map_cons, List.filter_map]
  congr 2
  apply List.filter_congr
  intro q _
  simp only [Function.comp, fd_trcat]
theorem fd_args_lv (tA ad : Nat → Nat) : ∀ (i : Nat) (as : List fd_V), lv_args i (as.map (fd_tr tA ad)) = fd_lv tA ad (fd_args i as)
  | _, [] => rfl
  | i, v :: vs => by
    simp only [List.map_cons, lv_args, fd_args, fd_lv, fd_trcat]
    rw [fd_args_lv tA ad _ vs]; rfl
theorem fd_slen : ∀ (tA ad : Nat → Nat) (as : List fd_V), (lg_sl (as.map (fd_tr tA ad))).length = fd_cats as
  | _, _, [] => rfl
  | tA, ad, v :: vs => by
    have ih := fd_slen tA ad vs
    simp only [lg_sl, List.map_cons, List.flatMap_cons, List.length_append] at ih ⊢
    rw [ih, fd_trcat]
    simp only [fd_cats, List.map_cons, List.sum_cons]
    congr 1
    rcases v with x | x | o | k <;> simp [fd_cat]
theorem fd_ws_get {ad : Nat → Nat} {ca : Nat → ClassId} {σ : fd_S} {a : Nat} (h : a < σ.1) : (fd_ws ad ca σ)[a]? = some (ad a, fd_cell ad ca σ a) := by
  simp [fd_ws, h]
theorem fd_ws_set {ad : Nat → Nat} {ca : Nat → ClassId} {σ τ : fd_S} {a : Nat} (e : τ.1 = σ.1) (ho : ∀ i, i ≠ a → fd_cell ad ca τ i = fd_cell ad ca σ i) {x : va_E} (hx : fd_cell ad ca τ a = x) : (fd_ws ad ca σ).set a (ad a, x) = fd_ws ad ca τ := by
  apply List.ext_getElem?
  intro i
  rw [List.getElem?_set]
  by_cases hi : a = i
  · subst hi
    simp only [if_true, fd_ws, List.length_map, List.length_range]
    by_cases h : a < σ.1
    · simp [h, e, hx]
    · simp [h, e]
  · rw [if_neg hi]
    simp only [fd_ws, List.getElem?_map, e]
    by_cases h : i < σ.1
    · simp [h, ho i (Ne.symm hi)]
    · simp [h]
theorem fd_fs_get {ad : Nat → Nat} {σ : fd_S} {ci a k : Nat} (h : k < fd_nf ci) : (fd_fs ad σ ci a)[k]? = some (fd_fv ad σ a k (fd_tyf ci k)) := by
  simp [fd_fs, h]
theorem fd_fs_set {ad : Nat → Nat} {σ τ : fd_S} {ci a k : Nat} (ho : ∀ j, j ≠ k → ∀ t, fd_fv ad τ a j t = fd_fv ad σ a j t) {v : Value} (hv : fd_fv ad τ a k (fd_tyf ci k) = v) : (fd_fs ad σ ci a).set k v = fd_fs ad τ ci a := by
  apply List.ext_getElem?
  intro i
  rw [List.getElem?_set]
  by_cases hi : k = i
  · subst hi
    simp only [if_true, fd_fs, List.length_map, List.length_range]
    by_cases h : k < fd_nf ci
    · simp [h, hv]
    · simp [h]
  · rw [if_neg hi]
    simp only [fd_fs, List.getElem?_map]
    by_cases h : i < fd_nf ci
    · simp [h, ho i (Ne.symm hi)]
    · simp [h]
theorem fd_u_ne {α : Type} {f : Nat → Nat → α} {a k i j : Nat} {v : α} (h : i ≠ a) : fd_u f a k v i j = f i j := by simp [fd_u, h]
theorem fd_u_ne2 {α : Type} {f : Nat → Nat → α} {a k i j : Nat} {v : α} (h : j ≠ k) : fd_u f a k v i j = f i j := by simp [fd_u, h]
theorem fd_u_eq {α : Type} {f : Nat → Nat → α} {a k : Nat} {v : α} : fd_u f a k v a k = v := by simp [fd_u]
theorem fd_u0_ne {α : Type} {f : Nat → Nat → α} {a i j : Nat} {v : α} (h : i ≠ a) : fd_u0 f a v i j = f i j := by simp [fd_u0, h]
theorem fd_u0_eq {α : Type} {f : Nat → Nat → α} {a j : Nat} {v : α} : fd_u0 f a v a j = v := by simp [fd_u0]
/-- a cell says the same in two states that agree on it -/
theorem fd_cell_eq {ad ad' : Nat → Nat} {ca ca' : Nat → ClassId} {σ τ : fd_S} {i : Nat} (hc : ca' i = ca i) (h1 : ∀ j, τ.2.1 i j = σ.2.1 i j) (h2 : ∀ j, (τ.2.2.1 i j).map ad' = (σ.2.2.1 i j).map ad) (h3 : ∀ j, τ.2.2.2 i j = σ.2.2.2 i j) : fd_cell ad' ca' τ i = fd_cell ad ca σ i := by
  have hf : ∀ j t, fd_fv ad' τ i j t = fd_fv ad σ i j t := by
    intro j t
    cases t <;> simp [fd_fv, h1, h2, h3]
  unfold fd_cell
  split
  · simp only [fd_fs, hf]
  · simp only [hc, h1]
  · simp only [hc, h2]
theorem fd_ws_push {ad : Nat → Nat} {ca : Nat → ClassId} {σ : fd_S} {q : Nat} {cA : ClassId} {x : va_E} (hcl : fd_clo σ) (hx : fd_cell (va_up ad σ.1 q) (vp_upC ca σ.1 cA) (fd_alloc σ) σ.1 = x) : fd_ws ad ca σ ++ [(q, x)] = fd_ws (va_up ad σ.1 q) (vp_upC ca σ.1 cA) (fd_alloc σ) := by
  have e1 : (fd_alloc σ).1 = σ.1 + 1 := rfl
  simp only [fd_ws, e1, List.range_succ, List.map_append, List.map_cons, List.map_nil, hx]
  have e2 : va_up ad σ.1 q σ.1 = q := by simp [va_up]
  rw [e2]
  congr 1
  apply List.map_congr_left
  intro i hi
  have hlt : i < σ.1 := List.mem_range.mp hi
  have hne : i ≠ σ.1 := Nat.ne_of_lt hlt
  have e3 : va_up ad σ.1 q i = ad i := by simp [va_up, hne]
  rw [e3]
  congr 1
  refine (fd_cell_eq (by simp [vp_upC, hne]) (fun j => fd_u0_ne hne) (fun j => ?_) (fun j => fd_u0_ne hne)).symm
  show (fd_u0 σ.2.2.1 σ.1 none i j).map _ = _
  rw [fd_u0_ne hne]
  cases ho : σ.2.2.1 i j with
  | none => rfl
  | some x =>
    have := hcl i j x ho
    simp [va_up, Nat.ne_of_lt this]
theorem fd_tr_up {tA ad : Nat → Nat} {N q : Nat} {v : fd_V} (h : fd_ok1 N v) : fd_tr tA (va_up ad N q) v = fd_tr tA ad v := by
  rcases v with x | x | o | k
  · rfl
  · rfl
  · cases o with
    | none => rfl
    | some a => have := h a rfl; simp [fd_tr, va_up, Nat.ne_of_lt this]
  · rfl
theorem fd_tr_ext {tA ad ad' : Nat → Nat} {N : Nat} (he : ∀ i, i < N → ad' i = ad i) {v : fd_V} (h : fd_ok1 N v) : fd_tr tA ad' v = fd_tr tA ad v := by
  rcases v with x | x | o | k
  · rfl
  · rfl
  · cases o with
    | none => rfl
    | some a => have := h a rfl; simp [fd_tr, he a this]
  · rfl
theorem fd_trV_ext {tA ad ad' : Nat → Nat} {N : Nat} (he : ∀ i, i < N → ad' i = ad i) {t : List fd_V} (h : fd_okV N t) : t.map (fd_tr tA ad') = t.map (fd_tr tA ad) := List.map_congr_left (fun v hv => fd_tr_ext he (h v hv))
theorem fd_lv_ext {tA ad ad' : Nat → Nat} {N : Nat} (he : ∀ i, i < N → ad' i = ad i) {lv : fd_L} (h : fd_okL N lv) : fd_lv tA ad' lv = fd_lv tA ad lv := List.map_congr_left (fun q hq => by rw [fd_tr_ext he (h q hq)])
theorem fd_popn_spec : ∀ (n : Nat) (acc st as t : List fd_V), fd_popn n acc st = some (as, t) → ∃ xs, as = xs ++ acc ∧ st = xs.reverse ++ t ∧ xs.length = n
  | 0, acc, st, as, t, h => by
    simp only [fd_popn, Option.some.injEq, Prod.mk.injEq] at h
    obtain ⟨rfl, rfl⟩ := h
    exact ⟨[], rfl, rfl, rfl⟩
  | n + 1, acc, [], as, t, h => by simp [fd_popn] at h
  | n + 1, acc, v :: st, as, t, h => by
    obtain ⟨xs, e1, e2, e3⟩ := fd_popn_spec n (v :: acc) st as t h
    exact ⟨xs ++ [v], by simp [e1], by simp [e2], by simp [e3]⟩
theorem fd_pc_drop {cd : List fd_E} {k : Nat} {e : fd_E} (h : cd[k]? = some e) : fd_pc (cd.drop k) = e.1 := by
  obtain ⟨hlt, he⟩ := List.getElem?_eq_some_iff.mp h
  rw [List.drop_eq_getElem_cons hlt, he]; rfl
theorem fd_KA.moved {u U : State} {ca : Nat → ClassId} {σ : fd_S} (hvm : u.vm.Alike U.vm) (h : fd_KA u ca σ) : fd_KA U ca σ := fun a n c ha hs => ⟨arrOfT_moved hvm (h a n c ha hs).1, (h a n c ha hs).2.moved hvm⟩
theorem fd_stat.moved {tA : Nat → Nat} {A : Nat → Prop} {u U : State} {H : Heap} (hvm : u.vm.Alike U.vm) (h : fd_stat tA A u H) : fd_stat tA A U H := ⟨h.1.moved hvm, h.2.1.moved hvm, h.2.2.1.moved hvm, h.2.2.2.moved hvm⟩
theorem fd_stat.kept {tA : Nat → Nat} {A : Nat → Prop} {U : State} {H H1 : Heap} (h : fd_stat tA A U H) (hq : ∀ a : Nat, a < H.size → ¬ A a → H1[a]? = H[a]?) : fd_stat tA A U H1 := ⟨h.1.kept hq, h.2.1.kept hq, h.2.2.1.kept hq, h.2.2.2.kept hq⟩
theorem fd_stat.narrow {tA : Nat → Nat} {A B : Nat → Prop} {U : State} {H : Heap} (h : fd_stat tA A U H) (hAB : ∀ q, B q → A q) : fd_stat tA B U H := ⟨h.1.narrow hAB, h.2.1.narrow hAB, h.2.2.1.narrow hAB, h.2.2.2.narrow hAB⟩
theorem fd_nst.same {u U : State} (hvm : u.vm = U.vm) (h : fd_nst u) : fd_nst U := ⟨h.1.same rfl hvm, h.2.1.same rfl hvm, h.2.2.1.moved (by rw [hvm]; exact Vm.Alike.refl _), h.2.2.2.moved (by rw [hvm]; exact Vm.Alike.refl _)⟩
theorem fd_nst.warm {u U : State} (hW : u.WarmedH U.vm) (h : fd_nst u) : fd_nst U := ⟨h.1.warmM hW, h.2.1.warmM hW, h.2.2.1.moved hW.alike, h.2.2.2.moved hW.alike⟩
