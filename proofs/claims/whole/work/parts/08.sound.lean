def fd_wk (k : Nat) : List Jvm.Cond := Jvm.Cond.code (fd_y k) (fd_b k) (fd_mL k) (fd_ret k) :: fd_tb
def fd_rm (D k : Nat) : Room := { frames := D, cells := fd_mc k, slots := fd_mS k, locals := 40 * D }
def fd_Pre (tA : Nat → Nat) (dC : Nat → ClassId) (dI : Nat → Nat → Nat) (ad : Nat → Nat) (ca : Nat → ClassId) (σ : fd_S) (sz : Nat) (U : State) : Prop :=
  U.heap.size = sz ∧ va_P (dC, dI) vwCl (fd_ws ad ca σ) U.heap ∧ va_K (dC, dI) vwCl [] U ∧ fd_KA U ca σ ∧ va_D (fun _ => True) (fd_ws ad ca σ) ∧ fd_stat tA (va_A (fd_ws ad ca σ) sz) U U.heap ∧ fd_nst U
def fd_Qc (tA : Nat → Nat) (dC : Nat → ClassId) (dI : Nat → Nat → Nat) (ad : Nat → Nat) (ca : Nat → ClassId) (σ : fd_S) (mc : Nat) (post : Option fd_V → fd_S → Prop) (A : Nat → Prop) : Array Value → State → Outcome → State → Prop := fun _ st oc t =>
  (∃ (r : Option fd_V) (σ' : fd_S) (ad' : Nat → Nat) (ca' : Nat → ClassId), oc = .returned (r.map (fd_tr tA ad')) ∧ post r σ' ∧ va_P (dC, dI) vwCl (fd_ws ad' ca' σ') t.heap ∧ va_D A (fd_ws ad' ca' σ') ∧ fd_KA t ca' σ' ∧ fd_ext σ.1 ad ca mc ad' ca' σ') ∧ va_F A st t
def fd_Met (l : Launch) (D k : Nat) (as : List fd_V) (σ : fd_S) (post : Option fd_V → fd_S → Prop) : Prop :=
  ∀ (dC : Nat → ClassId) (dI : Nat → Nat → Nat) (tA ad : Nat → Nat) (ca : Nat → ClassId) (sz : Nat), Met l (fd_y k) (fd_wk k) (fd_rm D k) (va_Pc (as.map (fd_tr tA ad)) (fd_Pre tA dC dI ad ca σ sz)) (fd_Qc tA dC dI ad ca σ (fd_mc k) post (va_A (fd_ws ad ca σ) sz)) (fd_mc k) (fd_mS k) (va_A (fd_ws ad ca σ) sz)
theorem fd_blind (av : List Value) (tA : Nat → Nat) (dC : Nat → ClassId) (dI : Nat → Nat → Nat) (ad : Nat → Nat) (ca : Nat → ClassId) (σ : fd_S) (sz : Nat) : FrameBlind (va_Pc av (fd_Pre tA dC dI ad ca σ sz)) := by
  intro a U g mk q
  obtain ⟨q0, q1, q2, q3, q4, q5, q6, q7⟩ := q
  exact ⟨q0, q1, q2, va_K.moved (u := U) (U := U.calling g mk a) (Vm.Alike.refl U.vm) q3, fd_KA.moved (u := U) (U := U.calling g mk a) (Vm.Alike.refl U.vm) q4, q5, fd_stat.moved (u := U) (U := U.calling g mk a) (Vm.Alike.refl U.vm) q6, fd_nst.same (u := U) (U := U.calling g mk a) rfl q7⟩
def fd_ctx (p : Program) (R : Room) (s : State) (m : MethodId) (args : Array Value) (meth : Method) (c : Code) (mi D : Nat) (A : Nat → Prop) (tA : Nat → Nat) (dC : Nat → ClassId) (dI : Nat → Nat → Nat) (scr : Option (Nat × (Nat → Int32))) : Prop :=
  p.tables.exec = Jvm.exec ∧ c.code = fd_b mi ∧ c.maxLocals = fd_mL mi ∧ s.vm.findClass (fd_R (fd_own mi)) = some m.cls ∧ (∀ w ∈ fd_tb, w.before args s = true) ∧ va_K (dC, dI) vwCl [] s ∧ fd_stat tA A s s.heap ∧ fd_nst s ∧ (∀ q, s.heap.size ≤ q → A q) ∧ (fd_mc mi ≤ R.cells ∧ fd_mS mi ≤ R.slots) ∧ (D + 1 ≤ R.frames ∧ 40 * (D + 1) ≤ R.locals) ∧ (∀ n f, scr = some (n, f) → va_X (tA 2) n f s s.heap ∧ tA 2 < s.heap.size ∧ ¬ A (tA 2)) ∧ ((fd_y mi).name = "<init>" → meth.name = "<init>")
def fd_Rp (s : State) (mi : Nat) (A : Nat → Prop) (tA : Nat → Nat) (dC : Nat → ClassId) (dI : Nat → Nat → Nat) (N0 : Nat) (ad0 : Nat → Nat) (ca0 : Nat → ClassId) (lv : fd_L) (σ : fd_S) (cc ss : Nat) (ad : Nat → Nat) (ca : Nat → ClassId) (H : Heap) (locs : List Loc) (ls : Array Slot) : Prop :=
  va_P (dC, dI) vwCl (fd_ws ad ca σ) H ∧ va_D A (fd_ws ad ca σ) ∧ fd_KA s ca σ ∧ fd_ext N0 ad0 ca0 (fd_mc mi) ad ca σ ∧ va_S A s.heap H locs ∧ lv_has ls (fd_mL mi) (fd_lv tA ad lv) ∧ cc ≤ fd_mc mi ∧ ss ≤ fd_mS mi
section
variable (p : Program) (l : Launch) (e : Env) (R : Room) (s : State) (m : MethodId) (args : Array Value) (below : List Frame) (meth : Method) (c : Code) (Q : State → Prop)
variable (mi : Nat) (A : Nat → Prop) (tA : Nat → Nat) (dC : Nat → ClassId) (dI : Nat → Nat → Nat) (N0 : Nat) (ad0 : Nat → Nat) (ca0 : Nat → ClassId)
def fd_Wp (pc : Nat) (lv : fd_L) (st : List fd_V) (σ : fd_S) (cc ss : Nat) : Prop := ∀ (ad : Nat → Nat) (ca : Nat → ClassId) (H : Heap) (locs : List Loc) (ls : Array Slot), fd_Rp s mi A tA dC dI N0 ad0 ca0 lv σ cc ss ad ca H locs ls → W p l e R s m args below meth c H locs cc ss Q (F0 m pc ls (st.map (fd_tr tA ad)))
def fd_W : fd_X := fun suf lv st σ cc ss => ∀ k, suf = (fd_code mi).drop k → fd_Wp p l e R s m args below meth c Q mi A tA dC dI N0 ad0 ca0 (fd_pc suf) lv st σ cc ss
end
/-- the ends of a method -/
def fd_rok (mi pc : Nat) (r : Option fd_V) : Prop := match r with
  | none => decode (fd_b mi) pc = .ok (.return_, 1) ∧ fd_ret mi = none
  | some (.inl x) => decode (fd_b mi) pc = .ok (.ireturn, 1) ∧ (fd_ret mi = some .int ∨ (fd_ret mi = some .boolean ∧ (x = 0 ∨ x = 1)))
  | some (.inr (.inl _)) => decode (fd_b mi) pc = .ok (.lreturn, 1) ∧ fd_ret mi = some .long
  | some (.inr (.inr (.inl _))) => decode (fd_b mi) pc = .ok (.areturn, 1) ∧ ∃ n, fd_ret mi = some (.object n)
  | _ => False
theorem fd_ws_fld {ad : Nat → Nat} {ca : Nat → ClassId} {σ τ : fd_S} {a ci k : Nat} {v : Value} (hsh : fd_sh a = .inl ci) (e : τ.1 = σ.1) (h1 : ∀ i j, (i ≠ a ∨ j ≠ k) → τ.2.1 i j = σ.2.1 i j) (h2 : ∀ i j, (i ≠ a ∨ j ≠ k) → τ.2.2.1 i j = σ.2.2.1 i j) (h3 : ∀ i j, (i ≠ a ∨ j ≠ k) → τ.2.2.2 i j = σ.2.2.2 i j) (hv : fd_fv ad τ a k (fd_tyf ci k) = v) :
    (fd_ws ad ca σ).set a (ad a, .inr (ci, (fd_fs ad σ ci a).set k v)) = fd_ws ad ca τ := by
  refine fd_ws_set e (fun i hi => fd_cell_eq rfl (fun j => h1 i j (Or.inl hi)) (fun j => by rw [h2 i j (Or.inl hi)]) (fun j => h3 i j (Or.inl hi))) ?_
  unfold fd_cell
  rw [hsh]
  show Sum.inr (ci, fd_fs ad τ ci a) = Sum.inr (ci, (fd_fs ad σ ci a).set k v)
  rw [fd_fs_set (τ := τ) (fun j hj t => by cases t <;> simp [fd_fv, h1 a j (Or.inr hj), h2 a j (Or.inr hj), h3 a j (Or.inr hj)]) hv]
theorem fd_u_or {α : Type} {f : Nat → Nat → α} {a k i j : Nat} {v : α} (h : i ≠ a ∨ j ≠ k) : fd_u f a k v i j = f i j := h.elim fd_u_ne fd_u_ne2
theorem fd_ws_iarr {ad : Nat → Nat} {ca : Nat → ClassId} {σ : fd_S} {a n k : Nat} {v : Int32} (hsh : fd_sh a = .inr (n, none)) : (fd_ws ad ca σ).set a (ad a, .inl (ca a, n, .inl (upd (fun j => σ.2.1 a j) k v))) = fd_ws ad ca (fd_si σ a k v) := by
  refine fd_ws_set (σ := σ) (τ := fd_si σ a k v) rfl (fun i hi => fd_cell_eq (σ := σ) (τ := fd_si σ a k v) rfl (fun j => fd_u_ne hi) (fun j => rfl) (fun j => rfl)) ?_
  unfold fd_cell
  rw [hsh]
  show Sum.inl (ca a, n, Sum.inl (fun j => fd_u σ.2.1 a k v a j)) = _
  congr 4
  funext j
  simp [fd_u, upd]
theorem fd_ws_rarr {ad : Nat → Nat} {ca : Nat → ClassId} {σ : fd_S} {a n k c z : Nat} (hsh : fd_sh a = .inr (n, some c)) : (fd_ws ad ca σ).set a (ad a, .inl (ca a, n, .inr (.inr (.inr (.inr (va_up (fun j => (σ.2.2.1 a j).map ad) k (some (ad z)))))))) = fd_ws ad ca (fd_sr σ a k (some z)) := by
  refine fd_ws_set (σ := σ) (τ := fd_sr σ a k (some z)) rfl (fun i hi => fd_cell_eq (σ := σ) (τ := fd_sr σ a k (some z)) rfl (fun j => rfl) (fun j => by show (fd_u σ.2.2.1 a k (some z) i j).map ad = _; rw [fd_u_ne hi]) (fun j => rfl)) ?_
  unfold fd_cell
  rw [hsh]
  show Sum.inl (ca a, n, Sum.inr (Sum.inr (Sum.inr (Sum.inr (fun j => (fd_u σ.2.2.1 a k (some z) a j).map ad))))) = _
  congr 7
  funext j
  by_cases h : j = k <;> simp [fd_u, va_up, h]
theorem fd_cell_obj {ad : Nat → Nat} {ca : Nat → ClassId} {σ : fd_S} {a ci : Nat} (h : fd_sh a = .inl ci) : fd_cell ad ca σ a = .inr (ci, fd_fs ad σ ci a) := by unfold fd_cell; rw [h]
theorem fd_cell_int {ad : Nat → Nat} {ca : Nat → ClassId} {σ : fd_S} {a n : Nat} (h : fd_sh a = .inr (n, none)) : fd_cell ad ca σ a = .inl (ca a, n, .inl (fun j => σ.2.1 a j)) := by unfold fd_cell; rw [h]
theorem fd_cell_ref {ad : Nat → Nat} {ca : Nat → ClassId} {σ : fd_S} {a n c : Nat} (h : fd_sh a = .inr (n, some c)) : fd_cell ad ca σ a = .inl (ca a, n, .inr (.inr (.inr (.inr (fun j => (σ.2.2.1 a j).map ad))))) := by unfold fd_cell; rw [h]
theorem fd_Ka {dC : Nat → ClassId} {dI : Nat → Nat → Nat} {s : State} {ca : Nat → ClassId} {σ : fd_S} {a n : Nat} {c : Option Nat} (hK : va_K (dC, dI) vwCl [] s) (hKA : fd_KA s ca σ) (ha : a < σ.1) (hs : fd_sh a = .inr (n, c)) : va_K (dC, dI) vwCl [(ca a, fd_ety c)] s := by
  refine ⟨hK.1, fun k q hk => ?_⟩
  cases k with
  | zero => cases hk; exact hKA a n c ha hs
  | succ k => simp at hk
theorem fd_ft_use {o i ci k : Nat} (h : fd_ftl o i ci k = true) : (Jvm.Cond.fieldLink (fd_R o) i (fd_T ci k).1 (fd_T ci k).2.1 (fd_T ci k).2.2.1) ∈ fd_tb ∧ ci < 5 ∧ k < fd_nf ci := by
  unfold fd_ftl at h
  obtain ⟨q, hq, he⟩ := List.any_eq_true.mp h
  simp only [Bool.and_eq_true, beq_iff_eq] at he
  obtain ⟨⟨⟨rfl, rfl⟩, rfl⟩, rfl⟩ := he
  have := fd_ft_ok q hq
  simp only [Bool.and_eq_true, decide_eq_true_eq] at this
  exact ⟨fd_at_tb this.1.1, this.1.2, this.2⟩
theorem fd_wsIn {ci : Nat} (h : ci < 5) : ∀ w ∈ u_ws (fd_R ci) (fd_T ci) (fd_nf ci), w ∈ fd_tb := by
  have := fd_cls_ok ci h
  simp only [Bool.and_eq_true, List.all_eq_true] at this
  exact fun w hw => fd_in_tb (this.2 w hw)
theorem fd_callW {p : Program} {l : Launch} {e : Env} {R : Room} {s : State} {m : MethodId} {args : Array Value} {below : List Frame} {meth : Method} {c : Code} {H : Heap} {locs : List Loc} {cells slots : Nat} {Q : State → Prop} {pc : Nat} {ls : Array Slot} {rest st0 : List Value} {A0 A1 : Nat → Prop} {H0 : Heap} {mc ms : Nat} {free : Addr → Prop} {Qa : State → Outcome → State → Prop}
    (hr : va_Run p l e R s m args below meth c H locs cells slots mc ms (F0 m pc ls st0) rest Qa free) (hS : va_S A0 H0 H locs) (hQ : ∀ st oc t, Qa st oc t → va_F A1 st t) (hA : ∀ q, q < H.size → A1 q → A0 q) (hf : ∀ q, free q → A0 q)
    (kk : ∀ (v : Option Value) (st t : State) (locs1 : List Loc), st.heap = H → s.vm.Alike t.vm → Qa st (.returned v) t → va_S A0 H0 t.heap locs1 → W p l e R s m args below meth c t.heap locs1 (cells + mc) (slots + ms) Q (F0 m (pc + 3) ls (v.toList ++ rest))) : W p l e R s m args below meth c H locs cells slots Q (F0 m pc ls st0) := by
  intro T hT X
  obtain ⟨v, st₀, t, T', L, h0, X', hL, e1, e2, hq, st⟩ := hr T hT X
  obtain ⟨hz, hk⟩ := hQ _ _ _ hq
  rw [h0] at hz hk
  obtain ⟨t2, a1, b1⟩ := kk v st₀ t (locs ++ L) h0 (by rw [← e2]; exact X'.warmed.alike) hq
    ⟨Nat.le_trans hS.1 hz, fun q h1 h2 => by rw [hk q (Nat.lt_of_lt_of_le h1 hS.1) (fun z => h2 (hA q (Nat.lt_of_lt_of_le h1 hS.1) z))]; exact hS.2.1 q h1 h2, fun q hq => by
      rcases List.mem_append.mp hq with h | h
      · exact hS.2.2 q h
      · exact hf _ (hL q h)⟩ T' e1 X'
  exact ⟨t2, st t2 a1, b1⟩
