/-! THE CLAIM OUT OF ONE WALK OF THE LAW'S BODY. Your part is whole_start (and what it stands on); all else here is the same for every law, but numbers. -/
def R_law : String := "FerryDeckLaw"
def lw_P (b : Addr) (xs : List Int32) (args : Array Value) (s : State) : Prop := args = #[.ref b] ∧ s.IntsAt b xs ∧ xs.length ≤ 2048 ∧ (Jvm.Cond.and given_1 narrow_1).before args s = true
def lw_Q (_ : Array Value) (s : State) (o : Outcome) (t : State) : Prop := o = .returned (some (.int 1)) ∧ Framed s o t [] 600000 7302250
def lw_Z (below : List Frame) (a : Array Value) (s : State) : State → Prop := fun t => ∃ o, t.status = .running ∧ Ended t below o ∧ lw_Q a s o t
/-- the law's own end, with 1 on the stack, nothing written that was there before, its room as the claim has it -/
theorem lw_ret {p : Program} {l : Launch} {e : Env} {s : State} {m : MethodId} {below : List Frame} {meth : Method} {c : Code} {b : Nat} (hx : p.tables.exec = Jvm.exec) (hb : c.code = code) (hr : meth.sig.returnType = ret) (hlocks : meth.locks = false) {pc : Nat} {H : Heap} {ls : Array Slot} (hdg : decode code pc = .ok (.ireturn, 1)) : W p l e room_1 s m #[Value.ref b] below meth c H [] 600000 7302250 (lw_Z below #[Value.ref b] s) (F0 m pc ls [.int 1]) := by
  intro T hT X
  obtain ⟨fs, hret, hrun, hended, hW, hframe⟩ := X.leave (v := some (.int 1)) (hlocks := hlocks) (fun h => by rw [hr] at h; cases h)
  have hmeth' : T.vm.method? m = some meth := X.method'
  refine ⟨T.setFrames fs, ?_, .returned (some (.int 1)), hrun, hended, rfl, ⟨_, rfl⟩, hW, hframe⟩
  jvm_step X.here [X.here.top, hx, hb, hdg, hmeth', hr, ret, narrow_b1]
  (try refine ⟨rfl, ?_⟩); (try refine ⟨rfl, ?_⟩)
  first | (intro acts; rw [hret _ acts rfl rfl rfl]) | rw [hret _ _ rfl rfl rfl]
  exact Steps.refl _
/-- what holds at the law's entry: the machine, the code, the tables' words (any of lw_tbl by 'hts w (by decide +kernel)'), the script of L ints xs at the cell b, what the Statement gives of the start (any of its parts by flat_of_before) -/
def lw_At (p : Program) (s : State) (m : MethodId) (meth : Method) (c : Code) (b L : Nat) (xs : Nat → Int32) : Prop :=
  p.tables.exec = Jvm.exec ∧ c.code = code ∧ meth.sig.returnType = ret ∧ c.maxLocals = 4 ∧ s.vm.findClass R_law = some m.cls ∧ (∀ w ∈ lw_tbl, w.before #[Value.ref b] s = true) ∧ va_X b L xs s s.heap ∧ b < s.heap.size ∧ meth.locks = false ∧ (Jvm.Cond.and given_1 narrow_1).before #[Value.ref b] s = true

def fd_s0 : fd_S := (0, fun _ _ => 0, fun _ _ => none, fun _ _ => 0)
/-- the law, on the abstract machine -/
def fd_LawOk : Prop := ∀ (L : Nat) (xs : Nat → Int32), L ≤ 2048 → ∀ X : fd_X, (∀ suf lv st σ cc ss, fd_step (fd_Sem 100) (some (L, xs)) 79 (fun r _ => r = some (.inl 1)) X suf lv st σ cc ss → X suf lv st σ cc ss) → fd_subX X → X (fd_code 79) [(0, .inr (.inr (.inr 2)))] [] fd_s0 0 0
theorem fd_flatA : ∀ j, j < 7 → Jvm.Cond.eq (.elem (.static "FerryDeck$Answers" "ABOVE" "[I") (.int (Int32.ofNat j))) (.int (fd_sa 0 j)) ∈ flatC (Jvm.Cond.and given_1 narrow_1) := by decide +kernel
theorem fd_flatT : ∀ j, j < 42 → Jvm.Cond.eq (.elem (.static "FerryDeck$Answers" "TOLD_BODIES" "[I") (.int (Int32.ofNat j))) (.int (fd_sa 1 j)) ∈ flatC (Jvm.Cond.and given_1 narrow_1) := by decide +kernel
theorem fd_statics_ok : (decide (Jvm.Cond.laysStatic RX0 "ABOVE" "[I" ∈ lw_tbl) && decide (Jvm.Cond.laysStatic RX0 "TOLD_BODIES" "[I" ∈ lw_tbl) && decide (Jvm.Cond.initialized RX0 ∈ lw_tbl) && decide (Jvm.Cond.methodLinkNest RX0 54 yX3_within RX3 ∈ lw_tbl) && decide (Jvm.Cond.methodLinkNest RX3 27 yX0_init RX3 ∈ lw_tbl) && decide (Jvm.Cond.arrayOver (.object RX1) ∈ lw_tbl) && decide (Jvm.Cond.arrayOver (.object RX2) ∈ lw_tbl)) = true := by decide +kernel
set_option maxHeartbeats 4000000 in
set_option maxRecDepth 100000 in
theorem fd_start (hLaw : fd_LawOk) {p : Program} {e : Env} {s : State} {m : MethodId} {below : List Frame} {meth : Method} {c : Code} (l : Launch) {b L : Nat} {xs : Nat → Int32} (hL : L ≤ 2048) (C0 : lw_At p s m meth c b L xs) : W p l e room_1 s m #[Value.ref b] below meth c s.heap [] 0 0 (lw_Z below #[Value.ref b] s) (entryFrame m ([Value.ref b] : List Value).toArray 4) := by
  obtain ⟨hx, hb, hr, hml, hown, hts, hX, hbl, hlocks, hgv⟩ := id C0
  have hs := flat_of_before _ hgv
  have hno : ∀ a : Nat, a < s.heap.size → ¬ (fun q : Nat => s.heap.size ≤ q) a := fun a h => Nat.not_le.mpr h
  have hok := fd_statics_ok
  simp only [Bool.and_eq_true, decide_eq_true_eq] at hok
  obtain ⟨⟨⟨⟨⟨⟨k1, k2⟩, k3⟩, k4⟩, k5⟩, k6⟩, k7⟩ := hok
  obtain ⟨t0, ht0, hT0⟩ := va_Tof (A := fun q : Nat => s.heap.size ≤ q) (args := #[Value.ref b]) (s := s) (tm := .static "FerryDeck$Answers" "ABOVE" "[I") (ty := .int) (N := 7) (f := fun j => .int (fd_sa 0 j)) (by decide) (hs _ (by decide +kernel)) (va_eqt (hs (Jvm.Cond.eq (.length (.static "FerryDeck$Answers" "ABOVE" "[I")) (.int 7)) (by decide +kernel))) (fun j hj => va_eqt (hs _ (fd_flatA j hj))) hno
  obtain ⟨t1, ht1, hT1⟩ := va_Tof (A := fun q : Nat => s.heap.size ≤ q) (args := #[Value.ref b]) (s := s) (tm := .static "FerryDeck$Answers" "TOLD_BODIES" "[I") (ty := .int) (N := 42) (f := fun j => .int (fd_sa 1 j)) (by decide) (hs _ (by decide +kernel)) (va_eqt (hs (Jvm.Cond.eq (.length (.static "FerryDeck$Answers" "TOLD_BODIES" "[I")) (.int 42)) (by decide +kernel))) (fun j hj => va_eqt (hs _ (fd_flatT j hj))) hno
  have hZ0 : va_Z RX0 "ABOVE" "[I" (.ref t0) (fun q : Nat => s.heap.size ≤ q) s s.heap := va_Zof (hts _ k1) (hts _ k3) ht0 hno
  have hZ1 : va_Z RX0 "TOLD_BODIES" "[I" (.ref t1) (fun q : Nat => s.heap.size ≤ q) s s.heap := va_Zof (hts _ k2) (hts _ k3) ht1 hno
  have htb : ∀ w ∈ fd_tb, w.before #[Value.ref b] s = true := fun w hw => hts w (List.mem_filter.mp hw).1
  have hkn : ∀ ci, ci < 5 → ∃ (cC : ClassId) (iS : Nat → Nat), u_Kn s (fd_R ci) (fd_T ci) (fd_nf ci) cC iS := by
    intro ci hci
    have hco := fd_cls_ok ci hci
    simp only [Bool.and_eq_true] at hco
    exact u_known (n := fd_nf ci) htb (fd_wsIn hci) (htb _ (fd_in_tb hco.1.1))
  obtain ⟨c0, i0, hK0⟩ := hkn 0 (by decide)
  obtain ⟨c1, i1, hK1⟩ := hkn 1 (by decide)
  obtain ⟨c2, i2, hK2⟩ := hkn 2 (by decide)
  obtain ⟨c3, i3, hK3⟩ := hkn 3 (by decide)
  obtain ⟨c4, i4, hK4⟩ := hkn 4 (by decide)
  obtain ⟨dC, dI, hKc⟩ : ∃ (dC : Nat → ClassId) (dI : Nat → Nat → Nat), ∀ (k : Nat) (q : vw_C), vwCl[k]? = some q → u_Kn s q.1 q.2.1 q.2.2 (dC k) (dI k) := by
    refine ⟨fun k => match k with
      | 0 => c0
      | 1 => c1
      | 2 => c2
      | 3 => c3
      | _ => c4, fun k => match k with
      | 0 => i0
      | 1 => i1
      | 2 => i2
      | 3 => i3
      | _ => i4, ?_⟩
    intro k q hq
    match k, hq with
    | 0, hq => cases hq; exact hK0
    | 1, hq => cases hq; exact hK1
    | 2, hq => cases hq; exact hK2
    | 3, hq => cases hq; exact hK3
    | 4, hq => cases hq; exact hK4
    | k + 5, hq => simp [vwCl] at hq
  have hK : va_K (dC, dI) vwCl [] s := ⟨hKc, fun k q h => by simp at h⟩
  obtain ⟨tA, e0, e1, e2⟩ : ∃ tA : Nat → Nat, tA 0 = t0 ∧ tA 1 = t1 ∧ tA 2 = b := ⟨fun k => if k = 0 then t0 else if k = 1 then t1 else b, rfl, rfl, rfl⟩
  have hl := lv_entry ([.ref b]) (n := 4) (Nat.le_of_ble_eq_true rfl)
  rw [lg_entry_eq]
  generalize (lg_sl ([.ref b]) ++ List.replicate (4 - (lg_sl ([.ref b])).length) Slot.unset).toArray = ls at hl ⊢
  have hl : lv_has ls 4 [(0, .ref b)] := hl
  have cx : fd_ctx p room_1 s m #[Value.ref b] meth c 79 100 (fun q : Nat => s.heap.size ≤ q) tA dC dI (some (L, xs)) :=
    ⟨hx, hb, hml, hown, htb, hK, ⟨by rw [e0]; exact hZ0, by rw [e0]; exact hT0, by rw [e1]; exact hZ1, by rw [e1]; exact hT1⟩, ⟨va_Nw.of rfl (hts _ k4), va_Nw.of rfl (hts _ k5), hts _ k6, hts _ k7⟩, fun q hq => hq, ⟨by decide, by decide⟩, ⟨by decide, by decide⟩, fun n f hh => by
      cases hh
      rw [e2]
      exact ⟨hX, hbl, Nat.not_le.mpr hbl⟩, fun hh => absurd hh (by decide +kernel)⟩
  have key := hLaw L xs hL (fd_W p l e room_1 s m #[Value.ref b] below meth c (lw_Z below #[Value.ref b] s) 79 (fun q : Nat => s.heap.size ≤ q) tA dC dI 0 (fun _ => 0) (fun _ => c0))
    (fun suf lv st σ1 cc ss hstep => fd_stepW cx fd_lawck (fun k as σ pk h1 h2 h3 => fd_sound l 100 k as σ pk h1 h2 h3) ?_ suf lv st σ1 cc ss hstep) fd_W_sub 0 rfl (fun _ => 0) (fun _ => c0) s.heap [] ls ⟨fun k q h => by simp [fd_ws, fd_s0] at h, ⟨fun i j p q h => by simp [fd_ws, fd_s0] at h, fun k q h => by simp [fd_ws, fd_s0] at h⟩, fun a n c' h => absurd h (Nat.not_lt_zero _), ⟨fun i h => absurd h (Nat.not_lt_zero _), Nat.le_refl _, fun h => absurd h (by decide +kernel)⟩, va_S.rf, by
      have e3 : fd_lv tA (fun _ => 0) [(0, .inr (.inr (.inr 2)))] = [(0, .ref b)] := by simp [fd_lv, fd_tr, e2]
      rw [e3]; exact hl, Nat.zero_le _, Nat.zero_le _⟩
  · exact key
  · intro r σ1 pc lv1 cc1 ss1 ad1 ca1 H locs ls1 hpost hrok hR
    obtain ⟨hP1, hD1, hKA1, hE1, hS1, hlv1, hcc1, hss1⟩ := hR
    subst hpost
    refine va_forget hS1.2.2 ?_
    refine W.widen (k := 600000) (n := 7302250) hcc1 hss1 ?_
    exact lw_ret hx hb hr hlocks hrok.1
