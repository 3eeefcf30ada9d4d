theorem fd_mok_use {k : Nat} (h : k < 79) : Jvm.Cond.code (fd_y k) (fd_b k) (fd_mL k) (fd_ret k) ∈ fd_tb ∧ Jvm.Cond.initialized (fd_y k).cls ∈ fd_tb ∧ (fd_y k).cls = fd_R (fd_own k) ∧ plainName (fd_y k).cls = true ∧ (fd_y k).cls ≠ "java/lang/invoke/MethodHandle" ∧ (fd_y k).cls ≠ "java/lang/invoke/VarHandle" ∧ (parseMethodDescriptor (fd_y k).desc).map (fun d => d.parameters.length) = some (fd_np k) ∧ fd_ckL k (fd_code k) = true ∧ fd_own k < 5 ∧ fd_mL k ≤ 20 := by
  have := fd_mok_all k h
  unfold fd_mok at this
  simp only [Bool.and_eq_true, decide_eq_true_eq, beq_iff_eq] at this
  obtain ⟨⟨⟨⟨⟨⟨⟨⟨⟨h1, h2⟩, h3⟩, h4⟩, h5⟩, h6⟩, h7⟩, h8⟩, h9⟩, h10⟩ := this
  exact ⟨fd_in_tb h1, fd_in_tb h2, h3, h4, h5, h6, h7, h8, h9, h10⟩
theorem fd_mS0a : ∀ k, k < 79 → (fd_mc k == 0 → fd_mS k == 0) := by decide +kernel
theorem fd_mS0 {k : Nat} (h : k < 79) (h0 : fd_mc k = 0) : fd_mS k = 0 := by
  have := fd_mS0a k h
  simp only [beq_iff_eq] at this
  exact this h0
def fd_mtP (o i k kd : Nat) : Prop := match kd with
  | 0 => Jvm.Cond.methodLink (fd_R o) i (fd_y k) ∈ fd_tb ∧ Jvm.Cond.instanceMethod (fd_y k) ∈ fd_tb ∧ Jvm.Cond.selects (fd_y k).cls (fd_y k) (fd_y k) ∈ fd_tb
  | 1 => Jvm.Cond.methodLink (fd_R o) i (fd_y k) ∈ fd_tb ∧ Jvm.Cond.static (fd_y k) ∈ fd_tb
  | 2 => Jvm.Cond.methodLink (fd_R o) i (fd_y k) ∈ fd_tb ∧ Jvm.Cond.instanceMethod (fd_y k) ∈ fd_tb ∧ (fd_y k).name = "<init>" ∧ fd_ret k = none
  | 3 => (∃ j : Nat, lw_tbl[j]? = some (Jvm.Cond.methodLinkNest (fd_R o) i (fd_y k) RX3)) ∧ Jvm.Cond.static (fd_y k) ∈ fd_tb
  | 4 => (∃ j : Nat, lw_tbl[j]? = some (Jvm.Cond.methodLinkNest (fd_R o) i (fd_y k) RX3)) ∧ Jvm.Cond.instanceMethod (fd_y k) ∈ fd_tb ∧ (fd_y k).name = "<init>" ∧ fd_ret k = none
  | _ => False
theorem fd_mt_use {o i k kd : Nat} (h : fd_mtl o i k kd = true) : k < 79 ∧ fd_mtP o i k kd := by
  unfold fd_mtl at h
  obtain ⟨q, hq, he⟩ := List.any_eq_true.mp h
  simp only [Bool.and_eq_true, beq_iff_eq] at he
  obtain ⟨⟨⟨rfl, rfl⟩, rfl⟩, rfl⟩ := he
  have hk := fd_mt_ok q hq
  unfold fd_mtok at hk
  simp only [Bool.and_eq_true, decide_eq_true_eq] at hk
  obtain ⟨h1, h2⟩ := hk
  refine ⟨h1, ?_⟩
  generalize q.2.2.2.1 = kd at h2 ⊢
  match kd, h2 with
  | 0, h2 => simp only [Bool.and_eq_true] at h2; exact ⟨fd_at_tb h2.1.1, fd_in_tb h2.1.2, fd_in_tb h2.2⟩
  | 1, h2 => simp only [Bool.and_eq_true] at h2; exact ⟨fd_at_tb h2.1, fd_in_tb h2.2⟩
  | 2, h2 => simp only [Bool.and_eq_true, beq_iff_eq, decide_eq_true_eq] at h2; exact ⟨fd_at_tb h2.1.1.1, fd_in_tb h2.1.1.2, h2.1.2, h2.2⟩
  | 3, h2 => simp only [Bool.and_eq_true, decide_eq_true_eq] at h2; exact ⟨⟨_, h2.1⟩, fd_in_tb h2.2⟩
  | 4, h2 => simp only [Bool.and_eq_true, beq_iff_eq, decide_eq_true_eq] at h2; exact ⟨⟨_, h2.1.1.1⟩, fd_in_tb h2.1.1.2, h2.1.2, h2.2⟩
  | n + 5, h2 => cases h2
/-- the links between nest mates: there are two -/
theorem fd_nest_ok : ∀ q ∈ fd_mt, (q.2.2.2.1 = 3 → q.1 = 0 ∧ q.2.1 = 54 ∧ q.2.2.1 = 37) ∧ (q.2.2.2.1 = 4 → q.1 = 3 ∧ q.2.1 = 27 ∧ q.2.2.1 = 0) := by decide +kernel
theorem fd_nest3 {o i k : Nat} (h : fd_mtl o i k 3 = true) : o = 0 ∧ i = 54 ∧ k = 37 := by
  unfold fd_mtl at h
  obtain ⟨q, hq, he⟩ := List.any_eq_true.mp h
  simp only [Bool.and_eq_true, beq_iff_eq] at he
  obtain ⟨⟨⟨rfl, rfl⟩, rfl⟩, h4⟩ := he
  exact (fd_nest_ok q hq).1 h4
theorem fd_nest4 {o i k : Nat} (h : fd_mtl o i k 4 = true) : o = 3 ∧ i = 27 ∧ k = 0 := by
  unfold fd_mtl at h
  obtain ⟨q, hq, he⟩ := List.any_eq_true.mp h
  simp only [Bool.and_eq_true, beq_iff_eq] at he
  obtain ⟨⟨⟨rfl, rfl⟩, rfl⟩, h4⟩ := he
  exact (fd_nest_ok q hq).2 h4
section
variable {p : Program} {l : Launch} {e : Env} {R : Room} {s : State} {m : MethodId} {args : Array Value} {below : List Frame} {meth : Method} {c : Code} {Q : State → Prop}
variable {mi D : Nat} {A : Nat → Prop} {tA : Nat → Nat} {dC : Nat → ClassId} {dI : Nat → Nat → Nat} {N0 : Nat} {ad0 : Nat → Nat} {ca0 : Nat → ClassId} {scr : Option (Nat × (Nat → Int32))} {C : fd_C} {post : Option fd_V → fd_S → Prop}
/-- a call has come back -/
theorem fd_w_after (cx : fd_ctx p R s m args meth c mi D A tA dC dI scr) {k pc : Nat} {lv : fd_L} {t : List fd_V} {σ : fd_S} {cc ss : Nat} {ad : Nat → Nat} {ca : Nat → ClassId} {H : Heap} {locs : List Loc} {ls : Array Slot} {st0 : List Value} {av : Array Value} {pk : Option fd_V → fd_S → Prop}
    (hR : fd_Rp s mi A tA dC dI N0 ad0 ca0 lv σ cc ss ad ca H locs ls) (hbud : cc + fd_mc k ≤ fd_mc mi ∧ ss + fd_mS k ≤ fd_mS mi) (hal : fd_mc k = 0 ∨ (fd_okL σ.1 lv ∧ fd_okV σ.1 t))
    (hr : va_Run p l e R s m args below meth c H locs cc ss (fd_mc k) (fd_mS k) (F0 m pc ls st0) (t.map (fd_tr tA ad)) (fd_Qc tA dC dI ad ca σ (fd_mc k) pk (va_A (fd_ws ad ca σ) H.size) av) (va_A (fd_ws ad ca σ) H.size))
    (kk : ∀ r σ', pk r σ' → fd_Wp p l e R s m args below meth c Q mi A tA dC dI N0 ad0 ca0 (pc + 3) lv (r.toList ++ t) σ' (cc + fd_mc k) (ss + fd_mS k)) : W p l e R s m args below meth c H locs cc ss Q (F0 m pc ls st0) := by
  obtain ⟨hx, hb, hml, hown, hts, hK, hst, hnst, hA, hroom, hfr, hscr, hnm⟩ := id cx
  obtain ⟨hP, hD, hKA, hE, hS, hlv, hcc, hss⟩ := hR
  have hsub : ∀ q, va_A (fd_ws ad ca σ) H.size q → A q := by
    intro q hq
    rcases hq with ⟨k', e', hk'⟩ | hq
    · exact hD.2 k' _ hk'
    · exact hA q (Nat.le_trans hS.1 hq)
  refine fd_callW (A1 := va_A (fd_ws ad ca σ) H.size) hr hS (fun st oc t h => h.2) (fun q _ h => hsub q h) hsub ?_
  intro v st t' locs1 hst0 hvm hq hS1
  obtain ⟨⟨r, σ', ad', ca', hv, hpk, hP1, hD1, hKA1, hE1⟩, hF⟩ := hq
  cases hv
  have hok : fd_lv tA ad' lv = fd_lv tA ad lv ∧ t.map (fd_tr tA ad') = t.map (fd_tr tA ad) := by
    rcases hal with h0 | ⟨h1, h2⟩
    · rw [(hE1.2.2 h0).1]; exact ⟨rfl, rfl⟩
    · exact ⟨fd_lv_ext hE1.1 h1, fd_trV_ext hE1.1 h2⟩
  have := kk r σ' hpk ad' ca' t'.heap locs1 ls ⟨hP1, hD1.weaken (fun _ _ _ h => hsub _ h), hKA1.moved hvm.symm, ⟨fun i hi => (hE1.1 i (Nat.lt_of_lt_of_le hi hE.2.1)).trans (hE.1 i hi), Nat.le_trans hE.2.1 hE1.2.1, fun h0 => ?_⟩, hS1, by rw [hok.1]; exact hlv, hbud.1, hbud.2⟩
  · rw [List.map_append, hok.2] at this
    have e1 : (r.toList).map (fd_tr tA ad') = (r.map (fd_tr tA ad')).toList := by cases r <;> rfl
    rw [e1] at this
    exact this
  · have hz : fd_mc k = 0 := by omega
    obtain ⟨e1, e2, e3⟩ := hE1.2.2 hz
    obtain ⟨f1, f2, f3⟩ := hE.2.2 h0
    exact ⟨e1.trans f1, e2.trans f2, e3.trans f3⟩
/-- what the one that is called is given -/
theorem fd_w_pre (cx : fd_ctx p R s m args meth c mi D A tA dC dI scr) {lv : fd_L} {as : List fd_V} {σ : fd_S} {cc ss : Nat} {ad : Nat → Nat} {ca : Nat → ClassId} {H : Heap} {locs : List Loc} {ls : Array Slot}
    (hR : fd_Rp s mi A tA dC dI N0 ad0 ca0 lv σ cc ss ad ca H locs ls) : PreS s H (va_Pc (as.map (fd_tr tA ad)) (fd_Pre tA dC dI ad ca σ H.size)) (as.map (fd_tr tA ad)) := by
  obtain ⟨hx, hb, hml, hown, hts, hK, hst, hnst, hA, hroom, hfr, hscr, hnm⟩ := id cx
  obtain ⟨hP, hD, hKA, hE, hS, hlv, hcc, hss⟩ := hR
  have hsub : ∀ q, va_A (fd_ws ad ca σ) H.size q → A q := by
    intro q hq
    rcases hq with ⟨k', e', hk'⟩ | hq
    · exact hD.2 k' _ hk'
    · exact hA q (Nat.le_trans hS.1 hq)
  refine ⟨fd_blind _ tA dC dI ad ca σ _, fun U hU hW => ⟨rfl, by rw [hU], by rw [hU]; exact hP, va_K.moved hW.alike hK, hKA.moved hW.alike, hD.weaken (fun _ _ _ _ => trivial), ?_, hnst.warm hW⟩⟩
  rw [hU]
  exact ((hst.kept (fun a h1 h2 => hS.2.1 a h1 h2)).narrow hsub).moved hW.alike
theorem fd_rmle (cx : fd_ctx p R s m args meth c mi D A tA dC dI scr) {k : Nat} (hk : fd_mL k ≤ 20) : (fd_rm D k).frames + 1 ≤ R.frames ∧ 8 + (fd_mL k + 11) + (fd_rm D k).locals ≤ R.locals := by
  obtain ⟨hx, hb, hml, hown, hts, hK, hst, hnst, hA, hroom, hfr, hscr, hnm⟩ := id cx
  refine ⟨hfr.1, ?_⟩
  show 8 + (fd_mL k + 11) + 40 * D ≤ R.locals
  omega
theorem fd_gk {k : Nat} (h : k < 79) : ∀ w ∈ fd_wk k, w ∈ fd_tb := fun w hw => by
  rcases List.mem_cons.mp hw with rfl | hw
  · exact (fd_mok_use h).1
  · exact hw
/-- a call of a static method -/
theorem fd_w_S (cx : fd_ctx p R s m args meth c mi D A tA dC dI scr) (hC : ∀ k as σ pk, k < 79 → fd_cats as ≤ fd_mL k → C k as σ pk → fd_Met l D k as σ pk) {k pc i kd : Nat} {lv : fd_L} {as t : List fd_V} {σ : fd_S} {cc ss : Nat} {pk : Option fd_V → fd_S → Prop} (hkd : kd = 1 ∨ kd = 3) (hl : fd_mtl (fd_own mi) i k kd = true) (hd : decode (fd_b mi) pc = .ok (.invokestatic i, 3)) (hn : as.length = fd_np k) (ht : fd_cats t ≤ 8) (has : fd_cats as ≤ fd_mL k)
    (hbud : cc ≤ fd_mc mi → ss ≤ fd_mS mi → cc + fd_mc k ≤ fd_mc mi ∧ ss + fd_mS k ≤ fd_mS mi) (hal : fd_mc k = 0 ∨ (fd_okL σ.1 lv ∧ fd_okV σ.1 t)) (h : C k as σ pk)
    (kk : ∀ r σ', pk r σ' → fd_Wp p l e R s m args below meth c Q mi A tA dC dI N0 ad0 ca0 (pc + 3) lv (r.toList ++ t) σ' (cc + fd_mc k) (ss + fd_mS k)) : fd_Wp p l e R s m args below meth c Q mi A tA dC dI N0 ad0 ca0 pc lv (as.reverse ++ t) σ cc ss := by
  intro ad ca H locs ls hR
  obtain ⟨hx, hb, hml, hown, hts, hK, hst, hnst, hA, hroom, hfr, hscr, hnm⟩ := id cx
  obtain ⟨hk, hw⟩ := fd_mt_use hl
  obtain ⟨hy1, hy2, hy3, hy4, hy5, hy6, hy7, hy8, hy9, hy10⟩ := fd_mok_use hk
  have hb2 := hbud hR.2.2.2.2.2.2.1 hR.2.2.2.2.2.2.2
  have hM := hC k as σ pk hk has h dC dI tA ad ca H.size
  have hf : cc + fd_mc k ≤ R.cells ∧ ss + fd_mS k ≤ R.slots := ⟨Nat.le_trans hb2.1 hroom.1, Nat.le_trans hb2.2 hroom.2⟩
  have hrm : 2 * (F0 m pc ls ((as.reverse ++ t).map (fd_tr tA ad))).monitorRoom + ((t.map (fd_tr tA ad)).map fun v => v.category).sum ≤ 8 := lv_room (by rw [fd_cats_tr]; exact ht)
  have hstk : (F0 m pc ls ((as.reverse ++ t).map (fd_tr tA ad))).stack = (as.map (fd_tr tA ad)).reverse ++ t.map (fd_tr tA ad) := by
    show (as.reverse ++ t).map (fd_tr tA ad) = _
    rw [List.map_append, List.map_reverse]
  refine fd_w_after (av := (as.map (fd_tr tA ad)).toArray) cx hR hb2 hal ?_ kk
  rcases hkd with rfl | rfl
  · exact va_runS ⟨hx, hb, hml, hown, hts⟩ hM (va_cwS (fd_np k) hts (fd_good (by
      intro w hw'
      simp only [va_wsS, List.mem_append, List.mem_cons, List.not_mem_nil, or_false] at hw'
      rcases hw' with (rfl | rfl | rfl) | hw'
      · exact hw.1
      · exact hw.2
      · exact hy2
      · exact fd_gk hk w hw')) rfl rfl rfl ⟨hy5, hy6, hy7⟩ (fd_rmle cx hy10)) (fd_w_pre cx hR) rfl (by rw [List.length_map]; exact hn) hR.2.2.2.2.2.1.1 hstk hrm hd hf
  · obtain ⟨e1, e2, e3⟩ := fd_nest3 hl
    have hnl : va_Nw (.methodLinkNest (fd_R (fd_own mi)) i (fd_y k) RX3) s := by rw [e1, e2, e3]; exact hnst.1
    exact va_runSN ⟨hx, hb, hml, hown, hts⟩ hM ⟨va_cnB (fd_np k) hts (fd_good (fd_gk hk)) rfl rfl rfl hnl (hts _ hy2) ⟨hy5, hy6, hy7⟩ (fd_rmle cx hy10), hts _ hw.2, trivial⟩ (fd_w_pre cx hR) rfl (by rw [List.length_map]; exact hn) hR.2.2.2.2.2.1.1 hstk hrm hd hf
/-- a call of a constructor -/
theorem fd_w_I (cx : fd_ctx p R s m args meth c mi D A tA dC dI scr) (hC : ∀ k as σ pk, k < 79 → fd_cats as ≤ fd_mL k → C k as σ pk → fd_Met l D k as σ pk) {k pc i kd a : Nat} {lv : fd_L} {as t : List fd_V} {σ : fd_S} {cc ss : Nat} {pk : Option fd_V → fd_S → Prop} (hkd : kd = 2 ∨ kd = 4) (hl : fd_mtl (fd_own mi) i k kd = true) (hd : decode (fd_b mi) pc = .ok (.invokespecial i, 3)) (hn : as.length = fd_np k) (ht : fd_cats t ≤ 8) (has : fd_cats (.inr (.inr (.inl (some a))) :: as) ≤ fd_mL k)
    (hbud : cc ≤ fd_mc mi → ss ≤ fd_mS mi → cc + fd_mc k ≤ fd_mc mi ∧ ss + fd_mS k ≤ fd_mS mi) (hal : fd_mc k = 0 ∨ (fd_okL σ.1 lv ∧ fd_okV σ.1 t)) (h : C k (.inr (.inr (.inl (some a))) :: as) σ pk)
    (kk : ∀ r σ', pk r σ' → fd_Wp p l e R s m args below meth c Q mi A tA dC dI N0 ad0 ca0 (pc + 3) lv (r.toList ++ t) σ' (cc + fd_mc k) (ss + fd_mS k)) : fd_Wp p l e R s m args below meth c Q mi A tA dC dI N0 ad0 ca0 pc lv (as.reverse ++ .inr (.inr (.inl (some a))) :: t) σ cc ss := by
  intro ad ca H locs ls hR
  obtain ⟨hx, hb, hml, hown, hts, hK, hst, hnst, hA, hroom, hfr, hscr, hnm⟩ := id cx
  obtain ⟨hk, hw⟩ := fd_mt_use hl
  obtain ⟨hy1, hy2, hy3, hy4, hy5, hy6, hy7, hy8, hy9, hy10⟩ := fd_mok_use hk
  have hb2 := hbud hR.2.2.2.2.2.2.1 hR.2.2.2.2.2.2.2
  have hM := hC k (.inr (.inr (.inl (some a))) :: as) σ pk hk has h dC dI tA ad ca H.size
  have hf : cc + fd_mc k ≤ R.cells ∧ ss + fd_mS k ≤ R.slots := ⟨Nat.le_trans hb2.1 hroom.1, Nat.le_trans hb2.2 hroom.2⟩
  have hrm : 2 * (F0 m pc ls ((as.reverse ++ .inr (.inr (.inl (some a))) :: t).map (fd_tr tA ad))).monitorRoom + ((t.map (fd_tr tA ad)).map fun v => v.category).sum ≤ 8 := lv_room (by rw [fd_cats_tr]; exact ht)
  have hstk : (F0 m pc ls ((as.reverse ++ .inr (.inr (.inl (some a))) :: t).map (fd_tr tA ad))).stack = (as.map (fd_tr tA ad)).reverse ++ .ref (ad a) :: t.map (fd_tr tA ad) := by
    show (as.reverse ++ .inr (.inr (.inl (some a))) :: t).map (fd_tr tA ad) = _
    rw [List.map_append, List.map_reverse]; rfl
  refine fd_w_after (av := (Value.ref (ad a) :: as.map (fd_tr tA ad)).toArray) cx hR hb2 hal ?_ kk
  rcases hkd with rfl | rfl
  · obtain ⟨w1, w2, w3, w4⟩ : _ ∧ _ ∧ _ ∧ _ := hw
    have hcw := cwI (R := R) (s := s) (args := args) (own := fd_R (fd_own mi)) (index := i) (y := fd_y k) (bytes := fd_b k) (maxL := fd_mL k) (ws := fd_wk k) (ws' := fd_tb) (rm := fd_rm D k) (mc := fd_mc k) (ms := fd_mS k) (fd_np k) hts (fd_good (fd_gk hk)) (by unfold fd_wk; rw [w4]) rfl rfl (hts _ hy2) (hts _ w1) (hts _ w2) w3 ⟨hy5, hy6, hy7⟩ (fd_rmle cx hy10)
    exact va_runI ⟨hx, hb, hml, hown, hts⟩ hM hcw (fd_w_pre (as := .inr (.inr (.inl (some a))) :: as) cx hR) rfl (by rw [List.length_map]; exact hn) hR.2.2.2.2.2.1.1 hstk hrm hd hf
  · obtain ⟨hj, w2, w3, w4⟩ : _ ∧ _ ∧ _ ∧ _ := hw
    obtain ⟨e1, e2, e3⟩ := fd_nest4 hl
    have hnl : va_Nw (.methodLinkNest (fd_R (fd_own mi)) i (fd_y k) RX3) s := by rw [e1, e2, e3]; exact hnst.2.1
    have hcw := va_cnB (R := R) (s := s) (args := args) (own := fd_R (fd_own mi)) (host := RX3) (index := i) (y := fd_y k) (bytes := fd_b k) (maxL := fd_mL k) (ret := none) (ws := fd_wk k) (ws' := fd_tb) (rm := fd_rm D k) (mc := fd_mc k) (ms := fd_mS k) (fd_np k) hts (fd_good (fd_gk hk)) (by unfold fd_wk; rw [w4]) rfl rfl hnl (hts _ hy2) ⟨hy5, hy6, hy7⟩ (fd_rmle cx hy10)
    exact va_runIN ⟨hx, hb, hml, hown, hts⟩ hM ⟨hcw, w3, hts _ w2⟩ (fd_w_pre (as := .inr (.inr (.inl (some a))) :: as) cx hR) rfl (by rw [List.length_map]; exact hn) hR.2.2.2.2.2.1.1 hstk hrm hd hf
/-- a call of a method of an object -/
theorem fd_w_V (cx : fd_ctx p R s m args meth c mi D A tA dC dI scr) (hC : ∀ k as σ pk, k < 79 → fd_cats as ≤ fd_mL k → C k as σ pk → fd_Met l D k as σ pk) {k pc i a : Nat} {lv : fd_L} {as t : List fd_V} {σ : fd_S} {cc ss : Nat} {pk : Option fd_V → fd_S → Prop} (hl : fd_mtl (fd_own mi) i k 0 = true) (hd : decode (fd_b mi) pc = .ok (.invokevirtual i, 3)) (hn : as.length = fd_np k) (ht : fd_cats t ≤ 8) (has : fd_cats (.inr (.inr (.inl (some a))) :: as) ≤ fd_mL k) (ha : a < σ.1) (hs : fd_sh a = .inl (fd_own k))
    (hbud : cc ≤ fd_mc mi → ss ≤ fd_mS mi → cc + fd_mc k ≤ fd_mc mi ∧ ss + fd_mS k ≤ fd_mS mi) (hal : fd_mc k = 0 ∨ (fd_okL σ.1 lv ∧ fd_okV σ.1 t)) (h : C k (.inr (.inr (.inl (some a))) :: as) σ pk)
    (kk : ∀ r σ', pk r σ' → fd_Wp p l e R s m args below meth c Q mi A tA dC dI N0 ad0 ca0 (pc + 3) lv (r.toList ++ t) σ' (cc + fd_mc k) (ss + fd_mS k)) : fd_Wp p l e R s m args below meth c Q mi A tA dC dI N0 ad0 ca0 pc lv (as.reverse ++ .inr (.inr (.inl (some a))) :: t) σ cc ss := by
  intro ad ca H locs ls hR
  obtain ⟨hx, hb, hml, hown, hts, hK, hst, hnst, hA, hroom, hfr, hscr, hnm⟩ := id cx
  obtain ⟨hk, hw⟩ := fd_mt_use hl
  obtain ⟨w1, w2, w3⟩ : _ ∧ _ ∧ _ := hw
  obtain ⟨hy1, hy2, hy3, hy4, hy5, hy6, hy7, hy8, hy9, hy10⟩ := fd_mok_use hk
  have hb2 := hbud hR.2.2.2.2.2.2.1 hR.2.2.2.2.2.2.2
  have hM := hC k (.inr (.inr (.inl (some a))) :: as) σ pk hk has h dC dI tA ad ca H.size
  have hf : cc + fd_mc k ≤ R.cells ∧ ss + fd_mS k ≤ R.slots := ⟨Nat.le_trans hb2.1 hroom.1, Nat.le_trans hb2.2 hroom.2⟩
  have hrm : 2 * (F0 m pc ls ((as.reverse ++ .inr (.inr (.inl (some a))) :: t).map (fd_tr tA ad))).monitorRoom + ((t.map (fd_tr tA ad)).map fun v => v.category).sum ≤ 8 := lv_room (by rw [fd_cats_tr]; exact ht)
  have hstk : (F0 m pc ls ((as.reverse ++ .inr (.inr (.inl (some a))) :: t).map (fd_tr tA ad))).stack = (as.map (fd_tr tA ad)).reverse ++ .ref (ad a) :: t.map (fd_tr tA ad) := by
    show (as.reverse ++ .inr (.inr (.inl (some a))) :: t).map (fd_tr tA ad) = _
    rw [List.map_append, List.map_reverse]; rfl
  have hrec : ∃ cellB : Cell, H[ad a]? = some cellB ∧ cellB.vm.isStatics = false ∧ s.vm.findClass (fd_y k).cls = some cellB.cls := by
    rw [hy3]
    exact va_recv hK hR.1 (fd_vwCl hy9) (q0 := a) (fs := fd_fs ad σ (fd_own k) a) (by rw [fd_ws_get ha, fd_cell_obj hs])
  have hpre := fd_w_pre (as := .inr (.inr (.inl (some a))) :: as) cx hR
  refine fd_w_after (av := (Value.ref (ad a) :: as.map (fd_tr tA ad)).toArray) cx hR hb2 hal ?_ kk
  exact va_runV ⟨hx, hb, hml, hown, hts⟩ hM (cwV (C := (fd_y k).cls) (fd_np k) hts (fd_good (by
      intro w hw'
      simp only [wsV, List.mem_append, List.mem_cons, List.not_mem_nil, or_false] at hw'
      rcases hw' with (rfl | rfl | rfl | rfl) | hw'
      · exact w1
      · exact w2
      · exact w3
      · exact hy2
      · exact fd_gk hk w hw')) rfl rfl rfl ⟨rfl, hy5, hy6, hy7⟩ (fd_rmle cx hy10)) ⟨hpre.1, hrec, hpre.2⟩ rfl (by rw [List.length_map]; exact hn) hR.2.2.2.2.2.1.1 hstk hrm hd hf
end
