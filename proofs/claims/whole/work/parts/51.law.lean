theorem lg_cmp_self (v : Int64) : lg_cmp v v = 0 := by
  unfold lg_cmp
  rw [if_neg (fun h => absurd h (by simp)), if_pos rfl]
/-! THE LAW'S OWN RUN -/
set_option maxHeartbeats 4000000 in
set_option maxRecDepth 100000 in
theorem law_loop (L : Nat) (xs : Nat → Int32) (hL : L ≤ 2048) (X : fd_X) (hX : ∀ suf lv st σ cc ss, fd_step (fd_Sem 100) (some (L, xs)) 79 (fun r _ => r = some (.inl 1)) X suf lv st σ cc ss → X suf lv st σ cc ss) (hV : fd_subX X) : ∀ f i σ n cc ss, L ≤ i + f → i ≤ 4000 → cc + f ≤ 600000 → ss + 14 * f ≤ 7302250 → Cp σ n → X ((fd_code 79).drop 10) [(3, .inl (nI i)), (2, rf 9), (1, rf 0), (0, .inr (.inr (.inr 2)))] [] σ cc ss := by
  intro f
  induction f with
  | zero =>
    intro i σ n cc ss h1 h2 h3 h4 hC
    iterate 3 refine hX _ _ _ _ _ _ ?_
    refine Or.inr (And.intro rfl (Exists.intro _ (Exists.intro _ (And.intro rfl ?_))))
    iterate 3 refine hX _ _ _ _ _ _ ?_
    refine And.intro (fun _ => ?_) (fun hc => ?_)
    · iterate 2 refine hX _ _ _ _ _ _ ?_
      exact And.intro (Or.inr rfl) rfl
    · refine absurd (?_ : nI L - nI 4 < nI i) hc
      rw [Int32.lt_iff_toInt_lt, pk_sub_toInt (by omega) (by omega), nI_toInt (by omega)]
      omega
  | succ f ih =>
    intro i σ n cc ss h1 h2 h3 h4 hC
    have h20 := hC.h20
    have hN := hC.1.N
    iterate 3 refine hX _ _ _ _ _ _ ?_
    refine Or.inr (And.intro rfl (Exists.intro _ (Exists.intro _ (And.intro rfl ?_))))
    iterate 3 refine hX _ _ _ _ _ _ ?_
    refine And.intro (fun _ => ?_) (fun hc => ?_)
    · iterate 2 refine hX _ _ _ _ _ _ ?_
      exact And.intro (Or.inr rfl) rfl
    · have hi : i + 4 ≤ L := by
        have hc : ¬ nI L - nI 4 < nI i := hc
        rw [Int32.lt_iff_toInt_lt, pk_sub_toInt (by omega) (by omega), nI_toInt (by omega)] at hc
        omega
      have v0 : vp_in (nI i) L := vp_in_nI (by omega) (by omega)
      have v1 : vp_in (nI i + 1) L := by show vp_in (nI i + nI 1) L; rw [nI_add]; exact vp_in_nI (by omega) (by omega)
      have v2 : vp_in (nI i + 2) L := by show vp_in (nI i + nI 2) L; rw [nI_add]; exact vp_in_nI (by omega) (by omega)
      have v3 : vp_in (nI i + 3) L := by show vp_in (nI i + nI 3) L; rw [nI_add]; exact vp_in_nI (by omega) (by omega)
      have nxt : ∀ τ n' cc' ss', Cp τ n' → cc' + f ≤ 600000 → ss' + 14 * f ≤ 7302250 → X ((fd_code 79).drop 314) [(3, .inl (nI i)), (2, rf 9), (1, rf 0), (0, .inr (.inr (.inr 2)))] [] τ cc' ss' := by
        intro τ n' cc' ss' hC' g1 g2
        iterate 2 refine hX _ _ _ _ _ _ ?_
        refine hV _ _ [(3, .inl (nI (i + 4))), (2, rf 9), (1, rf 0), (0, .inr (.inr (.inr 2)))] _ _ _ _ (And.intro (congrArg (fun x => some (Sum.inl x)) (nI_add i 4)) (And.intro rfl (And.intro rfl (And.intro rfl trivial)))) (ih (i + 4) τ n' cc' ss' (by omega) (by omega) g1 g2 hC')
      iterate 3 refine hX _ _ _ _ _ _ ?_
      refine Or.inr (And.intro rfl (Exists.intro _ (Exists.intro _ (And.intro rfl (And.intro v0 ?_)))))
      iterate 2 refine hX _ _ _ _ _ _ ?_
      generalize xs (nI i).toNatClampNeg = x
      obtain ⟨j, hj, ej⟩ := pk_andE x (m := 15) 4 (by decide)
      have ej : (fun x y : Int32 => x &&& y) x 15 = nI j := ej
      have hj : j < 16 := hj
      refine hX _ _ _ _ _ _ ?_
      rw [ej]
      match j, hj with
      | 0, _ =>
        refine Or.inl (Exists.intro 0 (Exists.intro 22 (And.intro rfl (And.intro (nI_toInt (by decide)) ?_))))
        refine hX _ _ _ _ _ _ ?_
        iterate 5 refine hX _ _ _ _ _ _ ?_
        refine Or.inr (And.intro rfl (Exists.intro _ (Exists.intro _ (And.intro rfl (And.intro v1 ?_)))))
        iterate 5 refine hX _ _ _ _ _ _ ?_
        refine Or.inr (And.intro rfl (Exists.intro _ (Exists.intro _ (And.intro rfl (And.intro v2 ?_)))))
        iterate 5 refine hX _ _ _ _ _ _ ?_
        refine Or.inr (And.intro rfl (Exists.intro _ (Exists.intro _ (And.intro rfl (And.intro v3 ?_)))))
        refine hX _ _ _ _ _ _ ?_
        refine Exists.intro 0 (And.intro rfl (And.intro (by omega) (And.intro rfl ?_)))
        refine And.intro ⟨by show cc + 1 ≤ 600000; omega, by show ss + 14 ≤ 7302250; omega, okL_c trivial (okL_c (ok_r (by omega)) (okL_c (ok_r (by omega)) (okL_c trivial okL_n))), okV_n, hC.1.1.2.2.2.2⟩ ?_
        refine p_vehicle _ _ _ σ n hC _ (fun v τ h20 hm => ?_)
        refine hX _ _ _ _ _ _ ?_
        iterate 5 refine hX _ _ _ _ _ _ ?_
        refine Or.inr (And.intro rfl (Exists.intro _ (Exists.intro _ (And.intro rfl (And.intro v1 ?_)))))
        iterate 5 refine hX _ _ _ _ _ _ ?_
        refine Or.inr (And.intro rfl (Exists.intro _ (Exists.intro _ (And.intro rfl (And.intro v2 ?_)))))
        iterate 5 refine hX _ _ _ _ _ _ ?_
        refine Or.inr (And.intro rfl (Exists.intro _ (Exists.intro _ (And.intro rfl (And.intro v3 ?_)))))
        refine hX _ _ _ _ _ _ ?_
        refine Exists.intro 9 (And.intro rfl (And.intro (by omega) (And.intro rfl ?_)))
        refine hm _ (fun τ' n' hC' => ?_)
        refine hX _ _ _ _ _ _ ?_
        exact And.intro (fun _ => nxt τ' n' (cc + 1) (ss + 14) hC' (by omega) (by omega)) (fun hc => absurd rfl hc)
      | 1, _ =>
        refine Or.inl (Exists.intro 1 (Exists.intro 59 (And.intro rfl (And.intro (nI_toInt (by decide)) ?_))))
        refine hX _ _ _ _ _ _ ?_
        iterate 5 refine hX _ _ _ _ _ _ ?_
        refine Or.inr (And.intro rfl (Exists.intro _ (Exists.intro _ (And.intro rfl (And.intro v1 ?_)))))
        iterate 5 refine hX _ _ _ _ _ _ ?_
        refine Or.inr (And.intro rfl (Exists.intro _ (Exists.intro _ (And.intro rfl (And.intro v2 ?_)))))
        iterate 5 refine hX _ _ _ _ _ _ ?_
        refine Or.inr (And.intro rfl (Exists.intro _ (Exists.intro _ (And.intro rfl (And.intro v3 ?_)))))
        refine hX _ _ _ _ _ _ ?_
        refine Exists.intro 0 (And.intro rfl (And.intro (by omega) (And.intro rfl ?_)))
        refine p_ask _ _ _ σ n hC _ (fun v τ h20 hm => ?_)
        refine hX _ _ _ _ _ _ ?_
        iterate 5 refine hX _ _ _ _ _ _ ?_
        refine Or.inr (And.intro rfl (Exists.intro _ (Exists.intro _ (And.intro rfl (And.intro v1 ?_)))))
        iterate 5 refine hX _ _ _ _ _ _ ?_
        refine Or.inr (And.intro rfl (Exists.intro _ (Exists.intro _ (And.intro rfl (And.intro v2 ?_)))))
        iterate 5 refine hX _ _ _ _ _ _ ?_
        refine Or.inr (And.intro rfl (Exists.intro _ (Exists.intro _ (And.intro rfl (And.intro v3 ?_)))))
        refine hX _ _ _ _ _ _ ?_
        refine Exists.intro 9 (And.intro rfl (And.intro (by omega) (And.intro rfl ?_)))
        refine hm _ (fun τ' n' hC' => ?_)
        refine hX _ _ _ _ _ _ ?_
        exact And.intro (fun _ => nxt τ' n' cc ss hC' (by omega) (by omega)) (fun hc => absurd rfl hc)
      | 2, _ =>
        refine Or.inl (Exists.intro 2 (Exists.intro 96 (And.intro rfl (And.intro (nI_toInt (by decide)) ?_))))
        refine hX _ _ _ _ _ _ ?_
        iterate 5 refine hX _ _ _ _ _ _ ?_
        refine Or.inr (And.intro rfl (Exists.intro _ (Exists.intro _ (And.intro rfl (And.intro v1 ?_)))))
        refine hX _ _ _ _ _ _ ?_
        refine Exists.intro 0 (And.intro rfl (And.intro (by omega) (And.intro rfl ?_)))
        refine p_trace _ σ n hC _ (fun v τ h20 hm => ?_)
        refine hX _ _ _ _ _ _ ?_
        iterate 5 refine hX _ _ _ _ _ _ ?_
        refine Or.inr (And.intro rfl (Exists.intro _ (Exists.intro _ (And.intro rfl (And.intro v1 ?_)))))
        refine hX _ _ _ _ _ _ ?_
        refine Exists.intro 9 (And.intro rfl (And.intro (by omega) (And.intro rfl ?_)))
        refine hm _ (fun τ' n' hC' => ?_)
        refine hX _ _ _ _ _ _ ?_
        exact And.intro (fun _ => nxt τ' n' cc ss hC' (by omega) (by omega)) (fun hc => absurd rfl hc)
      | 3, _ =>
        refine Or.inl (Exists.intro 3 (Exists.intro 113 (And.intro rfl (And.intro (nI_toInt (by decide)) ?_))))
        refine hX _ _ _ _ _ _ ?_
        iterate 5 refine hX _ _ _ _ _ _ ?_
        refine Or.inr (And.intro rfl (Exists.intro _ (Exists.intro _ (And.intro rfl (And.intro v1 ?_)))))
        iterate 5 refine hX _ _ _ _ _ _ ?_
        refine Or.inr (And.intro rfl (Exists.intro _ (Exists.intro _ (And.intro rfl (And.intro v2 ?_)))))
        iterate 5 refine hX _ _ _ _ _ _ ?_
        refine Or.inr (And.intro rfl (Exists.intro _ (Exists.intro _ (And.intro rfl (And.intro v3 ?_)))))
        refine hX _ _ _ _ _ _ ?_
        refine Exists.intro 0 (And.intro rfl (And.intro (by omega) (And.intro rfl ?_)))
        refine p_lane _ _ _ σ n hC _ (fun v τ h20 hm => ?_)
        refine hX _ _ _ _ _ _ ?_
        iterate 5 refine hX _ _ _ _ _ _ ?_
        refine Or.inr (And.intro rfl (Exists.intro _ (Exists.intro _ (And.intro rfl (And.intro v1 ?_)))))
        iterate 5 refine hX _ _ _ _ _ _ ?_
        refine Or.inr (And.intro rfl (Exists.intro _ (Exists.intro _ (And.intro rfl (And.intro v2 ?_)))))
        iterate 5 refine hX _ _ _ _ _ _ ?_
        refine Or.inr (And.intro rfl (Exists.intro _ (Exists.intro _ (And.intro rfl (And.intro v3 ?_)))))
        refine hX _ _ _ _ _ _ ?_
        refine Exists.intro 9 (And.intro rfl (And.intro (by omega) (And.intro rfl ?_)))
        refine hm _ (fun τ' n' hC' => ?_)
        refine hX _ _ _ _ _ _ ?_
        exact And.intro (fun _ => nxt τ' n' cc ss hC' (by omega) (by omega)) (fun hc => absurd rfl hc)
      | 4, _ =>
        refine Or.inl (Exists.intro 4 (Exists.intro 150 (And.intro rfl (And.intro (nI_toInt (by decide)) ?_))))
        refine hX _ _ _ _ _ _ ?_
        iterate 5 refine hX _ _ _ _ _ _ ?_
        refine Or.inr (And.intro rfl (Exists.intro _ (Exists.intro _ (And.intro rfl (And.intro v1 ?_)))))
        refine hX _ _ _ _ _ _ ?_
        refine Exists.intro 0 (And.intro rfl (And.intro (by omega) (And.intro rfl ?_)))
        refine p_season _ σ n hC _ (fun v τ h20 hm => ?_)
        refine hX _ _ _ _ _ _ ?_
        iterate 5 refine hX _ _ _ _ _ _ ?_
        refine Or.inr (And.intro rfl (Exists.intro _ (Exists.intro _ (And.intro rfl (And.intro v1 ?_)))))
        refine hX _ _ _ _ _ _ ?_
        refine Exists.intro 9 (And.intro rfl (And.intro (by omega) (And.intro rfl ?_)))
        refine hm _ (fun τ' n' hC' => ?_)
        refine hX _ _ _ _ _ _ ?_
        exact And.intro (fun _ => nxt τ' n' cc ss hC' (by omega) (by omega)) (fun hc => absurd rfl hc)
      | 5, _ =>
        refine Or.inl (Exists.intro 5 (Exists.intro 167 (And.intro rfl (And.intro (nI_toInt (by decide)) ?_))))
        refine hX _ _ _ _ _ _ ?_
        iterate 5 refine hX _ _ _ _ _ _ ?_
        refine Or.inr (And.intro rfl (Exists.intro _ (Exists.intro _ (And.intro rfl (And.intro v1 ?_)))))
        iterate 5 refine hX _ _ _ _ _ _ ?_
        refine Or.inr (And.intro rfl (Exists.intro _ (Exists.intro _ (And.intro rfl (And.intro v2 ?_)))))
        refine hX _ _ _ _ _ _ ?_
        refine Exists.intro 0 (And.intro rfl (And.intro (by omega) (And.intro rfl ?_)))
        refine p_board _ _ σ n hC _ (fun v τ h20 hm => ?_)
        refine hX _ _ _ _ _ _ ?_
        iterate 5 refine hX _ _ _ _ _ _ ?_
        refine Or.inr (And.intro rfl (Exists.intro _ (Exists.intro _ (And.intro rfl (And.intro v1 ?_)))))
        iterate 5 refine hX _ _ _ _ _ _ ?_
        refine Or.inr (And.intro rfl (Exists.intro _ (Exists.intro _ (And.intro rfl (And.intro v2 ?_)))))
        refine hX _ _ _ _ _ _ ?_
        refine Exists.intro 9 (And.intro rfl (And.intro (by omega) (And.intro rfl ?_)))
        refine hm _ (fun τ' n' hC' => ?_)
        refine hX _ _ _ _ _ _ ?_
        exact And.intro (fun _ => nxt τ' n' cc ss hC' (by omega) (by omega)) (fun hc => absurd rfl hc)
      | 6, _ =>
        refine Or.inl (Exists.intro 6 (Exists.intro 194 (And.intro rfl (And.intro (nI_toInt (by decide)) ?_))))
        refine hX _ _ _ _ _ _ ?_
        iterate 5 refine hX _ _ _ _ _ _ ?_
        refine Or.inr (And.intro rfl (Exists.intro _ (Exists.intro _ (And.intro rfl (And.intro v1 ?_)))))
        refine hX _ _ _ _ _ _ ?_
        refine Exists.intro 0 (And.intro rfl (And.intro (by omega) (And.intro rfl ?_)))
        refine p_off _ σ n hC _ (fun v τ h20 hm => ?_)
        refine hX _ _ _ _ _ _ ?_
        iterate 5 refine hX _ _ _ _ _ _ ?_
        refine Or.inr (And.intro rfl (Exists.intro _ (Exists.intro _ (And.intro rfl (And.intro v1 ?_)))))
        refine hX _ _ _ _ _ _ ?_
        refine Exists.intro 9 (And.intro rfl (And.intro (by omega) (And.intro rfl ?_)))
        refine hm _ (fun τ' n' hC' => ?_)
        refine hX _ _ _ _ _ _ ?_
        exact And.intro (fun _ => nxt τ' n' cc ss hC' (by omega) (by omega)) (fun hc => absurd rfl hc)
      | 7, _ =>
        refine Or.inl (Exists.intro 7 (Exists.intro 211 (And.intro rfl (And.intro (nI_toInt (by decide)) ?_))))
        refine hX _ _ _ _ _ _ ?_
        refine hX _ _ _ _ _ _ ?_
        refine Exists.intro 0 (And.intro rfl (And.intro (by omega) (And.intro rfl ?_)))
        refine p_sail σ n hC _ (fun v τ h20 hm => ?_)
        refine hX _ _ _ _ _ _ ?_
        refine hX _ _ _ _ _ _ ?_
        refine Exists.intro 9 (And.intro rfl (And.intro (by omega) (And.intro rfl ?_)))
        refine hm _ (fun τ' n' hC' => ?_)
        refine hX _ _ _ _ _ _ ?_
        exact And.intro (fun _ => nxt τ' n' cc ss hC' (by omega) (by omega)) (fun hc => absurd rfl hc)
      | 8, _ =>
        refine Or.inl (Exists.intro 8 (Exists.intro 218 (And.intro rfl (And.intro (nI_toInt (by decide)) ?_))))
        refine hX _ _ _ _ _ _ ?_
        iterate 5 refine hX _ _ _ _ _ _ ?_
        refine Or.inr (And.intro rfl (Exists.intro _ (Exists.intro _ (And.intro rfl (And.intro v1 ?_)))))
        refine hX _ _ _ _ _ _ ?_
        refine Exists.intro 0 (And.intro rfl (And.intro (by omega) (And.intro rfl ?_)))
        refine p_back _ σ n hC _ (fun v τ h20 hm => ?_)
        refine hX _ _ _ _ _ _ ?_
        iterate 5 refine hX _ _ _ _ _ _ ?_
        refine Or.inr (And.intro rfl (Exists.intro _ (Exists.intro _ (And.intro rfl (And.intro v1 ?_)))))
        refine hX _ _ _ _ _ _ ?_
        refine Exists.intro 9 (And.intro rfl (And.intro (by omega) (And.intro rfl ?_)))
        refine hm _ (fun τ' n' hC' => ?_)
        refine hX _ _ _ _ _ _ ?_
        exact And.intro (fun _ => nxt τ' n' cc ss hC' (by omega) (by omega)) (fun hc => absurd rfl hc)
      | 9, _ =>
        refine Or.inl (Exists.intro 9 (Exists.intro 235 (And.intro rfl (And.intro (nI_toInt (by decide)) ?_))))
        refine hX _ _ _ _ _ _ ?_
        iterate 5 refine hX _ _ _ _ _ _ ?_
        refine Or.inr (And.intro rfl (Exists.intro _ (Exists.intro _ (And.intro rfl (And.intro v1 ?_)))))
        iterate 5 refine hX _ _ _ _ _ _ ?_
        refine Or.inr (And.intro rfl (Exists.intro _ (Exists.intro _ (And.intro rfl (And.intro v2 ?_)))))
        refine hX _ _ _ _ _ _ ?_
        refine Exists.intro 0 (And.intro rfl (And.intro (by omega) (And.intro rfl ?_)))
        refine p_told _ _ σ n hC _ (fun v τ h20 hm => ?_)
        refine hX _ _ _ _ _ _ ?_
        iterate 5 refine hX _ _ _ _ _ _ ?_
        refine Or.inr (And.intro rfl (Exists.intro _ (Exists.intro _ (And.intro rfl (And.intro v1 ?_)))))
        iterate 5 refine hX _ _ _ _ _ _ ?_
        refine Or.inr (And.intro rfl (Exists.intro _ (Exists.intro _ (And.intro rfl (And.intro v2 ?_)))))
        refine hX _ _ _ _ _ _ ?_
        refine Exists.intro 9 (And.intro rfl (And.intro (by omega) (And.intro rfl ?_)))
        refine hm _ (fun τ' n' hC' => ?_)
        refine hX _ _ _ _ _ _ ?_
        exact And.intro (fun _ => nxt τ' n' cc ss hC' (by omega) (by omega)) (fun hc => absurd rfl hc)
      | 10, _ =>
        refine Or.inl (Exists.intro 10 (Exists.intro 262 (And.intro rfl (And.intro (nI_toInt (by decide)) ?_))))
        refine hX _ _ _ _ _ _ ?_
        iterate 5 refine hX _ _ _ _ _ _ ?_
        refine Or.inr (And.intro rfl (Exists.intro _ (Exists.intro _ (And.intro rfl (And.intro v1 ?_)))))
        iterate 5 refine hX _ _ _ _ _ _ ?_
        refine Or.inr (And.intro rfl (Exists.intro _ (Exists.intro _ (And.intro rfl (And.intro v2 ?_)))))
        refine hX _ _ _ _ _ _ ?_
        refine Exists.intro 0 (And.intro rfl (And.intro (by omega) (And.intro rfl ?_)))
        refine p_deck _ _ σ n hC _ (fun v τ h20 hm => ?_)
        refine hX _ _ _ _ _ _ ?_
        iterate 5 refine hX _ _ _ _ _ _ ?_
        refine Or.inr (And.intro rfl (Exists.intro _ (Exists.intro _ (And.intro rfl (And.intro v1 ?_)))))
        iterate 5 refine hX _ _ _ _ _ _ ?_
        refine Or.inr (And.intro rfl (Exists.intro _ (Exists.intro _ (And.intro rfl (And.intro v2 ?_)))))
        refine hX _ _ _ _ _ _ ?_
        refine Exists.intro 9 (And.intro rfl (And.intro (by omega) (And.intro rfl ?_)))
        refine hm _ (fun τ' n' hC' => ?_)
        refine hX _ _ _ _ _ _ ?_
        exact And.intro (fun _ => nxt τ' n' cc ss hC' (by omega) (by omega)) (fun hc => absurd rfl hc)
      | 11, _ =>
        refine Or.inl (Exists.intro 11 (Exists.intro 289 (And.intro rfl (And.intro (nI_toInt (by decide)) ?_))))
        refine hX _ _ _ _ _ _ ?_
        iterate 5 refine hX _ _ _ _ _ _ ?_
        refine Or.inr (And.intro rfl (Exists.intro _ (Exists.intro _ (And.intro rfl (And.intro v1 ?_)))))
        refine hX _ _ _ _ _ _ ?_
        refine Exists.intro 0 (And.intro rfl (And.intro (by omega) (And.intro rfl ?_)))
        refine p_count _ σ n hC _ (fun v τ h20 hm => ?_)
        refine hX _ _ _ _ _ _ ?_
        iterate 5 refine hX _ _ _ _ _ _ ?_
        refine Or.inr (And.intro rfl (Exists.intro _ (Exists.intro _ (And.intro rfl (And.intro v1 ?_)))))
        refine hX _ _ _ _ _ _ ?_
        refine Exists.intro 9 (And.intro rfl (And.intro (by omega) (And.intro rfl ?_)))
        refine hm _ (fun τ' n' hC' => ?_)
        refine hX _ _ _ _ _ _ ?_
        exact And.intro (fun _ => nxt τ' n' cc ss hC' (by omega) (by omega)) (fun hc => absurd rfl hc)
      | 12, _ =>
        refine Or.inl (Exists.intro 12 (Exists.intro 306 (And.intro rfl (And.intro (nI_toInt (by decide)) ?_))))
        refine hX _ _ _ _ _ _ ?_
        refine hX _ _ _ _ _ _ ?_
        refine Exists.intro 0 (And.intro rfl (And.intro (by omega) (And.intro rfl ?_)))
        refine p_till σ n hC _ (fun v hm => ?_)
        refine hX _ _ _ _ _ _ ?_
        refine hX _ _ _ _ _ _ ?_
        refine Exists.intro 9 (And.intro rfl (And.intro (by omega) (And.intro rfl ?_)))
        refine hm _ ?_
        refine hX _ _ _ _ _ _ ?_
        refine hX _ _ _ _ _ _ ?_
        exact And.intro (fun _ => nxt σ n cc ss hC (by omega) (by omega)) (fun hc => absurd (lg_cmp_self v) hc)
      | 13, _ => exact Or.inr (And.intro (Or.inr (by rw [nI_toInt (by decide)]; decide)) (nxt σ n cc ss hC (by omega) (by omega)))
      | 14, _ => exact Or.inr (And.intro (Or.inr (by rw [nI_toInt (by decide)]; decide)) (nxt σ n cc ss hC (by omega) (by omega)))
      | 15, _ => exact Or.inr (And.intro (Or.inr (by rw [nI_toInt (by decide)]; decide)) (nxt σ n cc ss hC (by omega) (by omega)))
      | _ + 16, h => exact absurd h (by omega)
theorem fd_law : fd_LawOk := by
  intro L xs hL X hX hV
  have hs : fd_clo (fd_alloc fd_s0) := clo_al (fun a k x h => by cases h)
  refine hX _ _ _ _ _ _ ?_
  refine And.intro rfl (And.intro ⟨by decide, by decide, okL_c trivial okL_n, okV_n, fun a k x h => by cases h⟩ ?_)
  iterate 2 refine hX _ _ _ _ _ _ ?_
  refine Exists.intro _ (And.intro rfl ?_)
  refine And.intro ⟨by decide, by decide, okL_c trivial okL_n, okV_c (ok_r (by decide)) okV_n, hs⟩ ?_
  refine ok_dinit 98 (fd_alloc fd_s0) _ rfl (fun i j => ?_) (fun i j => ?_) (fun i j => ?_) (fun τ hI => ?_)
  · show (if i = 0 then 0 else 0) = (0 : Int32); split <;> rfl
  · show (if i = 0 then none else none) = (none : Option Nat); split <;> rfl
  · show (if i = 0 then 0 else 0) = (0 : Int64); split <;> rfl
  have hcl := in_clo hI
  obtain ⟨N, H, R, L'⟩ := τ
  have hN : N = 9 := hI.1
  subst hN
  refine hX _ _ _ _ _ _ ?_
  refine hX _ _ _ _ _ _ ?_
  refine And.intro rfl (And.intro ⟨by decide, by decide, okL_c (ok_r (show 0 < 9 by decide)) (okL_c trivial okL_n), okV_n, hcl⟩ ?_)
  iterate 2 refine hX _ _ _ _ _ _ ?_
  refine Exists.intro _ (And.intro rfl ?_)
  have hcl2 := clo_al hcl
  refine And.intro ⟨by decide, by decide, okL_c (ok_r (show 0 < 10 by decide)) (okL_c trivial okL_n), okV_c (ok_r (show 9 < 10 by decide)) okV_n, hcl2⟩ ?_
  refine ok_minit 99 (fd_u0 H 9 0) (fd_u0 R 9 none) (fd_u0 L' 9 0) _ hcl2 (fun ω hM => ?_)
  iterate 3 refine hX _ _ _ _ _ _ ?_
  exact hV _ _ [(3, .inl (nI 0)), (2, rf 9), (1, rf 0), (0, .inr (.inr (.inr 2)))] _ _ _ _ (And.intro rfl (And.intro rfl (And.intro rfl (And.intro rfl trivial)))) (law_loop L xs hL X hX hV 2048 0 ω 0 _ _ (by omega) (by decide) (by decide) (by decide) (first_Cp hI hM))
