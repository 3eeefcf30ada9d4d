def fd_ckC (mi : Nat) : List fd_E → fd_E → Bool
  | [], _ => true
  | [e], e' => decide (decode (fd_b mi) e.1 = .ok (e.2.1, e.2.2.1)) && fd_ckI mi e.1 e.2.1 e.2.2.1 e.2.2.2.1 e.2.2.2.2 && e'.1 == e.1 + e.2.2.1
  | e :: e1 :: r, e' => decide (decode (fd_b mi) e.1 = .ok (e.2.1, e.2.2.1)) && fd_ckI mi e.1 e.2.1 e.2.2.1 e.2.2.2.1 e.2.2.2.2 && e1.1 == e.1 + e.2.2.1 && fd_ckC mi (e1 :: r) e'
theorem fd_ckL_app {mi : Nat} : ∀ (l : List fd_E) (e' : fd_E) (r : List fd_E), fd_ckC mi l e' = true → fd_ckL mi (e' :: r) = true → fd_ckL mi (l ++ e' :: r) = true
  | [], _, _, _, h => h
  | [e], e', r, h, h2 => by
    simp only [fd_ckC, Bool.and_eq_true] at h
    simp only [List.cons_append, List.nil_append, fd_ckL, Bool.and_eq_true]
    exact ⟨⟨⟨h.1.1, h.1.2⟩, h.2⟩, h2⟩
  | e :: e1 :: l, e', r, h, h2 => by
    simp only [fd_ckC, Bool.and_eq_true] at h
    have ih := fd_ckL_app (e1 :: l) e' r h.2 h2
    simp only [List.cons_append, fd_ckL, Bool.and_eq_true] at ih ⊢
    exact ⟨⟨⟨h.1.1.1, h.1.1.2⟩, h.1.2⟩, ih⟩
