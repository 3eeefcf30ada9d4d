def fd_m (mi : Nat) : fd_MI := fd_ms.getD mi (⟨"", "", ""⟩, .empty, 0, none, 0, 0, 0, 0)
def fd_y (mi : Nat) : MethodName := (fd_m mi).1
def fd_b (mi : Nat) : ByteArray := (fd_m mi).2.1
def fd_mL (mi : Nat) : Nat := (fd_m mi).2.2.1
def fd_ret (mi : Nat) : Option FieldType := (fd_m mi).2.2.2.1
def fd_own (mi : Nat) : Nat := (fd_m mi).2.2.2.2.1
def fd_mc (mi : Nat) : Nat := (fd_m mi).2.2.2.2.2.1
def fd_mS (mi : Nat) : Nat := (fd_m mi).2.2.2.2.2.2.1
def fd_np (mi : Nat) : Nat := (fd_m mi).2.2.2.2.2.2.2
abbrev fd_X : Type := List fd_E → fd_L → List fd_V → fd_S → Nat → Nat → Prop
abbrev fd_C : Type := Nat → List fd_V → fd_S → (Option fd_V → fd_S → Prop) → Prop
/-- room is left, and nothing on hand points past the last cell: wanted where a cell is made -/
def fd_new (mi : Nat) (lv : fd_L) (t : List fd_V) (σ : fd_S) (cc ss nc ns : Nat) : Prop := cc + nc ≤ fd_mc mi ∧ ss + ns ≤ fd_mS mi ∧ fd_okL σ.1 lv ∧ fd_okV σ.1 t ∧ fd_clo σ
def fd_call (C : fd_C) (mi : Nat) (X : fd_X) (nx : List fd_E) (lv : fd_L) (as t : List fd_V) (σ : fd_S) (cc ss k : Nat) : Prop :=
  match Nat.ble (fd_cats t) 8 && Nat.ble (fd_cats as) (fd_mL k) with
  | false => False
  | true => match fd_mc k with
    | 0 => C k as σ (fun r σ' => X nx lv (r.toList ++ t) σ' cc ss)
    | _ + 1 => fd_new mi lv t σ cc ss (fd_mc k) (fd_mS k) ∧ C k as σ (fun r σ' => X nx lv (r.toList ++ t) σ' (cc + fd_mc k) (ss + fd_mS k))
def fd_br (mi : Nat) (X : fd_X) (nx : List fd_E) (rs : List Nat) (lv : fd_L) (t : List fd_V) (σ : fd_S) (cc ss : Nat) (p q : Prop) : Prop :=
  match rs with
  | [k] => (p → X ((fd_code mi).drop k) lv t σ cc ss) ∧ (q → X nx lv t σ cc ss)
  | _ => False
def fd_icmp (c : ClassFile.Cond) (x y : Int32) : Prop × Prop :=
  match c with
  | .eq => (x = y, ¬ x = y)
  | .ne => (¬ x = y, x = y)
  | .lt => (x < y, ¬ x < y)
  | .ge => (y ≤ x, ¬ y ≤ x)
  | .gt => (y < x, ¬ y < x)
  | .le => (x ≤ y, ¬ x ≤ y)
def fd_bin (X : fd_X) (nx : List fd_E) (lv : fd_L) (st : List fd_V) (σ : fd_S) (cc ss : Nat) (f : Int32 → Int32 → Int32) : Prop :=
  match st with
  | .inl y :: .inl x :: t => X nx lv (.inl (f x y) :: t) σ cc ss
  | _ => False
def fd_ldI (X : fd_X) (nx : List fd_E) (lv : fd_L) (st : List fd_V) (σ : fd_S) (cc ss : Nat) (rs : List Nat) : Prop :=
  match rs with
  | [i] => match fd_get lv i with
    | some (.inl x) => X nx lv (.inl x :: st) σ cc ss
    | _ => False
  | _ => False
def fd_ldA (X : fd_X) (nx : List fd_E) (lv : fd_L) (st : List fd_V) (σ : fd_S) (cc ss : Nat) (rs : List Nat) : Prop :=
  match rs with
  | [i] => match fd_get lv i with
    | some (.inr (.inr w)) => X nx lv (.inr (.inr w) :: st) σ cc ss
    | _ => False
  | _ => False
def fd_stI (X : fd_X) (nx : List fd_E) (lv : fd_L) (st : List fd_V) (σ : fd_S) (cc ss : Nat) (rs : List Nat) : Prop :=
  match rs with
  | [i] => match st with
    | .inl x :: t => X nx (fd_put lv i (.inl x)) t σ cc ss
    | _ => False
  | _ => False
def fd_stA (X : fd_X) (nx : List fd_E) (lv : fd_L) (st : List fd_V) (σ : fd_S) (cc ss : Nat) (rs : List Nat) : Prop :=
  match rs with
  | [i] => match st with
    | .inr (.inr (.inl o)) :: t => X nx (fd_put lv i (.inr (.inr (.inl o)))) t σ cc ss
    | _ => False
  | _ => False
def fd_gf (X : fd_X) (nx : List fd_E) (lv : fd_L) (st : List fd_V) (σ : fd_S) (cc ss : Nat) (rs : List Nat) : Prop :=
  match rs with
  | [ci, k, ty] => match st with
    | .inr (.inr (.inl o)) :: t => ∃ a, o = some a ∧ a < σ.1 ∧ fd_sh a = .inl ci ∧ (match ty with
      | 1 => X nx lv (.inr (.inr (.inl (σ.2.2.1 a k))) :: t) σ cc ss
      | 2 => X nx lv (.inr (.inl (σ.2.2.2 a k)) :: t) σ cc ss
      | _ => X nx lv (.inl (σ.2.1 a k) :: t) σ cc ss)
    | _ => False
  | _ => False
def fd_pf (X : fd_X) (nx : List fd_E) (lv : fd_L) (st : List fd_V) (σ : fd_S) (cc ss : Nat) (rs : List Nat) : Prop :=
  match rs with
  | [ci, k, ty, _] => match ty with
    | 0 => (match st with
      | .inl v :: .inr (.inr (.inl o)) :: t => ∃ a, o = some a ∧ a < σ.1 ∧ fd_sh a = .inl ci ∧ X nx lv t (fd_si σ a k v) cc ss
      | _ => False)
    | 1 => (match st with
      | .inr (.inr (.inl w)) :: .inr (.inr (.inl o)) :: t => ∃ a, o = some a ∧ a < σ.1 ∧ fd_sh a = .inl ci ∧ X nx lv t (fd_sr σ a k w) cc ss
      | _ => False)
    | 2 => (match st with
      | .inr (.inl v) :: .inr (.inr (.inl o)) :: t => ∃ a, o = some a ∧ a < σ.1 ∧ fd_sh a = .inl ci ∧ X nx lv t (fd_sl σ a k v) cc ss
      | _ => False)
    | _ => (match st with
      | .inl v :: .inr (.inr (.inl o)) :: t => ∃ a, o = some a ∧ a < σ.1 ∧ fd_sh a = .inl ci ∧ (v = 0 ∨ v = 1) ∧ X nx lv t (fd_si σ a k v) cc ss
      | _ => False)
  | _ => False
def fd_ial (scr : Option (Nat × (Nat → Int32))) (X : fd_X) (nx : List fd_E) (lv : fd_L) (st : List fd_V) (σ : fd_S) (cc ss : Nat) : Prop :=
  match st with
  | .inl i :: .inr (.inr (.inl o)) :: t => ∃ a n, o = some a ∧ a < σ.1 ∧ fd_sh a = .inr (n, none) ∧ vp_in i n ∧ X nx lv (.inl (σ.2.1 a i.toNatClampNeg) :: t) σ cc ss
  | .inl i :: .inr (.inr (.inr k)) :: t => (k < 2 ∧ vp_in i (fd_sn k) ∧ X nx lv (.inl (fd_sa k i.toNatClampNeg) :: t) σ cc ss) ∨ (k = 2 ∧ ∃ n f, scr = some (n, f) ∧ vp_in i n ∧ X nx lv (.inl (f i.toNatClampNeg) :: t) σ cc ss)
  | _ => False
def fd_aal (X : fd_X) (nx : List fd_E) (lv : fd_L) (st : List fd_V) (σ : fd_S) (cc ss : Nat) : Prop :=
  match st with
  | .inl i :: .inr (.inr (.inl o)) :: t => ∃ a n c, o = some a ∧ a < σ.1 ∧ fd_sh a = .inr (n, some c) ∧ vp_in i n ∧ X nx lv (.inr (.inr (.inl (σ.2.2.1 a i.toNatClampNeg))) :: t) σ cc ss
  | _ => False
def fd_ias (X : fd_X) (nx : List fd_E) (lv : fd_L) (st : List fd_V) (σ : fd_S) (cc ss : Nat) : Prop :=
  match st with
  | .inl v :: .inl i :: .inr (.inr (.inl o)) :: t => ∃ a n, o = some a ∧ a < σ.1 ∧ fd_sh a = .inr (n, none) ∧ vp_in i n ∧ X nx lv t (fd_si σ a i.toNatClampNeg v) cc ss
  | _ => False
def fd_aas (X : fd_X) (nx : List fd_E) (lv : fd_L) (st : List fd_V) (σ : fd_S) (cc ss : Nat) : Prop :=
  match st with
  | .inr (.inr (.inl w)) :: .inl i :: .inr (.inr (.inl o)) :: t => ∃ a n c z, o = some a ∧ a < σ.1 ∧ fd_sh a = .inr (n, some c) ∧ vp_in i n ∧ w = some z ∧ z < σ.1 ∧ fd_sh z = .inl c ∧ X nx lv t (fd_sr σ a i.toNatClampNeg (some z)) cc ss
  | _ => False
def fd_aln (scr : Option (Nat × (Nat → Int32))) (X : fd_X) (nx : List fd_E) (lv : fd_L) (st : List fd_V) (σ : fd_S) (cc ss : Nat) : Prop :=
  match st with
  | .inr (.inr (.inl o)) :: t => ∃ a n c, o = some a ∧ a < σ.1 ∧ fd_sh a = .inr (n, c) ∧ X nx lv (.inl (Int32.ofNat n) :: t) σ cc ss
  | .inr (.inr (.inr k)) :: t => (k < 2 ∧ X nx lv (.inl (Int32.ofNat (fd_sn k)) :: t) σ cc ss) ∨ (k = 2 ∧ ∃ n f, scr = some (n, f) ∧ X nx lv (.inl (Int32.ofNat n) :: t) σ cc ss)
  | _ => False
def fd_nwa (mi : Nat) (X : fd_X) (nx : List fd_E) (lv : fd_L) (st : List fd_V) (σ : fd_S) (cc ss : Nat) (c : Option Nat) : Prop :=
  match st with
  | .inl n :: t => ∃ N, n.toNatClampNeg = N ∧ ¬ n < 0 ∧ N ≤ 1000 ∧ fd_sh σ.1 = .inr (N, c) ∧ fd_new mi lv t σ cc ss 1 N ∧ X nx lv (.inr (.inr (.inl (some σ.1))) :: t) (fd_alloc σ) (cc + 1) (ss + N)
  | _ => False
def fd_nf (ci : Nat) : Nat := [7, 9, 14, 7, 15].getD ci 0
def fd_step (C : fd_C) (scr : Option (Nat × (Nat → Int32))) (mi : Nat) (post : Option fd_V → fd_S → Prop) (X : fd_X) (suf : List fd_E) (lv : fd_L) (st : List fd_V) (σ : fd_S) (cc ss : Nat) : Prop :=
  match suf with
  | [] => False
  | (_, ins, _, v, rs) :: nx =>
    match ins with
    | .iconst _ => X nx lv (.inl v :: st) σ cc ss
    | .bipush _ => X nx lv (.inl v :: st) σ cc ss
    | .sipush _ => X nx lv (.inl v :: st) σ cc ss
    | .ldc _ => X nx lv (.inl v :: st) σ cc ss
    | .lconst _ => X nx lv (.inr (.inl 0) :: st) σ cc ss
    | .aconst_null => X nx lv (.inr (.inr (.inl none)) :: st) σ cc ss
    | .iload _ => fd_ldI X nx lv st σ cc ss rs
    | .iload_n _ => fd_ldI X nx lv st σ cc ss rs
    | .aload _ => fd_ldA X nx lv st σ cc ss rs
    | .aload_n _ => fd_ldA X nx lv st σ cc ss rs
    | .istore _ => fd_stI X nx lv st σ cc ss rs
    | .istore_n _ => fd_stI X nx lv st σ cc ss rs
    | .astore _ => fd_stA X nx lv st σ cc ss rs
    | .astore_n _ => fd_stA X nx lv st σ cc ss rs
    | .iinc _ _ => match rs with
      | [i] => match fd_get lv i with
        | some (.inl x) => X nx (fd_put lv i (.inl (x + v))) st σ cc ss
        | _ => False
      | _ => False
    | .iadd => fd_bin X nx lv st σ cc ss (fun x y => x + y)
    | .isub => fd_bin X nx lv st σ cc ss (fun x y => x - y)
    | .imul => fd_bin X nx lv st σ cc ss (fun x y => x * y)
    | .iand => fd_bin X nx lv st σ cc ss (fun x y => x &&& y)
    | .idiv => match st with
      | .inl y :: .inl x :: t => ¬ y = 0 ∧ X nx lv (.inl (x / y) :: t) σ cc ss
      | _ => False
    | .ineg => match st with
      | .inl x :: t => X nx lv (.inl (-x) :: t) σ cc ss
      | _ => False
    | .i2l => match st with
      | .inl x :: t => X nx lv (.inr (.inl x.toInt64) :: t) σ cc ss
      | _ => False
    | .ladd => match st with
      | .inr (.inl y) :: .inr (.inl x) :: t => X nx lv (.inr (.inl (x + y)) :: t) σ cc ss
      | _ => False
    | .lsub => match st with
      | .inr (.inl y) :: .inr (.inl x) :: t => X nx lv (.inr (.inl (x - y)) :: t) σ cc ss
      | _ => False
    | .lcmp => match st with
      | .inr (.inl y) :: .inr (.inl x) :: t => X nx lv (.inl (lg_cmp x y) :: t) σ cc ss
      | _ => False
    | .dup => match st with
      | .inl x :: t => X nx lv (.inl x :: .inl x :: t) σ cc ss
      | .inr (.inr (.inl o)) :: t => X nx lv (.inr (.inr (.inl o)) :: .inr (.inr (.inl o)) :: t) σ cc ss
      | _ => False
    | .dup2 => match st with
      | .inl x :: .inr (.inr (.inl o)) :: t => X nx lv (.inl x :: .inr (.inr (.inl o)) :: .inl x :: .inr (.inr (.inl o)) :: t) σ cc ss
      | _ => False
    | .if_icmp c _ => match st with
      | .inl y :: .inl x :: t => fd_br mi X nx rs lv t σ cc ss (fd_icmp c x y).1 (fd_icmp c x y).2
      | _ => False
    | .ifCond c _ => match st with
      | .inl x :: t => fd_br mi X nx rs lv t σ cc ss (fd_icmp c x 0).1 (fd_icmp c x 0).2
      | _ => False
    | .ifnull _ => match st with
      | .inr (.inr (.inl o)) :: t => fd_br mi X nx rs lv t σ cc ss (o = none) (¬ o = none)
      | _ => False
    | .ifnonnull _ => match st with
      | .inr (.inr (.inl o)) :: t => fd_br mi X nx rs lv t σ cc ss (¬ o = none) (o = none)
      | _ => False
    | .goto _ => match rs with
      | [k] => X ((fd_code mi).drop k) lv st σ cc ss
      | _ => False
    | .tableswitch _ lo hi _ => match rs with
      | d :: ts => match st with
        | .inl x :: t => (∃ (j k : Nat), ts[j]? = some k ∧ x.toInt = lo + (j : Int) ∧ X ((fd_code mi).drop k) lv t σ cc ss) ∨ ((x.toInt < lo ∨ hi < x.toInt) ∧ X ((fd_code mi).drop d) lv t σ cc ss)
        | _ => False
      | _ => False
    | .getfield _ => fd_gf X nx lv st σ cc ss rs
    | .putfield _ => fd_pf X nx lv st σ cc ss rs
    | .getstatic _ => match rs with
      | [k] => X nx lv (.inr (.inr (.inr k)) :: st) σ cc ss
      | _ => False
    | .iaload => fd_ial scr X nx lv st σ cc ss
    | .aaload => fd_aal X nx lv st σ cc ss
    | .iastore => fd_ias X nx lv st σ cc ss
    | .aastore => fd_aas X nx lv st σ cc ss
    | .arraylength => fd_aln scr X nx lv st σ cc ss
    | .newarray _ => fd_nwa mi X nx lv st σ cc ss none
    | .anewarray _ => match rs with
      | [c] => fd_nwa mi X nx lv st σ cc ss (some c)
      | _ => False
    | .new _ => match rs with
      | [ci] => fd_sh σ.1 = .inl ci ∧ fd_new mi lv st σ cc ss 1 (fd_nf ci) ∧ X nx lv (.inr (.inr (.inl (some σ.1))) :: st) (fd_alloc σ) (cc + 1) (ss + fd_nf ci)
      | _ => False
    | .invokevirtual _ => match rs with
      | [k, 0] => match fd_popn (fd_np k) [] st with
        | some (as, .inr (.inr (.inl o)) :: t) => ∃ a, o = some a ∧ a < σ.1 ∧ fd_sh a = .inl (fd_own k) ∧ fd_call C mi X nx lv (.inr (.inr (.inl (some a))) :: as) t σ cc ss k
        | _ => False
      | _ => False
    | .invokestatic _ => match rs with
      | [k, 1] => match fd_popn (fd_np k) [] st with
        | some (as, t) => fd_call C mi X nx lv as t σ cc ss k
        | _ => False
      | [k, 3] => match fd_popn (fd_np k) [] st with
        | some (as, t) => fd_call C mi X nx lv as t σ cc ss k
        | _ => False
      | [_, 6] => match st with
        | .inl y :: .inl x :: t => match Nat.ble (fd_cats t) 8 with
          | true => X nx lv (.inl (if x < y then y else x) :: t) σ cc ss
          | false => False
        | _ => False
      | [_, 7] => match st with
        | .inl x :: t => match Nat.ble (fd_cats t) 8 with
          | true => X nx lv (.inl (if 0 ≤ x then x else 0 - x) :: t) σ cc ss
          | false => False
        | _ => False
      | _ => False
    | .invokespecial _ => match rs with
      | [_, 5] => match st with
        | .inr (.inr (.inl o)) :: t => match Nat.ble (fd_cats t) 8 with
          | true => ∃ a, o = some a ∧ X nx lv t σ cc ss
          | false => False
        | _ => False
      | [k, 2] => match fd_popn (fd_np k) [] st with
        | some (as, .inr (.inr (.inl o)) :: t) => ∃ a, o = some a ∧ fd_call C mi X nx lv (.inr (.inr (.inl (some a))) :: as) t σ cc ss k
        | _ => False
      | [k, 4] => match fd_popn (fd_np k) [] st with
        | some (as, .inr (.inr (.inl o)) :: t) => ∃ a, o = some a ∧ fd_call C mi X nx lv (.inr (.inr (.inl (some a))) :: as) t σ cc ss k
        | _ => False
      | _ => False
    | .ireturn => match st with
      | [.inl x] => match fd_ret mi with
        | some .int => post (some (.inl x)) σ
        | some .boolean => (x = 0 ∨ x = 1) ∧ post (some (.inl x)) σ
        | _ => False
      | _ => False
    | .lreturn => match st with
      | [.inr (.inl x)] => match fd_ret mi with
        | some .long => post (some (.inr (.inl x))) σ
        | _ => False
      | _ => False
    | .areturn => match st with
      | [.inr (.inr (.inl o))] => match fd_ret mi with
        | some (.object _) => post (some (.inr (.inr (.inl o)))) σ
        | _ => False
      | _ => False
    | .return_ => match st with
      | [] => match fd_ret mi with
        | none => post none σ
        | _ => False
      | _ => False
    | _ => False
/-- fewer locals, or in another order -/
def fd_sub : fd_L → fd_L → Prop
  | [], _ => True
  | q :: r, lv => fd_get lv q.1 = some q.2 ∧ fd_sub r lv
abbrev fd_subX (X : fd_X) : Prop := ∀ (suf : List fd_E) (lv lv' : fd_L) (st : List fd_V) (σ : fd_S) (cc ss : Nat), fd_sub lv' lv → X suf lv' st σ cc ss → X suf lv st σ cc ss
/-- what a call comes to, D calls deep: the least X that is closed under a step -/
def fd_Sem : Nat → Nat → List fd_V → fd_S → (Option fd_V → fd_S → Prop) → Prop
  | 0, _, _, _, _ => False
  | D + 1, mi, as, σ, post => ∀ X : fd_X, (∀ suf lv st σ cc ss, fd_step (fd_Sem D) none mi post X suf lv st σ cc ss → X suf lv st σ cc ss) → fd_subX X → X (fd_code mi) (fd_args 0 as) [] σ 0 0
