def fd_R (o : Nat) : String := [RX0, RX1, RX2, RX3, RX4, RL].getD o ""
def fd_T (ci : Nat) : u_T := match ci with
  | 0 => TX0
  | 1 => TX1
  | 2 => TX2
  | 3 => TX3
  | _ => TX4
def fd_tyf (ci : Nat) : Nat → FieldType := match ci with
  | 0 => tyX0
  | 1 => tyX1
  | 2 => tyX2
  | 3 => tyX3
  | _ => tyX4
def fd_tyc (t : FieldType) : Nat := match t with
  | .long => 2
  | .object _ => 1
  | .array _ => 1
  | .boolean => 3
  | _ => 0
def fd_tgt (mi pc : Nat) (off : Int) (k : Nat) : Bool := match (fd_code mi)[k]? with
  | some e => decide ((pc : Int) + off = (e.1 : Int))
  | none => false
def fd_jmp (mi pc : Nat) (off : Int) (len : Nat) (rs : List Nat) : Bool := match rs with
  | [k] => len == 3 && fd_tgt mi pc off k
  | _ => false
def fd_mtl (o i k kd : Nat) : Bool := fd_mt.any (fun q => q.1 == o && q.2.1 == i && q.2.2.1 == k && q.2.2.2.1 == kd)
def fd_spl (o i kd : Nat) : Bool := fd_sp.any (fun q => q.1 == o && q.2.1 == i && q.2.2.1 == kd)
def fd_ftl (o i ci k : Nat) : Bool := fd_ft.any (fun q => q.1 == o && q.2.1 == i && q.2.2.1 == ci && q.2.2.2.1 == k)
def fd_ckI (mi pc : Nat) (ins : Instr) (len : Nat) (v : Int32) (rs : List Nat) : Bool := match ins with
  | .iconst n => len == 1 && Int32.ofInt n == v
  | .bipush n => len == 2 && (Int8.ofInt n).toInt32 == v
  | .sipush n => len == 3 && (Int16.ofInt n).toInt32 == v
  | .ldc i => len == 2 && fd_cs.any (fun q => q.1 == fd_own mi && q.2.1 == i && q.2.2.1 == v)
  | .lconst n => len == 1 && n.val == 0
  | .aconst_null => len == 1
  | .iload i => len == 2 && rs == [i]
  | .iload_n i => len == 1 && rs == [i.val]
  | .aload i => len == 2 && rs == [i]
  | .aload_n i => len == 1 && rs == [i.val]
  | .istore i => len == 2 && rs == [i] && decide (i < fd_mL mi)
  | .istore_n i => len == 1 && rs == [i.val] && decide (i.val < fd_mL mi)
  | .astore i => len == 2 && rs == [i] && decide (i < fd_mL mi)
  | .astore_n i => len == 1 && rs == [i.val] && decide (i.val < fd_mL mi)
  | .iinc i n => len == 3 && rs == [i] && Int32.ofInt n == v && decide (i < fd_mL mi)
  | .iadd => len == 1
  | .isub => len == 1
  | .imul => len == 1
  | .iand => len == 1
  | .idiv => len == 1
  | .ineg => len == 1
  | .i2l => len == 1
  | .ladd => len == 1
  | .lsub => len == 1
  | .lcmp => len == 1
  | .dup => len == 1
  | .dup2 => len == 1
  | .if_icmp _ off => fd_jmp mi pc off len rs
  | .ifCond _ off => fd_jmp mi pc off len rs
  | .ifnull off => fd_jmp mi pc off len rs
  | .ifnonnull off => fd_jmp mi pc off len rs
  | .goto off => fd_jmp mi pc off len rs
  | .tableswitch d lo hi offs => (match rs with
    | dk :: ts => fd_tgt mi pc d dk && decide (hi - lo + 1 = (ts.length : Int)) && (List.range ts.length).all (fun j => (match offs[j]? with
      | some off => fd_tgt mi pc off (ts.getD j 0)
      | none => false))
    | _ => false)
  | .getfield i => (match rs with
    | [ci, k, ty] => len == 3 && fd_ftl (fd_own mi) i ci k && fd_tyc (fd_tyf ci k) == ty
    | _ => false)
  | .putfield i => (match rs with
    | [ci, k, ty, f] => len == 3 && fd_ftl (fd_own mi) i ci k && fd_tyc (fd_tyf ci k) == ty && (match f with
      | 0 => (fd_T ci k).2.2.2 == false
      | _ => (fd_T ci k).2.2.2 == true && (fd_y mi).name == "<init>" && fd_own mi == ci)
    | _ => false)
  | .getstatic i => (match rs with
    | [k] => len == 3 && fd_stt.any (fun q => q.1 == fd_own mi && q.2.1 == i && q.2.2.1 == k)
    | _ => false)
  | .iaload => len == 1
  | .aaload => len == 1
  | .iastore => len == 1
  | .aastore => len == 1
  | .arraylength => len == 1
  | .newarray t => len == 2 && decide (t = .int)
  | .anewarray i => (match rs with
    | [k] => len == 3 && fd_clk.any (fun q => q.1 == fd_own mi && q.2.1 == i && q.2.2.1 == k) && (k == 1 || k == 2)
    | _ => false)
  | .new i => (match rs with
    | [k] => len == 3 && fd_clk.any (fun q => q.1 == fd_own mi && q.2.1 == i && q.2.2.1 == k)
    | _ => false)
  | .invokevirtual i => (match rs with
    | [k, kd] => len == 3 && fd_mtl (fd_own mi) i k kd
    | _ => false)
  | .invokestatic i => (match rs with
    | [_, 6] => len == 3 && fd_spl (fd_own mi) i 6
    | [_, 7] => len == 3 && fd_spl (fd_own mi) i 7
    | [k, kd] => len == 3 && fd_mtl (fd_own mi) i k kd
    | _ => false)
  | .invokespecial i => (match rs with
    | [_, 5] => len == 3 && fd_spl (fd_own mi) i 5
    | [k, kd] => len == 3 && fd_mtl (fd_own mi) i k kd
    | _ => false)
  | .ireturn => len == 1
  | .lreturn => len == 1
  | .areturn => len == 1
  | .return_ => len == 1
  | _ => false
def fd_ckL (mi : Nat) : List fd_E → Bool
  | [] => false
  | [e] => decide (e.2.1 = .athrow)
  | e :: e' :: r => decide (decode (fd_b mi) e.1 = .ok (e.2.1, e.2.2.1)) && fd_ckI mi e.1 e.2.1 e.2.2.1 e.2.2.2.1 e.2.2.2.2 && e'.1 == e.1 + e.2.2.1 && fd_ckL mi (e' :: r)
def fd_pc (suf : List fd_E) : Nat := match suf with
  | [] => 0
  | e :: _ => e.1
theorem fd_ckL_at {mi : Nat} : ∀ (cd : List fd_E) (k : Nat) (e : fd_E) (nx : List fd_E), fd_ckL mi cd = true → cd.drop k = e :: nx → e.2.1 = .athrow ∨ (decode (fd_b mi) e.1 = .ok (e.2.1, e.2.2.1) ∧ fd_ckI mi e.1 e.2.1 e.2.2.1 e.2.2.2.1 e.2.2.2.2 = true ∧ fd_pc nx = e.1 + e.2.2.1)
  | [], k, e, nx, _, hd => by simp at hd
  | [e0], k, e, nx, h, hd => by
    cases k with
    | zero => simp at hd; simp [fd_ckL] at h; left; rw [← hd.1]; exact h
    | succ k => simp at hd
  | e0 :: e1 :: r, k, e, nx, h, hd => by
    simp only [fd_ckL, Bool.and_eq_true, decide_eq_true_eq, beq_iff_eq] at h
    obtain ⟨⟨⟨h1, h2⟩, h3⟩, h4⟩ := h
    cases k with
    | zero =>
      simp at hd
      obtain ⟨rfl, rfl⟩ := hd
      right
      exact ⟨h1, h2, h3⟩
    | succ k => exact fd_ckL_at (e1 :: r) k e nx h4 hd
/-- the words that hold in any state that comes later -/
def fd_tb : List Jvm.Cond := lw_tbl.filter goodWord
def fd_in (w : Jvm.Cond) : Bool := decide (w ∈ lw_tbl) && goodWord w
def fd_at (k : Nat) (w : Jvm.Cond) : Bool := decide (lw_tbl[k]? = some w) && goodWord w
theorem fd_in_tb {w : Jvm.Cond} (h : fd_in w = true) : w ∈ fd_tb := by
  simp only [fd_in, Bool.and_eq_true, decide_eq_true_eq] at h
  exact List.mem_filter.mpr h
theorem fd_at_tb {k : Nat} {w : Jvm.Cond} (h : fd_at k w = true) : w ∈ fd_tb := by
  simp only [fd_at, Bool.and_eq_true, decide_eq_true_eq] at h
  exact List.mem_filter.mpr ⟨List.mem_of_getElem? h.1, h.2⟩
theorem fd_good {ws : List Jvm.Cond} (h : ∀ w ∈ ws, w ∈ fd_tb) : GoodIn fd_tb ws := fun w hw => ⟨h w hw, good_of_word (List.mem_filter.mp (h w hw)).2⟩
def fd_mok (mi : Nat) : Bool := fd_in (.code (fd_y mi) (fd_b mi) (fd_mL mi) (fd_ret mi)) && fd_in (.initialized (fd_y mi).cls) && (fd_y mi).cls == fd_R (fd_own mi) && plainName (fd_y mi).cls && decide ((fd_y mi).cls ≠ "java/lang/invoke/MethodHandle") && decide ((fd_y mi).cls ≠ "java/lang/invoke/VarHandle") && decide ((parseMethodDescriptor (fd_y mi).desc).map (fun d => d.parameters.length) = some (fd_np mi)) && fd_ckL mi (fd_code mi) && decide (fd_own mi < 5) && decide (fd_mL mi ≤ 20)
def fd_mtok (q : Nat × Nat × Nat × Nat × Nat) : Bool := decide (q.2.2.1 < 79) && (match q.2.2.2.1 with
  | 0 => fd_at q.2.2.2.2 (.methodLink (fd_R q.1) q.2.1 (fd_y q.2.2.1)) && fd_in (.instanceMethod (fd_y q.2.2.1)) && fd_in (.selects (fd_y q.2.2.1).cls (fd_y q.2.2.1) (fd_y q.2.2.1))
  | 1 => fd_at q.2.2.2.2 (.methodLink (fd_R q.1) q.2.1 (fd_y q.2.2.1)) && fd_in (.static (fd_y q.2.2.1))
  | 2 => fd_at q.2.2.2.2 (.methodLink (fd_R q.1) q.2.1 (fd_y q.2.2.1)) && fd_in (.instanceMethod (fd_y q.2.2.1)) && (fd_y q.2.2.1).name == "<init>" && decide (fd_ret q.2.2.1 = none)
  | 3 => decide (lw_tbl[q.2.2.2.2]? = some (.methodLinkNest (fd_R q.1) q.2.1 (fd_y q.2.2.1) RX3)) && fd_in (.static (fd_y q.2.2.1))
  | 4 => decide (lw_tbl[q.2.2.2.2]? = some (.methodLinkNest (fd_R q.1) q.2.1 (fd_y q.2.2.1) RX3)) && fd_in (.instanceMethod (fd_y q.2.2.1)) && (fd_y q.2.2.1).name == "<init>" && decide (fd_ret q.2.2.1 = none)
  | _ => false)
theorem fd_mt_ok : ∀ q ∈ fd_mt, fd_mtok q = true := by decide +kernel
theorem fd_ft_ok : ∀ q ∈ fd_ft, (fd_at q.2.2.2.2 (.fieldLink (fd_R q.1) q.2.1 (fd_T q.2.2.1 q.2.2.2.1).1 (fd_T q.2.2.1 q.2.2.2.1).2.1 (fd_T q.2.2.1 q.2.2.2.1).2.2.1) && decide (q.2.2.1 < 5) && decide (q.2.2.2.1 < fd_nf q.2.2.1)) = true := by decide +kernel
theorem fd_stt_ok : ∀ q ∈ fd_stt, (fd_at q.2.2.2 (.fieldLink (fd_R q.1) q.2.1 RX0 (if q.2.2.1 = 0 then "ABOVE" else "TOLD_BODIES") "[I") && decide (q.2.2.1 < 2)) = true := by decide +kernel
theorem fd_sp_ok : ∀ q ∈ fd_sp, (match q.2.2.1 with
  | 5 => fd_at q.2.2.2 (.methodLink (fd_R q.1) q.2.1 objectInit)
  | 6 => fd_at q.2.2.2 (.methodLink (fd_R q.1) q.2.1 Lib.Math.max.name)
  | _ => fd_at q.2.2.2 (.methodLink (fd_R q.1) q.2.1 Lib.Math.abs.name)) = true := by decide +kernel
theorem fd_clk_ok : ∀ q ∈ fd_clk, (fd_at q.2.2.2 (.classLink (fd_R q.1) q.2.1 (fd_R q.2.2.1)) && decide (q.2.2.1 < 5)) = true := by decide +kernel
theorem fd_cs_ok : ∀ q ∈ fd_cs, fd_at q.2.2.2 (.constant (fd_R q.1) q.2.1 q.2.2.1) = true := by decide +kernel
theorem fd_obj_ok : (fd_in (.instanceMethod objectInit) && fd_in (.code objectInit ⟨#[0xb1]⟩ 1 none)) = true := by decide +kernel
theorem fd_math_ok : (fd_in (.static Lib.Math.max.name) && fd_in (.static Lib.Math.abs.name) && fd_in (.initialized "java/lang/Math") && fd_in (.code Lib.Math.max.name Lib.Math.max.code 2 (some .int)) && fd_in (.code Lib.Math.abs.name Lib.Math.abs.code 1 (some .int)) && fd_in (.arrayClass .int)) = true := by decide +kernel
theorem fd_cls_ok : ∀ ci, ci < 5 → (fd_in (.instantiable (fd_R ci) (fd_nf ci)) && fd_in (.initialized (fd_R ci)) && (u_ws (fd_R ci) (fd_T ci) (fd_nf ci)).all fd_in) = true := by decide +kernel
