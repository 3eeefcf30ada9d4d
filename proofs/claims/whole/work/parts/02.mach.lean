/-! THE ABSTRACT MACHINE: cells by number (0 the deck, 1 its vehicles' row, 2 its lanes' row, 3 the answers, 4 their trace, 5 to 8 the lanes, 9 the model, 10 to 19 its rows, 20 + i vehicle i); a value is an int, a long, a reference to a cell (none: null), or one of the given rows (0 ABOVE, 1 TOLD_BODIES, 2 the script) -/
abbrev fd_V : Type := Int32 ⊕ Int64 ⊕ Option Nat ⊕ Nat
/-- a state: how many cells, the ints of each cell, its references, its longs -/
abbrev fd_S : Type := Nat × (Nat → Nat → Int32) × (Nat → Nat → Option Nat) × (Nat → Nat → Int64)
/-- an instruction: where, what, how long, its constant, its operands resolved -/
abbrev fd_E : Type := Nat × Instr × Nat × Int32 × List Nat
abbrev fd_MI : Type := MethodName × ByteArray × Nat × Option FieldType × Nat × Nat × Nat × Nat
abbrev fd_L : Type := List (Nat × fd_V)
def fd_u {α : Type} (f : Nat → Nat → α) (a k : Nat) (v : α) : Nat → Nat → α := fun i j => if i = a then (if j = k then v else f i j) else f i j
def fd_u0 {α : Type} (f : Nat → Nat → α) (a : Nat) (z : α) : Nat → Nat → α := fun i j => if i = a then z else f i j
def fd_get : fd_L → Nat → Option fd_V
  | [], _ => none
  | q :: l, i => match q.1 == i with
    | true => some q.2
    | false => fd_get l i
def fd_cat : fd_V → Nat
  | .inr (.inl _) => 2
  | _ => 1
def fd_put (lv : fd_L) (i : Nat) (v : fd_V) : fd_L := (i, v) :: lv.filter (fun q => !(q.1 == i) && !(q.1 + 1 == i && fd_cat q.2 == 2))
def fd_cats (st : List fd_V) : Nat := (st.map fd_cat).sum
def fd_args : Nat → List fd_V → fd_L
  | _, [] => []
  | i, v :: vs => (i, v) :: fd_args (if fd_cat v = 2 then i + 2 else i + 1) vs
/-- what a cell is: an object of class number c (.inl c), a row of n ints or of n references to class c -/
def fd_sh (a : Nat) : Nat ⊕ (Nat × Option Nat) := [.inl 3, .inr (60, some 2), .inr (4, some 1), .inl 0, .inr (10, none), .inl 1, .inl 1, .inl 1, .inl 1, .inl 4, .inr (60, none), .inr (60, none), .inr (60, none), .inr (60, none), .inr (60, none), .inr (4, none), .inr (4, none), .inr (4, none), .inr (240, none), .inr (60, none)].getD a (.inl 2)
def fd_alloc (σ : fd_S) : fd_S := (σ.1 + 1, fd_u0 σ.2.1 σ.1 0, fd_u0 σ.2.2.1 σ.1 none, fd_u0 σ.2.2.2 σ.1 0)
def fd_si (σ : fd_S) (a k : Nat) (v : Int32) : fd_S := (σ.1, fd_u σ.2.1 a k v, σ.2.2.1, σ.2.2.2)
def fd_sr (σ : fd_S) (a k : Nat) (v : Option Nat) : fd_S := (σ.1, σ.2.1, fd_u σ.2.2.1 a k v, σ.2.2.2)
def fd_sl (σ : fd_S) (a k : Nat) (v : Int64) : fd_S := (σ.1, σ.2.1, σ.2.2.1, fd_u σ.2.2.2 a k v)
def fd_ok1 (N : Nat) : fd_V → Prop
  | .inr (.inr (.inl o)) => ∀ a, o = some a → a < N
  | _ => True
def fd_okV (N : Nat) (l : List fd_V) : Prop := ∀ v ∈ l, fd_ok1 N v
def fd_okL (N : Nat) (l : fd_L) : Prop := ∀ q ∈ l, fd_ok1 N q.2
def fd_clo (σ : fd_S) : Prop := ∀ a k x, σ.2.2.1 a k = some x → x < σ.1
/-- the given rows -/
def fd_sa (k j : Nat) : Int32 := if k = 0 then ([-1, 0, 1, 2, 3, 0, 5] : List Int32).getD j 0 else ([1, 0, 2, 0, 3, 0, 4, 11, 12, 0, 13, 0, 0, 14, 21, 0, 0, 0, 22, 0, 0, 31, 32, 0, 33, 34, 0, 35, 0, 0, 41, 42, 0, 0, 41, 0, 0, 0, 51, 0, 51, 52] : List Int32).getD j 0
def fd_sn (k : Nat) : Nat := if k = 0 then 7 else 42
def fd_popn : Nat → List fd_V → List fd_V → Option (List fd_V × List fd_V)
  | 0, as, st => some (as, st)
  | _ + 1, _, [] => none
  | n + 1, as, v :: st => fd_popn n (v :: as) st
