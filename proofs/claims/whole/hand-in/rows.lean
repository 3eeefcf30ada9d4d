section
-- ===== PART A: goes FIRST, ahead of the names: the tables' words, and 'selects' of the private methods out of them =====
/-- a private method of a class that the tables say can be made, by its rows of tables_1 -/
def lw_okq (q : MethodName × Nat) : Prop := (q.1.cls ≠ "java/lang/invoke/MethodHandle" ∧ q.1.cls ≠ "java/lang/invoke/VarHandle") ∧ Cond.instantiable q.1.cls q.2 ∈ tables_1 ∧ Cond.privateMethod q.1 ∈ tables_1 ∧ Cond.instanceMethod q.1 ∈ tables_1
theorem lw_p0 : lw_okq (⟨"FerryDeck", "measure", "(LFerryDeck$Vehicle;)V"⟩, 7) := ⟨⟨by decide +kernel, by decide +kernel⟩, List.mem_of_getElem? (i := 8) (by decide +kernel), List.mem_of_getElem? (i := 188) (by decide +kernel), List.mem_of_getElem? (i := 189) (by decide +kernel)⟩
theorem lw_p1 : lw_okq (⟨"FerryDeck$Answers", "own", "(II)I"⟩, 7) := ⟨⟨by decide +kernel, by decide +kernel⟩, List.mem_of_getElem? (i := 20) (by decide +kernel), List.mem_of_getElem? (i := 196) (by decide +kernel), List.mem_of_getElem? (i := 197) (by decide +kernel)⟩
theorem lw_p2 : lw_okq (⟨"FerryDeck$Answers", "answerAs", "(III)I"⟩, 7) := ⟨⟨by decide +kernel, by decide +kernel⟩, List.mem_of_getElem? (i := 20) (by decide +kernel), List.mem_of_getElem? (i := 200) (by decide +kernel), List.mem_of_getElem? (i := 201) (by decide +kernel)⟩
theorem lw_p3 : lw_okq (⟨"FerryDeck$Answers", "byBody", "(IIII)I"⟩, 7) := ⟨⟨by decide +kernel, by decide +kernel⟩, List.mem_of_getElem? (i := 20) (by decide +kernel), List.mem_of_getElem? (i := 215) (by decide +kernel), List.mem_of_getElem? (i := 216) (by decide +kernel)⟩
theorem lw_p4 : lw_okq (⟨"FerryDeck$Answers", "leave", "(I)V"⟩, 7) := ⟨⟨by decide +kernel, by decide +kernel⟩, List.mem_of_getElem? (i := 20) (by decide +kernel), List.mem_of_getElem? (i := 219) (by decide +kernel), List.mem_of_getElem? (i := 220) (by decide +kernel)⟩
theorem lw_p5 : lw_okq (⟨"FerryDeck$Answers", "above", "(III)I"⟩, 7) := ⟨⟨by decide +kernel, by decide +kernel⟩, List.mem_of_getElem? (i := 20) (by decide +kernel), List.mem_of_getElem? (i := 223) (by decide +kernel), List.mem_of_getElem? (i := 224) (by decide +kernel)⟩
theorem lw_p6 : lw_okq (⟨"FerryDeck", "vehicleAt", "(I)LFerryDeck$Vehicle;"⟩, 7) := ⟨⟨by decide +kernel, by decide +kernel⟩, List.mem_of_getElem? (i := 8) (by decide +kernel), List.mem_of_getElem? (i := 234) (by decide +kernel), List.mem_of_getElem? (i := 235) (by decide +kernel)⟩
theorem lw_p7 : lw_okq (⟨"FerryDeck", "laneAt", "(I)LFerryDeck$Lane;"⟩, 7) := ⟨⟨by decide +kernel, by decide +kernel⟩, List.mem_of_getElem? (i := 8) (by decide +kernel), List.mem_of_getElem? (i := 255) (by decide +kernel), List.mem_of_getElem? (i := 256) (by decide +kernel)⟩
theorem lw_p8 : lw_okq (⟨"FerryDeck", "price", "(LFerryDeck$Vehicle;)I"⟩, 7) := ⟨⟨by decide +kernel, by decide +kernel⟩, List.mem_of_getElem? (i := 8) (by decide +kernel), List.mem_of_getElem? (i := 287) (by decide +kernel), List.mem_of_getElem? (i := 288) (by decide +kernel)⟩
theorem lw_p9 : lw_okq (⟨"FerryDeck", "countOf", "(I)I"⟩, 7) := ⟨⟨by decide +kernel, by decide +kernel⟩, List.mem_of_getElem? (i := 8) (by decide +kernel), List.mem_of_getElem? (i := 315) (by decide +kernel), List.mem_of_getElem? (i := 316) (by decide +kernel)⟩
theorem lw_p10 : lw_okq (⟨"FerryDeck", "apart", "()I"⟩, 7) := ⟨⟨by decide +kernel, by decide +kernel⟩, List.mem_of_getElem? (i := 8) (by decide +kernel), List.mem_of_getElem? (i := 319) (by decide +kernel), List.mem_of_getElem? (i := 320) (by decide +kernel)⟩
theorem lw_p11 : lw_okq (⟨"FerryDeck", "longestMinutes", "()I"⟩, 7) := ⟨⟨by decide +kernel, by decide +kernel⟩, List.mem_of_getElem? (i := 8) (by decide +kernel), List.mem_of_getElem? (i := 326) (by decide +kernel), List.mem_of_getElem? (i := 327) (by decide +kernel)⟩
theorem lw_p12 : lw_okq (⟨"FerryDeckModel", "isVehicle", "(I)Z"⟩, 15) := ⟨⟨by decide +kernel, by decide +kernel⟩, List.mem_of_getElem? (i := 363) (by decide +kernel), List.mem_of_getElem? (i := 427) (by decide +kernel), List.mem_of_getElem? (i := 428) (by decide +kernel)⟩
theorem lw_p13 : lw_okq (⟨"FerryDeckModel", "length", "(I)I"⟩, 15) := ⟨⟨by decide +kernel, by decide +kernel⟩, List.mem_of_getElem? (i := 363) (by decide +kernel), List.mem_of_getElem? (i := 431) (by decide +kernel), List.mem_of_getElem? (i := 432) (by decide +kernel)⟩
theorem lw_p14 : lw_okq (⟨"FerryDeckModel", "began", "(I)V"⟩, 15) := ⟨⟨by decide +kernel, by decide +kernel⟩, List.mem_of_getElem? (i := 363) (by decide +kernel), List.mem_of_getElem? (i := 435) (by decide +kernel), List.mem_of_getElem? (i := 436) (by decide +kernel)⟩
theorem lw_p15 : lw_okq (⟨"FerryDeckModel", "mass", "(I)I"⟩, 15) := ⟨⟨by decide +kernel, by decide +kernel⟩, List.mem_of_getElem? (i := 363) (by decide +kernel), List.mem_of_getElem? (i := 439) (by decide +kernel), List.mem_of_getElem? (i := 440) (by decide +kernel)⟩
def lw_privs_1 : List (MethodName × Nat) := [(⟨"FerryDeck", "measure", "(LFerryDeck$Vehicle;)V"⟩, 7), (⟨"FerryDeck$Answers", "own", "(II)I"⟩, 7), (⟨"FerryDeck$Answers", "answerAs", "(III)I"⟩, 7), (⟨"FerryDeck$Answers", "byBody", "(IIII)I"⟩, 7), (⟨"FerryDeck$Answers", "leave", "(I)V"⟩, 7), (⟨"FerryDeck$Answers", "above", "(III)I"⟩, 7), (⟨"FerryDeck", "vehicleAt", "(I)LFerryDeck$Vehicle;"⟩, 7), (⟨"FerryDeck", "laneAt", "(I)LFerryDeck$Lane;"⟩, 7), (⟨"FerryDeck", "price", "(LFerryDeck$Vehicle;)I"⟩, 7), (⟨"FerryDeck", "countOf", "(I)I"⟩, 7), (⟨"FerryDeck", "apart", "()I"⟩, 7), (⟨"FerryDeck", "longestMinutes", "()I"⟩, 7), (⟨"FerryDeckModel", "isVehicle", "(I)Z"⟩, 15), (⟨"FerryDeckModel", "length", "(I)I"⟩, 15), (⟨"FerryDeckModel", "began", "(I)V"⟩, 15), (⟨"FerryDeckModel", "mass", "(I)I"⟩, 15)]
theorem lw_r1 : ∀ q ∈ lw_privs_1, lw_okq q := List.forall_mem_cons.mpr ⟨lw_p0, List.forall_mem_cons.mpr ⟨lw_p1, List.forall_mem_cons.mpr ⟨lw_p2, List.forall_mem_cons.mpr ⟨lw_p3, List.forall_mem_cons.mpr ⟨lw_p4, List.forall_mem_cons.mpr ⟨lw_p5, List.forall_mem_cons.mpr ⟨lw_p6, List.forall_mem_cons.mpr ⟨lw_p7, List.forall_mem_cons.mpr ⟨lw_p8, List.forall_mem_cons.mpr ⟨lw_p9, List.forall_mem_cons.mpr ⟨lw_p10, List.forall_mem_cons.mpr ⟨lw_p11, List.forall_mem_cons.mpr ⟨lw_p12, List.forall_mem_cons.mpr ⟨lw_p13, List.forall_mem_cons.mpr ⟨lw_p14, List.forall_mem_cons.mpr ⟨lw_p15, fun _ h => absurd h List.not_mem_nil⟩⟩⟩⟩⟩⟩⟩⟩⟩⟩⟩⟩⟩⟩⟩⟩
theorem lw_p16 : lw_okq (⟨"FerryDeckModel", "minutes", "(I)I"⟩, 15) := ⟨⟨by decide +kernel, by decide +kernel⟩, List.mem_of_getElem? (i := 363) (by decide +kernel), List.mem_of_getElem? (i := 443) (by decide +kernel), List.mem_of_getElem? (i := 444) (by decide +kernel)⟩
theorem lw_p17 : lw_okq (⟨"FerryDeckModel", "fare", "(II)I"⟩, 15) := ⟨⟨by decide +kernel, by decide +kernel⟩, List.mem_of_getElem? (i := 363) (by decide +kernel), List.mem_of_getElem? (i := 447) (by decide +kernel), List.mem_of_getElem? (i := 448) (by decide +kernel)⟩
theorem lw_p18 : lw_okq (⟨"FerryDeckModel", "toll", "(I)I"⟩, 15) := ⟨⟨by decide +kernel, by decide +kernel⟩, List.mem_of_getElem? (i := 363) (by decide +kernel), List.mem_of_getElem? (i := 454) (by decide +kernel), List.mem_of_getElem? (i := 455) (by decide +kernel)⟩
theorem lw_p19 : lw_okq (⟨"FerryDeckModel", "danger", "(I)I"⟩, 15) := ⟨⟨by decide +kernel, by decide +kernel⟩, List.mem_of_getElem? (i := 363) (by decide +kernel), List.mem_of_getElem? (i := 461) (by decide +kernel), List.mem_of_getElem? (i := 462) (by decide +kernel)⟩
theorem lw_p20 : lw_okq (⟨"FerryDeckModel", "quiet", "(III)I"⟩, 15) := ⟨⟨by decide +kernel, by decide +kernel⟩, List.mem_of_getElem? (i := 363) (by decide +kernel), List.mem_of_getElem? (i := 485) (by decide +kernel), List.mem_of_getElem? (i := 486) (by decide +kernel)⟩
theorem lw_p21 : lw_okq (⟨"FerryDeckModel", "leftLength", "(I)I"⟩, 15) := ⟨⟨by decide +kernel, by decide +kernel⟩, List.mem_of_getElem? (i := 363) (by decide +kernel), List.mem_of_getElem? (i := 489) (by decide +kernel), List.mem_of_getElem? (i := 490) (by decide +kernel)⟩
theorem lw_p22 : lw_okq (⟨"FerryDeckModel", "carried", "(I)I"⟩, 15) := ⟨⟨by decide +kernel, by decide +kernel⟩, List.mem_of_getElem? (i := 363) (by decide +kernel), List.mem_of_getElem? (i := 493) (by decide +kernel), List.mem_of_getElem? (i := 494) (by decide +kernel)⟩
theorem lw_p23 : lw_okq (⟨"FerryDeckModel", "lasts", "(I)I"⟩, 15) := ⟨⟨by decide +kernel, by decide +kernel⟩, List.mem_of_getElem? (i := 363) (by decide +kernel), List.mem_of_getElem? (i := 505) (by decide +kernel), List.mem_of_getElem? (i := 506) (by decide +kernel)⟩
theorem lw_p24 : lw_okq (⟨"FerryDeckModel", "laneOf", "(I)I"⟩, 15) := ⟨⟨by decide +kernel, by decide +kernel⟩, List.mem_of_getElem? (i := 363) (by decide +kernel), List.mem_of_getElem? (i := 517) (by decide +kernel), List.mem_of_getElem? (i := 518) (by decide +kernel)⟩
theorem lw_p25 : lw_okq (⟨"FerryDeckModel", "aheadOf", "(I)I"⟩, 15) := ⟨⟨by decide +kernel, by decide +kernel⟩, List.mem_of_getElem? (i := 363) (by decide +kernel), List.mem_of_getElem? (i := 521) (by decide +kernel), List.mem_of_getElem? (i := 522) (by decide +kernel)⟩
def lw_privs_2 : List (MethodName × Nat) := [(⟨"FerryDeckModel", "minutes", "(I)I"⟩, 15), (⟨"FerryDeckModel", "fare", "(II)I"⟩, 15), (⟨"FerryDeckModel", "toll", "(I)I"⟩, 15), (⟨"FerryDeckModel", "danger", "(I)I"⟩, 15), (⟨"FerryDeckModel", "quiet", "(III)I"⟩, 15), (⟨"FerryDeckModel", "leftLength", "(I)I"⟩, 15), (⟨"FerryDeckModel", "carried", "(I)I"⟩, 15), (⟨"FerryDeckModel", "lasts", "(I)I"⟩, 15), (⟨"FerryDeckModel", "laneOf", "(I)I"⟩, 15), (⟨"FerryDeckModel", "aheadOf", "(I)I"⟩, 15)]
theorem lw_r2 : ∀ q ∈ lw_privs_2, lw_okq q := List.forall_mem_cons.mpr ⟨lw_p16, List.forall_mem_cons.mpr ⟨lw_p17, List.forall_mem_cons.mpr ⟨lw_p18, List.forall_mem_cons.mpr ⟨lw_p19, List.forall_mem_cons.mpr ⟨lw_p20, List.forall_mem_cons.mpr ⟨lw_p21, List.forall_mem_cons.mpr ⟨lw_p22, List.forall_mem_cons.mpr ⟨lw_p23, List.forall_mem_cons.mpr ⟨lw_p24, List.forall_mem_cons.mpr ⟨lw_p25, fun _ h => absurd h List.not_mem_nil⟩⟩⟩⟩⟩⟩⟩⟩⟩⟩
def lw_privs : List (MethodName × Nat) := lw_privs_1 ++ (lw_privs_2)
def lw_tbl : List Cond := k2_sels lw_privs ++ tables_1
theorem lw_privs_ok : ∀ q ∈ lw_privs, lw_okq q := by
  show ∀ q ∈ lw_privs_1 ++ (lw_privs_2), lw_okq q
  exact List.forall_mem_append.mpr ⟨lw_r1, lw_r2⟩
def RX0 : String := "FerryDeck$Answers"
def TX0 : u_T := fun k => match k with
  | 0 => ("FerryDeck$Answers", "trace", "[I", true)
  | 1 => ("FerryDeck$Answers", "traceLength", "I", false)
  | 2 => ("FerryDeck$Answers", "tracing", "Z", false)
  | 3 => ("FerryDeck$Answers", "askedKind", "I", false)
  | 4 => ("FerryDeck$Answers", "askedSize", "I", false)
  | 5 => ("FerryDeck$Answers", "askedLoad", "I", false)
  | _ => ("FerryDeck$Answers", "askedSeason", "I", false)
def tyX0 : Nat → FieldType := fun k => match k with
  | 0 => .array .int
  | 1 => .int
  | 2 => .boolean
  | 3 => .int
  | 4 => .int
  | 5 => .int
  | _ => .int
abbrev wsX00 : List Cond := u_ws RX0 TX0 7
theorem nmX0 : ∀ a, a < 7 → ∀ b, b < 7 → a ≠ b → (TX0 a).2.1 ≠ (TX0 b).2.1 := by decide +kernel
theorem tyX0_ok : ∀ k, k < 7 → parseFieldDescriptor (TX0 k).2.2.1 = some (tyX0 k) := by decide +kernel
abbrev cX0_init : ByteArray := prog_2_method_1_code
def yX0_init : MethodName := ⟨RX0, "<init>", "()V"⟩
abbrev cX0_answer : ByteArray := prog_2_method_2_code
def yX0_answer : MethodName := ⟨RX0, "answer", "(LFerryDeck$Vehicle;II)I"⟩
abbrev cX0_answerTraced : ByteArray := prog_2_method_3_code
def yX0_answerTraced : MethodName := ⟨RX0, "answerTraced", "(LFerryDeck$Vehicle;II)I"⟩
abbrev cX0_traceAt : ByteArray := prog_2_method_4_code
def yX0_traceAt : MethodName := ⟨RX0, "traceAt", "(I)I"⟩
abbrev cX0_own : ByteArray := prog_2_method_5_code
def yX0_own : MethodName := ⟨RX0, "own", "(II)I"⟩
abbrev cX0_above : ByteArray := prog_2_method_6_code
def yX0_above : MethodName := ⟨RX0, "above", "(III)I"⟩
abbrev cX0_answerAs : ByteArray := prog_2_method_7_code
def yX0_answerAs : MethodName := ⟨RX0, "answerAs", "(III)I"⟩
abbrev cX0_tellerOf : ByteArray := prog_2_method_8_code
def yX0_tellerOf : MethodName := ⟨RX0, "tellerOf", "(II)I"⟩
abbrev cX0_bodyOf : ByteArray := prog_2_method_9_code
def yX0_bodyOf : MethodName := ⟨RX0, "bodyOf", "(II)I"⟩
abbrev cX0_leave : ByteArray := prog_2_method_10_code
def yX0_leave : MethodName := ⟨RX0, "leave", "(I)V"⟩
abbrev cX0_byBody : ByteArray := prog_2_method_11_code
def yX0_byBody : MethodName := ⟨RX0, "byBody", "(IIII)I"⟩
abbrev cX0_lessATenth : ByteArray := prog_2_method_12_code
def yX0_lessATenth : MethodName := ⟨RX0, "lessATenth", "(I)I"⟩
def RX1 : String := "FerryDeck$Lane"
def TX1 : u_T := fun k => match k with
  | 0 => ("FerryDeck$Lane", "number", "I", true)
  | 1 => ("FerryDeck$Lane", "length", "I", false)
  | 2 => ("FerryDeck$Lane", "bearing", "I", false)
  | 3 => ("FerryDeck$Lane", "taken", "I", false)
  | 4 => ("FerryDeck$Lane", "carried", "I", false)
  | 5 => ("FerryDeck$Lane", "minutes", "I", false)
  | 6 => ("FerryDeck$Lane", "standing", "I", false)
  | 7 => ("FerryDeck$Lane", "first", "LFerryDeck$Vehicle;", false)
  | _ => ("FerryDeck$Lane", "last", "LFerryDeck$Vehicle;", false)
def tyX1 : Nat → FieldType := fun k => match k with
  | 0 => .int
  | 1 => .int
  | 2 => .int
  | 3 => .int
  | 4 => .int
  | 5 => .int
  | 6 => .int
  | 7 => .object "FerryDeck$Vehicle"
  | _ => .object "FerryDeck$Vehicle"
abbrev wsX10 : List Cond := u_ws RX1 TX1 9
theorem nmX1 : ∀ a, a < 9 → ∀ b, b < 9 → a ≠ b → (TX1 a).2.1 ≠ (TX1 b).2.1 := by decide +kernel
theorem tyX1_ok : ∀ k, k < 9 → parseFieldDescriptor (TX1 k).2.2.1 = some (tyX1 k) := by decide +kernel
abbrev cX1_init : ByteArray := prog_3_method_1_code
def yX1_init : MethodName := ⟨RX1, "<init>", "(I)V"⟩
abbrev cX1_lengthLeft : ByteArray := prog_3_method_2_code
def yX1_lengthLeft : MethodName := ⟨RX1, "lengthLeft", "()I"⟩
abbrev cX1_bearingLeft : ByteArray := prog_3_method_3_code
def yX1_bearingLeft : MethodName := ⟨RX1, "bearingLeft", "()I"⟩
abbrev cX1_hasRoomFor : ByteArray := prog_3_method_4_code
def yX1_hasRoomFor : MethodName := ⟨RX1, "hasRoomFor", "(LFerryDeck$Vehicle;)Z"⟩
abbrev cX1_append : ByteArray := prog_3_method_5_code
def yX1_append : MethodName := ⟨RX1, "append", "(LFerryDeck$Vehicle;)V"⟩
abbrev cX1_removeLast : ByteArray := prog_3_method_6_code
def yX1_removeLast : MethodName := ⟨RX1, "removeLast", "(I)V"⟩
abbrev cX1_sendAbroad : ByteArray := prog_3_method_7_code
def yX1_sendAbroad : MethodName := ⟨RX1, "sendAbroad", "()V"⟩
def RX2 : String := "FerryDeck$Vehicle"
def TX2 : u_T := fun k => match k with
  | 0 => ("FerryDeck$Vehicle", "number", "I", true)
  | 1 => ("FerryDeck$Vehicle", "kind", "I", true)
  | 2 => ("FerryDeck$Vehicle", "size", "I", true)
  | 3 => ("FerryDeck$Vehicle", "load", "I", true)
  | 4 => ("FerryDeck$Vehicle", "length", "I", false)
  | 5 => ("FerryDeck$Vehicle", "mass", "I", false)
  | 6 => ("FerryDeck$Vehicle", "minutes", "I", false)
  | 7 => ("FerryDeck$Vehicle", "toll", "I", false)
  | 8 => ("FerryDeck$Vehicle", "danger", "I", false)
  | 9 => ("FerryDeck$Vehicle", "how", "I", false)
  | 10 => ("FerryDeck$Vehicle", "lane", "I", false)
  | 11 => ("FerryDeck$Vehicle", "place", "I", false)
  | 12 => ("FerryDeck$Vehicle", "ahead", "LFerryDeck$Vehicle;", false)
  | _ => ("FerryDeck$Vehicle", "paid", "I", false)
def tyX2 : Nat → FieldType := fun k => match k with
  | 0 => .int
  | 1 => .int
  | 2 => .int
  | 3 => .int
  | 4 => .int
  | 5 => .int
  | 6 => .int
  | 7 => .int
  | 8 => .int
  | 9 => .int
  | 10 => .int
  | 11 => .int
  | 12 => .object "FerryDeck$Vehicle"
  | _ => .int
abbrev wsX20 : List Cond := u_ws RX2 TX2 14
theorem nmX2 : ∀ a, a < 14 → ∀ b, b < 14 → a ≠ b → (TX2 a).2.1 ≠ (TX2 b).2.1 := by decide +kernel
theorem tyX2_ok : ∀ k, k < 14 → parseFieldDescriptor (TX2 k).2.2.1 = some (tyX2 k) := by decide +kernel
abbrev cX2_init : ByteArray := prog_4_method_1_code
def yX2_init : MethodName := ⟨RX2, "<init>", "(IIII)V"⟩
abbrev cX2_isHeavy : ByteArray := prog_4_method_2_code
def yX2_isHeavy : MethodName := ⟨RX2, "isHeavy", "()Z"⟩
abbrev cX2_isMarked : ByteArray := prog_4_method_3_code
def yX2_isMarked : MethodName := ⟨RX2, "isMarked", "()Z"⟩
abbrev cX2_leaveDeck : ByteArray := prog_4_method_4_code
def yX2_leaveDeck : MethodName := ⟨RX2, "leaveDeck", "(I)V"⟩
def RX3 : String := "FerryDeck"
def TX3 : u_T := fun k => match k with
  | 0 => ("FerryDeck", "vehicles", "[LFerryDeck$Vehicle;", true)
  | 1 => ("FerryDeck", "vehicleCount", "I", false)
  | 2 => ("FerryDeck", "lanes", "[LFerryDeck$Lane;", true)
  | 3 => ("FerryDeck", "answers", "LFerryDeck$Answers;", true)
  | 4 => ("FerryDeck", "season", "I", false)
  | 5 => ("FerryDeck", "sailings", "I", false)
  | _ => ("FerryDeck", "till", "J", false)
def tyX3 : Nat → FieldType := fun k => match k with
  | 0 => .array (.object "FerryDeck$Vehicle")
  | 1 => .int
  | 2 => .array (.object "FerryDeck$Lane")
  | 3 => .object "FerryDeck$Answers"
  | 4 => .int
  | 5 => .int
  | _ => .long
abbrev wsX30 : List Cond := u_ws RX3 TX3 7
theorem nmX3 : ∀ a, a < 7 → ∀ b, b < 7 → a ≠ b → (TX3 a).2.1 ≠ (TX3 b).2.1 := by decide +kernel
theorem tyX3_ok : ∀ k, k < 7 → parseFieldDescriptor (TX3 k).2.2.1 = some (tyX3 k) := by decide +kernel
abbrev cX3_init : ByteArray := prog_1_method_1_code
def yX3_init : MethodName := ⟨RX3, "<init>", "()V"⟩
abbrev cX3_vehicle : ByteArray := prog_1_method_2_code
def yX3_vehicle : MethodName := ⟨RX3, "vehicle", "(III)I"⟩
abbrev cX3_ask : ByteArray := prog_1_method_3_code
def yX3_ask : MethodName := ⟨RX3, "ask", "(III)I"⟩
abbrev cX3_trace : ByteArray := prog_1_method_4_code
def yX3_trace : MethodName := ⟨RX3, "trace", "(I)I"⟩
abbrev cX3_lane : ByteArray := prog_1_method_5_code
def yX3_lane : MethodName := ⟨RX3, "lane", "(III)I"⟩
abbrev cX3_season : ByteArray := prog_1_method_6_code
def yX3_season : MethodName := ⟨RX3, "season", "(I)I"⟩
abbrev cX3_board : ByteArray := prog_1_method_7_code
def yX3_board : MethodName := ⟨RX3, "board", "(II)I"⟩
abbrev cX3_off : ByteArray := prog_1_method_8_code
def yX3_off : MethodName := ⟨RX3, "off", "(I)I"⟩
abbrev cX3_sail : ByteArray := prog_1_method_9_code
def yX3_sail : MethodName := ⟨RX3, "sail", "()I"⟩
abbrev cX3_back : ByteArray := prog_1_method_10_code
def yX3_back : MethodName := ⟨RX3, "back", "(I)I"⟩
abbrev cX3_told : ByteArray := prog_1_method_11_code
def yX3_told : MethodName := ⟨RX3, "told", "(II)I"⟩
abbrev cX3_deck : ByteArray := prog_1_method_12_code
def yX3_deck : MethodName := ⟨RX3, "deck", "(II)I"⟩
abbrev cX3_count : ByteArray := prog_1_method_13_code
def yX3_count : MethodName := ⟨RX3, "count", "(I)I"⟩
abbrev cX3_till : ByteArray := prog_1_method_14_code
def yX3_till : MethodName := ⟨RX3, "till", "()J"⟩
abbrev cX3_within : ByteArray := prog_1_method_15_code
def yX3_within : MethodName := ⟨RX3, "within", "(III)Z"⟩
abbrev cX3_vehicleAt : ByteArray := prog_1_method_16_code
def yX3_vehicleAt : MethodName := ⟨RX3, "vehicleAt", "(I)LFerryDeck$Vehicle;"⟩
abbrev cX3_laneAt : ByteArray := prog_1_method_17_code
def yX3_laneAt : MethodName := ⟨RX3, "laneAt", "(I)LFerryDeck$Lane;"⟩
abbrev cX3_numberOf : ByteArray := prog_1_method_18_code
def yX3_numberOf : MethodName := ⟨RX3, "numberOf", "(LFerryDeck$Vehicle;)I"⟩
abbrev cX3_countOf : ByteArray := prog_1_method_19_code
def yX3_countOf : MethodName := ⟨RX3, "countOf", "(I)I"⟩
abbrev cX3_measure : ByteArray := prog_1_method_20_code
def yX3_measure : MethodName := ⟨RX3, "measure", "(LFerryDeck$Vehicle;)V"⟩
abbrev cX3_price : ByteArray := prog_1_method_21_code
def yX3_price : MethodName := ⟨RX3, "price", "(LFerryDeck$Vehicle;)I"⟩
abbrev cX3_tooNear : ByteArray := prog_1_method_22_code
def yX3_tooNear : MethodName := ⟨RX3, "tooNear", "(LFerryDeck$Vehicle;LFerryDeck$Vehicle;)Z"⟩
abbrev cX3_apart : ByteArray := prog_1_method_23_code
def yX3_apart : MethodName := ⟨RX3, "apart", "()I"⟩
abbrev cX3_longestMinutes : ByteArray := prog_1_method_24_code
def yX3_longestMinutes : MethodName := ⟨RX3, "longestMinutes", "()I"⟩
def RX4 : String := "FerryDeckModel"
def TX4 : u_T := fun k => match k with
  | 0 => ("FerryDeckModel", "vehicles", "I", false)
  | 1 => ("FerryDeckModel", "kind", "[I", true)
  | 2 => ("FerryDeckModel", "size", "[I", true)
  | 3 => ("FerryDeckModel", "load", "[I", true)
  | 4 => ("FerryDeckModel", "state", "[I", true)
  | 5 => ("FerryDeckModel", "paid", "[I", true)
  | 6 => ("FerryDeckModel", "lengths", "[I", true)
  | 7 => ("FerryDeckModel", "bearings", "[I", true)
  | 8 => ("FerryDeckModel", "many", "[I", true)
  | 9 => ("FerryDeckModel", "stands", "[I", true)
  | 10 => ("FerryDeckModel", "season", "I", false)
  | 11 => ("FerryDeckModel", "sails", "I", false)
  | 12 => ("FerryDeckModel", "till", "J", false)
  | 13 => ("FerryDeckModel", "trace", "[I", true)
  | _ => ("FerryDeckModel", "traced", "I", false)
def tyX4 : Nat → FieldType := fun k => match k with
  | 0 => .int
  | 1 => .array .int
  | 2 => .array .int
  | 3 => .array .int
  | 4 => .array .int
  | 5 => .array .int
  | 6 => .array .int
  | 7 => .array .int
  | 8 => .array .int
  | 9 => .array .int
  | 10 => .int
  | 11 => .int
  | 12 => .long
  | 13 => .array .int
  | _ => .int
abbrev wsX40 : List Cond := u_ws RX4 TX4 15
theorem nmX4 : ∀ a, a < 15 → ∀ b, b < 15 → a ≠ b → (TX4 a).2.1 ≠ (TX4 b).2.1 := by decide +kernel
theorem tyX4_ok : ∀ k, k < 15 → parseFieldDescriptor (TX4 k).2.2.1 = some (tyX4 k) := by decide +kernel
abbrev cX4_init : ByteArray := prog_6_method_1_code
def yX4_init : MethodName := ⟨RX4, "<init>", "()V"⟩
abbrev cX4_in : ByteArray := prog_6_method_3_code
def yX4_in : MethodName := ⟨RX4, "in", "(III)Z"⟩
abbrev cX4_isVehicle : ByteArray := prog_6_method_4_code
def yX4_isVehicle : MethodName := ⟨RX4, "isVehicle", "(I)Z"⟩
abbrev cX4_isLane : ByteArray := prog_6_method_5_code
def yX4_isLane : MethodName := ⟨RX4, "isLane", "(I)Z"⟩
abbrev cX4_vehicle : ByteArray := prog_6_method_6_code
def yX4_vehicle : MethodName := ⟨RX4, "vehicle", "(III)I"⟩
abbrev cX4_began : ByteArray := prog_6_method_7_code
def yX4_began : MethodName := ⟨RX4, "began", "(I)V"⟩
abbrev cX4_length : ByteArray := prog_6_method_8_code
def yX4_length : MethodName := ⟨RX4, "length", "(I)I"⟩
abbrev cX4_mass : ByteArray := prog_6_method_9_code
def yX4_mass : MethodName := ⟨RX4, "mass", "(I)I"⟩
abbrev cX4_minutes : ByteArray := prog_6_method_10_code
def yX4_minutes : MethodName := ⟨RX4, "minutes", "(I)I"⟩
abbrev cX4_fare : ByteArray := prog_6_method_11_code
def yX4_fare : MethodName := ⟨RX4, "fare", "(II)I"⟩
abbrev cX4_isHeavy : ByteArray := prog_6_method_12_code
def yX4_isHeavy : MethodName := ⟨RX4, "isHeavy", "(I)Z"⟩
abbrev cX4_isMarked : ByteArray := prog_6_method_13_code
def yX4_isMarked : MethodName := ⟨RX4, "isMarked", "(I)Z"⟩
abbrev cX4_toll : ByteArray := prog_6_method_14_code
def yX4_toll : MethodName := ⟨RX4, "toll", "(I)I"⟩
abbrev cX4_danger : ByteArray := prog_6_method_15_code
def yX4_danger : MethodName := ⟨RX4, "danger", "(I)I"⟩
abbrev cX4_ask : ByteArray := prog_6_method_16_code
def yX4_ask : MethodName := ⟨RX4, "ask", "(III)I"⟩
abbrev cX4_trace : ByteArray := prog_6_method_17_code
def yX4_trace : MethodName := ⟨RX4, "trace", "(I)I"⟩
abbrev cX4_quiet : ByteArray := prog_6_method_18_code
def yX4_quiet : MethodName := ⟨RX4, "quiet", "(III)I"⟩
abbrev cX4_lane : ByteArray := prog_6_method_19_code
def yX4_lane : MethodName := ⟨RX4, "lane", "(III)I"⟩
abbrev cX4_season : ByteArray := prog_6_method_20_code
def yX4_season : MethodName := ⟨RX4, "season", "(I)I"⟩
abbrev cX4_leftLength : ByteArray := prog_6_method_21_code
def yX4_leftLength : MethodName := ⟨RX4, "leftLength", "(I)I"⟩
abbrev cX4_carried : ByteArray := prog_6_method_22_code
def yX4_carried : MethodName := ⟨RX4, "carried", "(I)I"⟩
abbrev cX4_lasts : ByteArray := prog_6_method_23_code
def yX4_lasts : MethodName := ⟨RX4, "lasts", "(I)I"⟩
abbrev cX4_board : ByteArray := prog_6_method_24_code
def yX4_board : MethodName := ⟨RX4, "board", "(II)I"⟩
abbrev cX4_off : ByteArray := prog_6_method_25_code
def yX4_off : MethodName := ⟨RX4, "off", "(I)I"⟩
abbrev cX4_sail : ByteArray := prog_6_method_26_code
def yX4_sail : MethodName := ⟨RX4, "sail", "()I"⟩
abbrev cX4_back : ByteArray := prog_6_method_27_code
def yX4_back : MethodName := ⟨RX4, "back", "(I)I"⟩
abbrev cX4_laneOf : ByteArray := prog_6_method_28_code
def yX4_laneOf : MethodName := ⟨RX4, "laneOf", "(I)I"⟩
abbrev cX4_aheadOf : ByteArray := prog_6_method_29_code
def yX4_aheadOf : MethodName := ⟨RX4, "aheadOf", "(I)I"⟩
abbrev cX4_told : ByteArray := prog_6_method_30_code
def yX4_told : MethodName := ⟨RX4, "told", "(II)I"⟩
abbrev cX4_deck : ByteArray := prog_6_method_31_code
def yX4_deck : MethodName := ⟨RX4, "deck", "(II)I"⟩
abbrev cX4_count : ByteArray := prog_6_method_32_code
def yX4_count : MethodName := ⟨RX4, "count", "(I)I"⟩
abbrev cX4_till : ByteArray := prog_6_method_33_code
def yX4_till : MethodName := ⟨RX4, "till", "()J"⟩
def RJ9 : String := "java/lang/Math"
def RL : String := "FerryDeckLaw"
abbrev cL_law : ByteArray := code
def yL_law : MethodName := ⟨RL, "law", "([I)Z"⟩
abbrev vwCl : List vw_C := [(RX0, TX0, 7), (RX1, TX1, 9), (RX2, TX2, 14), (RX3, TX3, 7), (RX4, TX4, 15)]
end
section
/-! THE ABSTRACT MACHINE: cells by number (0 the deck, 1 its vehicles' row, 2 its lanes' row, 3 the answers, 4 their trace, 5 to 8 the lanes, 9 the model, 10 to 19 its rows, 20 + i vehicle i); a value is an int, a long, a reference to a cell (none: null), or one of the given rows (0 ABOVE, 1 TOLD_BODIES, 2 the script) -/
abbrev fd_V : Type := Int32 ⊕ Int64 ⊕ Option Nat ⊕ Nat
/-- a state: how many cells, the ints of each cell, its references, its longs -/
abbrev fd_S : Type := Nat × (Nat → Nat → Int32) × (Nat → Nat → Option Nat) × (Nat → Nat → Int64)
/-- an instruction: where, what, how long, its constant, its operands resolved -/
abbrev fd_E : Type := Nat × Instr × Nat × Int32 × List Nat
abbrev fd_MI : Type := MethodName × ByteArray × Nat × Option FieldType × Nat × Nat × Nat × Nat
abbrev fd_L : Type := List (Nat × fd_V)
def fd_u {α : Type} (f : Nat → Nat → α) (a k : Nat) (v : α) : Nat → Nat → α := fun i j => if i = a then (if j = k then v else f i j) else f i j
def fd_u0 {α : Type} (f : Nat → Nat → α) (a : Nat) (z : α) : Nat → Nat → α := fun i j => if i = a then z else f i j
def fd_get : fd_L → Nat → Option fd_V
  | [], _ => none
  | q :: l, i => match q.1 == i with
    | true => some q.2
    | false => fd_get l i
def fd_cat : fd_V → Nat
  | .inr (.inl _) => 2
  | _ => 1
def fd_put (lv : fd_L) (i : Nat) (v : fd_V) : fd_L := (i, v) :: lv.filter (fun q => !(q.1 == i) && !(q.1 + 1 == i && fd_cat q.2 == 2))
def fd_cats (st : List fd_V) : Nat := (st.map fd_cat).sum
def fd_args : Nat → List fd_V → fd_L
  | _, [] => []
  | i, v :: vs => (i, v) :: fd_args (if fd_cat v = 2 then i + 2 else i + 1) vs
/-- what a cell is: an object of class number c (.inl c), a row of n ints or of n references to class c -/
def fd_sh (a : Nat) : Nat ⊕ (Nat × Option Nat) := [.inl 3, .inr (60, some 2), .inr (4, some 1), .inl 0, .inr (10, none), .inl 1, .inl 1, .inl 1, .inl 1, .inl 4, .inr (60, none), .inr (60, none), .inr (60, none), .inr (60, none), .inr (60, none), .inr (4, none), .inr (4, none), .inr (4, none), .inr (240, none), .inr (60, none)].getD a (.inl 2)
def fd_alloc (σ : fd_S) : fd_S := (σ.1 + 1, fd_u0 σ.2.1 σ.1 0, fd_u0 σ.2.2.1 σ.1 none, fd_u0 σ.2.2.2 σ.1 0)
def fd_si (σ : fd_S) (a k : Nat) (v : Int32) : fd_S := (σ.1, fd_u σ.2.1 a k v, σ.2.2.1, σ.2.2.2)
def fd_sr (σ : fd_S) (a k : Nat) (v : Option Nat) : fd_S := (σ.1, σ.2.1, fd_u σ.2.2.1 a k v, σ.2.2.2)
def fd_sl (σ : fd_S) (a k : Nat) (v : Int64) : fd_S := (σ.1, σ.2.1, σ.2.2.1, fd_u σ.2.2.2 a k v)
def fd_ok1 (N : Nat) : fd_V → Prop
  | .inr (.inr (.inl o)) => ∀ a, o = some a → a < N
  | _ => True
def fd_okV (N : Nat) (l : List fd_V) : Prop := ∀ v ∈ l, fd_ok1 N v
def fd_okL (N : Nat) (l : fd_L) : Prop := ∀ q ∈ l, fd_ok1 N q.2
def fd_clo (σ : fd_S) : Prop := ∀ a k x, σ.2.2.1 a k = some x → x < σ.1
/-- the given rows -/
def fd_sa (k j : Nat) : Int32 := if k = 0 then ([-1, 0, 1, 2, 3, 0, 5] : List Int32).getD j 0 else ([1, 0, 2, 0, 3, 0, 4, 11, 12, 0, 13, 0, 0, 14, 21, 0, 0, 0, 22, 0, 0, 31, 32, 0, 33, 34, 0, 35, 0, 0, 41, 42, 0, 0, 41, 0, 0, 0, 51, 0, 51, 52] : List Int32).getD j 0
def fd_sn (k : Nat) : Nat := if k = 0 then 7 else 42
def fd_popn : Nat → List fd_V → List fd_V → Option (List fd_V × List fd_V)
  | 0, as, st => some (as, st)
  | _ + 1, _, [] => none
  | n + 1, as, v :: st => fd_popn n (v :: as) st
end
section
def kX0_init : List fd_E := [(0, .aload_n 0, 1, 0, [0]),
  (1, .invokespecial 3, 3, 0, [0, 5]),
  (4, .aload_n 0, 1, 0, [0]),
  (5, .bipush 10, 2, 10, []),
  (7, .newarray .int, 2, 0, []),
  (9, .putfield 11, 3, 0, [0, 0, 1, 1]),
  (12, .aload_n 0, 1, 0, [0]),
  (13, .iconst 0, 1, 0, []),
  (14, .putfield 15, 3, 0, [0, 1, 0, 0]),
  (17, .aload_n 0, 1, 0, [0]),
  (18, .iconst 0, 1, 0, []),
  (19, .putfield 19, 3, 0, [0, 2, 3, 0]),
  (22, .aload_n 0, 1, 0, [0]),
  (23, .iconst 0, 1, 0, []),
  (24, .putfield 23, 3, 0, [0, 3, 0, 0]),
  (27, .aload_n 0, 1, 0, [0]),
  (28, .iconst 0, 1, 0, []),
  (29, .putfield 26, 3, 0, [0, 4, 0, 0]),
  (32, .aload_n 0, 1, 0, [0]),
  (33, .iconst 0, 1, 0, []),
  (34, .putfield 29, 3, 0, [0, 5, 0, 0]),
  (37, .aload_n 0, 1, 0, [0]),
  (38, .iconst 0, 1, 0, []),
  (39, .putfield 32, 3, 0, [0, 6, 0, 0]),
  (42, .return_, 1, 0, []),
  (43, .athrow, 0, 0, [])]
def kX0_answer : List fd_E := [(0, .aload_n 0, 1, 0, [0]),
  (1, .aload_n 1, 1, 0, [1]),
  (2, .getfield 35, 3, 0, [2, 1, 0]),
  (5, .putfield 23, 3, 0, [0, 3, 0, 0]),
  (8, .aload_n 0, 1, 0, [0]),
  (9, .aload_n 1, 1, 0, [1]),
  (10, .getfield 40, 3, 0, [2, 2, 0]),
  (13, .putfield 26, 3, 0, [0, 4, 0, 0]),
  (16, .aload_n 0, 1, 0, [0]),
  (17, .aload_n 1, 1, 0, [1]),
  (18, .getfield 43, 3, 0, [2, 3, 0]),
  (21, .putfield 29, 3, 0, [0, 5, 0, 0]),
  (24, .aload_n 0, 1, 0, [0]),
  (25, .iload_n 3, 1, 0, [3]),
  (26, .putfield 32, 3, 0, [0, 6, 0, 0]),
  (29, .aload_n 0, 1, 0, [0]),
  (30, .iload_n 2, 1, 0, [2]),
  (31, .iconst 0, 1, 0, []),
  (32, .invokevirtual 46, 3, 0, [4, 0]),
  (35, .ireturn, 1, 0, []),
  (36, .athrow, 0, 0, [])]
def kX0_answerTraced : List fd_E := [(0, .aload_n 0, 1, 0, [0]),
  (1, .iconst 0, 1, 0, []),
  (2, .putfield 15, 3, 0, [0, 1, 0, 0]),
  (5, .aload_n 0, 1, 0, [0]),
  (6, .iconst 1, 1, 1, []),
  (7, .putfield 19, 3, 0, [0, 2, 3, 0]),
  (10, .aload_n 0, 1, 0, [0]),
  (11, .aload_n 1, 1, 0, [1]),
  (12, .iload_n 2, 1, 0, [2]),
  (13, .iload_n 3, 1, 0, [3]),
  (14, .invokevirtual 50, 3, 0, [1, 0]),
  (17, .istore 4, 2, 0, [4]),
  (19, .aload_n 0, 1, 0, [0]),
  (20, .iconst 0, 1, 0, []),
  (21, .putfield 19, 3, 0, [0, 2, 3, 0]),
  (24, .iload 4, 2, 0, [4]),
  (26, .ireturn, 1, 0, []),
  (27, .athrow, 0, 0, [])]
def kX0_traceAt : List fd_E := [(0, .iload_n 1, 1, 0, [1]),
  (1, .iconst 0, 1, 0, []),
  (2, .aload_n 0, 1, 0, [0]),
  (3, .getfield 15, 3, 0, [0, 1, 0]),
  (6, .iconst 1, 1, 1, []),
  (7, .isub, 1, 0, []),
  (8, .invokestatic 54, 3, 0, [37, 3]),
  (11, .ifCond .eq 12, 3, 0, [13]),
  (14, .aload_n 0, 1, 0, [0]),
  (15, .getfield 11, 3, 0, [0, 0, 1]),
  (18, .iload_n 1, 1, 0, [1]),
  (19, .iaload, 1, 0, []),
  (20, .goto 4, 3, 0, [14]),
  (23, .iconst (-1), 1, -1, []),
  (24, .ireturn, 1, 0, []),
  (25, .athrow, 0, 0, [])]
def kX0_own : List fd_E := [(0, .aload_n 0, 1, 0, [0]),
  (1, .aload_n 0, 1, 0, [0]),
  (2, .getfield 23, 3, 0, [0, 3, 0]),
  (5, .iload_n 1, 1, 0, [1]),
  (6, .iload_n 2, 1, 0, [2]),
  (7, .invokevirtual 58, 3, 0, [6, 0]),
  (10, .ireturn, 1, 0, []),
  (11, .athrow, 0, 0, [])]
def kX0_above : List fd_E := [(0, .iload_n 1, 1, 0, [1]),
  (1, .iconst 0, 1, 0, []),
  (2, .bipush 6, 2, 6, []),
  (4, .invokestatic 54, 3, 0, [37, 3]),
  (7, .ifCond .eq 17, 3, 0, [13]),
  (10, .aload_n 0, 1, 0, [0]),
  (11, .getstatic 62, 3, 0, [0]),
  (14, .iload_n 1, 1, 0, [1]),
  (15, .iaload, 1, 0, []),
  (16, .iload_n 2, 1, 0, [2]),
  (17, .iload_n 3, 1, 0, [3]),
  (18, .invokevirtual 58, 3, 0, [6, 0]),
  (21, .goto 5, 3, 0, [14]),
  (24, .bipush (-3), 2, -3, []),
  (26, .ireturn, 1, 0, []),
  (27, .athrow, 0, 0, [])]
def kX0_answerAs : List fd_E := [(0, .iload_n 1, 1, 0, [1]),
  (1, .iload_n 2, 1, 0, [2]),
  (2, .invokestatic 65, 3, 0, [7, 1]),
  (5, .istore 4, 2, 0, [4]),
  (7, .iload 4, 2, 0, [4]),
  (9, .iconst (-1), 1, -1, []),
  (10, .if_icmp .eq 9, 3, 0, [10]),
  (13, .iload_n 3, 1, 0, [3]),
  (14, .bipush 16, 2, 16, []),
  (16, .if_icmp .lt 6, 3, 0, [12]),
  (19, .bipush (-3), 2, -3, []),
  (21, .ireturn, 1, 0, []),
  (22, .aload_n 0, 1, 0, [0]),
  (23, .iload 4, 2, 0, [4]),
  (25, .iload_n 2, 1, 0, [2]),
  (26, .invokestatic 68, 3, 0, [8, 1]),
  (29, .iload 4, 2, 0, [4]),
  (31, .iload_n 2, 1, 0, [2]),
  (32, .iload_n 3, 1, 0, [3]),
  (33, .iconst 1, 1, 1, []),
  (34, .iadd, 1, 0, []),
  (35, .invokevirtual 71, 3, 0, [10, 0]),
  (38, .ireturn, 1, 0, []),
  (39, .athrow, 0, 0, [])]
def kX0_tellerOf : List fd_E := [(0, .iload_n 0, 1, 0, [0]),
  (1, .istore_n 2, 1, 0, [2]),
  (2, .iconst 0, 1, 0, []),
  (3, .istore_n 3, 1, 0, [3]),
  (4, .iload_n 3, 1, 0, [3]),
  (5, .bipush 7, 2, 7, []),
  (7, .if_icmp .ge 35, 3, 0, [24]),
  (10, .iload_n 2, 1, 0, [2]),
  (11, .iconst 0, 1, 0, []),
  (12, .bipush 6, 2, 6, []),
  (14, .invokestatic 54, 3, 0, [37, 3]),
  (17, .ifCond .eq 25, 3, 0, [24]),
  (20, .iload_n 2, 1, 0, [2]),
  (21, .iload_n 1, 1, 0, [1]),
  (22, .invokestatic 68, 3, 0, [8, 1]),
  (25, .ifCond .eq 5, 3, 0, [18]),
  (28, .iload_n 2, 1, 0, [2]),
  (29, .ireturn, 1, 0, []),
  (30, .getstatic 62, 3, 0, [0]),
  (33, .iload_n 2, 1, 0, [2]),
  (34, .iaload, 1, 0, []),
  (35, .istore_n 2, 1, 0, [2]),
  (36, .iinc 3 1, 3, 1, [3]),
  (39, .goto (-35), 3, 0, [4]),
  (42, .iconst (-1), 1, -1, []),
  (43, .ireturn, 1, 0, []),
  (44, .athrow, 0, 0, [])]
def kX0_bodyOf : List fd_E := [(0, .iload_n 1, 1, 0, [1]),
  (1, .bipush 7, 2, 7, []),
  (3, .imul, 1, 0, []),
  (4, .iload_n 0, 1, 0, [0]),
  (5, .iadd, 1, 0, []),
  (6, .istore_n 2, 1, 0, [2]),
  (7, .iload_n 2, 1, 0, [2]),
  (8, .ifCond .lt 19, 3, 0, [16]),
  (11, .iload_n 2, 1, 0, [2]),
  (12, .getstatic 75, 3, 0, [1]),
  (15, .arraylength, 1, 0, []),
  (16, .if_icmp .ge 11, 3, 0, [16]),
  (19, .getstatic 75, 3, 0, [1]),
  (22, .iload_n 2, 1, 0, [2]),
  (23, .iaload, 1, 0, []),
  (24, .goto 4, 3, 0, [17]),
  (27, .iconst 0, 1, 0, []),
  (28, .ireturn, 1, 0, []),
  (29, .athrow, 0, 0, [])]
def kX0_leave : List fd_E := [(0, .aload_n 0, 1, 0, [0]),
  (1, .getfield 19, 3, 0, [0, 2, 3]),
  (4, .ifCond .eq 32, 3, 0, [19]),
  (7, .aload_n 0, 1, 0, [0]),
  (8, .getfield 15, 3, 0, [0, 1, 0]),
  (11, .bipush 10, 2, 10, []),
  (13, .if_icmp .ge 23, 3, 0, [19]),
  (16, .aload_n 0, 1, 0, [0]),
  (17, .getfield 11, 3, 0, [0, 0, 1]),
  (20, .aload_n 0, 1, 0, [0]),
  (21, .getfield 15, 3, 0, [0, 1, 0]),
  (24, .iload_n 1, 1, 0, [1]),
  (25, .iastore, 1, 0, []),
  (26, .aload_n 0, 1, 0, [0]),
  (27, .dup, 1, 0, []),
  (28, .getfield 15, 3, 0, [0, 1, 0]),
  (31, .iconst 1, 1, 1, []),
  (32, .iadd, 1, 0, []),
  (33, .putfield 15, 3, 0, [0, 1, 0, 0]),
  (36, .return_, 1, 0, []),
  (37, .athrow, 0, 0, [])]
def kX0_byBody : List fd_E := [(0, .aload_n 0, 1, 0, [0]),
  (1, .iload_n 1, 1, 0, [1]),
  (2, .invokevirtual 78, 3, 0, [9, 0]),
  (5, .iload_n 1, 1, 0, [1]),
  (6, .tableswitch 469 1 52 #[222, 227, 239, 250, 469, 469, 469, 469, 469, 469, 261, 270, 283, 299, 469, 469, 469, 469, 469, 469, 312, 325, 469, 469, 469, 469, 469, 469, 469, 469, 337, 357, 374, 385, 405, 469, 469, 469, 469, 469, 417, 429, 469, 469, 469, 469, 469, 469, 469, 469, 444, 456], 222, 1, [166, 5, 8, 16, 24, 166, 166, 166, 166, 166, 166, 32, 37, 45, 56, 166, 166, 166, 166, 166, 166, 64, 73, 166, 166, 166, 166, 166, 166, 166, 166, 81, 93, 104, 112, 125, 166, 166, 166, 166, 166, 132, 139, 166, 166, 166, 166, 166, 166, 166, 166, 148, 157]),
  (228, .aload_n 0, 1, 0, [0]),
  (229, .getfield 26, 3, 0, [0, 4, 0]),
  (232, .ireturn, 1, 0, []),
  (233, .aload_n 0, 1, 0, [0]),
  (234, .iload_n 2, 1, 0, [2]),
  (235, .iload_n 3, 1, 0, [3]),
  (236, .iload 4, 2, 0, [4]),
  (238, .invokevirtual 82, 3, 0, [5, 0]),
  (241, .bipush 10, 2, 10, []),
  (243, .iadd, 1, 0, []),
  (244, .ireturn, 1, 0, []),
  (245, .iconst 2, 1, 2, []),
  (246, .aload_n 0, 1, 0, [0]),
  (247, .iload_n 2, 1, 0, [2]),
  (248, .iload_n 3, 1, 0, [3]),
  (249, .iload 4, 2, 0, [4]),
  (251, .invokevirtual 82, 3, 0, [5, 0]),
  (254, .imul, 1, 0, []),
  (255, .ireturn, 1, 0, []),
  (256, .aload_n 0, 1, 0, [0]),
  (257, .iload_n 2, 1, 0, [2]),
  (258, .iload_n 3, 1, 0, [3]),
  (259, .iload 4, 2, 0, [4]),
  (261, .invokevirtual 82, 3, 0, [5, 0]),
  (264, .iconst 5, 1, 5, []),
  (265, .iadd, 1, 0, []),
  (266, .ireturn, 1, 0, []),
  (267, .sipush 1200, 3, 1200, []),
  (270, .aload_n 0, 1, 0, [0]),
  (271, .getfield 29, 3, 0, [0, 5, 0]),
  (274, .iadd, 1, 0, []),
  (275, .ireturn, 1, 0, []),
  (276, .aload_n 0, 1, 0, [0]),
  (277, .iload_n 2, 1, 0, [2]),
  (278, .iload_n 3, 1, 0, [3]),
  (279, .iload 4, 2, 0, [4]),
  (281, .invokevirtual 82, 3, 0, [5, 0]),
  (284, .sipush 800, 3, 800, []),
  (287, .iadd, 1, 0, []),
  (288, .ireturn, 1, 0, []),
  (289, .aload_n 0, 1, 0, [0]),
  (290, .iload_n 2, 1, 0, [2]),
  (291, .iload_n 3, 1, 0, [3]),
  (292, .iload 4, 2, 0, [4]),
  (294, .invokevirtual 82, 3, 0, [5, 0]),
  (297, .aload_n 0, 1, 0, [0]),
  (298, .getfield 29, 3, 0, [0, 5, 0]),
  (301, .iconst 4, 1, 4, []),
  (302, .idiv, 1, 0, []),
  (303, .iadd, 1, 0, []),
  (304, .ireturn, 1, 0, []),
  (305, .aload_n 0, 1, 0, [0]),
  (306, .iload_n 2, 1, 0, [2]),
  (307, .iload_n 3, 1, 0, [3]),
  (308, .iload 4, 2, 0, [4]),
  (310, .invokevirtual 82, 3, 0, [5, 0]),
  (313, .sipush 9000, 3, 9000, []),
  (316, .iadd, 1, 0, []),
  (317, .ireturn, 1, 0, []),
  (318, .iconst 1, 1, 1, []),
  (319, .aload_n 0, 1, 0, [0]),
  (320, .iconst 0, 1, 0, []),
  (321, .iload 4, 2, 0, [4]),
  (323, .invokevirtual 46, 3, 0, [4, 0]),
  (326, .bipush 50, 2, 50, []),
  (328, .idiv, 1, 0, []),
  (329, .iadd, 1, 0, []),
  (330, .ireturn, 1, 0, []),
  (331, .aload_n 0, 1, 0, [0]),
  (332, .iload_n 2, 1, 0, [2]),
  (333, .iload_n 3, 1, 0, [3]),
  (334, .iload 4, 2, 0, [4]),
  (336, .invokevirtual 82, 3, 0, [5, 0]),
  (339, .bipush 6, 2, 6, []),
  (341, .iadd, 1, 0, []),
  (342, .ireturn, 1, 0, []),
  (343, .sipush 500, 3, 500, []),
  (346, .aload_n 0, 1, 0, [0]),
  (347, .iconst 0, 1, 0, []),
  (348, .iload 4, 2, 0, [4]),
  (350, .invokevirtual 46, 3, 0, [4, 0]),
  (353, .bipush 10, 2, 10, []),
  (355, .aload_n 0, 1, 0, [0]),
  (356, .getfield 32, 3, 0, [0, 6, 0]),
  (359, .iadd, 1, 0, []),
  (360, .imul, 1, 0, []),
  (361, .iadd, 1, 0, []),
  (362, .ireturn, 1, 0, []),
  (363, .aload_n 0, 1, 0, [0]),
  (364, .iload_n 2, 1, 0, [2]),
  (365, .iload_n 3, 1, 0, [3]),
  (366, .iload 4, 2, 0, [4]),
  (368, .invokevirtual 82, 3, 0, [5, 0]),
  (371, .bipush 20, 2, 20, []),
  (373, .aload_n 0, 1, 0, [0]),
  (374, .getfield 32, 3, 0, [0, 6, 0]),
  (377, .imul, 1, 0, []),
  (378, .iadd, 1, 0, []),
  (379, .ireturn, 1, 0, []),
  (380, .iconst 2, 1, 2, []),
  (381, .aload_n 0, 1, 0, [0]),
  (382, .iload_n 2, 1, 0, [2]),
  (383, .iload_n 3, 1, 0, [3]),
  (384, .iload 4, 2, 0, [4]),
  (386, .invokevirtual 82, 3, 0, [5, 0]),
  (389, .imul, 1, 0, []),
  (390, .ireturn, 1, 0, []),
  (391, .aload_n 0, 1, 0, [0]),
  (392, .iload_n 2, 1, 0, [2]),
  (393, .iload_n 3, 1, 0, [3]),
  (394, .iload 4, 2, 0, [4]),
  (396, .invokevirtual 82, 3, 0, [5, 0]),
  (399, .aload_n 0, 1, 0, [0]),
  (400, .iconst 1, 1, 1, []),
  (401, .iload 4, 2, 0, [4]),
  (403, .invokevirtual 46, 3, 0, [4, 0]),
  (406, .bipush 100, 2, 100, []),
  (408, .idiv, 1, 0, []),
  (409, .iadd, 1, 0, []),
  (410, .ireturn, 1, 0, []),
  (411, .aload_n 0, 1, 0, [0]),
  (412, .iload_n 2, 1, 0, [2]),
  (413, .iload_n 3, 1, 0, [3]),
  (414, .iload 4, 2, 0, [4]),
  (416, .invokevirtual 82, 3, 0, [5, 0]),
  (419, .invokestatic 85, 3, 0, [11, 1]),
  (422, .ireturn, 1, 0, []),
  (423, .aload_n 0, 1, 0, [0]),
  (424, .iconst 1, 1, 1, []),
  (425, .iload 4, 2, 0, [4]),
  (427, .invokevirtual 46, 3, 0, [4, 0]),
  (430, .sipush 200, 3, 200, []),
  (433, .idiv, 1, 0, []),
  (434, .ireturn, 1, 0, []),
  (435, .aload_n 0, 1, 0, [0]),
  (436, .iconst 1, 1, 1, []),
  (437, .iload 4, 2, 0, [4]),
  (439, .invokevirtual 46, 3, 0, [4, 0]),
  (442, .bipush 100, 2, 100, []),
  (444, .idiv, 1, 0, []),
  (445, .sipush 300, 3, 300, []),
  (448, .iadd, 1, 0, []),
  (449, .ireturn, 1, 0, []),
  (450, .iconst 1, 1, 1, []),
  (451, .aload_n 0, 1, 0, [0]),
  (452, .iconst 2, 1, 2, []),
  (453, .iload 4, 2, 0, [4]),
  (455, .invokevirtual 46, 3, 0, [4, 0]),
  (458, .iconst 4, 1, 4, []),
  (459, .idiv, 1, 0, []),
  (460, .iadd, 1, 0, []),
  (461, .ireturn, 1, 0, []),
  (462, .iconst 2, 1, 2, []),
  (463, .aload_n 0, 1, 0, [0]),
  (464, .iconst 0, 1, 0, []),
  (465, .iload 4, 2, 0, [4]),
  (467, .invokevirtual 46, 3, 0, [4, 0]),
  (470, .bipush 100, 2, 100, []),
  (472, .idiv, 1, 0, []),
  (473, .iadd, 1, 0, []),
  (474, .ireturn, 1, 0, []),
  (475, .bipush (-3), 2, -3, []),
  (477, .ireturn, 1, 0, []),
  (478, .athrow, 0, 0, [])]
def kX0_lessATenth : List fd_E := [(0, .iload_n 0, 1, 0, [0]),
  (1, .iload_n 0, 1, 0, [0]),
  (2, .bipush 10, 2, 10, []),
  (4, .idiv, 1, 0, []),
  (5, .isub, 1, 0, []),
  (6, .ireturn, 1, 0, []),
  (7, .athrow, 0, 0, [])]
def kX1_init : List fd_E := [(0, .aload_n 0, 1, 0, [0]),
  (1, .invokespecial 3, 3, 0, [0, 5]),
  (4, .aload_n 0, 1, 0, [0]),
  (5, .iconst 0, 1, 0, []),
  (6, .putfield 9, 3, 0, [1, 1, 0, 0]),
  (9, .aload_n 0, 1, 0, [0]),
  (10, .iconst 0, 1, 0, []),
  (11, .putfield 15, 3, 0, [1, 2, 0, 0]),
  (14, .aload_n 0, 1, 0, [0]),
  (15, .iconst 0, 1, 0, []),
  (16, .putfield 18, 3, 0, [1, 3, 0, 0]),
  (19, .aload_n 0, 1, 0, [0]),
  (20, .iconst 0, 1, 0, []),
  (21, .putfield 21, 3, 0, [1, 4, 0, 0]),
  (24, .aload_n 0, 1, 0, [0]),
  (25, .iconst 0, 1, 0, []),
  (26, .putfield 24, 3, 0, [1, 5, 0, 0]),
  (29, .aload_n 0, 1, 0, [0]),
  (30, .iconst 0, 1, 0, []),
  (31, .putfield 27, 3, 0, [1, 6, 0, 0]),
  (34, .aload_n 0, 1, 0, [0]),
  (35, .aconst_null, 1, 0, []),
  (36, .putfield 30, 3, 0, [1, 7, 1, 0]),
  (39, .aload_n 0, 1, 0, [0]),
  (40, .aconst_null, 1, 0, []),
  (41, .putfield 34, 3, 0, [1, 8, 1, 0]),
  (44, .aload_n 0, 1, 0, [0]),
  (45, .iload_n 1, 1, 0, [1]),
  (46, .putfield 37, 3, 0, [1, 0, 0, 1]),
  (49, .return_, 1, 0, []),
  (50, .athrow, 0, 0, [])]
def kX1_lengthLeft : List fd_E := [(0, .aload_n 0, 1, 0, [0]),
  (1, .getfield 9, 3, 0, [1, 1, 0]),
  (4, .aload_n 0, 1, 0, [0]),
  (5, .getfield 18, 3, 0, [1, 3, 0]),
  (8, .isub, 1, 0, []),
  (9, .ireturn, 1, 0, []),
  (10, .athrow, 0, 0, [])]
def kX1_bearingLeft : List fd_E := [(0, .aload_n 0, 1, 0, [0]),
  (1, .getfield 15, 3, 0, [1, 2, 0]),
  (4, .aload_n 0, 1, 0, [0]),
  (5, .getfield 21, 3, 0, [1, 4, 0]),
  (8, .isub, 1, 0, []),
  (9, .ireturn, 1, 0, []),
  (10, .athrow, 0, 0, [])]
def kX1_hasRoomFor : List fd_E := [(0, .aload_n 1, 1, 0, [1]),
  (1, .getfield 40, 3, 0, [2, 4, 0]),
  (4, .iconst 5, 1, 5, []),
  (5, .iadd, 1, 0, []),
  (6, .aload_n 0, 1, 0, [0]),
  (7, .invokevirtual 43, 3, 0, [13, 0]),
  (10, .if_icmp .gt 18, 3, 0, [14]),
  (13, .aload_n 1, 1, 0, [1]),
  (14, .getfield 47, 3, 0, [2, 5, 0]),
  (17, .aload_n 0, 1, 0, [0]),
  (18, .invokevirtual 50, 3, 0, [14, 0]),
  (21, .if_icmp .gt 7, 3, 0, [14]),
  (24, .iconst 1, 1, 1, []),
  (25, .goto 4, 3, 0, [15]),
  (28, .iconst 0, 1, 0, []),
  (29, .ireturn, 1, 0, []),
  (30, .athrow, 0, 0, [])]
def kX1_append : List fd_E := [(0, .aload_n 1, 1, 0, [1]),
  (1, .iconst 1, 1, 1, []),
  (2, .putfield 53, 3, 0, [2, 9, 0, 0]),
  (5, .aload_n 1, 1, 0, [1]),
  (6, .aload_n 0, 1, 0, [0]),
  (7, .getfield 37, 3, 0, [1, 0, 0]),
  (10, .putfield 56, 3, 0, [2, 10, 0, 0]),
  (13, .aload_n 1, 1, 0, [1]),
  (14, .aload_n 0, 1, 0, [0]),
  (15, .getfield 27, 3, 0, [1, 6, 0]),
  (18, .putfield 59, 3, 0, [2, 11, 0, 0]),
  (21, .aload_n 1, 1, 0, [1]),
  (22, .aload_n 0, 1, 0, [0]),
  (23, .getfield 34, 3, 0, [1, 8, 1]),
  (26, .putfield 62, 3, 0, [2, 12, 1, 0]),
  (29, .aload_n 0, 1, 0, [0]),
  (30, .aload_n 1, 1, 0, [1]),
  (31, .putfield 34, 3, 0, [1, 8, 1, 0]),
  (34, .aload_n 0, 1, 0, [0]),
  (35, .getfield 30, 3, 0, [1, 7, 1]),
  (38, .ifnonnull 8, 3, 0, [24]),
  (41, .aload_n 0, 1, 0, [0]),
  (42, .aload_n 1, 1, 0, [1]),
  (43, .putfield 30, 3, 0, [1, 7, 1, 0]),
  (46, .aload_n 0, 1, 0, [0]),
  (47, .dup, 1, 0, []),
  (48, .getfield 27, 3, 0, [1, 6, 0]),
  (51, .iconst 1, 1, 1, []),
  (52, .iadd, 1, 0, []),
  (53, .putfield 27, 3, 0, [1, 6, 0, 0]),
  (56, .aload_n 0, 1, 0, [0]),
  (57, .dup, 1, 0, []),
  (58, .getfield 18, 3, 0, [1, 3, 0]),
  (61, .aload_n 1, 1, 0, [1]),
  (62, .getfield 40, 3, 0, [2, 4, 0]),
  (65, .iconst 5, 1, 5, []),
  (66, .iadd, 1, 0, []),
  (67, .iadd, 1, 0, []),
  (68, .putfield 18, 3, 0, [1, 3, 0, 0]),
  (71, .aload_n 0, 1, 0, [0]),
  (72, .dup, 1, 0, []),
  (73, .getfield 21, 3, 0, [1, 4, 0]),
  (76, .aload_n 1, 1, 0, [1]),
  (77, .getfield 47, 3, 0, [2, 5, 0]),
  (80, .iadd, 1, 0, []),
  (81, .putfield 21, 3, 0, [1, 4, 0, 0]),
  (84, .aload_n 0, 1, 0, [0]),
  (85, .dup, 1, 0, []),
  (86, .getfield 24, 3, 0, [1, 5, 0]),
  (89, .aload_n 1, 1, 0, [1]),
  (90, .getfield 65, 3, 0, [2, 6, 0]),
  (93, .iadd, 1, 0, []),
  (94, .putfield 24, 3, 0, [1, 5, 0, 0]),
  (97, .return_, 1, 0, []),
  (98, .athrow, 0, 0, [])]
def kX1_removeLast : List fd_E := [(0, .aload_n 0, 1, 0, [0]),
  (1, .getfield 34, 3, 0, [1, 8, 1]),
  (4, .astore_n 2, 1, 0, [2]),
  (5, .aload_n 2, 1, 0, [2]),
  (6, .ifnonnull 4, 3, 0, [6]),
  (9, .return_, 1, 0, []),
  (10, .aload_n 0, 1, 0, [0]),
  (11, .aload_n 2, 1, 0, [2]),
  (12, .getfield 62, 3, 0, [2, 12, 1]),
  (15, .putfield 34, 3, 0, [1, 8, 1, 0]),
  (18, .aload_n 0, 1, 0, [0]),
  (19, .getfield 34, 3, 0, [1, 8, 1]),
  (22, .ifnonnull 8, 3, 0, [16]),
  (25, .aload_n 0, 1, 0, [0]),
  (26, .aconst_null, 1, 0, []),
  (27, .putfield 30, 3, 0, [1, 7, 1, 0]),
  (30, .aload_n 0, 1, 0, [0]),
  (31, .dup, 1, 0, []),
  (32, .getfield 27, 3, 0, [1, 6, 0]),
  (35, .iconst 1, 1, 1, []),
  (36, .isub, 1, 0, []),
  (37, .putfield 27, 3, 0, [1, 6, 0, 0]),
  (40, .aload_n 0, 1, 0, [0]),
  (41, .dup, 1, 0, []),
  (42, .getfield 18, 3, 0, [1, 3, 0]),
  (45, .aload_n 2, 1, 0, [2]),
  (46, .getfield 40, 3, 0, [2, 4, 0]),
  (49, .iconst 5, 1, 5, []),
  (50, .iadd, 1, 0, []),
  (51, .isub, 1, 0, []),
  (52, .putfield 18, 3, 0, [1, 3, 0, 0]),
  (55, .aload_n 0, 1, 0, [0]),
  (56, .dup, 1, 0, []),
  (57, .getfield 21, 3, 0, [1, 4, 0]),
  (60, .aload_n 2, 1, 0, [2]),
  (61, .getfield 47, 3, 0, [2, 5, 0]),
  (64, .isub, 1, 0, []),
  (65, .putfield 21, 3, 0, [1, 4, 0, 0]),
  (68, .aload_n 0, 1, 0, [0]),
  (69, .dup, 1, 0, []),
  (70, .getfield 24, 3, 0, [1, 5, 0]),
  (73, .aload_n 2, 1, 0, [2]),
  (74, .getfield 65, 3, 0, [2, 6, 0]),
  (77, .isub, 1, 0, []),
  (78, .putfield 24, 3, 0, [1, 5, 0, 0]),
  (81, .aload_n 2, 1, 0, [2]),
  (82, .iload_n 1, 1, 0, [1]),
  (83, .invokevirtual 66, 3, 0, [22, 0]),
  (86, .return_, 1, 0, []),
  (87, .athrow, 0, 0, [])]
def kX1_sendAbroad : List fd_E := [(0, .aload_n 0, 1, 0, [0]),
  (1, .getfield 27, 3, 0, [1, 6, 0]),
  (4, .istore_n 1, 1, 0, [1]),
  (5, .iload_n 1, 1, 0, [1]),
  (6, .ifCond .le 14, 3, 0, [10]),
  (9, .aload_n 0, 1, 0, [0]),
  (10, .iconst 2, 1, 2, []),
  (11, .invokevirtual 70, 3, 0, [17, 0]),
  (14, .iinc 1 (-1), 3, -1, [1]),
  (17, .goto (-12), 3, 0, [3]),
  (20, .return_, 1, 0, []),
  (21, .athrow, 0, 0, [])]
def kX2_init : List fd_E := [(0, .aload_n 0, 1, 0, [0]),
  (1, .invokespecial 3, 3, 0, [0, 5]),
  (4, .aload_n 0, 1, 0, [0]),
  (5, .iconst 0, 1, 0, []),
  (6, .putfield 9, 3, 0, [2, 4, 0, 0]),
  (9, .aload_n 0, 1, 0, [0]),
  (10, .iconst 0, 1, 0, []),
  (11, .putfield 15, 3, 0, [2, 5, 0, 0]),
  (14, .aload_n 0, 1, 0, [0]),
  (15, .iconst 0, 1, 0, []),
  (16, .putfield 18, 3, 0, [2, 6, 0, 0]),
  (19, .aload_n 0, 1, 0, [0]),
  (20, .bipush (-3), 2, -3, []),
  (22, .putfield 21, 3, 0, [2, 7, 0, 0]),
  (25, .aload_n 0, 1, 0, [0]),
  (26, .bipush (-3), 2, -3, []),
  (28, .putfield 24, 3, 0, [2, 8, 0, 0]),
  (31, .aload_n 0, 1, 0, [0]),
  (32, .iconst 0, 1, 0, []),
  (33, .putfield 27, 3, 0, [2, 9, 0, 0]),
  (36, .aload_n 0, 1, 0, [0]),
  (37, .iconst (-1), 1, -1, []),
  (38, .putfield 30, 3, 0, [2, 10, 0, 0]),
  (41, .aload_n 0, 1, 0, [0]),
  (42, .iconst (-1), 1, -1, []),
  (43, .putfield 33, 3, 0, [2, 11, 0, 0]),
  (46, .aload_n 0, 1, 0, [0]),
  (47, .aconst_null, 1, 0, []),
  (48, .putfield 36, 3, 0, [2, 12, 1, 0]),
  (51, .aload_n 0, 1, 0, [0]),
  (52, .iconst 0, 1, 0, []),
  (53, .putfield 40, 3, 0, [2, 13, 0, 0]),
  (56, .aload_n 0, 1, 0, [0]),
  (57, .iload_n 1, 1, 0, [1]),
  (58, .putfield 43, 3, 0, [2, 0, 0, 1]),
  (61, .aload_n 0, 1, 0, [0]),
  (62, .iload_n 2, 1, 0, [2]),
  (63, .putfield 46, 3, 0, [2, 1, 0, 1]),
  (66, .aload_n 0, 1, 0, [0]),
  (67, .iload_n 3, 1, 0, [3]),
  (68, .putfield 49, 3, 0, [2, 2, 0, 1]),
  (71, .aload_n 0, 1, 0, [0]),
  (72, .iload 4, 2, 0, [4]),
  (74, .putfield 52, 3, 0, [2, 3, 0, 1]),
  (77, .return_, 1, 0, []),
  (78, .athrow, 0, 0, [])]
def kX2_isHeavy : List fd_E := [(0, .aload_n 0, 1, 0, [0]),
  (1, .getfield 21, 3, 0, [2, 7, 0]),
  (4, .bipush (-3), 2, -3, []),
  (6, .if_icmp .eq 7, 3, 0, [6]),
  (9, .iconst 1, 1, 1, []),
  (10, .goto 4, 3, 0, [7]),
  (13, .iconst 0, 1, 0, []),
  (14, .ireturn, 1, 0, []),
  (15, .athrow, 0, 0, [])]
def kX2_isMarked : List fd_E := [(0, .aload_n 0, 1, 0, [0]),
  (1, .getfield 24, 3, 0, [2, 8, 0]),
  (4, .bipush (-3), 2, -3, []),
  (6, .if_icmp .eq 7, 3, 0, [6]),
  (9, .iconst 1, 1, 1, []),
  (10, .goto 4, 3, 0, [7]),
  (13, .iconst 0, 1, 0, []),
  (14, .ireturn, 1, 0, []),
  (15, .athrow, 0, 0, [])]
def kX2_leaveDeck : List fd_E := [(0, .aload_n 0, 1, 0, [0]),
  (1, .iload_n 1, 1, 0, [1]),
  (2, .putfield 27, 3, 0, [2, 9, 0, 0]),
  (5, .aload_n 0, 1, 0, [0]),
  (6, .iconst (-1), 1, -1, []),
  (7, .putfield 30, 3, 0, [2, 10, 0, 0]),
  (10, .aload_n 0, 1, 0, [0]),
  (11, .iconst (-1), 1, -1, []),
  (12, .putfield 33, 3, 0, [2, 11, 0, 0]),
  (15, .aload_n 0, 1, 0, [0]),
  (16, .aconst_null, 1, 0, []),
  (17, .putfield 36, 3, 0, [2, 12, 1, 0]),
  (20, .return_, 1, 0, []),
  (21, .athrow, 0, 0, [])]
def kX3_init : List fd_E := [(0, .aload_n 0, 1, 0, [0]),
  (1, .invokespecial 1, 3, 0, [0, 5]),
  (4, .aload_n 0, 1, 0, [0]),
  (5, .bipush 60, 2, 60, []),
  (7, .anewarray 9, 3, 0, [2]),
  (10, .putfield 11, 3, 0, [3, 0, 1, 1]),
  (13, .aload_n 0, 1, 0, [0]),
  (14, .iconst 0, 1, 0, []),
  (15, .putfield 15, 3, 0, [3, 1, 0, 0]),
  (18, .aload_n 0, 1, 0, [0]),
  (19, .iconst 4, 1, 4, []),
  (20, .anewarray 19, 3, 0, [1]),
  (23, .putfield 21, 3, 0, [3, 2, 1, 1]),
  (26, .aload_n 0, 1, 0, [0]),
  (27, .new 25, 3, 0, [0]),
  (30, .dup, 1, 0, []),
  (31, .invokespecial 27, 3, 0, [0, 4]),
  (34, .putfield 28, 3, 0, [3, 3, 1, 1]),
  (37, .aload_n 0, 1, 0, [0]),
  (38, .iconst 0, 1, 0, []),
  (39, .putfield 32, 3, 0, [3, 4, 0, 0]),
  (42, .aload_n 0, 1, 0, [0]),
  (43, .iconst 0, 1, 0, []),
  (44, .putfield 35, 3, 0, [3, 5, 0, 0]),
  (47, .aload_n 0, 1, 0, [0]),
  (48, .lconst 0, 1, 0, []),
  (49, .putfield 38, 3, 0, [3, 6, 2, 0]),
  (52, .iconst 0, 1, 0, []),
  (53, .istore_n 1, 1, 0, [1]),
  (54, .iload_n 1, 1, 0, [1]),
  (55, .iconst 4, 1, 4, []),
  (56, .if_icmp .ge 23, 3, 0, [42]),
  (59, .aload_n 0, 1, 0, [0]),
  (60, .getfield 21, 3, 0, [3, 2, 1]),
  (63, .iload_n 1, 1, 0, [1]),
  (64, .new 19, 3, 0, [1]),
  (67, .dup, 1, 0, []),
  (68, .iload_n 1, 1, 0, [1]),
  (69, .invokespecial 42, 3, 0, [12, 2]),
  (72, .aastore, 1, 0, []),
  (73, .iinc 1 1, 3, 1, [1]),
  (76, .goto (-22), 3, 0, [29]),
  (79, .return_, 1, 0, []),
  (80, .athrow, 0, 0, [])]
def kX3_vehicle : List fd_E := [(0, .iload_n 1, 1, 0, [1]),
  (1, .iconst 0, 1, 0, []),
  (2, .bipush 6, 2, 6, []),
  (4, .invokestatic 45, 3, 0, [37, 1]),
  (7, .ifCond .eq 25, 3, 0, [15]),
  (10, .iload_n 2, 1, 0, [2]),
  (11, .bipush 10, 2, 10, []),
  (13, .sipush 200, 3, 200, []),
  (16, .invokestatic 45, 3, 0, [37, 1]),
  (19, .ifCond .eq 13, 3, 0, [15]),
  (22, .iload_n 3, 1, 0, [3]),
  (23, .iconst 0, 1, 0, []),
  (24, .ldc 49, 2, 40000, []),
  (26, .invokestatic 45, 3, 0, [37, 1]),
  (29, .ifCond .ne 6, 3, 0, [17]),
  (32, .bipush (-2), 2, -2, []),
  (34, .ireturn, 1, 0, []),
  (35, .aload_n 0, 1, 0, [0]),
  (36, .getfield 15, 3, 0, [3, 1, 0]),
  (39, .bipush 60, 2, 60, []),
  (41, .if_icmp .lt 6, 3, 0, [23]),
  (44, .bipush (-4), 2, -4, []),
  (46, .ireturn, 1, 0, []),
  (47, .new 9, 3, 0, [2]),
  (50, .dup, 1, 0, []),
  (51, .aload_n 0, 1, 0, [0]),
  (52, .getfield 15, 3, 0, [3, 1, 0]),
  (55, .iload_n 1, 1, 0, [1]),
  (56, .iload_n 2, 1, 0, [2]),
  (57, .iload_n 3, 1, 0, [3]),
  (58, .invokespecial 50, 3, 0, [19, 2]),
  (61, .astore 4, 2, 0, [4]),
  (63, .aload_n 0, 1, 0, [0]),
  (64, .aload 4, 2, 0, [4]),
  (66, .invokevirtual 53, 3, 0, [42, 0]),
  (69, .aload_n 0, 1, 0, [0]),
  (70, .getfield 11, 3, 0, [3, 0, 1]),
  (73, .aload_n 0, 1, 0, [0]),
  (74, .getfield 15, 3, 0, [3, 1, 0]),
  (77, .aload 4, 2, 0, [4]),
  (79, .aastore, 1, 0, []),
  (80, .aload_n 0, 1, 0, [0]),
  (81, .dup, 1, 0, []),
  (82, .getfield 15, 3, 0, [3, 1, 0]),
  (85, .iconst 1, 1, 1, []),
  (86, .iadd, 1, 0, []),
  (87, .putfield 15, 3, 0, [3, 1, 0, 0]),
  (90, .aload 4, 2, 0, [4]),
  (92, .getfield 57, 3, 0, [2, 0, 0]),
  (95, .ireturn, 1, 0, []),
  (96, .athrow, 0, 0, [])]
def kX3_ask : List fd_E := [(0, .aload_n 0, 1, 0, [0]),
  (1, .iload_n 1, 1, 0, [1]),
  (2, .invokevirtual 60, 3, 0, [38, 0]),
  (5, .astore 4, 2, 0, [4]),
  (7, .aload 4, 2, 0, [4]),
  (9, .ifnull 12, 3, 0, [11]),
  (12, .iload_n 2, 1, 0, [2]),
  (13, .iconst 0, 1, 0, []),
  (14, .iconst 5, 1, 5, []),
  (15, .invokestatic 45, 3, 0, [37, 1]),
  (18, .ifCond .ne 6, 3, 0, [13]),
  (21, .bipush (-2), 2, -2, []),
  (23, .ireturn, 1, 0, []),
  (24, .iload_n 2, 1, 0, [2]),
  (25, .iconst 3, 1, 3, []),
  (26, .if_icmp .ne 15, 3, 0, [23]),
  (29, .iload_n 3, 1, 0, [3]),
  (30, .iconst 0, 1, 0, []),
  (31, .iconst 3, 1, 3, []),
  (32, .invokestatic 45, 3, 0, [37, 1]),
  (35, .ifCond .ne 6, 3, 0, [23]),
  (38, .bipush (-2), 2, -2, []),
  (40, .ireturn, 1, 0, []),
  (41, .aload_n 0, 1, 0, [0]),
  (42, .getfield 28, 3, 0, [3, 3, 1]),
  (45, .aload 4, 2, 0, [4]),
  (47, .iload_n 2, 1, 0, [2]),
  (48, .iload_n 3, 1, 0, [3]),
  (49, .invokevirtual 64, 3, 0, [2, 0]),
  (52, .ireturn, 1, 0, []),
  (53, .athrow, 0, 0, [])]
def kX3_trace : List fd_E := [(0, .aload_n 0, 1, 0, [0]),
  (1, .getfield 28, 3, 0, [3, 3, 1]),
  (4, .iload_n 1, 1, 0, [1]),
  (5, .invokevirtual 68, 3, 0, [3, 0]),
  (8, .ireturn, 1, 0, []),
  (9, .athrow, 0, 0, [])]
def kX3_lane : List fd_E := [(0, .aload_n 0, 1, 0, [0]),
  (1, .iload_n 1, 1, 0, [1]),
  (2, .invokevirtual 72, 3, 0, [39, 0]),
  (5, .astore 4, 2, 0, [4]),
  (7, .aload 4, 2, 0, [4]),
  (9, .ifnull 24, 3, 0, [16]),
  (12, .iload_n 2, 1, 0, [2]),
  (13, .iconst 0, 1, 0, []),
  (14, .sipush 2000, 3, 2000, []),
  (17, .invokestatic 45, 3, 0, [37, 1]),
  (20, .ifCond .eq 13, 3, 0, [16]),
  (23, .iload_n 3, 1, 0, [3]),
  (24, .iconst 0, 1, 0, []),
  (25, .ldc 76, 2, 200000, []),
  (27, .invokestatic 45, 3, 0, [37, 1]),
  (30, .ifCond .ne 6, 3, 0, [18]),
  (33, .bipush (-2), 2, -2, []),
  (35, .ireturn, 1, 0, []),
  (36, .aload 4, 2, 0, [4]),
  (38, .getfield 77, 3, 0, [1, 6, 0]),
  (41, .ifCond .le 6, 3, 0, [23]),
  (44, .bipush (-3), 2, -3, []),
  (46, .ireturn, 1, 0, []),
  (47, .aload 4, 2, 0, [4]),
  (49, .iload_n 2, 1, 0, [2]),
  (50, .putfield 80, 3, 0, [1, 1, 0, 0]),
  (53, .aload 4, 2, 0, [4]),
  (55, .iload_n 3, 1, 0, [3]),
  (56, .putfield 83, 3, 0, [1, 2, 0, 0]),
  (59, .iconst 1, 1, 1, []),
  (60, .ireturn, 1, 0, []),
  (61, .athrow, 0, 0, [])]
def kX3_season : List fd_E := [(0, .iload_n 1, 1, 0, [1]),
  (1, .iconst 0, 1, 0, []),
  (2, .iconst 3, 1, 3, []),
  (3, .invokestatic 45, 3, 0, [37, 1]),
  (6, .ifCond .ne 6, 3, 0, [7]),
  (9, .bipush (-2), 2, -2, []),
  (11, .ireturn, 1, 0, []),
  (12, .aload_n 0, 1, 0, [0]),
  (13, .getfield 32, 3, 0, [3, 4, 0]),
  (16, .istore_n 2, 1, 0, [2]),
  (17, .aload_n 0, 1, 0, [0]),
  (18, .iload_n 1, 1, 0, [1]),
  (19, .putfield 32, 3, 0, [3, 4, 0, 0]),
  (22, .iload_n 2, 1, 0, [2]),
  (23, .ireturn, 1, 0, []),
  (24, .athrow, 0, 0, [])]
def kX3_board : List fd_E := [(0, .aload_n 0, 1, 0, [0]),
  (1, .iload_n 1, 1, 0, [1]),
  (2, .invokevirtual 60, 3, 0, [38, 0]),
  (5, .astore_n 3, 1, 0, [3]),
  (6, .aload_n 0, 1, 0, [0]),
  (7, .iload_n 2, 1, 0, [2]),
  (8, .invokevirtual 72, 3, 0, [39, 0]),
  (11, .astore 4, 2, 0, [4]),
  (13, .aload_n 3, 1, 0, [3]),
  (14, .ifnull 8, 3, 0, [12]),
  (17, .aload 4, 2, 0, [4]),
  (19, .ifnonnull 6, 3, 0, [14]),
  (22, .bipush (-2), 2, -2, []),
  (24, .ireturn, 1, 0, []),
  (25, .aload_n 3, 1, 0, [3]),
  (26, .getfield 86, 3, 0, [2, 9, 0]),
  (29, .ifCond .eq 6, 3, 0, [19]),
  (32, .bipush (-3), 2, -3, []),
  (34, .ireturn, 1, 0, []),
  (35, .aload 4, 2, 0, [4]),
  (37, .aload_n 3, 1, 0, [3]),
  (38, .invokevirtual 89, 3, 0, [15, 0]),
  (41, .ifCond .ne 6, 3, 0, [25]),
  (44, .bipush (-4), 2, -4, []),
  (46, .ireturn, 1, 0, []),
  (47, .aload 4, 2, 0, [4]),
  (49, .getfield 93, 3, 0, [1, 8, 1]),
  (52, .aload_n 3, 1, 0, [3]),
  (53, .invokestatic 97, 3, 0, [44, 1]),
  (56, .ifCond .eq 6, 3, 0, [32]),
  (59, .bipush (-5), 2, -5, []),
  (61, .ireturn, 1, 0, []),
  (62, .aload_n 0, 1, 0, [0]),
  (63, .aload_n 3, 1, 0, [3]),
  (64, .invokevirtual 101, 3, 0, [43, 0]),
  (67, .istore 5, 2, 0, [5]),
  (69, .aload 4, 2, 0, [4]),
  (71, .aload_n 3, 1, 0, [3]),
  (72, .invokevirtual 105, 3, 0, [16, 0]),
  (75, .aload_n 3, 1, 0, [3]),
  (76, .iload 5, 2, 0, [5]),
  (78, .putfield 108, 3, 0, [2, 13, 0, 0]),
  (81, .aload_n 0, 1, 0, [0]),
  (82, .dup, 1, 0, []),
  (83, .getfield 38, 3, 0, [3, 6, 2]),
  (86, .iload 5, 2, 0, [5]),
  (88, .i2l, 1, 0, []),
  (89, .ladd, 1, 0, []),
  (90, .putfield 38, 3, 0, [3, 6, 2, 0]),
  (93, .iload 5, 2, 0, [5]),
  (95, .ireturn, 1, 0, []),
  (96, .athrow, 0, 0, [])]
def kX3_off : List fd_E := [(0, .aload_n 0, 1, 0, [0]),
  (1, .iload_n 1, 1, 0, [1]),
  (2, .invokevirtual 72, 3, 0, [39, 0]),
  (5, .astore_n 2, 1, 0, [2]),
  (6, .aload_n 2, 1, 0, [2]),
  (7, .ifnonnull 6, 3, 0, [8]),
  (10, .bipush (-2), 2, -2, []),
  (12, .ireturn, 1, 0, []),
  (13, .aload_n 2, 1, 0, [2]),
  (14, .getfield 93, 3, 0, [1, 8, 1]),
  (17, .astore_n 3, 1, 0, [3]),
  (18, .aload_n 3, 1, 0, [3]),
  (19, .ifnonnull 6, 3, 0, [15]),
  (22, .bipush (-3), 2, -3, []),
  (24, .ireturn, 1, 0, []),
  (25, .aload_n 2, 1, 0, [2]),
  (26, .iconst 0, 1, 0, []),
  (27, .invokevirtual 111, 3, 0, [17, 0]),
  (30, .aload_n 3, 1, 0, [3]),
  (31, .getfield 108, 3, 0, [2, 13, 0]),
  (34, .istore 4, 2, 0, [4]),
  (36, .aload_n 3, 1, 0, [3]),
  (37, .iconst 0, 1, 0, []),
  (38, .putfield 108, 3, 0, [2, 13, 0, 0]),
  (41, .aload_n 0, 1, 0, [0]),
  (42, .dup, 1, 0, []),
  (43, .getfield 38, 3, 0, [3, 6, 2]),
  (46, .iload 4, 2, 0, [4]),
  (48, .i2l, 1, 0, []),
  (49, .lsub, 1, 0, []),
  (50, .putfield 38, 3, 0, [3, 6, 2, 0]),
  (53, .iload 4, 2, 0, [4]),
  (55, .ireturn, 1, 0, []),
  (56, .athrow, 0, 0, [])]
def kX3_sail : List fd_E := [(0, .aload_n 0, 1, 0, [0]),
  (1, .iconst 1, 1, 1, []),
  (2, .invokevirtual 114, 3, 0, [41, 0]),
  (5, .ifCond .eq 16, 3, 0, [9]),
  (8, .aload_n 0, 1, 0, [0]),
  (9, .invokevirtual 117, 3, 0, [45, 0]),
  (12, .invokestatic 121, 3, 0, [0, 7]),
  (15, .sipush 30000, 3, 30000, []),
  (18, .if_icmp .le 6, 3, 0, [11]),
  (21, .bipush (-3), 2, -3, []),
  (23, .ireturn, 1, 0, []),
  (24, .aload_n 0, 1, 0, [0]),
  (25, .invokevirtual 126, 3, 0, [46, 0]),
  (28, .bipush 30, 2, 30, []),
  (30, .iadd, 1, 0, []),
  (31, .istore_n 1, 1, 0, [1]),
  (32, .aload_n 0, 1, 0, [0]),
  (33, .getfield 21, 3, 0, [3, 2, 1]),
  (36, .astore_n 2, 1, 0, [2]),
  (37, .aload_n 2, 1, 0, [2]),
  (38, .arraylength, 1, 0, []),
  (39, .istore_n 3, 1, 0, [3]),
  (40, .iconst 0, 1, 0, []),
  (41, .istore 4, 2, 0, [4]),
  (43, .iload 4, 2, 0, [4]),
  (45, .iload_n 3, 1, 0, [3]),
  (46, .if_icmp .ge 20, 3, 0, [35]),
  (49, .aload_n 2, 1, 0, [2]),
  (50, .iload 4, 2, 0, [4]),
  (52, .aaload, 1, 0, []),
  (53, .astore 5, 2, 0, [5]),
  (55, .aload 5, 2, 0, [5]),
  (57, .invokevirtual 129, 3, 0, [18, 0]),
  (60, .iinc 4 1, 3, 1, [4]),
  (63, .goto (-20), 3, 0, [24]),
  (66, .aload_n 0, 1, 0, [0]),
  (67, .dup, 1, 0, []),
  (68, .getfield 35, 3, 0, [3, 5, 0]),
  (71, .iconst 1, 1, 1, []),
  (72, .iadd, 1, 0, []),
  (73, .putfield 35, 3, 0, [3, 5, 0, 0]),
  (76, .iload_n 1, 1, 0, [1]),
  (77, .ireturn, 1, 0, []),
  (78, .athrow, 0, 0, [])]
def kX3_back : List fd_E := [(0, .aload_n 0, 1, 0, [0]),
  (1, .iload_n 1, 1, 0, [1]),
  (2, .invokevirtual 60, 3, 0, [38, 0]),
  (5, .astore_n 2, 1, 0, [2]),
  (6, .aload_n 2, 1, 0, [2]),
  (7, .ifnonnull 6, 3, 0, [8]),
  (10, .bipush (-2), 2, -2, []),
  (12, .ireturn, 1, 0, []),
  (13, .aload_n 2, 1, 0, [2]),
  (14, .getfield 86, 3, 0, [2, 9, 0]),
  (17, .iconst 2, 1, 2, []),
  (18, .if_icmp .eq 6, 3, 0, [14]),
  (21, .bipush (-3), 2, -3, []),
  (23, .ireturn, 1, 0, []),
  (24, .aload_n 2, 1, 0, [2]),
  (25, .iconst 0, 1, 0, []),
  (26, .putfield 86, 3, 0, [2, 9, 0, 0]),
  (29, .iconst 1, 1, 1, []),
  (30, .ireturn, 1, 0, []),
  (31, .athrow, 0, 0, [])]
def kX3_told : List fd_E := [(0, .aload_n 0, 1, 0, [0]),
  (1, .iload_n 1, 1, 0, [1]),
  (2, .invokevirtual 60, 3, 0, [38, 0]),
  (5, .astore_n 3, 1, 0, [3]),
  (6, .aload_n 3, 1, 0, [3]),
  (7, .ifnonnull 6, 3, 0, [8]),
  (10, .bipush (-2), 2, -2, []),
  (12, .ireturn, 1, 0, []),
  (13, .iload_n 2, 1, 0, [2]),
  (14, .tableswitch 93 0 6 #[42, 47, 52, 57, 62, 67, 80], 42, 0, [39, 10, 13, 16, 19, 22, 25, 32]),
  (56, .aload_n 3, 1, 0, [3]),
  (57, .getfield 132, 3, 0, [2, 1, 0]),
  (60, .ireturn, 1, 0, []),
  (61, .aload_n 3, 1, 0, [3]),
  (62, .getfield 86, 3, 0, [2, 9, 0]),
  (65, .ireturn, 1, 0, []),
  (66, .aload_n 3, 1, 0, [3]),
  (67, .getfield 135, 3, 0, [2, 10, 0]),
  (70, .ireturn, 1, 0, []),
  (71, .aload_n 3, 1, 0, [3]),
  (72, .getfield 138, 3, 0, [2, 11, 0]),
  (75, .ireturn, 1, 0, []),
  (76, .aload_n 3, 1, 0, [3]),
  (77, .getfield 108, 3, 0, [2, 13, 0]),
  (80, .ireturn, 1, 0, []),
  (81, .aload_n 3, 1, 0, [3]),
  (82, .invokevirtual 141, 3, 0, [20, 0]),
  (85, .ifCond .eq 7, 3, 0, [30]),
  (88, .iconst 1, 1, 1, []),
  (89, .goto 4, 3, 0, [31]),
  (92, .iconst 0, 1, 0, []),
  (93, .ireturn, 1, 0, []),
  (94, .aload_n 3, 1, 0, [3]),
  (95, .invokevirtual 145, 3, 0, [21, 0]),
  (98, .ifCond .eq 7, 3, 0, [37]),
  (101, .iconst 1, 1, 1, []),
  (102, .goto 4, 3, 0, [38]),
  (105, .iconst 0, 1, 0, []),
  (106, .ireturn, 1, 0, []),
  (107, .bipush (-2), 2, -2, []),
  (109, .ireturn, 1, 0, []),
  (110, .athrow, 0, 0, [])]
def kX3_deck : List fd_E := [(0, .aload_n 0, 1, 0, [0]),
  (1, .iload_n 1, 1, 0, [1]),
  (2, .invokevirtual 72, 3, 0, [39, 0]),
  (5, .astore_n 3, 1, 0, [3]),
  (6, .aload_n 3, 1, 0, [3]),
  (7, .ifnonnull 6, 3, 0, [8]),
  (10, .bipush (-2), 2, -2, []),
  (12, .ireturn, 1, 0, []),
  (13, .iload_n 2, 1, 0, [2]),
  (14, .tableswitch 74 0 5 #[38, 43, 48, 53, 58, 66], 38, 0, [30, 10, 13, 16, 19, 22, 26]),
  (52, .aload_n 3, 1, 0, [3]),
  (53, .invokevirtual 148, 3, 0, [13, 0]),
  (56, .ireturn, 1, 0, []),
  (57, .aload_n 3, 1, 0, [3]),
  (58, .invokevirtual 151, 3, 0, [14, 0]),
  (61, .ireturn, 1, 0, []),
  (62, .aload_n 3, 1, 0, [3]),
  (63, .getfield 77, 3, 0, [1, 6, 0]),
  (66, .ireturn, 1, 0, []),
  (67, .aload_n 3, 1, 0, [3]),
  (68, .getfield 154, 3, 0, [1, 5, 0]),
  (71, .ireturn, 1, 0, []),
  (72, .aload_n 3, 1, 0, [3]),
  (73, .getfield 157, 3, 0, [1, 7, 1]),
  (76, .invokestatic 160, 3, 0, [40, 1]),
  (79, .ireturn, 1, 0, []),
  (80, .aload_n 3, 1, 0, [3]),
  (81, .getfield 93, 3, 0, [1, 8, 1]),
  (84, .invokestatic 160, 3, 0, [40, 1]),
  (87, .ireturn, 1, 0, []),
  (88, .bipush (-2), 2, -2, []),
  (90, .ireturn, 1, 0, []),
  (91, .athrow, 0, 0, [])]
def kX3_count : List fd_E := [(0, .iload_n 1, 1, 0, [1]),
  (1, .tableswitch 72 0 5 #[39, 44, 50, 56, 62, 67], 39, 0, [23, 2, 5, 9, 13, 17, 20]),
  (40, .aload_n 0, 1, 0, [0]),
  (41, .getfield 15, 3, 0, [3, 1, 0]),
  (44, .ireturn, 1, 0, []),
  (45, .aload_n 0, 1, 0, [0]),
  (46, .iconst 0, 1, 0, []),
  (47, .invokevirtual 114, 3, 0, [41, 0]),
  (50, .ireturn, 1, 0, []),
  (51, .aload_n 0, 1, 0, [0]),
  (52, .iconst 1, 1, 1, []),
  (53, .invokevirtual 114, 3, 0, [41, 0]),
  (56, .ireturn, 1, 0, []),
  (57, .aload_n 0, 1, 0, [0]),
  (58, .iconst 2, 1, 2, []),
  (59, .invokevirtual 114, 3, 0, [41, 0]),
  (62, .ireturn, 1, 0, []),
  (63, .aload_n 0, 1, 0, [0]),
  (64, .getfield 35, 3, 0, [3, 5, 0]),
  (67, .ireturn, 1, 0, []),
  (68, .aload_n 0, 1, 0, [0]),
  (69, .getfield 32, 3, 0, [3, 4, 0]),
  (72, .ireturn, 1, 0, []),
  (73, .bipush (-2), 2, -2, []),
  (75, .ireturn, 1, 0, []),
  (76, .athrow, 0, 0, [])]
def kX3_till : List fd_E := [(0, .aload_n 0, 1, 0, [0]),
  (1, .getfield 38, 3, 0, [3, 6, 2]),
  (4, .lreturn, 1, 0, []),
  (5, .athrow, 0, 0, [])]
def kX3_within : List fd_E := [(0, .iload_n 0, 1, 0, [0]),
  (1, .iload_n 1, 1, 0, [1]),
  (2, .if_icmp .lt 12, 3, 0, [8]),
  (5, .iload_n 0, 1, 0, [0]),
  (6, .iload_n 2, 1, 0, [2]),
  (7, .if_icmp .gt 7, 3, 0, [8]),
  (10, .iconst 1, 1, 1, []),
  (11, .goto 4, 3, 0, [9]),
  (14, .iconst 0, 1, 0, []),
  (15, .ireturn, 1, 0, []),
  (16, .athrow, 0, 0, [])]
def kX3_vehicleAt : List fd_E := [(0, .iload_n 1, 1, 0, [1]),
  (1, .iconst 0, 1, 0, []),
  (2, .aload_n 0, 1, 0, [0]),
  (3, .getfield 15, 3, 0, [3, 1, 0]),
  (6, .iconst 1, 1, 1, []),
  (7, .isub, 1, 0, []),
  (8, .invokestatic 45, 3, 0, [37, 1]),
  (11, .ifCond .eq 12, 3, 0, [13]),
  (14, .aload_n 0, 1, 0, [0]),
  (15, .getfield 11, 3, 0, [3, 0, 1]),
  (18, .iload_n 1, 1, 0, [1]),
  (19, .aaload, 1, 0, []),
  (20, .goto 4, 3, 0, [14]),
  (23, .aconst_null, 1, 0, []),
  (24, .areturn, 1, 0, []),
  (25, .athrow, 0, 0, [])]
def kX3_laneAt : List fd_E := [(0, .iload_n 1, 1, 0, [1]),
  (1, .iconst 0, 1, 0, []),
  (2, .iconst 3, 1, 3, []),
  (3, .invokestatic 45, 3, 0, [37, 1]),
  (6, .ifCond .eq 12, 3, 0, [10]),
  (9, .aload_n 0, 1, 0, [0]),
  (10, .getfield 21, 3, 0, [3, 2, 1]),
  (13, .iload_n 1, 1, 0, [1]),
  (14, .aaload, 1, 0, []),
  (15, .goto 4, 3, 0, [11]),
  (18, .aconst_null, 1, 0, []),
  (19, .areturn, 1, 0, []),
  (20, .athrow, 0, 0, [])]
def kX3_numberOf : List fd_E := [(0, .aload_n 0, 1, 0, [0]),
  (1, .ifnonnull 7, 3, 0, [4]),
  (4, .iconst (-1), 1, -1, []),
  (5, .goto 7, 3, 0, [6]),
  (8, .aload_n 0, 1, 0, [0]),
  (9, .getfield 57, 3, 0, [2, 0, 0]),
  (12, .ireturn, 1, 0, []),
  (13, .athrow, 0, 0, [])]
def kX3_countOf : List fd_E := [(0, .iconst 0, 1, 0, []),
  (1, .istore_n 2, 1, 0, [2]),
  (2, .iconst 0, 1, 0, []),
  (3, .istore_n 3, 1, 0, [3]),
  (4, .iload_n 3, 1, 0, [3]),
  (5, .aload_n 0, 1, 0, [0]),
  (6, .getfield 15, 3, 0, [3, 1, 0]),
  (9, .if_icmp .ge 33, 3, 0, [21]),
  (12, .aload_n 0, 1, 0, [0]),
  (13, .iload_n 3, 1, 0, [3]),
  (14, .invokevirtual 60, 3, 0, [38, 0]),
  (17, .astore 4, 2, 0, [4]),
  (19, .aload 4, 2, 0, [4]),
  (21, .ifnull 15, 3, 0, [19]),
  (24, .aload 4, 2, 0, [4]),
  (26, .getfield 86, 3, 0, [2, 9, 0]),
  (29, .iload_n 1, 1, 0, [1]),
  (30, .if_icmp .ne 6, 3, 0, [19]),
  (33, .iinc 2 1, 3, 1, [2]),
  (36, .iinc 3 1, 3, 1, [3]),
  (39, .goto (-35), 3, 0, [4]),
  (42, .iload_n 2, 1, 0, [2]),
  (43, .ireturn, 1, 0, []),
  (44, .athrow, 0, 0, [])]
def kX3_measure : List fd_E := [(0, .aload_n 1, 1, 0, [1]),
  (1, .aload_n 0, 1, 0, [0]),
  (2, .getfield 28, 3, 0, [3, 3, 1]),
  (5, .aload_n 1, 1, 0, [1]),
  (6, .iconst 0, 1, 0, []),
  (7, .iconst 0, 1, 0, []),
  (8, .invokevirtual 163, 3, 0, [1, 0]),
  (11, .putfield 166, 3, 0, [2, 4, 0, 0]),
  (14, .aload_n 1, 1, 0, [1]),
  (15, .aload_n 0, 1, 0, [0]),
  (16, .getfield 28, 3, 0, [3, 3, 1]),
  (19, .aload_n 1, 1, 0, [1]),
  (20, .iconst 1, 1, 1, []),
  (21, .iconst 0, 1, 0, []),
  (22, .invokevirtual 163, 3, 0, [1, 0]),
  (25, .putfield 167, 3, 0, [2, 5, 0, 0]),
  (28, .aload_n 1, 1, 0, [1]),
  (29, .aload_n 0, 1, 0, [0]),
  (30, .getfield 28, 3, 0, [3, 3, 1]),
  (33, .aload_n 1, 1, 0, [1]),
  (34, .iconst 2, 1, 2, []),
  (35, .iconst 0, 1, 0, []),
  (36, .invokevirtual 163, 3, 0, [1, 0]),
  (39, .putfield 170, 3, 0, [2, 6, 0, 0]),
  (42, .aload_n 1, 1, 0, [1]),
  (43, .aload_n 0, 1, 0, [0]),
  (44, .getfield 28, 3, 0, [3, 3, 1]),
  (47, .aload_n 1, 1, 0, [1]),
  (48, .iconst 4, 1, 4, []),
  (49, .iconst 0, 1, 0, []),
  (50, .invokevirtual 163, 3, 0, [1, 0]),
  (53, .putfield 171, 3, 0, [2, 7, 0, 0]),
  (56, .aload_n 1, 1, 0, [1]),
  (57, .aload_n 0, 1, 0, [0]),
  (58, .getfield 28, 3, 0, [3, 3, 1]),
  (61, .aload_n 1, 1, 0, [1]),
  (62, .iconst 5, 1, 5, []),
  (63, .iconst 0, 1, 0, []),
  (64, .invokevirtual 163, 3, 0, [1, 0]),
  (67, .putfield 174, 3, 0, [2, 8, 0, 0]),
  (70, .return_, 1, 0, []),
  (71, .athrow, 0, 0, [])]
def kX3_price : List fd_E := [(0, .aload_n 0, 1, 0, [0]),
  (1, .getfield 28, 3, 0, [3, 3, 1]),
  (4, .aload_n 1, 1, 0, [1]),
  (5, .iconst 3, 1, 3, []),
  (6, .aload_n 0, 1, 0, [0]),
  (7, .getfield 32, 3, 0, [3, 4, 0]),
  (10, .invokevirtual 163, 3, 0, [1, 0]),
  (13, .istore_n 2, 1, 0, [2]),
  (14, .aload_n 1, 1, 0, [1]),
  (15, .invokevirtual 141, 3, 0, [20, 0]),
  (18, .ifCond .eq 12, 3, 0, [16]),
  (21, .iload_n 2, 1, 0, [2]),
  (22, .aload_n 1, 1, 0, [1]),
  (23, .getfield 171, 3, 0, [2, 7, 0]),
  (26, .iadd, 1, 0, []),
  (27, .goto 4, 3, 0, [17]),
  (30, .iload_n 2, 1, 0, [2]),
  (31, .ireturn, 1, 0, []),
  (32, .athrow, 0, 0, [])]
def kX3_tooNear : List fd_E := [(0, .aload_n 0, 1, 0, [0]),
  (1, .ifnull 17, 3, 0, [8]),
  (4, .aload_n 0, 1, 0, [0]),
  (5, .invokevirtual 145, 3, 0, [21, 0]),
  (8, .ifCond .eq 10, 3, 0, [8]),
  (11, .aload_n 1, 1, 0, [1]),
  (12, .invokevirtual 145, 3, 0, [21, 0]),
  (15, .ifCond .ne 5, 3, 0, [10]),
  (18, .iconst 0, 1, 0, []),
  (19, .ireturn, 1, 0, []),
  (20, .aload_n 0, 1, 0, [0]),
  (21, .getfield 174, 3, 0, [2, 8, 0]),
  (24, .aload_n 1, 1, 0, [1]),
  (25, .getfield 174, 3, 0, [2, 8, 0]),
  (28, .iadd, 1, 0, []),
  (29, .iconst 5, 1, 5, []),
  (30, .if_icmp .le 7, 3, 0, [19]),
  (33, .iconst 1, 1, 1, []),
  (34, .goto 4, 3, 0, [20]),
  (37, .iconst 0, 1, 0, []),
  (38, .ireturn, 1, 0, []),
  (39, .athrow, 0, 0, [])]
def kX3_apart : List fd_E := [(0, .iconst 0, 1, 0, []),
  (1, .istore_n 1, 1, 0, [1]),
  (2, .iconst 0, 1, 0, []),
  (3, .istore_n 2, 1, 0, [2]),
  (4, .iload_n 2, 1, 0, [2]),
  (5, .iconst 4, 1, 4, []),
  (6, .if_icmp .ge 33, 3, 0, [25]),
  (9, .aload_n 0, 1, 0, [0]),
  (10, .getfield 21, 3, 0, [3, 2, 1]),
  (13, .iload_n 2, 1, 0, [2]),
  (14, .aaload, 1, 0, []),
  (15, .getfield 177, 3, 0, [1, 4, 0]),
  (18, .istore_n 3, 1, 0, [3]),
  (19, .iload_n 1, 1, 0, [1]),
  (20, .iload_n 2, 1, 0, [2]),
  (21, .iconst 2, 1, 2, []),
  (22, .if_icmp .ge 7, 3, 0, [19]),
  (25, .iload_n 3, 1, 0, [3]),
  (26, .goto 5, 3, 0, [21]),
  (29, .iload_n 3, 1, 0, [3]),
  (30, .ineg, 1, 0, []),
  (31, .iadd, 1, 0, []),
  (32, .istore_n 1, 1, 0, [1]),
  (33, .iinc 2 1, 3, 1, [2]),
  (36, .goto (-32), 3, 0, [4]),
  (39, .iload_n 1, 1, 0, [1]),
  (40, .ireturn, 1, 0, []),
  (41, .athrow, 0, 0, [])]
def kX3_longestMinutes : List fd_E := [(0, .iconst 0, 1, 0, []),
  (1, .istore_n 1, 1, 0, [1]),
  (2, .aload_n 0, 1, 0, [0]),
  (3, .getfield 21, 3, 0, [3, 2, 1]),
  (6, .astore_n 2, 1, 0, [2]),
  (7, .aload_n 2, 1, 0, [2]),
  (8, .arraylength, 1, 0, []),
  (9, .istore_n 3, 1, 0, [3]),
  (10, .iconst 0, 1, 0, []),
  (11, .istore 4, 2, 0, [4]),
  (13, .iload 4, 2, 0, [4]),
  (15, .iload_n 3, 1, 0, [3]),
  (16, .if_icmp .ge 25, 3, 0, [24]),
  (19, .aload_n 2, 1, 0, [2]),
  (20, .iload 4, 2, 0, [4]),
  (22, .aaload, 1, 0, []),
  (23, .astore 5, 2, 0, [5]),
  (25, .iload_n 1, 1, 0, [1]),
  (26, .aload 5, 2, 0, [5]),
  (28, .getfield 154, 3, 0, [1, 5, 0]),
  (31, .invokestatic 180, 3, 0, [0, 6]),
  (34, .istore_n 1, 1, 0, [1]),
  (35, .iinc 4 1, 3, 1, [4]),
  (38, .goto (-25), 3, 0, [10]),
  (41, .iload_n 1, 1, 0, [1]),
  (42, .ireturn, 1, 0, []),
  (43, .athrow, 0, 0, [])]
def kX4_init : List fd_E := [(0, .aload_n 0, 1, 0, [0]),
  (1, .invokespecial 1, 3, 0, [0, 5]),
  (4, .aload_n 0, 1, 0, [0]),
  (5, .bipush 60, 2, 60, []),
  (7, .newarray .int, 2, 0, []),
  (9, .putfield 7, 3, 0, [4, 1, 1, 1]),
  (12, .aload_n 0, 1, 0, [0]),
  (13, .bipush 60, 2, 60, []),
  (15, .newarray .int, 2, 0, []),
  (17, .putfield 13, 3, 0, [4, 2, 1, 1]),
  (20, .aload_n 0, 1, 0, [0]),
  (21, .bipush 60, 2, 60, []),
  (23, .newarray .int, 2, 0, []),
  (25, .putfield 16, 3, 0, [4, 3, 1, 1]),
  (28, .aload_n 0, 1, 0, [0]),
  (29, .bipush 60, 2, 60, []),
  (31, .newarray .int, 2, 0, []),
  (33, .putfield 19, 3, 0, [4, 4, 1, 1]),
  (36, .aload_n 0, 1, 0, [0]),
  (37, .bipush 60, 2, 60, []),
  (39, .newarray .int, 2, 0, []),
  (41, .putfield 22, 3, 0, [4, 5, 1, 1]),
  (44, .aload_n 0, 1, 0, [0]),
  (45, .iconst 4, 1, 4, []),
  (46, .newarray .int, 2, 0, []),
  (48, .putfield 25, 3, 0, [4, 6, 1, 1]),
  (51, .aload_n 0, 1, 0, [0]),
  (52, .iconst 4, 1, 4, []),
  (53, .newarray .int, 2, 0, []),
  (55, .putfield 28, 3, 0, [4, 7, 1, 1]),
  (58, .aload_n 0, 1, 0, [0]),
  (59, .iconst 4, 1, 4, []),
  (60, .newarray .int, 2, 0, []),
  (62, .putfield 31, 3, 0, [4, 8, 1, 1]),
  (65, .aload_n 0, 1, 0, [0]),
  (66, .sipush 240, 3, 240, []),
  (69, .newarray .int, 2, 0, []),
  (71, .putfield 34, 3, 0, [4, 9, 1, 1]),
  (74, .aload_n 0, 1, 0, [0]),
  (75, .bipush 60, 2, 60, []),
  (77, .newarray .int, 2, 0, []),
  (79, .putfield 37, 3, 0, [4, 13, 1, 1]),
  (82, .return_, 1, 0, []),
  (83, .athrow, 0, 0, [])]
def kX4_in : List fd_E := [(0, .iload_n 0, 1, 0, [0]),
  (1, .iload_n 1, 1, 0, [1]),
  (2, .if_icmp .lt 12, 3, 0, [8]),
  (5, .iload_n 0, 1, 0, [0]),
  (6, .iload_n 2, 1, 0, [2]),
  (7, .if_icmp .gt 7, 3, 0, [8]),
  (10, .iconst 1, 1, 1, []),
  (11, .goto 4, 3, 0, [9]),
  (14, .iconst 0, 1, 0, []),
  (15, .ireturn, 1, 0, []),
  (16, .athrow, 0, 0, [])]
def kX4_isVehicle : List fd_E := [(0, .iload_n 1, 1, 0, [1]),
  (1, .iconst 0, 1, 0, []),
  (2, .aload_n 0, 1, 0, [0]),
  (3, .getfield 40, 3, 0, [4, 0, 0]),
  (6, .iconst 1, 1, 1, []),
  (7, .isub, 1, 0, []),
  (8, .invokestatic 44, 3, 0, [48, 1]),
  (11, .ireturn, 1, 0, []),
  (12, .athrow, 0, 0, [])]
def kX4_isLane : List fd_E := [(0, .iload_n 0, 1, 0, [0]),
  (1, .iconst 0, 1, 0, []),
  (2, .iconst 3, 1, 3, []),
  (3, .invokestatic 44, 3, 0, [48, 1]),
  (6, .ireturn, 1, 0, []),
  (7, .athrow, 0, 0, [])]
def kX4_vehicle : List fd_E := [(0, .iload_n 1, 1, 0, [1]),
  (1, .iconst 0, 1, 0, []),
  (2, .bipush 6, 2, 6, []),
  (4, .invokestatic 44, 3, 0, [48, 1]),
  (7, .ifCond .eq 25, 3, 0, [15]),
  (10, .iload_n 2, 1, 0, [2]),
  (11, .bipush 10, 2, 10, []),
  (13, .sipush 200, 3, 200, []),
  (16, .invokestatic 44, 3, 0, [48, 1]),
  (19, .ifCond .eq 13, 3, 0, [15]),
  (22, .iload_n 3, 1, 0, [3]),
  (23, .iconst 0, 1, 0, []),
  (24, .ldc 48, 2, 40000, []),
  (26, .invokestatic 44, 3, 0, [48, 1]),
  (29, .ifCond .ne 6, 3, 0, [17]),
  (32, .bipush (-2), 2, -2, []),
  (34, .ireturn, 1, 0, []),
  (35, .aload_n 0, 1, 0, [0]),
  (36, .getfield 40, 3, 0, [4, 0, 0]),
  (39, .bipush 60, 2, 60, []),
  (41, .if_icmp .ne 6, 3, 0, [23]),
  (44, .bipush (-4), 2, -4, []),
  (46, .ireturn, 1, 0, []),
  (47, .aload_n 0, 1, 0, [0]),
  (48, .getfield 7, 3, 0, [4, 1, 1]),
  (51, .aload_n 0, 1, 0, [0]),
  (52, .getfield 40, 3, 0, [4, 0, 0]),
  (55, .iload_n 1, 1, 0, [1]),
  (56, .iastore, 1, 0, []),
  (57, .aload_n 0, 1, 0, [0]),
  (58, .getfield 13, 3, 0, [4, 2, 1]),
  (61, .aload_n 0, 1, 0, [0]),
  (62, .getfield 40, 3, 0, [4, 0, 0]),
  (65, .iload_n 2, 1, 0, [2]),
  (66, .iastore, 1, 0, []),
  (67, .aload_n 0, 1, 0, [0]),
  (68, .getfield 16, 3, 0, [4, 3, 1]),
  (71, .aload_n 0, 1, 0, [0]),
  (72, .getfield 40, 3, 0, [4, 0, 0]),
  (75, .iload_n 3, 1, 0, [3]),
  (76, .iastore, 1, 0, []),
  (77, .aload_n 0, 1, 0, [0]),
  (78, .getfield 19, 3, 0, [4, 4, 1]),
  (81, .aload_n 0, 1, 0, [0]),
  (82, .getfield 40, 3, 0, [4, 0, 0]),
  (85, .iconst 0, 1, 0, []),
  (86, .iastore, 1, 0, []),
  (87, .aload_n 0, 1, 0, [0]),
  (88, .getfield 22, 3, 0, [4, 5, 1]),
  (91, .aload_n 0, 1, 0, [0]),
  (92, .getfield 40, 3, 0, [4, 0, 0]),
  (95, .iconst 0, 1, 0, []),
  (96, .iastore, 1, 0, []),
  (97, .aload_n 0, 1, 0, [0]),
  (98, .dup, 1, 0, []),
  (99, .getfield 40, 3, 0, [4, 0, 0]),
  (102, .iconst 1, 1, 1, []),
  (103, .iadd, 1, 0, []),
  (104, .putfield 40, 3, 0, [4, 0, 0, 0]),
  (107, .aload_n 0, 1, 0, [0]),
  (108, .getfield 40, 3, 0, [4, 0, 0]),
  (111, .iconst 1, 1, 1, []),
  (112, .isub, 1, 0, []),
  (113, .ireturn, 1, 0, []),
  (114, .athrow, 0, 0, [])]
def kX4_began : List fd_E := [(0, .aload_n 0, 1, 0, [0]),
  (1, .getfield 37, 3, 0, [4, 13, 1]),
  (4, .aload_n 0, 1, 0, [0]),
  (5, .getfield 49, 3, 0, [4, 14, 0]),
  (8, .iload_n 1, 1, 0, [1]),
  (9, .iastore, 1, 0, []),
  (10, .aload_n 0, 1, 0, [0]),
  (11, .dup, 1, 0, []),
  (12, .getfield 49, 3, 0, [4, 14, 0]),
  (15, .iconst 1, 1, 1, []),
  (16, .iadd, 1, 0, []),
  (17, .putfield 49, 3, 0, [4, 14, 0, 0]),
  (20, .return_, 1, 0, []),
  (21, .athrow, 0, 0, [])]
def kX4_length : List fd_E := [(0, .aload_n 0, 1, 0, [0]),
  (1, .getfield 7, 3, 0, [4, 1, 1]),
  (4, .iload_n 1, 1, 0, [1]),
  (5, .iaload, 1, 0, []),
  (6, .istore_n 2, 1, 0, [2]),
  (7, .aload_n 0, 1, 0, [0]),
  (8, .getfield 13, 3, 0, [4, 2, 1]),
  (11, .iload_n 1, 1, 0, [1]),
  (12, .iaload, 1, 0, []),
  (13, .istore_n 3, 1, 0, [3]),
  (14, .iload_n 2, 1, 0, [2]),
  (15, .iconst 4, 1, 4, []),
  (16, .if_icmp .ne 8, 3, 0, [16]),
  (19, .aload_n 0, 1, 0, [0]),
  (20, .iconst 3, 1, 3, []),
  (21, .invokevirtual 52, 3, 0, [52, 0]),
  (24, .iload_n 2, 1, 0, [2]),
  (25, .iconst 2, 1, 2, []),
  (26, .iconst 4, 1, 4, []),
  (27, .invokestatic 44, 3, 0, [48, 1]),
  (30, .ifCond .eq 8, 3, 0, [24]),
  (33, .aload_n 0, 1, 0, [0]),
  (34, .iconst 2, 1, 2, []),
  (35, .invokevirtual 52, 3, 0, [52, 0]),
  (38, .iload_n 2, 1, 0, [2]),
  (39, .bipush 6, 2, 6, []),
  (41, .if_icmp .ne 8, 3, 0, [30]),
  (44, .aload_n 0, 1, 0, [0]),
  (45, .iconst 4, 1, 4, []),
  (46, .invokevirtual 52, 3, 0, [52, 0]),
  (49, .aload_n 0, 1, 0, [0]),
  (50, .iconst 1, 1, 1, []),
  (51, .invokevirtual 52, 3, 0, [52, 0]),
  (54, .iload_n 3, 1, 0, [3]),
  (55, .iload_n 2, 1, 0, [2]),
  (56, .iconst 2, 1, 2, []),
  (57, .iconst 4, 1, 4, []),
  (58, .invokestatic 44, 3, 0, [48, 1]),
  (61, .ifCond .eq 8, 3, 0, [41]),
  (64, .bipush 10, 2, 10, []),
  (66, .goto 14, 3, 0, [47]),
  (69, .iload_n 2, 1, 0, [2]),
  (70, .bipush 6, 2, 6, []),
  (72, .if_icmp .ne 7, 3, 0, [46]),
  (75, .iconst 5, 1, 5, []),
  (76, .goto 4, 3, 0, [47]),
  (79, .iconst 0, 1, 0, []),
  (80, .iadd, 1, 0, []),
  (81, .istore_n 3, 1, 0, [3]),
  (82, .iload_n 2, 1, 0, [2]),
  (83, .iconst 4, 1, 4, []),
  (84, .if_icmp .ne 9, 3, 0, [56]),
  (87, .iconst 2, 1, 2, []),
  (88, .iload_n 3, 1, 0, [3]),
  (89, .imul, 1, 0, []),
  (90, .goto 4, 3, 0, [57]),
  (93, .iload_n 3, 1, 0, [3]),
  (94, .ireturn, 1, 0, []),
  (95, .athrow, 0, 0, [])]
def kX4_mass : List fd_E := [(0, .aload_n 0, 1, 0, [0]),
  (1, .getfield 7, 3, 0, [4, 1, 1]),
  (4, .iload_n 1, 1, 0, [1]),
  (5, .iaload, 1, 0, []),
  (6, .istore_n 2, 1, 0, [2]),
  (7, .iload_n 2, 1, 0, [2]),
  (8, .iconst 3, 1, 3, []),
  (9, .iconst 4, 1, 4, []),
  (10, .invokestatic 44, 3, 0, [48, 1]),
  (13, .ifCond .eq 9, 3, 0, [13]),
  (16, .aload_n 0, 1, 0, [0]),
  (17, .bipush 13, 2, 13, []),
  (19, .invokevirtual 52, 3, 0, [52, 0]),
  (22, .iload_n 2, 1, 0, [2]),
  (23, .iconst 1, 1, 1, []),
  (24, .iconst 4, 1, 4, []),
  (25, .invokestatic 44, 3, 0, [48, 1]),
  (28, .ifCond .eq 9, 3, 0, [21]),
  (31, .aload_n 0, 1, 0, [0]),
  (32, .bipush 12, 2, 12, []),
  (34, .invokevirtual 52, 3, 0, [52, 0]),
  (37, .iload_n 2, 1, 0, [2]),
  (38, .bipush 6, 2, 6, []),
  (40, .if_icmp .ne 9, 3, 0, [27]),
  (43, .aload_n 0, 1, 0, [0]),
  (44, .bipush 14, 2, 14, []),
  (46, .invokevirtual 52, 3, 0, [52, 0]),
  (49, .aload_n 0, 1, 0, [0]),
  (50, .bipush 11, 2, 11, []),
  (52, .invokevirtual 52, 3, 0, [52, 0]),
  (55, .sipush 1200, 3, 1200, []),
  (58, .aload_n 0, 1, 0, [0]),
  (59, .getfield 16, 3, 0, [4, 3, 1]),
  (62, .iload_n 1, 1, 0, [1]),
  (63, .iaload, 1, 0, []),
  (64, .iadd, 1, 0, []),
  (65, .iload_n 2, 1, 0, [2]),
  (66, .iconst 1, 1, 1, []),
  (67, .iconst 4, 1, 4, []),
  (68, .invokestatic 44, 3, 0, [48, 1]),
  (71, .ifCond .eq 9, 3, 0, [43]),
  (74, .sipush 800, 3, 800, []),
  (77, .goto 4, 3, 0, [44]),
  (80, .iconst 0, 1, 0, []),
  (81, .iadd, 1, 0, []),
  (82, .iload_n 2, 1, 0, [2]),
  (83, .iconst 3, 1, 3, []),
  (84, .iconst 4, 1, 4, []),
  (85, .invokestatic 44, 3, 0, [48, 1]),
  (88, .ifCond .eq 14, 3, 0, [57]),
  (91, .aload_n 0, 1, 0, [0]),
  (92, .getfield 16, 3, 0, [4, 3, 1]),
  (95, .iload_n 1, 1, 0, [1]),
  (96, .iaload, 1, 0, []),
  (97, .iconst 4, 1, 4, []),
  (98, .idiv, 1, 0, []),
  (99, .goto 4, 3, 0, [58]),
  (102, .iconst 0, 1, 0, []),
  (103, .iadd, 1, 0, []),
  (104, .iload_n 2, 1, 0, [2]),
  (105, .bipush 6, 2, 6, []),
  (107, .if_icmp .ne 9, 3, 0, [64]),
  (110, .sipush 9000, 3, 9000, []),
  (113, .goto 4, 3, 0, [65]),
  (116, .iconst 0, 1, 0, []),
  (117, .iadd, 1, 0, []),
  (118, .ireturn, 1, 0, []),
  (119, .athrow, 0, 0, [])]
def kX4_minutes : List fd_E := [(0, .aload_n 0, 1, 0, [0]),
  (1, .getfield 7, 3, 0, [4, 1, 1]),
  (4, .iload_n 1, 1, 0, [1]),
  (5, .iaload, 1, 0, []),
  (6, .iconst 4, 1, 4, []),
  (7, .if_icmp .ne 9, 3, 0, [9]),
  (10, .aload_n 0, 1, 0, [0]),
  (11, .bipush 22, 2, 22, []),
  (13, .invokevirtual 52, 3, 0, [52, 0]),
  (16, .aload_n 0, 1, 0, [0]),
  (17, .bipush 21, 2, 21, []),
  (19, .invokevirtual 52, 3, 0, [52, 0]),
  (22, .iconst 1, 1, 1, []),
  (23, .aload_n 0, 1, 0, [0]),
  (24, .iload_n 1, 1, 0, [1]),
  (25, .invokevirtual 56, 3, 0, [53, 0]),
  (28, .bipush 50, 2, 50, []),
  (30, .idiv, 1, 0, []),
  (31, .iadd, 1, 0, []),
  (32, .aload_n 0, 1, 0, [0]),
  (33, .getfield 7, 3, 0, [4, 1, 1]),
  (36, .iload_n 1, 1, 0, [1]),
  (37, .iaload, 1, 0, []),
  (38, .iconst 4, 1, 4, []),
  (39, .if_icmp .ne 8, 3, 0, [27]),
  (42, .bipush 6, 2, 6, []),
  (44, .goto 4, 3, 0, [28]),
  (47, .iconst 0, 1, 0, []),
  (48, .iadd, 1, 0, []),
  (49, .ireturn, 1, 0, []),
  (50, .athrow, 0, 0, [])]
def kX4_fare : List fd_E := [(0, .aload_n 0, 1, 0, [0]),
  (1, .getfield 7, 3, 0, [4, 1, 1]),
  (4, .iload_n 1, 1, 0, [1]),
  (5, .iaload, 1, 0, []),
  (6, .istore_n 3, 1, 0, [3]),
  (7, .iload_n 3, 1, 0, [3]),
  (8, .iconst 4, 1, 4, []),
  (9, .if_icmp .ne 9, 3, 0, [11]),
  (12, .aload_n 0, 1, 0, [0]),
  (13, .bipush 34, 2, 34, []),
  (15, .invokevirtual 52, 3, 0, [52, 0]),
  (18, .iload_n 3, 1, 0, [3]),
  (19, .iconst 3, 1, 3, []),
  (20, .iconst 4, 1, 4, []),
  (21, .invokestatic 44, 3, 0, [48, 1]),
  (24, .ifCond .eq 9, 3, 0, [19]),
  (27, .aload_n 0, 1, 0, [0]),
  (28, .bipush 33, 2, 33, []),
  (30, .invokevirtual 52, 3, 0, [52, 0]),
  (33, .iload_n 3, 1, 0, [3]),
  (34, .iconst 1, 1, 1, []),
  (35, .iconst 4, 1, 4, []),
  (36, .invokestatic 44, 3, 0, [48, 1]),
  (39, .ifCond .eq 9, 3, 0, [27]),
  (42, .aload_n 0, 1, 0, [0]),
  (43, .bipush 32, 2, 32, []),
  (45, .invokevirtual 52, 3, 0, [52, 0]),
  (48, .iload_n 3, 1, 0, [3]),
  (49, .bipush 6, 2, 6, []),
  (51, .if_icmp .ne 9, 3, 0, [33]),
  (54, .aload_n 0, 1, 0, [0]),
  (55, .bipush 35, 2, 35, []),
  (57, .invokevirtual 52, 3, 0, [52, 0]),
  (60, .aload_n 0, 1, 0, [0]),
  (61, .bipush 31, 2, 31, []),
  (63, .invokevirtual 52, 3, 0, [52, 0]),
  (66, .sipush 500, 3, 500, []),
  (69, .aload_n 0, 1, 0, [0]),
  (70, .iload_n 1, 1, 0, [1]),
  (71, .invokevirtual 56, 3, 0, [53, 0]),
  (74, .bipush 10, 2, 10, []),
  (76, .iload_n 2, 1, 0, [2]),
  (77, .iadd, 1, 0, []),
  (78, .imul, 1, 0, []),
  (79, .iadd, 1, 0, []),
  (80, .istore 4, 2, 0, [4]),
  (82, .iload_n 3, 1, 0, [3]),
  (83, .iconst 1, 1, 1, []),
  (84, .iconst 4, 1, 4, []),
  (85, .invokestatic 44, 3, 0, [48, 1]),
  (88, .ifCond .eq 12, 3, 0, [57]),
  (91, .iload 4, 2, 0, [4]),
  (93, .bipush 20, 2, 20, []),
  (95, .iload_n 2, 1, 0, [2]),
  (96, .imul, 1, 0, []),
  (97, .iadd, 1, 0, []),
  (98, .istore 4, 2, 0, [4]),
  (100, .iload_n 3, 1, 0, [3]),
  (101, .iconst 3, 1, 3, []),
  (102, .iconst 4, 1, 4, []),
  (103, .invokestatic 44, 3, 0, [48, 1]),
  (106, .ifCond .eq 9, 3, 0, [66]),
  (109, .iconst 2, 1, 2, []),
  (110, .iload 4, 2, 0, [4]),
  (112, .imul, 1, 0, []),
  (113, .istore 4, 2, 0, [4]),
  (115, .iload_n 3, 1, 0, [3]),
  (116, .bipush 6, 2, 6, []),
  (118, .if_icmp .ne 13, 3, 0, [75]),
  (121, .iload 4, 2, 0, [4]),
  (123, .iload 4, 2, 0, [4]),
  (125, .bipush 10, 2, 10, []),
  (127, .idiv, 1, 0, []),
  (128, .isub, 1, 0, []),
  (129, .istore 4, 2, 0, [4]),
  (131, .iload_n 3, 1, 0, [3]),
  (132, .iconst 4, 1, 4, []),
  (133, .if_icmp .ne 16, 3, 0, [86]),
  (136, .iload 4, 2, 0, [4]),
  (138, .aload_n 0, 1, 0, [0]),
  (139, .iload_n 1, 1, 0, [1]),
  (140, .invokevirtual 60, 3, 0, [54, 0]),
  (143, .bipush 100, 2, 100, []),
  (145, .idiv, 1, 0, []),
  (146, .iadd, 1, 0, []),
  (147, .istore 4, 2, 0, [4]),
  (149, .iload 4, 2, 0, [4]),
  (151, .ireturn, 1, 0, []),
  (152, .athrow, 0, 0, [])]
def kX4_isHeavy : List fd_E := [(0, .iload_n 0, 1, 0, [0]),
  (1, .iconst 2, 1, 2, []),
  (2, .iconst 4, 1, 4, []),
  (3, .invokestatic 44, 3, 0, [48, 1]),
  (6, .ifCond .ne 9, 3, 0, [8]),
  (9, .iload_n 0, 1, 0, [0]),
  (10, .bipush 6, 2, 6, []),
  (12, .if_icmp .ne 7, 3, 0, [10]),
  (15, .iconst 1, 1, 1, []),
  (16, .goto 4, 3, 0, [11]),
  (19, .iconst 0, 1, 0, []),
  (20, .ireturn, 1, 0, []),
  (21, .athrow, 0, 0, [])]
def kX4_isMarked : List fd_E := [(0, .iload_n 0, 1, 0, [0]),
  (1, .iconst 3, 1, 3, []),
  (2, .if_icmp .lt 7, 3, 0, [5]),
  (5, .iconst 1, 1, 1, []),
  (6, .goto 4, 3, 0, [6]),
  (9, .iconst 0, 1, 0, []),
  (10, .ireturn, 1, 0, []),
  (11, .athrow, 0, 0, [])]
def kX4_toll : List fd_E := [(0, .aload_n 0, 1, 0, [0]),
  (1, .getfield 7, 3, 0, [4, 1, 1]),
  (4, .iload_n 1, 1, 0, [1]),
  (5, .iaload, 1, 0, []),
  (6, .iconst 3, 1, 3, []),
  (7, .iconst 4, 1, 4, []),
  (8, .invokestatic 44, 3, 0, [48, 1]),
  (11, .istore_n 2, 1, 0, [2]),
  (12, .aload_n 0, 1, 0, [0]),
  (13, .iload_n 2, 1, 0, [2]),
  (14, .ifCond .eq 8, 3, 0, [13]),
  (17, .bipush 42, 2, 42, []),
  (19, .goto 5, 3, 0, [14]),
  (22, .bipush 41, 2, 41, []),
  (24, .invokevirtual 52, 3, 0, [52, 0]),
  (27, .aload_n 0, 1, 0, [0]),
  (28, .iload_n 1, 1, 0, [1]),
  (29, .invokevirtual 60, 3, 0, [54, 0]),
  (32, .istore_n 3, 1, 0, [3]),
  (33, .iload_n 2, 1, 0, [2]),
  (34, .ifCond .eq 14, 3, 0, [27]),
  (37, .iload_n 3, 1, 0, [3]),
  (38, .bipush 100, 2, 100, []),
  (40, .idiv, 1, 0, []),
  (41, .sipush 300, 3, 300, []),
  (44, .iadd, 1, 0, []),
  (45, .goto 8, 3, 0, [30]),
  (48, .iload_n 3, 1, 0, [3]),
  (49, .sipush 200, 3, 200, []),
  (52, .idiv, 1, 0, []),
  (53, .ireturn, 1, 0, []),
  (54, .athrow, 0, 0, [])]
def kX4_danger : List fd_E := [(0, .aload_n 0, 1, 0, [0]),
  (1, .getfield 7, 3, 0, [4, 1, 1]),
  (4, .iload_n 1, 1, 0, [1]),
  (5, .iaload, 1, 0, []),
  (6, .bipush 6, 2, 6, []),
  (8, .if_icmp .ne 20, 3, 0, [17]),
  (11, .aload_n 0, 1, 0, [0]),
  (12, .bipush 52, 2, 52, []),
  (14, .invokevirtual 52, 3, 0, [52, 0]),
  (17, .iconst 2, 1, 2, []),
  (18, .aload_n 0, 1, 0, [0]),
  (19, .iload_n 1, 1, 0, [1]),
  (20, .invokevirtual 56, 3, 0, [53, 0]),
  (23, .bipush 100, 2, 100, []),
  (25, .idiv, 1, 0, []),
  (26, .iadd, 1, 0, []),
  (27, .ireturn, 1, 0, []),
  (28, .aload_n 0, 1, 0, [0]),
  (29, .bipush 51, 2, 51, []),
  (31, .invokevirtual 52, 3, 0, [52, 0]),
  (34, .iconst 1, 1, 1, []),
  (35, .aload_n 0, 1, 0, [0]),
  (36, .iload_n 1, 1, 0, [1]),
  (37, .invokevirtual 63, 3, 0, [55, 0]),
  (40, .iconst 4, 1, 4, []),
  (41, .idiv, 1, 0, []),
  (42, .iadd, 1, 0, []),
  (43, .ireturn, 1, 0, []),
  (44, .athrow, 0, 0, [])]
def kX4_ask : List fd_E := [(0, .aload_n 0, 1, 0, [0]),
  (1, .iload_n 1, 1, 0, [1]),
  (2, .invokevirtual 66, 3, 0, [49, 0]),
  (5, .ifCond .eq 26, 3, 0, [17]),
  (8, .iload_n 2, 1, 0, [2]),
  (9, .iconst 0, 1, 0, []),
  (10, .iconst 5, 1, 5, []),
  (11, .invokestatic 44, 3, 0, [48, 1]),
  (14, .ifCond .eq 17, 3, 0, [17]),
  (17, .iload_n 2, 1, 0, [2]),
  (18, .iconst 3, 1, 3, []),
  (19, .if_icmp .ne 15, 3, 0, [19]),
  (22, .iload_n 3, 1, 0, [3]),
  (23, .iconst 0, 1, 0, []),
  (24, .iconst 3, 1, 3, []),
  (25, .invokestatic 44, 3, 0, [48, 1]),
  (28, .ifCond .ne 6, 3, 0, [19]),
  (31, .bipush (-2), 2, -2, []),
  (33, .ireturn, 1, 0, []),
  (34, .aload_n 0, 1, 0, [0]),
  (35, .iconst 0, 1, 0, []),
  (36, .putfield 49, 3, 0, [4, 14, 0, 0]),
  (39, .iload_n 2, 1, 0, [2]),
  (40, .tableswitch 84 0 4 #[36, 42, 48, 54, 61], 36, 0, [53, 24, 28, 32, 36, 41]),
  (76, .aload_n 0, 1, 0, [0]),
  (77, .iload_n 1, 1, 0, [1]),
  (78, .invokevirtual 56, 3, 0, [53, 0]),
  (81, .ireturn, 1, 0, []),
  (82, .aload_n 0, 1, 0, [0]),
  (83, .iload_n 1, 1, 0, [1]),
  (84, .invokevirtual 60, 3, 0, [54, 0]),
  (87, .ireturn, 1, 0, []),
  (88, .aload_n 0, 1, 0, [0]),
  (89, .iload_n 1, 1, 0, [1]),
  (90, .invokevirtual 63, 3, 0, [55, 0]),
  (93, .ireturn, 1, 0, []),
  (94, .aload_n 0, 1, 0, [0]),
  (95, .iload_n 1, 1, 0, [1]),
  (96, .iload_n 3, 1, 0, [3]),
  (97, .invokevirtual 70, 3, 0, [56, 0]),
  (100, .ireturn, 1, 0, []),
  (101, .aload_n 0, 1, 0, [0]),
  (102, .getfield 7, 3, 0, [4, 1, 1]),
  (105, .iload_n 1, 1, 0, [1]),
  (106, .iaload, 1, 0, []),
  (107, .invokestatic 74, 3, 0, [57, 1]),
  (110, .ifCond .eq 11, 3, 0, [51]),
  (113, .aload_n 0, 1, 0, [0]),
  (114, .iload_n 1, 1, 0, [1]),
  (115, .invokevirtual 77, 3, 0, [59, 0]),
  (118, .goto 5, 3, 0, [52]),
  (121, .bipush (-3), 2, -3, []),
  (123, .ireturn, 1, 0, []),
  (124, .aload_n 0, 1, 0, [0]),
  (125, .getfield 7, 3, 0, [4, 1, 1]),
  (128, .iload_n 1, 1, 0, [1]),
  (129, .iaload, 1, 0, []),
  (130, .invokestatic 80, 3, 0, [58, 1]),
  (133, .ifCond .eq 11, 3, 0, [63]),
  (136, .aload_n 0, 1, 0, [0]),
  (137, .iload_n 1, 1, 0, [1]),
  (138, .invokevirtual 83, 3, 0, [60, 0]),
  (141, .goto 5, 3, 0, [64]),
  (144, .bipush (-3), 2, -3, []),
  (146, .ireturn, 1, 0, []),
  (147, .athrow, 0, 0, [])]
def kX4_trace : List fd_E := [(0, .iload_n 1, 1, 0, [1]),
  (1, .iconst 0, 1, 0, []),
  (2, .aload_n 0, 1, 0, [0]),
  (3, .getfield 49, 3, 0, [4, 14, 0]),
  (6, .iconst 1, 1, 1, []),
  (7, .isub, 1, 0, []),
  (8, .invokestatic 44, 3, 0, [48, 1]),
  (11, .ifCond .eq 12, 3, 0, [13]),
  (14, .aload_n 0, 1, 0, [0]),
  (15, .getfield 37, 3, 0, [4, 13, 1]),
  (18, .iload_n 1, 1, 0, [1]),
  (19, .iaload, 1, 0, []),
  (20, .goto 4, 3, 0, [14]),
  (23, .iconst (-1), 1, -1, []),
  (24, .ireturn, 1, 0, []),
  (25, .athrow, 0, 0, [])]
def kX4_quiet : List fd_E := [(0, .aload_n 0, 1, 0, [0]),
  (1, .getfield 49, 3, 0, [4, 14, 0]),
  (4, .istore 4, 2, 0, [4]),
  (6, .iconst 0, 1, 0, []),
  (7, .istore 5, 2, 0, [5]),
  (9, .iload_n 2, 1, 0, [2]),
  (10, .tableswitch 101 0 4 #[34, 44, 54, 64, 75], 34, 0, [41, 7, 12, 17, 22, 28]),
  (44, .aload_n 0, 1, 0, [0]),
  (45, .iload_n 1, 1, 0, [1]),
  (46, .invokevirtual 56, 3, 0, [53, 0]),
  (49, .istore 5, 2, 0, [5]),
  (51, .goto 67, 3, 0, [45]),
  (54, .aload_n 0, 1, 0, [0]),
  (55, .iload_n 1, 1, 0, [1]),
  (56, .invokevirtual 60, 3, 0, [54, 0]),
  (59, .istore 5, 2, 0, [5]),
  (61, .goto 57, 3, 0, [45]),
  (64, .aload_n 0, 1, 0, [0]),
  (65, .iload_n 1, 1, 0, [1]),
  (66, .invokevirtual 63, 3, 0, [55, 0]),
  (69, .istore 5, 2, 0, [5]),
  (71, .goto 47, 3, 0, [45]),
  (74, .aload_n 0, 1, 0, [0]),
  (75, .iload_n 1, 1, 0, [1]),
  (76, .iload_n 3, 1, 0, [3]),
  (77, .invokevirtual 70, 3, 0, [56, 0]),
  (80, .istore 5, 2, 0, [5]),
  (82, .goto 36, 3, 0, [45]),
  (85, .aload_n 0, 1, 0, [0]),
  (86, .getfield 7, 3, 0, [4, 1, 1]),
  (89, .iload_n 1, 1, 0, [1]),
  (90, .iaload, 1, 0, []),
  (91, .invokestatic 74, 3, 0, [57, 1]),
  (94, .ifCond .eq 11, 3, 0, [38]),
  (97, .aload_n 0, 1, 0, [0]),
  (98, .iload_n 1, 1, 0, [1]),
  (99, .invokevirtual 77, 3, 0, [59, 0]),
  (102, .goto 4, 3, 0, [39]),
  (105, .iconst 0, 1, 0, []),
  (106, .istore 5, 2, 0, [5]),
  (108, .goto 10, 3, 0, [45]),
  (111, .aload_n 0, 1, 0, [0]),
  (112, .iload_n 1, 1, 0, [1]),
  (113, .invokevirtual 83, 3, 0, [60, 0]),
  (116, .istore 5, 2, 0, [5]),
  (118, .aload_n 0, 1, 0, [0]),
  (119, .iload 4, 2, 0, [4]),
  (121, .putfield 49, 3, 0, [4, 14, 0, 0]),
  (124, .iload 5, 2, 0, [5]),
  (126, .ireturn, 1, 0, []),
  (127, .athrow, 0, 0, [])]
def kX4_lane : List fd_E := [(0, .iload_n 1, 1, 0, [1]),
  (1, .invokestatic 86, 3, 0, [50, 1]),
  (4, .ifCond .eq 24, 3, 0, [13]),
  (7, .iload_n 2, 1, 0, [2]),
  (8, .iconst 0, 1, 0, []),
  (9, .sipush 2000, 3, 2000, []),
  (12, .invokestatic 44, 3, 0, [48, 1]),
  (15, .ifCond .eq 13, 3, 0, [13]),
  (18, .iload_n 3, 1, 0, [3]),
  (19, .iconst 0, 1, 0, []),
  (20, .ldc 89, 2, 200000, []),
  (22, .invokestatic 44, 3, 0, [48, 1]),
  (25, .ifCond .ne 6, 3, 0, [15]),
  (28, .bipush (-2), 2, -2, []),
  (30, .ireturn, 1, 0, []),
  (31, .aload_n 0, 1, 0, [0]),
  (32, .getfield 31, 3, 0, [4, 8, 1]),
  (35, .iload_n 1, 1, 0, [1]),
  (36, .iaload, 1, 0, []),
  (37, .ifCond .le 6, 3, 0, [22]),
  (40, .bipush (-3), 2, -3, []),
  (42, .ireturn, 1, 0, []),
  (43, .aload_n 0, 1, 0, [0]),
  (44, .getfield 25, 3, 0, [4, 6, 1]),
  (47, .iload_n 1, 1, 0, [1]),
  (48, .iload_n 2, 1, 0, [2]),
  (49, .iastore, 1, 0, []),
  (50, .aload_n 0, 1, 0, [0]),
  (51, .getfield 28, 3, 0, [4, 7, 1]),
  (54, .iload_n 1, 1, 0, [1]),
  (55, .iload_n 3, 1, 0, [3]),
  (56, .iastore, 1, 0, []),
  (57, .iconst 1, 1, 1, []),
  (58, .ireturn, 1, 0, []),
  (59, .athrow, 0, 0, [])]
def kX4_season : List fd_E := [(0, .iload_n 1, 1, 0, [1]),
  (1, .iconst 0, 1, 0, []),
  (2, .iconst 3, 1, 3, []),
  (3, .invokestatic 44, 3, 0, [48, 1]),
  (6, .ifCond .ne 6, 3, 0, [7]),
  (9, .bipush (-2), 2, -2, []),
  (11, .ireturn, 1, 0, []),
  (12, .aload_n 0, 1, 0, [0]),
  (13, .getfield 90, 3, 0, [4, 10, 0]),
  (16, .istore_n 2, 1, 0, [2]),
  (17, .aload_n 0, 1, 0, [0]),
  (18, .iload_n 1, 1, 0, [1]),
  (19, .putfield 90, 3, 0, [4, 10, 0, 0]),
  (22, .iload_n 2, 1, 0, [2]),
  (23, .ireturn, 1, 0, []),
  (24, .athrow, 0, 0, [])]
def kX4_leftLength : List fd_E := [(0, .aload_n 0, 1, 0, [0]),
  (1, .getfield 25, 3, 0, [4, 6, 1]),
  (4, .iload_n 1, 1, 0, [1]),
  (5, .iaload, 1, 0, []),
  (6, .istore_n 2, 1, 0, [2]),
  (7, .iconst 0, 1, 0, []),
  (8, .istore_n 3, 1, 0, [3]),
  (9, .iload_n 3, 1, 0, [3]),
  (10, .aload_n 0, 1, 0, [0]),
  (11, .getfield 31, 3, 0, [4, 8, 1]),
  (14, .iload_n 1, 1, 0, [1]),
  (15, .iaload, 1, 0, []),
  (16, .if_icmp .ge 31, 3, 0, [32]),
  (19, .iload_n 2, 1, 0, [2]),
  (20, .aload_n 0, 1, 0, [0]),
  (21, .aload_n 0, 1, 0, [0]),
  (22, .getfield 34, 3, 0, [4, 9, 1]),
  (25, .bipush 60, 2, 60, []),
  (27, .iload_n 1, 1, 0, [1]),
  (28, .imul, 1, 0, []),
  (29, .iload_n 3, 1, 0, [3]),
  (30, .iadd, 1, 0, []),
  (31, .iaload, 1, 0, []),
  (32, .iconst 0, 1, 0, []),
  (33, .iconst 0, 1, 0, []),
  (34, .invokevirtual 93, 3, 0, [63, 0]),
  (37, .iconst 5, 1, 5, []),
  (38, .iadd, 1, 0, []),
  (39, .isub, 1, 0, []),
  (40, .istore_n 2, 1, 0, [2]),
  (41, .iinc 3 1, 3, 1, [3]),
  (44, .goto (-35), 3, 0, [7]),
  (47, .iload_n 2, 1, 0, [2]),
  (48, .ireturn, 1, 0, []),
  (49, .athrow, 0, 0, [])]
def kX4_carried : List fd_E := [(0, .iconst 0, 1, 0, []),
  (1, .istore_n 2, 1, 0, [2]),
  (2, .iconst 0, 1, 0, []),
  (3, .istore_n 3, 1, 0, [3]),
  (4, .iload_n 3, 1, 0, [3]),
  (5, .aload_n 0, 1, 0, [0]),
  (6, .getfield 31, 3, 0, [4, 8, 1]),
  (9, .iload_n 1, 1, 0, [1]),
  (10, .iaload, 1, 0, []),
  (11, .if_icmp .ge 29, 3, 0, [27]),
  (14, .iload_n 2, 1, 0, [2]),
  (15, .aload_n 0, 1, 0, [0]),
  (16, .aload_n 0, 1, 0, [0]),
  (17, .getfield 34, 3, 0, [4, 9, 1]),
  (20, .bipush 60, 2, 60, []),
  (22, .iload_n 1, 1, 0, [1]),
  (23, .imul, 1, 0, []),
  (24, .iload_n 3, 1, 0, [3]),
  (25, .iadd, 1, 0, []),
  (26, .iaload, 1, 0, []),
  (27, .iconst 1, 1, 1, []),
  (28, .iconst 0, 1, 0, []),
  (29, .invokevirtual 93, 3, 0, [63, 0]),
  (32, .iadd, 1, 0, []),
  (33, .istore_n 2, 1, 0, [2]),
  (34, .iinc 3 1, 3, 1, [3]),
  (37, .goto (-33), 3, 0, [4]),
  (40, .iload_n 2, 1, 0, [2]),
  (41, .ireturn, 1, 0, []),
  (42, .athrow, 0, 0, [])]
def kX4_lasts : List fd_E := [(0, .iconst 0, 1, 0, []),
  (1, .istore_n 2, 1, 0, [2]),
  (2, .iconst 0, 1, 0, []),
  (3, .istore_n 3, 1, 0, [3]),
  (4, .iload_n 3, 1, 0, [3]),
  (5, .aload_n 0, 1, 0, [0]),
  (6, .getfield 31, 3, 0, [4, 8, 1]),
  (9, .iload_n 1, 1, 0, [1]),
  (10, .iaload, 1, 0, []),
  (11, .if_icmp .ge 29, 3, 0, [27]),
  (14, .iload_n 2, 1, 0, [2]),
  (15, .aload_n 0, 1, 0, [0]),
  (16, .aload_n 0, 1, 0, [0]),
  (17, .getfield 34, 3, 0, [4, 9, 1]),
  (20, .bipush 60, 2, 60, []),
  (22, .iload_n 1, 1, 0, [1]),
  (23, .imul, 1, 0, []),
  (24, .iload_n 3, 1, 0, [3]),
  (25, .iadd, 1, 0, []),
  (26, .iaload, 1, 0, []),
  (27, .iconst 2, 1, 2, []),
  (28, .iconst 0, 1, 0, []),
  (29, .invokevirtual 93, 3, 0, [63, 0]),
  (32, .iadd, 1, 0, []),
  (33, .istore_n 2, 1, 0, [2]),
  (34, .iinc 3 1, 3, 1, [3]),
  (37, .goto (-33), 3, 0, [4]),
  (40, .iload_n 2, 1, 0, [2]),
  (41, .ireturn, 1, 0, []),
  (42, .athrow, 0, 0, [])]
def kX4_board : List fd_E := [(0, .aload_n 0, 1, 0, [0]),
  (1, .iload_n 1, 1, 0, [1]),
  (2, .invokevirtual 66, 3, 0, [49, 0]),
  (5, .ifCond .eq 10, 3, 0, [7]),
  (8, .iload_n 2, 1, 0, [2]),
  (9, .invokestatic 86, 3, 0, [50, 1]),
  (12, .ifCond .ne 6, 3, 0, [9]),
  (15, .bipush (-2), 2, -2, []),
  (17, .ireturn, 1, 0, []),
  (18, .aload_n 0, 1, 0, [0]),
  (19, .getfield 19, 3, 0, [4, 4, 1]),
  (22, .iload_n 1, 1, 0, [1]),
  (23, .iaload, 1, 0, []),
  (24, .ifCond .eq 6, 3, 0, [16]),
  (27, .bipush (-3), 2, -3, []),
  (29, .ireturn, 1, 0, []),
  (30, .aload_n 0, 1, 0, [0]),
  (31, .iload_n 1, 1, 0, [1]),
  (32, .iconst 0, 1, 0, []),
  (33, .iconst 0, 1, 0, []),
  (34, .invokevirtual 93, 3, 0, [63, 0]),
  (37, .iconst 5, 1, 5, []),
  (38, .iadd, 1, 0, []),
  (39, .aload_n 0, 1, 0, [0]),
  (40, .iload_n 2, 1, 0, [2]),
  (41, .invokevirtual 97, 3, 0, [66, 0]),
  (44, .if_icmp .gt 25, 3, 0, [41]),
  (47, .aload_n 0, 1, 0, [0]),
  (48, .iload_n 1, 1, 0, [1]),
  (49, .iconst 1, 1, 1, []),
  (50, .iconst 0, 1, 0, []),
  (51, .invokevirtual 93, 3, 0, [63, 0]),
  (54, .aload_n 0, 1, 0, [0]),
  (55, .getfield 28, 3, 0, [4, 7, 1]),
  (58, .iload_n 2, 1, 0, [2]),
  (59, .iaload, 1, 0, []),
  (60, .aload_n 0, 1, 0, [0]),
  (61, .iload_n 2, 1, 0, [2]),
  (62, .invokevirtual 100, 3, 0, [67, 0]),
  (65, .isub, 1, 0, []),
  (66, .if_icmp .le 6, 3, 0, [43]),
  (69, .bipush (-4), 2, -4, []),
  (71, .ireturn, 1, 0, []),
  (72, .aload_n 0, 1, 0, [0]),
  (73, .getfield 31, 3, 0, [4, 8, 1]),
  (76, .iload_n 2, 1, 0, [2]),
  (77, .iaload, 1, 0, []),
  (78, .ifCond .le 68, 3, 0, [89]),
  (81, .aload_n 0, 1, 0, [0]),
  (82, .getfield 7, 3, 0, [4, 1, 1]),
  (85, .iload_n 1, 1, 0, [1]),
  (86, .iaload, 1, 0, []),
  (87, .invokestatic 80, 3, 0, [58, 1]),
  (90, .ifCond .eq 56, 3, 0, [89]),
  (93, .aload_n 0, 1, 0, [0]),
  (94, .getfield 34, 3, 0, [4, 9, 1]),
  (97, .bipush 60, 2, 60, []),
  (99, .iload_n 2, 1, 0, [2]),
  (100, .imul, 1, 0, []),
  (101, .aload_n 0, 1, 0, [0]),
  (102, .getfield 31, 3, 0, [4, 8, 1]),
  (105, .iload_n 2, 1, 0, [2]),
  (106, .iaload, 1, 0, []),
  (107, .iadd, 1, 0, []),
  (108, .iconst 1, 1, 1, []),
  (109, .isub, 1, 0, []),
  (110, .iaload, 1, 0, []),
  (111, .istore_n 3, 1, 0, [3]),
  (112, .aload_n 0, 1, 0, [0]),
  (113, .getfield 7, 3, 0, [4, 1, 1]),
  (116, .iload_n 3, 1, 0, [3]),
  (117, .iaload, 1, 0, []),
  (118, .invokestatic 80, 3, 0, [58, 1]),
  (121, .ifCond .eq 25, 3, 0, [89]),
  (124, .aload_n 0, 1, 0, [0]),
  (125, .iload_n 3, 1, 0, [3]),
  (126, .iconst 5, 1, 5, []),
  (127, .iconst 0, 1, 0, []),
  (128, .invokevirtual 93, 3, 0, [63, 0]),
  (131, .aload_n 0, 1, 0, [0]),
  (132, .iload_n 1, 1, 0, [1]),
  (133, .iconst 5, 1, 5, []),
  (134, .iconst 0, 1, 0, []),
  (135, .invokevirtual 93, 3, 0, [63, 0]),
  (138, .iadd, 1, 0, []),
  (139, .iconst 5, 1, 5, []),
  (140, .if_icmp .le 6, 3, 0, [89]),
  (143, .bipush (-5), 2, -5, []),
  (145, .ireturn, 1, 0, []),
  (146, .aload_n 0, 1, 0, [0]),
  (147, .getfield 34, 3, 0, [4, 9, 1]),
  (150, .bipush 60, 2, 60, []),
  (152, .iload_n 2, 1, 0, [2]),
  (153, .imul, 1, 0, []),
  (154, .aload_n 0, 1, 0, [0]),
  (155, .getfield 31, 3, 0, [4, 8, 1]),
  (158, .iload_n 2, 1, 0, [2]),
  (159, .iaload, 1, 0, []),
  (160, .iadd, 1, 0, []),
  (161, .iload_n 1, 1, 0, [1]),
  (162, .iastore, 1, 0, []),
  (163, .aload_n 0, 1, 0, [0]),
  (164, .getfield 31, 3, 0, [4, 8, 1]),
  (167, .iload_n 2, 1, 0, [2]),
  (168, .dup2, 1, 0, []),
  (169, .iaload, 1, 0, []),
  (170, .iconst 1, 1, 1, []),
  (171, .iadd, 1, 0, []),
  (172, .iastore, 1, 0, []),
  (173, .aload_n 0, 1, 0, [0]),
  (174, .getfield 19, 3, 0, [4, 4, 1]),
  (177, .iload_n 1, 1, 0, [1]),
  (178, .iconst 1, 1, 1, []),
  (179, .iastore, 1, 0, []),
  (180, .aload_n 0, 1, 0, [0]),
  (181, .getfield 22, 3, 0, [4, 5, 1]),
  (184, .iload_n 1, 1, 0, [1]),
  (185, .aload_n 0, 1, 0, [0]),
  (186, .iload_n 1, 1, 0, [1]),
  (187, .iconst 3, 1, 3, []),
  (188, .aload_n 0, 1, 0, [0]),
  (189, .getfield 90, 3, 0, [4, 10, 0]),
  (192, .invokevirtual 93, 3, 0, [63, 0]),
  (195, .aload_n 0, 1, 0, [0]),
  (196, .iload_n 1, 1, 0, [1]),
  (197, .iconst 4, 1, 4, []),
  (198, .iconst 0, 1, 0, []),
  (199, .invokevirtual 93, 3, 0, [63, 0]),
  (202, .iadd, 1, 0, []),
  (203, .iastore, 1, 0, []),
  (204, .aload_n 0, 1, 0, [0]),
  (205, .dup, 1, 0, []),
  (206, .getfield 103, 3, 0, [4, 12, 2]),
  (209, .aload_n 0, 1, 0, [0]),
  (210, .getfield 22, 3, 0, [4, 5, 1]),
  (213, .iload_n 1, 1, 0, [1]),
  (214, .iaload, 1, 0, []),
  (215, .i2l, 1, 0, []),
  (216, .ladd, 1, 0, []),
  (217, .putfield 103, 3, 0, [4, 12, 2, 0]),
  (220, .aload_n 0, 1, 0, [0]),
  (221, .getfield 22, 3, 0, [4, 5, 1]),
  (224, .iload_n 1, 1, 0, [1]),
  (225, .iaload, 1, 0, []),
  (226, .ireturn, 1, 0, []),
  (227, .athrow, 0, 0, [])]
def kX4_off : List fd_E := [(0, .iload_n 1, 1, 0, [1]),
  (1, .invokestatic 86, 3, 0, [50, 1]),
  (4, .ifCond .ne 6, 3, 0, [5]),
  (7, .bipush (-2), 2, -2, []),
  (9, .ireturn, 1, 0, []),
  (10, .aload_n 0, 1, 0, [0]),
  (11, .getfield 31, 3, 0, [4, 8, 1]),
  (14, .iload_n 1, 1, 0, [1]),
  (15, .iaload, 1, 0, []),
  (16, .ifCond .ne 6, 3, 0, [12]),
  (19, .bipush (-3), 2, -3, []),
  (21, .ireturn, 1, 0, []),
  (22, .aload_n 0, 1, 0, [0]),
  (23, .getfield 31, 3, 0, [4, 8, 1]),
  (26, .iload_n 1, 1, 0, [1]),
  (27, .dup2, 1, 0, []),
  (28, .iaload, 1, 0, []),
  (29, .iconst 1, 1, 1, []),
  (30, .isub, 1, 0, []),
  (31, .iastore, 1, 0, []),
  (32, .aload_n 0, 1, 0, [0]),
  (33, .getfield 34, 3, 0, [4, 9, 1]),
  (36, .bipush 60, 2, 60, []),
  (38, .iload_n 1, 1, 0, [1]),
  (39, .imul, 1, 0, []),
  (40, .aload_n 0, 1, 0, [0]),
  (41, .getfield 31, 3, 0, [4, 8, 1]),
  (44, .iload_n 1, 1, 0, [1]),
  (45, .iaload, 1, 0, []),
  (46, .iadd, 1, 0, []),
  (47, .iaload, 1, 0, []),
  (48, .istore_n 2, 1, 0, [2]),
  (49, .aload_n 0, 1, 0, [0]),
  (50, .getfield 22, 3, 0, [4, 5, 1]),
  (53, .iload_n 2, 1, 0, [2]),
  (54, .iaload, 1, 0, []),
  (55, .istore_n 3, 1, 0, [3]),
  (56, .aload_n 0, 1, 0, [0]),
  (57, .getfield 19, 3, 0, [4, 4, 1]),
  (60, .iload_n 2, 1, 0, [2]),
  (61, .iconst 0, 1, 0, []),
  (62, .iastore, 1, 0, []),
  (63, .aload_n 0, 1, 0, [0]),
  (64, .getfield 22, 3, 0, [4, 5, 1]),
  (67, .iload_n 2, 1, 0, [2]),
  (68, .iconst 0, 1, 0, []),
  (69, .iastore, 1, 0, []),
  (70, .aload_n 0, 1, 0, [0]),
  (71, .dup, 1, 0, []),
  (72, .getfield 103, 3, 0, [4, 12, 2]),
  (75, .iload_n 3, 1, 0, [3]),
  (76, .i2l, 1, 0, []),
  (77, .lsub, 1, 0, []),
  (78, .putfield 103, 3, 0, [4, 12, 2, 0]),
  (81, .iload_n 3, 1, 0, [3]),
  (82, .ireturn, 1, 0, []),
  (83, .athrow, 0, 0, [])]
def kX4_sail : List fd_E := [(0, .aload_n 0, 1, 0, [0]),
  (1, .getfield 31, 3, 0, [4, 8, 1]),
  (4, .iconst 0, 1, 0, []),
  (5, .iaload, 1, 0, []),
  (6, .aload_n 0, 1, 0, [0]),
  (7, .getfield 31, 3, 0, [4, 8, 1]),
  (10, .iconst 1, 1, 1, []),
  (11, .iaload, 1, 0, []),
  (12, .iadd, 1, 0, []),
  (13, .aload_n 0, 1, 0, [0]),
  (14, .getfield 31, 3, 0, [4, 8, 1]),
  (17, .iconst 2, 1, 2, []),
  (18, .iaload, 1, 0, []),
  (19, .iadd, 1, 0, []),
  (20, .aload_n 0, 1, 0, [0]),
  (21, .getfield 31, 3, 0, [4, 8, 1]),
  (24, .iconst 3, 1, 3, []),
  (25, .iaload, 1, 0, []),
  (26, .iadd, 1, 0, []),
  (27, .istore_n 1, 1, 0, [1]),
  (28, .aload_n 0, 1, 0, [0]),
  (29, .iconst 0, 1, 0, []),
  (30, .invokevirtual 100, 3, 0, [67, 0]),
  (33, .aload_n 0, 1, 0, [0]),
  (34, .iconst 1, 1, 1, []),
  (35, .invokevirtual 100, 3, 0, [67, 0]),
  (38, .iadd, 1, 0, []),
  (39, .aload_n 0, 1, 0, [0]),
  (40, .iconst 2, 1, 2, []),
  (41, .invokevirtual 100, 3, 0, [67, 0]),
  (44, .isub, 1, 0, []),
  (45, .aload_n 0, 1, 0, [0]),
  (46, .iconst 3, 1, 3, []),
  (47, .invokevirtual 100, 3, 0, [67, 0]),
  (50, .isub, 1, 0, []),
  (51, .istore_n 2, 1, 0, [2]),
  (52, .iload_n 1, 1, 0, [1]),
  (53, .ifCond .eq 17, 3, 0, [44]),
  (56, .iload_n 2, 1, 0, [2]),
  (57, .sipush 30000, 3, 30000, []),
  (60, .if_icmp .gt 10, 3, 0, [44]),
  (63, .iload_n 2, 1, 0, [2]),
  (64, .sipush (-30000), 3, -30000, []),
  (67, .if_icmp .ge 6, 3, 0, [46]),
  (70, .bipush (-3), 2, -3, []),
  (72, .ireturn, 1, 0, []),
  (73, .iconst 0, 1, 0, []),
  (74, .istore_n 3, 1, 0, [3]),
  (75, .iconst 0, 1, 0, []),
  (76, .istore 4, 2, 0, [4]),
  (78, .iload 4, 2, 0, [4]),
  (80, .iconst 4, 1, 4, []),
  (81, .if_icmp .ge 78, 3, 0, [93]),
  (84, .aload_n 0, 1, 0, [0]),
  (85, .iload 4, 2, 0, [4]),
  (87, .invokevirtual 107, 3, 0, [68, 0]),
  (90, .istore 5, 2, 0, [5]),
  (92, .iload 5, 2, 0, [5]),
  (94, .iload_n 3, 1, 0, [3]),
  (95, .if_icmp .le 8, 3, 0, [62]),
  (98, .iload 5, 2, 0, [5]),
  (100, .goto 4, 3, 0, [63]),
  (103, .iload_n 3, 1, 0, [3]),
  (104, .istore_n 3, 1, 0, [3]),
  (105, .iconst 0, 1, 0, []),
  (106, .istore 6, 2, 0, [6]),
  (108, .iload 6, 2, 0, [6]),
  (110, .aload_n 0, 1, 0, [0]),
  (111, .getfield 31, 3, 0, [4, 8, 1]),
  (114, .iload 4, 2, 0, [4]),
  (116, .iaload, 1, 0, []),
  (117, .if_icmp .ge 28, 3, 0, [86]),
  (120, .aload_n 0, 1, 0, [0]),
  (121, .getfield 19, 3, 0, [4, 4, 1]),
  (124, .aload_n 0, 1, 0, [0]),
  (125, .getfield 34, 3, 0, [4, 9, 1]),
  (128, .bipush 60, 2, 60, []),
  (130, .iload 4, 2, 0, [4]),
  (132, .imul, 1, 0, []),
  (133, .iload 6, 2, 0, [6]),
  (135, .iadd, 1, 0, []),
  (136, .iaload, 1, 0, []),
  (137, .iconst 2, 1, 2, []),
  (138, .iastore, 1, 0, []),
  (139, .iinc 6 1, 3, 1, [6]),
  (142, .goto (-34), 3, 0, [66]),
  (145, .aload_n 0, 1, 0, [0]),
  (146, .getfield 31, 3, 0, [4, 8, 1]),
  (149, .iload 4, 2, 0, [4]),
  (151, .iconst 0, 1, 0, []),
  (152, .iastore, 1, 0, []),
  (153, .iinc 4 1, 3, 1, [4]),
  (156, .goto (-78), 3, 0, [50]),
  (159, .aload_n 0, 1, 0, [0]),
  (160, .dup, 1, 0, []),
  (161, .getfield 110, 3, 0, [4, 11, 0]),
  (164, .iconst 1, 1, 1, []),
  (165, .iadd, 1, 0, []),
  (166, .putfield 110, 3, 0, [4, 11, 0, 0]),
  (169, .iload_n 3, 1, 0, [3]),
  (170, .bipush 30, 2, 30, []),
  (172, .iadd, 1, 0, []),
  (173, .ireturn, 1, 0, []),
  (174, .athrow, 0, 0, [])]
def kX4_back : List fd_E := [(0, .aload_n 0, 1, 0, [0]),
  (1, .iload_n 1, 1, 0, [1]),
  (2, .invokevirtual 66, 3, 0, [49, 0]),
  (5, .ifCond .ne 6, 3, 0, [6]),
  (8, .bipush (-2), 2, -2, []),
  (10, .ireturn, 1, 0, []),
  (11, .aload_n 0, 1, 0, [0]),
  (12, .getfield 19, 3, 0, [4, 4, 1]),
  (15, .iload_n 1, 1, 0, [1]),
  (16, .iaload, 1, 0, []),
  (17, .iconst 2, 1, 2, []),
  (18, .if_icmp .eq 6, 3, 0, [14]),
  (21, .bipush (-3), 2, -3, []),
  (23, .ireturn, 1, 0, []),
  (24, .aload_n 0, 1, 0, [0]),
  (25, .getfield 19, 3, 0, [4, 4, 1]),
  (28, .iload_n 1, 1, 0, [1]),
  (29, .iconst 0, 1, 0, []),
  (30, .iastore, 1, 0, []),
  (31, .iconst 1, 1, 1, []),
  (32, .ireturn, 1, 0, []),
  (33, .athrow, 0, 0, [])]
def kX4_laneOf : List fd_E := [(0, .iconst 0, 1, 0, []),
  (1, .istore_n 2, 1, 0, [2]),
  (2, .iload_n 2, 1, 0, [2]),
  (3, .iconst 4, 1, 4, []),
  (4, .if_icmp .ge 44, 3, 0, [29]),
  (7, .iconst 0, 1, 0, []),
  (8, .istore_n 3, 1, 0, [3]),
  (9, .iload_n 3, 1, 0, [3]),
  (10, .aload_n 0, 1, 0, [0]),
  (11, .getfield 31, 3, 0, [4, 8, 1]),
  (14, .iload_n 2, 1, 0, [2]),
  (15, .iaload, 1, 0, []),
  (16, .if_icmp .ge 26, 3, 0, [27]),
  (19, .aload_n 0, 1, 0, [0]),
  (20, .getfield 34, 3, 0, [4, 9, 1]),
  (23, .bipush 60, 2, 60, []),
  (25, .iload_n 2, 1, 0, [2]),
  (26, .imul, 1, 0, []),
  (27, .iload_n 3, 1, 0, [3]),
  (28, .iadd, 1, 0, []),
  (29, .iaload, 1, 0, []),
  (30, .iload_n 1, 1, 0, [1]),
  (31, .if_icmp .ne 5, 3, 0, [25]),
  (34, .iload_n 2, 1, 0, [2]),
  (35, .ireturn, 1, 0, []),
  (36, .iinc 3 1, 3, 1, [3]),
  (39, .goto (-30), 3, 0, [7]),
  (42, .iinc 2 1, 3, 1, [2]),
  (45, .goto (-43), 3, 0, [2]),
  (48, .iconst (-1), 1, -1, []),
  (49, .ireturn, 1, 0, []),
  (50, .athrow, 0, 0, [])]
def kX4_aheadOf : List fd_E := [(0, .aload_n 0, 1, 0, [0]),
  (1, .iload_n 1, 1, 0, [1]),
  (2, .invokevirtual 113, 3, 0, [73, 0]),
  (5, .istore_n 2, 1, 0, [2]),
  (6, .iconst 0, 1, 0, []),
  (7, .istore_n 3, 1, 0, [3]),
  (8, .iload_n 2, 1, 0, [2]),
  (9, .iconst (-1), 1, -1, []),
  (10, .if_icmp .eq 24, 3, 0, [21]),
  (13, .aload_n 0, 1, 0, [0]),
  (14, .getfield 34, 3, 0, [4, 9, 1]),
  (17, .bipush 60, 2, 60, []),
  (19, .iload_n 2, 1, 0, [2]),
  (20, .imul, 1, 0, []),
  (21, .iload_n 3, 1, 0, [3]),
  (22, .iadd, 1, 0, []),
  (23, .iaload, 1, 0, []),
  (24, .iload_n 1, 1, 0, [1]),
  (25, .if_icmp .eq 9, 3, 0, [21]),
  (28, .iinc 3 1, 3, 1, [3]),
  (31, .goto (-23), 3, 0, [6]),
  (34, .iload_n 2, 1, 0, [2]),
  (35, .iconst (-1), 1, -1, []),
  (36, .if_icmp .ne 7, 3, 0, [26]),
  (39, .iconst (-1), 1, -1, []),
  (40, .goto 4, 3, 0, [27]),
  (43, .iload_n 3, 1, 0, [3]),
  (44, .ireturn, 1, 0, []),
  (45, .athrow, 0, 0, [])]
def kX4_told : List fd_E := [(0, .aload_n 0, 1, 0, [0]),
  (1, .iload_n 1, 1, 0, [1]),
  (2, .invokevirtual 66, 3, 0, [49, 0]),
  (5, .ifCond .eq 13, 3, 0, [9]),
  (8, .iload_n 2, 1, 0, [2]),
  (9, .iconst 0, 1, 0, []),
  (10, .bipush 6, 2, 6, []),
  (12, .invokestatic 44, 3, 0, [48, 1]),
  (15, .ifCond .ne 6, 3, 0, [11]),
  (18, .bipush (-2), 2, -2, []),
  (20, .ireturn, 1, 0, []),
  (21, .iload_n 2, 1, 0, [2]),
  (22, .tableswitch 89 0 5 #[38, 45, 52, 58, 64, 71], 38, 0, [46, 13, 18, 23, 27, 31, 36]),
  (60, .aload_n 0, 1, 0, [0]),
  (61, .getfield 7, 3, 0, [4, 1, 1]),
  (64, .iload_n 1, 1, 0, [1]),
  (65, .iaload, 1, 0, []),
  (66, .ireturn, 1, 0, []),
  (67, .aload_n 0, 1, 0, [0]),
  (68, .getfield 19, 3, 0, [4, 4, 1]),
  (71, .iload_n 1, 1, 0, [1]),
  (72, .iaload, 1, 0, []),
  (73, .ireturn, 1, 0, []),
  (74, .aload_n 0, 1, 0, [0]),
  (75, .iload_n 1, 1, 0, [1]),
  (76, .invokevirtual 113, 3, 0, [73, 0]),
  (79, .ireturn, 1, 0, []),
  (80, .aload_n 0, 1, 0, [0]),
  (81, .iload_n 1, 1, 0, [1]),
  (82, .invokevirtual 116, 3, 0, [74, 0]),
  (85, .ireturn, 1, 0, []),
  (86, .aload_n 0, 1, 0, [0]),
  (87, .getfield 22, 3, 0, [4, 5, 1]),
  (90, .iload_n 1, 1, 0, [1]),
  (91, .iaload, 1, 0, []),
  (92, .ireturn, 1, 0, []),
  (93, .aload_n 0, 1, 0, [0]),
  (94, .getfield 7, 3, 0, [4, 1, 1]),
  (97, .iload_n 1, 1, 0, [1]),
  (98, .iaload, 1, 0, []),
  (99, .invokestatic 74, 3, 0, [57, 1]),
  (102, .ifCond .eq 7, 3, 0, [44]),
  (105, .iconst 1, 1, 1, []),
  (106, .goto 4, 3, 0, [45]),
  (109, .iconst 0, 1, 0, []),
  (110, .ireturn, 1, 0, []),
  (111, .aload_n 0, 1, 0, [0]),
  (112, .getfield 7, 3, 0, [4, 1, 1]),
  (115, .iload_n 1, 1, 0, [1]),
  (116, .iaload, 1, 0, []),
  (117, .invokestatic 80, 3, 0, [58, 1]),
  (120, .ifCond .eq 7, 3, 0, [54]),
  (123, .iconst 1, 1, 1, []),
  (124, .goto 4, 3, 0, [55]),
  (127, .iconst 0, 1, 0, []),
  (128, .ireturn, 1, 0, []),
  (129, .athrow, 0, 0, [])]
def kX4_deck : List fd_E := [(0, .iload_n 1, 1, 0, [1]),
  (1, .invokestatic 86, 3, 0, [50, 1]),
  (4, .ifCond .eq 12, 3, 0, [8]),
  (7, .iload_n 2, 1, 0, [2]),
  (8, .iconst 0, 1, 0, []),
  (9, .iconst 5, 1, 5, []),
  (10, .invokestatic 44, 3, 0, [48, 1]),
  (13, .ifCond .ne 6, 3, 0, [10]),
  (16, .bipush (-2), 2, -2, []),
  (18, .ireturn, 1, 0, []),
  (19, .iload_n 2, 1, 0, [2]),
  (20, .tableswitch 91 0 4 #[36, 42, 55, 62, 68], 36, 0, [48, 12, 16, 25, 30, 34]),
  (56, .aload_n 0, 1, 0, [0]),
  (57, .iload_n 1, 1, 0, [1]),
  (58, .invokevirtual 97, 3, 0, [66, 0]),
  (61, .ireturn, 1, 0, []),
  (62, .aload_n 0, 1, 0, [0]),
  (63, .getfield 28, 3, 0, [4, 7, 1]),
  (66, .iload_n 1, 1, 0, [1]),
  (67, .iaload, 1, 0, []),
  (68, .aload_n 0, 1, 0, [0]),
  (69, .iload_n 1, 1, 0, [1]),
  (70, .invokevirtual 100, 3, 0, [67, 0]),
  (73, .isub, 1, 0, []),
  (74, .ireturn, 1, 0, []),
  (75, .aload_n 0, 1, 0, [0]),
  (76, .getfield 31, 3, 0, [4, 8, 1]),
  (79, .iload_n 1, 1, 0, [1]),
  (80, .iaload, 1, 0, []),
  (81, .ireturn, 1, 0, []),
  (82, .aload_n 0, 1, 0, [0]),
  (83, .iload_n 1, 1, 0, [1]),
  (84, .invokevirtual 107, 3, 0, [68, 0]),
  (87, .ireturn, 1, 0, []),
  (88, .aload_n 0, 1, 0, [0]),
  (89, .getfield 31, 3, 0, [4, 8, 1]),
  (92, .iload_n 1, 1, 0, [1]),
  (93, .iaload, 1, 0, []),
  (94, .ifCond .ne 7, 3, 0, [41]),
  (97, .iconst (-1), 1, -1, []),
  (98, .goto 12, 3, 0, [47]),
  (101, .aload_n 0, 1, 0, [0]),
  (102, .getfield 34, 3, 0, [4, 9, 1]),
  (105, .bipush 60, 2, 60, []),
  (107, .iload_n 1, 1, 0, [1]),
  (108, .imul, 1, 0, []),
  (109, .iaload, 1, 0, []),
  (110, .ireturn, 1, 0, []),
  (111, .aload_n 0, 1, 0, [0]),
  (112, .getfield 31, 3, 0, [4, 8, 1]),
  (115, .iload_n 1, 1, 0, [1]),
  (116, .iaload, 1, 0, []),
  (117, .ifCond .ne 7, 3, 0, [55]),
  (120, .iconst (-1), 1, -1, []),
  (121, .goto 21, 3, 0, [68]),
  (124, .aload_n 0, 1, 0, [0]),
  (125, .getfield 34, 3, 0, [4, 9, 1]),
  (128, .bipush 60, 2, 60, []),
  (130, .iload_n 1, 1, 0, [1]),
  (131, .imul, 1, 0, []),
  (132, .aload_n 0, 1, 0, [0]),
  (133, .getfield 31, 3, 0, [4, 8, 1]),
  (136, .iload_n 1, 1, 0, [1]),
  (137, .iaload, 1, 0, []),
  (138, .iadd, 1, 0, []),
  (139, .iconst 1, 1, 1, []),
  (140, .isub, 1, 0, []),
  (141, .iaload, 1, 0, []),
  (142, .ireturn, 1, 0, []),
  (143, .athrow, 0, 0, [])]
def kX4_count : List fd_E := [(0, .iload_n 1, 1, 0, [1]),
  (1, .iconst 0, 1, 0, []),
  (2, .iconst 5, 1, 5, []),
  (3, .invokestatic 44, 3, 0, [48, 1]),
  (6, .ifCond .ne 6, 3, 0, [7]),
  (9, .bipush (-2), 2, -2, []),
  (11, .ireturn, 1, 0, []),
  (12, .iconst 0, 1, 0, []),
  (13, .istore_n 2, 1, 0, [2]),
  (14, .iconst 0, 1, 0, []),
  (15, .istore_n 3, 1, 0, [3]),
  (16, .iload_n 3, 1, 0, [3]),
  (17, .aload_n 0, 1, 0, [0]),
  (18, .getfield 40, 3, 0, [4, 0, 0]),
  (21, .if_icmp .ge 29, 3, 0, [31]),
  (24, .iload_n 2, 1, 0, [2]),
  (25, .aload_n 0, 1, 0, [0]),
  (26, .getfield 19, 3, 0, [4, 4, 1]),
  (29, .iload_n 3, 1, 0, [3]),
  (30, .iaload, 1, 0, []),
  (31, .iload_n 1, 1, 0, [1]),
  (32, .iconst 1, 1, 1, []),
  (33, .isub, 1, 0, []),
  (34, .if_icmp .ne 7, 3, 0, [26]),
  (37, .iconst 1, 1, 1, []),
  (38, .goto 4, 3, 0, [27]),
  (41, .iconst 0, 1, 0, []),
  (42, .iadd, 1, 0, []),
  (43, .istore_n 2, 1, 0, [2]),
  (44, .iinc 3 1, 3, 1, [3]),
  (47, .goto (-31), 3, 0, [11]),
  (50, .iload_n 1, 1, 0, [1]),
  (51, .ifCond .ne 10, 3, 0, [36]),
  (54, .aload_n 0, 1, 0, [0]),
  (55, .getfield 40, 3, 0, [4, 0, 0]),
  (58, .goto 28, 3, 0, [49]),
  (61, .iload_n 1, 1, 0, [1]),
  (62, .iconst 4, 1, 4, []),
  (63, .if_icmp .ne 10, 3, 0, [42]),
  (66, .aload_n 0, 1, 0, [0]),
  (67, .getfield 110, 3, 0, [4, 11, 0]),
  (70, .goto 16, 3, 0, [49]),
  (73, .iload_n 1, 1, 0, [1]),
  (74, .iconst 5, 1, 5, []),
  (75, .if_icmp .ne 10, 3, 0, [48]),
  (78, .aload_n 0, 1, 0, [0]),
  (79, .getfield 90, 3, 0, [4, 10, 0]),
  (82, .goto 4, 3, 0, [49]),
  (85, .iload_n 2, 1, 0, [2]),
  (86, .ireturn, 1, 0, []),
  (87, .athrow, 0, 0, [])]
def kX4_till : List fd_E := [(0, .aload_n 0, 1, 0, [0]),
  (1, .getfield 103, 3, 0, [4, 12, 2]),
  (4, .lreturn, 1, 0, []),
  (5, .athrow, 0, 0, [])]
def kL_law : List fd_E := [(0, .new 7, 3, 0, [3]),
  (3, .dup, 1, 0, []),
  (4, .invokespecial 9, 3, 0, [23, 2]),
  (7, .astore_n 1, 1, 0, [1]),
  (8, .new 10, 3, 0, [4]),
  (11, .dup, 1, 0, []),
  (12, .invokespecial 12, 3, 0, [47, 2]),
  (15, .astore_n 2, 1, 0, [2]),
  (16, .iconst 0, 1, 0, []),
  (17, .istore_n 3, 1, 0, [3]),
  (18, .iload_n 3, 1, 0, [3]),
  (19, .aload_n 0, 1, 0, [0]),
  (20, .arraylength, 1, 0, []),
  (21, .iconst 4, 1, 4, []),
  (22, .isub, 1, 0, []),
  (23, .if_icmp .gt 453, 3, 0, [316]),
  (26, .aload_n 0, 1, 0, [0]),
  (27, .iload_n 3, 1, 0, [3]),
  (28, .iaload, 1, 0, []),
  (29, .bipush 15, 2, 15, []),
  (31, .iand, 1, 0, []),
  (32, .tableswitch 438 0 12 #[68, 111, 154, 177, 220, 243, 276, 299, 312, 335, 368, 401, 424], 68, 0, [314, 22, 59, 96, 113, 150, 167, 194, 211, 218, 235, 262, 289, 306]),
  (100, .aload_n 1, 1, 0, [1]),
  (101, .aload_n 0, 1, 0, [0]),
  (102, .iload_n 3, 1, 0, [3]),
  (103, .iconst 1, 1, 1, []),
  (104, .iadd, 1, 0, []),
  (105, .iaload, 1, 0, []),
  (106, .aload_n 0, 1, 0, [0]),
  (107, .iload_n 3, 1, 0, [3]),
  (108, .iconst 2, 1, 2, []),
  (109, .iadd, 1, 0, []),
  (110, .iaload, 1, 0, []),
  (111, .aload_n 0, 1, 0, [0]),
  (112, .iload_n 3, 1, 0, [3]),
  (113, .iconst 3, 1, 3, []),
  (114, .iadd, 1, 0, []),
  (115, .iaload, 1, 0, []),
  (116, .invokevirtual 13, 3, 0, [24, 0]),
  (119, .aload_n 2, 1, 0, [2]),
  (120, .aload_n 0, 1, 0, [0]),
  (121, .iload_n 3, 1, 0, [3]),
  (122, .iconst 1, 1, 1, []),
  (123, .iadd, 1, 0, []),
  (124, .iaload, 1, 0, []),
  (125, .aload_n 0, 1, 0, [0]),
  (126, .iload_n 3, 1, 0, [3]),
  (127, .iconst 2, 1, 2, []),
  (128, .iadd, 1, 0, []),
  (129, .iaload, 1, 0, []),
  (130, .aload_n 0, 1, 0, [0]),
  (131, .iload_n 3, 1, 0, [3]),
  (132, .iconst 3, 1, 3, []),
  (133, .iadd, 1, 0, []),
  (134, .iaload, 1, 0, []),
  (135, .invokevirtual 17, 3, 0, [51, 0]),
  (138, .if_icmp .eq 332, 3, 0, [314]),
  (141, .iconst 0, 1, 0, []),
  (142, .ireturn, 1, 0, []),
  (143, .aload_n 1, 1, 0, [1]),
  (144, .aload_n 0, 1, 0, [0]),
  (145, .iload_n 3, 1, 0, [3]),
  (146, .iconst 1, 1, 1, []),
  (147, .iadd, 1, 0, []),
  (148, .iaload, 1, 0, []),
  (149, .aload_n 0, 1, 0, [0]),
  (150, .iload_n 3, 1, 0, [3]),
  (151, .iconst 2, 1, 2, []),
  (152, .iadd, 1, 0, []),
  (153, .iaload, 1, 0, []),
  (154, .aload_n 0, 1, 0, [0]),
  (155, .iload_n 3, 1, 0, [3]),
  (156, .iconst 3, 1, 3, []),
  (157, .iadd, 1, 0, []),
  (158, .iaload, 1, 0, []),
  (159, .invokevirtual 18, 3, 0, [25, 0]),
  (162, .aload_n 2, 1, 0, [2]),
  (163, .aload_n 0, 1, 0, [0]),
  (164, .iload_n 3, 1, 0, [3]),
  (165, .iconst 1, 1, 1, []),
  (166, .iadd, 1, 0, []),
  (167, .iaload, 1, 0, []),
  (168, .aload_n 0, 1, 0, [0]),
  (169, .iload_n 3, 1, 0, [3]),
  (170, .iconst 2, 1, 2, []),
  (171, .iadd, 1, 0, []),
  (172, .iaload, 1, 0, []),
  (173, .aload_n 0, 1, 0, [0]),
  (174, .iload_n 3, 1, 0, [3]),
  (175, .iconst 3, 1, 3, []),
  (176, .iadd, 1, 0, []),
  (177, .iaload, 1, 0, []),
  (178, .invokevirtual 21, 3, 0, [61, 0]),
  (181, .if_icmp .eq 289, 3, 0, [314]),
  (184, .iconst 0, 1, 0, []),
  (185, .ireturn, 1, 0, []),
  (186, .aload_n 1, 1, 0, [1]),
  (187, .aload_n 0, 1, 0, [0]),
  (188, .iload_n 3, 1, 0, [3]),
  (189, .iconst 1, 1, 1, []),
  (190, .iadd, 1, 0, []),
  (191, .iaload, 1, 0, []),
  (192, .invokevirtual 22, 3, 0, [26, 0]),
  (195, .aload_n 2, 1, 0, [2]),
  (196, .aload_n 0, 1, 0, [0]),
  (197, .iload_n 3, 1, 0, [3]),
  (198, .iconst 1, 1, 1, []),
  (199, .iadd, 1, 0, []),
  (200, .iaload, 1, 0, []),
  (201, .invokevirtual 26, 3, 0, [62, 0]),
  (204, .if_icmp .eq 266, 3, 0, [314]),
  (207, .iconst 0, 1, 0, []),
  (208, .ireturn, 1, 0, []),
  (209, .aload_n 1, 1, 0, [1]),
  (210, .aload_n 0, 1, 0, [0]),
  (211, .iload_n 3, 1, 0, [3]),
  (212, .iconst 1, 1, 1, []),
  (213, .iadd, 1, 0, []),
  (214, .iaload, 1, 0, []),
  (215, .aload_n 0, 1, 0, [0]),
  (216, .iload_n 3, 1, 0, [3]),
  (217, .iconst 2, 1, 2, []),
  (218, .iadd, 1, 0, []),
  (219, .iaload, 1, 0, []),
  (220, .aload_n 0, 1, 0, [0]),
  (221, .iload_n 3, 1, 0, [3]),
  (222, .iconst 3, 1, 3, []),
  (223, .iadd, 1, 0, []),
  (224, .iaload, 1, 0, []),
  (225, .invokevirtual 27, 3, 0, [27, 0]),
  (228, .aload_n 2, 1, 0, [2]),
  (229, .aload_n 0, 1, 0, [0]),
  (230, .iload_n 3, 1, 0, [3]),
  (231, .iconst 1, 1, 1, []),
  (232, .iadd, 1, 0, []),
  (233, .iaload, 1, 0, []),
  (234, .aload_n 0, 1, 0, [0]),
  (235, .iload_n 3, 1, 0, [3]),
  (236, .iconst 2, 1, 2, []),
  (237, .iadd, 1, 0, []),
  (238, .iaload, 1, 0, []),
  (239, .aload_n 0, 1, 0, [0]),
  (240, .iload_n 3, 1, 0, [3]),
  (241, .iconst 3, 1, 3, []),
  (242, .iadd, 1, 0, []),
  (243, .iaload, 1, 0, []),
  (244, .invokevirtual 30, 3, 0, [64, 0]),
  (247, .if_icmp .eq 223, 3, 0, [314]),
  (250, .iconst 0, 1, 0, []),
  (251, .ireturn, 1, 0, []),
  (252, .aload_n 1, 1, 0, [1]),
  (253, .aload_n 0, 1, 0, [0]),
  (254, .iload_n 3, 1, 0, [3]),
  (255, .iconst 1, 1, 1, []),
  (256, .iadd, 1, 0, []),
  (257, .iaload, 1, 0, []),
  (258, .invokevirtual 31, 3, 0, [28, 0]),
  (261, .aload_n 2, 1, 0, [2]),
  (262, .aload_n 0, 1, 0, [0]),
  (263, .iload_n 3, 1, 0, [3]),
  (264, .iconst 1, 1, 1, []),
  (265, .iadd, 1, 0, []),
  (266, .iaload, 1, 0, []),
  (267, .invokevirtual 34, 3, 0, [65, 0]),
  (270, .if_icmp .eq 200, 3, 0, [314]),
  (273, .iconst 0, 1, 0, []),
  (274, .ireturn, 1, 0, []),
  (275, .aload_n 1, 1, 0, [1]),
  (276, .aload_n 0, 1, 0, [0]),
  (277, .iload_n 3, 1, 0, [3]),
  (278, .iconst 1, 1, 1, []),
  (279, .iadd, 1, 0, []),
  (280, .iaload, 1, 0, []),
  (281, .aload_n 0, 1, 0, [0]),
  (282, .iload_n 3, 1, 0, [3]),
  (283, .iconst 2, 1, 2, []),
  (284, .iadd, 1, 0, []),
  (285, .iaload, 1, 0, []),
  (286, .invokevirtual 35, 3, 0, [29, 0]),
  (289, .aload_n 2, 1, 0, [2]),
  (290, .aload_n 0, 1, 0, [0]),
  (291, .iload_n 3, 1, 0, [3]),
  (292, .iconst 1, 1, 1, []),
  (293, .iadd, 1, 0, []),
  (294, .iaload, 1, 0, []),
  (295, .aload_n 0, 1, 0, [0]),
  (296, .iload_n 3, 1, 0, [3]),
  (297, .iconst 2, 1, 2, []),
  (298, .iadd, 1, 0, []),
  (299, .iaload, 1, 0, []),
  (300, .invokevirtual 39, 3, 0, [69, 0]),
  (303, .if_icmp .eq 167, 3, 0, [314]),
  (306, .iconst 0, 1, 0, []),
  (307, .ireturn, 1, 0, []),
  (308, .aload_n 1, 1, 0, [1]),
  (309, .aload_n 0, 1, 0, [0]),
  (310, .iload_n 3, 1, 0, [3]),
  (311, .iconst 1, 1, 1, []),
  (312, .iadd, 1, 0, []),
  (313, .iaload, 1, 0, []),
  (314, .invokevirtual 40, 3, 0, [30, 0]),
  (317, .aload_n 2, 1, 0, [2]),
  (318, .aload_n 0, 1, 0, [0]),
  (319, .iload_n 3, 1, 0, [3]),
  (320, .iconst 1, 1, 1, []),
  (321, .iadd, 1, 0, []),
  (322, .iaload, 1, 0, []),
  (323, .invokevirtual 43, 3, 0, [70, 0]),
  (326, .if_icmp .eq 144, 3, 0, [314]),
  (329, .iconst 0, 1, 0, []),
  (330, .ireturn, 1, 0, []),
  (331, .aload_n 1, 1, 0, [1]),
  (332, .invokevirtual 44, 3, 0, [31, 0]),
  (335, .aload_n 2, 1, 0, [2]),
  (336, .invokevirtual 48, 3, 0, [71, 0]),
  (339, .if_icmp .eq 131, 3, 0, [314]),
  (342, .iconst 0, 1, 0, []),
  (343, .ireturn, 1, 0, []),
  (344, .aload_n 1, 1, 0, [1]),
  (345, .aload_n 0, 1, 0, [0]),
  (346, .iload_n 3, 1, 0, [3]),
  (347, .iconst 1, 1, 1, []),
  (348, .iadd, 1, 0, []),
  (349, .iaload, 1, 0, []),
  (350, .invokevirtual 49, 3, 0, [32, 0]),
  (353, .aload_n 2, 1, 0, [2]),
  (354, .aload_n 0, 1, 0, [0]),
  (355, .iload_n 3, 1, 0, [3]),
  (356, .iconst 1, 1, 1, []),
  (357, .iadd, 1, 0, []),
  (358, .iaload, 1, 0, []),
  (359, .invokevirtual 52, 3, 0, [72, 0]),
  (362, .if_icmp .eq 108, 3, 0, [314]),
  (365, .iconst 0, 1, 0, []),
  (366, .ireturn, 1, 0, []),
  (367, .aload_n 1, 1, 0, [1]),
  (368, .aload_n 0, 1, 0, [0]),
  (369, .iload_n 3, 1, 0, [3]),
  (370, .iconst 1, 1, 1, []),
  (371, .iadd, 1, 0, []),
  (372, .iaload, 1, 0, []),
  (373, .aload_n 0, 1, 0, [0]),
  (374, .iload_n 3, 1, 0, [3]),
  (375, .iconst 2, 1, 2, []),
  (376, .iadd, 1, 0, []),
  (377, .iaload, 1, 0, []),
  (378, .invokevirtual 53, 3, 0, [33, 0]),
  (381, .aload_n 2, 1, 0, [2]),
  (382, .aload_n 0, 1, 0, [0]),
  (383, .iload_n 3, 1, 0, [3]),
  (384, .iconst 1, 1, 1, []),
  (385, .iadd, 1, 0, []),
  (386, .iaload, 1, 0, []),
  (387, .aload_n 0, 1, 0, [0]),
  (388, .iload_n 3, 1, 0, [3]),
  (389, .iconst 2, 1, 2, []),
  (390, .iadd, 1, 0, []),
  (391, .iaload, 1, 0, []),
  (392, .invokevirtual 56, 3, 0, [75, 0]),
  (395, .if_icmp .eq 75, 3, 0, [314]),
  (398, .iconst 0, 1, 0, []),
  (399, .ireturn, 1, 0, []),
  (400, .aload_n 1, 1, 0, [1]),
  (401, .aload_n 0, 1, 0, [0]),
  (402, .iload_n 3, 1, 0, [3]),
  (403, .iconst 1, 1, 1, []),
  (404, .iadd, 1, 0, []),
  (405, .iaload, 1, 0, []),
  (406, .aload_n 0, 1, 0, [0]),
  (407, .iload_n 3, 1, 0, [3]),
  (408, .iconst 2, 1, 2, []),
  (409, .iadd, 1, 0, []),
  (410, .iaload, 1, 0, []),
  (411, .invokevirtual 57, 3, 0, [34, 0]),
  (414, .aload_n 2, 1, 0, [2]),
  (415, .aload_n 0, 1, 0, [0]),
  (416, .iload_n 3, 1, 0, [3]),
  (417, .iconst 1, 1, 1, []),
  (418, .iadd, 1, 0, []),
  (419, .iaload, 1, 0, []),
  (420, .aload_n 0, 1, 0, [0]),
  (421, .iload_n 3, 1, 0, [3]),
  (422, .iconst 2, 1, 2, []),
  (423, .iadd, 1, 0, []),
  (424, .iaload, 1, 0, []),
  (425, .invokevirtual 60, 3, 0, [76, 0]),
  (428, .if_icmp .eq 42, 3, 0, [314]),
  (431, .iconst 0, 1, 0, []),
  (432, .ireturn, 1, 0, []),
  (433, .aload_n 1, 1, 0, [1]),
  (434, .aload_n 0, 1, 0, [0]),
  (435, .iload_n 3, 1, 0, [3]),
  (436, .iconst 1, 1, 1, []),
  (437, .iadd, 1, 0, []),
  (438, .iaload, 1, 0, []),
  (439, .invokevirtual 61, 3, 0, [35, 0]),
  (442, .aload_n 2, 1, 0, [2]),
  (443, .aload_n 0, 1, 0, [0]),
  (444, .iload_n 3, 1, 0, [3]),
  (445, .iconst 1, 1, 1, []),
  (446, .iadd, 1, 0, []),
  (447, .iaload, 1, 0, []),
  (448, .invokevirtual 64, 3, 0, [77, 0]),
  (451, .if_icmp .eq 19, 3, 0, [314]),
  (454, .iconst 0, 1, 0, []),
  (455, .ireturn, 1, 0, []),
  (456, .aload_n 1, 1, 0, [1]),
  (457, .invokevirtual 65, 3, 0, [36, 0]),
  (460, .aload_n 2, 1, 0, [2]),
  (461, .invokevirtual 69, 3, 0, [78, 0]),
  (464, .lcmp, 1, 0, []),
  (465, .ifCond .eq 5, 3, 0, [314]),
  (468, .iconst 0, 1, 0, []),
  (469, .ireturn, 1, 0, []),
  (470, .iinc 3 4, 3, 4, [3]),
  (473, .goto (-455), 3, 0, [10]),
  (476, .iconst 1, 1, 1, []),
  (477, .ireturn, 1, 0, []),
  (478, .athrow, 0, 0, [])]
def fd_code (mi : Nat) : List fd_E := [kX0_init, kX0_answer, kX0_answerTraced, kX0_traceAt, kX0_own, kX0_above, kX0_answerAs, kX0_tellerOf, kX0_bodyOf, kX0_leave, kX0_byBody, kX0_lessATenth, kX1_init, kX1_lengthLeft, kX1_bearingLeft, kX1_hasRoomFor, kX1_append, kX1_removeLast, kX1_sendAbroad, kX2_init, kX2_isHeavy, kX2_isMarked, kX2_leaveDeck, kX3_init, kX3_vehicle, kX3_ask, kX3_trace, kX3_lane, kX3_season, kX3_board, kX3_off, kX3_sail, kX3_back, kX3_told, kX3_deck, kX3_count, kX3_till, kX3_within, kX3_vehicleAt, kX3_laneAt, kX3_numberOf, kX3_countOf, kX3_measure, kX3_price, kX3_tooNear, kX3_apart, kX3_longestMinutes, kX4_init, kX4_in, kX4_isVehicle, kX4_isLane, kX4_vehicle, kX4_began, kX4_length, kX4_mass, kX4_minutes, kX4_fare, kX4_isHeavy, kX4_isMarked, kX4_toll, kX4_danger, kX4_ask, kX4_trace, kX4_quiet, kX4_lane, kX4_season, kX4_leftLength, kX4_carried, kX4_lasts, kX4_board, kX4_off, kX4_sail, kX4_back, kX4_laneOf, kX4_aheadOf, kX4_told, kX4_deck, kX4_count, kX4_till, kL_law].getD mi []
def fd_ms : List fd_MI := [(yX0_init, cX0_init, 1, none, 0, 1, 10, 0),
  (yX0_answer, cX0_answer, 4, (some .int), 0, 0, 0, 3),
  (yX0_answerTraced, cX0_answerTraced, 5, (some .int), 0, 0, 0, 3),
  (yX0_traceAt, cX0_traceAt, 2, (some .int), 0, 0, 0, 1),
  (yX0_own, cX0_own, 3, (some .int), 0, 0, 0, 2),
  (yX0_above, cX0_above, 4, (some .int), 0, 0, 0, 3),
  (yX0_answerAs, cX0_answerAs, 5, (some .int), 0, 0, 0, 3),
  (yX0_tellerOf, cX0_tellerOf, 4, (some .int), 0, 0, 0, 2),
  (yX0_bodyOf, cX0_bodyOf, 3, (some .int), 0, 0, 0, 2),
  (yX0_leave, cX0_leave, 2, none, 0, 0, 0, 1),
  (yX0_byBody, cX0_byBody, 5, (some .int), 0, 0, 0, 4),
  (yX0_lessATenth, cX0_lessATenth, 1, (some .int), 0, 0, 0, 1),
  (yX1_init, cX1_init, 2, none, 1, 0, 0, 1),
  (yX1_lengthLeft, cX1_lengthLeft, 1, (some .int), 1, 0, 0, 0),
  (yX1_bearingLeft, cX1_bearingLeft, 1, (some .int), 1, 0, 0, 0),
  (yX1_hasRoomFor, cX1_hasRoomFor, 2, (some .boolean), 1, 0, 0, 1),
  (yX1_append, cX1_append, 2, none, 1, 0, 0, 1),
  (yX1_removeLast, cX1_removeLast, 3, none, 1, 0, 0, 1),
  (yX1_sendAbroad, cX1_sendAbroad, 2, none, 1, 0, 0, 0),
  (yX2_init, cX2_init, 5, none, 2, 0, 0, 4),
  (yX2_isHeavy, cX2_isHeavy, 1, (some .boolean), 2, 0, 0, 0),
  (yX2_isMarked, cX2_isMarked, 1, (some .boolean), 2, 0, 0, 0),
  (yX2_leaveDeck, cX2_leaveDeck, 2, none, 2, 0, 0, 1),
  (yX3_init, cX3_init, 2, none, 3, 8, 117, 0),
  (yX3_vehicle, cX3_vehicle, 5, (some .int), 3, 1, 14, 3),
  (yX3_ask, cX3_ask, 5, (some .int), 3, 0, 0, 3),
  (yX3_trace, cX3_trace, 2, (some .int), 3, 0, 0, 1),
  (yX3_lane, cX3_lane, 5, (some .int), 3, 0, 0, 3),
  (yX3_season, cX3_season, 3, (some .int), 3, 0, 0, 1),
  (yX3_board, cX3_board, 6, (some .int), 3, 0, 0, 2),
  (yX3_off, cX3_off, 5, (some .int), 3, 0, 0, 1),
  (yX3_sail, cX3_sail, 6, (some .int), 3, 0, 0, 0),
  (yX3_back, cX3_back, 3, (some .int), 3, 0, 0, 1),
  (yX3_told, cX3_told, 4, (some .int), 3, 0, 0, 2),
  (yX3_deck, cX3_deck, 4, (some .int), 3, 0, 0, 2),
  (yX3_count, cX3_count, 2, (some .int), 3, 0, 0, 1),
  (yX3_till, cX3_till, 1, (some .long), 3, 0, 0, 0),
  (yX3_within, cX3_within, 3, (some .boolean), 3, 0, 0, 3),
  (yX3_vehicleAt, cX3_vehicleAt, 2, (some (.object "FerryDeck$Vehicle")), 3, 0, 0, 1),
  (yX3_laneAt, cX3_laneAt, 2, (some (.object "FerryDeck$Lane")), 3, 0, 0, 1),
  (yX3_numberOf, cX3_numberOf, 1, (some .int), 3, 0, 0, 1),
  (yX3_countOf, cX3_countOf, 5, (some .int), 3, 0, 0, 1),
  (yX3_measure, cX3_measure, 2, none, 3, 0, 0, 1),
  (yX3_price, cX3_price, 3, (some .int), 3, 0, 0, 1),
  (yX3_tooNear, cX3_tooNear, 2, (some .boolean), 3, 0, 0, 2),
  (yX3_apart, cX3_apart, 4, (some .int), 3, 0, 0, 0),
  (yX3_longestMinutes, cX3_longestMinutes, 6, (some .int), 3, 0, 0, 0),
  (yX4_init, cX4_init, 1, none, 4, 10, 612, 0),
  (yX4_in, cX4_in, 3, (some .boolean), 4, 0, 0, 3),
  (yX4_isVehicle, cX4_isVehicle, 2, (some .boolean), 4, 0, 0, 1),
  (yX4_isLane, cX4_isLane, 1, (some .boolean), 4, 0, 0, 1),
  (yX4_vehicle, cX4_vehicle, 4, (some .int), 4, 0, 0, 3),
  (yX4_began, cX4_began, 2, none, 4, 0, 0, 1),
  (yX4_length, cX4_length, 4, (some .int), 4, 0, 0, 1),
  (yX4_mass, cX4_mass, 3, (some .int), 4, 0, 0, 1),
  (yX4_minutes, cX4_minutes, 2, (some .int), 4, 0, 0, 1),
  (yX4_fare, cX4_fare, 5, (some .int), 4, 0, 0, 2),
  (yX4_isHeavy, cX4_isHeavy, 1, (some .boolean), 4, 0, 0, 1),
  (yX4_isMarked, cX4_isMarked, 1, (some .boolean), 4, 0, 0, 1),
  (yX4_toll, cX4_toll, 4, (some .int), 4, 0, 0, 1),
  (yX4_danger, cX4_danger, 2, (some .int), 4, 0, 0, 1),
  (yX4_ask, cX4_ask, 4, (some .int), 4, 0, 0, 3),
  (yX4_trace, cX4_trace, 2, (some .int), 4, 0, 0, 1),
  (yX4_quiet, cX4_quiet, 6, (some .int), 4, 0, 0, 3),
  (yX4_lane, cX4_lane, 4, (some .int), 4, 0, 0, 3),
  (yX4_season, cX4_season, 3, (some .int), 4, 0, 0, 1),
  (yX4_leftLength, cX4_leftLength, 4, (some .int), 4, 0, 0, 1),
  (yX4_carried, cX4_carried, 4, (some .int), 4, 0, 0, 1),
  (yX4_lasts, cX4_lasts, 4, (some .int), 4, 0, 0, 1),
  (yX4_board, cX4_board, 4, (some .int), 4, 0, 0, 2),
  (yX4_off, cX4_off, 4, (some .int), 4, 0, 0, 1),
  (yX4_sail, cX4_sail, 7, (some .int), 4, 0, 0, 0),
  (yX4_back, cX4_back, 2, (some .int), 4, 0, 0, 1),
  (yX4_laneOf, cX4_laneOf, 4, (some .int), 4, 0, 0, 1),
  (yX4_aheadOf, cX4_aheadOf, 4, (some .int), 4, 0, 0, 1),
  (yX4_told, cX4_told, 3, (some .int), 4, 0, 0, 2),
  (yX4_deck, cX4_deck, 3, (some .int), 4, 0, 0, 2),
  (yX4_count, cX4_count, 4, (some .int), 4, 0, 0, 1),
  (yX4_till, cX4_till, 1, (some .long), 4, 0, 0, 0),
  (yL_law, cL_law, 4, some .boolean, 5, 600000, 7302250, 1)]
/-- field links: own class, pool entry, class, field, place of the word -/
def fd_ft : List (Nat × Nat × Nat × Nat × Nat) := [(0, 11, 0, 0, 51), (0, 15, 0, 1, 52), (0, 19, 0, 2, 53), (0, 23, 0, 3, 54), (0, 26, 0, 4, 55), (0, 29, 0, 5, 56), (0, 32, 0, 6, 57), (0, 35, 2, 1, 152), (0, 40, 2, 2, 155), (0, 43, 2, 3, 157), (1, 9, 1, 1, 80), (1, 15, 1, 2, 82), (1, 18, 1, 3, 84), (1, 21, 1, 4, 85), (1, 24, 1, 5, 87), (1, 27, 1, 6, 89), (1, 30, 1, 7, 91), (1, 34, 1, 8, 93), (1, 37, 1, 0, 79), (1, 40, 2, 4, 159), (1, 47, 2, 5, 162), (1, 53, 2, 9, 172), (1, 56, 2, 10, 175), (1, 59, 2, 11, 178), (1, 62, 2, 12, 181), (1, 65, 2, 6, 165), (2, 9, 2, 4, 158), (2, 15, 2, 5, 161), (2, 18, 2, 6, 164), (2, 21, 2, 7, 167), (2, 24, 2, 8, 169), (2, 27, 2, 9, 171), (2, 30, 2, 10, 174), (2, 33, 2, 11, 177), (2, 36, 2, 12, 180), (2, 40, 2, 13, 182), (2, 43, 2, 0, 149), (2, 46, 2, 1, 151), (2, 49, 2, 2, 154), (2, 52, 2, 3, 156), (3, 11, 3, 0, 114), (3, 15, 3, 1, 115), (3, 21, 3, 2, 116), (3, 28, 3, 3, 117), (3, 32, 3, 4, 118), (3, 35, 3, 5, 119), (3, 38, 3, 6, 120), (3, 57, 2, 0, 150), (3, 77, 1, 6, 90), (3, 80, 1, 1, 81), (3, 83, 1, 2, 83), (3, 86, 2, 9, 173), (3, 93, 1, 8, 94), (3, 108, 2, 13, 183), (3, 132, 2, 1, 153), (3, 135, 2, 10, 176), (3, 138, 2, 11, 179), (3, 154, 1, 5, 88), (3, 157, 1, 7, 92), (3, 166, 2, 4, 160), (3, 167, 2, 5, 163), (3, 170, 2, 6, 166), (3, 171, 2, 7, 168), (3, 174, 2, 8, 170), (3, 177, 1, 4, 86), (4, 7, 4, 1, 395), (4, 13, 4, 2, 396), (4, 16, 4, 3, 397), (4, 19, 4, 4, 398), (4, 22, 4, 5, 399), (4, 25, 4, 6, 400), (4, 28, 4, 7, 401), (4, 31, 4, 8, 402), (4, 34, 4, 9, 403), (4, 37, 4, 13, 407), (4, 40, 4, 0, 394), (4, 49, 4, 14, 408), (4, 90, 4, 10, 404), (4, 103, 4, 12, 406), (4, 110, 4, 11, 405)]
def fd_stt : List (Nat × Nat × Nat × Nat) := [(0, 62, 0, 238), (0, 75, 1, 236)]
/-- method links: own class, pool entry, method, kind of call, place of the word -/
def fd_mt : List (Nat × Nat × Nat × Nat × Nat) := [(0, 46, 4, 0, 221), (0, 50, 1, 0, 267), (0, 54, 37, 3, 232), (0, 58, 6, 0, 225), (0, 65, 7, 1, 229), (0, 68, 8, 1, 233), (0, 71, 10, 0, 240), (0, 78, 9, 0, 244), (0, 82, 5, 0, 248), (0, 85, 11, 1, 252), (1, 43, 13, 0, 297), (1, 50, 14, 0, 301), (1, 66, 22, 0, 332), (1, 70, 17, 0, 362), (3, 27, 0, 4, 47), (3, 42, 12, 2, 75), (3, 45, 37, 1, 140), (3, 50, 19, 2, 145), (3, 53, 42, 0, 213), (3, 60, 38, 0, 259), (3, 64, 2, 0, 263), (3, 68, 3, 0, 272), (3, 72, 39, 0, 280), (3, 89, 15, 0, 293), (3, 97, 44, 1, 305), (3, 101, 43, 0, 312), (3, 105, 16, 0, 320), (3, 111, 17, 0, 328), (3, 114, 41, 0, 340), (3, 117, 45, 0, 344), (3, 126, 46, 0, 351), (3, 129, 18, 0, 358), (3, 141, 20, 0, 316), (3, 145, 21, 0, 308), (3, 148, 13, 0, 375), (3, 151, 14, 0, 376), (3, 160, 40, 1, 377), (3, 163, 1, 0, 217), (4, 44, 48, 1, 444), (4, 52, 52, 0, 460), (4, 56, 53, 0, 456), (4, 60, 54, 0, 464), (4, 63, 55, 0, 468), (4, 66, 49, 0, 452), (4, 70, 56, 0, 472), (4, 74, 57, 1, 476), (4, 77, 59, 0, 479), (4, 80, 58, 1, 483), (4, 83, 60, 0, 486), (4, 86, 50, 1, 498), (4, 93, 63, 0, 510), (4, 97, 66, 0, 514), (4, 100, 67, 0, 518), (4, 107, 68, 0, 530), (4, 113, 73, 0, 542), (4, 116, 74, 0, 546), (5, 9, 23, 2, 35), (5, 12, 47, 2, 390), (5, 13, 24, 0, 136), (5, 17, 51, 0, 440), (5, 18, 25, 0, 255), (5, 21, 61, 0, 448), (5, 22, 26, 0, 268), (5, 26, 62, 0, 490), (5, 27, 27, 0, 276), (5, 30, 64, 0, 494), (5, 31, 28, 0, 285), (5, 34, 65, 0, 502), (5, 35, 29, 0, 289), (5, 39, 69, 0, 506), (5, 40, 30, 0, 324), (5, 43, 70, 0, 522), (5, 44, 31, 0, 336), (5, 48, 71, 0, 526), (5, 49, 32, 0, 363), (5, 52, 72, 0, 534), (5, 53, 33, 0, 367), (5, 56, 75, 0, 538), (5, 57, 34, 0, 371), (5, 60, 76, 0, 550), (5, 61, 35, 0, 380), (5, 64, 77, 0, 554), (5, 65, 36, 0, 384), (5, 69, 78, 0, 558)]
def fd_sp : List (Nat × Nat × Nat × Nat) := [(0, 3, 5, 50), (1, 3, 5, 78), (2, 3, 5, 148), (3, 1, 5, 38), (3, 121, 7, 348), (3, 180, 6, 355), (4, 1, 5, 393)]
def fd_clk : List (Nat × Nat × Nat × Nat) := [(3, 9, 2, 41), (3, 19, 1, 43), (3, 25, 0, 45), (5, 7, 3, 33), (5, 10, 4, 388)]
def fd_cs : List (Nat × Nat × Int32 × Nat) := [(3, 49, 40000, 143), (3, 76, 200000, 284), (4, 48, 40000, 447), (4, 89, 200000, 501)]
end
section
def fd_m (mi : Nat) : fd_MI := fd_ms.getD mi (⟨"", "", ""⟩, .empty, 0, none, 0, 0, 0, 0)
def fd_y (mi : Nat) : MethodName := (fd_m mi).1
def fd_b (mi : Nat) : ByteArray := (fd_m mi).2.1
def fd_mL (mi : Nat) : Nat := (fd_m mi).2.2.1
def fd_ret (mi : Nat) : Option FieldType := (fd_m mi).2.2.2.1
def fd_own (mi : Nat) : Nat := (fd_m mi).2.2.2.2.1
def fd_mc (mi : Nat) : Nat := (fd_m mi).2.2.2.2.2.1
def fd_mS (mi : Nat) : Nat := (fd_m mi).2.2.2.2.2.2.1
def fd_np (mi : Nat) : Nat := (fd_m mi).2.2.2.2.2.2.2
abbrev fd_X : Type := List fd_E → fd_L → List fd_V → fd_S → Nat → Nat → Prop
abbrev fd_C : Type := Nat → List fd_V → fd_S → (Option fd_V → fd_S → Prop) → Prop
/-- room is left, and nothing on hand points past the last cell: wanted where a cell is made -/
def fd_new (mi : Nat) (lv : fd_L) (t : List fd_V) (σ : fd_S) (cc ss nc ns : Nat) : Prop := cc + nc ≤ fd_mc mi ∧ ss + ns ≤ fd_mS mi ∧ fd_okL σ.1 lv ∧ fd_okV σ.1 t ∧ fd_clo σ
def fd_call (C : fd_C) (mi : Nat) (X : fd_X) (nx : List fd_E) (lv : fd_L) (as t : List fd_V) (σ : fd_S) (cc ss k : Nat) : Prop :=
  match Nat.ble (fd_cats t) 8 && Nat.ble (fd_cats as) (fd_mL k) with
  | false => False
  | true => match fd_mc k with
    | 0 => C k as σ (fun r σ' => X nx lv (r.toList ++ t) σ' cc ss)
    | _ + 1 => fd_new mi lv t σ cc ss (fd_mc k) (fd_mS k) ∧ C k as σ (fun r σ' => X nx lv (r.toList ++ t) σ' (cc + fd_mc k) (ss + fd_mS k))
def fd_br (mi : Nat) (X : fd_X) (nx : List fd_E) (rs : List Nat) (lv : fd_L) (t : List fd_V) (σ : fd_S) (cc ss : Nat) (p q : Prop) : Prop :=
  match rs with
  | [k] => (p → X ((fd_code mi).drop k) lv t σ cc ss) ∧ (q → X nx lv t σ cc ss)
  | _ => False
def fd_icmp (c : ClassFile.Cond) (x y : Int32) : Prop × Prop :=
  match c with
  | .eq => (x = y, ¬ x = y)
  | .ne => (¬ x = y, x = y)
  | .lt => (x < y, ¬ x < y)
  | .ge => (y ≤ x, ¬ y ≤ x)
  | .gt => (y < x, ¬ y < x)
  | .le => (x ≤ y, ¬ x ≤ y)
def fd_bin (X : fd_X) (nx : List fd_E) (lv : fd_L) (st : List fd_V) (σ : fd_S) (cc ss : Nat) (f : Int32 → Int32 → Int32) : Prop :=
  match st with
  | .inl y :: .inl x :: t => X nx lv (.inl (f x y) :: t) σ cc ss
  | _ => False
def fd_ldI (X : fd_X) (nx : List fd_E) (lv : fd_L) (st : List fd_V) (σ : fd_S) (cc ss : Nat) (rs : List Nat) : Prop :=
  match rs with
  | [i] => match fd_get lv i with
    | some (.inl x) => X nx lv (.inl x :: st) σ cc ss
    | _ => False
  | _ => False
def fd_ldA (X : fd_X) (nx : List fd_E) (lv : fd_L) (st : List fd_V) (σ : fd_S) (cc ss : Nat) (rs : List Nat) : Prop :=
  match rs with
  | [i] => match fd_get lv i with
    | some (.inr (.inr w)) => X nx lv (.inr (.inr w) :: st) σ cc ss
    | _ => False
  | _ => False
def fd_stI (X : fd_X) (nx : List fd_E) (lv : fd_L) (st : List fd_V) (σ : fd_S) (cc ss : Nat) (rs : List Nat) : Prop :=
  match rs with
  | [i] => match st with
    | .inl x :: t => X nx (fd_put lv i (.inl x)) t σ cc ss
    | _ => False
  | _ => False
def fd_stA (X : fd_X) (nx : List fd_E) (lv : fd_L) (st : List fd_V) (σ : fd_S) (cc ss : Nat) (rs : List Nat) : Prop :=
  match rs with
  | [i] => match st with
    | .inr (.inr (.inl o)) :: t => X nx (fd_put lv i (.inr (.inr (.inl o)))) t σ cc ss
    | _ => False
  | _ => False
def fd_gf (X : fd_X) (nx : List fd_E) (lv : fd_L) (st : List fd_V) (σ : fd_S) (cc ss : Nat) (rs : List Nat) : Prop :=
  match rs with
  | [ci, k, ty] => match st with
    | .inr (.inr (.inl o)) :: t => ∃ a, o = some a ∧ a < σ.1 ∧ fd_sh a = .inl ci ∧ (match ty with
      | 1 => X nx lv (.inr (.inr (.inl (σ.2.2.1 a k))) :: t) σ cc ss
      | 2 => X nx lv (.inr (.inl (σ.2.2.2 a k)) :: t) σ cc ss
      | _ => X nx lv (.inl (σ.2.1 a k) :: t) σ cc ss)
    | _ => False
  | _ => False
def fd_pf (X : fd_X) (nx : List fd_E) (lv : fd_L) (st : List fd_V) (σ : fd_S) (cc ss : Nat) (rs : List Nat) : Prop :=
  match rs with
  | [ci, k, ty, _] => match ty with
    | 0 => (match st with
      | .inl v :: .inr (.inr (.inl o)) :: t => ∃ a, o = some a ∧ a < σ.1 ∧ fd_sh a = .inl ci ∧ X nx lv t (fd_si σ a k v) cc ss
      | _ => False)
    | 1 => (match st with
      | .inr (.inr (.inl w)) :: .inr (.inr (.inl o)) :: t => ∃ a, o = some a ∧ a < σ.1 ∧ fd_sh a = .inl ci ∧ X nx lv t (fd_sr σ a k w) cc ss
      | _ => False)
    | 2 => (match st with
      | .inr (.inl v) :: .inr (.inr (.inl o)) :: t => ∃ a, o = some a ∧ a < σ.1 ∧ fd_sh a = .inl ci ∧ X nx lv t (fd_sl σ a k v) cc ss
      | _ => False)
    | _ => (match st with
      | .inl v :: .inr (.inr (.inl o)) :: t => ∃ a, o = some a ∧ a < σ.1 ∧ fd_sh a = .inl ci ∧ (v = 0 ∨ v = 1) ∧ X nx lv t (fd_si σ a k v) cc ss
      | _ => False)
  | _ => False
def fd_ial (scr : Option (Nat × (Nat → Int32))) (X : fd_X) (nx : List fd_E) (lv : fd_L) (st : List fd_V) (σ : fd_S) (cc ss : Nat) : Prop :=
  match st with
  | .inl i :: .inr (.inr (.inl o)) :: t => ∃ a n, o = some a ∧ a < σ.1 ∧ fd_sh a = .inr (n, none) ∧ vp_in i n ∧ X nx lv (.inl (σ.2.1 a i.toNatClampNeg) :: t) σ cc ss
  | .inl i :: .inr (.inr (.inr k)) :: t => (k < 2 ∧ vp_in i (fd_sn k) ∧ X nx lv (.inl (fd_sa k i.toNatClampNeg) :: t) σ cc ss) ∨ (k = 2 ∧ ∃ n f, scr = some (n, f) ∧ vp_in i n ∧ X nx lv (.inl (f i.toNatClampNeg) :: t) σ cc ss)
  | _ => False
def fd_aal (X : fd_X) (nx : List fd_E) (lv : fd_L) (st : List fd_V) (σ : fd_S) (cc ss : Nat) : Prop :=
  match st with
  | .inl i :: .inr (.inr (.inl o)) :: t => ∃ a n c, o = some a ∧ a < σ.1 ∧ fd_sh a = .inr (n, some c) ∧ vp_in i n ∧ X nx lv (.inr (.inr (.inl (σ.2.2.1 a i.toNatClampNeg))) :: t) σ cc ss
  | _ => False
def fd_ias (X : fd_X) (nx : List fd_E) (lv : fd_L) (st : List fd_V) (σ : fd_S) (cc ss : Nat) : Prop :=
  match st with
  | .inl v :: .inl i :: .inr (.inr (.inl o)) :: t => ∃ a n, o = some a ∧ a < σ.1 ∧ fd_sh a = .inr (n, none) ∧ vp_in i n ∧ X nx lv t (fd_si σ a i.toNatClampNeg v) cc ss
  | _ => False
def fd_aas (X : fd_X) (nx : List fd_E) (lv : fd_L) (st : List fd_V) (σ : fd_S) (cc ss : Nat) : Prop :=
  match st with
  | .inr (.inr (.inl w)) :: .inl i :: .inr (.inr (.inl o)) :: t => ∃ a n c z, o = some a ∧ a < σ.1 ∧ fd_sh a = .inr (n, some c) ∧ vp_in i n ∧ w = some z ∧ z < σ.1 ∧ fd_sh z = .inl c ∧ X nx lv t (fd_sr σ a i.toNatClampNeg (some z)) cc ss
  | _ => False
def fd_aln (scr : Option (Nat × (Nat → Int32))) (X : fd_X) (nx : List fd_E) (lv : fd_L) (st : List fd_V) (σ : fd_S) (cc ss : Nat) : Prop :=
  match st with
  | .inr (.inr (.inl o)) :: t => ∃ a n c, o = some a ∧ a < σ.1 ∧ fd_sh a = .inr (n, c) ∧ X nx lv (.inl (Int32.ofNat n) :: t) σ cc ss
  | .inr (.inr (.inr k)) :: t => (k < 2 ∧ X nx lv (.inl (Int32.ofNat (fd_sn k)) :: t) σ cc ss) ∨ (k = 2 ∧ ∃ n f, scr = some (n, f) ∧ X nx lv (.inl (Int32.ofNat n) :: t) σ cc ss)
  | _ => False
def fd_nwa (mi : Nat) (X : fd_X) (nx : List fd_E) (lv : fd_L) (st : List fd_V) (σ : fd_S) (cc ss : Nat) (c : Option Nat) : Prop :=
  match st with
  | .inl n :: t => ∃ N, n.toNatClampNeg = N ∧ ¬ n < 0 ∧ N ≤ 1000 ∧ fd_sh σ.1 = .inr (N, c) ∧ fd_new mi lv t σ cc ss 1 N ∧ X nx lv (.inr (.inr (.inl (some σ.1))) :: t) (fd_alloc σ) (cc + 1) (ss + N)
  | _ => False
def fd_nf (ci : Nat) : Nat := [7, 9, 14, 7, 15].getD ci 0
def fd_step (C : fd_C) (scr : Option (Nat × (Nat → Int32))) (mi : Nat) (post : Option fd_V → fd_S → Prop) (X : fd_X) (suf : List fd_E) (lv : fd_L) (st : List fd_V) (σ : fd_S) (cc ss : Nat) : Prop :=
  match suf with
  | [] => False
  | (_, ins, _, v, rs) :: nx =>
    match ins with
    | .iconst _ => X nx lv (.inl v :: st) σ cc ss
    | .bipush _ => X nx lv (.inl v :: st) σ cc ss
    | .sipush _ => X nx lv (.inl v :: st) σ cc ss
    | .ldc _ => X nx lv (.inl v :: st) σ cc ss
    | .lconst _ => X nx lv (.inr (.inl 0) :: st) σ cc ss
    | .aconst_null => X nx lv (.inr (.inr (.inl none)) :: st) σ cc ss
    | .iload _ => fd_ldI X nx lv st σ cc ss rs
    | .iload_n _ => fd_ldI X nx lv st σ cc ss rs
    | .aload _ => fd_ldA X nx lv st σ cc ss rs
    | .aload_n _ => fd_ldA X nx lv st σ cc ss rs
    | .istore _ => fd_stI X nx lv st σ cc ss rs
    | .istore_n _ => fd_stI X nx lv st σ cc ss rs
    | .astore _ => fd_stA X nx lv st σ cc ss rs
    | .astore_n _ => fd_stA X nx lv st σ cc ss rs
    | .iinc _ _ => match rs with
      | [i] => match fd_get lv i with
        | some (.inl x) => X nx (fd_put lv i (.inl (x + v))) st σ cc ss
        | _ => False
      | _ => False
    | .iadd => fd_bin X nx lv st σ cc ss (fun x y => x + y)
    | .isub => fd_bin X nx lv st σ cc ss (fun x y => x - y)
    | .imul => fd_bin X nx lv st σ cc ss (fun x y => x * y)
    | .iand => fd_bin X nx lv st σ cc ss (fun x y => x &&& y)
    | .idiv => match st with
      | .inl y :: .inl x :: t => ¬ y = 0 ∧ X nx lv (.inl (x / y) :: t) σ cc ss
      | _ => False
    | .ineg => match st with
      | .inl x :: t => X nx lv (.inl (-x) :: t) σ cc ss
      | _ => False
    | .i2l => match st with
      | .inl x :: t => X nx lv (.inr (.inl x.toInt64) :: t) σ cc ss
      | _ => False
    | .ladd => match st with
      | .inr (.inl y) :: .inr (.inl x) :: t => X nx lv (.inr (.inl (x + y)) :: t) σ cc ss
      | _ => False
    | .lsub => match st with
      | .inr (.inl y) :: .inr (.inl x) :: t => X nx lv (.inr (.inl (x - y)) :: t) σ cc ss
      | _ => False
    | .lcmp => match st with
      | .inr (.inl y) :: .inr (.inl x) :: t => X nx lv (.inl (lg_cmp x y) :: t) σ cc ss
      | _ => False
    | .dup => match st with
      | .inl x :: t => X nx lv (.inl x :: .inl x :: t) σ cc ss
      | .inr (.inr (.inl o)) :: t => X nx lv (.inr (.inr (.inl o)) :: .inr (.inr (.inl o)) :: t) σ cc ss
      | _ => False
    | .dup2 => match st with
      | .inl x :: .inr (.inr (.inl o)) :: t => X nx lv (.inl x :: .inr (.inr (.inl o)) :: .inl x :: .inr (.inr (.inl o)) :: t) σ cc ss
      | _ => False
    | .if_icmp c _ => match st with
      | .inl y :: .inl x :: t => fd_br mi X nx rs lv t σ cc ss (fd_icmp c x y).1 (fd_icmp c x y).2
      | _ => False
    | .ifCond c _ => match st with
      | .inl x :: t => fd_br mi X nx rs lv t σ cc ss (fd_icmp c x 0).1 (fd_icmp c x 0).2
      | _ => False
    | .ifnull _ => match st with
      | .inr (.inr (.inl o)) :: t => fd_br mi X nx rs lv t σ cc ss (o = none) (¬ o = none)
      | _ => False
    | .ifnonnull _ => match st with
      | .inr (.inr (.inl o)) :: t => fd_br mi X nx rs lv t σ cc ss (¬ o = none) (o = none)
      | _ => False
    | .goto _ => match rs with
      | [k] => X ((fd_code mi).drop k) lv st σ cc ss
      | _ => False
    | .tableswitch _ lo hi _ => match rs with
      | d :: ts => match st with
        | .inl x :: t => (∃ (j k : Nat), ts[j]? = some k ∧ x.toInt = lo + (j : Int) ∧ X ((fd_code mi).drop k) lv t σ cc ss) ∨ ((x.toInt < lo ∨ hi < x.toInt) ∧ X ((fd_code mi).drop d) lv t σ cc ss)
        | _ => False
      | _ => False
    | .getfield _ => fd_gf X nx lv st σ cc ss rs
    | .putfield _ => fd_pf X nx lv st σ cc ss rs
    | .getstatic _ => match rs with
      | [k] => X nx lv (.inr (.inr (.inr k)) :: st) σ cc ss
      | _ => False
    | .iaload => fd_ial scr X nx lv st σ cc ss
    | .aaload => fd_aal X nx lv st σ cc ss
    | .iastore => fd_ias X nx lv st σ cc ss
    | .aastore => fd_aas X nx lv st σ cc ss
    | .arraylength => fd_aln scr X nx lv st σ cc ss
    | .newarray _ => fd_nwa mi X nx lv st σ cc ss none
    | .anewarray _ => match rs with
      | [c] => fd_nwa mi X nx lv st σ cc ss (some c)
      | _ => False
    | .new _ => match rs with
      | [ci] => fd_sh σ.1 = .inl ci ∧ fd_new mi lv st σ cc ss 1 (fd_nf ci) ∧ X nx lv (.inr (.inr (.inl (some σ.1))) :: st) (fd_alloc σ) (cc + 1) (ss + fd_nf ci)
      | _ => False
    | .invokevirtual _ => match rs with
      | [k, 0] => match fd_popn (fd_np k) [] st with
        | some (as, .inr (.inr (.inl o)) :: t) => ∃ a, o = some a ∧ a < σ.1 ∧ fd_sh a = .inl (fd_own k) ∧ fd_call C mi X nx lv (.inr (.inr (.inl (some a))) :: as) t σ cc ss k
        | _ => False
      | _ => False
    | .invokestatic _ => match rs with
      | [k, 1] => match fd_popn (fd_np k) [] st with
        | some (as, t) => fd_call C mi X nx lv as t σ cc ss k
        | _ => False
      | [k, 3] => match fd_popn (fd_np k) [] st with
        | some (as, t) => fd_call C mi X nx lv as t σ cc ss k
        | _ => False
      | [_, 6] => match st with
        | .inl y :: .inl x :: t => match Nat.ble (fd_cats t) 8 with
          | true => X nx lv (.inl (if x < y then y else x) :: t) σ cc ss
          | false => False
        | _ => False
      | [_, 7] => match st with
        | .inl x :: t => match Nat.ble (fd_cats t) 8 with
          | true => X nx lv (.inl (if 0 ≤ x then x else 0 - x) :: t) σ cc ss
          | false => False
        | _ => False
      | _ => False
    | .invokespecial _ => match rs with
      | [_, 5] => match st with
        | .inr (.inr (.inl o)) :: t => match Nat.ble (fd_cats t) 8 with
          | true => ∃ a, o = some a ∧ X nx lv t σ cc ss
          | false => False
        | _ => False
      | [k, 2] => match fd_popn (fd_np k) [] st with
        | some (as, .inr (.inr (.inl o)) :: t) => ∃ a, o = some a ∧ fd_call C mi X nx lv (.inr (.inr (.inl (some a))) :: as) t σ cc ss k
        | _ => False
      | [k, 4] => match fd_popn (fd_np k) [] st with
        | some (as, .inr (.inr (.inl o)) :: t) => ∃ a, o = some a ∧ fd_call C mi X nx lv (.inr (.inr (.inl (some a))) :: as) t σ cc ss k
        | _ => False
      | _ => False
    | .ireturn => match st with
      | [.inl x] => match fd_ret mi with
        | some .int => post (some (.inl x)) σ
        | some .boolean => (x = 0 ∨ x = 1) ∧ post (some (.inl x)) σ
        | _ => False
      | _ => False
    | .lreturn => match st with
      | [.inr (.inl x)] => match fd_ret mi with
        | some .long => post (some (.inr (.inl x))) σ
        | _ => False
      | _ => False
    | .areturn => match st with
      | [.inr (.inr (.inl o))] => match fd_ret mi with
        | some (.object _) => post (some (.inr (.inr (.inl o)))) σ
        | _ => False
      | _ => False
    | .return_ => match st with
      | [] => match fd_ret mi with
        | none => post none σ
        | _ => False
      | _ => False
    | _ => False
/-- fewer locals, or in another order -/
def fd_sub : fd_L → fd_L → Prop
  | [], _ => True
  | q :: r, lv => fd_get lv q.1 = some q.2 ∧ fd_sub r lv
abbrev fd_subX (X : fd_X) : Prop := ∀ (suf : List fd_E) (lv lv' : fd_L) (st : List fd_V) (σ : fd_S) (cc ss : Nat), fd_sub lv' lv → X suf lv' st σ cc ss → X suf lv st σ cc ss
/-- what a call comes to, D calls deep: the least X that is closed under a step -/
def fd_Sem : Nat → Nat → List fd_V → fd_S → (Option fd_V → fd_S → Prop) → Prop
  | 0, _, _, _, _ => False
  | D + 1, mi, as, σ, post => ∀ X : fd_X, (∀ suf lv st σ cc ss, fd_step (fd_Sem D) none mi post X suf lv st σ cc ss → X suf lv st σ cc ss) → fd_subX X → X (fd_code mi) (fd_args 0 as) [] σ 0 0
end
section
def fd_R (o : Nat) : String := [RX0, RX1, RX2, RX3, RX4, RL].getD o ""
def fd_T (ci : Nat) : u_T := match ci with
  | 0 => TX0
  | 1 => TX1
  | 2 => TX2
  | 3 => TX3
  | _ => TX4
def fd_tyf (ci : Nat) : Nat → FieldType := match ci with
  | 0 => tyX0
  | 1 => tyX1
  | 2 => tyX2
  | 3 => tyX3
  | _ => tyX4
def fd_tyc (t : FieldType) : Nat := match t with
  | .long => 2
  | .object _ => 1
  | .array _ => 1
  | .boolean => 3
  | _ => 0
def fd_tgt (mi pc : Nat) (off : Int) (k : Nat) : Bool := match (fd_code mi)[k]? with
  | some e => decide ((pc : Int) + off = (e.1 : Int))
  | none => false
def fd_jmp (mi pc : Nat) (off : Int) (len : Nat) (rs : List Nat) : Bool := match rs with
  | [k] => len == 3 && fd_tgt mi pc off k
  | _ => false
def fd_mtl (o i k kd : Nat) : Bool := fd_mt.any (fun q => q.1 == o && q.2.1 == i && q.2.2.1 == k && q.2.2.2.1 == kd)
def fd_spl (o i kd : Nat) : Bool := fd_sp.any (fun q => q.1 == o && q.2.1 == i && q.2.2.1 == kd)
def fd_ftl (o i ci k : Nat) : Bool := fd_ft.any (fun q => q.1 == o && q.2.1 == i && q.2.2.1 == ci && q.2.2.2.1 == k)
def fd_ckI (mi pc : Nat) (ins : Instr) (len : Nat) (v : Int32) (rs : List Nat) : Bool := match ins with
  | .iconst n => len == 1 && Int32.ofInt n == v
  | .bipush n => len == 2 && (Int8.ofInt n).toInt32 == v
  | .sipush n => len == 3 && (Int16.ofInt n).toInt32 == v
  | .ldc i => len == 2 && fd_cs.any (fun q => q.1 == fd_own mi && q.2.1 == i && q.2.2.1 == v)
  | .lconst n => len == 1 && n.val == 0
  | .aconst_null => len == 1
  | .iload i => len == 2 && rs == [i]
  | .iload_n i => len == 1 && rs == [i.val]
  | .aload i => len == 2 && rs == [i]
  | .aload_n i => len == 1 && rs == [i.val]
  | .istore i => len == 2 && rs == [i] && decide (i < fd_mL mi)
  | .istore_n i => len == 1 && rs == [i.val] && decide (i.val < fd_mL mi)
  | .astore i => len == 2 && rs == [i] && decide (i < fd_mL mi)
  | .astore_n i => len == 1 && rs == [i.val] && decide (i.val < fd_mL mi)
  | .iinc i n => len == 3 && rs == [i] && Int32.ofInt n == v && decide (i < fd_mL mi)
  | .iadd => len == 1
  | .isub => len == 1
  | .imul => len == 1
  | .iand => len == 1
  | .idiv => len == 1
  | .ineg => len == 1
  | .i2l => len == 1
  | .ladd => len == 1
  | .lsub => len == 1
  | .lcmp => len == 1
  | .dup => len == 1
  | .dup2 => len == 1
  | .if_icmp _ off => fd_jmp mi pc off len rs
  | .ifCond _ off => fd_jmp mi pc off len rs
  | .ifnull off => fd_jmp mi pc off len rs
  | .ifnonnull off => fd_jmp mi pc off len rs
  | .goto off => fd_jmp mi pc off len rs
  | .tableswitch d lo hi offs => (match rs with
    | dk :: ts => fd_tgt mi pc d dk && decide (hi - lo + 1 = (ts.length : Int)) && (List.range ts.length).all (fun j => (match offs[j]? with
      | some off => fd_tgt mi pc off (ts.getD j 0)
      | none => false))
    | _ => false)
  | .getfield i => (match rs with
    | [ci, k, ty] => len == 3 && fd_ftl (fd_own mi) i ci k && fd_tyc (fd_tyf ci k) == ty
    | _ => false)
  | .putfield i => (match rs with
    | [ci, k, ty, f] => len == 3 && fd_ftl (fd_own mi) i ci k && fd_tyc (fd_tyf ci k) == ty && (match f with
      | 0 => (fd_T ci k).2.2.2 == false
      | _ => (fd_T ci k).2.2.2 == true && (fd_y mi).name == "<init>" && fd_own mi == ci)
    | _ => false)
  | .getstatic i => (match rs with
    | [k] => len == 3 && fd_stt.any (fun q => q.1 == fd_own mi && q.2.1 == i && q.2.2.1 == k)
    | _ => false)
  | .iaload => len == 1
  | .aaload => len == 1
  | .iastore => len == 1
  | .aastore => len == 1
  | .arraylength => len == 1
  | .newarray t => len == 2 && decide (t = .int)
  | .anewarray i => (match rs with
    | [k] => len == 3 && fd_clk.any (fun q => q.1 == fd_own mi && q.2.1 == i && q.2.2.1 == k) && (k == 1 || k == 2)
    | _ => false)
  | .new i => (match rs with
    | [k] => len == 3 && fd_clk.any (fun q => q.1 == fd_own mi && q.2.1 == i && q.2.2.1 == k)
    | _ => false)
  | .invokevirtual i => (match rs with
    | [k, kd] => len == 3 && fd_mtl (fd_own mi) i k kd
    | _ => false)
  | .invokestatic i => (match rs with
    | [_, 6] => len == 3 && fd_spl (fd_own mi) i 6
    | [_, 7] => len == 3 && fd_spl (fd_own mi) i 7
    | [k, kd] => len == 3 && fd_mtl (fd_own mi) i k kd
    | _ => false)
  | .invokespecial i => (match rs with
    | [_, 5] => len == 3 && fd_spl (fd_own mi) i 5
    | [k, kd] => len == 3 && fd_mtl (fd_own mi) i k kd
    | _ => false)
  | .ireturn => len == 1
  | .lreturn => len == 1
  | .areturn => len == 1
  | .return_ => len == 1
  | _ => false
def fd_ckL (mi : Nat) : List fd_E → Bool
  | [] => false
  | [e] => decide (e.2.1 = .athrow)
  | e :: e' :: r => decide (decode (fd_b mi) e.1 = .ok (e.2.1, e.2.2.1)) && fd_ckI mi e.1 e.2.1 e.2.2.1 e.2.2.2.1 e.2.2.2.2 && e'.1 == e.1 + e.2.2.1 && fd_ckL mi (e' :: r)
def fd_pc (suf : List fd_E) : Nat := match suf with
  | [] => 0
  | e :: _ => e.1
theorem fd_ckL_at {mi : Nat} : ∀ (cd : List fd_E) (k : Nat) (e : fd_E) (nx : List fd_E), fd_ckL mi cd = true → cd.drop k = e :: nx → e.2.1 = .athrow ∨ (decode (fd_b mi) e.1 = .ok (e.2.1, e.2.2.1) ∧ fd_ckI mi e.1 e.2.1 e.2.2.1 e.2.2.2.1 e.2.2.2.2 = true ∧ fd_pc nx = e.1 + e.2.2.1)
  | [], k, e, nx, _, hd => by simp at hd
  | [e0], k, e, nx, h, hd => by
    cases k with
    | zero => simp at hd; simp [fd_ckL] at h; left; rw [← hd.1]; exact h
    | succ k => simp at hd
  | e0 :: e1 :: r, k, e, nx, h, hd => by
    simp only [fd_ckL, Bool.and_eq_true, decide_eq_true_eq, beq_iff_eq] at h
    obtain ⟨⟨⟨h1, h2⟩, h3⟩, h4⟩ := h
    cases k with
    | zero =>
      simp at hd
      obtain ⟨rfl, rfl⟩ := hd
      right
      exact ⟨h1, h2, h3⟩
    | succ k => exact fd_ckL_at (e1 :: r) k e nx h4 hd
/-- the words that hold in any state that comes later -/
def fd_tb : List Jvm.Cond := lw_tbl.filter goodWord
def fd_in (w : Jvm.Cond) : Bool := decide (w ∈ lw_tbl) && goodWord w
def fd_at (k : Nat) (w : Jvm.Cond) : Bool := decide (lw_tbl[k]? = some w) && goodWord w
theorem fd_in_tb {w : Jvm.Cond} (h : fd_in w = true) : w ∈ fd_tb := by
  simp only [fd_in, Bool.and_eq_true, decide_eq_true_eq] at h
  exact List.mem_filter.mpr h
theorem fd_at_tb {k : Nat} {w : Jvm.Cond} (h : fd_at k w = true) : w ∈ fd_tb := by
  simp only [fd_at, Bool.and_eq_true, decide_eq_true_eq] at h
  exact List.mem_filter.mpr ⟨List.mem_of_getElem? h.1, h.2⟩
theorem fd_good {ws : List Jvm.Cond} (h : ∀ w ∈ ws, w ∈ fd_tb) : GoodIn fd_tb ws := fun w hw => ⟨h w hw, good_of_word (List.mem_filter.mp (h w hw)).2⟩
def fd_mok (mi : Nat) : Bool := fd_in (.code (fd_y mi) (fd_b mi) (fd_mL mi) (fd_ret mi)) && fd_in (.initialized (fd_y mi).cls) && (fd_y mi).cls == fd_R (fd_own mi) && plainName (fd_y mi).cls && decide ((fd_y mi).cls ≠ "java/lang/invoke/MethodHandle") && decide ((fd_y mi).cls ≠ "java/lang/invoke/VarHandle") && decide ((parseMethodDescriptor (fd_y mi).desc).map (fun d => d.parameters.length) = some (fd_np mi)) && fd_ckL mi (fd_code mi) && decide (fd_own mi < 5) && decide (fd_mL mi ≤ 20)
def fd_mtok (q : Nat × Nat × Nat × Nat × Nat) : Bool := decide (q.2.2.1 < 79) && (match q.2.2.2.1 with
  | 0 => fd_at q.2.2.2.2 (.methodLink (fd_R q.1) q.2.1 (fd_y q.2.2.1)) && fd_in (.instanceMethod (fd_y q.2.2.1)) && fd_in (.selects (fd_y q.2.2.1).cls (fd_y q.2.2.1) (fd_y q.2.2.1))
  | 1 => fd_at q.2.2.2.2 (.methodLink (fd_R q.1) q.2.1 (fd_y q.2.2.1)) && fd_in (.static (fd_y q.2.2.1))
  | 2 => fd_at q.2.2.2.2 (.methodLink (fd_R q.1) q.2.1 (fd_y q.2.2.1)) && fd_in (.instanceMethod (fd_y q.2.2.1)) && (fd_y q.2.2.1).name == "<init>" && decide (fd_ret q.2.2.1 = none)
  | 3 => decide (lw_tbl[q.2.2.2.2]? = some (.methodLinkNest (fd_R q.1) q.2.1 (fd_y q.2.2.1) RX3)) && fd_in (.static (fd_y q.2.2.1))
  | 4 => decide (lw_tbl[q.2.2.2.2]? = some (.methodLinkNest (fd_R q.1) q.2.1 (fd_y q.2.2.1) RX3)) && fd_in (.instanceMethod (fd_y q.2.2.1)) && (fd_y q.2.2.1).name == "<init>" && decide (fd_ret q.2.2.1 = none)
  | _ => false)
theorem fd_mt_ok : ∀ q ∈ fd_mt, fd_mtok q = true := by decide +kernel
theorem fd_ft_ok : ∀ q ∈ fd_ft, (fd_at q.2.2.2.2 (.fieldLink (fd_R q.1) q.2.1 (fd_T q.2.2.1 q.2.2.2.1).1 (fd_T q.2.2.1 q.2.2.2.1).2.1 (fd_T q.2.2.1 q.2.2.2.1).2.2.1) && decide (q.2.2.1 < 5) && decide (q.2.2.2.1 < fd_nf q.2.2.1)) = true := by decide +kernel
theorem fd_stt_ok : ∀ q ∈ fd_stt, (fd_at q.2.2.2 (.fieldLink (fd_R q.1) q.2.1 RX0 (if q.2.2.1 = 0 then "ABOVE" else "TOLD_BODIES") "[I") && decide (q.2.2.1 < 2)) = true := by decide +kernel
theorem fd_sp_ok : ∀ q ∈ fd_sp, (match q.2.2.1 with
  | 5 => fd_at q.2.2.2 (.methodLink (fd_R q.1) q.2.1 objectInit)
  | 6 => fd_at q.2.2.2 (.methodLink (fd_R q.1) q.2.1 Lib.Math.max.name)
  | _ => fd_at q.2.2.2 (.methodLink (fd_R q.1) q.2.1 Lib.Math.abs.name)) = true := by decide +kernel
theorem fd_clk_ok : ∀ q ∈ fd_clk, (fd_at q.2.2.2 (.classLink (fd_R q.1) q.2.1 (fd_R q.2.2.1)) && decide (q.2.2.1 < 5)) = true := by decide +kernel
theorem fd_cs_ok : ∀ q ∈ fd_cs, fd_at q.2.2.2 (.constant (fd_R q.1) q.2.1 q.2.2.1) = true := by decide +kernel
theorem fd_obj_ok : (fd_in (.instanceMethod objectInit) && fd_in (.code objectInit ⟨#[0xb1]⟩ 1 none)) = true := by decide +kernel
theorem fd_math_ok : (fd_in (.static Lib.Math.max.name) && fd_in (.static Lib.Math.abs.name) && fd_in (.initialized "java/lang/Math") && fd_in (.code Lib.Math.max.name Lib.Math.max.code 2 (some .int)) && fd_in (.code Lib.Math.abs.name Lib.Math.abs.code 1 (some .int)) && fd_in (.arrayClass .int)) = true := by decide +kernel
theorem fd_cls_ok : ∀ ci, ci < 5 → (fd_in (.instantiable (fd_R ci) (fd_nf ci)) && fd_in (.initialized (fd_R ci)) && (u_ws (fd_R ci) (fd_T ci) (fd_nf ci)).all fd_in) = true := by decide +kernel
end
section
def fd_ckC (mi : Nat) : List fd_E → fd_E → Bool
  | [], _ => true
  | [e], e' => decide (decode (fd_b mi) e.1 = .ok (e.2.1, e.2.2.1)) && fd_ckI mi e.1 e.2.1 e.2.2.1 e.2.2.2.1 e.2.2.2.2 && e'.1 == e.1 + e.2.2.1
  | e :: e1 :: r, e' => decide (decode (fd_b mi) e.1 = .ok (e.2.1, e.2.2.1)) && fd_ckI mi e.1 e.2.1 e.2.2.1 e.2.2.2.1 e.2.2.2.2 && e1.1 == e.1 + e.2.2.1 && fd_ckC mi (e1 :: r) e'
theorem fd_ckL_app {mi : Nat} : ∀ (l : List fd_E) (e' : fd_E) (r : List fd_E), fd_ckC mi l e' = true → fd_ckL mi (e' :: r) = true → fd_ckL mi (l ++ e' :: r) = true
  | [], _, _, _, h => h
  | [e], e', r, h, h2 => by
    simp only [fd_ckC, Bool.and_eq_true] at h
    simp only [List.cons_append, List.nil_append, fd_ckL, Bool.and_eq_true]
    exact ⟨⟨⟨h.1.1, h.1.2⟩, h.2⟩, h2⟩
  | e :: e1 :: l, e', r, h, h2 => by
    simp only [fd_ckC, Bool.and_eq_true] at h
    have ih := fd_ckL_app (e1 :: l) e' r h.2 h2
    simp only [List.cons_append, fd_ckL, Bool.and_eq_true] at ih ⊢
    exact ⟨⟨⟨h.1.1.1, h.1.1.2⟩, h.1.2⟩, ih⟩
end
section
theorem fd_mok_0 : fd_mok 0 = true := by decide +kernel
theorem fd_mok_1 : fd_mok 1 = true := by decide +kernel
theorem fd_mok_2 : fd_mok 2 = true := by decide +kernel
theorem fd_mok_3 : fd_mok 3 = true := by decide +kernel
theorem fd_mok_4 : fd_mok 4 = true := by decide +kernel
theorem fd_mok_5 : fd_mok 5 = true := by decide +kernel
theorem fd_mok_6 : fd_mok 6 = true := by decide +kernel
theorem fd_mok_7 : fd_mok 7 = true := by decide +kernel
theorem fd_mok_8 : fd_mok 8 = true := by decide +kernel
theorem fd_mok_9 : fd_mok 9 = true := by decide +kernel
theorem fd_mok_11 : fd_mok 11 = true := by decide +kernel
theorem fd_mok_12 : fd_mok 12 = true := by decide +kernel
theorem fd_mok_13 : fd_mok 13 = true := by decide +kernel
theorem fd_mok_14 : fd_mok 14 = true := by decide +kernel
theorem fd_mok_15 : fd_mok 15 = true := by decide +kernel
theorem fd_mok_16 : fd_mok 16 = true := by decide +kernel
theorem fd_mok_17 : fd_mok 17 = true := by decide +kernel
theorem fd_mok_18 : fd_mok 18 = true := by decide +kernel
theorem fd_mok_19 : fd_mok 19 = true := by decide +kernel
theorem fd_mok_20 : fd_mok 20 = true := by decide +kernel
theorem fd_mok_21 : fd_mok 21 = true := by decide +kernel
theorem fd_mok_22 : fd_mok 22 = true := by decide +kernel
theorem fd_mok_23 : fd_mok 23 = true := by decide +kernel
theorem fd_mok_24 : fd_mok 24 = true := by decide +kernel
theorem fd_mok_25 : fd_mok 25 = true := by decide +kernel
theorem fd_mok_26 : fd_mok 26 = true := by decide +kernel
theorem fd_mok_27 : fd_mok 27 = true := by decide +kernel
theorem fd_mok_28 : fd_mok 28 = true := by decide +kernel
theorem fd_mok_29 : fd_mok 29 = true := by decide +kernel
theorem fd_mok_30 : fd_mok 30 = true := by decide +kernel
theorem fd_mok_31 : fd_mok 31 = true := by decide +kernel
theorem fd_mok_32 : fd_mok 32 = true := by decide +kernel
theorem fd_mok_33 : fd_mok 33 = true := by decide +kernel
theorem fd_mok_34 : fd_mok 34 = true := by decide +kernel
theorem fd_mok_35 : fd_mok 35 = true := by decide +kernel
theorem fd_mok_36 : fd_mok 36 = true := by decide +kernel
theorem fd_mok_37 : fd_mok 37 = true := by decide +kernel
theorem fd_mok_38 : fd_mok 38 = true := by decide +kernel
theorem fd_mok_39 : fd_mok 39 = true := by decide +kernel
theorem fd_mok_40 : fd_mok 40 = true := by decide +kernel
end
section
theorem fd_mok_41 : fd_mok 41 = true := by decide +kernel
theorem fd_mok_42 : fd_mok 42 = true := by decide +kernel
theorem fd_mok_43 : fd_mok 43 = true := by decide +kernel
theorem fd_mok_44 : fd_mok 44 = true := by decide +kernel
theorem fd_mok_45 : fd_mok 45 = true := by decide +kernel
theorem fd_mok_46 : fd_mok 46 = true := by decide +kernel
theorem fd_mok_47 : fd_mok 47 = true := by decide +kernel
theorem fd_mok_48 : fd_mok 48 = true := by decide +kernel
theorem fd_mok_49 : fd_mok 49 = true := by decide +kernel
theorem fd_mok_50 : fd_mok 50 = true := by decide +kernel
theorem fd_mok_52 : fd_mok 52 = true := by decide +kernel
theorem fd_mok_53 : fd_mok 53 = true := by decide +kernel
theorem fd_mok_55 : fd_mok 55 = true := by decide +kernel
theorem fd_mok_57 : fd_mok 57 = true := by decide +kernel
theorem fd_mok_58 : fd_mok 58 = true := by decide +kernel
theorem fd_mok_59 : fd_mok 59 = true := by decide +kernel
theorem fd_mok_60 : fd_mok 60 = true := by decide +kernel
theorem fd_mok_62 : fd_mok 62 = true := by decide +kernel
theorem fd_mok_63 : fd_mok 63 = true := by decide +kernel
theorem fd_mok_64 : fd_mok 64 = true := by decide +kernel
theorem fd_mok_65 : fd_mok 65 = true := by decide +kernel
theorem fd_mok_66 : fd_mok 66 = true := by decide +kernel
theorem fd_mok_67 : fd_mok 67 = true := by decide +kernel
theorem fd_mok_68 : fd_mok 68 = true := by decide +kernel
theorem fd_mok_70 : fd_mok 70 = true := by decide +kernel
theorem fd_mok_72 : fd_mok 72 = true := by decide +kernel
theorem fd_mok_73 : fd_mok 73 = true := by decide +kernel
theorem fd_mok_74 : fd_mok 74 = true := by decide +kernel
theorem fd_mok_75 : fd_mok 75 = true := by decide +kernel
theorem fd_mok_77 : fd_mok 77 = true := by decide +kernel
theorem fd_mok_78 : fd_mok 78 = true := by decide +kernel
end
section
def kq10_0 : List fd_E := [(0, .aload_n 0, 1, 0, [0]), (1, .iload_n 1, 1, 0, [1]), (2, .invokevirtual 78, 3, 0, [9, 0]), (5, .iload_n 1, 1, 0, [1]), (6, .tableswitch 469 1 52 #[222, 227, 239, 250, 469, 469, 469, 469, 469, 469, 261, 270, 283, 299, 469, 469, 469, 469, 469, 469, 312, 325, 469, 469, 469, 469, 469, 469, 469, 469, 337, 357, 374, 385, 405, 469, 469, 469, 469, 469, 417, 429, 469, 469, 469, 469, 469, 469, 469, 469, 444, 456], 222, 1, [166, 5, 8, 16, 24, 166, 166, 166, 166, 166, 166, 32, 37, 45, 56, 166, 166, 166, 166, 166, 166, 64, 73, 166, 166, 166, 166, 166, 166, 166, 166, 81, 93, 104, 112, 125, 166, 166, 166, 166, 166, 132, 139, 166, 166, 166, 166, 166, 166, 166, 166, 148, 157]), (228, .aload_n 0, 1, 0, [0]), (229, .getfield 26, 3, 0, [0, 4, 0]), (232, .ireturn, 1, 0, []), (233, .aload_n 0, 1, 0, [0]), (234, .iload_n 2, 1, 0, [2]), (235, .iload_n 3, 1, 0, [3]), (236, .iload 4, 2, 0, [4]), (238, .invokevirtual 82, 3, 0, [5, 0]), (241, .bipush 10, 2, 10, []), (243, .iadd, 1, 0, []), (244, .ireturn, 1, 0, []), (245, .iconst 2, 1, 2, []), (246, .aload_n 0, 1, 0, [0]), (247, .iload_n 2, 1, 0, [2]), (248, .iload_n 3, 1, 0, [3]), (249, .iload 4, 2, 0, [4]), (251, .invokevirtual 82, 3, 0, [5, 0]), (254, .imul, 1, 0, []), (255, .ireturn, 1, 0, []), (256, .aload_n 0, 1, 0, [0]), (257, .iload_n 2, 1, 0, [2]), (258, .iload_n 3, 1, 0, [3]), (259, .iload 4, 2, 0, [4]), (261, .invokevirtual 82, 3, 0, [5, 0]), (264, .iconst 5, 1, 5, [])]
theorem fd_ck10_0 : fd_ckC 10 kq10_0 (265, .iadd, 1, 0, []) = true := by decide +kernel
def kq10_1 : List fd_E := [(265, .iadd, 1, 0, []), (266, .ireturn, 1, 0, []), (267, .sipush 1200, 3, 1200, []), (270, .aload_n 0, 1, 0, [0]), (271, .getfield 29, 3, 0, [0, 5, 0]), (274, .iadd, 1, 0, []), (275, .ireturn, 1, 0, []), (276, .aload_n 0, 1, 0, [0]), (277, .iload_n 2, 1, 0, [2]), (278, .iload_n 3, 1, 0, [3]), (279, .iload 4, 2, 0, [4]), (281, .invokevirtual 82, 3, 0, [5, 0]), (284, .sipush 800, 3, 800, []), (287, .iadd, 1, 0, []), (288, .ireturn, 1, 0, []), (289, .aload_n 0, 1, 0, [0]), (290, .iload_n 2, 1, 0, [2]), (291, .iload_n 3, 1, 0, [3]), (292, .iload 4, 2, 0, [4]), (294, .invokevirtual 82, 3, 0, [5, 0]), (297, .aload_n 0, 1, 0, [0]), (298, .getfield 29, 3, 0, [0, 5, 0]), (301, .iconst 4, 1, 4, []), (302, .idiv, 1, 0, []), (303, .iadd, 1, 0, []), (304, .ireturn, 1, 0, []), (305, .aload_n 0, 1, 0, [0]), (306, .iload_n 2, 1, 0, [2]), (307, .iload_n 3, 1, 0, [3]), (308, .iload 4, 2, 0, [4])]
theorem fd_ck10_1 : fd_ckC 10 kq10_1 (310, .invokevirtual 82, 3, 0, [5, 0]) = true := by decide +kernel
def kq10_2 : List fd_E := [(310, .invokevirtual 82, 3, 0, [5, 0]), (313, .sipush 9000, 3, 9000, []), (316, .iadd, 1, 0, []), (317, .ireturn, 1, 0, []), (318, .iconst 1, 1, 1, []), (319, .aload_n 0, 1, 0, [0]), (320, .iconst 0, 1, 0, []), (321, .iload 4, 2, 0, [4]), (323, .invokevirtual 46, 3, 0, [4, 0]), (326, .bipush 50, 2, 50, []), (328, .idiv, 1, 0, []), (329, .iadd, 1, 0, []), (330, .ireturn, 1, 0, []), (331, .aload_n 0, 1, 0, [0]), (332, .iload_n 2, 1, 0, [2]), (333, .iload_n 3, 1, 0, [3]), (334, .iload 4, 2, 0, [4]), (336, .invokevirtual 82, 3, 0, [5, 0]), (339, .bipush 6, 2, 6, []), (341, .iadd, 1, 0, []), (342, .ireturn, 1, 0, []), (343, .sipush 500, 3, 500, []), (346, .aload_n 0, 1, 0, [0]), (347, .iconst 0, 1, 0, []), (348, .iload 4, 2, 0, [4]), (350, .invokevirtual 46, 3, 0, [4, 0]), (353, .bipush 10, 2, 10, []), (355, .aload_n 0, 1, 0, [0]), (356, .getfield 32, 3, 0, [0, 6, 0]), (359, .iadd, 1, 0, [])]
theorem fd_ck10_2 : fd_ckC 10 kq10_2 (360, .imul, 1, 0, []) = true := by decide +kernel
def kq10_3 : List fd_E := [(360, .imul, 1, 0, []), (361, .iadd, 1, 0, []), (362, .ireturn, 1, 0, []), (363, .aload_n 0, 1, 0, [0]), (364, .iload_n 2, 1, 0, [2]), (365, .iload_n 3, 1, 0, [3]), (366, .iload 4, 2, 0, [4]), (368, .invokevirtual 82, 3, 0, [5, 0]), (371, .bipush 20, 2, 20, []), (373, .aload_n 0, 1, 0, [0]), (374, .getfield 32, 3, 0, [0, 6, 0]), (377, .imul, 1, 0, []), (378, .iadd, 1, 0, []), (379, .ireturn, 1, 0, []), (380, .iconst 2, 1, 2, []), (381, .aload_n 0, 1, 0, [0]), (382, .iload_n 2, 1, 0, [2]), (383, .iload_n 3, 1, 0, [3]), (384, .iload 4, 2, 0, [4]), (386, .invokevirtual 82, 3, 0, [5, 0]), (389, .imul, 1, 0, []), (390, .ireturn, 1, 0, []), (391, .aload_n 0, 1, 0, [0]), (392, .iload_n 2, 1, 0, [2]), (393, .iload_n 3, 1, 0, [3]), (394, .iload 4, 2, 0, [4]), (396, .invokevirtual 82, 3, 0, [5, 0]), (399, .aload_n 0, 1, 0, [0]), (400, .iconst 1, 1, 1, []), (401, .iload 4, 2, 0, [4])]
theorem fd_ck10_3 : fd_ckC 10 kq10_3 (403, .invokevirtual 46, 3, 0, [4, 0]) = true := by decide +kernel
def kq10_4 : List fd_E := [(403, .invokevirtual 46, 3, 0, [4, 0]), (406, .bipush 100, 2, 100, []), (408, .idiv, 1, 0, []), (409, .iadd, 1, 0, []), (410, .ireturn, 1, 0, []), (411, .aload_n 0, 1, 0, [0]), (412, .iload_n 2, 1, 0, [2]), (413, .iload_n 3, 1, 0, [3]), (414, .iload 4, 2, 0, [4]), (416, .invokevirtual 82, 3, 0, [5, 0]), (419, .invokestatic 85, 3, 0, [11, 1]), (422, .ireturn, 1, 0, []), (423, .aload_n 0, 1, 0, [0]), (424, .iconst 1, 1, 1, []), (425, .iload 4, 2, 0, [4]), (427, .invokevirtual 46, 3, 0, [4, 0]), (430, .sipush 200, 3, 200, []), (433, .idiv, 1, 0, []), (434, .ireturn, 1, 0, []), (435, .aload_n 0, 1, 0, [0]), (436, .iconst 1, 1, 1, []), (437, .iload 4, 2, 0, [4]), (439, .invokevirtual 46, 3, 0, [4, 0]), (442, .bipush 100, 2, 100, []), (444, .idiv, 1, 0, []), (445, .sipush 300, 3, 300, []), (448, .iadd, 1, 0, []), (449, .ireturn, 1, 0, []), (450, .iconst 1, 1, 1, []), (451, .aload_n 0, 1, 0, [0])]
theorem fd_ck10_4 : fd_ckC 10 kq10_4 (452, .iconst 2, 1, 2, []) = true := by decide +kernel
def kq10_5 : List fd_E := [(452, .iconst 2, 1, 2, []), (453, .iload 4, 2, 0, [4]), (455, .invokevirtual 46, 3, 0, [4, 0]), (458, .iconst 4, 1, 4, []), (459, .idiv, 1, 0, []), (460, .iadd, 1, 0, []), (461, .ireturn, 1, 0, []), (462, .iconst 2, 1, 2, []), (463, .aload_n 0, 1, 0, [0]), (464, .iconst 0, 1, 0, []), (465, .iload 4, 2, 0, [4]), (467, .invokevirtual 46, 3, 0, [4, 0]), (470, .bipush 100, 2, 100, []), (472, .idiv, 1, 0, []), (473, .iadd, 1, 0, []), (474, .ireturn, 1, 0, []), (475, .bipush (-3), 2, -3, []), (477, .ireturn, 1, 0, []), (478, .athrow, 0, 0, [])]
theorem fd_ck10_5 : fd_ckL 10 kq10_5 = true := by decide +kernel
theorem fd_ckL_10 : fd_ckL 10 (fd_code 10) = true := fd_ckL_app kq10_0 _ _ fd_ck10_0 (fd_ckL_app kq10_1 _ _ fd_ck10_1 (fd_ckL_app kq10_2 _ _ fd_ck10_2 (fd_ckL_app kq10_3 _ _ fd_ck10_3 (fd_ckL_app kq10_4 _ _ fd_ck10_4 (fd_ck10_5)))))
theorem fd_mok_10 : fd_mok 10 = true := by
  unfold fd_mok
  rw [fd_ckL_10]
  decide +kernel
def kq51_0 : List fd_E := [(0, .iload_n 1, 1, 0, [1]), (1, .iconst 0, 1, 0, []), (2, .bipush 6, 2, 6, []), (4, .invokestatic 44, 3, 0, [48, 1]), (7, .ifCond .eq 25, 3, 0, [15]), (10, .iload_n 2, 1, 0, [2]), (11, .bipush 10, 2, 10, []), (13, .sipush 200, 3, 200, []), (16, .invokestatic 44, 3, 0, [48, 1]), (19, .ifCond .eq 13, 3, 0, [15]), (22, .iload_n 3, 1, 0, [3]), (23, .iconst 0, 1, 0, []), (24, .ldc 48, 2, 40000, []), (26, .invokestatic 44, 3, 0, [48, 1]), (29, .ifCond .ne 6, 3, 0, [17]), (32, .bipush (-2), 2, -2, []), (34, .ireturn, 1, 0, []), (35, .aload_n 0, 1, 0, [0]), (36, .getfield 40, 3, 0, [4, 0, 0]), (39, .bipush 60, 2, 60, []), (41, .if_icmp .ne 6, 3, 0, [23]), (44, .bipush (-4), 2, -4, []), (46, .ireturn, 1, 0, []), (47, .aload_n 0, 1, 0, [0]), (48, .getfield 7, 3, 0, [4, 1, 1]), (51, .aload_n 0, 1, 0, [0]), (52, .getfield 40, 3, 0, [4, 0, 0]), (55, .iload_n 1, 1, 0, [1]), (56, .iastore, 1, 0, []), (57, .aload_n 0, 1, 0, [0])]
theorem fd_ck51_0 : fd_ckC 51 kq51_0 (58, .getfield 13, 3, 0, [4, 2, 1]) = true := by decide +kernel
def kq51_1 : List fd_E := [(58, .getfield 13, 3, 0, [4, 2, 1]), (61, .aload_n 0, 1, 0, [0]), (62, .getfield 40, 3, 0, [4, 0, 0]), (65, .iload_n 2, 1, 0, [2]), (66, .iastore, 1, 0, []), (67, .aload_n 0, 1, 0, [0]), (68, .getfield 16, 3, 0, [4, 3, 1]), (71, .aload_n 0, 1, 0, [0]), (72, .getfield 40, 3, 0, [4, 0, 0]), (75, .iload_n 3, 1, 0, [3]), (76, .iastore, 1, 0, []), (77, .aload_n 0, 1, 0, [0]), (78, .getfield 19, 3, 0, [4, 4, 1]), (81, .aload_n 0, 1, 0, [0]), (82, .getfield 40, 3, 0, [4, 0, 0]), (85, .iconst 0, 1, 0, []), (86, .iastore, 1, 0, []), (87, .aload_n 0, 1, 0, [0]), (88, .getfield 22, 3, 0, [4, 5, 1]), (91, .aload_n 0, 1, 0, [0]), (92, .getfield 40, 3, 0, [4, 0, 0]), (95, .iconst 0, 1, 0, []), (96, .iastore, 1, 0, []), (97, .aload_n 0, 1, 0, [0]), (98, .dup, 1, 0, []), (99, .getfield 40, 3, 0, [4, 0, 0]), (102, .iconst 1, 1, 1, []), (103, .iadd, 1, 0, []), (104, .putfield 40, 3, 0, [4, 0, 0, 0]), (107, .aload_n 0, 1, 0, [0])]
theorem fd_ck51_1 : fd_ckC 51 kq51_1 (108, .getfield 40, 3, 0, [4, 0, 0]) = true := by decide +kernel
def kq51_2 : List fd_E := [(108, .getfield 40, 3, 0, [4, 0, 0]), (111, .iconst 1, 1, 1, []), (112, .isub, 1, 0, []), (113, .ireturn, 1, 0, []), (114, .athrow, 0, 0, [])]
theorem fd_ck51_2 : fd_ckL 51 kq51_2 = true := by decide +kernel
theorem fd_ckL_51 : fd_ckL 51 (fd_code 51) = true := fd_ckL_app kq51_0 _ _ fd_ck51_0 (fd_ckL_app kq51_1 _ _ fd_ck51_1 (fd_ck51_2))
theorem fd_mok_51 : fd_mok 51 = true := by
  unfold fd_mok
  rw [fd_ckL_51]
  decide +kernel
def kq54_0 : List fd_E := [(0, .aload_n 0, 1, 0, [0]), (1, .getfield 7, 3, 0, [4, 1, 1]), (4, .iload_n 1, 1, 0, [1]), (5, .iaload, 1, 0, []), (6, .istore_n 2, 1, 0, [2]), (7, .iload_n 2, 1, 0, [2]), (8, .iconst 3, 1, 3, []), (9, .iconst 4, 1, 4, []), (10, .invokestatic 44, 3, 0, [48, 1]), (13, .ifCond .eq 9, 3, 0, [13]), (16, .aload_n 0, 1, 0, [0]), (17, .bipush 13, 2, 13, []), (19, .invokevirtual 52, 3, 0, [52, 0]), (22, .iload_n 2, 1, 0, [2]), (23, .iconst 1, 1, 1, []), (24, .iconst 4, 1, 4, []), (25, .invokestatic 44, 3, 0, [48, 1]), (28, .ifCond .eq 9, 3, 0, [21]), (31, .aload_n 0, 1, 0, [0]), (32, .bipush 12, 2, 12, []), (34, .invokevirtual 52, 3, 0, [52, 0]), (37, .iload_n 2, 1, 0, [2]), (38, .bipush 6, 2, 6, []), (40, .if_icmp .ne 9, 3, 0, [27]), (43, .aload_n 0, 1, 0, [0]), (44, .bipush 14, 2, 14, []), (46, .invokevirtual 52, 3, 0, [52, 0]), (49, .aload_n 0, 1, 0, [0]), (50, .bipush 11, 2, 11, []), (52, .invokevirtual 52, 3, 0, [52, 0])]
theorem fd_ck54_0 : fd_ckC 54 kq54_0 (55, .sipush 1200, 3, 1200, []) = true := by decide +kernel
def kq54_1 : List fd_E := [(55, .sipush 1200, 3, 1200, []), (58, .aload_n 0, 1, 0, [0]), (59, .getfield 16, 3, 0, [4, 3, 1]), (62, .iload_n 1, 1, 0, [1]), (63, .iaload, 1, 0, []), (64, .iadd, 1, 0, []), (65, .iload_n 2, 1, 0, [2]), (66, .iconst 1, 1, 1, []), (67, .iconst 4, 1, 4, []), (68, .invokestatic 44, 3, 0, [48, 1]), (71, .ifCond .eq 9, 3, 0, [43]), (74, .sipush 800, 3, 800, []), (77, .goto 4, 3, 0, [44]), (80, .iconst 0, 1, 0, []), (81, .iadd, 1, 0, []), (82, .iload_n 2, 1, 0, [2]), (83, .iconst 3, 1, 3, []), (84, .iconst 4, 1, 4, []), (85, .invokestatic 44, 3, 0, [48, 1]), (88, .ifCond .eq 14, 3, 0, [57]), (91, .aload_n 0, 1, 0, [0]), (92, .getfield 16, 3, 0, [4, 3, 1]), (95, .iload_n 1, 1, 0, [1]), (96, .iaload, 1, 0, []), (97, .iconst 4, 1, 4, []), (98, .idiv, 1, 0, []), (99, .goto 4, 3, 0, [58]), (102, .iconst 0, 1, 0, []), (103, .iadd, 1, 0, []), (104, .iload_n 2, 1, 0, [2])]
theorem fd_ck54_1 : fd_ckC 54 kq54_1 (105, .bipush 6, 2, 6, []) = true := by decide +kernel
def kq54_2 : List fd_E := [(105, .bipush 6, 2, 6, []), (107, .if_icmp .ne 9, 3, 0, [64]), (110, .sipush 9000, 3, 9000, []), (113, .goto 4, 3, 0, [65]), (116, .iconst 0, 1, 0, []), (117, .iadd, 1, 0, []), (118, .ireturn, 1, 0, []), (119, .athrow, 0, 0, [])]
theorem fd_ck54_2 : fd_ckL 54 kq54_2 = true := by decide +kernel
theorem fd_ckL_54 : fd_ckL 54 (fd_code 54) = true := fd_ckL_app kq54_0 _ _ fd_ck54_0 (fd_ckL_app kq54_1 _ _ fd_ck54_1 (fd_ck54_2))
theorem fd_mok_54 : fd_mok 54 = true := by
  unfold fd_mok
  rw [fd_ckL_54]
  decide +kernel
def kq56_0 : List fd_E := [(0, .aload_n 0, 1, 0, [0]), (1, .getfield 7, 3, 0, [4, 1, 1]), (4, .iload_n 1, 1, 0, [1]), (5, .iaload, 1, 0, []), (6, .istore_n 3, 1, 0, [3]), (7, .iload_n 3, 1, 0, [3]), (8, .iconst 4, 1, 4, []), (9, .if_icmp .ne 9, 3, 0, [11]), (12, .aload_n 0, 1, 0, [0]), (13, .bipush 34, 2, 34, []), (15, .invokevirtual 52, 3, 0, [52, 0]), (18, .iload_n 3, 1, 0, [3]), (19, .iconst 3, 1, 3, []), (20, .iconst 4, 1, 4, []), (21, .invokestatic 44, 3, 0, [48, 1]), (24, .ifCond .eq 9, 3, 0, [19]), (27, .aload_n 0, 1, 0, [0]), (28, .bipush 33, 2, 33, []), (30, .invokevirtual 52, 3, 0, [52, 0]), (33, .iload_n 3, 1, 0, [3]), (34, .iconst 1, 1, 1, []), (35, .iconst 4, 1, 4, []), (36, .invokestatic 44, 3, 0, [48, 1]), (39, .ifCond .eq 9, 3, 0, [27]), (42, .aload_n 0, 1, 0, [0]), (43, .bipush 32, 2, 32, []), (45, .invokevirtual 52, 3, 0, [52, 0]), (48, .iload_n 3, 1, 0, [3]), (49, .bipush 6, 2, 6, []), (51, .if_icmp .ne 9, 3, 0, [33])]
theorem fd_ck56_0 : fd_ckC 56 kq56_0 (54, .aload_n 0, 1, 0, [0]) = true := by decide +kernel
def kq56_1 : List fd_E := [(54, .aload_n 0, 1, 0, [0]), (55, .bipush 35, 2, 35, []), (57, .invokevirtual 52, 3, 0, [52, 0]), (60, .aload_n 0, 1, 0, [0]), (61, .bipush 31, 2, 31, []), (63, .invokevirtual 52, 3, 0, [52, 0]), (66, .sipush 500, 3, 500, []), (69, .aload_n 0, 1, 0, [0]), (70, .iload_n 1, 1, 0, [1]), (71, .invokevirtual 56, 3, 0, [53, 0]), (74, .bipush 10, 2, 10, []), (76, .iload_n 2, 1, 0, [2]), (77, .iadd, 1, 0, []), (78, .imul, 1, 0, []), (79, .iadd, 1, 0, []), (80, .istore 4, 2, 0, [4]), (82, .iload_n 3, 1, 0, [3]), (83, .iconst 1, 1, 1, []), (84, .iconst 4, 1, 4, []), (85, .invokestatic 44, 3, 0, [48, 1]), (88, .ifCond .eq 12, 3, 0, [57]), (91, .iload 4, 2, 0, [4]), (93, .bipush 20, 2, 20, []), (95, .iload_n 2, 1, 0, [2]), (96, .imul, 1, 0, []), (97, .iadd, 1, 0, []), (98, .istore 4, 2, 0, [4]), (100, .iload_n 3, 1, 0, [3]), (101, .iconst 3, 1, 3, []), (102, .iconst 4, 1, 4, [])]
theorem fd_ck56_1 : fd_ckC 56 kq56_1 (103, .invokestatic 44, 3, 0, [48, 1]) = true := by decide +kernel
def kq56_2 : List fd_E := [(103, .invokestatic 44, 3, 0, [48, 1]), (106, .ifCond .eq 9, 3, 0, [66]), (109, .iconst 2, 1, 2, []), (110, .iload 4, 2, 0, [4]), (112, .imul, 1, 0, []), (113, .istore 4, 2, 0, [4]), (115, .iload_n 3, 1, 0, [3]), (116, .bipush 6, 2, 6, []), (118, .if_icmp .ne 13, 3, 0, [75]), (121, .iload 4, 2, 0, [4]), (123, .iload 4, 2, 0, [4]), (125, .bipush 10, 2, 10, []), (127, .idiv, 1, 0, []), (128, .isub, 1, 0, []), (129, .istore 4, 2, 0, [4]), (131, .iload_n 3, 1, 0, [3]), (132, .iconst 4, 1, 4, []), (133, .if_icmp .ne 16, 3, 0, [86]), (136, .iload 4, 2, 0, [4]), (138, .aload_n 0, 1, 0, [0]), (139, .iload_n 1, 1, 0, [1]), (140, .invokevirtual 60, 3, 0, [54, 0]), (143, .bipush 100, 2, 100, []), (145, .idiv, 1, 0, []), (146, .iadd, 1, 0, []), (147, .istore 4, 2, 0, [4]), (149, .iload 4, 2, 0, [4]), (151, .ireturn, 1, 0, []), (152, .athrow, 0, 0, [])]
theorem fd_ck56_2 : fd_ckL 56 kq56_2 = true := by decide +kernel
theorem fd_ckL_56 : fd_ckL 56 (fd_code 56) = true := fd_ckL_app kq56_0 _ _ fd_ck56_0 (fd_ckL_app kq56_1 _ _ fd_ck56_1 (fd_ck56_2))
theorem fd_mok_56 : fd_mok 56 = true := by
  unfold fd_mok
  rw [fd_ckL_56]
  decide +kernel
end
section
def kq61_0 : List fd_E := [(0, .aload_n 0, 1, 0, [0]), (1, .iload_n 1, 1, 0, [1]), (2, .invokevirtual 66, 3, 0, [49, 0]), (5, .ifCond .eq 26, 3, 0, [17]), (8, .iload_n 2, 1, 0, [2]), (9, .iconst 0, 1, 0, []), (10, .iconst 5, 1, 5, []), (11, .invokestatic 44, 3, 0, [48, 1]), (14, .ifCond .eq 17, 3, 0, [17]), (17, .iload_n 2, 1, 0, [2]), (18, .iconst 3, 1, 3, []), (19, .if_icmp .ne 15, 3, 0, [19]), (22, .iload_n 3, 1, 0, [3]), (23, .iconst 0, 1, 0, []), (24, .iconst 3, 1, 3, []), (25, .invokestatic 44, 3, 0, [48, 1]), (28, .ifCond .ne 6, 3, 0, [19]), (31, .bipush (-2), 2, -2, []), (33, .ireturn, 1, 0, []), (34, .aload_n 0, 1, 0, [0]), (35, .iconst 0, 1, 0, []), (36, .putfield 49, 3, 0, [4, 14, 0, 0]), (39, .iload_n 2, 1, 0, [2]), (40, .tableswitch 84 0 4 #[36, 42, 48, 54, 61], 36, 0, [53, 24, 28, 32, 36, 41]), (76, .aload_n 0, 1, 0, [0]), (77, .iload_n 1, 1, 0, [1]), (78, .invokevirtual 56, 3, 0, [53, 0]), (81, .ireturn, 1, 0, []), (82, .aload_n 0, 1, 0, [0]), (83, .iload_n 1, 1, 0, [1])]
theorem fd_ck61_0 : fd_ckC 61 kq61_0 (84, .invokevirtual 60, 3, 0, [54, 0]) = true := by decide +kernel
def kq61_1 : List fd_E := [(84, .invokevirtual 60, 3, 0, [54, 0]), (87, .ireturn, 1, 0, []), (88, .aload_n 0, 1, 0, [0]), (89, .iload_n 1, 1, 0, [1]), (90, .invokevirtual 63, 3, 0, [55, 0]), (93, .ireturn, 1, 0, []), (94, .aload_n 0, 1, 0, [0]), (95, .iload_n 1, 1, 0, [1]), (96, .iload_n 3, 1, 0, [3]), (97, .invokevirtual 70, 3, 0, [56, 0]), (100, .ireturn, 1, 0, []), (101, .aload_n 0, 1, 0, [0]), (102, .getfield 7, 3, 0, [4, 1, 1]), (105, .iload_n 1, 1, 0, [1]), (106, .iaload, 1, 0, []), (107, .invokestatic 74, 3, 0, [57, 1]), (110, .ifCond .eq 11, 3, 0, [51]), (113, .aload_n 0, 1, 0, [0]), (114, .iload_n 1, 1, 0, [1]), (115, .invokevirtual 77, 3, 0, [59, 0]), (118, .goto 5, 3, 0, [52]), (121, .bipush (-3), 2, -3, []), (123, .ireturn, 1, 0, []), (124, .aload_n 0, 1, 0, [0]), (125, .getfield 7, 3, 0, [4, 1, 1]), (128, .iload_n 1, 1, 0, [1]), (129, .iaload, 1, 0, []), (130, .invokestatic 80, 3, 0, [58, 1]), (133, .ifCond .eq 11, 3, 0, [63]), (136, .aload_n 0, 1, 0, [0])]
theorem fd_ck61_1 : fd_ckC 61 kq61_1 (137, .iload_n 1, 1, 0, [1]) = true := by decide +kernel
def kq61_2 : List fd_E := [(137, .iload_n 1, 1, 0, [1]), (138, .invokevirtual 83, 3, 0, [60, 0]), (141, .goto 5, 3, 0, [64]), (144, .bipush (-3), 2, -3, []), (146, .ireturn, 1, 0, []), (147, .athrow, 0, 0, [])]
theorem fd_ck61_2 : fd_ckL 61 kq61_2 = true := by decide +kernel
theorem fd_ckL_61 : fd_ckL 61 (fd_code 61) = true := fd_ckL_app kq61_0 _ _ fd_ck61_0 (fd_ckL_app kq61_1 _ _ fd_ck61_1 (fd_ck61_2))
theorem fd_mok_61 : fd_mok 61 = true := by
  unfold fd_mok
  rw [fd_ckL_61]
  decide +kernel
def kq69_0 : List fd_E := [(0, .aload_n 0, 1, 0, [0]), (1, .iload_n 1, 1, 0, [1]), (2, .invokevirtual 66, 3, 0, [49, 0]), (5, .ifCond .eq 10, 3, 0, [7]), (8, .iload_n 2, 1, 0, [2]), (9, .invokestatic 86, 3, 0, [50, 1]), (12, .ifCond .ne 6, 3, 0, [9]), (15, .bipush (-2), 2, -2, []), (17, .ireturn, 1, 0, []), (18, .aload_n 0, 1, 0, [0]), (19, .getfield 19, 3, 0, [4, 4, 1]), (22, .iload_n 1, 1, 0, [1]), (23, .iaload, 1, 0, []), (24, .ifCond .eq 6, 3, 0, [16]), (27, .bipush (-3), 2, -3, []), (29, .ireturn, 1, 0, []), (30, .aload_n 0, 1, 0, [0]), (31, .iload_n 1, 1, 0, [1]), (32, .iconst 0, 1, 0, []), (33, .iconst 0, 1, 0, []), (34, .invokevirtual 93, 3, 0, [63, 0]), (37, .iconst 5, 1, 5, []), (38, .iadd, 1, 0, []), (39, .aload_n 0, 1, 0, [0]), (40, .iload_n 2, 1, 0, [2]), (41, .invokevirtual 97, 3, 0, [66, 0]), (44, .if_icmp .gt 25, 3, 0, [41]), (47, .aload_n 0, 1, 0, [0]), (48, .iload_n 1, 1, 0, [1]), (49, .iconst 1, 1, 1, [])]
theorem fd_ck69_0 : fd_ckC 69 kq69_0 (50, .iconst 0, 1, 0, []) = true := by decide +kernel
def kq69_1 : List fd_E := [(50, .iconst 0, 1, 0, []), (51, .invokevirtual 93, 3, 0, [63, 0]), (54, .aload_n 0, 1, 0, [0]), (55, .getfield 28, 3, 0, [4, 7, 1]), (58, .iload_n 2, 1, 0, [2]), (59, .iaload, 1, 0, []), (60, .aload_n 0, 1, 0, [0]), (61, .iload_n 2, 1, 0, [2]), (62, .invokevirtual 100, 3, 0, [67, 0]), (65, .isub, 1, 0, []), (66, .if_icmp .le 6, 3, 0, [43]), (69, .bipush (-4), 2, -4, []), (71, .ireturn, 1, 0, []), (72, .aload_n 0, 1, 0, [0]), (73, .getfield 31, 3, 0, [4, 8, 1]), (76, .iload_n 2, 1, 0, [2]), (77, .iaload, 1, 0, []), (78, .ifCond .le 68, 3, 0, [89]), (81, .aload_n 0, 1, 0, [0]), (82, .getfield 7, 3, 0, [4, 1, 1]), (85, .iload_n 1, 1, 0, [1]), (86, .iaload, 1, 0, []), (87, .invokestatic 80, 3, 0, [58, 1]), (90, .ifCond .eq 56, 3, 0, [89]), (93, .aload_n 0, 1, 0, [0]), (94, .getfield 34, 3, 0, [4, 9, 1]), (97, .bipush 60, 2, 60, []), (99, .iload_n 2, 1, 0, [2]), (100, .imul, 1, 0, []), (101, .aload_n 0, 1, 0, [0])]
theorem fd_ck69_1 : fd_ckC 69 kq69_1 (102, .getfield 31, 3, 0, [4, 8, 1]) = true := by decide +kernel
def kq69_2 : List fd_E := [(102, .getfield 31, 3, 0, [4, 8, 1]), (105, .iload_n 2, 1, 0, [2]), (106, .iaload, 1, 0, []), (107, .iadd, 1, 0, []), (108, .iconst 1, 1, 1, []), (109, .isub, 1, 0, []), (110, .iaload, 1, 0, []), (111, .istore_n 3, 1, 0, [3]), (112, .aload_n 0, 1, 0, [0]), (113, .getfield 7, 3, 0, [4, 1, 1]), (116, .iload_n 3, 1, 0, [3]), (117, .iaload, 1, 0, []), (118, .invokestatic 80, 3, 0, [58, 1]), (121, .ifCond .eq 25, 3, 0, [89]), (124, .aload_n 0, 1, 0, [0]), (125, .iload_n 3, 1, 0, [3]), (126, .iconst 5, 1, 5, []), (127, .iconst 0, 1, 0, []), (128, .invokevirtual 93, 3, 0, [63, 0]), (131, .aload_n 0, 1, 0, [0]), (132, .iload_n 1, 1, 0, [1]), (133, .iconst 5, 1, 5, []), (134, .iconst 0, 1, 0, []), (135, .invokevirtual 93, 3, 0, [63, 0]), (138, .iadd, 1, 0, []), (139, .iconst 5, 1, 5, []), (140, .if_icmp .le 6, 3, 0, [89]), (143, .bipush (-5), 2, -5, []), (145, .ireturn, 1, 0, []), (146, .aload_n 0, 1, 0, [0])]
theorem fd_ck69_2 : fd_ckC 69 kq69_2 (147, .getfield 34, 3, 0, [4, 9, 1]) = true := by decide +kernel
def kq69_3 : List fd_E := [(147, .getfield 34, 3, 0, [4, 9, 1]), (150, .bipush 60, 2, 60, []), (152, .iload_n 2, 1, 0, [2]), (153, .imul, 1, 0, []), (154, .aload_n 0, 1, 0, [0]), (155, .getfield 31, 3, 0, [4, 8, 1]), (158, .iload_n 2, 1, 0, [2]), (159, .iaload, 1, 0, []), (160, .iadd, 1, 0, []), (161, .iload_n 1, 1, 0, [1]), (162, .iastore, 1, 0, []), (163, .aload_n 0, 1, 0, [0]), (164, .getfield 31, 3, 0, [4, 8, 1]), (167, .iload_n 2, 1, 0, [2]), (168, .dup2, 1, 0, []), (169, .iaload, 1, 0, []), (170, .iconst 1, 1, 1, []), (171, .iadd, 1, 0, []), (172, .iastore, 1, 0, []), (173, .aload_n 0, 1, 0, [0]), (174, .getfield 19, 3, 0, [4, 4, 1]), (177, .iload_n 1, 1, 0, [1]), (178, .iconst 1, 1, 1, []), (179, .iastore, 1, 0, []), (180, .aload_n 0, 1, 0, [0]), (181, .getfield 22, 3, 0, [4, 5, 1]), (184, .iload_n 1, 1, 0, [1]), (185, .aload_n 0, 1, 0, [0]), (186, .iload_n 1, 1, 0, [1]), (187, .iconst 3, 1, 3, [])]
theorem fd_ck69_3 : fd_ckC 69 kq69_3 (188, .aload_n 0, 1, 0, [0]) = true := by decide +kernel
def kq69_4 : List fd_E := [(188, .aload_n 0, 1, 0, [0]), (189, .getfield 90, 3, 0, [4, 10, 0]), (192, .invokevirtual 93, 3, 0, [63, 0]), (195, .aload_n 0, 1, 0, [0]), (196, .iload_n 1, 1, 0, [1]), (197, .iconst 4, 1, 4, []), (198, .iconst 0, 1, 0, []), (199, .invokevirtual 93, 3, 0, [63, 0]), (202, .iadd, 1, 0, []), (203, .iastore, 1, 0, []), (204, .aload_n 0, 1, 0, [0]), (205, .dup, 1, 0, []), (206, .getfield 103, 3, 0, [4, 12, 2]), (209, .aload_n 0, 1, 0, [0]), (210, .getfield 22, 3, 0, [4, 5, 1]), (213, .iload_n 1, 1, 0, [1]), (214, .iaload, 1, 0, []), (215, .i2l, 1, 0, []), (216, .ladd, 1, 0, []), (217, .putfield 103, 3, 0, [4, 12, 2, 0]), (220, .aload_n 0, 1, 0, [0]), (221, .getfield 22, 3, 0, [4, 5, 1]), (224, .iload_n 1, 1, 0, [1]), (225, .iaload, 1, 0, []), (226, .ireturn, 1, 0, []), (227, .athrow, 0, 0, [])]
theorem fd_ck69_4 : fd_ckL 69 kq69_4 = true := by decide +kernel
theorem fd_ckL_69 : fd_ckL 69 (fd_code 69) = true := fd_ckL_app kq69_0 _ _ fd_ck69_0 (fd_ckL_app kq69_1 _ _ fd_ck69_1 (fd_ckL_app kq69_2 _ _ fd_ck69_2 (fd_ckL_app kq69_3 _ _ fd_ck69_3 (fd_ck69_4))))
theorem fd_mok_69 : fd_mok 69 = true := by
  unfold fd_mok
  rw [fd_ckL_69]
  decide +kernel
def kq71_0 : List fd_E := [(0, .aload_n 0, 1, 0, [0]), (1, .getfield 31, 3, 0, [4, 8, 1]), (4, .iconst 0, 1, 0, []), (5, .iaload, 1, 0, []), (6, .aload_n 0, 1, 0, [0]), (7, .getfield 31, 3, 0, [4, 8, 1]), (10, .iconst 1, 1, 1, []), (11, .iaload, 1, 0, []), (12, .iadd, 1, 0, []), (13, .aload_n 0, 1, 0, [0]), (14, .getfield 31, 3, 0, [4, 8, 1]), (17, .iconst 2, 1, 2, []), (18, .iaload, 1, 0, []), (19, .iadd, 1, 0, []), (20, .aload_n 0, 1, 0, [0]), (21, .getfield 31, 3, 0, [4, 8, 1]), (24, .iconst 3, 1, 3, []), (25, .iaload, 1, 0, []), (26, .iadd, 1, 0, []), (27, .istore_n 1, 1, 0, [1]), (28, .aload_n 0, 1, 0, [0]), (29, .iconst 0, 1, 0, []), (30, .invokevirtual 100, 3, 0, [67, 0]), (33, .aload_n 0, 1, 0, [0]), (34, .iconst 1, 1, 1, []), (35, .invokevirtual 100, 3, 0, [67, 0]), (38, .iadd, 1, 0, []), (39, .aload_n 0, 1, 0, [0]), (40, .iconst 2, 1, 2, []), (41, .invokevirtual 100, 3, 0, [67, 0])]
theorem fd_ck71_0 : fd_ckC 71 kq71_0 (44, .isub, 1, 0, []) = true := by decide +kernel
def kq71_1 : List fd_E := [(44, .isub, 1, 0, []), (45, .aload_n 0, 1, 0, [0]), (46, .iconst 3, 1, 3, []), (47, .invokevirtual 100, 3, 0, [67, 0]), (50, .isub, 1, 0, []), (51, .istore_n 2, 1, 0, [2]), (52, .iload_n 1, 1, 0, [1]), (53, .ifCond .eq 17, 3, 0, [44]), (56, .iload_n 2, 1, 0, [2]), (57, .sipush 30000, 3, 30000, []), (60, .if_icmp .gt 10, 3, 0, [44]), (63, .iload_n 2, 1, 0, [2]), (64, .sipush (-30000), 3, -30000, []), (67, .if_icmp .ge 6, 3, 0, [46]), (70, .bipush (-3), 2, -3, []), (72, .ireturn, 1, 0, []), (73, .iconst 0, 1, 0, []), (74, .istore_n 3, 1, 0, [3]), (75, .iconst 0, 1, 0, []), (76, .istore 4, 2, 0, [4]), (78, .iload 4, 2, 0, [4]), (80, .iconst 4, 1, 4, []), (81, .if_icmp .ge 78, 3, 0, [93]), (84, .aload_n 0, 1, 0, [0]), (85, .iload 4, 2, 0, [4]), (87, .invokevirtual 107, 3, 0, [68, 0]), (90, .istore 5, 2, 0, [5]), (92, .iload 5, 2, 0, [5]), (94, .iload_n 3, 1, 0, [3]), (95, .if_icmp .le 8, 3, 0, [62])]
theorem fd_ck71_1 : fd_ckC 71 kq71_1 (98, .iload 5, 2, 0, [5]) = true := by decide +kernel
def kq71_2 : List fd_E := [(98, .iload 5, 2, 0, [5]), (100, .goto 4, 3, 0, [63]), (103, .iload_n 3, 1, 0, [3]), (104, .istore_n 3, 1, 0, [3]), (105, .iconst 0, 1, 0, []), (106, .istore 6, 2, 0, [6]), (108, .iload 6, 2, 0, [6]), (110, .aload_n 0, 1, 0, [0]), (111, .getfield 31, 3, 0, [4, 8, 1]), (114, .iload 4, 2, 0, [4]), (116, .iaload, 1, 0, []), (117, .if_icmp .ge 28, 3, 0, [86]), (120, .aload_n 0, 1, 0, [0]), (121, .getfield 19, 3, 0, [4, 4, 1]), (124, .aload_n 0, 1, 0, [0]), (125, .getfield 34, 3, 0, [4, 9, 1]), (128, .bipush 60, 2, 60, []), (130, .iload 4, 2, 0, [4]), (132, .imul, 1, 0, []), (133, .iload 6, 2, 0, [6]), (135, .iadd, 1, 0, []), (136, .iaload, 1, 0, []), (137, .iconst 2, 1, 2, []), (138, .iastore, 1, 0, []), (139, .iinc 6 1, 3, 1, [6]), (142, .goto (-34), 3, 0, [66]), (145, .aload_n 0, 1, 0, [0]), (146, .getfield 31, 3, 0, [4, 8, 1]), (149, .iload 4, 2, 0, [4]), (151, .iconst 0, 1, 0, [])]
theorem fd_ck71_2 : fd_ckC 71 kq71_2 (152, .iastore, 1, 0, []) = true := by decide +kernel
def kq71_3 : List fd_E := [(152, .iastore, 1, 0, []), (153, .iinc 4 1, 3, 1, [4]), (156, .goto (-78), 3, 0, [50]), (159, .aload_n 0, 1, 0, [0]), (160, .dup, 1, 0, []), (161, .getfield 110, 3, 0, [4, 11, 0]), (164, .iconst 1, 1, 1, []), (165, .iadd, 1, 0, []), (166, .putfield 110, 3, 0, [4, 11, 0, 0]), (169, .iload_n 3, 1, 0, [3]), (170, .bipush 30, 2, 30, []), (172, .iadd, 1, 0, []), (173, .ireturn, 1, 0, []), (174, .athrow, 0, 0, [])]
theorem fd_ck71_3 : fd_ckL 71 kq71_3 = true := by decide +kernel
theorem fd_ckL_71 : fd_ckL 71 (fd_code 71) = true := fd_ckL_app kq71_0 _ _ fd_ck71_0 (fd_ckL_app kq71_1 _ _ fd_ck71_1 (fd_ckL_app kq71_2 _ _ fd_ck71_2 (fd_ck71_3)))
theorem fd_mok_71 : fd_mok 71 = true := by
  unfold fd_mok
  rw [fd_ckL_71]
  decide +kernel
def kq76_0 : List fd_E := [(0, .iload_n 1, 1, 0, [1]), (1, .invokestatic 86, 3, 0, [50, 1]), (4, .ifCond .eq 12, 3, 0, [8]), (7, .iload_n 2, 1, 0, [2]), (8, .iconst 0, 1, 0, []), (9, .iconst 5, 1, 5, []), (10, .invokestatic 44, 3, 0, [48, 1]), (13, .ifCond .ne 6, 3, 0, [10]), (16, .bipush (-2), 2, -2, []), (18, .ireturn, 1, 0, []), (19, .iload_n 2, 1, 0, [2]), (20, .tableswitch 91 0 4 #[36, 42, 55, 62, 68], 36, 0, [48, 12, 16, 25, 30, 34]), (56, .aload_n 0, 1, 0, [0]), (57, .iload_n 1, 1, 0, [1]), (58, .invokevirtual 97, 3, 0, [66, 0]), (61, .ireturn, 1, 0, []), (62, .aload_n 0, 1, 0, [0]), (63, .getfield 28, 3, 0, [4, 7, 1]), (66, .iload_n 1, 1, 0, [1]), (67, .iaload, 1, 0, []), (68, .aload_n 0, 1, 0, [0]), (69, .iload_n 1, 1, 0, [1]), (70, .invokevirtual 100, 3, 0, [67, 0]), (73, .isub, 1, 0, []), (74, .ireturn, 1, 0, []), (75, .aload_n 0, 1, 0, [0]), (76, .getfield 31, 3, 0, [4, 8, 1]), (79, .iload_n 1, 1, 0, [1]), (80, .iaload, 1, 0, []), (81, .ireturn, 1, 0, [])]
theorem fd_ck76_0 : fd_ckC 76 kq76_0 (82, .aload_n 0, 1, 0, [0]) = true := by decide +kernel
def kq76_1 : List fd_E := [(82, .aload_n 0, 1, 0, [0]), (83, .iload_n 1, 1, 0, [1]), (84, .invokevirtual 107, 3, 0, [68, 0]), (87, .ireturn, 1, 0, []), (88, .aload_n 0, 1, 0, [0]), (89, .getfield 31, 3, 0, [4, 8, 1]), (92, .iload_n 1, 1, 0, [1]), (93, .iaload, 1, 0, []), (94, .ifCond .ne 7, 3, 0, [41]), (97, .iconst (-1), 1, -1, []), (98, .goto 12, 3, 0, [47]), (101, .aload_n 0, 1, 0, [0]), (102, .getfield 34, 3, 0, [4, 9, 1]), (105, .bipush 60, 2, 60, []), (107, .iload_n 1, 1, 0, [1]), (108, .imul, 1, 0, []), (109, .iaload, 1, 0, []), (110, .ireturn, 1, 0, []), (111, .aload_n 0, 1, 0, [0]), (112, .getfield 31, 3, 0, [4, 8, 1]), (115, .iload_n 1, 1, 0, [1]), (116, .iaload, 1, 0, []), (117, .ifCond .ne 7, 3, 0, [55]), (120, .iconst (-1), 1, -1, []), (121, .goto 21, 3, 0, [68]), (124, .aload_n 0, 1, 0, [0]), (125, .getfield 34, 3, 0, [4, 9, 1]), (128, .bipush 60, 2, 60, []), (130, .iload_n 1, 1, 0, [1]), (131, .imul, 1, 0, [])]
theorem fd_ck76_1 : fd_ckC 76 kq76_1 (132, .aload_n 0, 1, 0, [0]) = true := by decide +kernel
def kq76_2 : List fd_E := [(132, .aload_n 0, 1, 0, [0]), (133, .getfield 31, 3, 0, [4, 8, 1]), (136, .iload_n 1, 1, 0, [1]), (137, .iaload, 1, 0, []), (138, .iadd, 1, 0, []), (139, .iconst 1, 1, 1, []), (140, .isub, 1, 0, []), (141, .iaload, 1, 0, []), (142, .ireturn, 1, 0, []), (143, .athrow, 0, 0, [])]
theorem fd_ck76_2 : fd_ckL 76 kq76_2 = true := by decide +kernel
theorem fd_ckL_76 : fd_ckL 76 (fd_code 76) = true := fd_ckL_app kq76_0 _ _ fd_ck76_0 (fd_ckL_app kq76_1 _ _ fd_ck76_1 (fd_ck76_2))
theorem fd_mok_76 : fd_mok 76 = true := by
  unfold fd_mok
  rw [fd_ckL_76]
  decide +kernel
end
section
def kq79_0 : List fd_E := [(0, .new 7, 3, 0, [3]), (3, .dup, 1, 0, []), (4, .invokespecial 9, 3, 0, [23, 2]), (7, .astore_n 1, 1, 0, [1]), (8, .new 10, 3, 0, [4]), (11, .dup, 1, 0, []), (12, .invokespecial 12, 3, 0, [47, 2]), (15, .astore_n 2, 1, 0, [2]), (16, .iconst 0, 1, 0, []), (17, .istore_n 3, 1, 0, [3]), (18, .iload_n 3, 1, 0, [3]), (19, .aload_n 0, 1, 0, [0]), (20, .arraylength, 1, 0, []), (21, .iconst 4, 1, 4, []), (22, .isub, 1, 0, []), (23, .if_icmp .gt 453, 3, 0, [316]), (26, .aload_n 0, 1, 0, [0]), (27, .iload_n 3, 1, 0, [3]), (28, .iaload, 1, 0, []), (29, .bipush 15, 2, 15, []), (31, .iand, 1, 0, []), (32, .tableswitch 438 0 12 #[68, 111, 154, 177, 220, 243, 276, 299, 312, 335, 368, 401, 424], 68, 0, [314, 22, 59, 96, 113, 150, 167, 194, 211, 218, 235, 262, 289, 306]), (100, .aload_n 1, 1, 0, [1]), (101, .aload_n 0, 1, 0, [0]), (102, .iload_n 3, 1, 0, [3]), (103, .iconst 1, 1, 1, []), (104, .iadd, 1, 0, []), (105, .iaload, 1, 0, []), (106, .aload_n 0, 1, 0, [0]), (107, .iload_n 3, 1, 0, [3])]
theorem fd_ck79_0 : fd_ckC 79 kq79_0 (108, .iconst 2, 1, 2, []) = true := by decide +kernel
def kq79_1 : List fd_E := [(108, .iconst 2, 1, 2, []), (109, .iadd, 1, 0, []), (110, .iaload, 1, 0, []), (111, .aload_n 0, 1, 0, [0]), (112, .iload_n 3, 1, 0, [3]), (113, .iconst 3, 1, 3, []), (114, .iadd, 1, 0, []), (115, .iaload, 1, 0, []), (116, .invokevirtual 13, 3, 0, [24, 0]), (119, .aload_n 2, 1, 0, [2]), (120, .aload_n 0, 1, 0, [0]), (121, .iload_n 3, 1, 0, [3]), (122, .iconst 1, 1, 1, []), (123, .iadd, 1, 0, []), (124, .iaload, 1, 0, []), (125, .aload_n 0, 1, 0, [0]), (126, .iload_n 3, 1, 0, [3]), (127, .iconst 2, 1, 2, []), (128, .iadd, 1, 0, []), (129, .iaload, 1, 0, []), (130, .aload_n 0, 1, 0, [0]), (131, .iload_n 3, 1, 0, [3]), (132, .iconst 3, 1, 3, []), (133, .iadd, 1, 0, []), (134, .iaload, 1, 0, []), (135, .invokevirtual 17, 3, 0, [51, 0]), (138, .if_icmp .eq 332, 3, 0, [314]), (141, .iconst 0, 1, 0, []), (142, .ireturn, 1, 0, []), (143, .aload_n 1, 1, 0, [1])]
theorem fd_ck79_1 : fd_ckC 79 kq79_1 (144, .aload_n 0, 1, 0, [0]) = true := by decide +kernel
def kq79_2 : List fd_E := [(144, .aload_n 0, 1, 0, [0]), (145, .iload_n 3, 1, 0, [3]), (146, .iconst 1, 1, 1, []), (147, .iadd, 1, 0, []), (148, .iaload, 1, 0, []), (149, .aload_n 0, 1, 0, [0]), (150, .iload_n 3, 1, 0, [3]), (151, .iconst 2, 1, 2, []), (152, .iadd, 1, 0, []), (153, .iaload, 1, 0, []), (154, .aload_n 0, 1, 0, [0]), (155, .iload_n 3, 1, 0, [3]), (156, .iconst 3, 1, 3, []), (157, .iadd, 1, 0, []), (158, .iaload, 1, 0, []), (159, .invokevirtual 18, 3, 0, [25, 0]), (162, .aload_n 2, 1, 0, [2]), (163, .aload_n 0, 1, 0, [0]), (164, .iload_n 3, 1, 0, [3]), (165, .iconst 1, 1, 1, []), (166, .iadd, 1, 0, []), (167, .iaload, 1, 0, []), (168, .aload_n 0, 1, 0, [0]), (169, .iload_n 3, 1, 0, [3]), (170, .iconst 2, 1, 2, []), (171, .iadd, 1, 0, []), (172, .iaload, 1, 0, []), (173, .aload_n 0, 1, 0, [0]), (174, .iload_n 3, 1, 0, [3]), (175, .iconst 3, 1, 3, [])]
theorem fd_ck79_2 : fd_ckC 79 kq79_2 (176, .iadd, 1, 0, []) = true := by decide +kernel
def kq79_3 : List fd_E := [(176, .iadd, 1, 0, []), (177, .iaload, 1, 0, []), (178, .invokevirtual 21, 3, 0, [61, 0]), (181, .if_icmp .eq 289, 3, 0, [314]), (184, .iconst 0, 1, 0, []), (185, .ireturn, 1, 0, []), (186, .aload_n 1, 1, 0, [1]), (187, .aload_n 0, 1, 0, [0]), (188, .iload_n 3, 1, 0, [3]), (189, .iconst 1, 1, 1, []), (190, .iadd, 1, 0, []), (191, .iaload, 1, 0, []), (192, .invokevirtual 22, 3, 0, [26, 0]), (195, .aload_n 2, 1, 0, [2]), (196, .aload_n 0, 1, 0, [0]), (197, .iload_n 3, 1, 0, [3]), (198, .iconst 1, 1, 1, []), (199, .iadd, 1, 0, []), (200, .iaload, 1, 0, []), (201, .invokevirtual 26, 3, 0, [62, 0]), (204, .if_icmp .eq 266, 3, 0, [314]), (207, .iconst 0, 1, 0, []), (208, .ireturn, 1, 0, []), (209, .aload_n 1, 1, 0, [1]), (210, .aload_n 0, 1, 0, [0]), (211, .iload_n 3, 1, 0, [3]), (212, .iconst 1, 1, 1, []), (213, .iadd, 1, 0, []), (214, .iaload, 1, 0, []), (215, .aload_n 0, 1, 0, [0])]
theorem fd_ck79_3 : fd_ckC 79 kq79_3 (216, .iload_n 3, 1, 0, [3]) = true := by decide +kernel
def kq79_4 : List fd_E := [(216, .iload_n 3, 1, 0, [3]), (217, .iconst 2, 1, 2, []), (218, .iadd, 1, 0, []), (219, .iaload, 1, 0, []), (220, .aload_n 0, 1, 0, [0]), (221, .iload_n 3, 1, 0, [3]), (222, .iconst 3, 1, 3, []), (223, .iadd, 1, 0, []), (224, .iaload, 1, 0, []), (225, .invokevirtual 27, 3, 0, [27, 0]), (228, .aload_n 2, 1, 0, [2]), (229, .aload_n 0, 1, 0, [0]), (230, .iload_n 3, 1, 0, [3]), (231, .iconst 1, 1, 1, []), (232, .iadd, 1, 0, []), (233, .iaload, 1, 0, []), (234, .aload_n 0, 1, 0, [0]), (235, .iload_n 3, 1, 0, [3]), (236, .iconst 2, 1, 2, []), (237, .iadd, 1, 0, []), (238, .iaload, 1, 0, []), (239, .aload_n 0, 1, 0, [0]), (240, .iload_n 3, 1, 0, [3]), (241, .iconst 3, 1, 3, []), (242, .iadd, 1, 0, []), (243, .iaload, 1, 0, []), (244, .invokevirtual 30, 3, 0, [64, 0]), (247, .if_icmp .eq 223, 3, 0, [314]), (250, .iconst 0, 1, 0, []), (251, .ireturn, 1, 0, [])]
theorem fd_ck79_4 : fd_ckC 79 kq79_4 (252, .aload_n 1, 1, 0, [1]) = true := by decide +kernel
def kq79_5 : List fd_E := [(252, .aload_n 1, 1, 0, [1]), (253, .aload_n 0, 1, 0, [0]), (254, .iload_n 3, 1, 0, [3]), (255, .iconst 1, 1, 1, []), (256, .iadd, 1, 0, []), (257, .iaload, 1, 0, []), (258, .invokevirtual 31, 3, 0, [28, 0]), (261, .aload_n 2, 1, 0, [2]), (262, .aload_n 0, 1, 0, [0]), (263, .iload_n 3, 1, 0, [3]), (264, .iconst 1, 1, 1, []), (265, .iadd, 1, 0, []), (266, .iaload, 1, 0, []), (267, .invokevirtual 34, 3, 0, [65, 0]), (270, .if_icmp .eq 200, 3, 0, [314]), (273, .iconst 0, 1, 0, []), (274, .ireturn, 1, 0, []), (275, .aload_n 1, 1, 0, [1]), (276, .aload_n 0, 1, 0, [0]), (277, .iload_n 3, 1, 0, [3]), (278, .iconst 1, 1, 1, []), (279, .iadd, 1, 0, []), (280, .iaload, 1, 0, []), (281, .aload_n 0, 1, 0, [0]), (282, .iload_n 3, 1, 0, [3]), (283, .iconst 2, 1, 2, []), (284, .iadd, 1, 0, []), (285, .iaload, 1, 0, []), (286, .invokevirtual 35, 3, 0, [29, 0]), (289, .aload_n 2, 1, 0, [2])]
theorem fd_ck79_5 : fd_ckC 79 kq79_5 (290, .aload_n 0, 1, 0, [0]) = true := by decide +kernel
def kq79_6 : List fd_E := [(290, .aload_n 0, 1, 0, [0]), (291, .iload_n 3, 1, 0, [3]), (292, .iconst 1, 1, 1, []), (293, .iadd, 1, 0, []), (294, .iaload, 1, 0, []), (295, .aload_n 0, 1, 0, [0]), (296, .iload_n 3, 1, 0, [3]), (297, .iconst 2, 1, 2, []), (298, .iadd, 1, 0, []), (299, .iaload, 1, 0, []), (300, .invokevirtual 39, 3, 0, [69, 0]), (303, .if_icmp .eq 167, 3, 0, [314]), (306, .iconst 0, 1, 0, []), (307, .ireturn, 1, 0, []), (308, .aload_n 1, 1, 0, [1]), (309, .aload_n 0, 1, 0, [0]), (310, .iload_n 3, 1, 0, [3]), (311, .iconst 1, 1, 1, []), (312, .iadd, 1, 0, []), (313, .iaload, 1, 0, []), (314, .invokevirtual 40, 3, 0, [30, 0]), (317, .aload_n 2, 1, 0, [2]), (318, .aload_n 0, 1, 0, [0]), (319, .iload_n 3, 1, 0, [3]), (320, .iconst 1, 1, 1, []), (321, .iadd, 1, 0, []), (322, .iaload, 1, 0, []), (323, .invokevirtual 43, 3, 0, [70, 0]), (326, .if_icmp .eq 144, 3, 0, [314]), (329, .iconst 0, 1, 0, [])]
theorem fd_ck79_6 : fd_ckC 79 kq79_6 (330, .ireturn, 1, 0, []) = true := by decide +kernel
def kq79_7 : List fd_E := [(330, .ireturn, 1, 0, []), (331, .aload_n 1, 1, 0, [1]), (332, .invokevirtual 44, 3, 0, [31, 0]), (335, .aload_n 2, 1, 0, [2]), (336, .invokevirtual 48, 3, 0, [71, 0]), (339, .if_icmp .eq 131, 3, 0, [314]), (342, .iconst 0, 1, 0, []), (343, .ireturn, 1, 0, []), (344, .aload_n 1, 1, 0, [1]), (345, .aload_n 0, 1, 0, [0]), (346, .iload_n 3, 1, 0, [3]), (347, .iconst 1, 1, 1, []), (348, .iadd, 1, 0, []), (349, .iaload, 1, 0, []), (350, .invokevirtual 49, 3, 0, [32, 0]), (353, .aload_n 2, 1, 0, [2]), (354, .aload_n 0, 1, 0, [0]), (355, .iload_n 3, 1, 0, [3]), (356, .iconst 1, 1, 1, []), (357, .iadd, 1, 0, []), (358, .iaload, 1, 0, []), (359, .invokevirtual 52, 3, 0, [72, 0]), (362, .if_icmp .eq 108, 3, 0, [314]), (365, .iconst 0, 1, 0, []), (366, .ireturn, 1, 0, []), (367, .aload_n 1, 1, 0, [1]), (368, .aload_n 0, 1, 0, [0]), (369, .iload_n 3, 1, 0, [3]), (370, .iconst 1, 1, 1, []), (371, .iadd, 1, 0, [])]
theorem fd_ck79_7 : fd_ckC 79 kq79_7 (372, .iaload, 1, 0, []) = true := by decide +kernel
def kq79_8 : List fd_E := [(372, .iaload, 1, 0, []), (373, .aload_n 0, 1, 0, [0]), (374, .iload_n 3, 1, 0, [3]), (375, .iconst 2, 1, 2, []), (376, .iadd, 1, 0, []), (377, .iaload, 1, 0, []), (378, .invokevirtual 53, 3, 0, [33, 0]), (381, .aload_n 2, 1, 0, [2]), (382, .aload_n 0, 1, 0, [0]), (383, .iload_n 3, 1, 0, [3]), (384, .iconst 1, 1, 1, []), (385, .iadd, 1, 0, []), (386, .iaload, 1, 0, []), (387, .aload_n 0, 1, 0, [0]), (388, .iload_n 3, 1, 0, [3]), (389, .iconst 2, 1, 2, []), (390, .iadd, 1, 0, []), (391, .iaload, 1, 0, []), (392, .invokevirtual 56, 3, 0, [75, 0]), (395, .if_icmp .eq 75, 3, 0, [314]), (398, .iconst 0, 1, 0, []), (399, .ireturn, 1, 0, []), (400, .aload_n 1, 1, 0, [1]), (401, .aload_n 0, 1, 0, [0]), (402, .iload_n 3, 1, 0, [3]), (403, .iconst 1, 1, 1, []), (404, .iadd, 1, 0, []), (405, .iaload, 1, 0, []), (406, .aload_n 0, 1, 0, [0]), (407, .iload_n 3, 1, 0, [3])]
theorem fd_ck79_8 : fd_ckC 79 kq79_8 (408, .iconst 2, 1, 2, []) = true := by decide +kernel
def kq79_9 : List fd_E := [(408, .iconst 2, 1, 2, []), (409, .iadd, 1, 0, []), (410, .iaload, 1, 0, []), (411, .invokevirtual 57, 3, 0, [34, 0]), (414, .aload_n 2, 1, 0, [2]), (415, .aload_n 0, 1, 0, [0]), (416, .iload_n 3, 1, 0, [3]), (417, .iconst 1, 1, 1, []), (418, .iadd, 1, 0, []), (419, .iaload, 1, 0, []), (420, .aload_n 0, 1, 0, [0]), (421, .iload_n 3, 1, 0, [3]), (422, .iconst 2, 1, 2, []), (423, .iadd, 1, 0, []), (424, .iaload, 1, 0, []), (425, .invokevirtual 60, 3, 0, [76, 0]), (428, .if_icmp .eq 42, 3, 0, [314]), (431, .iconst 0, 1, 0, []), (432, .ireturn, 1, 0, []), (433, .aload_n 1, 1, 0, [1]), (434, .aload_n 0, 1, 0, [0]), (435, .iload_n 3, 1, 0, [3]), (436, .iconst 1, 1, 1, []), (437, .iadd, 1, 0, []), (438, .iaload, 1, 0, []), (439, .invokevirtual 61, 3, 0, [35, 0]), (442, .aload_n 2, 1, 0, [2]), (443, .aload_n 0, 1, 0, [0]), (444, .iload_n 3, 1, 0, [3]), (445, .iconst 1, 1, 1, [])]
theorem fd_ck79_9 : fd_ckC 79 kq79_9 (446, .iadd, 1, 0, []) = true := by decide +kernel
def kq79_10 : List fd_E := [(446, .iadd, 1, 0, []), (447, .iaload, 1, 0, []), (448, .invokevirtual 64, 3, 0, [77, 0]), (451, .if_icmp .eq 19, 3, 0, [314]), (454, .iconst 0, 1, 0, []), (455, .ireturn, 1, 0, []), (456, .aload_n 1, 1, 0, [1]), (457, .invokevirtual 65, 3, 0, [36, 0]), (460, .aload_n 2, 1, 0, [2]), (461, .invokevirtual 69, 3, 0, [78, 0]), (464, .lcmp, 1, 0, []), (465, .ifCond .eq 5, 3, 0, [314]), (468, .iconst 0, 1, 0, []), (469, .ireturn, 1, 0, []), (470, .iinc 3 4, 3, 4, [3]), (473, .goto (-455), 3, 0, [10]), (476, .iconst 1, 1, 1, []), (477, .ireturn, 1, 0, []), (478, .athrow, 0, 0, [])]
theorem fd_ck79_10 : fd_ckL 79 kq79_10 = true := by decide +kernel
theorem fd_ckL_79 : fd_ckL 79 (fd_code 79) = true := fd_ckL_app kq79_0 _ _ fd_ck79_0 (fd_ckL_app kq79_1 _ _ fd_ck79_1 (fd_ckL_app kq79_2 _ _ fd_ck79_2 (fd_ckL_app kq79_3 _ _ fd_ck79_3 (fd_ckL_app kq79_4 _ _ fd_ck79_4 (fd_ckL_app kq79_5 _ _ fd_ck79_5 (fd_ckL_app kq79_6 _ _ fd_ck79_6 (fd_ckL_app kq79_7 _ _ fd_ck79_7 (fd_ckL_app kq79_8 _ _ fd_ck79_8 (fd_ckL_app kq79_9 _ _ fd_ck79_9 (fd_ck79_10))))))))))
theorem fd_lawck : fd_ckL 79 (fd_code 79) = true := fd_ckL_79
theorem fd_mok_all (mi : Nat) (h : mi < 79) : fd_mok mi = true := by
  match mi, h with
  | 0, _ => exact fd_mok_0
  | 1, _ => exact fd_mok_1
  | 2, _ => exact fd_mok_2
  | 3, _ => exact fd_mok_3
  | 4, _ => exact fd_mok_4
  | 5, _ => exact fd_mok_5
  | 6, _ => exact fd_mok_6
  | 7, _ => exact fd_mok_7
  | 8, _ => exact fd_mok_8
  | 9, _ => exact fd_mok_9
  | 10, _ => exact fd_mok_10
  | 11, _ => exact fd_mok_11
  | 12, _ => exact fd_mok_12
  | 13, _ => exact fd_mok_13
  | 14, _ => exact fd_mok_14
  | 15, _ => exact fd_mok_15
  | 16, _ => exact fd_mok_16
  | 17, _ => exact fd_mok_17
  | 18, _ => exact fd_mok_18
  | 19, _ => exact fd_mok_19
  | 20, _ => exact fd_mok_20
  | 21, _ => exact fd_mok_21
  | 22, _ => exact fd_mok_22
  | 23, _ => exact fd_mok_23
  | 24, _ => exact fd_mok_24
  | 25, _ => exact fd_mok_25
  | 26, _ => exact fd_mok_26
  | 27, _ => exact fd_mok_27
  | 28, _ => exact fd_mok_28
  | 29, _ => exact fd_mok_29
  | 30, _ => exact fd_mok_30
  | 31, _ => exact fd_mok_31
  | 32, _ => exact fd_mok_32
  | 33, _ => exact fd_mok_33
  | 34, _ => exact fd_mok_34
  | 35, _ => exact fd_mok_35
  | 36, _ => exact fd_mok_36
  | 37, _ => exact fd_mok_37
  | 38, _ => exact fd_mok_38
  | 39, _ => exact fd_mok_39
  | 40, _ => exact fd_mok_40
  | 41, _ => exact fd_mok_41
  | 42, _ => exact fd_mok_42
  | 43, _ => exact fd_mok_43
  | 44, _ => exact fd_mok_44
  | 45, _ => exact fd_mok_45
  | 46, _ => exact fd_mok_46
  | 47, _ => exact fd_mok_47
  | 48, _ => exact fd_mok_48
  | 49, _ => exact fd_mok_49
  | 50, _ => exact fd_mok_50
  | 51, _ => exact fd_mok_51
  | 52, _ => exact fd_mok_52
  | 53, _ => exact fd_mok_53
  | 54, _ => exact fd_mok_54
  | 55, _ => exact fd_mok_55
  | 56, _ => exact fd_mok_56
  | 57, _ => exact fd_mok_57
  | 58, _ => exact fd_mok_58
  | 59, _ => exact fd_mok_59
  | 60, _ => exact fd_mok_60
  | 61, _ => exact fd_mok_61
  | 62, _ => exact fd_mok_62
  | 63, _ => exact fd_mok_63
  | 64, _ => exact fd_mok_64
  | 65, _ => exact fd_mok_65
  | 66, _ => exact fd_mok_66
  | 67, _ => exact fd_mok_67
  | 68, _ => exact fd_mok_68
  | 69, _ => exact fd_mok_69
  | 70, _ => exact fd_mok_70
  | 71, _ => exact fd_mok_71
  | 72, _ => exact fd_mok_72
  | 73, _ => exact fd_mok_73
  | 74, _ => exact fd_mok_74
  | 75, _ => exact fd_mok_75
  | 76, _ => exact fd_mok_76
  | 77, _ => exact fd_mok_77
  | 78, _ => exact fd_mok_78
  | n + 79, h => omega
end
section
/-! what the abstract state is in the machine -/
def fd_tr (tA ad : Nat → Nat) : fd_V → Value
  | .inl x => .int x
  | .inr (.inl x) => .long x
  | .inr (.inr (.inl o)) => va_rf (o.map ad)
  | .inr (.inr (.inr k)) => .ref (tA k)
def fd_fv (ad : Nat → Nat) (σ : fd_S) (a k : Nat) (t : FieldType) : Value := match t with
  | .long => .long (σ.2.2.2 a k)
  | .object _ => va_rf ((σ.2.2.1 a k).map ad)
  | .array _ => va_rf ((σ.2.2.1 a k).map ad)
  | _ => .int (σ.2.1 a k)
def fd_fs (ad : Nat → Nat) (σ : fd_S) (ci a : Nat) : List Value := (List.range (fd_nf ci)).map (fun k => fd_fv ad σ a k (fd_tyf ci k))
def fd_cell (ad : Nat → Nat) (ca : Nat → ClassId) (σ : fd_S) (a : Nat) : va_E := match fd_sh a with
  | .inl ci => .inr (ci, fd_fs ad σ ci a)
  | .inr (n, none) => .inl (ca a, n, .inl (fun j => σ.2.1 a j))
  | .inr (n, some _) => .inl (ca a, n, .inr (.inr (.inr (.inr (fun j => (σ.2.2.1 a j).map ad)))))
def fd_ws (ad : Nat → Nat) (ca : Nat → ClassId) (σ : fd_S) : va_W := (List.range σ.1).map (fun i => (ad i, fd_cell ad ca σ i))
def fd_ety (c : Option Nat) : FieldType := match c with
  | none => .int
  | some c => .object (fd_R c)
def fd_KA (U : State) (ca : Nat → ClassId) (σ : fd_S) : Prop := ∀ a n c, a < σ.1 → fd_sh a = .inr (n, c) → ArrOfT U (ca a) (fd_ety c) ∧ va_RA U (ca a) (fd_ety c)
def fd_stat (tA : Nat → Nat) (A : Nat → Prop) (U : State) (H : Heap) : Prop := va_Z RX0 "ABOVE" "[I" (.ref (tA 0)) A U H ∧ va_T .int (tA 0) 7 (fun j => .int (fd_sa 0 j)) A U H ∧ va_Z RX0 "TOLD_BODIES" "[I" (.ref (tA 1)) A U H ∧ va_T .int (tA 1) 42 (fun j => .int (fd_sa 1 j)) A U H
def fd_nst (U : State) : Prop := va_Nw (.methodLinkNest RX0 54 yX3_within RX3) U ∧ va_Nw (.methodLinkNest RX3 27 yX0_init RX3) U ∧ va_AO RX1 U ∧ va_AO RX2 U
def fd_ext (N0 : Nat) (ad0 : Nat → Nat) (ca0 : Nat → ClassId) (mc : Nat) (ad : Nat → Nat) (ca : Nat → ClassId) (σ : fd_S) : Prop := (∀ i, i < N0 → ad i = ad0 i) ∧ N0 ≤ σ.1 ∧ (mc = 0 → ad = ad0 ∧ ca = ca0 ∧ σ.1 = N0)
def fd_lv (tA ad : Nat → Nat) (lv : fd_L) : List (Nat × Value) := lv.map (fun q => (q.1, fd_tr tA ad q.2))
abbrev fd_cl5 (ci : Nat) : vw_C := (fd_R ci, fd_T ci, fd_nf ci)
theorem fd_vwCl : ∀ {ci : Nat}, ci < 5 → vwCl[ci]? = some (fd_cl5 ci)
  | 0, _ => rfl
  | 1, _ => rfl
  | 2, _ => rfl
  | 3, _ => rfl
  | 4, _ => rfl
  | n + 5, h => absurd h (by omega)
theorem fd_tyok : ∀ {ci : Nat}, ci < 5 → ∀ k, k < fd_nf ci → parseFieldDescriptor (fd_T ci k).2.2.1 = some (fd_tyf ci k)
  | 0, _ => tyX0_ok
  | 1, _ => tyX1_ok
  | 2, _ => tyX2_ok
  | 3, _ => tyX3_ok
  | 4, _ => tyX4_ok
  | n + 5, h => absurd h (by omega)
theorem fd_nm : ∀ {ci : Nat}, ci < 5 → ∀ a, a < fd_nf ci → ∀ b, b < fd_nf ci → a ≠ b → (fd_T ci a).2.1 ≠ (fd_T ci b).2.1
  | 0, _ => nmX0
  | 1, _ => nmX1
  | 2, _ => nmX2
  | 3, _ => nmX3
  | 4, _ => nmX4
  | n + 5, h => absurd h (by omega)
theorem fd_own1 : ∀ {ci : Nat}, ci < 5 → ∀ k, k < fd_nf ci → (fd_T ci k).1 = fd_R ci
  | 0, _ => by decide +kernel
  | 1, _ => by decide +kernel
  | 2, _ => by decide +kernel
  | 3, _ => by decide +kernel
  | 4, _ => by decide +kernel
  | n + 5, h => absurd h (by omega)
theorem fd_trcat (tA ad : Nat → Nat) (v : fd_V) : (fd_tr tA ad v).category = fd_cat v := by
  rcases v with x | x | o | k
  · rfl
  · rfl
  · cases o <;> rfl
  · rfl
theorem fd_cats_tr (tA ad : Nat → Nat) (t : List fd_V) : ((t.map (fd_tr tA ad)).map fun v => v.category).sum = fd_cats t := by
  simp only [fd_cats, List.map_map]
  congr 1
  exact List.map_congr_left (fun v _ => fd_trcat tA ad v)
theorem fd_get_mem : ∀ {lv : fd_L} {i : Nat} {v : fd_V}, fd_get lv i = some v → (i, v) ∈ lv
  | [], _, _, h => by simp [fd_get] at h
  | q :: l, i, v, h => by
    unfold fd_get at h
    split at h
    · rename_i hq
      have := beq_iff_eq.mp hq
      have h2 := Option.some.inj h
      rw [← this, ← h2]; exact List.mem_cons_self
    · exact List.mem_cons_of_mem _ (fd_get_mem h)
theorem fd_lv_at {tA ad : Nat → Nat} {ls : Array Slot} {n i : Nat} {lv : fd_L} {v : fd_V} (h : lv_has ls n (fd_lv tA ad lv)) (hg : fd_get lv i = some v) : ls[i]? = some (.val (fd_tr tA ad v)) :=
  h.2.2 (i, fd_tr tA ad v) (List.mem_map.mpr ⟨(i, v), fd_get_mem hg, rfl⟩)
theorem fd_put_lv (tA ad : Nat → Nat) (lv : fd_L) (i : Nat) (v : fd_V) : (i, fd_tr tA ad v) :: (fd_lv tA ad lv).filter (fun q => !(q.1 == i) && !(q.1 + 1 == i && q.2.category == 2)) = fd_lv tA ad (fd_put lv i v) := by
  simp only [fd_lv, fd_put, List.map_cons, List.filter_map]
  congr 2
  apply List.filter_congr
  intro q _
  simp only [Function.comp, fd_trcat]
theorem fd_args_lv (tA ad : Nat → Nat) : ∀ (i : Nat) (as : List fd_V), lv_args i (as.map (fd_tr tA ad)) = fd_lv tA ad (fd_args i as)
  | _, [] => rfl
  | i, v :: vs => by
    simp only [List.map_cons, lv_args, fd_args, fd_lv, fd_trcat]
    rw [fd_args_lv tA ad _ vs]; rfl
theorem fd_slen : ∀ (tA ad : Nat → Nat) (as : List fd_V), (lg_sl (as.map (fd_tr tA ad))).length = fd_cats as
  | _, _, [] => rfl
  | tA, ad, v :: vs => by
    have ih := fd_slen tA ad vs
    simp only [lg_sl, List.map_cons, List.flatMap_cons, List.length_append] at ih ⊢
    rw [ih, fd_trcat]
    simp only [fd_cats, List.map_cons, List.sum_cons]
    congr 1
    rcases v with x | x | o | k <;> simp [fd_cat]
theorem fd_ws_get {ad : Nat → Nat} {ca : Nat → ClassId} {σ : fd_S} {a : Nat} (h : a < σ.1) : (fd_ws ad ca σ)[a]? = some (ad a, fd_cell ad ca σ a) := by
  simp [fd_ws, h]
theorem fd_ws_set {ad : Nat → Nat} {ca : Nat → ClassId} {σ τ : fd_S} {a : Nat} (e : τ.1 = σ.1) (ho : ∀ i, i ≠ a → fd_cell ad ca τ i = fd_cell ad ca σ i) {x : va_E} (hx : fd_cell ad ca τ a = x) : (fd_ws ad ca σ).set a (ad a, x) = fd_ws ad ca τ := by
  apply List.ext_getElem?
  intro i
  rw [List.getElem?_set]
  by_cases hi : a = i
  · subst hi
    simp only [if_true, fd_ws, List.length_map, List.length_range]
    by_cases h : a < σ.1
    · simp [h, e, hx]
    · simp [h, e]
  · rw [if_neg hi]
    simp only [fd_ws, List.getElem?_map, e]
    by_cases h : i < σ.1
    · simp [h, ho i (Ne.symm hi)]
    · simp [h]
theorem fd_fs_get {ad : Nat → Nat} {σ : fd_S} {ci a k : Nat} (h : k < fd_nf ci) : (fd_fs ad σ ci a)[k]? = some (fd_fv ad σ a k (fd_tyf ci k)) := by
  simp [fd_fs, h]
theorem fd_fs_set {ad : Nat → Nat} {σ τ : fd_S} {ci a k : Nat} (ho : ∀ j, j ≠ k → ∀ t, fd_fv ad τ a j t = fd_fv ad σ a j t) {v : Value} (hv : fd_fv ad τ a k (fd_tyf ci k) = v) : (fd_fs ad σ ci a).set k v = fd_fs ad τ ci a := by
  apply List.ext_getElem?
  intro i
  rw [List.getElem?_set]
  by_cases hi : k = i
  · subst hi
    simp only [if_true, fd_fs, List.length_map, List.length_range]
    by_cases h : k < fd_nf ci
    · simp [h, hv]
    · simp [h]
  · rw [if_neg hi]
    simp only [fd_fs, List.getElem?_map]
    by_cases h : i < fd_nf ci
    · simp [h, ho i (Ne.symm hi)]
    · simp [h]
theorem fd_u_ne {α : Type} {f : Nat → Nat → α} {a k i j : Nat} {v : α} (h : i ≠ a) : fd_u f a k v i j = f i j := by simp [fd_u, h]
theorem fd_u_ne2 {α : Type} {f : Nat → Nat → α} {a k i j : Nat} {v : α} (h : j ≠ k) : fd_u f a k v i j = f i j := by simp [fd_u, h]
theorem fd_u_eq {α : Type} {f : Nat → Nat → α} {a k : Nat} {v : α} : fd_u f a k v a k = v := by simp [fd_u]
theorem fd_u0_ne {α : Type} {f : Nat → Nat → α} {a i j : Nat} {v : α} (h : i ≠ a) : fd_u0 f a v i j = f i j := by simp [fd_u0, h]
theorem fd_u0_eq {α : Type} {f : Nat → Nat → α} {a j : Nat} {v : α} : fd_u0 f a v a j = v := by simp [fd_u0]
/-- a cell says the same in two states that agree on it -/
theorem fd_cell_eq {ad ad' : Nat → Nat} {ca ca' : Nat → ClassId} {σ τ : fd_S} {i : Nat} (hc : ca' i = ca i) (h1 : ∀ j, τ.2.1 i j = σ.2.1 i j) (h2 : ∀ j, (τ.2.2.1 i j).map ad' = (σ.2.2.1 i j).map ad) (h3 : ∀ j, τ.2.2.2 i j = σ.2.2.2 i j) : fd_cell ad' ca' τ i = fd_cell ad ca σ i := by
  have hf : ∀ j t, fd_fv ad' τ i j t = fd_fv ad σ i j t := by
    intro j t
    cases t <;> simp [fd_fv, h1, h2, h3]
  unfold fd_cell
  split
  · simp only [fd_fs, hf]
  · simp only [hc, h1]
  · simp only [hc, h2]
theorem fd_ws_push {ad : Nat → Nat} {ca : Nat → ClassId} {σ : fd_S} {q : Nat} {cA : ClassId} {x : va_E} (hcl : fd_clo σ) (hx : fd_cell (va_up ad σ.1 q) (vp_upC ca σ.1 cA) (fd_alloc σ) σ.1 = x) : fd_ws ad ca σ ++ [(q, x)] = fd_ws (va_up ad σ.1 q) (vp_upC ca σ.1 cA) (fd_alloc σ) := by
  have e1 : (fd_alloc σ).1 = σ.1 + 1 := rfl
  simp only [fd_ws, e1, List.range_succ, List.map_append, List.map_cons, List.map_nil, hx]
  have e2 : va_up ad σ.1 q σ.1 = q := by simp [va_up]
  rw [e2]
  congr 1
  apply List.map_congr_left
  intro i hi
  have hlt : i < σ.1 := List.mem_range.mp hi
  have hne : i ≠ σ.1 := Nat.ne_of_lt hlt
  have e3 : va_up ad σ.1 q i = ad i := by simp [va_up, hne]
  rw [e3]
  congr 1
  refine (fd_cell_eq (by simp [vp_upC, hne]) (fun j => fd_u0_ne hne) (fun j => ?_) (fun j => fd_u0_ne hne)).symm
  show (fd_u0 σ.2.2.1 σ.1 none i j).map _ = _
  rw [fd_u0_ne hne]
  cases ho : σ.2.2.1 i j with
  | none => rfl
  | some x =>
    have := hcl i j x ho
    simp [va_up, Nat.ne_of_lt this]
theorem fd_tr_up {tA ad : Nat → Nat} {N q : Nat} {v : fd_V} (h : fd_ok1 N v) : fd_tr tA (va_up ad N q) v = fd_tr tA ad v := by
  rcases v with x | x | o | k
  · rfl
  · rfl
  · cases o with
    | none => rfl
    | some a => have := h a rfl; simp [fd_tr, va_up, Nat.ne_of_lt this]
  · rfl
theorem fd_tr_ext {tA ad ad' : Nat → Nat} {N : Nat} (he : ∀ i, i < N → ad' i = ad i) {v : fd_V} (h : fd_ok1 N v) : fd_tr tA ad' v = fd_tr tA ad v := by
  rcases v with x | x | o | k
  · rfl
  · rfl
  · cases o with
    | none => rfl
    | some a => have := h a rfl; simp [fd_tr, he a this]
  · rfl
theorem fd_trV_ext {tA ad ad' : Nat → Nat} {N : Nat} (he : ∀ i, i < N → ad' i = ad i) {t : List fd_V} (h : fd_okV N t) : t.map (fd_tr tA ad') = t.map (fd_tr tA ad) := List.map_congr_left (fun v hv => fd_tr_ext he (h v hv))
theorem fd_lv_ext {tA ad ad' : Nat → Nat} {N : Nat} (he : ∀ i, i < N → ad' i = ad i) {lv : fd_L} (h : fd_okL N lv) : fd_lv tA ad' lv = fd_lv tA ad lv := List.map_congr_left (fun q hq => by rw [fd_tr_ext he (h q hq)])
theorem fd_popn_spec : ∀ (n : Nat) (acc st as t : List fd_V), fd_popn n acc st = some (as, t) → ∃ xs, as = xs ++ acc ∧ st = xs.reverse ++ t ∧ xs.length = n
  | 0, acc, st, as, t, h => by
    simp only [fd_popn, Option.some.injEq, Prod.mk.injEq] at h
    obtain ⟨rfl, rfl⟩ := h
    exact ⟨[], rfl, rfl, rfl⟩
  | n + 1, acc, [], as, t, h => by simp [fd_popn] at h
  | n + 1, acc, v :: st, as, t, h => by
    obtain ⟨xs, e1, e2, e3⟩ := fd_popn_spec n (v :: acc) st as t h
    exact ⟨xs ++ [v], by simp [e1], by simp [e2], by simp [e3]⟩
theorem fd_pc_drop {cd : List fd_E} {k : Nat} {e : fd_E} (h : cd[k]? = some e) : fd_pc (cd.drop k) = e.1 := by
  obtain ⟨hlt, he⟩ := List.getElem?_eq_some_iff.mp h
  rw [List.drop_eq_getElem_cons hlt, he]; rfl
theorem fd_KA.moved {u U : State} {ca : Nat → ClassId} {σ : fd_S} (hvm : u.vm.Alike U.vm) (h : fd_KA u ca σ) : fd_KA U ca σ := fun a n c ha hs => ⟨arrOfT_moved hvm (h a n c ha hs).1, (h a n c ha hs).2.moved hvm⟩
theorem fd_stat.moved {tA : Nat → Nat} {A : Nat → Prop} {u U : State} {H : Heap} (hvm : u.vm.Alike U.vm) (h : fd_stat tA A u H) : fd_stat tA A U H := ⟨h.1.moved hvm, h.2.1.moved hvm, h.2.2.1.moved hvm, h.2.2.2.moved hvm⟩
theorem fd_stat.kept {tA : Nat → Nat} {A : Nat → Prop} {U : State} {H H1 : Heap} (h : fd_stat tA A U H) (hq : ∀ a : Nat, a < H.size → ¬ A a → H1[a]? = H[a]?) : fd_stat tA A U H1 := ⟨h.1.kept hq, h.2.1.kept hq, h.2.2.1.kept hq, h.2.2.2.kept hq⟩
theorem fd_stat.narrow {tA : Nat → Nat} {A B : Nat → Prop} {U : State} {H : Heap} (h : fd_stat tA A U H) (hAB : ∀ q, B q → A q) : fd_stat tA B U H := ⟨h.1.narrow hAB, h.2.1.narrow hAB, h.2.2.1.narrow hAB, h.2.2.2.narrow hAB⟩
theorem fd_nst.same {u U : State} (hvm : u.vm = U.vm) (h : fd_nst u) : fd_nst U := ⟨h.1.same rfl hvm, h.2.1.same rfl hvm, h.2.2.1.moved (by rw [hvm]; exact Vm.Alike.refl _), h.2.2.2.moved (by rw [hvm]; exact Vm.Alike.refl _)⟩
theorem fd_nst.warm {u U : State} (hW : u.WarmedH U.vm) (h : fd_nst u) : fd_nst U := ⟨h.1.warmM hW, h.2.1.warmM hW, h.2.2.1.moved hW.alike, h.2.2.2.moved hW.alike⟩
end
section
def fd_wk (k : Nat) : List Jvm.Cond := Jvm.Cond.code (fd_y k) (fd_b k) (fd_mL k) (fd_ret k) :: fd_tb
def fd_rm (D k : Nat) : Room := { frames := D, cells := fd_mc k, slots := fd_mS k, locals := 40 * D }
def fd_Pre (tA : Nat → Nat) (dC : Nat → ClassId) (dI : Nat → Nat → Nat) (ad : Nat → Nat) (ca : Nat → ClassId) (σ : fd_S) (sz : Nat) (U : State) : Prop :=
  U.heap.size = sz ∧ va_P (dC, dI) vwCl (fd_ws ad ca σ) U.heap ∧ va_K (dC, dI) vwCl [] U ∧ fd_KA U ca σ ∧ va_D (fun _ => True) (fd_ws ad ca σ) ∧ fd_stat tA (va_A (fd_ws ad ca σ) sz) U U.heap ∧ fd_nst U
def fd_Qc (tA : Nat → Nat) (dC : Nat → ClassId) (dI : Nat → Nat → Nat) (ad : Nat → Nat) (ca : Nat → ClassId) (σ : fd_S) (mc : Nat) (post : Option fd_V → fd_S → Prop) (A : Nat → Prop) : Array Value → State → Outcome → State → Prop := fun _ st oc t =>
  (∃ (r : Option fd_V) (σ' : fd_S) (ad' : Nat → Nat) (ca' : Nat → ClassId), oc = .returned (r.map (fd_tr tA ad')) ∧ post r σ' ∧ va_P (dC, dI) vwCl (fd_ws ad' ca' σ') t.heap ∧ va_D A (fd_ws ad' ca' σ') ∧ fd_KA t ca' σ' ∧ fd_ext σ.1 ad ca mc ad' ca' σ') ∧ va_F A st t
def fd_Met (l : Launch) (D k : Nat) (as : List fd_V) (σ : fd_S) (post : Option fd_V → fd_S → Prop) : Prop :=
  ∀ (dC : Nat → ClassId) (dI : Nat → Nat → Nat) (tA ad : Nat → Nat) (ca : Nat → ClassId) (sz : Nat), Met l (fd_y k) (fd_wk k) (fd_rm D k) (va_Pc (as.map (fd_tr tA ad)) (fd_Pre tA dC dI ad ca σ sz)) (fd_Qc tA dC dI ad ca σ (fd_mc k) post (va_A (fd_ws ad ca σ) sz)) (fd_mc k) (fd_mS k) (va_A (fd_ws ad ca σ) sz)
theorem fd_blind (av : List Value) (tA : Nat → Nat) (dC : Nat → ClassId) (dI : Nat → Nat → Nat) (ad : Nat → Nat) (ca : Nat → ClassId) (σ : fd_S) (sz : Nat) : FrameBlind (va_Pc av (fd_Pre tA dC dI ad ca σ sz)) := by
  intro a U g mk q
  obtain ⟨q0, q1, q2, q3, q4, q5, q6, q7⟩ := q
  exact ⟨q0, q1, q2, va_K.moved (u := U) (U := U.calling g mk a) (Vm.Alike.refl U.vm) q3, fd_KA.moved (u := U) (U := U.calling g mk a) (Vm.Alike.refl U.vm) q4, q5, fd_stat.moved (u := U) (U := U.calling g mk a) (Vm.Alike.refl U.vm) q6, fd_nst.same (u := U) (U := U.calling g mk a) rfl q7⟩
def fd_ctx (p : Program) (R : Room) (s : State) (m : MethodId) (args : Array Value) (meth : Method) (c : Code) (mi D : Nat) (A : Nat → Prop) (tA : Nat → Nat) (dC : Nat → ClassId) (dI : Nat → Nat → Nat) (scr : Option (Nat × (Nat → Int32))) : Prop :=
  p.tables.exec = Jvm.exec ∧ c.code = fd_b mi ∧ c.maxLocals = fd_mL mi ∧ s.vm.findClass (fd_R (fd_own mi)) = some m.cls ∧ (∀ w ∈ fd_tb, w.before args s = true) ∧ va_K (dC, dI) vwCl [] s ∧ fd_stat tA A s s.heap ∧ fd_nst s ∧ (∀ q, s.heap.size ≤ q → A q) ∧ (fd_mc mi ≤ R.cells ∧ fd_mS mi ≤ R.slots) ∧ (D + 1 ≤ R.frames ∧ 40 * (D + 1) ≤ R.locals) ∧ (∀ n f, scr = some (n, f) → va_X (tA 2) n f s s.heap ∧ tA 2 < s.heap.size ∧ ¬ A (tA 2)) ∧ ((fd_y mi).name = "<init>" → meth.name = "<init>")
def fd_Rp (s : State) (mi : Nat) (A : Nat → Prop) (tA : Nat → Nat) (dC : Nat → ClassId) (dI : Nat → Nat → Nat) (N0 : Nat) (ad0 : Nat → Nat) (ca0 : Nat → ClassId) (lv : fd_L) (σ : fd_S) (cc ss : Nat) (ad : Nat → Nat) (ca : Nat → ClassId) (H : Heap) (locs : List Loc) (ls : Array Slot) : Prop :=
  va_P (dC, dI) vwCl (fd_ws ad ca σ) H ∧ va_D A (fd_ws ad ca σ) ∧ fd_KA s ca σ ∧ fd_ext N0 ad0 ca0 (fd_mc mi) ad ca σ ∧ va_S A s.heap H locs ∧ lv_has ls (fd_mL mi) (fd_lv tA ad lv) ∧ cc ≤ fd_mc mi ∧ ss ≤ fd_mS mi
section
variable (p : Program) (l : Launch) (e : Env) (R : Room) (s : State) (m : MethodId) (args : Array Value) (below : List Frame) (meth : Method) (c : Code) (Q : State → Prop)
variable (mi : Nat) (A : Nat → Prop) (tA : Nat → Nat) (dC : Nat → ClassId) (dI : Nat → Nat → Nat) (N0 : Nat) (ad0 : Nat → Nat) (ca0 : Nat → ClassId)
def fd_Wp (pc : Nat) (lv : fd_L) (st : List fd_V) (σ : fd_S) (cc ss : Nat) : Prop := ∀ (ad : Nat → Nat) (ca : Nat → ClassId) (H : Heap) (locs : List Loc) (ls : Array Slot), fd_Rp s mi A tA dC dI N0 ad0 ca0 lv σ cc ss ad ca H locs ls → W p l e R s m args below meth c H locs cc ss Q (F0 m pc ls (st.map (fd_tr tA ad)))
def fd_W : fd_X := fun suf lv st σ cc ss => ∀ k, suf = (fd_code mi).drop k → fd_Wp p l e R s m args below meth c Q mi A tA dC dI N0 ad0 ca0 (fd_pc suf) lv st σ cc ss
end
/-- the ends of a method -/
def fd_rok (mi pc : Nat) (r : Option fd_V) : Prop := match r with
  | none => decode (fd_b mi) pc = .ok (.return_, 1) ∧ fd_ret mi = none
  | some (.inl x) => decode (fd_b mi) pc = .ok (.ireturn, 1) ∧ (fd_ret mi = some .int ∨ (fd_ret mi = some .boolean ∧ (x = 0 ∨ x = 1)))
  | some (.inr (.inl _)) => decode (fd_b mi) pc = .ok (.lreturn, 1) ∧ fd_ret mi = some .long
  | some (.inr (.inr (.inl _))) => decode (fd_b mi) pc = .ok (.areturn, 1) ∧ ∃ n, fd_ret mi = some (.object n)
  | _ => False
theorem fd_ws_fld {ad : Nat → Nat} {ca : Nat → ClassId} {σ τ : fd_S} {a ci k : Nat} {v : Value} (hsh : fd_sh a = .inl ci) (e : τ.1 = σ.1) (h1 : ∀ i j, (i ≠ a ∨ j ≠ k) → τ.2.1 i j = σ.2.1 i j) (h2 : ∀ i j, (i ≠ a ∨ j ≠ k) → τ.2.2.1 i j = σ.2.2.1 i j) (h3 : ∀ i j, (i ≠ a ∨ j ≠ k) → τ.2.2.2 i j = σ.2.2.2 i j) (hv : fd_fv ad τ a k (fd_tyf ci k) = v) :
    (fd_ws ad ca σ).set a (ad a, .inr (ci, (fd_fs ad σ ci a).set k v)) = fd_ws ad ca τ := by
  refine fd_ws_set e (fun i hi => fd_cell_eq rfl (fun j => h1 i j (Or.inl hi)) (fun j => by rw [h2 i j (Or.inl hi)]) (fun j => h3 i j (Or.inl hi))) ?_
  unfold fd_cell
  rw [hsh]
  show Sum.inr (ci, fd_fs ad τ ci a) = Sum.inr (ci, (fd_fs ad σ ci a).set k v)
  rw [fd_fs_set (τ := τ) (fun j hj t => by cases t <;> simp [fd_fv, h1 a j (Or.inr hj), h2 a j (Or.inr hj), h3 a j (Or.inr hj)]) hv]
theorem fd_u_or {α : Type} {f : Nat → Nat → α} {a k i j : Nat} {v : α} (h : i ≠ a ∨ j ≠ k) : fd_u f a k v i j = f i j := h.elim fd_u_ne fd_u_ne2
theorem fd_ws_iarr {ad : Nat → Nat} {ca : Nat → ClassId} {σ : fd_S} {a n k : Nat} {v : Int32} (hsh : fd_sh a = .inr (n, none)) : (fd_ws ad ca σ).set a (ad a, .inl (ca a, n, .inl (upd (fun j => σ.2.1 a j) k v))) = fd_ws ad ca (fd_si σ a k v) := by
  refine fd_ws_set (σ := σ) (τ := fd_si σ a k v) rfl (fun i hi => fd_cell_eq (σ := σ) (τ := fd_si σ a k v) rfl (fun j => fd_u_ne hi) (fun j => rfl) (fun j => rfl)) ?_
  unfold fd_cell
  rw [hsh]
  show Sum.inl (ca a, n, Sum.inl (fun j => fd_u σ.2.1 a k v a j)) = _
  congr 4
  funext j
  simp [fd_u, upd]
theorem fd_ws_rarr {ad : Nat → Nat} {ca : Nat → ClassId} {σ : fd_S} {a n k c z : Nat} (hsh : fd_sh a = .inr (n, some c)) : (fd_ws ad ca σ).set a (ad a, .inl (ca a, n, .inr (.inr (.inr (.inr (va_up (fun j => (σ.2.2.1 a j).map ad) k (some (ad z)))))))) = fd_ws ad ca (fd_sr σ a k (some z)) := by
  refine fd_ws_set (σ := σ) (τ := fd_sr σ a k (some z)) rfl (fun i hi => fd_cell_eq (σ := σ) (τ := fd_sr σ a k (some z)) rfl (fun j => rfl) (fun j => by show (fd_u σ.2.2.1 a k (some z) i j).map ad = _; rw [fd_u_ne hi]) (fun j => rfl)) ?_
  unfold fd_cell
  rw [hsh]
  show Sum.inl (ca a, n, Sum.inr (Sum.inr (Sum.inr (Sum.inr (fun j => (fd_u σ.2.2.1 a k (some z) a j).map ad))))) = _
  congr 7
  funext j
  by_cases h : j = k <;> simp [fd_u, va_up, h]
theorem fd_cell_obj {ad : Nat → Nat} {ca : Nat → ClassId} {σ : fd_S} {a ci : Nat} (h : fd_sh a = .inl ci) : fd_cell ad ca σ a = .inr (ci, fd_fs ad σ ci a) := by unfold fd_cell; rw [h]
theorem fd_cell_int {ad : Nat → Nat} {ca : Nat → ClassId} {σ : fd_S} {a n : Nat} (h : fd_sh a = .inr (n, none)) : fd_cell ad ca σ a = .inl (ca a, n, .inl (fun j => σ.2.1 a j)) := by unfold fd_cell; rw [h]
theorem fd_cell_ref {ad : Nat → Nat} {ca : Nat → ClassId} {σ : fd_S} {a n c : Nat} (h : fd_sh a = .inr (n, some c)) : fd_cell ad ca σ a = .inl (ca a, n, .inr (.inr (.inr (.inr (fun j => (σ.2.2.1 a j).map ad))))) := by unfold fd_cell; rw [h]
theorem fd_Ka {dC : Nat → ClassId} {dI : Nat → Nat → Nat} {s : State} {ca : Nat → ClassId} {σ : fd_S} {a n : Nat} {c : Option Nat} (hK : va_K (dC, dI) vwCl [] s) (hKA : fd_KA s ca σ) (ha : a < σ.1) (hs : fd_sh a = .inr (n, c)) : va_K (dC, dI) vwCl [(ca a, fd_ety c)] s := by
  refine ⟨hK.1, fun k q hk => ?_⟩
  cases k with
  | zero => cases hk; exact hKA a n c ha hs
  | succ k => simp at hk
theorem fd_ft_use {o i ci k : Nat} (h : fd_ftl o i ci k = true) : (Jvm.Cond.fieldLink (fd_R o) i (fd_T ci k).1 (fd_T ci k).2.1 (fd_T ci k).2.2.1) ∈ fd_tb ∧ ci < 5 ∧ k < fd_nf ci := by
  unfold fd_ftl at h
  obtain ⟨q, hq, he⟩ := List.any_eq_true.mp h
  simp only [Bool.and_eq_true, beq_iff_eq] at he
  obtain ⟨⟨⟨rfl, rfl⟩, rfl⟩, rfl⟩ := he
  have := fd_ft_ok q hq
  simp only [Bool.and_eq_true, decide_eq_true_eq] at this
  exact ⟨fd_at_tb this.1.1, this.1.2, this.2⟩
theorem fd_wsIn {ci : Nat} (h : ci < 5) : ∀ w ∈ u_ws (fd_R ci) (fd_T ci) (fd_nf ci), w ∈ fd_tb := by
  have := fd_cls_ok ci h
  simp only [Bool.and_eq_true, List.all_eq_true] at this
  exact fun w hw => fd_in_tb (this.2 w hw)
theorem fd_callW {p : Program} {l : Launch} {e : Env} {R : Room} {s : State} {m : MethodId} {args : Array Value} {below : List Frame} {meth : Method} {c : Code} {H : Heap} {locs : List Loc} {cells slots : Nat} {Q : State → Prop} {pc : Nat} {ls : Array Slot} {rest st0 : List Value} {A0 A1 : Nat → Prop} {H0 : Heap} {mc ms : Nat} {free : Addr → Prop} {Qa : State → Outcome → State → Prop}
    (hr : va_Run p l e R s m args below meth c H locs cells slots mc ms (F0 m pc ls st0) rest Qa free) (hS : va_S A0 H0 H locs) (hQ : ∀ st oc t, Qa st oc t → va_F A1 st t) (hA : ∀ q, q < H.size → A1 q → A0 q) (hf : ∀ q, free q → A0 q)
    (kk : ∀ (v : Option Value) (st t : State) (locs1 : List Loc), st.heap = H → s.vm.Alike t.vm → Qa st (.returned v) t → va_S A0 H0 t.heap locs1 → W p l e R s m args below meth c t.heap locs1 (cells + mc) (slots + ms) Q (F0 m (pc + 3) ls (v.toList ++ rest))) : W p l e R s m args below meth c H locs cells slots Q (F0 m pc ls st0) := by
  intro T hT X
  obtain ⟨v, st₀, t, T', L, h0, X', hL, e1, e2, hq, st⟩ := hr T hT X
  obtain ⟨hz, hk⟩ := hQ _ _ _ hq
  rw [h0] at hz hk
  obtain ⟨t2, a1, b1⟩ := kk v st₀ t (locs ++ L) h0 (by rw [← e2]; exact X'.warmed.alike) hq
    ⟨Nat.le_trans hS.1 hz, fun q h1 h2 => by rw [hk q (Nat.lt_of_lt_of_le h1 hS.1) (fun z => h2 (hA q (Nat.lt_of_lt_of_le h1 hS.1) z))]; exact hS.2.1 q h1 h2, fun q hq => by
      rcases List.mem_append.mp hq with h | h
      · exact hS.2.2 q h
      · exact hf _ (hL q h)⟩ T' e1 X'
  exact ⟨t2, st t2 a1, b1⟩
end
section
theorem fd_tgt_use {mi pc k : Nat} {off : Int} (h : fd_tgt mi pc off k = true) : ∃ tg : Nat, (pc : Int) + off = (tg : Int) ∧ fd_pc ((fd_code mi).drop k) = tg := by
  unfold fd_tgt at h
  split at h
  · rename_i e he
    exact ⟨e.1, of_decide_eq_true h, fd_pc_drop he⟩
  · cases h
theorem fd_vin0 {v : Int32} (h : v = 0 ∨ v = 1) : narrow .boolean (.int v) = .int v ∧ fits .boolean (.int v) = true := by
  rcases h with rfl | rfl <;> decide
section
variable {p : Program} {l : Launch} {e : Env} {R : Room} {s : State} {m : MethodId} {args : Array Value} {below : List Frame} {meth : Method} {c : Code} {Q : State → Prop}
variable {mi D : Nat} {A : Nat → Prop} {tA : Nat → Nat} {dC : Nat → ClassId} {dI : Nat → Nat → Nat} {N0 : Nat} {ad0 : Nat → Nat} {ca0 : Nat → ClassId} {scr : Option (Nat × (Nat → Int32))} {C : fd_C} {post : Option fd_V → fd_S → Prop}
/-- a field is read -/
theorem fd_w_gf (cx : fd_ctx p R s m args meth c mi D A tA dC dI scr) {pc ci k a i : Nat} {lv : fd_L} {t : List fd_V} {σ : fd_S} {cc ss : Nat} {w : fd_V} (hl : fd_ftl (fd_own mi) i ci k = true) (hd : decode (fd_b mi) pc = .ok (.getfield i, 3)) (ha : a < σ.1) (hs : fd_sh a = .inl ci) (hw : ∀ ad, fd_fv ad σ a k (fd_tyf ci k) = fd_tr tA ad w)
    (kk : fd_Wp p l e R s m args below meth c Q mi A tA dC dI N0 ad0 ca0 (pc + 3) lv (w :: t) σ cc ss) : fd_Wp p l e R s m args below meth c Q mi A tA dC dI N0 ad0 ca0 pc lv (.inr (.inr (.inl (some a))) :: t) σ cc ss := by
  intro ad ca H locs ls hR
  obtain ⟨hx, hb, hml, hown, hts, hK, hst, hnst, hA, hroom, hfr, hscr, hnm⟩ := id cx
  obtain ⟨hlk, hci, hk⟩ := fd_ft_use hl
  have he : (fd_ws ad ca σ)[a]? = some (ad a, .inr (ci, fd_fs ad σ ci a)) := by rw [fd_ws_get ha, fd_cell_obj hs]
  have := kk ad ca H locs ls hR
  rw [List.map_cons, ← hw ad] at this
  exact va_get (D := (dC, dI)) hx hb hts (fd_wsIn hci) hown hK hR.1 a he (fd_vwCl hci) k hk (hts _ hlk) (fun _ h => h) (fd_fs_get hk) hd this
/-- a field is written -/
theorem fd_w_pf (cx : fd_ctx p R s m args meth c mi D A tA dC dI scr) {pc ci k a i f : Nat} {lv : fd_L} {t : List fd_V} {σ τ : fd_S} {cc ss : Nat} {w : fd_V} (hl : fd_ftl (fd_own mi) i ci k = true) (hf : (match f with
      | 0 => (fd_T ci k).2.2.2 == false
      | _ => (fd_T ci k).2.2.2 == true && (fd_y mi).name == "<init>" && fd_own mi == ci) = true) (hd : decode (fd_b mi) pc = .ok (.putfield i, 3)) (ha : a < σ.1) (hs : fd_sh a = .inl ci)
    (hn : ∀ ad, narrow (fd_tyf ci k) (fd_tr tA ad w) = fd_tr tA ad w ∧ fits (fd_tyf ci k) (fd_tr tA ad w) = true) (hτ : τ.1 = σ.1 ∧ (∀ i j, (i ≠ a ∨ j ≠ k) → τ.2.1 i j = σ.2.1 i j) ∧ (∀ i j, (i ≠ a ∨ j ≠ k) → τ.2.2.1 i j = σ.2.2.1 i j) ∧ (∀ i j, (i ≠ a ∨ j ≠ k) → τ.2.2.2 i j = σ.2.2.2 i j) ∧ ∀ ad, fd_fv ad τ a k (fd_tyf ci k) = fd_tr tA ad w)
    (kk : fd_Wp p l e R s m args below meth c Q mi A tA dC dI N0 ad0 ca0 (pc + 3) lv t τ cc ss) : fd_Wp p l e R s m args below meth c Q mi A tA dC dI N0 ad0 ca0 pc lv (w :: .inr (.inr (.inl (some a))) :: t) σ cc ss := by
  intro ad ca H locs ls hR
  obtain ⟨hx, hb, hml, hown, hts, hK, hst, hnst, hA, hroom, hfr, hscr, hnm⟩ := id cx
  obtain ⟨hlk, hci, hk⟩ := fd_ft_use hl
  obtain ⟨hP, hD, hKA, hE, hS, hlv, hcc, hss⟩ := hR
  have he : (fd_ws ad ca σ)[a]? = some (ad a, .inr (ci, fd_fs ad σ ci a)) := by rw [fd_ws_get ha, fd_cell_obj hs]
  have hset := fd_ws_fld (ad := ad) (ca := ca) (v := fd_tr tA ad w) hs hτ.1 hτ.2.1 hτ.2.2.1 hτ.2.2.2.1 (hτ.2.2.2.2 ad)
  have hlen : k < (fd_fs ad σ ci a).length := by simp [fd_fs, hk]
  have hgo : ∀ (H1 : Heap) (locs1 : List Loc), va_P (dC, dI) vwCl ((fd_ws ad ca σ).set a (ad a, .inr (ci, (fd_fs ad σ ci a).set k (fd_tr tA ad w)))) H1 → va_D A ((fd_ws ad ca σ).set a (ad a, .inr (ci, (fd_fs ad σ ci a).set k (fd_tr tA ad w)))) → va_S A s.heap H1 locs1 → W p l e R s m args below meth c H1 locs1 cc ss Q (F0 m (pc + 3) ls (t.map (fd_tr tA ad))) := by
    intro H1 locs1 hP1 hD1 hS1
    rw [hset] at hP1 hD1
    exact kk ad ca H1 locs1 ls ⟨hP1, hD1, fun a' n' c' ha' => hKA a' n' c' (by rw [← hτ.1]; exact ha'), ⟨hE.1, by rw [hτ.1]; exact hE.2.1, fun h0 => by rw [hτ.1]; exact hE.2.2 h0⟩, hS1, hlv, hcc, hss⟩
  match f, hf with
  | 0, hf =>
    have hfin : (fd_T ci k).2.2.2 = false := beq_iff_eq.mp hf
    exact va_put (D := (dC, dI)) hx hb hts (fd_wsIn hci) (fd_tyf ci) (fd_tyok hci) (fd_nm hci) hown hK hP hD hS a he (fd_vwCl hci) k hk (hts _ hlk) (fun _ h => h) hfin (fd_tyok hci k hk) (hn ad).1 (hn ad).2 hlen hd hgo
  | f + 1, hf =>
    simp only [Bool.and_eq_true, beq_iff_eq] at hf
    obtain ⟨⟨hfin, hin⟩, ho⟩ := hf
    exact va_putF (D := (dC, dI)) hx hb hts (fd_wsIn hci) (fd_tyf ci) (fd_tyok hci) (fd_nm hci) hown hK hP hD hS a he (fd_vwCl hci) k hk (hts _ hlk) (fun _ h => h) hfin (hnm hin) (by rw [fd_own1 hci k hk, ho]) (fd_tyok hci k hk) (hn ad).1 (hn ad).2 hlen hd hgo
/-- what is on hand where a cell has been made -/
theorem fd_w_new {lv : fd_L} {t : List fd_V} {σ : fd_S} {cc ss nc ns : Nat} {ad : Nat → Nat} {ca : Nat → ClassId} {H1 : Heap} {locs : List Loc} {ls : Array Slot} {q : Nat} {cA : ClassId} {x : va_E} {c1 : Code} {pc : Nat}
    (hnew : fd_new mi lv t σ cc ss (nc + 1) ns) (hKA : fd_KA s ca σ) (hKn : ∀ n c', fd_sh σ.1 = .inr (n, c') → ArrOfT s cA (fd_ety c') ∧ va_RA s cA (fd_ety c')) (hE : fd_ext N0 ad0 ca0 (fd_mc mi) ad ca σ) (hlv : lv_has ls (fd_mL mi) (fd_lv tA ad lv)) (hcell : fd_cell (va_up ad σ.1 q) (vp_upC ca σ.1 cA) (fd_alloc σ) σ.1 = x)
    (hP1 : va_P (dC, dI) vwCl (fd_ws ad ca σ ++ [(q, x)]) H1) (hD1 : va_D A (fd_ws ad ca σ ++ [(q, x)])) (hS1 : va_S A s.heap H1 locs)
    (kk : fd_Wp p l e R s m args below meth c1 Q mi A tA dC dI N0 ad0 ca0 pc lv (.inr (.inr (.inl (some σ.1))) :: t) (fd_alloc σ) (cc + (nc + 1)) (ss + ns)) : W p l e R s m args below meth c1 H1 locs (cc + (nc + 1)) (ss + ns) Q (F0 m pc ls (.ref q :: t.map (fd_tr tA ad))) := by
  obtain ⟨h1, h2, h3, h4, h5⟩ := hnew
  have hup : ∀ i, i < σ.1 → va_up ad σ.1 q i = ad i := fun i hi => by simp [va_up, Nat.ne_of_lt hi]
  have hupc : ∀ i, i < σ.1 → vp_upC ca σ.1 cA i = ca i := fun i hi => by simp [vp_upC, Nat.ne_of_lt hi]
  rw [fd_ws_push h5 hcell] at hP1 hD1
  have := kk (va_up ad σ.1 q) (vp_upC ca σ.1 cA) H1 locs ls ⟨hP1, hD1, ?_, ⟨fun i hi => (hup i (Nat.lt_of_lt_of_le hi hE.2.1)).trans (hE.1 i hi), Nat.le_succ_of_le hE.2.1, fun h0 => by omega⟩, hS1, by rw [fd_lv_ext hup h3]; exact hlv, h1, h2⟩
  · rw [List.map_cons, fd_trV_ext hup h4] at this
    have e1 : fd_tr tA (va_up ad σ.1 q) (.inr (.inr (.inl (some σ.1)))) = .ref q := by simp [fd_tr, va_up, va_rf]
    rw [e1] at this
    exact this
  · intro a n c' ha hs
    have ha' : a < σ.1 + 1 := ha
    by_cases hq : a = σ.1
    · subst hq
      have e2 : vp_upC ca σ.1 cA σ.1 = cA := by simp [vp_upC]
      rw [e2]; exact hKn n c' hs
    · have hlt : a < σ.1 := by omega
      rw [hupc a hlt]; exact hKA a n c' hlt hs
end
end
section
theorem fd_mok_use {k : Nat} (h : k < 79) : Jvm.Cond.code (fd_y k) (fd_b k) (fd_mL k) (fd_ret k) ∈ fd_tb ∧ Jvm.Cond.initialized (fd_y k).cls ∈ fd_tb ∧ (fd_y k).cls = fd_R (fd_own k) ∧ plainName (fd_y k).cls = true ∧ (fd_y k).cls ≠ "java/lang/invoke/MethodHandle" ∧ (fd_y k).cls ≠ "java/lang/invoke/VarHandle" ∧ (parseMethodDescriptor (fd_y k).desc).map (fun d => d.parameters.length) = some (fd_np k) ∧ fd_ckL k (fd_code k) = true ∧ fd_own k < 5 ∧ fd_mL k ≤ 20 := by
  have := fd_mok_all k h
  unfold fd_mok at this
  simp only [Bool.and_eq_true, decide_eq_true_eq, beq_iff_eq] at this
  obtain ⟨⟨⟨⟨⟨⟨⟨⟨⟨h1, h2⟩, h3⟩, h4⟩, h5⟩, h6⟩, h7⟩, h8⟩, h9⟩, h10⟩ := this
  exact ⟨fd_in_tb h1, fd_in_tb h2, h3, h4, h5, h6, h7, h8, h9, h10⟩
theorem fd_mS0a : ∀ k, k < 79 → (fd_mc k == 0 → fd_mS k == 0) := by decide +kernel
theorem fd_mS0 {k : Nat} (h : k < 79) (h0 : fd_mc k = 0) : fd_mS k = 0 := by
  have := fd_mS0a k h
  simp only [beq_iff_eq] at this
  exact this h0
def fd_mtP (o i k kd : Nat) : Prop := match kd with
  | 0 => Jvm.Cond.methodLink (fd_R o) i (fd_y k) ∈ fd_tb ∧ Jvm.Cond.instanceMethod (fd_y k) ∈ fd_tb ∧ Jvm.Cond.selects (fd_y k).cls (fd_y k) (fd_y k) ∈ fd_tb
  | 1 => Jvm.Cond.methodLink (fd_R o) i (fd_y k) ∈ fd_tb ∧ Jvm.Cond.static (fd_y k) ∈ fd_tb
  | 2 => Jvm.Cond.methodLink (fd_R o) i (fd_y k) ∈ fd_tb ∧ Jvm.Cond.instanceMethod (fd_y k) ∈ fd_tb ∧ (fd_y k).name = "<init>" ∧ fd_ret k = none
  | 3 => (∃ j : Nat, lw_tbl[j]? = some (Jvm.Cond.methodLinkNest (fd_R o) i (fd_y k) RX3)) ∧ Jvm.Cond.static (fd_y k) ∈ fd_tb
  | 4 => (∃ j : Nat, lw_tbl[j]? = some (Jvm.Cond.methodLinkNest (fd_R o) i (fd_y k) RX3)) ∧ Jvm.Cond.instanceMethod (fd_y k) ∈ fd_tb ∧ (fd_y k).name = "<init>" ∧ fd_ret k = none
  | _ => False
theorem fd_mt_use {o i k kd : Nat} (h : fd_mtl o i k kd = true) : k < 79 ∧ fd_mtP o i k kd := by
  unfold fd_mtl at h
  obtain ⟨q, hq, he⟩ := List.any_eq_true.mp h
  simp only [Bool.and_eq_true, beq_iff_eq] at he
  obtain ⟨⟨⟨rfl, rfl⟩, rfl⟩, rfl⟩ := he
  have hk := fd_mt_ok q hq
  unfold fd_mtok at hk
  simp only [Bool.and_eq_true, decide_eq_true_eq] at hk
  obtain ⟨h1, h2⟩ := hk
  refine ⟨h1, ?_⟩
  generalize q.2.2.2.1 = kd at h2 ⊢
  match kd, h2 with
  | 0, h2 => simp only [Bool.and_eq_true] at h2; exact ⟨fd_at_tb h2.1.1, fd_in_tb h2.1.2, fd_in_tb h2.2⟩
  | 1, h2 => simp only [Bool.and_eq_true] at h2; exact ⟨fd_at_tb h2.1, fd_in_tb h2.2⟩
  | 2, h2 => simp only [Bool.and_eq_true, beq_iff_eq, decide_eq_true_eq] at h2; exact ⟨fd_at_tb h2.1.1.1, fd_in_tb h2.1.1.2, h2.1.2, h2.2⟩
  | 3, h2 => simp only [Bool.and_eq_true, decide_eq_true_eq] at h2; exact ⟨⟨_, h2.1⟩, fd_in_tb h2.2⟩
  | 4, h2 => simp only [Bool.and_eq_true, beq_iff_eq, decide_eq_true_eq] at h2; exact ⟨⟨_, h2.1.1.1⟩, fd_in_tb h2.1.1.2, h2.1.2, h2.2⟩
  | n + 5, h2 => cases h2
/-- the links between nest mates: there are two -/
theorem fd_nest_ok : ∀ q ∈ fd_mt, (q.2.2.2.1 = 3 → q.1 = 0 ∧ q.2.1 = 54 ∧ q.2.2.1 = 37) ∧ (q.2.2.2.1 = 4 → q.1 = 3 ∧ q.2.1 = 27 ∧ q.2.2.1 = 0) := by decide +kernel
theorem fd_nest3 {o i k : Nat} (h : fd_mtl o i k 3 = true) : o = 0 ∧ i = 54 ∧ k = 37 := by
  unfold fd_mtl at h
  obtain ⟨q, hq, he⟩ := List.any_eq_true.mp h
  simp only [Bool.and_eq_true, beq_iff_eq] at he
  obtain ⟨⟨⟨rfl, rfl⟩, rfl⟩, h4⟩ := he
  exact (fd_nest_ok q hq).1 h4
theorem fd_nest4 {o i k : Nat} (h : fd_mtl o i k 4 = true) : o = 3 ∧ i = 27 ∧ k = 0 := by
  unfold fd_mtl at h
  obtain ⟨q, hq, he⟩ := List.any_eq_true.mp h
  simp only [Bool.and_eq_true, beq_iff_eq] at he
  obtain ⟨⟨⟨rfl, rfl⟩, rfl⟩, h4⟩ := he
  exact (fd_nest_ok q hq).2 h4
section
variable {p : Program} {l : Launch} {e : Env} {R : Room} {s : State} {m : MethodId} {args : Array Value} {below : List Frame} {meth : Method} {c : Code} {Q : State → Prop}
variable {mi D : Nat} {A : Nat → Prop} {tA : Nat → Nat} {dC : Nat → ClassId} {dI : Nat → Nat → Nat} {N0 : Nat} {ad0 : Nat → Nat} {ca0 : Nat → ClassId} {scr : Option (Nat × (Nat → Int32))} {C : fd_C} {post : Option fd_V → fd_S → Prop}
/-- a call has come back -/
theorem fd_w_after (cx : fd_ctx p R s m args meth c mi D A tA dC dI scr) {k pc : Nat} {lv : fd_L} {t : List fd_V} {σ : fd_S} {cc ss : Nat} {ad : Nat → Nat} {ca : Nat → ClassId} {H : Heap} {locs : List Loc} {ls : Array Slot} {st0 : List Value} {av : Array Value} {pk : Option fd_V → fd_S → Prop}
    (hR : fd_Rp s mi A tA dC dI N0 ad0 ca0 lv σ cc ss ad ca H locs ls) (hbud : cc + fd_mc k ≤ fd_mc mi ∧ ss + fd_mS k ≤ fd_mS mi) (hal : fd_mc k = 0 ∨ (fd_okL σ.1 lv ∧ fd_okV σ.1 t))
    (hr : va_Run p l e R s m args below meth c H locs cc ss (fd_mc k) (fd_mS k) (F0 m pc ls st0) (t.map (fd_tr tA ad)) (fd_Qc tA dC dI ad ca σ (fd_mc k) pk (va_A (fd_ws ad ca σ) H.size) av) (va_A (fd_ws ad ca σ) H.size))
    (kk : ∀ r σ', pk r σ' → fd_Wp p l e R s m args below meth c Q mi A tA dC dI N0 ad0 ca0 (pc + 3) lv (r.toList ++ t) σ' (cc + fd_mc k) (ss + fd_mS k)) : W p l e R s m args below meth c H locs cc ss Q (F0 m pc ls st0) := by
  obtain ⟨hx, hb, hml, hown, hts, hK, hst, hnst, hA, hroom, hfr, hscr, hnm⟩ := id cx
  obtain ⟨hP, hD, hKA, hE, hS, hlv, hcc, hss⟩ := hR
  have hsub : ∀ q, va_A (fd_ws ad ca σ) H.size q → A q := by
    intro q hq
    rcases hq with ⟨k', e', hk'⟩ | hq
    · exact hD.2 k' _ hk'
    · exact hA q (Nat.le_trans hS.1 hq)
  refine fd_callW (A1 := va_A (fd_ws ad ca σ) H.size) hr hS (fun st oc t h => h.2) (fun q _ h => hsub q h) hsub ?_
  intro v st t' locs1 hst0 hvm hq hS1
  obtain ⟨⟨r, σ', ad', ca', hv, hpk, hP1, hD1, hKA1, hE1⟩, hF⟩ := hq
  cases hv
  have hok : fd_lv tA ad' lv = fd_lv tA ad lv ∧ t.map (fd_tr tA ad') = t.map (fd_tr tA ad) := by
    rcases hal with h0 | ⟨h1, h2⟩
    · rw [(hE1.2.2 h0).1]; exact ⟨rfl, rfl⟩
    · exact ⟨fd_lv_ext hE1.1 h1, fd_trV_ext hE1.1 h2⟩
  have := kk r σ' hpk ad' ca' t'.heap locs1 ls ⟨hP1, hD1.weaken (fun _ _ _ h => hsub _ h), hKA1.moved hvm.symm, ⟨fun i hi => (hE1.1 i (Nat.lt_of_lt_of_le hi hE.2.1)).trans (hE.1 i hi), Nat.le_trans hE.2.1 hE1.2.1, fun h0 => ?_⟩, hS1, by rw [hok.1]; exact hlv, hbud.1, hbud.2⟩
  · rw [List.map_append, hok.2] at this
    have e1 : (r.toList).map (fd_tr tA ad') = (r.map (fd_tr tA ad')).toList := by cases r <;> rfl
    rw [e1] at this
    exact this
  · have hz : fd_mc k = 0 := by omega
    obtain ⟨e1, e2, e3⟩ := hE1.2.2 hz
    obtain ⟨f1, f2, f3⟩ := hE.2.2 h0
    exact ⟨e1.trans f1, e2.trans f2, e3.trans f3⟩
/-- what the one that is called is given -/
theorem fd_w_pre (cx : fd_ctx p R s m args meth c mi D A tA dC dI scr) {lv : fd_L} {as : List fd_V} {σ : fd_S} {cc ss : Nat} {ad : Nat → Nat} {ca : Nat → ClassId} {H : Heap} {locs : List Loc} {ls : Array Slot}
    (hR : fd_Rp s mi A tA dC dI N0 ad0 ca0 lv σ cc ss ad ca H locs ls) : PreS s H (va_Pc (as.map (fd_tr tA ad)) (fd_Pre tA dC dI ad ca σ H.size)) (as.map (fd_tr tA ad)) := by
  obtain ⟨hx, hb, hml, hown, hts, hK, hst, hnst, hA, hroom, hfr, hscr, hnm⟩ := id cx
  obtain ⟨hP, hD, hKA, hE, hS, hlv, hcc, hss⟩ := hR
  have hsub : ∀ q, va_A (fd_ws ad ca σ) H.size q → A q := by
    intro q hq
    rcases hq with ⟨k', e', hk'⟩ | hq
    · exact hD.2 k' _ hk'
    · exact hA q (Nat.le_trans hS.1 hq)
  refine ⟨fd_blind _ tA dC dI ad ca σ _, fun U hU hW => ⟨rfl, by rw [hU], by rw [hU]; exact hP, va_K.moved hW.alike hK, hKA.moved hW.alike, hD.weaken (fun _ _ _ _ => trivial), ?_, hnst.warm hW⟩⟩
  rw [hU]
  exact ((hst.kept (fun a h1 h2 => hS.2.1 a h1 h2)).narrow hsub).moved hW.alike
theorem fd_rmle (cx : fd_ctx p R s m args meth c mi D A tA dC dI scr) {k : Nat} (hk : fd_mL k ≤ 20) : (fd_rm D k).frames + 1 ≤ R.frames ∧ 8 + (fd_mL k + 11) + (fd_rm D k).locals ≤ R.locals := by
  obtain ⟨hx, hb, hml, hown, hts, hK, hst, hnst, hA, hroom, hfr, hscr, hnm⟩ := id cx
  refine ⟨hfr.1, ?_⟩
  show 8 + (fd_mL k + 11) + 40 * D ≤ R.locals
  omega
theorem fd_gk {k : Nat} (h : k < 79) : ∀ w ∈ fd_wk k, w ∈ fd_tb := fun w hw => by
  rcases List.mem_cons.mp hw with rfl | hw
  · exact (fd_mok_use h).1
  · exact hw
/-- a call of a static method -/
theorem fd_w_S (cx : fd_ctx p R s m args meth c mi D A tA dC dI scr) (hC : ∀ k as σ pk, k < 79 → fd_cats as ≤ fd_mL k → C k as σ pk → fd_Met l D k as σ pk) {k pc i kd : Nat} {lv : fd_L} {as t : List fd_V} {σ : fd_S} {cc ss : Nat} {pk : Option fd_V → fd_S → Prop} (hkd : kd = 1 ∨ kd = 3) (hl : fd_mtl (fd_own mi) i k kd = true) (hd : decode (fd_b mi) pc = .ok (.invokestatic i, 3)) (hn : as.length = fd_np k) (ht : fd_cats t ≤ 8) (has : fd_cats as ≤ fd_mL k)
    (hbud : cc ≤ fd_mc mi → ss ≤ fd_mS mi → cc + fd_mc k ≤ fd_mc mi ∧ ss + fd_mS k ≤ fd_mS mi) (hal : fd_mc k = 0 ∨ (fd_okL σ.1 lv ∧ fd_okV σ.1 t)) (h : C k as σ pk)
    (kk : ∀ r σ', pk r σ' → fd_Wp p l e R s m args below meth c Q mi A tA dC dI N0 ad0 ca0 (pc + 3) lv (r.toList ++ t) σ' (cc + fd_mc k) (ss + fd_mS k)) : fd_Wp p l e R s m args below meth c Q mi A tA dC dI N0 ad0 ca0 pc lv (as.reverse ++ t) σ cc ss := by
  intro ad ca H locs ls hR
  obtain ⟨hx, hb, hml, hown, hts, hK, hst, hnst, hA, hroom, hfr, hscr, hnm⟩ := id cx
  obtain ⟨hk, hw⟩ := fd_mt_use hl
  obtain ⟨hy1, hy2, hy3, hy4, hy5, hy6, hy7, hy8, hy9, hy10⟩ := fd_mok_use hk
  have hb2 := hbud hR.2.2.2.2.2.2.1 hR.2.2.2.2.2.2.2
  have hM := hC k as σ pk hk has h dC dI tA ad ca H.size
  have hf : cc + fd_mc k ≤ R.cells ∧ ss + fd_mS k ≤ R.slots := ⟨Nat.le_trans hb2.1 hroom.1, Nat.le_trans hb2.2 hroom.2⟩
  have hrm : 2 * (F0 m pc ls ((as.reverse ++ t).map (fd_tr tA ad))).monitorRoom + ((t.map (fd_tr tA ad)).map fun v => v.category).sum ≤ 8 := lv_room (by rw [fd_cats_tr]; exact ht)
  have hstk : (F0 m pc ls ((as.reverse ++ t).map (fd_tr tA ad))).stack = (as.map (fd_tr tA ad)).reverse ++ t.map (fd_tr tA ad) := by
    show (as.reverse ++ t).map (fd_tr tA ad) = _
    rw [List.map_append, List.map_reverse]
  refine fd_w_after (av := (as.map (fd_tr tA ad)).toArray) cx hR hb2 hal ?_ kk
  rcases hkd with rfl | rfl
  · exact va_runS ⟨hx, hb, hml, hown, hts⟩ hM (va_cwS (fd_np k) hts (fd_good (by
      intro w hw'
      simp only [va_wsS, List.mem_append, List.mem_cons, List.not_mem_nil, or_false] at hw'
      rcases hw' with (rfl | rfl | rfl) | hw'
      · exact hw.1
      · exact hw.2
      · exact hy2
      · exact fd_gk hk w hw')) rfl rfl rfl ⟨hy5, hy6, hy7⟩ (fd_rmle cx hy10)) (fd_w_pre cx hR) rfl (by rw [List.length_map]; exact hn) hR.2.2.2.2.2.1.1 hstk hrm hd hf
  · obtain ⟨e1, e2, e3⟩ := fd_nest3 hl
    have hnl : va_Nw (.methodLinkNest (fd_R (fd_own mi)) i (fd_y k) RX3) s := by rw [e1, e2, e3]; exact hnst.1
    exact va_runSN ⟨hx, hb, hml, hown, hts⟩ hM ⟨va_cnB (fd_np k) hts (fd_good (fd_gk hk)) rfl rfl rfl hnl (hts _ hy2) ⟨hy5, hy6, hy7⟩ (fd_rmle cx hy10), hts _ hw.2, trivial⟩ (fd_w_pre cx hR) rfl (by rw [List.length_map]; exact hn) hR.2.2.2.2.2.1.1 hstk hrm hd hf
/-- a call of a constructor -/
theorem fd_w_I (cx : fd_ctx p R s m args meth c mi D A tA dC dI scr) (hC : ∀ k as σ pk, k < 79 → fd_cats as ≤ fd_mL k → C k as σ pk → fd_Met l D k as σ pk) {k pc i kd a : Nat} {lv : fd_L} {as t : List fd_V} {σ : fd_S} {cc ss : Nat} {pk : Option fd_V → fd_S → Prop} (hkd : kd = 2 ∨ kd = 4) (hl : fd_mtl (fd_own mi) i k kd = true) (hd : decode (fd_b mi) pc = .ok (.invokespecial i, 3)) (hn : as.length = fd_np k) (ht : fd_cats t ≤ 8) (has : fd_cats (.inr (.inr (.inl (some a))) :: as) ≤ fd_mL k)
    (hbud : cc ≤ fd_mc mi → ss ≤ fd_mS mi → cc + fd_mc k ≤ fd_mc mi ∧ ss + fd_mS k ≤ fd_mS mi) (hal : fd_mc k = 0 ∨ (fd_okL σ.1 lv ∧ fd_okV σ.1 t)) (h : C k (.inr (.inr (.inl (some a))) :: as) σ pk)
    (kk : ∀ r σ', pk r σ' → fd_Wp p l e R s m args below meth c Q mi A tA dC dI N0 ad0 ca0 (pc + 3) lv (r.toList ++ t) σ' (cc + fd_mc k) (ss + fd_mS k)) : fd_Wp p l e R s m args below meth c Q mi A tA dC dI N0 ad0 ca0 pc lv (as.reverse ++ .inr (.inr (.inl (some a))) :: t) σ cc ss := by
  intro ad ca H locs ls hR
  obtain ⟨hx, hb, hml, hown, hts, hK, hst, hnst, hA, hroom, hfr, hscr, hnm⟩ := id cx
  obtain ⟨hk, hw⟩ := fd_mt_use hl
  obtain ⟨hy1, hy2, hy3, hy4, hy5, hy6, hy7, hy8, hy9, hy10⟩ := fd_mok_use hk
  have hb2 := hbud hR.2.2.2.2.2.2.1 hR.2.2.2.2.2.2.2
  have hM := hC k (.inr (.inr (.inl (some a))) :: as) σ pk hk has h dC dI tA ad ca H.size
  have hf : cc + fd_mc k ≤ R.cells ∧ ss + fd_mS k ≤ R.slots := ⟨Nat.le_trans hb2.1 hroom.1, Nat.le_trans hb2.2 hroom.2⟩
  have hrm : 2 * (F0 m pc ls ((as.reverse ++ .inr (.inr (.inl (some a))) :: t).map (fd_tr tA ad))).monitorRoom + ((t.map (fd_tr tA ad)).map fun v => v.category).sum ≤ 8 := lv_room (by rw [fd_cats_tr]; exact ht)
  have hstk : (F0 m pc ls ((as.reverse ++ .inr (.inr (.inl (some a))) :: t).map (fd_tr tA ad))).stack = (as.map (fd_tr tA ad)).reverse ++ .ref (ad a) :: t.map (fd_tr tA ad) := by
    show (as.reverse ++ .inr (.inr (.inl (some a))) :: t).map (fd_tr tA ad) = _
    rw [List.map_append, List.map_reverse]; rfl
  refine fd_w_after (av := (Value.ref (ad a) :: as.map (fd_tr tA ad)).toArray) cx hR hb2 hal ?_ kk
  rcases hkd with rfl | rfl
  · obtain ⟨w1, w2, w3, w4⟩ : _ ∧ _ ∧ _ ∧ _ := hw
    have hcw := cwI (R := R) (s := s) (args := args) (own := fd_R (fd_own mi)) (index := i) (y := fd_y k) (bytes := fd_b k) (maxL := fd_mL k) (ws := fd_wk k) (ws' := fd_tb) (rm := fd_rm D k) (mc := fd_mc k) (ms := fd_mS k) (fd_np k) hts (fd_good (fd_gk hk)) (by unfold fd_wk; rw [w4]) rfl rfl (hts _ hy2) (hts _ w1) (hts _ w2) w3 ⟨hy5, hy6, hy7⟩ (fd_rmle cx hy10)
    exact va_runI ⟨hx, hb, hml, hown, hts⟩ hM hcw (fd_w_pre (as := .inr (.inr (.inl (some a))) :: as) cx hR) rfl (by rw [List.length_map]; exact hn) hR.2.2.2.2.2.1.1 hstk hrm hd hf
  · obtain ⟨hj, w2, w3, w4⟩ : _ ∧ _ ∧ _ ∧ _ := hw
    obtain ⟨e1, e2, e3⟩ := fd_nest4 hl
    have hnl : va_Nw (.methodLinkNest (fd_R (fd_own mi)) i (fd_y k) RX3) s := by rw [e1, e2, e3]; exact hnst.2.1
    have hcw := va_cnB (R := R) (s := s) (args := args) (own := fd_R (fd_own mi)) (host := RX3) (index := i) (y := fd_y k) (bytes := fd_b k) (maxL := fd_mL k) (ret := none) (ws := fd_wk k) (ws' := fd_tb) (rm := fd_rm D k) (mc := fd_mc k) (ms := fd_mS k) (fd_np k) hts (fd_good (fd_gk hk)) (by unfold fd_wk; rw [w4]) rfl rfl hnl (hts _ hy2) ⟨hy5, hy6, hy7⟩ (fd_rmle cx hy10)
    exact va_runIN ⟨hx, hb, hml, hown, hts⟩ hM ⟨hcw, w3, hts _ w2⟩ (fd_w_pre (as := .inr (.inr (.inl (some a))) :: as) cx hR) rfl (by rw [List.length_map]; exact hn) hR.2.2.2.2.2.1.1 hstk hrm hd hf
/-- a call of a method of an object -/
theorem fd_w_V (cx : fd_ctx p R s m args meth c mi D A tA dC dI scr) (hC : ∀ k as σ pk, k < 79 → fd_cats as ≤ fd_mL k → C k as σ pk → fd_Met l D k as σ pk) {k pc i a : Nat} {lv : fd_L} {as t : List fd_V} {σ : fd_S} {cc ss : Nat} {pk : Option fd_V → fd_S → Prop} (hl : fd_mtl (fd_own mi) i k 0 = true) (hd : decode (fd_b mi) pc = .ok (.invokevirtual i, 3)) (hn : as.length = fd_np k) (ht : fd_cats t ≤ 8) (has : fd_cats (.inr (.inr (.inl (some a))) :: as) ≤ fd_mL k) (ha : a < σ.1) (hs : fd_sh a = .inl (fd_own k))
    (hbud : cc ≤ fd_mc mi → ss ≤ fd_mS mi → cc + fd_mc k ≤ fd_mc mi ∧ ss + fd_mS k ≤ fd_mS mi) (hal : fd_mc k = 0 ∨ (fd_okL σ.1 lv ∧ fd_okV σ.1 t)) (h : C k (.inr (.inr (.inl (some a))) :: as) σ pk)
    (kk : ∀ r σ', pk r σ' → fd_Wp p l e R s m args below meth c Q mi A tA dC dI N0 ad0 ca0 (pc + 3) lv (r.toList ++ t) σ' (cc + fd_mc k) (ss + fd_mS k)) : fd_Wp p l e R s m args below meth c Q mi A tA dC dI N0 ad0 ca0 pc lv (as.reverse ++ .inr (.inr (.inl (some a))) :: t) σ cc ss := by
  intro ad ca H locs ls hR
  obtain ⟨hx, hb, hml, hown, hts, hK, hst, hnst, hA, hroom, hfr, hscr, hnm⟩ := id cx
  obtain ⟨hk, hw⟩ := fd_mt_use hl
  obtain ⟨w1, w2, w3⟩ : _ ∧ _ ∧ _ := hw
  obtain ⟨hy1, hy2, hy3, hy4, hy5, hy6, hy7, hy8, hy9, hy10⟩ := fd_mok_use hk
  have hb2 := hbud hR.2.2.2.2.2.2.1 hR.2.2.2.2.2.2.2
  have hM := hC k (.inr (.inr (.inl (some a))) :: as) σ pk hk has h dC dI tA ad ca H.size
  have hf : cc + fd_mc k ≤ R.cells ∧ ss + fd_mS k ≤ R.slots := ⟨Nat.le_trans hb2.1 hroom.1, Nat.le_trans hb2.2 hroom.2⟩
  have hrm : 2 * (F0 m pc ls ((as.reverse ++ .inr (.inr (.inl (some a))) :: t).map (fd_tr tA ad))).monitorRoom + ((t.map (fd_tr tA ad)).map fun v => v.category).sum ≤ 8 := lv_room (by rw [fd_cats_tr]; exact ht)
  have hstk : (F0 m pc ls ((as.reverse ++ .inr (.inr (.inl (some a))) :: t).map (fd_tr tA ad))).stack = (as.map (fd_tr tA ad)).reverse ++ .ref (ad a) :: t.map (fd_tr tA ad) := by
    show (as.reverse ++ .inr (.inr (.inl (some a))) :: t).map (fd_tr tA ad) = _
    rw [List.map_append, List.map_reverse]; rfl
  have hrec : ∃ cellB : Cell, H[ad a]? = some cellB ∧ cellB.vm.isStatics = false ∧ s.vm.findClass (fd_y k).cls = some cellB.cls := by
    rw [hy3]
    exact va_recv hK hR.1 (fd_vwCl hy9) (q0 := a) (fs := fd_fs ad σ (fd_own k) a) (by rw [fd_ws_get ha, fd_cell_obj hs])
  have hpre := fd_w_pre (as := .inr (.inr (.inl (some a))) :: as) cx hR
  refine fd_w_after (av := (Value.ref (ad a) :: as.map (fd_tr tA ad)).toArray) cx hR hb2 hal ?_ kk
  exact va_runV ⟨hx, hb, hml, hown, hts⟩ hM (cwV (C := (fd_y k).cls) (fd_np k) hts (fd_good (by
      intro w hw'
      simp only [wsV, List.mem_append, List.mem_cons, List.not_mem_nil, or_false] at hw'
      rcases hw' with (rfl | rfl | rfl | rfl) | hw'
      · exact w1
      · exact w2
      · exact w3
      · exact hy2
      · exact fd_gk hk w hw')) rfl rfl rfl ⟨rfl, hy5, hy6, hy7⟩ (fd_rmle cx hy10)) ⟨hpre.1, hrec, hpre.2⟩ rfl (by rw [List.length_map]; exact hn) hR.2.2.2.2.2.1.1 hstk hrm hd hf
end
end
section
theorem fd_sh_veh {a : Nat} (h : 20 ≤ a) : fd_sh a = .inl 2 := by
  unfold fd_sh
  rw [List.getD, List.getElem?_eq_none (by simpa using h)]
  rfl
theorem fd_sh_ref20 : ∀ a, a < 20 → (match fd_sh a with
  | .inr (_, some c) => decide (c < 5)
  | _ => true) = true := by decide +kernel
theorem fd_sh_ref {a n c : Nat} (h : fd_sh a = .inr (n, some c)) : c < 5 := by
  rcases Nat.lt_or_ge a 20 with h1 | h1
  · have := fd_sh_ref20 a h1
    rw [h] at this
    exact of_decide_eq_true this
  · rw [fd_sh_veh h1] at h
    cases h
theorem fd_def (σ : fd_S) (ad : Nat → Nat) (k : Nat) (t : FieldType) (h : fd_tyc t ≠ 0 ∨ t = .int) : defaultValue t = fd_fv ad (fd_alloc σ) σ.1 k t := by
  have e1 : (fd_alloc σ).2.1 σ.1 k = 0 := fd_u0_eq
  have e2 : (fd_alloc σ).2.2.1 σ.1 k = none := fd_u0_eq
  have e3 : (fd_alloc σ).2.2.2 σ.1 k = 0 := fd_u0_eq
  cases t <;> simp [fd_tyc] at h <;> simp [fd_fv, e1, e2, e3, defaultValue, va_rf]
theorem fd_tyz : ∀ ci, ci < 5 → ∀ k, k < fd_nf ci → (fd_tyc (fd_tyf ci k) != 0 || decide (fd_tyf ci k = .int)) = true := by decide +kernel
theorem fd_jmp_use {mi pc len : Nat} {off : Int} {rs : List Nat} (h : fd_jmp mi pc off len rs = true) : ∃ k, rs = [k] ∧ len = 3 ∧ fd_tgt mi pc off k = true := by
  unfold fd_jmp at h
  split at h
  · rename_i k
    simp only [Bool.and_eq_true, beq_iff_eq] at h
    exact ⟨k, rfl, h.1, h.2⟩
  · cases h
def fd_spw (o i kd : Nat) : Jvm.Cond := match kd with
  | 5 => Jvm.Cond.methodLink (fd_R o) i objectInit
  | 6 => Jvm.Cond.methodLink (fd_R o) i Lib.Math.max.name
  | _ => Jvm.Cond.methodLink (fd_R o) i Lib.Math.abs.name
theorem fd_sp_ok2 : ∀ q ∈ fd_sp, fd_at q.2.2.2 (fd_spw q.1 q.2.1 q.2.2.1) = true := by decide +kernel
theorem fd_sp_use {o i kd : Nat} (h : fd_spl o i kd = true) : fd_spw o i kd ∈ fd_tb := by
  unfold fd_spl at h
  obtain ⟨q, hq, he⟩ := List.any_eq_true.mp h
  simp only [Bool.and_eq_true, beq_iff_eq] at he
  obtain ⟨⟨rfl, rfl⟩, rfl⟩ := he
  exact fd_at_tb (fd_sp_ok2 q hq)
/-- the four kinds of putfield -/
def fd_pfI (X : fd_X) (nx : List fd_E) (lv : fd_L) (st : List fd_V) (σ : fd_S) (cc ss ci k : Nat) : Prop := match st with
  | .inl v :: .inr (.inr (.inl o)) :: t => ∃ a, o = some a ∧ a < σ.1 ∧ fd_sh a = .inl ci ∧ X nx lv t (fd_si σ a k v) cc ss
  | _ => False
def fd_pfR (X : fd_X) (nx : List fd_E) (lv : fd_L) (st : List fd_V) (σ : fd_S) (cc ss ci k : Nat) : Prop := match st with
  | .inr (.inr (.inl w)) :: .inr (.inr (.inl o)) :: t => ∃ a, o = some a ∧ a < σ.1 ∧ fd_sh a = .inl ci ∧ X nx lv t (fd_sr σ a k w) cc ss
  | _ => False
def fd_pfL (X : fd_X) (nx : List fd_E) (lv : fd_L) (st : List fd_V) (σ : fd_S) (cc ss ci k : Nat) : Prop := match st with
  | .inr (.inl v) :: .inr (.inr (.inl o)) :: t => ∃ a, o = some a ∧ a < σ.1 ∧ fd_sh a = .inl ci ∧ X nx lv t (fd_sl σ a k v) cc ss
  | _ => False
def fd_pfZ (X : fd_X) (nx : List fd_E) (lv : fd_L) (st : List fd_V) (σ : fd_S) (cc ss ci k : Nat) : Prop := match st with
  | .inl v :: .inr (.inr (.inl o)) :: t => ∃ a, o = some a ∧ a < σ.1 ∧ fd_sh a = .inl ci ∧ (v = 0 ∨ v = 1) ∧ X nx lv t (fd_si σ a k v) cc ss
  | _ => False
def fd_fin (mi ci k f : Nat) : Bool := match f with
  | 0 => (fd_T ci k).2.2.2 == false
  | _ => (fd_T ci k).2.2.2 == true && (fd_y mi).name == "<init>" && fd_own mi == ci
section
variable {p : Program} {l : Launch} {e : Env} {R : Room} {s : State} {m : MethodId} {args : Array Value} {below : List Frame} {meth : Method} {c : Code} {Q : State → Prop}
variable {mi D : Nat} {A : Nat → Prop} {tA : Nat → Nat} {dC : Nat → ClassId} {dI : Nat → Nat → Nat} {N0 : Nat} {ad0 : Nat → Nat} {ca0 : Nat → ClassId} {scr : Option (Nat × (Nat → Int32))} {C : fd_C} {post : Option fd_V → fd_S → Prop}
set_option maxHeartbeats 4000000 in
theorem fd_w_putfield (cx : fd_ctx p R s m args meth c mi D A tA dC dI scr) {pc i ci k ty f : Nat} {nx : List fd_E} {lv : fd_L} {st : List fd_V} {σ : fd_S} {cc ss : Nat} (h : fd_pf (fd_W p l e R s m args below meth c Q mi A tA dC dI N0 ad0 ca0) nx lv st σ cc ss [ci, k, ty, f]) (hl : fd_ftl (fd_own mi) i ci k = true) (hty : fd_tyc (fd_tyf ci k) = ty) (hf : fd_fin mi ci k f = true) (hd : decode (fd_b mi) pc = .ok (.putfield i, 3))
    (nxt : ∀ {lv : fd_L} {st : List fd_V} {σ : fd_S} {cc ss : Nat}, fd_W p l e R s m args below meth c Q mi A tA dC dI N0 ad0 ca0 nx lv st σ cc ss → fd_Wp p l e R s m args below meth c Q mi A tA dC dI N0 ad0 ca0 (pc + 3) lv st σ cc ss) : fd_Wp p l e R s m args below meth c Q mi A tA dC dI N0 ad0 ca0 pc lv st σ cc ss := by
  obtain ⟨T, hT⟩ : ∃ T, fd_tyf ci k = T := ⟨_, rfl⟩
  rw [hT] at hty
  subst hty
  cases T with
  | long =>
    replace h : fd_pfL _ nx lv st σ cc ss ci k := h
    unfold fd_pfL at h
    split at h
    · rename_i w o t
      obtain ⟨a, rfl, ha, hs, hX⟩ := h
      exact fd_w_pf (τ := fd_sl σ a k w) cx hl hf hd ha hs (fun ad => by rw [hT]; exact ⟨rfl, rfl⟩) ⟨rfl, fun _ _ _ => rfl, fun _ _ _ => rfl, fun _ _ q => fd_u_or q, fun ad => by rw [hT]; show Value.long (fd_u σ.2.2.2 a k _ a k) = _; rw [fd_u_eq]; rfl⟩ (nxt hX)
    · exact h.elim
  | object n =>
    replace h : fd_pfR _ nx lv st σ cc ss ci k := h
    unfold fd_pfR at h
    split at h
    · rename_i w o t
      obtain ⟨a, rfl, ha, hs, hX⟩ := h
      exact fd_w_pf (τ := fd_sr σ a k w) cx hl hf hd ha hs (fun ad => by rw [hT]; cases w <;> exact ⟨rfl, rfl⟩) ⟨rfl, fun _ _ _ => rfl, fun _ _ q => fd_u_or q, fun _ _ _ => rfl, fun ad => by rw [hT]; show va_rf ((fd_u σ.2.2.1 a k w a k).map ad) = _; rw [fd_u_eq]; rfl⟩ (nxt hX)
    · exact h.elim
  | array n =>
    replace h : fd_pfR _ nx lv st σ cc ss ci k := h
    unfold fd_pfR at h
    split at h
    · rename_i w o t
      obtain ⟨a, rfl, ha, hs, hX⟩ := h
      exact fd_w_pf (τ := fd_sr σ a k w) cx hl hf hd ha hs (fun ad => by rw [hT]; cases w <;> exact ⟨rfl, rfl⟩) ⟨rfl, fun _ _ _ => rfl, fun _ _ q => fd_u_or q, fun _ _ _ => rfl, fun ad => by rw [hT]; show va_rf ((fd_u σ.2.2.1 a k w a k).map ad) = _; rw [fd_u_eq]; rfl⟩ (nxt hX)
    · exact h.elim
  | boolean =>
    replace h : fd_pfZ _ nx lv st σ cc ss ci k := h
    unfold fd_pfZ at h
    split at h
    · rename_i w o t
      obtain ⟨a, rfl, ha, hs, hv, hX⟩ := h
      exact fd_w_pf (τ := fd_si σ a k w) cx hl hf hd ha hs (fun ad => by rw [hT]; exact fd_vin0 hv) ⟨rfl, fun _ _ q => fd_u_or q, fun _ _ _ => rfl, fun _ _ _ => rfl, fun ad => by rw [hT]; show Value.int (fd_u σ.2.1 a k _ a k) = _; rw [fd_u_eq]; rfl⟩ (nxt hX)
    · exact h.elim
  | int =>
    replace h : fd_pfI _ nx lv st σ cc ss ci k := h
    unfold fd_pfI at h
    split at h
    · rename_i w o t
      obtain ⟨a, rfl, ha, hs, hX⟩ := h
      exact fd_w_pf (τ := fd_si σ a k w) cx hl hf hd ha hs (fun ad => by rw [hT]; exact ⟨rfl, rfl⟩) ⟨rfl, fun _ _ q => fd_u_or q, fun _ _ _ => rfl, fun _ _ _ => rfl, fun ad => by rw [hT]; show Value.int (fd_u σ.2.1 a k _ a k) = _; rw [fd_u_eq]; rfl⟩ (nxt hX)
    · exact h.elim
  | _ =>
    obtain ⟨-, hci, hk5⟩ := fd_ft_use hl
    have := fd_tyz ci hci k hk5
    rw [hT] at this
    simp [fd_tyc] at this
end
end
section
section
variable {p : Program} {l : Launch} {e : Env} {R : Room} {s : State} {m : MethodId} {args : Array Value} {below : List Frame} {meth : Method} {c : Code} {Q : State → Prop}
variable {mi D : Nat} {A : Nat → Prop} {tA : Nat → Nat} {dC : Nat → ClassId} {dI : Nat → Nat → Nat} {N0 : Nat} {ad0 : Nat → Nat} {ca0 : Nat → ClassId} {scr : Option (Nat × (Nat → Int32))} {C : fd_C} {post : Option fd_V → fd_S → Prop}
/-- a call as fd_call has it -/
theorem fd_w_call {X : fd_X} {nx : List fd_E} {lv : fd_L} {as t : List fd_V} {σ : fd_S} {cc ss k : Nat} {G : Prop} (hk : k < 79) (h : fd_call C mi X nx lv as t σ cc ss k)
    (go : ∀ pk, (∀ r σ', pk r σ' → X nx lv (r.toList ++ t) σ' (cc + fd_mc k) (ss + fd_mS k)) → fd_cats t ≤ 8 → fd_cats as ≤ fd_mL k → (cc ≤ fd_mc mi → ss ≤ fd_mS mi → cc + fd_mc k ≤ fd_mc mi ∧ ss + fd_mS k ≤ fd_mS mi) → (fd_mc k = 0 ∨ (fd_okL σ.1 lv ∧ fd_okV σ.1 t)) → C k as σ pk → G) : G := by
  unfold fd_call at h
  split at h
  · exact h.elim
  · rename_i hb
    simp only [Bool.and_eq_true] at hb
    have h1 := Nat.le_of_ble_eq_true hb.1
    have h2 := Nat.le_of_ble_eq_true hb.2
    split at h
    · rename_i h0
      have h3 := fd_mS0 hk h0
      refine go _ ?_ h1 h2 (fun a b => by rw [h0, h3]; exact ⟨a, b⟩) (Or.inl h0) h
      intro r σ' hr
      rw [h0, h3]; exact hr
    · exact go _ (fun r σ' hr => hr) h1 h2 (fun _ _ => ⟨h.1.1, h.1.2.1⟩) (Or.inr ⟨h.1.2.2.1, h.1.2.2.2.1⟩) h.2
set_option maxHeartbeats 4000000 in
set_option maxRecDepth 100000 in
/-- one step of the abstract machine is one of the machine -/
theorem fd_stepW (cx : fd_ctx p R s m args meth c mi D A tA dC dI scr) (hck : fd_ckL mi (fd_code mi) = true) (hC : ∀ k as σ pk, k < 79 → fd_cats as ≤ fd_mL k → C k as σ pk → fd_Met l D k as σ pk)
    (hret : ∀ (r : Option fd_V) (σ : fd_S) (pc : Nat) (lv : fd_L) (cc ss : Nat) (ad : Nat → Nat) (ca : Nat → ClassId) (H : Heap) (locs : List Loc) (ls : Array Slot), post r σ → fd_rok mi pc r → fd_Rp s mi A tA dC dI N0 ad0 ca0 lv σ cc ss ad ca H locs ls → W p l e R s m args below meth c H locs cc ss Q (F0 m pc ls (r.map (fd_tr tA ad)).toList))
    (suf : List fd_E) (lv : fd_L) (st : List fd_V) (σ : fd_S) (cc ss : Nat) (h : fd_step C scr mi post (fd_W p l e R s m args below meth c Q mi A tA dC dI N0 ad0 ca0) suf lv st σ cc ss) : fd_W p l e R s m args below meth c Q mi A tA dC dI N0 ad0 ca0 suf lv st σ cc ss := by
  intro k hk
  cases suf with
  | nil => exact h.elim
  | cons e0 nx =>
  obtain ⟨pc, ins, len, v, rs⟩ := e0
  show fd_Wp p l e R s m args below meth c Q mi A tA dC dI N0 ad0 ca0 pc lv st σ cc ss
  have hnx : nx = (fd_code mi).drop (k + 1) := by rw [← List.tail_drop, ← hk]; rfl
  have hx := cx.1
  have hb := cx.2.1
  have hat : ins = .athrow ∨ (decode (fd_b mi) pc = .ok (ins, len) ∧ fd_ckI mi pc ins len v rs = true ∧ fd_pc nx = pc + len) := fd_ckL_at (fd_code mi) k _ nx hck hk.symm
  rcases hat with hat | ⟨hd, hi, hpc⟩
  · subst hat
    exact h.elim
  have nxt : ∀ {lv : fd_L} {st : List fd_V} {σ : fd_S} {cc ss : Nat}, fd_W p l e R s m args below meth c Q mi A tA dC dI N0 ad0 ca0 nx lv st σ cc ss → fd_Wp p l e R s m args below meth c Q mi A tA dC dI N0 ad0 ca0 (pc + len) lv st σ cc ss := fun h => by rw [← hpc]; exact h (k + 1) hnx
  have jmp : ∀ {k' tg : Nat} {lv : fd_L} {st : List fd_V} {σ : fd_S} {cc ss : Nat}, fd_pc ((fd_code mi).drop k') = tg → fd_W p l e R s m args below meth c Q mi A tA dC dI N0 ad0 ca0 ((fd_code mi).drop k') lv st σ cc ss → fd_Wp p l e R s m args below meth c Q mi A tA dC dI N0 ad0 ca0 tg lv st σ cc ss := fun e h => by rw [← e]; exact h _ rfl
  clear hk hnx hpc hck
  cases ins with
  | iconst n =>
    simp only [fd_ckI, Bool.and_eq_true, beq_iff_eq] at hi
    obtain ⟨rfl, hv⟩ := hi
    exact fun ad ca H locs ls hR => lv_iconst hx hb hd hv (nxt h ad ca H locs ls hR)
  | bipush n =>
    simp only [fd_ckI, Bool.and_eq_true, beq_iff_eq] at hi
    obtain ⟨rfl, hv⟩ := hi
    exact fun ad ca H locs ls hR => lv_bipush hx hb hd hv (nxt h ad ca H locs ls hR)
  | sipush n =>
    simp only [fd_ckI, Bool.and_eq_true, beq_iff_eq] at hi
    obtain ⟨rfl, hv⟩ := hi
    exact fun ad ca H locs ls hR => lv_sipush hx hb hd hv (nxt h ad ca H locs ls hR)
  | ldc n =>
    simp only [fd_ckI, Bool.and_eq_true, beq_iff_eq] at hi
    obtain ⟨rfl, hv⟩ := hi
    obtain ⟨q, hq, he⟩ := List.any_eq_true.mp hv
    simp only [Bool.and_eq_true, beq_iff_eq] at he
    obtain ⟨⟨e1, e2⟩, e3⟩ := he
    have hw := fd_at_tb (fd_cs_ok q hq)
    rw [e1, e2, e3] at hw
    exact fun ad ca H locs ls hR => lv_ldc hx hb cx.2.2.2.1 (cx.2.2.2.2.1 _ hw) hd (nxt h ad ca H locs ls hR)
  | lconst n =>
    simp only [fd_ckI, Bool.and_eq_true, beq_iff_eq] at hi
    obtain ⟨rfl, hv⟩ := hi
    exact fun ad ca H locs ls hR => lv_lconst hx hb hd (by rw [hv]; rfl) (nxt h ad ca H locs ls hR)
  | aconst_null =>
    simp only [fd_ckI, beq_iff_eq] at hi
    subst hi
    exact fun ad ca H locs ls hR => lv_null hx hb hd (nxt h ad ca H locs ls hR)
  | iload i =>
    simp only [fd_ckI, Bool.and_eq_true, beq_iff_eq] at hi
    obtain ⟨rfl, rfl⟩ := hi
    replace h : fd_ldI _ nx lv st σ cc ss [i] := h
    unfold fd_ldI at h
    dsimp only at h
    split at h
    · rename_i x hg
      exact fun ad ca H locs ls hR => lv_iload hx hb hd (fd_lv_at hR.2.2.2.2.2.1 hg) (nxt h ad ca H locs ls hR)
    · exact h.elim
  | iload_n i =>
    simp only [fd_ckI, Bool.and_eq_true, beq_iff_eq] at hi
    obtain ⟨rfl, rfl⟩ := hi
    replace h : fd_ldI _ nx lv st σ cc ss [i.val] := h
    unfold fd_ldI at h
    dsimp only at h
    split at h
    · rename_i x hg
      exact fun ad ca H locs ls hR => lv_iload_n hx hb hd rfl (fd_lv_at hR.2.2.2.2.2.1 hg) (nxt h ad ca H locs ls hR)
    · exact h.elim
  | aload i =>
    simp only [fd_ckI, Bool.and_eq_true, beq_iff_eq] at hi
    obtain ⟨rfl, rfl⟩ := hi
    replace h : fd_ldA _ nx lv st σ cc ss [i] := h
    unfold fd_ldA at h
    dsimp only at h
    split at h
    · rename_i w hg
      rcases w with o | k
      · cases o with
        | none => exact fun ad ca H locs ls hR => lv_aloadN hx hb hd (fd_lv_at hR.2.2.2.2.2.1 hg) (nxt h ad ca H locs ls hR)
        | some a => exact fun ad ca H locs ls hR => lv_aload hx hb hd (fd_lv_at hR.2.2.2.2.2.1 hg) (nxt h ad ca H locs ls hR)
      · exact fun ad ca H locs ls hR => lv_aload hx hb hd (fd_lv_at hR.2.2.2.2.2.1 hg) (nxt h ad ca H locs ls hR)
    · exact h.elim
  | aload_n i =>
    simp only [fd_ckI, Bool.and_eq_true, beq_iff_eq] at hi
    obtain ⟨rfl, rfl⟩ := hi
    replace h : fd_ldA _ nx lv st σ cc ss [i.val] := h
    unfold fd_ldA at h
    dsimp only at h
    split at h
    · rename_i w hg
      rcases w with o | k
      · cases o with
        | none => exact fun ad ca H locs ls hR => lv_aload_nN hx hb hd rfl (fd_lv_at hR.2.2.2.2.2.1 hg) (nxt h ad ca H locs ls hR)
        | some a => exact fun ad ca H locs ls hR => lv_aload_n hx hb hd rfl (fd_lv_at hR.2.2.2.2.2.1 hg) (nxt h ad ca H locs ls hR)
      · exact fun ad ca H locs ls hR => lv_aload_n hx hb hd rfl (fd_lv_at hR.2.2.2.2.2.1 hg) (nxt h ad ca H locs ls hR)
    · exact h.elim
  | istore i =>
    simp only [fd_ckI, Bool.and_eq_true, beq_iff_eq, decide_eq_true_eq] at hi
    obtain ⟨⟨rfl, rfl⟩, hlt⟩ := hi
    replace h : fd_stI _ nx lv st σ cc ss [i] := h
    unfold fd_stI at h
    dsimp only at h
    split at h
    · rename_i x t
      exact fun ad ca H locs ls hR => lv_istore hx hb hd hR.2.2.2.2.2.1 hlt (fd_put_lv tA ad lv i (.inl x)) (fun ls' hl' => nxt h ad ca H locs ls' ⟨hR.1, hR.2.1, hR.2.2.1, hR.2.2.2.1, hR.2.2.2.2.1, hl', hR.2.2.2.2.2.2.1, hR.2.2.2.2.2.2.2⟩)
    · exact h.elim
  | istore_n i =>
    simp only [fd_ckI, Bool.and_eq_true, beq_iff_eq, decide_eq_true_eq] at hi
    obtain ⟨⟨rfl, rfl⟩, hlt⟩ := hi
    replace h : fd_stI _ nx lv st σ cc ss [i.val] := h
    unfold fd_stI at h
    dsimp only at h
    split at h
    · rename_i x t
      exact fun ad ca H locs ls hR => lv_istore_n hx hb hd rfl hR.2.2.2.2.2.1 hlt (fd_put_lv tA ad lv i.val (.inl x)) (fun ls' hl' => nxt h ad ca H locs ls' ⟨hR.1, hR.2.1, hR.2.2.1, hR.2.2.2.1, hR.2.2.2.2.1, hl', hR.2.2.2.2.2.2.1, hR.2.2.2.2.2.2.2⟩)
    · exact h.elim
  | astore i =>
    simp only [fd_ckI, Bool.and_eq_true, beq_iff_eq, decide_eq_true_eq] at hi
    obtain ⟨⟨rfl, rfl⟩, hlt⟩ := hi
    replace h : fd_stA _ nx lv st σ cc ss [i] := h
    unfold fd_stA at h
    dsimp only at h
    split at h
    · rename_i o t
      cases o with
      | none => exact fun ad ca H locs ls hR => lv_astoreN hx hb hd hR.2.2.2.2.2.1 hlt (fd_put_lv tA ad lv i (.inr (.inr (.inl none)))) (fun ls' hl' => nxt h ad ca H locs ls' ⟨hR.1, hR.2.1, hR.2.2.1, hR.2.2.2.1, hR.2.2.2.2.1, hl', hR.2.2.2.2.2.2.1, hR.2.2.2.2.2.2.2⟩)
      | some a => exact fun ad ca H locs ls hR => lv_astore hx hb hd hR.2.2.2.2.2.1 hlt (fd_put_lv tA ad lv i (.inr (.inr (.inl (some a))))) (fun ls' hl' => nxt h ad ca H locs ls' ⟨hR.1, hR.2.1, hR.2.2.1, hR.2.2.2.1, hR.2.2.2.2.1, hl', hR.2.2.2.2.2.2.1, hR.2.2.2.2.2.2.2⟩)
    · exact h.elim
  | astore_n i =>
    simp only [fd_ckI, Bool.and_eq_true, beq_iff_eq, decide_eq_true_eq] at hi
    obtain ⟨⟨rfl, rfl⟩, hlt⟩ := hi
    replace h : fd_stA _ nx lv st σ cc ss [i.val] := h
    unfold fd_stA at h
    dsimp only at h
    split at h
    · rename_i o t
      cases o with
      | none => exact fun ad ca H locs ls hR => lv_astore_nN hx hb hd rfl hR.2.2.2.2.2.1 hlt (fd_put_lv tA ad lv i.val (.inr (.inr (.inl none)))) (fun ls' hl' => nxt h ad ca H locs ls' ⟨hR.1, hR.2.1, hR.2.2.1, hR.2.2.2.1, hR.2.2.2.2.1, hl', hR.2.2.2.2.2.2.1, hR.2.2.2.2.2.2.2⟩)
      | some a => exact fun ad ca H locs ls hR => lv_astore_n hx hb hd rfl hR.2.2.2.2.2.1 hlt (fd_put_lv tA ad lv i.val (.inr (.inr (.inl (some a))))) (fun ls' hl' => nxt h ad ca H locs ls' ⟨hR.1, hR.2.1, hR.2.2.1, hR.2.2.2.1, hR.2.2.2.2.1, hl', hR.2.2.2.2.2.2.1, hR.2.2.2.2.2.2.2⟩)
    · exact h.elim
  | iinc i n =>
    simp only [fd_ckI, Bool.and_eq_true, beq_iff_eq, decide_eq_true_eq] at hi
    obtain ⟨⟨⟨rfl, rfl⟩, hv⟩, hlt⟩ := hi
    subst hv
    replace h : (match fd_get lv i with
        | some (.inl x) => fd_W p l e R s m args below meth c Q mi A tA dC dI N0 ad0 ca0 nx (fd_put lv i (.inl (x + Int32.ofInt n))) st σ cc ss
        | _ => False) := h
    split at h
    · rename_i x hg
      intro ad ca H locs ls hR
      obtain ⟨k', hk'⟩ := List.getElem?_of_mem (List.mem_map.mpr ⟨(i, (.inl x : fd_V)), fd_get_mem hg, rfl⟩ : (i, fd_tr tA ad (.inl x)) ∈ fd_lv tA ad lv)
      exact lv_iinc hx hb hd hR.2.2.2.2.2.1 hk' rfl hlt (fd_put_lv tA ad lv i (.inl (x + Int32.ofInt n))) (fun ls' hl' => nxt h ad ca H locs ls' ⟨hR.1, hR.2.1, hR.2.2.1, hR.2.2.2.1, hR.2.2.2.2.1, hl', hR.2.2.2.2.2.2.1, hR.2.2.2.2.2.2.2⟩)
    · exact h.elim
  | iadd =>
    simp only [fd_ckI, beq_iff_eq] at hi
    subst hi
    replace h : fd_bin _ nx lv st σ cc ss (fun x y => x + y) := h
    unfold fd_bin at h
    split at h
    · exact fun ad ca H locs ls hR => lv_iadd hx hb hd (nxt h ad ca H locs ls hR)
    · exact h.elim
  | isub =>
    simp only [fd_ckI, beq_iff_eq] at hi
    subst hi
    replace h : fd_bin _ nx lv st σ cc ss (fun x y => x - y) := h
    unfold fd_bin at h
    split at h
    · exact fun ad ca H locs ls hR => lv_isub hx hb hd (nxt h ad ca H locs ls hR)
    · exact h.elim
  | imul =>
    simp only [fd_ckI, beq_iff_eq] at hi
    subst hi
    replace h : fd_bin _ nx lv st σ cc ss (fun x y => x * y) := h
    unfold fd_bin at h
    split at h
    · exact fun ad ca H locs ls hR => lv_imul hx hb hd (nxt h ad ca H locs ls hR)
    · exact h.elim
  | iand =>
    simp only [fd_ckI, beq_iff_eq] at hi
    subst hi
    replace h : fd_bin _ nx lv st σ cc ss (fun x y => x &&& y) := h
    unfold fd_bin at h
    split at h
    · exact fun ad ca H locs ls hR => lv_iand hx hb hd (nxt h ad ca H locs ls hR)
    · exact h.elim
  | idiv =>
    simp only [fd_ckI, beq_iff_eq] at hi
    subst hi
    unfold fd_step at h
    dsimp only at h
    split at h
    · exact fun ad ca H locs ls hR => lv_idiv hx hb hd h.1 (nxt h.2 ad ca H locs ls hR)
    · exact h.elim
  | ineg =>
    simp only [fd_ckI, beq_iff_eq] at hi
    subst hi
    unfold fd_step at h
    dsimp only at h
    split at h
    · exact fun ad ca H locs ls hR => lv_ineg hx hb hd (nxt h ad ca H locs ls hR)
    · exact h.elim
  | i2l =>
    simp only [fd_ckI, beq_iff_eq] at hi
    subst hi
    unfold fd_step at h
    dsimp only at h
    split at h
    · exact fun ad ca H locs ls hR => lv_i2l hx hb hd rfl (nxt h ad ca H locs ls hR)
    · exact h.elim
  | ladd =>
    simp only [fd_ckI, beq_iff_eq] at hi
    subst hi
    unfold fd_step at h
    dsimp only at h
    split at h
    · exact fun ad ca H locs ls hR => lv_ladd hx hb hd (nxt h ad ca H locs ls hR)
    · exact h.elim
  | lsub =>
    simp only [fd_ckI, beq_iff_eq] at hi
    subst hi
    unfold fd_step at h
    dsimp only at h
    split at h
    · exact fun ad ca H locs ls hR => lv_lsub hx hb hd (nxt h ad ca H locs ls hR)
    · exact h.elim
  | lcmp =>
    simp only [fd_ckI, beq_iff_eq] at hi
    subst hi
    unfold fd_step at h
    dsimp only at h
    split at h
    · exact fun ad ca H locs ls hR => W.lcmp hx hb hd (nxt h ad ca H locs ls hR)
    · exact h.elim
  | dup =>
    simp only [fd_ckI, beq_iff_eq] at hi
    subst hi
    unfold fd_step at h
    dsimp only at h
    split at h
    · exact fun ad ca H locs ls hR => lv_dup hx hb hd (fd_trcat tA ad _) (nxt h ad ca H locs ls hR)
    · exact fun ad ca H locs ls hR => lv_dup hx hb hd (fd_trcat tA ad _) (nxt h ad ca H locs ls hR)
    · exact h.elim
  | dup2 =>
    simp only [fd_ckI, beq_iff_eq] at hi
    subst hi
    unfold fd_step at h
    dsimp only at h
    split at h
    · exact fun ad ca H locs ls hR => lv_dup2_11 hx hb hd (fd_trcat tA ad _) (fd_trcat tA ad _) (nxt h ad ca H locs ls hR)
    · exact h.elim
  | if_icmp cnd off =>
    obtain ⟨j, rfl, rfl, htg⟩ := fd_jmp_use hi
    obtain ⟨tg, ht, hp⟩ := fd_tgt_use htg
    unfold fd_step at h
    dsimp only at h
    split at h
    · unfold fd_br at h
      dsimp only at h
      cases cnd with
      | eq => exact fun ad ca H locs ls hR => lv_icmp_eq hx hb hd ht (fun q => jmp hp (h.1 q) ad ca H locs ls hR) (fun q => nxt (h.2 q) ad ca H locs ls hR)
      | ne => exact fun ad ca H locs ls hR => lv_icmp_ne hx hb hd ht (fun q => jmp hp (h.1 q) ad ca H locs ls hR) (fun q => nxt (h.2 q) ad ca H locs ls hR)
      | lt => exact fun ad ca H locs ls hR => lv_icmp_lt hx hb hd ht (fun q => jmp hp (h.1 q) ad ca H locs ls hR) (fun q => nxt (h.2 q) ad ca H locs ls hR)
      | ge => exact fun ad ca H locs ls hR => lv_icmp_ge hx hb hd ht (fun q => jmp hp (h.1 q) ad ca H locs ls hR) (fun q => nxt (h.2 q) ad ca H locs ls hR)
      | gt => exact fun ad ca H locs ls hR => lv_icmp_gt hx hb hd ht (fun q => jmp hp (h.1 q) ad ca H locs ls hR) (fun q => nxt (h.2 q) ad ca H locs ls hR)
      | le => exact fun ad ca H locs ls hR => lv_icmp_le hx hb hd ht (fun q => jmp hp (h.1 q) ad ca H locs ls hR) (fun q => nxt (h.2 q) ad ca H locs ls hR)
    · exact h.elim
  | ifCond cnd off =>
    obtain ⟨j, rfl, rfl, htg⟩ := fd_jmp_use hi
    obtain ⟨tg, ht, hp⟩ := fd_tgt_use htg
    unfold fd_step at h
    dsimp only at h
    split at h
    · unfold fd_br at h
      dsimp only at h
      cases cnd with
      | eq => exact fun ad ca H locs ls hR => lv_if_eq hx hb hd ht (fun q => jmp hp (h.1 q) ad ca H locs ls hR) (fun q => nxt (h.2 q) ad ca H locs ls hR)
      | ne => exact fun ad ca H locs ls hR => lv_if_ne hx hb hd ht (fun q => jmp hp (h.1 q) ad ca H locs ls hR) (fun q => nxt (h.2 q) ad ca H locs ls hR)
      | lt => exact fun ad ca H locs ls hR => lv_if_lt hx hb hd ht (fun q => jmp hp (h.1 q) ad ca H locs ls hR) (fun q => nxt (h.2 q) ad ca H locs ls hR)
      | ge => exact fun ad ca H locs ls hR => lv_if_ge hx hb hd ht (fun q => jmp hp (h.1 q) ad ca H locs ls hR) (fun q => nxt (h.2 q) ad ca H locs ls hR)
      | gt => exact fun ad ca H locs ls hR => lv_if_gt hx hb hd ht (fun q => jmp hp (h.1 q) ad ca H locs ls hR) (fun q => nxt (h.2 q) ad ca H locs ls hR)
      | le => exact fun ad ca H locs ls hR => lv_if_le hx hb hd ht (fun q => jmp hp (h.1 q) ad ca H locs ls hR) (fun q => nxt (h.2 q) ad ca H locs ls hR)
    · exact h.elim
  | ifnull off =>
    obtain ⟨j, rfl, rfl, htg⟩ := fd_jmp_use hi
    obtain ⟨tg, ht, hp⟩ := fd_tgt_use htg
    unfold fd_step at h
    dsimp only at h
    split at h
    · rename_i o t
      unfold fd_br at h
      dsimp only at h
      cases o with
      | none => exact fun ad ca H locs ls hR => lv_ifnullN hx hb hd ht (jmp hp (h.1 rfl) ad ca H locs ls hR)
      | some a => exact fun ad ca H locs ls hR => lv_ifnull hx hb hd (nxt (h.2 (by simp)) ad ca H locs ls hR)
    · exact h.elim
  | ifnonnull off =>
    obtain ⟨j, rfl, rfl, htg⟩ := fd_jmp_use hi
    obtain ⟨tg, ht, hp⟩ := fd_tgt_use htg
    unfold fd_step at h
    dsimp only at h
    split at h
    · rename_i o t
      unfold fd_br at h
      dsimp only at h
      cases o with
      | none => exact fun ad ca H locs ls hR => lv_ifnonnullN hx hb hd (nxt (h.2 rfl) ad ca H locs ls hR)
      | some a => exact fun ad ca H locs ls hR => lv_ifnonnull hx hb hd ht (jmp hp (h.1 (by simp)) ad ca H locs ls hR)
    · exact h.elim
  | goto off =>
    obtain ⟨j, rfl, rfl, htg⟩ := fd_jmp_use hi
    obtain ⟨tg, ht, hp⟩ := fd_tgt_use htg
    exact fun ad ca H locs ls hR => lv_goto hx hb hd ht (jmp hp h ad ca H locs ls hR)
  | tableswitch dflt lo hi' offs =>
    unfold fd_step at h
    dsimp only at h
    unfold fd_ckI at hi
    dsimp only at hi
    split at h
    · rename_i dk ts
      simp only [Bool.and_eq_true, decide_eq_true_eq, List.all_eq_true, List.mem_range] at hi
      obtain ⟨⟨hi1, hi2⟩, hi3⟩ := hi
      split at h
      · rename_i x t
        rcases h with ⟨j, k', hj, hxj, hX⟩ | ⟨hout, hX⟩
        · obtain ⟨hjl, hje⟩ := List.getElem?_eq_some_iff.mp hj
          have h3 := hi3 j hjl
          split at h3
          · rename_i off hoff
            have hgd : ts.getD j 0 = k' := by simp [List.getD, hj]
            rw [hgd] at h3
            obtain ⟨tg, ht, hp⟩ := fd_tgt_use h3
            have ej : (x.toInt - lo).toNat = j := by omega
            exact fun ad ca H locs ls hR => lv_tableIn hx hb hd (by omega) (by omega) (by rw [ej]; exact hoff) ht (jmp hp hX ad ca H locs ls hR)
          · cases h3
        · obtain ⟨tg, ht, hp⟩ := fd_tgt_use hi1
          exact fun ad ca H locs ls hR => lv_tableOut hx hb hd hout ht (jmp hp hX ad ca H locs ls hR)
      · exact h.elim
    · exact h.elim
  | getstatic i =>
    unfold fd_step at h
    dsimp only at h
    unfold fd_ckI at hi
    dsimp only at hi
    split at h
    · rename_i k'
      simp only [Bool.and_eq_true, beq_iff_eq] at hi
      obtain ⟨rfl, hv⟩ := hi
      obtain ⟨q, hq, he⟩ := List.any_eq_true.mp hv
      simp only [Bool.and_eq_true, beq_iff_eq] at he
      obtain ⟨⟨e1, e2⟩, e3⟩ := he
      have hw := fd_stt_ok q hq
      simp only [Bool.and_eq_true, decide_eq_true_eq] at hw
      obtain ⟨hw, h2⟩ := hw
      have hw := fd_at_tb hw
      rw [e1, e2, e3] at hw
      rw [e3] at h2
      have hst := cx.2.2.2.2.2.2.1
      match k', h2 with
      | 0, _ => exact fun ad ca H locs ls hR => va_gets hx hb hst.1 hR.2.2.2.2.1 cx.2.2.2.1 (cx.2.2.2.2.1 _ hw) (fun _ h => h) hd (nxt h ad ca H locs ls hR)
      | 1, _ => exact fun ad ca H locs ls hR => va_gets hx hb hst.2.2.1 hR.2.2.2.2.1 cx.2.2.2.1 (cx.2.2.2.2.1 _ hw) (fun _ h => h) hd (nxt h ad ca H locs ls hR)
    · exact h.elim
  | getfield i =>
    replace h : fd_gf _ nx lv st σ cc ss rs := h
    unfold fd_gf at h
    unfold fd_ckI at hi
    dsimp only at hi
    split at h
    · rename_i ci k' ty
      simp only [Bool.and_eq_true, beq_iff_eq] at hi
      obtain ⟨⟨rfl, hl⟩, hty⟩ := hi
      split at h
      · rename_i o t
        obtain ⟨a, rfl, ha, hs, hX⟩ := h
        have key : ∀ (T : FieldType), fd_tyf ci k' = T → fd_Wp p l e R s m args below meth c Q mi A tA dC dI N0 ad0 ca0 pc lv (.inr (.inr (.inl (some a))) :: t) σ cc ss := by
          intro T hT
          rw [hT] at hty
          subst hty
          cases T with
          | long => exact fd_w_gf cx hl hd ha hs (fun ad => by rw [hT]; rfl) (nxt hX)
          | object n => exact fd_w_gf cx hl hd ha hs (fun ad => by rw [hT]; rfl) (nxt hX)
          | array n => exact fd_w_gf cx hl hd ha hs (fun ad => by rw [hT]; rfl) (nxt hX)
          | boolean => exact fd_w_gf cx hl hd ha hs (fun ad => by rw [hT]; rfl) (nxt hX)
          | int => exact fd_w_gf cx hl hd ha hs (fun ad => by rw [hT]; rfl) (nxt hX)
          | byte => exact fd_w_gf cx hl hd ha hs (fun ad => by rw [hT]; rfl) (nxt hX)
          | char => exact fd_w_gf cx hl hd ha hs (fun ad => by rw [hT]; rfl) (nxt hX)
          | short => exact fd_w_gf cx hl hd ha hs (fun ad => by rw [hT]; rfl) (nxt hX)
          | float => exact fd_w_gf cx hl hd ha hs (fun ad => by rw [hT]; rfl) (nxt hX)
          | double => exact fd_w_gf cx hl hd ha hs (fun ad => by rw [hT]; rfl) (nxt hX)
        exact key _ rfl
      · exact h.elim
    · exact h.elim
  | iaload =>
    simp only [fd_ckI, beq_iff_eq] at hi
    subst hi
    replace h : fd_ial scr _ nx lv st σ cc ss := h
    unfold fd_ial at h
    split at h
    · rename_i i o t
      obtain ⟨a, n, rfl, ha, hs, hin, hX⟩ := h
      exact fun ad ca H locs ls hR => va_iald (D := (dC, dI)) hx hb (fd_Ka cx.2.2.2.2.2.1 hR.2.2.1 ha hs) hR.1 a 0 (by rw [fd_ws_get ha, fd_cell_int hs]) rfl hin hd (nxt hX ad ca H locs ls hR)
    · rename_i i k' t
      rcases h with ⟨h2, hin, hX⟩ | ⟨h2, n, f, hsc, hin, hX⟩
      · have hst := cx.2.2.2.2.2.2.1
        match k', h2 with
        | 0, _ => exact fun ad ca H locs ls hR => va_ti hx hb hst.2.1 hR.2.2.2.2.1 hin rfl hd (nxt hX ad ca H locs ls hR)
        | 1, _ => exact fun ad ca H locs ls hR => va_ti hx hb hst.2.2.2 hR.2.2.2.2.1 hin rfl hd (nxt hX ad ca H locs ls hR)
      · subst h2
        obtain ⟨s1, s2, s3⟩ := cx.2.2.2.2.2.2.2.2.2.2.2.1 n f hsc
        exact fun ad ca H locs ls hR => va_sld hx hb s1 s2 s3 hR.2.2.2.2.1 hin hd (nxt hX ad ca H locs ls hR)
    · exact h.elim
  | aaload =>
    simp only [fd_ckI, beq_iff_eq] at hi
    subst hi
    replace h : fd_aal _ nx lv st σ cc ss := h
    unfold fd_aal at h
    split at h
    · rename_i i o t
      obtain ⟨a, n, c', rfl, ha, hs, hin, hX⟩ := h
      exact fun ad ca H locs ls hR => va_aldq (D := (dC, dI)) (f := fun j => (σ.2.2.1 a j).map ad) hx hb (fd_Ka cx.2.2.2.2.2.1 hR.2.2.1 ha hs) hR.1 a 0 (by rw [fd_ws_get ha, fd_cell_ref hs]) rfl hin hd (nxt hX ad ca H locs ls hR)
    · exact h.elim
  | iastore =>
    simp only [fd_ckI, beq_iff_eq] at hi
    subst hi
    replace h : fd_ias _ nx lv st σ cc ss := h
    unfold fd_ias at h
    split at h
    · rename_i x i o t
      obtain ⟨a, n, rfl, ha, hs, hin, hX⟩ := h
      exact fun ad ca H locs ls hR => va_iast (D := (dC, dI)) hx hb (fd_Ka cx.2.2.2.2.2.1 hR.2.2.1 ha hs) hR.1 hR.2.1 hR.2.2.2.2.1 a 0 (by rw [fd_ws_get ha, fd_cell_int hs]) rfl hin hd (fun H1 locs1 hP1 hD1 hS1 => by
        rw [fd_ws_iarr hs] at hP1 hD1
        exact nxt hX ad ca H1 locs1 ls ⟨hP1, hD1, hR.2.2.1, hR.2.2.2.1, hS1, hR.2.2.2.2.2⟩)
    · exact h.elim
  | aastore =>
    simp only [fd_ckI, beq_iff_eq] at hi
    subst hi
    replace h : fd_aas _ nx lv st σ cc ss := h
    unfold fd_aas at h
    split at h
    · rename_i w i o t
      obtain ⟨a, n, c', z, rfl, ha, hs, hin, rfl, hz, hsz, hX⟩ := h
      have hc5 : c' < 5 := fd_sh_ref hs
      exact fun ad ca H locs ls hR => va_astq (D := (dC, dI)) (r := fd_cl5 c') hx hb (fd_Ka cx.2.2.2.2.2.1 hR.2.2.1 ha hs) hR.1 hR.2.1 hR.2.2.2.2.1 a 0 z c' (by rw [fd_ws_get ha, fd_cell_ref hs]) rfl (by rw [fd_ws_get hz, fd_cell_obj hsz]) (fd_vwCl hc5) hin hd (fun H1 locs1 hP1 hD1 hS1 => by
        rw [fd_ws_rarr hs] at hP1 hD1
        exact nxt hX ad ca H1 locs1 ls ⟨hP1, hD1, hR.2.2.1, hR.2.2.2.1, hS1, hR.2.2.2.2.2⟩)
    · exact h.elim
  | arraylength =>
    simp only [fd_ckI, beq_iff_eq] at hi
    subst hi
    replace h : fd_aln scr _ nx lv st σ cc ss := h
    unfold fd_aln at h
    split at h
    · rename_i o t
      obtain ⟨a, n, c', rfl, ha, hs, hX⟩ := h
      cases c' with
      | none => exact fun ad ca H locs ls hR => va_alen (D := (dC, dI)) (x := (n, .inl (fun j => σ.2.1 a j))) hx hb (fd_Ka cx.2.2.2.2.2.1 hR.2.2.1 ha hs) hR.1 a 0 (by rw [fd_ws_get ha, fd_cell_int hs]) rfl rfl hd (nxt hX ad ca H locs ls hR)
      | some c' => exact fun ad ca H locs ls hR => va_alen (D := (dC, dI)) (x := (n, .inr (.inr (.inr (.inr (fun j => (σ.2.2.1 a j).map ad)))))) hx hb (fd_Ka cx.2.2.2.2.2.1 hR.2.2.1 ha hs) hR.1 a 0 (by rw [fd_ws_get ha, fd_cell_ref hs]) rfl rfl hd (nxt hX ad ca H locs ls hR)
    · rename_i k' t
      rcases h with ⟨h2, hX⟩ | ⟨h2, n, f, hsc, hX⟩
      · have hst := cx.2.2.2.2.2.2.1
        match k', h2 with
        | 0, _ => exact fun ad ca H locs ls hR => va_tlen hx hb hst.2.1 hR.2.2.2.2.1 rfl hd (nxt hX ad ca H locs ls hR)
        | 1, _ => exact fun ad ca H locs ls hR => va_tlen hx hb hst.2.2.2 hR.2.2.2.2.1 rfl hd (nxt hX ad ca H locs ls hR)
      · subst h2
        obtain ⟨s1, s2, s3⟩ := cx.2.2.2.2.2.2.2.2.2.2.2.1 n f hsc
        exact fun ad ca H locs ls hR => va_slen hx hb s1 s2 s3 hR.2.2.2.2.1 hd (nxt hX ad ca H locs ls hR)
    · exact h.elim
  | ireturn =>
    simp only [fd_ckI, beq_iff_eq] at hi
    subst hi
    unfold fd_step at h
    dsimp only at h
    split at h
    · rename_i x
      split at h
      · rename_i hr
        exact fun ad ca H locs ls hR => hret (some (.inl x)) σ pc lv cc ss ad ca H locs ls h ⟨hd, Or.inl hr⟩ hR
      · rename_i hr
        exact fun ad ca H locs ls hR => hret (some (.inl x)) σ pc lv cc ss ad ca H locs ls h.2 ⟨hd, Or.inr ⟨hr, h.1⟩⟩ hR
      · exact h.elim
    · exact h.elim
  | lreturn =>
    simp only [fd_ckI, beq_iff_eq] at hi
    subst hi
    unfold fd_step at h
    dsimp only at h
    split at h
    · rename_i x
      split at h
      · rename_i hr
        exact fun ad ca H locs ls hR => hret (some (.inr (.inl x))) σ pc lv cc ss ad ca H locs ls h ⟨hd, hr⟩ hR
      · exact h.elim
    · exact h.elim
  | areturn =>
    simp only [fd_ckI, beq_iff_eq] at hi
    subst hi
    unfold fd_step at h
    dsimp only at h
    split at h
    · rename_i o
      split at h
      · rename_i n hr
        exact fun ad ca H locs ls hR => hret (some (.inr (.inr (.inl o)))) σ pc lv cc ss ad ca H locs ls h ⟨hd, n, hr⟩ hR
      · exact h.elim
    · exact h.elim
  | return_ =>
    simp only [fd_ckI, beq_iff_eq] at hi
    subst hi
    unfold fd_step at h
    dsimp only at h
    split at h
    · split at h
      · rename_i hr
        exact fun ad ca H locs ls hR => hret none σ pc lv cc ss ad ca H locs ls h ⟨hd, hr⟩ hR
      · exact h.elim
    · exact h.elim
  | putfield i =>
    replace h : fd_pf _ nx lv st σ cc ss rs := h
    unfold fd_ckI at hi
    dsimp only at hi
    split at hi
    · rename_i ci k' ty f
      simp only [Bool.and_eq_true] at hi
      obtain ⟨⟨⟨hlen, hl⟩, hty⟩, hf⟩ := hi
      simp only [beq_iff_eq] at hlen hty
      subst hlen
      exact fd_w_putfield cx h hl hty hf hd nxt
    · cases hi
  | newarray t =>
    simp only [fd_ckI, Bool.and_eq_true, beq_iff_eq, decide_eq_true_eq] at hi
    obtain ⟨rfl, rfl⟩ := hi
    replace h : fd_nwa mi _ nx lv st σ cc ss none := h
    unfold fd_nwa at h
    split at h
    · rename_i n t
      obtain ⟨N, hN, hn0, hle, hs, hnew, hX⟩ := h
      intro ad ca H locs ls hR
      have hm := fd_math_ok
      simp only [Bool.and_eq_true] at hm
      have harr := cx.2.2.2.2.1 _ (fd_in_tb hm.2)
      have hz : (fun j => (fd_alloc σ).2.1 σ.1 j) = (fun _ => (0 : Int32)) := funext (fun j => fd_u0_eq)
      have hby : N * componentBytes .int ≤ 536870912 := by
        have : componentBytes .int = 4 := rfl
        rw [this]; omega
      refine va_newa (atype := .int) (D := (dC, dI)) (ty := .int) (a0 := (N, .inl (fun _ => 0))) (N' := N) hx hb harr rfl cx.2.2.2.2.2.1 hR.1 hR.2.1 hR.2.2.2.2.1 cx.2.2.2.2.2.2.2.2.1 (fun cA => rfl) hn0 hN hby (Nat.le_trans hnew.1 cx.2.2.2.2.2.2.2.2.2.1.1) (Nat.le_trans hnew.2.1 cx.2.2.2.2.2.2.2.2.2.1.2) hd ?_
      intro q cA H1 hK1 hP1 hD1 hS1
      refine fd_w_new (nc := 0) (ca := ca) (cA := cA) hnew hR.2.2.1 (fun n' c' hs' => ?_) hR.2.2.2.1 hR.2.2.2.2.2.1 ?_ hP1 hD1 hS1 (nxt hX)
      · rw [hs] at hs'
        cases hs'
        exact hK1.2 0 (cA, .int) rfl
      · have e2 : vp_upC ca σ.1 cA σ.1 = cA := by simp [vp_upC]
        rw [fd_cell_int hs, hz, e2]
    · exact h.elim
  | anewarray i =>
    unfold fd_step at h
    dsimp only at h
    unfold fd_ckI at hi
    dsimp only at hi
    split at h
    · rename_i k'
      simp only [Bool.and_eq_true, beq_iff_eq] at hi
      obtain ⟨⟨rfl, hv⟩, hk12⟩ := hi
      obtain ⟨q, hq, he⟩ := List.any_eq_true.mp hv
      simp only [Bool.and_eq_true, beq_iff_eq] at he
      obtain ⟨⟨e1, e2⟩, e3⟩ := he
      have hw := fd_clk_ok q hq
      simp only [Bool.and_eq_true, decide_eq_true_eq] at hw
      obtain ⟨hw, h2⟩ := hw
      have hw := fd_at_tb hw
      rw [e1, e2, e3] at hw
      have hao : va_AO (fd_R k') s := by
        simp only [Bool.or_eq_true, beq_iff_eq] at hk12
        rcases hk12 with rfl | rfl
        · exact cx.2.2.2.2.2.2.2.1.2.2.1
        · exact cx.2.2.2.2.2.2.2.1.2.2.2
      unfold fd_nwa at h
      split at h
      · rename_i n t
        obtain ⟨N, hN, hn0, hle, hs, hnew, hX⟩ := h
        intro ad ca H locs ls hR
        refine va_newq (D := (dC, dI)) (N' := N) hx hb cx.2.2.2.1 (cx.2.2.2.2.1 _ hw) hao cx.2.2.2.2.2.1 hR.1 hR.2.1 hR.2.2.2.2.1 cx.2.2.2.2.2.2.2.2.1 hn0 hN (by omega) (Nat.le_trans hnew.1 cx.2.2.2.2.2.2.2.2.2.1.1) (Nat.le_trans hnew.2.1 cx.2.2.2.2.2.2.2.2.2.1.2) hd ?_
        intro q cA H1 hK1 hP1 hD1 hS1
        refine fd_w_new (nc := 0) (ca := ca) (cA := cA) hnew hR.2.2.1 (fun n' c' hs' => ?_) hR.2.2.2.1 hR.2.2.2.2.2.1 ?_ hP1 hD1 hS1 (nxt hX)
        · rw [hs] at hs'
          cases hs'
          exact hK1.2 0 (cA, .object (fd_R k')) rfl
        · have e2 : vp_upC ca σ.1 cA σ.1 = cA := by simp [vp_upC]
          have hz : (fun j => ((fd_alloc σ).2.2.1 σ.1 j).map (va_up ad σ.1 q)) = (fun _ => none) := by
            funext j
            have e3 : (fd_alloc σ).2.2.1 σ.1 j = none := fd_u0_eq
            rw [e3]; rfl
          rw [fd_cell_ref hs, hz, e2]
      · exact h.elim
    · exact h.elim
  | new i =>
    unfold fd_step at h
    dsimp only at h
    unfold fd_ckI at hi
    dsimp only at hi
    split at h
    · rename_i k'
      simp only [Bool.and_eq_true, beq_iff_eq] at hi
      obtain ⟨rfl, hv⟩ := hi
      obtain ⟨q, hq, he⟩ := List.any_eq_true.mp hv
      simp only [Bool.and_eq_true, beq_iff_eq] at he
      obtain ⟨⟨e1, e2⟩, e3⟩ := he
      have hw := fd_clk_ok q hq
      simp only [Bool.and_eq_true, decide_eq_true_eq] at hw
      obtain ⟨hw, h2⟩ := hw
      have hw := fd_at_tb hw
      rw [e1, e2, e3] at hw
      rw [e3] at h2
      obtain ⟨hs, hnew, hX⟩ := h
      have hco := fd_cls_ok k' h2
      simp only [Bool.and_eq_true] at hco
      intro ad ca H locs ls hR
      refine va_new (D := (dC, dI)) (fs := fd_fs ad (fd_alloc σ) k' σ.1) hx hb cx.2.2.2.2.1 (fd_wsIn h2) (fd_tyf k') (fd_tyok h2) cx.2.2.2.1 (cx.2.2.2.2.1 _ hw) (cx.2.2.2.2.1 _ (fd_in_tb hco.1.1)) (cx.2.2.2.2.1 _ (fd_in_tb hco.1.2)) cx.2.2.2.2.2.1 hR.1 hR.2.1 hR.2.2.2.2.1 cx.2.2.2.2.2.2.2.2.1 (fd_vwCl h2) (fun j hj => ?_) (Nat.le_trans hnew.1 cx.2.2.2.2.2.2.2.2.2.1.1) (Nat.le_trans hnew.2.1 cx.2.2.2.2.2.2.2.2.2.1.2) hd ?_
      · have hz := fd_tyz k' h2 j hj
        simp only [Bool.or_eq_true, bne_iff_ne, decide_eq_true_eq] at hz
        rw [fd_def σ ad j _ hz]
        simp [vp_V, List.getD, fd_fs_get hj]
      · intro q H1 hP1 hD1 hS1
        refine fd_w_new (nc := 0) (ca := ca) (cA := ca 0) hnew hR.2.2.1 (fun n' c' hs' => ?_) hR.2.2.2.1 hR.2.2.2.2.2.1 ?_ hP1 hD1 hS1 (nxt hX)
        · rw [hs] at hs'
          cases hs'
        · rw [fd_cell_obj hs]
          congr 2
          unfold fd_fs
          apply List.map_congr_left
          intro j hj
          have hj' := List.mem_range.mp hj
          have hz := fd_tyz k' h2 j hj'
          simp only [Bool.or_eq_true, bne_iff_ne, decide_eq_true_eq] at hz
          rw [← fd_def σ ad j _ hz, ← fd_def σ _ j _ hz]
    · exact h.elim
  | invokevirtual i =>
    unfold fd_step at h
    dsimp only at h
    unfold fd_ckI at hi
    dsimp only at hi
    split at h
    · rename_i k'
      simp only [Bool.and_eq_true, beq_iff_eq] at hi
      obtain ⟨rfl, hl⟩ := hi
      have hk' := (fd_mt_use hl).1
      split at h
      · rename_i as o t hpop
        obtain ⟨a, rfl, ha, hs, hcall⟩ := h
        obtain ⟨xs, e1, e2, e3⟩ := fd_popn_spec _ _ _ _ _ hpop
        rw [List.append_nil] at e1
        subst e1
        rw [e2]
        exact fd_w_call hk' hcall (fun pk hpk h8 hmL hbud hal hCk => fd_w_V cx hC hl hd e3 h8 hmL ha hs hbud hal hCk (fun r σ' hr => nxt (hpk r σ' hr)))
      · exact h.elim
    · exact h.elim
  | invokestatic i =>
    unfold fd_step at h
    dsimp only at h
    unfold fd_ckI at hi
    dsimp only at hi
    split at h
    · rename_i k'
      simp only [Bool.and_eq_true, beq_iff_eq] at hi
      obtain ⟨rfl, hl⟩ := hi
      have hk' := (fd_mt_use hl).1
      split at h
      · rename_i as t hpop
        obtain ⟨xs, e1, e2, e3⟩ := fd_popn_spec _ _ _ _ _ hpop
        rw [List.append_nil] at e1
        subst e1
        rw [e2]
        exact fd_w_call hk' h (fun pk hpk h8 hmL hbud hal hCk => fd_w_S cx hC (Or.inl rfl) hl hd e3 h8 hmL hbud hal hCk (fun r σ' hr => nxt (hpk r σ' hr)))
      · exact h.elim
    · rename_i k'
      simp only [Bool.and_eq_true, beq_iff_eq] at hi
      obtain ⟨rfl, hl⟩ := hi
      have hk' := (fd_mt_use hl).1
      split at h
      · rename_i as t hpop
        obtain ⟨xs, e1, e2, e3⟩ := fd_popn_spec _ _ _ _ _ hpop
        rw [List.append_nil] at e1
        subst e1
        rw [e2]
        exact fd_w_call hk' h (fun pk hpk h8 hmL hbud hal hCk => fd_w_S cx hC (Or.inr rfl) hl hd e3 h8 hmL hbud hal hCk (fun r σ' hr => nxt (hpk r σ' hr)))
      · exact h.elim
    · simp only [Bool.and_eq_true, beq_iff_eq] at hi
      obtain ⟨rfl, hl⟩ := hi
      have hw := fd_sp_use hl
      have hm := fd_math_ok
      simp only [Bool.and_eq_true] at hm
      obtain ⟨⟨⟨⟨⟨m1, m2⟩, m3⟩, m4⟩, m5⟩, m6⟩ := hm
      have hts := cx.2.2.2.2.1
      split at h
      · rename_i y x t
        split at h
        · rename_i h8
          intro ad ca H locs ls hR
          exact va_mmax hx hb (by rw [cx.2.2.1]; exact hR.2.2.2.2.2.1.1.symm) cx.2.2.2.1 (hts _ hw) (hts _ (fd_in_tb m1)) (hts _ (fd_in_tb m3)) (hts _ (fd_in_tb m4)) (by have := cx.2.2.2.2.2.2.2.2.2.2.1.1; omega) (by rw [fd_cats_tr]; have := cx.2.2.2.2.2.2.2.2.2.2.1.2; have := Nat.le_of_ble_eq_true h8; omega) (Nat.le_trans hR.2.2.2.2.2.2.1 cx.2.2.2.2.2.2.2.2.2.1.1) (Nat.le_trans hR.2.2.2.2.2.2.2 cx.2.2.2.2.2.2.2.2.2.1.2) hd (nxt h ad ca H locs ls hR)
        · exact h.elim
      · exact h.elim
    · simp only [Bool.and_eq_true, beq_iff_eq] at hi
      obtain ⟨rfl, hl⟩ := hi
      have hw := fd_sp_use hl
      have hm := fd_math_ok
      simp only [Bool.and_eq_true] at hm
      obtain ⟨⟨⟨⟨⟨m1, m2⟩, m3⟩, m4⟩, m5⟩, m6⟩ := hm
      have hts := cx.2.2.2.2.1
      split at h
      · rename_i x t
        split at h
        · rename_i h8
          intro ad ca H locs ls hR
          exact va_mabs hx hb (by rw [cx.2.2.1]; exact hR.2.2.2.2.2.1.1.symm) cx.2.2.2.1 (hts _ hw) (hts _ (fd_in_tb m2)) (hts _ (fd_in_tb m3)) (hts _ (fd_in_tb m5)) (by have := cx.2.2.2.2.2.2.2.2.2.2.1.1; omega) (by rw [fd_cats_tr]; have := cx.2.2.2.2.2.2.2.2.2.2.1.2; have := Nat.le_of_ble_eq_true h8; omega) (Nat.le_trans hR.2.2.2.2.2.2.1 cx.2.2.2.2.2.2.2.2.2.1.1) (Nat.le_trans hR.2.2.2.2.2.2.2 cx.2.2.2.2.2.2.2.2.2.1.2) hd (nxt h ad ca H locs ls hR)
        · exact h.elim
      · exact h.elim
    · exact h.elim
  | invokespecial i =>
    unfold fd_step at h
    dsimp only at h
    unfold fd_ckI at hi
    dsimp only at hi
    split at h
    · simp only [Bool.and_eq_true, beq_iff_eq] at hi
      obtain ⟨rfl, hl⟩ := hi
      have hw := fd_sp_use hl
      have hm := fd_obj_ok
      simp only [Bool.and_eq_true] at hm
      have hts := cx.2.2.2.2.1
      split at h
      · rename_i o t
        split at h
        · rename_i h8
          obtain ⟨a, rfl, hX⟩ := h
          intro ad ca H locs ls hR
          refine W.objInit hx hb cx.2.2.2.1 (hts _ hw) (hts _ (fd_in_tb hm.1)) (hts _ (fd_in_tb hm.2)) rfl (by rw [cx.2.2.1]; exact hR.2.2.2.2.2.1.1) (a := ad a) (rest := t.map (fd_tr tA ad)) rfl hd (by have := cx.2.2.2.2.2.2.2.2.2.2.1.1; omega) ?_ ?_
          · have h9 : 2 * (F0 m pc ls ((.inr (.inr (.inl (some a))) :: t).map (fd_tr tA ad))).monitorRoom + ((t.map (fd_tr tA ad)).map fun v => v.category).sum ≤ 8 := lv_room (by rw [fd_cats_tr]; exact Nat.le_of_ble_eq_true h8)
            have := cx.2.2.2.2.2.2.2.2.2.2.1.2
            omega
          · exact nxt hX ad ca H locs ls hR
        · exact h.elim
      · exact h.elim
    · rename_i k'
      simp only [Bool.and_eq_true, beq_iff_eq] at hi
      obtain ⟨rfl, hl⟩ := hi
      have hk' := (fd_mt_use hl).1
      split at h
      · rename_i as o t hpop
        obtain ⟨a, rfl, hcall⟩ := h
        obtain ⟨xs, e1, e2, e3⟩ := fd_popn_spec _ _ _ _ _ hpop
        rw [List.append_nil] at e1
        subst e1
        rw [e2]
        exact fd_w_call hk' hcall (fun pk hpk h8 hmL hbud hal hCk => fd_w_I cx hC (Or.inl rfl) hl hd e3 h8 hmL hbud hal hCk (fun r σ' hr => nxt (hpk r σ' hr)))
      · exact h.elim
    · rename_i k'
      simp only [Bool.and_eq_true, beq_iff_eq] at hi
      obtain ⟨rfl, hl⟩ := hi
      have hk' := (fd_mt_use hl).1
      split at h
      · rename_i as o t hpop
        obtain ⟨a, rfl, hcall⟩ := h
        obtain ⟨xs, e1, e2, e3⟩ := fd_popn_spec _ _ _ _ _ hpop
        rw [List.append_nil] at e1
        subst e1
        rw [e2]
        exact fd_w_call hk' hcall (fun pk hpk h8 hmL hbud hal hCk => fd_w_I cx hC (Or.inr rfl) hl hd e3 h8 hmL hbud hal hCk (fun r σ' hr => nxt (hpk r σ' hr)))
      · exact h.elim
    · exact h.elim
  | _ => exact h.elim
end
end
section
theorem fd_pc0 : ∀ k, k < 79 → fd_pc (fd_code k) = 0 := by decide +kernel
theorem fd_sub_lv {tA ad : Nat → Nat} {ls : Array Slot} {n : Nat} {lv : fd_L} (h : lv_has ls n (fd_lv tA ad lv)) : ∀ (lv' : fd_L), fd_sub lv' lv → lv_has ls n (fd_lv tA ad lv')
  | [], _ => ⟨h.1, h.2.1, fun q hq => by simp [fd_lv] at hq⟩
  | q :: r, hs => by
    have ih := fd_sub_lv h r hs.2
    refine ⟨h.1, h.2.1, fun x hx => ?_⟩
    simp only [fd_lv, List.map_cons, List.mem_cons] at hx
    rcases hx with rfl | hx
    · exact fd_lv_at h hs.1
    · exact ih.2.2 x hx
theorem fd_W_sub {p : Program} {l : Launch} {e : Env} {R : Room} {s : State} {m : MethodId} {args : Array Value} {below : List Frame} {meth : Method} {c : Code} {Q : State → Prop} {mi : Nat} {A : Nat → Prop} {tA : Nat → Nat} {dC : Nat → ClassId} {dI : Nat → Nat → Nat} {N0 : Nat} {ad0 : Nat → Nat} {ca0 : Nat → ClassId} : fd_subX (fd_W p l e R s m args below meth c Q mi A tA dC dI N0 ad0 ca0) := by
  intro suf lv lv' st σ cc ss hs h k hk ad ca H locs ls hR
  exact h k hk ad ca H locs ls ⟨hR.1, hR.2.1, hR.2.2.1, hR.2.2.2.1, hR.2.2.2.2.1, fd_sub_lv hR.2.2.2.2.2.1 lv' hs, hR.2.2.2.2.2.2⟩
set_option maxHeartbeats 4000000 in
/-- what the abstract machine comes to is a contract of the machine -/
theorem fd_sound (l : Launch) : ∀ (D k : Nat) (as : List fd_V) (σ : fd_S) (post : Option fd_V → fd_S → Prop), k < 79 → fd_cats as ≤ fd_mL k → fd_Sem D k as σ post → fd_Met l D k as σ post
  | 0, _, _, _, _, _, _, h => h.elim
  | D + 1, k, as, σ, post, hk, has, h => by
    obtain ⟨hy1, hy2, hy3, hy4, hy5, hy6, hy7, hy8, hy9, hy10⟩ := fd_mok_use hk
    intro dC dI tA ad ca sz
    refine Met.ofW (cc := fd_b k) (maxL := fd_mL k) (ret := fd_ret k) hy4 rfl ?_
    intro p e s m args below meth c s₁ B hml hv
    obtain ⟨rfl, hsz, hP, hK, hKA, hD, hst, hnst⟩ := hv
    subst hsz
    have hx := B.exec
    have hb := B.bytes
    have hr := B.returns
    have hts := atoms_spec (ws := fd_wk k) B.pre
    have hown : s.vm.findClass (fd_R (fd_own k)) = some m.cls := by rw [← hy3]; exact findClass_of_methodNamed B.named
    have hlocks := B.notSynchronized
    have hnm : meth.name = (fd_y k).name := (name_of_methodNamed B.named B.method).1
    have hl := lv_entry (as.map (fd_tr tA ad)) (n := fd_mL k) (by rw [fd_slen]; exact has)
    rw [fd_args_lv] at hl
    rw [lg_entry_eq]
    generalize (lg_sl (as.map (fd_tr tA ad)) ++ List.replicate (fd_mL k - (lg_sl (as.map (fd_tr tA ad))).length) Slot.unset).toArray = ls at hl ⊢
    have cx : fd_ctx p (fd_rm (D + 1) k) s m (as.map (fd_tr tA ad)).toArray meth c k D (va_A (fd_ws ad ca σ) s.heap.size) tA dC dI none :=
      ⟨hx, hb, hml, hown, fun w hw => hts w (List.mem_cons_of_mem _ hw), hK, hst, hnst, fun q hq => Or.inr hq, ⟨Nat.le_refl _, Nat.le_refl _⟩, ⟨Nat.le_refl _, Nat.le_refl _⟩, fun n f hh => by simp at hh, fun hh => hnm.trans hh⟩
    have key := h (fd_W p l e (fd_rm (D + 1) k) s m (as.map (fd_tr tA ad)).toArray below meth c (MQ below (fd_Qc tA dC dI ad ca σ (fd_mc k) post (va_A (fd_ws ad ca σ) s.heap.size)) (as.map (fd_tr tA ad)).toArray s (fd_mc k) (fd_mS k) (va_A (fd_ws ad ca σ) s.heap.size)) k (va_A (fd_ws ad ca σ) s.heap.size) tA dC dI σ.1 ad ca)
      (fun suf lv st σ1 cc ss hstep => fd_stepW cx hy8 (fun k as σ pk h1 h2 h3 => fd_sound l D k as σ pk h1 h2 h3) ?_ suf lv st σ1 cc ss hstep) fd_W_sub 0 rfl ad ca s.heap [] ls ⟨hP, hD.self, hKA, ⟨fun i _ => rfl, Nat.le_refl _, fun _ => ⟨rfl, rfl, rfl⟩⟩, va_S.rf, hl, Nat.zero_le _, Nat.zero_le _⟩
    · rw [fd_pc0 k hk] at key
      exact key
    · intro r σ1 pc lv1 cc1 ss1 ad1 ca1 H locs ls1 hpost hrok hR
      obtain ⟨hP1, hD1, hKA1, hE1, hS1, hlv1, hcc1, hss1⟩ := hR
      have hq : ∀ t : State, t.heap = H → s.WarmedH t.vm → fd_Qc tA dC dI ad ca σ (fd_mc k) post (va_A (fd_ws ad ca σ) s.heap.size) (as.map (fd_tr tA ad)).toArray s (.returned (r.map (fd_tr tA ad1))) t := by
        intro t ht hW
        exact ⟨⟨r, σ1, ad1, ca1, rfl, hpost, by rw [ht]; exact hP1, hD1, hKA1.moved hW.alike, hE1⟩, hS1.F ht⟩
      refine W.widen (k := fd_mc k) (n := fd_mS k) hcc1 hss1 ?_
      rcases r with _ | x | x | o | k'
      · exact W.vret hx hb (hr.trans hrok.2) hq hS1.2.2 hrok.1
      · rcases hrok.2 with h1 | ⟨h1, h2⟩
        · exact W.iret hx hb (hr.trans h1) hq hS1.2.2 hrok.1
        · exact W.zret hx hb (hr.trans h1) (fd_vin0 h2).1 hq hS1.2.2 hrok.1
      · exact W.lret hx hb (hr.trans hrok.2) hq hS1.2.2 hrok.1
      · obtain ⟨hd1, n, hn⟩ := hrok
        refine W.aret (v := va_rf (o.map ad1)) hx hb (hr.trans hn) (Or.inl ⟨n, rfl⟩) ?_ hq hS1.2.2 hd1
        cases o with
        | none => exact Or.inl rfl
        | some a => exact Or.inr ⟨_, rfl⟩
      · exact hrok.elim
end
section
/-! THE CLAIM OUT OF ONE WALK OF THE LAW'S BODY. Your part is whole_start (and what it stands on); all else here is the same for every law, but numbers. -/
def R_law : String := "FerryDeckLaw"
def lw_P (b : Addr) (xs : List Int32) (args : Array Value) (s : State) : Prop := args = #[.ref b] ∧ s.IntsAt b xs ∧ xs.length ≤ 2048 ∧ (Jvm.Cond.and given_1 narrow_1).before args s = true
def lw_Q (_ : Array Value) (s : State) (o : Outcome) (t : State) : Prop := o = .returned (some (.int 1)) ∧ Framed s o t [] 600000 7302250
def lw_Z (below : List Frame) (a : Array Value) (s : State) : State → Prop := fun t => ∃ o, t.status = .running ∧ Ended t below o ∧ lw_Q a s o t
/-- the law's own end, with 1 on the stack, nothing written that was there before, its room as the claim has it -/
theorem lw_ret {p : Program} {l : Launch} {e : Env} {s : State} {m : MethodId} {below : List Frame} {meth : Method} {c : Code} {b : Nat} (hx : p.tables.exec = Jvm.exec) (hb : c.code = code) (hr : meth.sig.returnType = ret) (hlocks : meth.locks = false) {pc : Nat} {H : Heap} {ls : Array Slot} (hdg : decode code pc = .ok (.ireturn, 1)) : W p l e room_1 s m #[Value.ref b] below meth c H [] 600000 7302250 (lw_Z below #[Value.ref b] s) (F0 m pc ls [.int 1]) := by
  intro T hT X
  obtain ⟨fs, hret, hrun, hended, hW, hframe⟩ := X.leave (v := some (.int 1)) (hlocks := hlocks) (fun h => by rw [hr] at h; cases h)
  have hmeth' : T.vm.method? m = some meth := X.method'
  refine ⟨T.setFrames fs, ?_, .returned (some (.int 1)), hrun, hended, rfl, ⟨_, rfl⟩, hW, hframe⟩
  jvm_step X.here [X.here.top, hx, hb, hdg, hmeth', hr, ret, narrow_b1]
  (try refine ⟨rfl, ?_⟩); (try refine ⟨rfl, ?_⟩)
  first | (intro acts; rw [hret _ acts rfl rfl rfl]) | rw [hret _ _ rfl rfl rfl]
  exact Steps.refl _
/-- what holds at the law's entry: the machine, the code, the tables' words (any of lw_tbl by 'hts w (by decide +kernel)'), the script of L ints xs at the cell b, what the Statement gives of the start (any of its parts by flat_of_before) -/
def lw_At (p : Program) (s : State) (m : MethodId) (meth : Method) (c : Code) (b L : Nat) (xs : Nat → Int32) : Prop :=
  p.tables.exec = Jvm.exec ∧ c.code = code ∧ meth.sig.returnType = ret ∧ c.maxLocals = 4 ∧ s.vm.findClass R_law = some m.cls ∧ (∀ w ∈ lw_tbl, w.before #[Value.ref b] s = true) ∧ va_X b L xs s s.heap ∧ b < s.heap.size ∧ meth.locks = false ∧ (Jvm.Cond.and given_1 narrow_1).before #[Value.ref b] s = true

def fd_s0 : fd_S := (0, fun _ _ => 0, fun _ _ => none, fun _ _ => 0)
/-- the law, on the abstract machine -/
def fd_LawOk : Prop := ∀ (L : Nat) (xs : Nat → Int32), L ≤ 2048 → ∀ X : fd_X, (∀ suf lv st σ cc ss, fd_step (fd_Sem 100) (some (L, xs)) 79 (fun r _ => r = some (.inl 1)) X suf lv st σ cc ss → X suf lv st σ cc ss) → fd_subX X → X (fd_code 79) [(0, .inr (.inr (.inr 2)))] [] fd_s0 0 0
theorem fd_flatA : ∀ j, j < 7 → Jvm.Cond.eq (.elem (.static "FerryDeck$Answers" "ABOVE" "[I") (.int (Int32.ofNat j))) (.int (fd_sa 0 j)) ∈ flatC (Jvm.Cond.and given_1 narrow_1) := by decide +kernel
theorem fd_flatT : ∀ j, j < 42 → Jvm.Cond.eq (.elem (.static "FerryDeck$Answers" "TOLD_BODIES" "[I") (.int (Int32.ofNat j))) (.int (fd_sa 1 j)) ∈ flatC (Jvm.Cond.and given_1 narrow_1) := by decide +kernel
theorem fd_statics_ok : (decide (Jvm.Cond.laysStatic RX0 "ABOVE" "[I" ∈ lw_tbl) && decide (Jvm.Cond.laysStatic RX0 "TOLD_BODIES" "[I" ∈ lw_tbl) && decide (Jvm.Cond.initialized RX0 ∈ lw_tbl) && decide (Jvm.Cond.methodLinkNest RX0 54 yX3_within RX3 ∈ lw_tbl) && decide (Jvm.Cond.methodLinkNest RX3 27 yX0_init RX3 ∈ lw_tbl) && decide (Jvm.Cond.arrayOver (.object RX1) ∈ lw_tbl) && decide (Jvm.Cond.arrayOver (.object RX2) ∈ lw_tbl)) = true := by decide +kernel
set_option maxHeartbeats 4000000 in
set_option maxRecDepth 100000 in
theorem fd_start (hLaw : fd_LawOk) {p : Program} {e : Env} {s : State} {m : MethodId} {below : List Frame} {meth : Method} {c : Code} (l : Launch) {b L : Nat} {xs : Nat → Int32} (hL : L ≤ 2048) (C0 : lw_At p s m meth c b L xs) : W p l e room_1 s m #[Value.ref b] below meth c s.heap [] 0 0 (lw_Z below #[Value.ref b] s) (entryFrame m ([Value.ref b] : List Value).toArray 4) := by
  obtain ⟨hx, hb, hr, hml, hown, hts, hX, hbl, hlocks, hgv⟩ := id C0
  have hs := flat_of_before _ hgv
  have hno : ∀ a : Nat, a < s.heap.size → ¬ (fun q : Nat => s.heap.size ≤ q) a := fun a h => Nat.not_le.mpr h
  have hok := fd_statics_ok
  simp only [Bool.and_eq_true, decide_eq_true_eq] at hok
  obtain ⟨⟨⟨⟨⟨⟨k1, k2⟩, k3⟩, k4⟩, k5⟩, k6⟩, k7⟩ := hok
  obtain ⟨t0, ht0, hT0⟩ := va_Tof (A := fun q : Nat => s.heap.size ≤ q) (args := #[Value.ref b]) (s := s) (tm := .static "FerryDeck$Answers" "ABOVE" "[I") (ty := .int) (N := 7) (f := fun j => .int (fd_sa 0 j)) (by decide) (hs _ (by decide +kernel)) (va_eqt (hs (Jvm.Cond.eq (.length (.static "FerryDeck$Answers" "ABOVE" "[I")) (.int 7)) (by decide +kernel))) (fun j hj => va_eqt (hs _ (fd_flatA j hj))) hno
  obtain ⟨t1, ht1, hT1⟩ := va_Tof (A := fun q : Nat => s.heap.size ≤ q) (args := #[Value.ref b]) (s := s) (tm := .static "FerryDeck$Answers" "TOLD_BODIES" "[I") (ty := .int) (N := 42) (f := fun j => .int (fd_sa 1 j)) (by decide) (hs _ (by decide +kernel)) (va_eqt (hs (Jvm.Cond.eq (.length (.static "FerryDeck$Answers" "TOLD_BODIES" "[I")) (.int 42)) (by decide +kernel))) (fun j hj => va_eqt (hs _ (fd_flatT j hj))) hno
  have hZ0 : va_Z RX0 "ABOVE" "[I" (.ref t0) (fun q : Nat => s.heap.size ≤ q) s s.heap := va_Zof (hts _ k1) (hts _ k3) ht0 hno
  have hZ1 : va_Z RX0 "TOLD_BODIES" "[I" (.ref t1) (fun q : Nat => s.heap.size ≤ q) s s.heap := va_Zof (hts _ k2) (hts _ k3) ht1 hno
  have htb : ∀ w ∈ fd_tb, w.before #[Value.ref b] s = true := fun w hw => hts w (List.mem_filter.mp hw).1
  have hkn : ∀ ci, ci < 5 → ∃ (cC : ClassId) (iS : Nat → Nat), u_Kn s (fd_R ci) (fd_T ci) (fd_nf ci) cC iS := by
    intro ci hci
    have hco := fd_cls_ok ci hci
    simp only [Bool.and_eq_true] at hco
    exact u_known (n := fd_nf ci) htb (fd_wsIn hci) (htb _ (fd_in_tb hco.1.1))
  obtain ⟨c0, i0, hK0⟩ := hkn 0 (by decide)
  obtain ⟨c1, i1, hK1⟩ := hkn 1 (by decide)
  obtain ⟨c2, i2, hK2⟩ := hkn 2 (by decide)
  obtain ⟨c3, i3, hK3⟩ := hkn 3 (by decide)
  obtain ⟨c4, i4, hK4⟩ := hkn 4 (by decide)
  obtain ⟨dC, dI, hKc⟩ : ∃ (dC : Nat → ClassId) (dI : Nat → Nat → Nat), ∀ (k : Nat) (q : vw_C), vwCl[k]? = some q → u_Kn s q.1 q.2.1 q.2.2 (dC k) (dI k) := by
    refine ⟨fun k => match k with
      | 0 => c0
      | 1 => c1
      | 2 => c2
      | 3 => c3
      | _ => c4, fun k => match k with
      | 0 => i0
      | 1 => i1
      | 2 => i2
      | 3 => i3
      | _ => i4, ?_⟩
    intro k q hq
    match k, hq with
    | 0, hq => cases hq; exact hK0
    | 1, hq => cases hq; exact hK1
    | 2, hq => cases hq; exact hK2
    | 3, hq => cases hq; exact hK3
    | 4, hq => cases hq; exact hK4
    | k + 5, hq => simp [vwCl] at hq
  have hK : va_K (dC, dI) vwCl [] s := ⟨hKc, fun k q h => by simp at h⟩
  obtain ⟨tA, e0, e1, e2⟩ : ∃ tA : Nat → Nat, tA 0 = t0 ∧ tA 1 = t1 ∧ tA 2 = b := ⟨fun k => if k = 0 then t0 else if k = 1 then t1 else b, rfl, rfl, rfl⟩
  have hl := lv_entry ([.ref b]) (n := 4) (Nat.le_of_ble_eq_true rfl)
  rw [lg_entry_eq]
  generalize (lg_sl ([.ref b]) ++ List.replicate (4 - (lg_sl ([.ref b])).length) Slot.unset).toArray = ls at hl ⊢
  have hl : lv_has ls 4 [(0, .ref b)] := hl
  have cx : fd_ctx p room_1 s m #[Value.ref b] meth c 79 100 (fun q : Nat => s.heap.size ≤ q) tA dC dI (some (L, xs)) :=
    ⟨hx, hb, hml, hown, htb, hK, ⟨by rw [e0]; exact hZ0, by rw [e0]; exact hT0, by rw [e1]; exact hZ1, by rw [e1]; exact hT1⟩, ⟨va_Nw.of rfl (hts _ k4), va_Nw.of rfl (hts _ k5), hts _ k6, hts _ k7⟩, fun q hq => hq, ⟨by decide, by decide⟩, ⟨by decide, by decide⟩, fun n f hh => by
      cases hh
      rw [e2]
      exact ⟨hX, hbl, Nat.not_le.mpr hbl⟩, fun hh => absurd hh (by decide +kernel)⟩
  have key := hLaw L xs hL (fd_W p l e room_1 s m #[Value.ref b] below meth c (lw_Z below #[Value.ref b] s) 79 (fun q : Nat => s.heap.size ≤ q) tA dC dI 0 (fun _ => 0) (fun _ => c0))
    (fun suf lv st σ1 cc ss hstep => fd_stepW cx fd_lawck (fun k as σ pk h1 h2 h3 => fd_sound l 100 k as σ pk h1 h2 h3) ?_ suf lv st σ1 cc ss hstep) fd_W_sub 0 rfl (fun _ => 0) (fun _ => c0) s.heap [] ls ⟨fun k q h => by simp [fd_ws, fd_s0] at h, ⟨fun i j p q h => by simp [fd_ws, fd_s0] at h, fun k q h => by simp [fd_ws, fd_s0] at h⟩, fun a n c' h => absurd h (Nat.not_lt_zero _), ⟨fun i h => absurd h (Nat.not_lt_zero _), Nat.le_refl _, fun h => absurd h (by decide +kernel)⟩, va_S.rf, by
      have e3 : fd_lv tA (fun _ => 0) [(0, .inr (.inr (.inr 2)))] = [(0, .ref b)] := by simp [fd_lv, fd_tr, e2]
      rw [e3]; exact hl, Nat.zero_le _, Nat.zero_le _⟩
  · exact key
  · intro r σ1 pc lv1 cc1 ss1 ad1 ca1 H locs ls1 hpost hrok hR
    obtain ⟨hP1, hD1, hKA1, hE1, hS1, hlv1, hcc1, hss1⟩ := hR
    subst hpost
    refine va_forget hS1.2.2 ?_
    refine W.widen (k := 600000) (n := 7302250) hcc1 hss1 ?_
    exact lw_ret hx hb hr hlocks hrok.1
end
section
theorem fd_lt20 {σ : fd_S} (h : 20 ≤ σ.1) {a : Nat} (ha : a < 20) : a < σ.1 := Nat.lt_of_lt_of_le ha h
theorem fd_sh_lane {l : Nat} (h : l < 4) : fd_sh (5 + l) = .inl 1 := by
  match l, h with
  | 0, _ => rfl
  | 1, _ => rfl
  | 2, _ => rfl
  | 3, _ => rfl
theorem fd_shV (i : Nat) : fd_sh (20 + i) = .inl 2 := fd_sh_veh (by omega)
theorem i32_nlt {a b : Int32} : ¬ a < b ↔ b ≤ a := by rw [Int32.lt_iff_toInt_lt, Int32.le_iff_toInt_le]; omega
theorem i32_nle {a b : Int32} : ¬ a ≤ b ↔ b < a := by rw [Int32.lt_iff_toInt_lt, Int32.le_iff_toInt_le]; omega
/-- within -/
theorem ok_within (d : Nat) (a b c : Int32) (σ : fd_S) (post : Option fd_V → fd_S → Prop) (h1 : b ≤ a → a ≤ c → post (some (.inl 1)) σ) (h2 : ¬ (b ≤ a ∧ a ≤ c) → post (some (.inl 0)) σ) : fd_Sem (d + 1) 37 [.inl a, .inl b, .inl c] σ post := by
  intro X hX hV
  repeat refine hX _ _ _ _ _ _ ?_
  refine And.intro (fun hc => ?_) (fun hc => ?_) <;> try dsimp only [fd_icmp] at hc
  · repeat refine hX _ _ _ _ _ _ ?_
    exact And.intro (Or.inl rfl) (h2 (fun q => i32_nlt.mpr q.1 hc))
  · have ha := i32_nlt.mp hc
    repeat refine hX _ _ _ _ _ _ ?_
    refine And.intro (fun hc => ?_) (fun hc => ?_) <;> try dsimp only [fd_icmp] at hc
    · repeat refine hX _ _ _ _ _ _ ?_
      exact And.intro (Or.inl rfl) (h2 (fun q => i32_nlt.mpr q.2 hc))
    · repeat refine hX _ _ _ _ _ _ ?_
      exact And.intro (Or.inr rfl) (h1 ha (i32_nlt.mp hc))
/-- the model's in -/
theorem ok_in (d : Nat) (a b c : Int32) (σ : fd_S) (post : Option fd_V → fd_S → Prop) (h1 : b ≤ a → a ≤ c → post (some (.inl 1)) σ) (h2 : ¬ (b ≤ a ∧ a ≤ c) → post (some (.inl 0)) σ) : fd_Sem (d + 1) 48 [.inl a, .inl b, .inl c] σ post := by
  intro X hX hV
  repeat refine hX _ _ _ _ _ _ ?_
  refine And.intro (fun hc => ?_) (fun hc => ?_) <;> try dsimp only [fd_icmp] at hc
  · repeat refine hX _ _ _ _ _ _ ?_
    exact And.intro (Or.inl rfl) (h2 (fun q => i32_nlt.mpr q.1 hc))
  · have ha := i32_nlt.mp hc
    repeat refine hX _ _ _ _ _ _ ?_
    refine And.intro (fun hc => ?_) (fun hc => ?_) <;> try dsimp only [fd_icmp] at hc
    · repeat refine hX _ _ _ _ _ _ ?_
      exact And.intro (Or.inl rfl) (h2 (fun q => i32_nlt.mpr q.2 hc))
    · repeat refine hX _ _ _ _ _ _ ?_
      exact And.intro (Or.inr rfl) (h1 ha (i32_nlt.mp hc))
/-- isHeavy, isMarked -/
theorem ok_isHeavy (d : Nat) (a : Nat) (σ : fd_S) (post : Option fd_V → fd_S → Prop) (hv : a < σ.1) (hs : fd_sh a = .inl 2) (h1 : ¬ σ.2.1 a 7 = -3 → post (some (.inl 1)) σ) (h2 : σ.2.1 a 7 = -3 → post (some (.inl 0)) σ) : fd_Sem (d + 1) 20 [.inr (.inr (.inl (some a)))] σ post := by
  intro X hX hV
  repeat (first | refine hX _ _ _ _ _ _ ?_ | refine Exists.intro _ (And.intro (by first | rfl | assumption) (And.intro (by first | assumption | exact fd_lt20 h20 (by decide)) (And.intro (by first | rfl | assumption) ?_))))
  refine And.intro (fun hc => ?_) (fun hc => ?_) <;> try dsimp only [fd_icmp] at hc
  · repeat refine hX _ _ _ _ _ _ ?_
    exact And.intro (Or.inl rfl) (h2 hc)
  · repeat refine hX _ _ _ _ _ _ ?_
    exact And.intro (Or.inr rfl) (h1 hc)
theorem ok_isMarked (d : Nat) (a : Nat) (σ : fd_S) (post : Option fd_V → fd_S → Prop) (hv : a < σ.1) (hs : fd_sh a = .inl 2) (h1 : ¬ σ.2.1 a 8 = -3 → post (some (.inl 1)) σ) (h2 : σ.2.1 a 8 = -3 → post (some (.inl 0)) σ) : fd_Sem (d + 1) 21 [.inr (.inr (.inl (some a)))] σ post := by
  intro X hX hV
  repeat (first | refine hX _ _ _ _ _ _ ?_ | refine Exists.intro _ (And.intro (by first | rfl | assumption) (And.intro (by first | assumption | exact fd_lt20 h20 (by decide)) (And.intro (by first | rfl | assumption) ?_))))
  refine And.intro (fun hc => ?_) (fun hc => ?_) <;> try dsimp only [fd_icmp] at hc
  · repeat refine hX _ _ _ _ _ _ ?_
    exact And.intro (Or.inl rfl) (h2 hc)
  · repeat refine hX _ _ _ _ _ _ ?_
    exact And.intro (Or.inr rfl) (h1 hc)
/-- leaveDeck -/
def ld_s (σ : fd_S) (a : Nat) (b : Int32) : fd_S := fd_sr (fd_si (fd_si (fd_si σ a 9 b) a 10 (-1)) a 11 (-1)) a 12 none
theorem ok_leaveDeck (d : Nat) (a : Nat) (b : Int32) (σ : fd_S) (post : Option fd_V → fd_S → Prop) (hv : a < σ.1) (hs : fd_sh a = .inl 2) (h1 : post none (ld_s σ a b)) : fd_Sem (d + 1) 22 [.inr (.inr (.inl (some a))), .inl b] σ post := by
  intro X hX hV
  repeat (first | refine hX _ _ _ _ _ _ ?_ | refine Exists.intro _ (And.intro (by first | rfl | assumption) (And.intro (by first | assumption | exact fd_lt20 h20 (by decide)) (And.intro (by first | rfl | assumption) ?_))))
  exact h1
/-- lengthLeft, bearingLeft -/
theorem ok_lengthLeft (d : Nat) (a : Nat) (σ : fd_S) (post : Option fd_V → fd_S → Prop) (hv : a < σ.1) (hs : fd_sh a = .inl 1) (h1 : post (some (.inl (σ.2.1 a 1 - σ.2.1 a 3))) σ) : fd_Sem (d + 1) 13 [.inr (.inr (.inl (some a)))] σ post := by
  intro X hX hV
  repeat (first | refine hX _ _ _ _ _ _ ?_ | refine Exists.intro _ (And.intro (by first | rfl | assumption) (And.intro (by first | assumption | exact fd_lt20 h20 (by decide)) (And.intro (by first | rfl | assumption) ?_))))
  exact h1
theorem ok_bearingLeft (d : Nat) (a : Nat) (σ : fd_S) (post : Option fd_V → fd_S → Prop) (hv : a < σ.1) (hs : fd_sh a = .inl 1) (h1 : post (some (.inl (σ.2.1 a 2 - σ.2.1 a 4))) σ) : fd_Sem (d + 1) 14 [.inr (.inr (.inl (some a)))] σ post := by
  intro X hX hV
  repeat (first | refine hX _ _ _ _ _ _ ?_ | refine Exists.intro _ (And.intro (by first | rfl | assumption) (And.intro (by first | assumption | exact fd_lt20 h20 (by decide)) (And.intro (by first | rfl | assumption) ?_))))
  exact h1
end
section
theorem ix_of {x : Int32} {n : Nat} (hn : n ≤ 60) (h0 : 0 ≤ x) (h1 : x ≤ nI n - 1) : ∃ i, i < n ∧ x = nI i := by
  obtain ⟨j, hj, rfl⟩ := nI_of (i32_nlt.mpr h0)
  refine ⟨j, ?_, rfl⟩
  have h2 : nI j ≤ nI n - nI 1 := h1
  rw [Int32.le_iff_toInt_le, nI_toInt hj, pk_sub_toInt (by omega) (by omega)] at h2
  omega
theorem ix_to {i n : Nat} (hn : n ≤ 60) (h : i < n) : (0 : Int32) ≤ nI i ∧ nI i ≤ nI n - 1 := by
  refine ⟨nI_pos' (by omega), ?_⟩
  show nI i ≤ nI n - nI 1
  rw [Int32.le_iff_toInt_le, nI_toInt (by omega), pk_sub_toInt (by omega) (by omega)]
  omega
theorem ix_4 : (3 : Int32) = nI 4 - 1 := by decide
/-- the deck's own cells -/
def fd_B (σ : fd_S) (n : Nat) : Prop := 20 ≤ σ.1 ∧ 20 + n ≤ σ.1 ∧ n ≤ 60 ∧ σ.2.1 0 1 = nI n ∧ σ.2.2.1 0 0 = some 1 ∧ σ.2.2.1 0 2 = some 2 ∧ σ.2.2.1 0 3 = some 3 ∧ σ.2.2.1 3 0 = some 4 ∧ (∀ i, i < n → σ.2.2.1 1 i = some (20 + i)) ∧ (∀ l, l < 4 → σ.2.2.1 2 l = some (5 + l))
theorem ok_vehicleAt (d : Nat) (x : Int32) (n : Nat) (σ : fd_S) (post : Option fd_V → fd_S → Prop) (hB : fd_B σ n) (h1 : ∀ i, i < n → x = nI i → post (some (.inr (.inr (.inl (some (20 + i)))))) σ) (h2 : (∀ i, i < n → x ≠ nI i) → post (some (.inr (.inr (.inl none)))) σ) : fd_Sem (d + 2) 38 [.inr (.inr (.inl (some 0))), .inl x] σ post := by
  obtain ⟨h20, hN, hn, hc, r0, r2, r3, r30, hva, hla⟩ := id hB
  intro X hX hV
  repeat (first | refine hX _ _ _ _ _ _ ?_ | refine Exists.intro _ (And.intro (by first | rfl | assumption) (And.intro (by first | assumption | exact fd_lt20 h20 (by decide)) (And.intro (by first | rfl | assumption) ?_))))
  rw [hc]
  refine ok_within _ _ _ _ _ _ (fun ha hb => ?_) (fun ha => ?_)
  · obtain ⟨i, hi, rfl⟩ := ix_of hn ha hb
    repeat refine hX _ _ _ _ _ _ ?_
    refine And.intro (fun hc => absurd (show (1 : Int32) = 0 from hc) (by decide)) (fun _ => ?_)
    repeat (first | refine hX _ _ _ _ _ _ ?_ | refine Exists.intro _ (And.intro (by first | rfl | assumption) (And.intro (by first | assumption | exact fd_lt20 h20 (by decide)) (And.intro (by first | rfl | assumption) ?_))))
    refine Exists.intro _ (Exists.intro _ (Exists.intro _ (And.intro (by first | rfl | assumption) (And.intro (by first | assumption | exact fd_lt20 h20 (by decide)) (And.intro (by first | rfl | assumption) (And.intro (vp_in_nI (by omega) (by decide)) ?_))))))
    have e : σ.2.2.1 1 (nI i).toNatClampNeg = some (20 + i) := by rw [nI_clamp (by omega)]; exact hva i hi
    refine hX _ _ _ _ _ _ ?_
    rw [e]
    repeat refine hX _ _ _ _ _ _ ?_
    exact h1 i hi rfl
  · repeat refine hX _ _ _ _ _ _ ?_
    refine And.intro (fun _ => ?_) (fun hc => absurd (show (0 : Int32) = 0 from rfl) hc)
    repeat refine hX _ _ _ _ _ _ ?_
    refine h2 (fun i hi hx => ha ?_)
    rw [hx]
    exact ix_to hn hi
theorem ok_laneAt (d : Nat) (x : Int32) (n : Nat) (σ : fd_S) (post : Option fd_V → fd_S → Prop) (hB : fd_B σ n) (h1 : ∀ l, l < 4 → x = nI l → post (some (.inr (.inr (.inl (some (5 + l)))))) σ) (h2 : (∀ l, l < 4 → x ≠ nI l) → post (some (.inr (.inr (.inl none)))) σ) : fd_Sem (d + 2) 39 [.inr (.inr (.inl (some 0))), .inl x] σ post := by
  obtain ⟨h20, hN, hn, hc, r0, r2, r3, r30, hva, hla⟩ := id hB
  intro X hX hV
  repeat (first | refine hX _ _ _ _ _ _ ?_ | refine Exists.intro _ (And.intro (by first | rfl | assumption) (And.intro (by first | assumption | exact fd_lt20 h20 (by decide)) (And.intro (by first | rfl | assumption) ?_))))
  refine ok_within _ _ _ _ _ _ (fun ha hb => ?_) (fun ha => ?_)
  · rw [ix_4] at hb
    obtain ⟨i, hi, rfl⟩ := ix_of (by decide) ha hb
    repeat refine hX _ _ _ _ _ _ ?_
    refine And.intro (fun hc => absurd (show (1 : Int32) = 0 from hc) (by decide)) (fun _ => ?_)
    repeat (first | refine hX _ _ _ _ _ _ ?_ | refine Exists.intro _ (And.intro (by first | rfl | assumption) (And.intro (by first | assumption | exact fd_lt20 h20 (by decide)) (And.intro (by first | rfl | assumption) ?_))))
    refine Exists.intro _ (Exists.intro _ (Exists.intro _ (And.intro (by first | rfl | assumption) (And.intro (by first | assumption | exact fd_lt20 h20 (by decide)) (And.intro (by first | rfl | assumption) (And.intro (vp_in_nI hi (by decide)) ?_))))))
    have e : σ.2.2.1 2 (nI i).toNatClampNeg = some (5 + i) := by rw [nI_clamp (by omega)]; exact hla i hi
    refine hX _ _ _ _ _ _ ?_
    rw [e]
    repeat refine hX _ _ _ _ _ _ ?_
    exact h1 i hi rfl
  · repeat refine hX _ _ _ _ _ _ ?_
    refine And.intro (fun _ => ?_) (fun hc => absurd (show (0 : Int32) = 0 from rfl) hc)
    repeat refine hX _ _ _ _ _ _ ?_
    refine h2 (fun i hi hx => ha ?_)
    rw [hx, ix_4]
    exact ix_to (by decide) hi
theorem ok_numberOf (d : Nat) (o : Option Nat) (σ : fd_S) (post : Option fd_V → fd_S → Prop) (h1 : o = none → post (some (.inl (-1))) σ) (h2 : ∀ a, o = some a → a < σ.1 ∧ fd_sh a = .inl 2 ∧ post (some (.inl (σ.2.1 a 0))) σ) : fd_Sem (d + 1) 40 [.inr (.inr (.inl o))] σ post := by
  intro X hX hV
  repeat refine hX _ _ _ _ _ _ ?_
  refine And.intro (fun hc => ?_) (fun hc => ?_) <;> try dsimp only [fd_icmp] at hc
  · cases o with
    | none => exact absurd rfl hc
    | some a =>
      obtain ⟨hv, hs, hp⟩ := h2 a rfl
      repeat (first | refine hX _ _ _ _ _ _ ?_ | refine Exists.intro _ (And.intro (by first | rfl | assumption) (And.intro (by first | assumption | exact fd_lt20 h20 (by decide)) (And.intro (by first | rfl | assumption) ?_))))
      exact hp
  · repeat refine hX _ _ _ _ _ _ ?_
    exact h1 hc
theorem ok_hasRoomFor (d : Nat) (a b : Nat) (σ : fd_S) (post : Option fd_V → fd_S → Prop) (ha : a < σ.1) (hsa : fd_sh a = .inl 1) (hb : b < σ.1) (hsb : fd_sh b = .inl 2) (h1 : σ.2.1 b 4 + 5 ≤ σ.2.1 a 1 - σ.2.1 a 3 → σ.2.1 b 5 ≤ σ.2.1 a 2 - σ.2.1 a 4 → post (some (.inl 1)) σ) (h2 : ¬ (σ.2.1 b 4 + 5 ≤ σ.2.1 a 1 - σ.2.1 a 3 ∧ σ.2.1 b 5 ≤ σ.2.1 a 2 - σ.2.1 a 4) → post (some (.inl 0)) σ) : fd_Sem (d + 2) 15 [.inr (.inr (.inl (some a))), .inr (.inr (.inl (some b)))] σ post := by
  intro X hX hV
  repeat (first | refine hX _ _ _ _ _ _ ?_ | refine Exists.intro _ (And.intro (by first | rfl | assumption) (And.intro (by first | assumption | exact fd_lt20 h20 (by decide)) (And.intro (by first | rfl | assumption) ?_))))
  refine ok_lengthLeft _ _ _ _ ha hsa ?_
  repeat refine hX _ _ _ _ _ _ ?_
  refine And.intro (fun hc => ?_) (fun hc => ?_) <;> try dsimp only [fd_icmp] at hc
  · repeat refine hX _ _ _ _ _ _ ?_
    exact And.intro (Or.inl rfl) (h2 (fun q => i32_nlt.mpr q.1 hc))
  · repeat (first | refine hX _ _ _ _ _ _ ?_ | refine Exists.intro _ (And.intro (by first | rfl | assumption) (And.intro (by first | assumption | exact fd_lt20 h20 (by decide)) (And.intro (by first | rfl | assumption) ?_))))
    refine ok_bearingLeft _ _ _ _ ha hsa ?_
    have h5 := i32_nlt.mp hc
    repeat refine hX _ _ _ _ _ _ ?_
    refine And.intro (fun hc => ?_) (fun hc => ?_) <;> try dsimp only [fd_icmp] at hc
    · repeat refine hX _ _ _ _ _ _ ?_
      exact And.intro (Or.inl rfl) (h2 (fun q => i32_nlt.mpr q.2 hc))
    · repeat refine hX _ _ _ _ _ _ ?_
      exact And.intro (Or.inr rfl) (h1 h5 (i32_nlt.mp hc))
/-- append -/
def ap_s (σ : fd_S) (a b : Nat) : fd_S := (σ.1,
  fun i j => if i = b then (if j = 9 then 1 else if j = 10 then σ.2.1 a 0 else if j = 11 then σ.2.1 a 6 else σ.2.1 b j) else if i = a then (if j = 6 then σ.2.1 a 6 + 1 else if j = 3 then σ.2.1 a 3 + (σ.2.1 b 4 + 5) else if j = 4 then σ.2.1 a 4 + σ.2.1 b 5 else if j = 5 then σ.2.1 a 5 + σ.2.1 b 6 else σ.2.1 a j) else σ.2.1 i j,
  fun i j => if i = b then (if j = 12 then σ.2.2.1 a 8 else σ.2.2.1 b j) else if i = a then (if j = 8 then some b else if j = 7 then (if σ.2.2.1 a 7 = none then some b else σ.2.2.1 a 7) else σ.2.2.1 a j) else σ.2.2.1 i j, σ.2.2.2)
theorem ok_append (d : Nat) (a b : Nat) (σ : fd_S) (post : Option fd_V → fd_S → Prop) (ha : a < σ.1) (hsa : fd_sh a = .inl 1) (hb : b < σ.1) (hsb : fd_sh b = .inl 2) (h1 : post none (ap_s σ a b)) : fd_Sem (d + 1) 16 [.inr (.inr (.inl (some a))), .inr (.inr (.inl (some b)))] σ post := by
  have hab : a ≠ b := fun e => by rw [e, hsb] at hsa; cases hsa
  intro X hX hV
  repeat (first | refine hX _ _ _ _ _ _ ?_ | refine Exists.intro _ (And.intro (by first | rfl | assumption) (And.intro (by first | assumption | exact fd_lt20 h20 (by decide)) (And.intro (by first | rfl | assumption) ?_))))
  refine And.intro (fun hc => ?_) (fun hc => ?_) <;> try dsimp only [fd_icmp] at hc
  · repeat (first | refine hX _ _ _ _ _ _ ?_ | refine Exists.intro _ (And.intro (by first | rfl | assumption) (And.intro (by first | assumption | exact fd_lt20 h20 (by decide)) (And.intro (by first | rfl | assumption) ?_))))
    refine cast (congrArg (post none) ?_) h1
    refine Prod.ext rfl (Prod.ext (funext fun i => funext fun j => ?_) (Prod.ext (funext fun i => funext fun j => ?_) rfl))
    · simp only [ap_s, fd_si, fd_sr, fd_u]; grind
    · simp only [fd_si, fd_sr, fd_u] at hc
      simp only [ap_s, fd_si, fd_sr, fd_u]; grind
  · repeat (first | refine hX _ _ _ _ _ _ ?_ | refine Exists.intro _ (And.intro (by first | rfl | assumption) (And.intro (by first | assumption | exact fd_lt20 h20 (by decide)) (And.intro (by first | rfl | assumption) ?_))))
    refine cast (congrArg (post none) ?_) h1
    refine Prod.ext rfl (Prod.ext (funext fun i => funext fun j => ?_) (Prod.ext (funext fun i => funext fun j => ?_) rfl))
    · simp only [ap_s, fd_si, fd_sr, fd_u]; grind
    · simp only [fd_si, fd_sr, fd_u] at hc
      simp only [ap_s, fd_si, fd_sr, fd_u]; grind
/-- removeLast -/
def rl_s (σ : fd_S) (a b : Nat) (z : Int32) : fd_S := (σ.1,
  fun i j => if i = b then (if j = 9 then z else if j = 10 then -1 else if j = 11 then -1 else σ.2.1 b j) else if i = a then (if j = 6 then σ.2.1 a 6 - 1 else if j = 3 then σ.2.1 a 3 - (σ.2.1 b 4 + 5) else if j = 4 then σ.2.1 a 4 - σ.2.1 b 5 else if j = 5 then σ.2.1 a 5 - σ.2.1 b 6 else σ.2.1 a j) else σ.2.1 i j,
  fun i j => if i = b then (if j = 12 then none else σ.2.2.1 b j) else if i = a then (if j = 8 then σ.2.2.1 b 12 else if j = 7 then (if σ.2.2.1 b 12 = none then none else σ.2.2.1 a 7) else σ.2.2.1 a j) else σ.2.2.1 i j, σ.2.2.2)
theorem ok_removeLast (d : Nat) (a b : Nat) (z : Int32) (σ : fd_S) (post : Option fd_V → fd_S → Prop) (ha : a < σ.1) (hsa : fd_sh a = .inl 1) (hb : b < σ.1) (hsb : fd_sh b = .inl 2) (hl : σ.2.2.1 a 8 = some b) (h1 : post none (rl_s σ a b z)) : fd_Sem (d + 2) 17 [.inr (.inr (.inl (some a))), .inl z] σ post := by
  have hab : a ≠ b := fun e => by rw [e, hsb] at hsa; cases hsa
  intro X hX hV
  refine hX _ _ _ _ _ _ ?_
  refine hX _ _ _ _ _ _ ?_
  refine Exists.intro _ (And.intro (by first | rfl | assumption) (And.intro (by first | assumption | exact fd_lt20 h20 (by decide)) (And.intro (by first | rfl | assumption) ?_)))
  rw [hl]
  repeat (first | refine hX _ _ _ _ _ _ ?_ | refine Exists.intro _ (And.intro (by first | rfl | assumption) (And.intro (by first | assumption | exact fd_lt20 h20 (by decide)) (And.intro (by first | rfl | assumption) ?_))))
  refine And.intro (fun hc => ?_) (fun hc => absurd hc (by simp))
  repeat (first | refine hX _ _ _ _ _ _ ?_ | refine Exists.intro _ (And.intro (by first | rfl | assumption) (And.intro (by first | assumption | exact fd_lt20 h20 (by decide)) (And.intro (by first | rfl | assumption) ?_))))
  refine And.intro (fun hc => ?_) (fun hc => ?_) <;> try dsimp only [fd_icmp] at hc
  · repeat (first | refine hX _ _ _ _ _ _ ?_ | refine Exists.intro _ (And.intro (by first | rfl | assumption) (And.intro (by first | assumption | exact fd_lt20 h20 (by decide)) (And.intro (by first | rfl | assumption) ?_))))
    refine ok_leaveDeck _ _ _ _ _ hb hsb ?_
    repeat (first | refine hX _ _ _ _ _ _ ?_ | refine Exists.intro _ (And.intro (by first | rfl | assumption) (And.intro (by first | assumption | exact fd_lt20 h20 (by decide)) (And.intro (by first | rfl | assumption) ?_))))
    refine cast (congrArg (post none) ?_) h1
    refine Prod.ext rfl (Prod.ext (funext fun i => funext fun j => ?_) (Prod.ext (funext fun i => funext fun j => ?_) rfl))
    · simp only [rl_s, ld_s, fd_si, fd_sr, fd_u]; grind
    · simp only [fd_si, fd_sr, fd_u] at hc
      simp only [rl_s, ld_s, fd_si, fd_sr, fd_u]; grind
  · repeat (first | refine hX _ _ _ _ _ _ ?_ | refine Exists.intro _ (And.intro (by first | rfl | assumption) (And.intro (by first | assumption | exact fd_lt20 h20 (by decide)) (And.intro (by first | rfl | assumption) ?_))))
    refine ok_leaveDeck _ _ _ _ _ hb hsb ?_
    repeat (first | refine hX _ _ _ _ _ _ ?_ | refine Exists.intro _ (And.intro (by first | rfl | assumption) (And.intro (by first | assumption | exact fd_lt20 h20 (by decide)) (And.intro (by first | rfl | assumption) ?_))))
    refine cast (congrArg (post none) ?_) h1
    refine Prod.ext rfl (Prod.ext (funext fun i => funext fun j => ?_) (Prod.ext (funext fun i => funext fun j => ?_) rfl))
    · simp only [rl_s, ld_s, fd_si, fd_sr, fd_u]; grind
    · simp only [fd_si, fd_sr, fd_u] at hc
      simp only [rl_s, ld_s, fd_si, fd_sr, fd_u]; grind
end
section
/-! the class that answers: tables, bodies, the trace -/
def an_par (t : Nat) : Nat := [0, 0, 1, 2, 3, 0, 5].getD t 0
def an_tel (k w : Nat) : Option Nat := ([some 0, some 0, some 2, some 2, some 4, some 0, some 6,
  some 0, some 1, some 1, some 3, some 3, some 0, some 6,
  some 0, some 0, some 0, some 0, some 4, some 0, some 0,
  some 0, some 1, some 1, some 3, some 4, some 0, some 6,
  none, none, some 2, some 3, some 3, none, some 6,
  none, none, none, some 3, some 3, some 5, some 6] : List (Option Nat)).getD (7 * w + k) none
def TR (σ : fd_S) (b : Int32) : fd_S := if σ.2.1 3 2 = 0 then σ else if 10 ≤ σ.2.1 3 1 then σ else fd_si (fd_si σ 4 (σ.2.1 3 1).toNatClampNeg b) 3 1 (σ.2.1 3 1 + 1)
def TRs (σ : fd_S) (l : List Int32) : fd_S := l.foldl TR σ
def askd (σ : fd_S) (k0 : Nat) (sz ld se : Int32) : Prop := 20 ≤ σ.1 ∧ σ.2.2.1 3 0 = some 4 ∧ k0 < 7 ∧ σ.2.1 3 3 = nI k0 ∧ σ.2.1 3 4 = sz ∧ σ.2.1 3 5 = ld ∧ σ.2.1 3 6 = se ∧ ∃ tl : Nat, tl ≤ 10 ∧ σ.2.1 3 1 = nI tl
theorem askd_TR {σ : fd_S} {k0 : Nat} {sz ld se b : Int32} (h : askd σ k0 sz ld se) : askd (TR σ b) k0 sz ld se := by
  obtain ⟨h1, h2, h3, h4, h5, h6, h7, tl, h8, h9⟩ := id h
  unfold TR
  split
  · exact h
  · split
    · exact h
    · rename_i hz ht
      rw [h9] at ht
      have ht2 : ¬ nI 10 ≤ nI tl := ht
      rw [nI_leI (by omega) (by omega)] at ht2
      refine ⟨h1, h2, h3, ?_, ?_, ?_, ?_, tl + 1, by omega, ?_⟩
      · show fd_u (fd_u σ.2.1 4 (σ.2.1 3 1).toNatClampNeg b) 3 1 (σ.2.1 3 1 + 1) 3 3 = _
        simp [fd_u, h4]
      · show fd_u (fd_u σ.2.1 4 (σ.2.1 3 1).toNatClampNeg b) 3 1 (σ.2.1 3 1 + 1) 3 4 = _
        simp [fd_u, h5]
      · show fd_u (fd_u σ.2.1 4 (σ.2.1 3 1).toNatClampNeg b) 3 1 (σ.2.1 3 1 + 1) 3 5 = _
        simp [fd_u, h6]
      · show fd_u (fd_u σ.2.1 4 (σ.2.1 3 1).toNatClampNeg b) 3 1 (σ.2.1 3 1 + 1) 3 6 = _
        simp [fd_u, h7]
      · show fd_u (fd_u σ.2.1 4 (σ.2.1 3 1).toNatClampNeg b) 3 1 (σ.2.1 3 1 + 1) 3 1 = _
        rw [fd_u_eq, h9]; exact nI_1 tl
theorem askd_TRs {k0 : Nat} {sz ld se : Int32} : ∀ {l : List Int32} {σ : fd_S}, askd σ k0 sz ld se → askd (TRs σ l) k0 sz ld se
  | [], _, h => h
  | b :: l, σ, h => askd_TRs (l := l) (askd_TR (b := b) h)
theorem TRs_app (σ : fd_S) (l m : List Int32) : TRs σ (l ++ m) = TRs (TRs σ l) m := by simp [TRs]
/-- value and trace of a body -/
def an_b (sz ld se : Int32) (up : Int32 × List Int32) (own : Nat → Int32 × List Int32) (b : Nat) : Int32 × List Int32 := match b with
  | 1 => (sz, 1 :: [])
  | 2 => (up.1 + 10, 2 :: up.2)
  | 3 => (2 * up.1, 3 :: up.2)
  | 4 => (up.1 + 5, 4 :: up.2)
  | 11 => (1200 + ld, 11 :: [])
  | 12 => (up.1 + 800, 12 :: up.2)
  | 13 => (up.1 + ld / 4, 13 :: up.2)
  | 14 => (up.1 + 9000, 14 :: up.2)
  | 21 => (1 + (own 0).1 / 50, 21 :: (own 0).2)
  | 22 => (up.1 + 6, 22 :: up.2)
  | 31 => (500 + (own 0).1 * (10 + se), 31 :: (own 0).2)
  | 32 => (up.1 + 20 * se, 32 :: up.2)
  | 33 => (2 * up.1, 33 :: up.2)
  | 34 => (up.1 + (own 1).1 / 100, 34 :: (up.2 ++ (own 1).2))
  | 35 => (up.1 - up.1 / 10, 35 :: up.2)
  | 41 => ((own 1).1 / 200, 41 :: (own 1).2)
  | 42 => ((own 1).1 / 100 + 300, 42 :: (own 1).2)
  | 51 => (1 + (own 2).1 / 4, 51 :: (own 2).2)
  | 52 => (2 + (own 0).1 / 100, 52 :: (own 0).2)
  | _ => (-3, [])
/-- value and trace of 'what' answered by kind k -/
def an_w (k0 : Nat) (sz ld se : Int32) : Nat → Nat → Nat → Int32 × List Int32
  | 0, _, _ => (-3, [])
  | f + 1, k, w => match an_tel k w with
    | none => (-3, [])
    | some t => an_b sz ld se (an_w k0 sz ld se f (an_par t) w) (fun v => an_w k0 sz ld se f k0 v) (fd_sa 1 (7 * w + t)).toNatClampNeg
theorem ok_lessATenth (d : Nat) (x : Int32) (σ : fd_S) (post : Option fd_V → fd_S → Prop) (h1 : post (some (.inl (x - x / 10))) σ) : fd_Sem (d + 1) 11 [.inl x] σ post := by
  intro X hX hV
  repeat refine hX _ _ _ _ _ _ ?_
  refine And.intro (by decide) ?_
  repeat refine hX _ _ _ _ _ _ ?_
  exact h1
theorem an_sm {a b : Nat} (h : a < 7) (hb : b < 6) : nI b * 7 + nI a = nI (7 * b + a) := by
  show nI b * nI 7 + nI a = _
  rw [pk_mul, nI_add, Nat.mul_comm]
theorem ok_bodyOf (d : Nat) (a b : Nat) (σ : fd_S) (post : Option fd_V → fd_S → Prop) (ha : a < 7) (hb : b < 6) (h1 : post (some (.inl (fd_sa 1 (7 * b + a)))) σ) : fd_Sem (d + 1) 8 [.inl (nI a), .inl (nI b)] σ post := by
  intro X hX hV
  iterate 6 refine hX _ _ _ _ _ _ ?_
  refine hV _ _ [(2, .inl (nI (7 * b + a))), (0, .inl (nI a)), (1, .inl (nI b))] _ _ _ _ (And.intro (congrArg (fun x => some (Sum.inl x)) (an_sm ha hb)) (And.intro rfl (And.intro rfl trivial))) ?_
  repeat refine hX _ _ _ _ _ _ ?_
  refine And.intro (fun hc => absurd hc (nI_pos (by omega))) (fun hc => ?_)
  repeat refine hX _ _ _ _ _ _ ?_
  refine Or.inl (And.intro (by decide) ?_)
  repeat refine hX _ _ _ _ _ _ ?_
  refine And.intro (fun hc => ?_) (fun hc => ?_)
  · have h2 : nI 42 ≤ nI (7 * b + a) := hc
    rw [nI_leI (by omega) (by omega)] at h2
    omega
  · repeat refine hX _ _ _ _ _ _ ?_
    refine Or.inl (And.intro (by decide) (And.intro (vp_in_nI (N := 42) (by omega) (by decide)) ?_))
    have e : fd_sa 1 (nI (7 * b + a)).toNatClampNeg = fd_sa 1 (7 * b + a) := by rw [nI_clamp (by omega)]
    refine hX _ _ _ _ _ _ ?_
    rw [e]
    repeat refine hX _ _ _ _ _ _ ?_
    exact h1
theorem ok_leave (d : Nat) (b : Int32) (σ : fd_S) (post : Option fd_V → fd_S → Prop) {k0 : Nat} {sz ld se : Int32} (h : askd σ k0 sz ld se) (h1 : post none (TR σ b)) : fd_Sem (d + 1) 9 [.inr (.inr (.inl (some 3))), .inl b] σ post := by
  obtain ⟨h20, r30, hk, h33, h34, h35, h36, tl, htl, h31⟩ := id h
  unfold TR at h1
  intro X hX hV
  repeat (first | refine hX _ _ _ _ _ _ ?_ | refine Exists.intro _ (And.intro (by first | rfl | assumption) (And.intro (by first | assumption | exact fd_lt20 h20 (by decide)) (And.intro (by first | rfl | assumption) ?_))))
  refine And.intro (fun hc => ?_) (fun hc => ?_) <;> try dsimp only [fd_icmp] at hc
  · rw [if_pos hc] at h1
    repeat (first | refine hX _ _ _ _ _ _ ?_ | refine Exists.intro _ (And.intro (by first | rfl | assumption) (And.intro (by first | assumption | exact fd_lt20 h20 (by decide)) (And.intro (by first | rfl | assumption) ?_))))
    exact h1
  · rw [if_neg hc] at h1
    repeat (first | refine hX _ _ _ _ _ _ ?_ | refine Exists.intro _ (And.intro (by first | rfl | assumption) (And.intro (by first | assumption | exact fd_lt20 h20 (by decide)) (And.intro (by first | rfl | assumption) ?_))))
    refine And.intro (fun hc => ?_) (fun hc => ?_) <;> try dsimp only [fd_icmp] at hc
    · rw [if_pos hc] at h1
      repeat (first | refine hX _ _ _ _ _ _ ?_ | refine Exists.intro _ (And.intro (by first | rfl | assumption) (And.intro (by first | assumption | exact fd_lt20 h20 (by decide)) (And.intro (by first | rfl | assumption) ?_))))
      exact h1
    · rw [if_neg hc] at h1
      have hlt : tl < 10 := by
        have h2 : ¬ nI 10 ≤ σ.2.1 3 1 := hc
        rw [h31, nI_leI (by omega) (by omega)] at h2
        omega
      repeat (first | refine hX _ _ _ _ _ _ ?_ | refine Exists.intro _ (And.intro (by first | rfl | assumption) (And.intro (by first | assumption | exact fd_lt20 h20 (by decide)) (And.intro (by first | rfl | assumption) ?_))))
      refine Exists.intro _ (Exists.intro _ (And.intro (by first | rfl | assumption) (And.intro (by first | assumption | exact fd_lt20 h20 (by decide)) (And.intro (by first | rfl | assumption) (And.intro (by rw [h31]; exact vp_in_nI hlt (by decide)) ?_)))))
      repeat (first | refine hX _ _ _ _ _ _ ?_ | refine Exists.intro _ (And.intro (by first | rfl | assumption) (And.intro (by first | assumption | exact fd_lt20 h20 (by decide)) (And.intro (by first | rfl | assumption) ?_))))
      exact h1
/-- the kind itself or the nearest above that tells -/
def an_up (w : Nat) : Nat → Nat → Option Nat
  | 0, _ => none
  | f + 1, t => if fd_sa 1 (7 * w + t) ≠ 0 then some t else if t = 0 then none else an_up w f (an_par t)
def an_o (o : Option Nat) : Int32 := match o with
  | none => -1
  | some t => nI t
theorem an_up_tel : ∀ w, w < 6 → ∀ k, k < 7 → an_up w 7 k = an_tel k w := by decide +kernel
theorem an_parV : ∀ t, t < 7 → fd_sa 0 t = (if t = 0 then -1 else nI (an_par t)) := by decide +kernel
theorem an_par7 : ∀ t, t < 7 → an_par t < 7 := by decide +kernel
theorem an_telB : ∀ w, w < 6 → ∀ k, k < 7 → ∀ t, an_tel k w = some t → t < 7 ∧ fd_sa 1 (7 * w + t) ≠ 0 := by
  intro w hw k hk t ht
  have : ∀ w, w < 6 → ∀ k, k < 7 → (match an_tel k w with
    | none => true
    | some t => decide (t < 7) && decide (fd_sa 1 (7 * w + t) ≠ 0)) = true := by decide +kernel
  have h := this w hw k hk
  rw [ht] at h
  simpa using h
def an_upo (w f : Nat) (o : Option Nat) : Option Nat := match o with
  | none => none
  | some t => an_up w f t
theorem ok_tellerOf (d : Nat) (k w : Nat) (σ : fd_S) (post : Option fd_V → fd_S → Prop) (hk : k < 7) (hw : w < 6) (h1 : post (some (.inl (an_o (an_tel k w)))) σ) : fd_Sem (d + 2) 7 [.inl (nI k), .inl (nI w)] σ post := by
  intro X hX hV
  have loop : ∀ f j o, f + j = 7 → (∀ t, o = some t → t < 7) → an_upo w f o = an_tel k w → X ((fd_code 7).drop 4) [(3, .inl (nI j)), (2, .inl (an_o o)), (0, .inl (nI k)), (1, .inl (nI w))] [] σ 0 0 := by
    intro f
    induction f with
    | zero =>
      intro j o hj ho hu
      have : j = 7 := by omega
      subst this
      repeat refine hX _ _ _ _ _ _ ?_
      refine And.intro (fun hc => ?_) (fun hc => absurd (nI_le (Nat.le_refl 7) (by decide)) hc)
      repeat refine hX _ _ _ _ _ _ ?_
      have e : an_upo w 0 o = none := by cases o <;> rfl
      rw [← hu, e] at h1
      exact h1
    | succ f ih =>
      intro j o hj ho hu
      repeat refine hX _ _ _ _ _ _ ?_
      refine And.intro (fun hc => ?_) (fun hc => ?_)
      · have h2 : nI 7 ≤ nI j := hc
        rw [nI_leI (by omega) (by omega)] at h2
        omega
      · repeat refine hX _ _ _ _ _ _ ?_
        cases o with
        | none =>
          refine ok_within _ _ _ _ _ _ (fun ha hb => absurd (show (0 : Int32) ≤ -1 from ha) (by decide)) (fun _ => ?_)
          repeat refine hX _ _ _ _ _ _ ?_
          refine And.intro (fun _ => ?_) (fun hc => absurd (show (0 : Int32) = 0 from rfl) hc)
          repeat refine hX _ _ _ _ _ _ ?_
          rw [← hu] at h1
          exact h1
        | some t =>
          have ht := ho t rfl
          refine ok_within _ _ _ _ _ _ (fun ha hb => ?_) (fun ha => absurd (And.intro (nI_pos' (by omega)) (nI_le (by omega) (by decide) : nI t ≤ nI 6)) ha)
          repeat refine hX _ _ _ _ _ _ ?_
          refine And.intro (fun hc => absurd (show (1 : Int32) = 0 from hc) (by decide)) (fun _ => ?_)
          repeat refine hX _ _ _ _ _ _ ?_
          refine ok_bodyOf _ t w _ _ ht hw ?_
          repeat refine hX _ _ _ _ _ _ ?_
          refine And.intro (fun hz => ?_) (fun hz => ?_)
          · have hz : fd_sa 1 (7 * w + t) = 0 := hz
            repeat refine hX _ _ _ _ _ _ ?_
            refine Or.inl (And.intro (by decide) (And.intro (vp_in_nI (N := 7) ht (by decide)) ?_))
            have e : fd_sa 0 (an_o (some t)).toNatClampNeg = an_o (if t = 0 then none else some (an_par t)) := by
              show fd_sa 0 (nI t).toNatClampNeg = _
              rw [nI_clamp (by omega), an_parV t ht]
              by_cases h0 : t = 0
              · rw [if_pos h0, if_pos h0]; rfl
              · rw [if_neg h0, if_neg h0]; rfl
            refine hX _ _ _ _ _ _ ?_
            rw [e]
            refine hX _ _ _ _ _ _ ?_
            refine hX _ _ _ _ _ _ ?_
            refine hV _ _ [(3, .inl (nI (j + 1))), (2, .inl (an_o (if t = 0 then none else some (an_par t)))), (0, .inl (nI k)), (1, .inl (nI w))] _ _ _ _ (And.intro (congrArg (fun x => some (Sum.inl x)) (nI_1 j)) (And.intro rfl (And.intro rfl (And.intro rfl trivial)))) ?_
            refine ih (j + 1) _ (by omega) ?_ ?_
            · intro t' h'
              by_cases h0 : t = 0
              · rw [if_pos h0] at h'; cases h'
              · rw [if_neg h0] at h'; cases h'; exact an_par7 t ht
            · rw [← hu]
              show _ = (if fd_sa 1 (7 * w + t) ≠ 0 then some t else if t = 0 then none else an_up w f (an_par t))
              rw [if_neg (show ¬ fd_sa 1 (7 * w + t) ≠ 0 from fun q => q hz)]
              by_cases h0 : t = 0
              · rw [if_pos h0, if_pos h0]; rfl
              · rw [if_neg h0, if_neg h0]; rfl
          · repeat refine hX _ _ _ _ _ _ ?_
            have e : an_upo w (f + 1) (some t) = some t := by
              show (if fd_sa 1 (7 * w + t) ≠ 0 then some t else _) = _
              rw [if_pos (show fd_sa 1 (7 * w + t) ≠ 0 from hz)]
            rw [← hu, e] at h1
            exact h1
  iterate 4 refine hX _ _ _ _ _ _ ?_
  exact loop 7 0 (some k) rfl (fun t ht => by cases ht; exact hk) (an_up_tel w hw k hk)
/-- what is claimed of a call f levels above the depth's end -/
def an_P (f : Nat) : Prop := ∀ (d dp k w k0 : Nat) (sz ld se : Int32) (σ : fd_S) (post : Option fd_V → fd_S → Prop), f + dp = 16 → k < 7 → w < 6 → askd σ k0 sz ld se → post (some (.inl (an_w k0 sz ld se f k w).1)) (TRs σ (an_w k0 sz ld se f k w).2) → fd_Sem (d + 3 * f + 4) 6 [.inr (.inr (.inl (some 3))), .inl (nI k), .inl (nI w), .inl (nI dp)] σ post
theorem ok_own {f : Nat} (hP : an_P f) (d dp w k0 : Nat) (sz ld se : Int32) (σ : fd_S) (post : Option fd_V → fd_S → Prop) (hf : f + dp = 16) (hw : w < 6) (h : askd σ k0 sz ld se) (h1 : post (some (.inl (an_w k0 sz ld se f k0 w).1)) (TRs σ (an_w k0 sz ld se f k0 w).2)) : fd_Sem (d + 3 * f + 5) 4 [.inr (.inr (.inl (some 3))), .inl (nI w), .inl (nI dp)] σ post := by
  obtain ⟨h20, r30, hk, h33, h34, h35, h36, tl, htl, h31⟩ := id h
  intro X hX hV
  iterate 3 refine hX _ _ _ _ _ _ ?_
  refine Exists.intro _ (And.intro (by first | rfl | assumption) (And.intro (by first | assumption | exact fd_lt20 h20 (by decide)) (And.intro (by first | rfl | assumption) ?_)))
  rw [h33]
  repeat (first | refine hX _ _ _ _ _ _ ?_ | refine Exists.intro _ (And.intro (by first | rfl | assumption) (And.intro (by first | assumption | exact fd_lt20 h20 (by decide)) (And.intro (by first | rfl | assumption) ?_))))
  refine hP d dp k0 w k0 sz ld se σ _ hf hk hw h ?_
  repeat refine hX _ _ _ _ _ _ ?_
  exact h1
theorem ok_above {f : Nat} (hP : an_P f) (d dp t w k0 : Nat) (sz ld se : Int32) (σ : fd_S) (post : Option fd_V → fd_S → Prop) (hf : f + dp = 16) (ht : t < 7) (h0 : t ≠ 0) (hw : w < 6) (h : askd σ k0 sz ld se) (h1 : post (some (.inl (an_w k0 sz ld se f (an_par t) w).1)) (TRs σ (an_w k0 sz ld se f (an_par t) w).2)) : fd_Sem (d + 3 * f + 5) 5 [.inr (.inr (.inl (some 3))), .inl (nI t), .inl (nI w), .inl (nI dp)] σ post := by
  obtain ⟨h20, r30, hk, h33, h34, h35, h36, tl, htl, h31⟩ := id h
  intro X hX hV
  repeat refine hX _ _ _ _ _ _ ?_
  refine ok_within _ _ _ _ _ _ (fun ha hb => ?_) (fun ha => absurd (And.intro (nI_pos' (by omega)) (nI_le (by omega) (by decide) : nI t ≤ nI 6)) ha)
  repeat refine hX _ _ _ _ _ _ ?_
  refine And.intro (fun hc => absurd (show (1 : Int32) = 0 from hc) (by decide)) (fun _ => ?_)
  repeat refine hX _ _ _ _ _ _ ?_
  refine Or.inl (And.intro (by decide) (And.intro (vp_in_nI (N := 7) ht (by decide)) ?_))
  have e : fd_sa 0 (nI t).toNatClampNeg = nI (an_par t) := by rw [nI_clamp (by omega), an_parV t ht, if_neg h0]
  refine hX _ _ _ _ _ _ ?_
  rw [e]
  repeat (first | refine hX _ _ _ _ _ _ ?_ | refine Exists.intro _ (And.intro (by first | rfl | assumption) (And.intro (by first | assumption | exact fd_lt20 h20 (by decide)) (And.intro (by first | rfl | assumption) ?_))))
  refine hP d dp (an_par t) w k0 sz ld se σ _ hf (an_par7 t ht) hw h ?_
  repeat refine hX _ _ _ _ _ _ ?_
  exact h1
theorem ok_by_1_0 {f : Nat} (hP : an_P f) (d dp k0 : Nat) (sz ld se : Int32) (σ : fd_S) (post : Option fd_V → fd_S → Prop) (hf : f + dp = 16) (h : askd σ k0 sz ld se) (h1 : post (some (.inl (sz))) (TRs σ (1 :: []))) : fd_Sem (d + 3 * f + 6) 10 [.inr (.inr (.inl (some 3))), .inl 1, .inl (nI 0), .inl (nI 0), .inl (nI dp)] σ post := by
  obtain ⟨h20, r30, hk, h33, h34, h35, h36, tl, htl, h31⟩ := id h
  intro X hX hV
  repeat (first | refine hX _ _ _ _ _ _ ?_ | refine Exists.intro _ (And.intro (by first | rfl | assumption) (And.intro (by first | assumption | exact fd_lt20 h20 (by decide)) (And.intro (by first | rfl | assumption) ?_))))
  refine ok_leave _ _ _ _ h ?_
  have hs1 := askd_TR (b := 1) h
  obtain ⟨h20, r30, -, h33, h34, h35, h36, -⟩ := id hs1
  repeat refine hX _ _ _ _ _ _ ?_
  refine Or.inl (Exists.intro 0 (Exists.intro _ (And.intro rfl (And.intro (by decide) ?_))))
  repeat (first | refine hX _ _ _ _ _ _ ?_ | refine Exists.intro _ (And.intro (by first | rfl | assumption) (And.intro (by first | assumption | exact fd_lt20 h20 (by decide)) (And.intro (by first | rfl | assumption) ?_))))
  rw [← h34] at h1
  exact h1
theorem ok_by_2_2 {f : Nat} (hP : an_P f) (d dp k0 : Nat) (sz ld se : Int32) (σ : fd_S) (post : Option fd_V → fd_S → Prop) (hf : f + dp = 16) (h : askd σ k0 sz ld se) (h1 : post (some (.inl ((an_w k0 sz ld se f 1 0).1 + 10))) (TRs σ (2 :: (an_w k0 sz ld se f 1 0).2))) : fd_Sem (d + 3 * f + 6) 10 [.inr (.inr (.inl (some 3))), .inl 2, .inl (nI 2), .inl (nI 0), .inl (nI dp)] σ post := by
  obtain ⟨h20, r30, hk, h33, h34, h35, h36, tl, htl, h31⟩ := id h
  intro X hX hV
  repeat (first | refine hX _ _ _ _ _ _ ?_ | refine Exists.intro _ (And.intro (by first | rfl | assumption) (And.intro (by first | assumption | exact fd_lt20 h20 (by decide)) (And.intro (by first | rfl | assumption) ?_))))
  refine ok_leave _ _ _ _ h ?_
  have hs1 := askd_TR (b := 2) h
  obtain ⟨h20, r30, -, h33, h34, h35, h36, -⟩ := id hs1
  repeat refine hX _ _ _ _ _ _ ?_
  refine Or.inl (Exists.intro 1 (Exists.intro _ (And.intro rfl (And.intro (by decide) ?_))))
  repeat (first | refine hX _ _ _ _ _ _ ?_ | refine Exists.intro _ (And.intro (by first | rfl | assumption) (And.intro (by first | assumption | exact fd_lt20 h20 (by decide)) (And.intro (by first | rfl | assumption) ?_))))
  refine ok_above hP d dp 2 0 k0 sz ld se _ _ hf (by decide) (by decide) (by decide) hs1 ?_
  have hs2 := askd_TRs (l := (an_w k0 sz ld se f 1 0).2) hs1
  obtain ⟨h20, r30, -, h33, h34, h35, h36, -⟩ := id hs2
  repeat (first | refine hX _ _ _ _ _ _ ?_ | refine Exists.intro _ (And.intro (by first | rfl | assumption) (And.intro (by first | assumption | exact fd_lt20 h20 (by decide)) (And.intro (by first | rfl | assumption) ?_))))
  exact h1
theorem ok_by_3_4 {f : Nat} (hP : an_P f) (d dp k0 : Nat) (sz ld se : Int32) (σ : fd_S) (post : Option fd_V → fd_S → Prop) (hf : f + dp = 16) (h : askd σ k0 sz ld se) (h1 : post (some (.inl (2 * (an_w k0 sz ld se f 3 0).1))) (TRs σ (3 :: (an_w k0 sz ld se f 3 0).2))) : fd_Sem (d + 3 * f + 6) 10 [.inr (.inr (.inl (some 3))), .inl 3, .inl (nI 4), .inl (nI 0), .inl (nI dp)] σ post := by
  obtain ⟨h20, r30, hk, h33, h34, h35, h36, tl, htl, h31⟩ := id h
  intro X hX hV
  repeat (first | refine hX _ _ _ _ _ _ ?_ | refine Exists.intro _ (And.intro (by first | rfl | assumption) (And.intro (by first | assumption | exact fd_lt20 h20 (by decide)) (And.intro (by first | rfl | assumption) ?_))))
  refine ok_leave _ _ _ _ h ?_
  have hs1 := askd_TR (b := 3) h
  obtain ⟨h20, r30, -, h33, h34, h35, h36, -⟩ := id hs1
  repeat refine hX _ _ _ _ _ _ ?_
  refine Or.inl (Exists.intro 2 (Exists.intro _ (And.intro rfl (And.intro (by decide) ?_))))
  repeat (first | refine hX _ _ _ _ _ _ ?_ | refine Exists.intro _ (And.intro (by first | rfl | assumption) (And.intro (by first | assumption | exact fd_lt20 h20 (by decide)) (And.intro (by first | rfl | assumption) ?_))))
  refine ok_above hP d dp 4 0 k0 sz ld se _ _ hf (by decide) (by decide) (by decide) hs1 ?_
  have hs2 := askd_TRs (l := (an_w k0 sz ld se f 3 0).2) hs1
  obtain ⟨h20, r30, -, h33, h34, h35, h36, -⟩ := id hs2
  repeat (first | refine hX _ _ _ _ _ _ ?_ | refine Exists.intro _ (And.intro (by first | rfl | assumption) (And.intro (by first | assumption | exact fd_lt20 h20 (by decide)) (And.intro (by first | rfl | assumption) ?_))))
  exact h1
theorem ok_by_4_6 {f : Nat} (hP : an_P f) (d dp k0 : Nat) (sz ld se : Int32) (σ : fd_S) (post : Option fd_V → fd_S → Prop) (hf : f + dp = 16) (h : askd σ k0 sz ld se) (h1 : post (some (.inl ((an_w k0 sz ld se f 5 0).1 + 5))) (TRs σ (4 :: (an_w k0 sz ld se f 5 0).2))) : fd_Sem (d + 3 * f + 6) 10 [.inr (.inr (.inl (some 3))), .inl 4, .inl (nI 6), .inl (nI 0), .inl (nI dp)] σ post := by
  obtain ⟨h20, r30, hk, h33, h34, h35, h36, tl, htl, h31⟩ := id h
  intro X hX hV
  repeat (first | refine hX _ _ _ _ _ _ ?_ | refine Exists.intro _ (And.intro (by first | rfl | assumption) (And.intro (by first | assumption | exact fd_lt20 h20 (by decide)) (And.intro (by first | rfl | assumption) ?_))))
  refine ok_leave _ _ _ _ h ?_
  have hs1 := askd_TR (b := 4) h
  obtain ⟨h20, r30, -, h33, h34, h35, h36, -⟩ := id hs1
  repeat refine hX _ _ _ _ _ _ ?_
  refine Or.inl (Exists.intro 3 (Exists.intro _ (And.intro rfl (And.intro (by decide) ?_))))
  repeat (first | refine hX _ _ _ _ _ _ ?_ | refine Exists.intro _ (And.intro (by first | rfl | assumption) (And.intro (by first | assumption | exact fd_lt20 h20 (by decide)) (And.intro (by first | rfl | assumption) ?_))))
  refine ok_above hP d dp 6 0 k0 sz ld se _ _ hf (by decide) (by decide) (by decide) hs1 ?_
  have hs2 := askd_TRs (l := (an_w k0 sz ld se f 5 0).2) hs1
  obtain ⟨h20, r30, -, h33, h34, h35, h36, -⟩ := id hs2
  repeat (first | refine hX _ _ _ _ _ _ ?_ | refine Exists.intro _ (And.intro (by first | rfl | assumption) (And.intro (by first | assumption | exact fd_lt20 h20 (by decide)) (And.intro (by first | rfl | assumption) ?_))))
  exact h1
theorem ok_by_11_0 {f : Nat} (hP : an_P f) (d dp k0 : Nat) (sz ld se : Int32) (σ : fd_S) (post : Option fd_V → fd_S → Prop) (hf : f + dp = 16) (h : askd σ k0 sz ld se) (h1 : post (some (.inl (1200 + ld))) (TRs σ (11 :: []))) : fd_Sem (d + 3 * f + 6) 10 [.inr (.inr (.inl (some 3))), .inl 11, .inl (nI 0), .inl (nI 1), .inl (nI dp)] σ post := by
  obtain ⟨h20, r30, hk, h33, h34, h35, h36, tl, htl, h31⟩ := id h
  intro X hX hV
  repeat (first | refine hX _ _ _ _ _ _ ?_ | refine Exists.intro _ (And.intro (by first | rfl | assumption) (And.intro (by first | assumption | exact fd_lt20 h20 (by decide)) (And.intro (by first | rfl | assumption) ?_))))
  refine ok_leave _ _ _ _ h ?_
  have hs1 := askd_TR (b := 11) h
  obtain ⟨h20, r30, -, h33, h34, h35, h36, -⟩ := id hs1
  repeat refine hX _ _ _ _ _ _ ?_
  refine Or.inl (Exists.intro 10 (Exists.intro _ (And.intro rfl (And.intro (by decide) ?_))))
  repeat (first | refine hX _ _ _ _ _ _ ?_ | refine Exists.intro _ (And.intro (by first | rfl | assumption) (And.intro (by first | assumption | exact fd_lt20 h20 (by decide)) (And.intro (by first | rfl | assumption) ?_))))
  rw [← h35] at h1
  exact h1
theorem ok_by_12_1 {f : Nat} (hP : an_P f) (d dp k0 : Nat) (sz ld se : Int32) (σ : fd_S) (post : Option fd_V → fd_S → Prop) (hf : f + dp = 16) (h : askd σ k0 sz ld se) (h1 : post (some (.inl ((an_w k0 sz ld se f 0 1).1 + 800))) (TRs σ (12 :: (an_w k0 sz ld se f 0 1).2))) : fd_Sem (d + 3 * f + 6) 10 [.inr (.inr (.inl (some 3))), .inl 12, .inl (nI 1), .inl (nI 1), .inl (nI dp)] σ post := by
  obtain ⟨h20, r30, hk, h33, h34, h35, h36, tl, htl, h31⟩ := id h
  intro X hX hV
  repeat (first | refine hX _ _ _ _ _ _ ?_ | refine Exists.intro _ (And.intro (by first | rfl | assumption) (And.intro (by first | assumption | exact fd_lt20 h20 (by decide)) (And.intro (by first | rfl | assumption) ?_))))
  refine ok_leave _ _ _ _ h ?_
  have hs1 := askd_TR (b := 12) h
  obtain ⟨h20, r30, -, h33, h34, h35, h36, -⟩ := id hs1
  repeat refine hX _ _ _ _ _ _ ?_
  refine Or.inl (Exists.intro 11 (Exists.intro _ (And.intro rfl (And.intro (by decide) ?_))))
  repeat (first | refine hX _ _ _ _ _ _ ?_ | refine Exists.intro _ (And.intro (by first | rfl | assumption) (And.intro (by first | assumption | exact fd_lt20 h20 (by decide)) (And.intro (by first | rfl | assumption) ?_))))
  refine ok_above hP d dp 1 1 k0 sz ld se _ _ hf (by decide) (by decide) (by decide) hs1 ?_
  have hs2 := askd_TRs (l := (an_w k0 sz ld se f 0 1).2) hs1
  obtain ⟨h20, r30, -, h33, h34, h35, h36, -⟩ := id hs2
  repeat (first | refine hX _ _ _ _ _ _ ?_ | refine Exists.intro _ (And.intro (by first | rfl | assumption) (And.intro (by first | assumption | exact fd_lt20 h20 (by decide)) (And.intro (by first | rfl | assumption) ?_))))
  exact h1
theorem ok_by_13_3 {f : Nat} (hP : an_P f) (d dp k0 : Nat) (sz ld se : Int32) (σ : fd_S) (post : Option fd_V → fd_S → Prop) (hf : f + dp = 16) (h : askd σ k0 sz ld se) (h1 : post (some (.inl ((an_w k0 sz ld se f 2 1).1 + ld / 4))) (TRs σ (13 :: (an_w k0 sz ld se f 2 1).2))) : fd_Sem (d + 3 * f + 6) 10 [.inr (.inr (.inl (some 3))), .inl 13, .inl (nI 3), .inl (nI 1), .inl (nI dp)] σ post := by
  obtain ⟨h20, r30, hk, h33, h34, h35, h36, tl, htl, h31⟩ := id h
  intro X hX hV
  repeat (first | refine hX _ _ _ _ _ _ ?_ | refine Exists.intro _ (And.intro (by first | rfl | assumption) (And.intro (by first | assumption | exact fd_lt20 h20 (by decide)) (And.intro (by first | rfl | assumption) ?_))))
  refine ok_leave _ _ _ _ h ?_
  have hs1 := askd_TR (b := 13) h
  obtain ⟨h20, r30, -, h33, h34, h35, h36, -⟩ := id hs1
  repeat refine hX _ _ _ _ _ _ ?_
  refine Or.inl (Exists.intro 12 (Exists.intro _ (And.intro rfl (And.intro (by decide) ?_))))
  repeat (first | refine hX _ _ _ _ _ _ ?_ | refine Exists.intro _ (And.intro (by first | rfl | assumption) (And.intro (by first | assumption | exact fd_lt20 h20 (by decide)) (And.intro (by first | rfl | assumption) ?_))))
  refine ok_above hP d dp 3 1 k0 sz ld se _ _ hf (by decide) (by decide) (by decide) hs1 ?_
  have hs2 := askd_TRs (l := (an_w k0 sz ld se f 2 1).2) hs1
  obtain ⟨h20, r30, -, h33, h34, h35, h36, -⟩ := id hs2
  repeat (first | refine hX _ _ _ _ _ _ ?_ | refine Exists.intro _ (And.intro (by first | rfl | assumption) (And.intro (by first | assumption | exact fd_lt20 h20 (by decide)) (And.intro (by first | rfl | assumption) ?_))))
  refine And.intro (by decide) ?_
  repeat (first | refine hX _ _ _ _ _ _ ?_ | refine Exists.intro _ (And.intro (by first | rfl | assumption) (And.intro (by first | assumption | exact fd_lt20 h20 (by decide)) (And.intro (by first | rfl | assumption) ?_))))
  exact (congrArg (fun z => post (some (.inl ((an_w k0 sz ld se f 2 1).1 + z / 4))) (TRs σ (13 :: (an_w k0 sz ld se f 2 1).2))) h35).mpr h1
theorem ok_by_14_6 {f : Nat} (hP : an_P f) (d dp k0 : Nat) (sz ld se : Int32) (σ : fd_S) (post : Option fd_V → fd_S → Prop) (hf : f + dp = 16) (h : askd σ k0 sz ld se) (h1 : post (some (.inl ((an_w k0 sz ld se f 5 1).1 + 9000))) (TRs σ (14 :: (an_w k0 sz ld se f 5 1).2))) : fd_Sem (d + 3 * f + 6) 10 [.inr (.inr (.inl (some 3))), .inl 14, .inl (nI 6), .inl (nI 1), .inl (nI dp)] σ post := by
  obtain ⟨h20, r30, hk, h33, h34, h35, h36, tl, htl, h31⟩ := id h
  intro X hX hV
  repeat (first | refine hX _ _ _ _ _ _ ?_ | refine Exists.intro _ (And.intro (by first | rfl | assumption) (And.intro (by first | assumption | exact fd_lt20 h20 (by decide)) (And.intro (by first | rfl | assumption) ?_))))
  refine ok_leave _ _ _ _ h ?_
  have hs1 := askd_TR (b := 14) h
  obtain ⟨h20, r30, -, h33, h34, h35, h36, -⟩ := id hs1
  repeat refine hX _ _ _ _ _ _ ?_
  refine Or.inl (Exists.intro 13 (Exists.intro _ (And.intro rfl (And.intro (by decide) ?_))))
  repeat (first | refine hX _ _ _ _ _ _ ?_ | refine Exists.intro _ (And.intro (by first | rfl | assumption) (And.intro (by first | assumption | exact fd_lt20 h20 (by decide)) (And.intro (by first | rfl | assumption) ?_))))
  refine ok_above hP d dp 6 1 k0 sz ld se _ _ hf (by decide) (by decide) (by decide) hs1 ?_
  have hs2 := askd_TRs (l := (an_w k0 sz ld se f 5 1).2) hs1
  obtain ⟨h20, r30, -, h33, h34, h35, h36, -⟩ := id hs2
  repeat (first | refine hX _ _ _ _ _ _ ?_ | refine Exists.intro _ (And.intro (by first | rfl | assumption) (And.intro (by first | assumption | exact fd_lt20 h20 (by decide)) (And.intro (by first | rfl | assumption) ?_))))
  exact h1
theorem ok_by_21_0 {f : Nat} (hP : an_P f) (d dp k0 : Nat) (sz ld se : Int32) (σ : fd_S) (post : Option fd_V → fd_S → Prop) (hf : f + dp = 16) (h : askd σ k0 sz ld se) (h1 : post (some (.inl (1 + (an_w k0 sz ld se f k0 0).1 / 50))) (TRs σ (21 :: (an_w k0 sz ld se f k0 0).2))) : fd_Sem (d + 3 * f + 6) 10 [.inr (.inr (.inl (some 3))), .inl 21, .inl (nI 0), .inl (nI 2), .inl (nI dp)] σ post := by
  obtain ⟨h20, r30, hk, h33, h34, h35, h36, tl, htl, h31⟩ := id h
  intro X hX hV
  repeat (first | refine hX _ _ _ _ _ _ ?_ | refine Exists.intro _ (And.intro (by first | rfl | assumption) (And.intro (by first | assumption | exact fd_lt20 h20 (by decide)) (And.intro (by first | rfl | assumption) ?_))))
  refine ok_leave _ _ _ _ h ?_
  have hs1 := askd_TR (b := 21) h
  obtain ⟨h20, r30, -, h33, h34, h35, h36, -⟩ := id hs1
  repeat refine hX _ _ _ _ _ _ ?_
  refine Or.inl (Exists.intro 20 (Exists.intro _ (And.intro rfl (And.intro (by decide) ?_))))
  repeat (first | refine hX _ _ _ _ _ _ ?_ | refine Exists.intro _ (And.intro (by first | rfl | assumption) (And.intro (by first | assumption | exact fd_lt20 h20 (by decide)) (And.intro (by first | rfl | assumption) ?_))))
  refine ok_own hP d dp 0 k0 sz ld se _ _ hf (by decide) hs1 ?_
  have hs2 := askd_TRs (l := (an_w k0 sz ld se f k0 0).2) hs1
  obtain ⟨h20, r30, -, h33, h34, h35, h36, -⟩ := id hs2
  repeat (first | refine hX _ _ _ _ _ _ ?_ | refine Exists.intro _ (And.intro (by first | rfl | assumption) (And.intro (by first | assumption | exact fd_lt20 h20 (by decide)) (And.intro (by first | rfl | assumption) ?_))))
  refine And.intro (by decide) ?_
  repeat (first | refine hX _ _ _ _ _ _ ?_ | refine Exists.intro _ (And.intro (by first | rfl | assumption) (And.intro (by first | assumption | exact fd_lt20 h20 (by decide)) (And.intro (by first | rfl | assumption) ?_))))
  exact h1
theorem ok_by_22_4 {f : Nat} (hP : an_P f) (d dp k0 : Nat) (sz ld se : Int32) (σ : fd_S) (post : Option fd_V → fd_S → Prop) (hf : f + dp = 16) (h : askd σ k0 sz ld se) (h1 : post (some (.inl ((an_w k0 sz ld se f 3 2).1 + 6))) (TRs σ (22 :: (an_w k0 sz ld se f 3 2).2))) : fd_Sem (d + 3 * f + 6) 10 [.inr (.inr (.inl (some 3))), .inl 22, .inl (nI 4), .inl (nI 2), .inl (nI dp)] σ post := by
  obtain ⟨h20, r30, hk, h33, h34, h35, h36, tl, htl, h31⟩ := id h
  intro X hX hV
  repeat (first | refine hX _ _ _ _ _ _ ?_ | refine Exists.intro _ (And.intro (by first | rfl | assumption) (And.intro (by first | assumption | exact fd_lt20 h20 (by decide)) (And.intro (by first | rfl | assumption) ?_))))
  refine ok_leave _ _ _ _ h ?_
  have hs1 := askd_TR (b := 22) h
  obtain ⟨h20, r30, -, h33, h34, h35, h36, -⟩ := id hs1
  repeat refine hX _ _ _ _ _ _ ?_
  refine Or.inl (Exists.intro 21 (Exists.intro _ (And.intro rfl (And.intro (by decide) ?_))))
  repeat (first | refine hX _ _ _ _ _ _ ?_ | refine Exists.intro _ (And.intro (by first | rfl | assumption) (And.intro (by first | assumption | exact fd_lt20 h20 (by decide)) (And.intro (by first | rfl | assumption) ?_))))
  refine ok_above hP d dp 4 2 k0 sz ld se _ _ hf (by decide) (by decide) (by decide) hs1 ?_
  have hs2 := askd_TRs (l := (an_w k0 sz ld se f 3 2).2) hs1
  obtain ⟨h20, r30, -, h33, h34, h35, h36, -⟩ := id hs2
  repeat (first | refine hX _ _ _ _ _ _ ?_ | refine Exists.intro _ (And.intro (by first | rfl | assumption) (And.intro (by first | assumption | exact fd_lt20 h20 (by decide)) (And.intro (by first | rfl | assumption) ?_))))
  exact h1
theorem ok_by_31_0 {f : Nat} (hP : an_P f) (d dp k0 : Nat) (sz ld se : Int32) (σ : fd_S) (post : Option fd_V → fd_S → Prop) (hf : f + dp = 16) (h : askd σ k0 sz ld se) (h1 : post (some (.inl (500 + (an_w k0 sz ld se f k0 0).1 * (10 + se)))) (TRs σ (31 :: (an_w k0 sz ld se f k0 0).2))) : fd_Sem (d + 3 * f + 6) 10 [.inr (.inr (.inl (some 3))), .inl 31, .inl (nI 0), .inl (nI 3), .inl (nI dp)] σ post := by
  obtain ⟨h20, r30, hk, h33, h34, h35, h36, tl, htl, h31⟩ := id h
  intro X hX hV
  repeat (first | refine hX _ _ _ _ _ _ ?_ | refine Exists.intro _ (And.intro (by first | rfl | assumption) (And.intro (by first | assumption | exact fd_lt20 h20 (by decide)) (And.intro (by first | rfl | assumption) ?_))))
  refine ok_leave _ _ _ _ h ?_
  have hs1 := askd_TR (b := 31) h
  obtain ⟨h20, r30, -, h33, h34, h35, h36, -⟩ := id hs1
  repeat refine hX _ _ _ _ _ _ ?_
  refine Or.inl (Exists.intro 30 (Exists.intro _ (And.intro rfl (And.intro (by decide) ?_))))
  repeat (first | refine hX _ _ _ _ _ _ ?_ | refine Exists.intro _ (And.intro (by first | rfl | assumption) (And.intro (by first | assumption | exact fd_lt20 h20 (by decide)) (And.intro (by first | rfl | assumption) ?_))))
  refine ok_own hP d dp 0 k0 sz ld se _ _ hf (by decide) hs1 ?_
  have hs2 := askd_TRs (l := (an_w k0 sz ld se f k0 0).2) hs1
  obtain ⟨h20, r30, -, h33, h34, h35, h36, -⟩ := id hs2
  repeat (first | refine hX _ _ _ _ _ _ ?_ | refine Exists.intro _ (And.intro (by first | rfl | assumption) (And.intro (by first | assumption | exact fd_lt20 h20 (by decide)) (And.intro (by first | rfl | assumption) ?_))))
  exact (congrArg (fun z => post (some (.inl (500 + (an_w k0 sz ld se f k0 0).1 * (10 + z)))) (TRs σ (31 :: (an_w k0 sz ld se f k0 0).2))) h36).mpr h1
theorem ok_by_32_1 {f : Nat} (hP : an_P f) (d dp k0 : Nat) (sz ld se : Int32) (σ : fd_S) (post : Option fd_V → fd_S → Prop) (hf : f + dp = 16) (h : askd σ k0 sz ld se) (h1 : post (some (.inl ((an_w k0 sz ld se f 0 3).1 + 20 * se))) (TRs σ (32 :: (an_w k0 sz ld se f 0 3).2))) : fd_Sem (d + 3 * f + 6) 10 [.inr (.inr (.inl (some 3))), .inl 32, .inl (nI 1), .inl (nI 3), .inl (nI dp)] σ post := by
  obtain ⟨h20, r30, hk, h33, h34, h35, h36, tl, htl, h31⟩ := id h
  intro X hX hV
  repeat (first | refine hX _ _ _ _ _ _ ?_ | refine Exists.intro _ (And.intro (by first | rfl | assumption) (And.intro (by first | assumption | exact fd_lt20 h20 (by decide)) (And.intro (by first | rfl | assumption) ?_))))
  refine ok_leave _ _ _ _ h ?_
  have hs1 := askd_TR (b := 32) h
  obtain ⟨h20, r30, -, h33, h34, h35, h36, -⟩ := id hs1
  repeat refine hX _ _ _ _ _ _ ?_
  refine Or.inl (Exists.intro 31 (Exists.intro _ (And.intro rfl (And.intro (by decide) ?_))))
  repeat (first | refine hX _ _ _ _ _ _ ?_ | refine Exists.intro _ (And.intro (by first | rfl | assumption) (And.intro (by first | assumption | exact fd_lt20 h20 (by decide)) (And.intro (by first | rfl | assumption) ?_))))
  refine ok_above hP d dp 1 3 k0 sz ld se _ _ hf (by decide) (by decide) (by decide) hs1 ?_
  have hs2 := askd_TRs (l := (an_w k0 sz ld se f 0 3).2) hs1
  obtain ⟨h20, r30, -, h33, h34, h35, h36, -⟩ := id hs2
  repeat (first | refine hX _ _ _ _ _ _ ?_ | refine Exists.intro _ (And.intro (by first | rfl | assumption) (And.intro (by first | assumption | exact fd_lt20 h20 (by decide)) (And.intro (by first | rfl | assumption) ?_))))
  exact (congrArg (fun z => post (some (.inl ((an_w k0 sz ld se f 0 3).1 + 20 * z))) (TRs σ (32 :: (an_w k0 sz ld se f 0 3).2))) h36).mpr h1
theorem ok_by_33_3 {f : Nat} (hP : an_P f) (d dp k0 : Nat) (sz ld se : Int32) (σ : fd_S) (post : Option fd_V → fd_S → Prop) (hf : f + dp = 16) (h : askd σ k0 sz ld se) (h1 : post (some (.inl (2 * (an_w k0 sz ld se f 2 3).1))) (TRs σ (33 :: (an_w k0 sz ld se f 2 3).2))) : fd_Sem (d + 3 * f + 6) 10 [.inr (.inr (.inl (some 3))), .inl 33, .inl (nI 3), .inl (nI 3), .inl (nI dp)] σ post := by
  obtain ⟨h20, r30, hk, h33, h34, h35, h36, tl, htl, h31⟩ := id h
  intro X hX hV
  repeat (first | refine hX _ _ _ _ _ _ ?_ | refine Exists.intro _ (And.intro (by first | rfl | assumption) (And.intro (by first | assumption | exact fd_lt20 h20 (by decide)) (And.intro (by first | rfl | assumption) ?_))))
  refine ok_leave _ _ _ _ h ?_
  have hs1 := askd_TR (b := 33) h
  obtain ⟨h20, r30, -, h33, h34, h35, h36, -⟩ := id hs1
  repeat refine hX _ _ _ _ _ _ ?_
  refine Or.inl (Exists.intro 32 (Exists.intro _ (And.intro rfl (And.intro (by decide) ?_))))
  repeat (first | refine hX _ _ _ _ _ _ ?_ | refine Exists.intro _ (And.intro (by first | rfl | assumption) (And.intro (by first | assumption | exact fd_lt20 h20 (by decide)) (And.intro (by first | rfl | assumption) ?_))))
  refine ok_above hP d dp 3 3 k0 sz ld se _ _ hf (by decide) (by decide) (by decide) hs1 ?_
  have hs2 := askd_TRs (l := (an_w k0 sz ld se f 2 3).2) hs1
  obtain ⟨h20, r30, -, h33, h34, h35, h36, -⟩ := id hs2
  repeat (first | refine hX _ _ _ _ _ _ ?_ | refine Exists.intro _ (And.intro (by first | rfl | assumption) (And.intro (by first | assumption | exact fd_lt20 h20 (by decide)) (And.intro (by first | rfl | assumption) ?_))))
  exact h1
theorem ok_by_34_4 {f : Nat} (hP : an_P f) (d dp k0 : Nat) (sz ld se : Int32) (σ : fd_S) (post : Option fd_V → fd_S → Prop) (hf : f + dp = 16) (h : askd σ k0 sz ld se) (h1 : post (some (.inl ((an_w k0 sz ld se f 3 3).1 + (an_w k0 sz ld se f k0 1).1 / 100))) (TRs σ (34 :: ((an_w k0 sz ld se f 3 3).2 ++ (an_w k0 sz ld se f k0 1).2)))) : fd_Sem (d + 3 * f + 6) 10 [.inr (.inr (.inl (some 3))), .inl 34, .inl (nI 4), .inl (nI 3), .inl (nI dp)] σ post := by
  obtain ⟨h20, r30, hk, h33, h34, h35, h36, tl, htl, h31⟩ := id h
  intro X hX hV
  repeat (first | refine hX _ _ _ _ _ _ ?_ | refine Exists.intro _ (And.intro (by first | rfl | assumption) (And.intro (by first | assumption | exact fd_lt20 h20 (by decide)) (And.intro (by first | rfl | assumption) ?_))))
  refine ok_leave _ _ _ _ h ?_
  have hs1 := askd_TR (b := 34) h
  obtain ⟨h20, r30, -, h33, h34, h35, h36, -⟩ := id hs1
  repeat refine hX _ _ _ _ _ _ ?_
  refine Or.inl (Exists.intro 33 (Exists.intro _ (And.intro rfl (And.intro (by decide) ?_))))
  repeat (first | refine hX _ _ _ _ _ _ ?_ | refine Exists.intro _ (And.intro (by first | rfl | assumption) (And.intro (by first | assumption | exact fd_lt20 h20 (by decide)) (And.intro (by first | rfl | assumption) ?_))))
  refine ok_above hP d dp 4 3 k0 sz ld se _ _ hf (by decide) (by decide) (by decide) hs1 ?_
  have hs2 := askd_TRs (l := (an_w k0 sz ld se f 3 3).2) hs1
  obtain ⟨h20, r30, -, h33, h34, h35, h36, -⟩ := id hs2
  repeat (first | refine hX _ _ _ _ _ _ ?_ | refine Exists.intro _ (And.intro (by first | rfl | assumption) (And.intro (by first | assumption | exact fd_lt20 h20 (by decide)) (And.intro (by first | rfl | assumption) ?_))))
  refine ok_own hP d dp 1 k0 sz ld se _ _ hf (by decide) hs2 ?_
  have hs3 := askd_TRs (l := (an_w k0 sz ld se f k0 1).2) hs2
  obtain ⟨h20, r30, -, h33, h34, h35, h36, -⟩ := id hs3
  repeat (first | refine hX _ _ _ _ _ _ ?_ | refine Exists.intro _ (And.intro (by first | rfl | assumption) (And.intro (by first | assumption | exact fd_lt20 h20 (by decide)) (And.intro (by first | rfl | assumption) ?_))))
  refine And.intro (by decide) ?_
  repeat (first | refine hX _ _ _ _ _ _ ?_ | refine Exists.intro _ (And.intro (by first | rfl | assumption) (And.intro (by first | assumption | exact fd_lt20 h20 (by decide)) (And.intro (by first | rfl | assumption) ?_))))
  rw [show TRs σ (34 :: ((an_w k0 sz ld se f 3 3).2 ++ (an_w k0 sz ld se f k0 1).2)) = TRs (TRs (TR σ 34) (an_w k0 sz ld se f 3 3).2) (an_w k0 sz ld se f k0 1).2 from TRs_app (TR σ 34) _ _] at h1
  exact h1
theorem ok_by_35_6 {f : Nat} (hP : an_P f) (d dp k0 : Nat) (sz ld se : Int32) (σ : fd_S) (post : Option fd_V → fd_S → Prop) (hf : f + dp = 16) (h : askd σ k0 sz ld se) (h1 : post (some (.inl ((an_w k0 sz ld se f 5 3).1 - (an_w k0 sz ld se f 5 3).1 / 10))) (TRs σ (35 :: (an_w k0 sz ld se f 5 3).2))) : fd_Sem (d + 3 * f + 6) 10 [.inr (.inr (.inl (some 3))), .inl 35, .inl (nI 6), .inl (nI 3), .inl (nI dp)] σ post := by
  obtain ⟨h20, r30, hk, h33, h34, h35, h36, tl, htl, h31⟩ := id h
  intro X hX hV
  repeat (first | refine hX _ _ _ _ _ _ ?_ | refine Exists.intro _ (And.intro (by first | rfl | assumption) (And.intro (by first | assumption | exact fd_lt20 h20 (by decide)) (And.intro (by first | rfl | assumption) ?_))))
  refine ok_leave _ _ _ _ h ?_
  have hs1 := askd_TR (b := 35) h
  obtain ⟨h20, r30, -, h33, h34, h35, h36, -⟩ := id hs1
  repeat refine hX _ _ _ _ _ _ ?_
  refine Or.inl (Exists.intro 34 (Exists.intro _ (And.intro rfl (And.intro (by decide) ?_))))
  repeat (first | refine hX _ _ _ _ _ _ ?_ | refine Exists.intro _ (And.intro (by first | rfl | assumption) (And.intro (by first | assumption | exact fd_lt20 h20 (by decide)) (And.intro (by first | rfl | assumption) ?_))))
  refine ok_above hP d dp 6 3 k0 sz ld se _ _ hf (by decide) (by decide) (by decide) hs1 ?_
  have hs2 := askd_TRs (l := (an_w k0 sz ld se f 5 3).2) hs1
  obtain ⟨h20, r30, -, h33, h34, h35, h36, -⟩ := id hs2
  repeat (first | refine hX _ _ _ _ _ _ ?_ | refine Exists.intro _ (And.intro (by first | rfl | assumption) (And.intro (by first | assumption | exact fd_lt20 h20 (by decide)) (And.intro (by first | rfl | assumption) ?_))))
  refine ok_lessATenth _ _ _ _ ?_
  repeat (first | refine hX _ _ _ _ _ _ ?_ | refine Exists.intro _ (And.intro (by first | rfl | assumption) (And.intro (by first | assumption | exact fd_lt20 h20 (by decide)) (And.intro (by first | rfl | assumption) ?_))))
  exact h1
theorem ok_by_41_2 {f : Nat} (hP : an_P f) (d dp k0 : Nat) (sz ld se : Int32) (σ : fd_S) (post : Option fd_V → fd_S → Prop) (hf : f + dp = 16) (h : askd σ k0 sz ld se) (h1 : post (some (.inl ((an_w k0 sz ld se f k0 1).1 / 200))) (TRs σ (41 :: (an_w k0 sz ld se f k0 1).2))) : fd_Sem (d + 3 * f + 6) 10 [.inr (.inr (.inl (some 3))), .inl 41, .inl (nI 2), .inl (nI 4), .inl (nI dp)] σ post := by
  obtain ⟨h20, r30, hk, h33, h34, h35, h36, tl, htl, h31⟩ := id h
  intro X hX hV
  repeat (first | refine hX _ _ _ _ _ _ ?_ | refine Exists.intro _ (And.intro (by first | rfl | assumption) (And.intro (by first | assumption | exact fd_lt20 h20 (by decide)) (And.intro (by first | rfl | assumption) ?_))))
  refine ok_leave _ _ _ _ h ?_
  have hs1 := askd_TR (b := 41) h
  obtain ⟨h20, r30, -, h33, h34, h35, h36, -⟩ := id hs1
  repeat refine hX _ _ _ _ _ _ ?_
  refine Or.inl (Exists.intro 40 (Exists.intro _ (And.intro rfl (And.intro (by decide) ?_))))
  repeat (first | refine hX _ _ _ _ _ _ ?_ | refine Exists.intro _ (And.intro (by first | rfl | assumption) (And.intro (by first | assumption | exact fd_lt20 h20 (by decide)) (And.intro (by first | rfl | assumption) ?_))))
  refine ok_own hP d dp 1 k0 sz ld se _ _ hf (by decide) hs1 ?_
  have hs2 := askd_TRs (l := (an_w k0 sz ld se f k0 1).2) hs1
  obtain ⟨h20, r30, -, h33, h34, h35, h36, -⟩ := id hs2
  repeat (first | refine hX _ _ _ _ _ _ ?_ | refine Exists.intro _ (And.intro (by first | rfl | assumption) (And.intro (by first | assumption | exact fd_lt20 h20 (by decide)) (And.intro (by first | rfl | assumption) ?_))))
  refine And.intro (by decide) ?_
  repeat (first | refine hX _ _ _ _ _ _ ?_ | refine Exists.intro _ (And.intro (by first | rfl | assumption) (And.intro (by first | assumption | exact fd_lt20 h20 (by decide)) (And.intro (by first | rfl | assumption) ?_))))
  exact h1
theorem ok_by_41_6 {f : Nat} (hP : an_P f) (d dp k0 : Nat) (sz ld se : Int32) (σ : fd_S) (post : Option fd_V → fd_S → Prop) (hf : f + dp = 16) (h : askd σ k0 sz ld se) (h1 : post (some (.inl ((an_w k0 sz ld se f k0 1).1 / 200))) (TRs σ (41 :: (an_w k0 sz ld se f k0 1).2))) : fd_Sem (d + 3 * f + 6) 10 [.inr (.inr (.inl (some 3))), .inl 41, .inl (nI 6), .inl (nI 4), .inl (nI dp)] σ post := by
  obtain ⟨h20, r30, hk, h33, h34, h35, h36, tl, htl, h31⟩ := id h
  intro X hX hV
  repeat (first | refine hX _ _ _ _ _ _ ?_ | refine Exists.intro _ (And.intro (by first | rfl | assumption) (And.intro (by first | assumption | exact fd_lt20 h20 (by decide)) (And.intro (by first | rfl | assumption) ?_))))
  refine ok_leave _ _ _ _ h ?_
  have hs1 := askd_TR (b := 41) h
  obtain ⟨h20, r30, -, h33, h34, h35, h36, -⟩ := id hs1
  repeat refine hX _ _ _ _ _ _ ?_
  refine Or.inl (Exists.intro 40 (Exists.intro _ (And.intro rfl (And.intro (by decide) ?_))))
  repeat (first | refine hX _ _ _ _ _ _ ?_ | refine Exists.intro _ (And.intro (by first | rfl | assumption) (And.intro (by first | assumption | exact fd_lt20 h20 (by decide)) (And.intro (by first | rfl | assumption) ?_))))
  refine ok_own hP d dp 1 k0 sz ld se _ _ hf (by decide) hs1 ?_
  have hs2 := askd_TRs (l := (an_w k0 sz ld se f k0 1).2) hs1
  obtain ⟨h20, r30, -, h33, h34, h35, h36, -⟩ := id hs2
  repeat (first | refine hX _ _ _ _ _ _ ?_ | refine Exists.intro _ (And.intro (by first | rfl | assumption) (And.intro (by first | assumption | exact fd_lt20 h20 (by decide)) (And.intro (by first | rfl | assumption) ?_))))
  refine And.intro (by decide) ?_
  repeat (first | refine hX _ _ _ _ _ _ ?_ | refine Exists.intro _ (And.intro (by first | rfl | assumption) (And.intro (by first | assumption | exact fd_lt20 h20 (by decide)) (And.intro (by first | rfl | assumption) ?_))))
  exact h1
theorem ok_by_42_3 {f : Nat} (hP : an_P f) (d dp k0 : Nat) (sz ld se : Int32) (σ : fd_S) (post : Option fd_V → fd_S → Prop) (hf : f + dp = 16) (h : askd σ k0 sz ld se) (h1 : post (some (.inl ((an_w k0 sz ld se f k0 1).1 / 100 + 300))) (TRs σ (42 :: (an_w k0 sz ld se f k0 1).2))) : fd_Sem (d + 3 * f + 6) 10 [.inr (.inr (.inl (some 3))), .inl 42, .inl (nI 3), .inl (nI 4), .inl (nI dp)] σ post := by
  obtain ⟨h20, r30, hk, h33, h34, h35, h36, tl, htl, h31⟩ := id h
  intro X hX hV
  repeat (first | refine hX _ _ _ _ _ _ ?_ | refine Exists.intro _ (And.intro (by first | rfl | assumption) (And.intro (by first | assumption | exact fd_lt20 h20 (by decide)) (And.intro (by first | rfl | assumption) ?_))))
  refine ok_leave _ _ _ _ h ?_
  have hs1 := askd_TR (b := 42) h
  obtain ⟨h20, r30, -, h33, h34, h35, h36, -⟩ := id hs1
  repeat refine hX _ _ _ _ _ _ ?_
  refine Or.inl (Exists.intro 41 (Exists.intro _ (And.intro rfl (And.intro (by decide) ?_))))
  repeat (first | refine hX _ _ _ _ _ _ ?_ | refine Exists.intro _ (And.intro (by first | rfl | assumption) (And.intro (by first | assumption | exact fd_lt20 h20 (by decide)) (And.intro (by first | rfl | assumption) ?_))))
  refine ok_own hP d dp 1 k0 sz ld se _ _ hf (by decide) hs1 ?_
  have hs2 := askd_TRs (l := (an_w k0 sz ld se f k0 1).2) hs1
  obtain ⟨h20, r30, -, h33, h34, h35, h36, -⟩ := id hs2
  repeat (first | refine hX _ _ _ _ _ _ ?_ | refine Exists.intro _ (And.intro (by first | rfl | assumption) (And.intro (by first | assumption | exact fd_lt20 h20 (by decide)) (And.intro (by first | rfl | assumption) ?_))))
  refine And.intro (by decide) ?_
  repeat (first | refine hX _ _ _ _ _ _ ?_ | refine Exists.intro _ (And.intro (by first | rfl | assumption) (And.intro (by first | assumption | exact fd_lt20 h20 (by decide)) (And.intro (by first | rfl | assumption) ?_))))
  exact h1
theorem ok_by_51_3 {f : Nat} (hP : an_P f) (d dp k0 : Nat) (sz ld se : Int32) (σ : fd_S) (post : Option fd_V → fd_S → Prop) (hf : f + dp = 16) (h : askd σ k0 sz ld se) (h1 : post (some (.inl (1 + (an_w k0 sz ld se f k0 2).1 / 4))) (TRs σ (51 :: (an_w k0 sz ld se f k0 2).2))) : fd_Sem (d + 3 * f + 6) 10 [.inr (.inr (.inl (some 3))), .inl 51, .inl (nI 3), .inl (nI 5), .inl (nI dp)] σ post := by
  obtain ⟨h20, r30, hk, h33, h34, h35, h36, tl, htl, h31⟩ := id h
  intro X hX hV
  repeat (first | refine hX _ _ _ _ _ _ ?_ | refine Exists.intro _ (And.intro (by first | rfl | assumption) (And.intro (by first | assumption | exact fd_lt20 h20 (by decide)) (And.intro (by first | rfl | assumption) ?_))))
  refine ok_leave _ _ _ _ h ?_
  have hs1 := askd_TR (b := 51) h
  obtain ⟨h20, r30, -, h33, h34, h35, h36, -⟩ := id hs1
  repeat refine hX _ _ _ _ _ _ ?_
  refine Or.inl (Exists.intro 50 (Exists.intro _ (And.intro rfl (And.intro (by decide) ?_))))
  repeat (first | refine hX _ _ _ _ _ _ ?_ | refine Exists.intro _ (And.intro (by first | rfl | assumption) (And.intro (by first | assumption | exact fd_lt20 h20 (by decide)) (And.intro (by first | rfl | assumption) ?_))))
  refine ok_own hP d dp 2 k0 sz ld se _ _ hf (by decide) hs1 ?_
  have hs2 := askd_TRs (l := (an_w k0 sz ld se f k0 2).2) hs1
  obtain ⟨h20, r30, -, h33, h34, h35, h36, -⟩ := id hs2
  repeat (first | refine hX _ _ _ _ _ _ ?_ | refine Exists.intro _ (And.intro (by first | rfl | assumption) (And.intro (by first | assumption | exact fd_lt20 h20 (by decide)) (And.intro (by first | rfl | assumption) ?_))))
  refine And.intro (by decide) ?_
  repeat (first | refine hX _ _ _ _ _ _ ?_ | refine Exists.intro _ (And.intro (by first | rfl | assumption) (And.intro (by first | assumption | exact fd_lt20 h20 (by decide)) (And.intro (by first | rfl | assumption) ?_))))
  exact h1
theorem ok_by_51_5 {f : Nat} (hP : an_P f) (d dp k0 : Nat) (sz ld se : Int32) (σ : fd_S) (post : Option fd_V → fd_S → Prop) (hf : f + dp = 16) (h : askd σ k0 sz ld se) (h1 : post (some (.inl (1 + (an_w k0 sz ld se f k0 2).1 / 4))) (TRs σ (51 :: (an_w k0 sz ld se f k0 2).2))) : fd_Sem (d + 3 * f + 6) 10 [.inr (.inr (.inl (some 3))), .inl 51, .inl (nI 5), .inl (nI 5), .inl (nI dp)] σ post := by
  obtain ⟨h20, r30, hk, h33, h34, h35, h36, tl, htl, h31⟩ := id h
  intro X hX hV
  repeat (first | refine hX _ _ _ _ _ _ ?_ | refine Exists.intro _ (And.intro (by first | rfl | assumption) (And.intro (by first | assumption | exact fd_lt20 h20 (by decide)) (And.intro (by first | rfl | assumption) ?_))))
  refine ok_leave _ _ _ _ h ?_
  have hs1 := askd_TR (b := 51) h
  obtain ⟨h20, r30, -, h33, h34, h35, h36, -⟩ := id hs1
  repeat refine hX _ _ _ _ _ _ ?_
  refine Or.inl (Exists.intro 50 (Exists.intro _ (And.intro rfl (And.intro (by decide) ?_))))
  repeat (first | refine hX _ _ _ _ _ _ ?_ | refine Exists.intro _ (And.intro (by first | rfl | assumption) (And.intro (by first | assumption | exact fd_lt20 h20 (by decide)) (And.intro (by first | rfl | assumption) ?_))))
  refine ok_own hP d dp 2 k0 sz ld se _ _ hf (by decide) hs1 ?_
  have hs2 := askd_TRs (l := (an_w k0 sz ld se f k0 2).2) hs1
  obtain ⟨h20, r30, -, h33, h34, h35, h36, -⟩ := id hs2
  repeat (first | refine hX _ _ _ _ _ _ ?_ | refine Exists.intro _ (And.intro (by first | rfl | assumption) (And.intro (by first | assumption | exact fd_lt20 h20 (by decide)) (And.intro (by first | rfl | assumption) ?_))))
  refine And.intro (by decide) ?_
  repeat (first | refine hX _ _ _ _ _ _ ?_ | refine Exists.intro _ (And.intro (by first | rfl | assumption) (And.intro (by first | assumption | exact fd_lt20 h20 (by decide)) (And.intro (by first | rfl | assumption) ?_))))
  exact h1
theorem ok_by_52_6 {f : Nat} (hP : an_P f) (d dp k0 : Nat) (sz ld se : Int32) (σ : fd_S) (post : Option fd_V → fd_S → Prop) (hf : f + dp = 16) (h : askd σ k0 sz ld se) (h1 : post (some (.inl (2 + (an_w k0 sz ld se f k0 0).1 / 100))) (TRs σ (52 :: (an_w k0 sz ld se f k0 0).2))) : fd_Sem (d + 3 * f + 6) 10 [.inr (.inr (.inl (some 3))), .inl 52, .inl (nI 6), .inl (nI 5), .inl (nI dp)] σ post := by
  obtain ⟨h20, r30, hk, h33, h34, h35, h36, tl, htl, h31⟩ := id h
  intro X hX hV
  repeat (first | refine hX _ _ _ _ _ _ ?_ | refine Exists.intro _ (And.intro (by first | rfl | assumption) (And.intro (by first | assumption | exact fd_lt20 h20 (by decide)) (And.intro (by first | rfl | assumption) ?_))))
  refine ok_leave _ _ _ _ h ?_
  have hs1 := askd_TR (b := 52) h
  obtain ⟨h20, r30, -, h33, h34, h35, h36, -⟩ := id hs1
  repeat refine hX _ _ _ _ _ _ ?_
  refine Or.inl (Exists.intro 51 (Exists.intro _ (And.intro rfl (And.intro (by decide) ?_))))
  repeat (first | refine hX _ _ _ _ _ _ ?_ | refine Exists.intro _ (And.intro (by first | rfl | assumption) (And.intro (by first | assumption | exact fd_lt20 h20 (by decide)) (And.intro (by first | rfl | assumption) ?_))))
  refine ok_own hP d dp 0 k0 sz ld se _ _ hf (by decide) hs1 ?_
  have hs2 := askd_TRs (l := (an_w k0 sz ld se f k0 0).2) hs1
  obtain ⟨h20, r30, -, h33, h34, h35, h36, -⟩ := id hs2
  repeat (first | refine hX _ _ _ _ _ _ ?_ | refine Exists.intro _ (And.intro (by first | rfl | assumption) (And.intro (by first | assumption | exact fd_lt20 h20 (by decide)) (And.intro (by first | rfl | assumption) ?_))))
  refine And.intro (by decide) ?_
  repeat (first | refine hX _ _ _ _ _ _ ?_ | refine Exists.intro _ (And.intro (by first | rfl | assumption) (And.intro (by first | assumption | exact fd_lt20 h20 (by decide)) (And.intro (by first | rfl | assumption) ?_))))
  exact h1
set_option maxRecDepth 100000 in
theorem ok_byBody_0 {f : Nat} (hP : an_P f) (d dp k0 : Nat) (sz ld se : Int32) (σ : fd_S) (post : Option fd_V → fd_S → Prop) (hf : f + dp = 16) (h : askd σ k0 sz ld se) : ∀ (t : Nat), t < 7 → fd_sa 1 (7 * 0 + t) ≠ 0 → (∀ r, r = an_b sz ld se (an_w k0 sz ld se f (an_par t) 0) (fun v => an_w k0 sz ld se f k0 v) (fd_sa 1 (7 * 0 + t)).toNatClampNeg → post (some (.inl r.1)) (TRs σ r.2)) → fd_Sem (d + 3 * f + 6) 10 [.inr (.inr (.inl (some 3))), .inl (fd_sa 1 (7 * 0 + t)), .inl (nI t), .inl (nI 0), .inl (nI dp)] σ post
  | 0, _, _, h1 => ok_by_1_0 hP d dp k0 sz ld se σ post hf h (h1 _ rfl)
  | 1, _, hb0, _ => absurd rfl hb0
  | 2, _, _, h1 => ok_by_2_2 hP d dp k0 sz ld se σ post hf h (h1 _ rfl)
  | 3, _, hb0, _ => absurd rfl hb0
  | 4, _, _, h1 => ok_by_3_4 hP d dp k0 sz ld se σ post hf h (h1 _ rfl)
  | 5, _, hb0, _ => absurd rfl hb0
  | 6, _, _, h1 => ok_by_4_6 hP d dp k0 sz ld se σ post hf h (h1 _ rfl)
  | t + 7, ht, _, _ => absurd ht (by omega)
set_option maxRecDepth 100000 in
theorem ok_byBody_1 {f : Nat} (hP : an_P f) (d dp k0 : Nat) (sz ld se : Int32) (σ : fd_S) (post : Option fd_V → fd_S → Prop) (hf : f + dp = 16) (h : askd σ k0 sz ld se) : ∀ (t : Nat), t < 7 → fd_sa 1 (7 * 1 + t) ≠ 0 → (∀ r, r = an_b sz ld se (an_w k0 sz ld se f (an_par t) 1) (fun v => an_w k0 sz ld se f k0 v) (fd_sa 1 (7 * 1 + t)).toNatClampNeg → post (some (.inl r.1)) (TRs σ r.2)) → fd_Sem (d + 3 * f + 6) 10 [.inr (.inr (.inl (some 3))), .inl (fd_sa 1 (7 * 1 + t)), .inl (nI t), .inl (nI 1), .inl (nI dp)] σ post
  | 0, _, _, h1 => ok_by_11_0 hP d dp k0 sz ld se σ post hf h (h1 _ rfl)
  | 1, _, _, h1 => ok_by_12_1 hP d dp k0 sz ld se σ post hf h (h1 _ rfl)
  | 2, _, hb0, _ => absurd rfl hb0
  | 3, _, _, h1 => ok_by_13_3 hP d dp k0 sz ld se σ post hf h (h1 _ rfl)
  | 4, _, hb0, _ => absurd rfl hb0
  | 5, _, hb0, _ => absurd rfl hb0
  | 6, _, _, h1 => ok_by_14_6 hP d dp k0 sz ld se σ post hf h (h1 _ rfl)
  | t + 7, ht, _, _ => absurd ht (by omega)
set_option maxRecDepth 100000 in
theorem ok_byBody_2 {f : Nat} (hP : an_P f) (d dp k0 : Nat) (sz ld se : Int32) (σ : fd_S) (post : Option fd_V → fd_S → Prop) (hf : f + dp = 16) (h : askd σ k0 sz ld se) : ∀ (t : Nat), t < 7 → fd_sa 1 (7 * 2 + t) ≠ 0 → (∀ r, r = an_b sz ld se (an_w k0 sz ld se f (an_par t) 2) (fun v => an_w k0 sz ld se f k0 v) (fd_sa 1 (7 * 2 + t)).toNatClampNeg → post (some (.inl r.1)) (TRs σ r.2)) → fd_Sem (d + 3 * f + 6) 10 [.inr (.inr (.inl (some 3))), .inl (fd_sa 1 (7 * 2 + t)), .inl (nI t), .inl (nI 2), .inl (nI dp)] σ post
  | 0, _, _, h1 => ok_by_21_0 hP d dp k0 sz ld se σ post hf h (h1 _ rfl)
  | 1, _, hb0, _ => absurd rfl hb0
  | 2, _, hb0, _ => absurd rfl hb0
  | 3, _, hb0, _ => absurd rfl hb0
  | 4, _, _, h1 => ok_by_22_4 hP d dp k0 sz ld se σ post hf h (h1 _ rfl)
  | 5, _, hb0, _ => absurd rfl hb0
  | 6, _, hb0, _ => absurd rfl hb0
  | t + 7, ht, _, _ => absurd ht (by omega)
set_option maxRecDepth 100000 in
theorem ok_byBody_3 {f : Nat} (hP : an_P f) (d dp k0 : Nat) (sz ld se : Int32) (σ : fd_S) (post : Option fd_V → fd_S → Prop) (hf : f + dp = 16) (h : askd σ k0 sz ld se) : ∀ (t : Nat), t < 7 → fd_sa 1 (7 * 3 + t) ≠ 0 → (∀ r, r = an_b sz ld se (an_w k0 sz ld se f (an_par t) 3) (fun v => an_w k0 sz ld se f k0 v) (fd_sa 1 (7 * 3 + t)).toNatClampNeg → post (some (.inl r.1)) (TRs σ r.2)) → fd_Sem (d + 3 * f + 6) 10 [.inr (.inr (.inl (some 3))), .inl (fd_sa 1 (7 * 3 + t)), .inl (nI t), .inl (nI 3), .inl (nI dp)] σ post
  | 0, _, _, h1 => ok_by_31_0 hP d dp k0 sz ld se σ post hf h (h1 _ rfl)
  | 1, _, _, h1 => ok_by_32_1 hP d dp k0 sz ld se σ post hf h (h1 _ rfl)
  | 2, _, hb0, _ => absurd rfl hb0
  | 3, _, _, h1 => ok_by_33_3 hP d dp k0 sz ld se σ post hf h (h1 _ rfl)
  | 4, _, _, h1 => ok_by_34_4 hP d dp k0 sz ld se σ post hf h (h1 _ rfl)
  | 5, _, hb0, _ => absurd rfl hb0
  | 6, _, _, h1 => ok_by_35_6 hP d dp k0 sz ld se σ post hf h (h1 _ rfl)
  | t + 7, ht, _, _ => absurd ht (by omega)
set_option maxRecDepth 100000 in
theorem ok_byBody_4 {f : Nat} (hP : an_P f) (d dp k0 : Nat) (sz ld se : Int32) (σ : fd_S) (post : Option fd_V → fd_S → Prop) (hf : f + dp = 16) (h : askd σ k0 sz ld se) : ∀ (t : Nat), t < 7 → fd_sa 1 (7 * 4 + t) ≠ 0 → (∀ r, r = an_b sz ld se (an_w k0 sz ld se f (an_par t) 4) (fun v => an_w k0 sz ld se f k0 v) (fd_sa 1 (7 * 4 + t)).toNatClampNeg → post (some (.inl r.1)) (TRs σ r.2)) → fd_Sem (d + 3 * f + 6) 10 [.inr (.inr (.inl (some 3))), .inl (fd_sa 1 (7 * 4 + t)), .inl (nI t), .inl (nI 4), .inl (nI dp)] σ post
  | 0, _, hb0, _ => absurd rfl hb0
  | 1, _, hb0, _ => absurd rfl hb0
  | 2, _, _, h1 => ok_by_41_2 hP d dp k0 sz ld se σ post hf h (h1 _ rfl)
  | 3, _, _, h1 => ok_by_42_3 hP d dp k0 sz ld se σ post hf h (h1 _ rfl)
  | 4, _, hb0, _ => absurd rfl hb0
  | 5, _, hb0, _ => absurd rfl hb0
  | 6, _, _, h1 => ok_by_41_6 hP d dp k0 sz ld se σ post hf h (h1 _ rfl)
  | t + 7, ht, _, _ => absurd ht (by omega)
set_option maxRecDepth 100000 in
theorem ok_byBody_5 {f : Nat} (hP : an_P f) (d dp k0 : Nat) (sz ld se : Int32) (σ : fd_S) (post : Option fd_V → fd_S → Prop) (hf : f + dp = 16) (h : askd σ k0 sz ld se) : ∀ (t : Nat), t < 7 → fd_sa 1 (7 * 5 + t) ≠ 0 → (∀ r, r = an_b sz ld se (an_w k0 sz ld se f (an_par t) 5) (fun v => an_w k0 sz ld se f k0 v) (fd_sa 1 (7 * 5 + t)).toNatClampNeg → post (some (.inl r.1)) (TRs σ r.2)) → fd_Sem (d + 3 * f + 6) 10 [.inr (.inr (.inl (some 3))), .inl (fd_sa 1 (7 * 5 + t)), .inl (nI t), .inl (nI 5), .inl (nI dp)] σ post
  | 0, _, hb0, _ => absurd rfl hb0
  | 1, _, hb0, _ => absurd rfl hb0
  | 2, _, hb0, _ => absurd rfl hb0
  | 3, _, _, h1 => ok_by_51_3 hP d dp k0 sz ld se σ post hf h (h1 _ rfl)
  | 4, _, hb0, _ => absurd rfl hb0
  | 5, _, _, h1 => ok_by_51_5 hP d dp k0 sz ld se σ post hf h (h1 _ rfl)
  | 6, _, _, h1 => ok_by_52_6 hP d dp k0 sz ld se σ post hf h (h1 _ rfl)
  | t + 7, ht, _, _ => absurd ht (by omega)
theorem ok_byBody {f : Nat} (hP : an_P f) (d dp k0 : Nat) (sz ld se : Int32) (σ : fd_S) (post : Option fd_V → fd_S → Prop) (hf : f + dp = 16) (h : askd σ k0 sz ld se) : ∀ (w : Nat), w < 6 → ∀ (t : Nat), t < 7 → fd_sa 1 (7 * w + t) ≠ 0 → (∀ r, r = an_b sz ld se (an_w k0 sz ld se f (an_par t) w) (fun v => an_w k0 sz ld se f k0 v) (fd_sa 1 (7 * w + t)).toNatClampNeg → post (some (.inl r.1)) (TRs σ r.2)) → fd_Sem (d + 3 * f + 6) 10 [.inr (.inr (.inl (some 3))), .inl (fd_sa 1 (7 * w + t)), .inl (nI t), .inl (nI w), .inl (nI dp)] σ post
  | 0, _ => ok_byBody_0 hP d dp k0 sz ld se σ post hf h
  | 1, _ => ok_byBody_1 hP d dp k0 sz ld se σ post hf h
  | 2, _ => ok_byBody_2 hP d dp k0 sz ld se σ post hf h
  | 3, _ => ok_byBody_3 hP d dp k0 sz ld se σ post hf h
  | 4, _ => ok_byBody_4 hP d dp k0 sz ld se σ post hf h
  | 5, _ => ok_byBody_5 hP d dp k0 sz ld se σ post hf h
  | w + 6, hw => absurd hw (by omega)
theorem an_P0 : an_P 0 := by
  intro d dp k w k0 sz ld se σ post hf hk hw h h1
  have : dp = 16 := by omega
  subst this
  intro X hX hV
  repeat refine hX _ _ _ _ _ _ ?_
  refine ok_tellerOf _ k w _ _ hk hw ?_
  repeat refine hX _ _ _ _ _ _ ?_
  refine And.intro (fun hc => ?_) (fun hc => ?_) <;> try dsimp only [fd_icmp] at hc
  · repeat refine hX _ _ _ _ _ _ ?_
    exact h1
  · repeat refine hX _ _ _ _ _ _ ?_
    refine And.intro (fun hc => absurd (show nI 16 < nI 16 from hc) (nI_nlt (Nat.le_refl 16) (by decide))) (fun hc => ?_)
    repeat refine hX _ _ _ _ _ _ ?_
    exact h1
theorem an_PS (f : Nat) (hP : an_P f) : an_P (f + 1) := by
  intro d dp k w k0 sz ld se σ post hf hk hw h h1
  obtain ⟨h20, r30, hk0, h33, h34, h35, h36, tl, htl, h31⟩ := id h
  intro X hX hV
  repeat refine hX _ _ _ _ _ _ ?_
  refine ok_tellerOf _ k w _ _ hk hw ?_
  obtain ⟨o, ho⟩ : ∃ o, an_tel k w = o := ⟨_, rfl⟩
  unfold an_w at h1
  rw [ho] at h1 ⊢
  cases o with
  | none =>
    repeat refine hX _ _ _ _ _ _ ?_
    refine And.intro (fun hc => ?_) (fun hc => absurd (show (-1 : Int32) = -1 from rfl) hc)
    repeat refine hX _ _ _ _ _ _ ?_
    exact h1
  | some t =>
    obtain ⟨ht, hb0⟩ := an_telB w hw k hk t ho
    dsimp only at h1
    repeat refine hX _ _ _ _ _ _ ?_
    refine And.intro (fun hc => ?_) (fun hc => ?_)
    · have hc : nI t = -1 := hc
      have := congrArg Int32.toInt hc
      rw [nI_toInt (by omega)] at this
      have h9 : (-1 : Int32).toInt = -1 := by decide
      rw [h9] at this
      omega
    · repeat refine hX _ _ _ _ _ _ ?_
      refine And.intro (fun hc => ?_) (fun hc => ?_)
      · repeat refine hX _ _ _ _ _ _ ?_
        refine ok_bodyOf _ t w _ _ ht hw ?_
        refine hX _ _ _ _ _ _ ?_
        refine hX _ _ _ _ _ _ ?_
        refine hX _ _ _ _ _ _ ?_
        refine hX _ _ _ _ _ _ ?_
        refine hX _ _ _ _ _ _ ?_
        refine hX _ _ _ _ _ _ ?_
        refine Exists.intro _ (And.intro (by first | rfl | assumption) (And.intro (by first | assumption | exact fd_lt20 h20 (by decide)) (And.intro (by first | rfl | assumption) ?_)))
        rw [show ((fun x y => x + y) (nI dp) 1 : Int32) = nI (dp + 1) from nI_1 dp]
        have hf1 : f + (dp + 1) = 16 := by omega
        refine ok_byBody hP d (dp + 1) k0 sz ld se σ _ hf1 h w hw t ht hb0 (fun r hr => ?_)
        subst hr
        refine hX _ _ _ _ _ _ ?_
        exact h1
      · have h2 : ¬ nI dp < nI 16 := hc
        rw [nI_ltI (by omega) (by omega)] at h2
        omega
theorem an_all : ∀ f, an_P f
  | 0 => an_P0
  | f + 1 => an_PS f (an_all f)
end
section
/-- the same but for some ints -/
def SE (P : Nat → Nat → Prop) (σ τ : fd_S) : Prop := τ.1 = σ.1 ∧ τ.2.2.1 = σ.2.2.1 ∧ τ.2.2.2 = σ.2.2.2 ∧ ∀ i j, ¬ P i j → τ.2.1 i j = σ.2.1 i j
def JC (i j : Nat) : Prop := i = 3 ∧ 3 ≤ j
theorem SE.rf {P : Nat → Nat → Prop} (σ : fd_S) : SE P σ σ := ⟨rfl, rfl, rfl, fun _ _ _ => rfl⟩
theorem SE.trans {P : Nat → Nat → Prop} {σ τ ρ : fd_S} (h1 : SE P σ τ) (h2 : SE P τ ρ) : SE P σ ρ := ⟨h2.1.trans h1.1, h2.2.1.trans h1.2.1, h2.2.2.1.trans h1.2.2.1, fun i j h => (h2.2.2.2 i j h).trans (h1.2.2.2 i j h)⟩
theorem TRs_off : ∀ (l : List Int32) (σ : fd_S), σ.2.1 3 2 = 0 → TRs σ l = σ
  | [], _, _ => rfl
  | b :: l, σ, h => by
    have e : TR σ b = σ := by unfold TR; rw [if_pos h]
    show TRs (TR σ b) l = σ
    rw [e]; exact TRs_off l σ h
def AK (σ : fd_S) (b : Nat) (s : Int32) : fd_S := (σ.1, fun i j => if i = 3 then (if j = 3 then σ.2.1 b 1 else if j = 4 then σ.2.1 b 2 else if j = 5 then σ.2.1 b 3 else if j = 6 then s else σ.2.1 3 j) else σ.2.1 i j, σ.2.2.1, σ.2.2.2)
/-- answer, traced or not -/
theorem ok_answerT (d b k w : Nat) (sz ld s : Int32) (σ : fd_S) (post : Option fd_V → fd_S → Prop) (h20 : 20 ≤ σ.1) (r30 : σ.2.2.1 3 0 = some 4) (tl : Nat) (htl : tl ≤ 10) (h31 : σ.2.1 3 1 = nI tl) (hb : b < σ.1) (hsb : fd_sh b = .inl 2) (hk : k < 7) (h1k : σ.2.1 b 1 = nI k) (h1s : σ.2.1 b 2 = sz) (h1l : σ.2.1 b 3 = ld) (hw : w < 6)
    (h1 : post (some (.inl (an_w k sz ld s 16 k w).1)) (TRs (AK σ b s) (an_w k sz ld s 16 k w).2)) : fd_Sem (d + 60) 1 [.inr (.inr (.inl (some 3))), .inr (.inr (.inl (some b))), .inl (nI w), .inl s] σ post := by
  have hb3 : b ≠ 3 := fun e => by rw [e] at hsb; cases hsb
  intro X hX hV
  repeat (first | refine hX _ _ _ _ _ _ ?_ | refine Exists.intro _ (And.intro (by first | rfl | assumption) (And.intro (by first | assumption | exact fd_lt20 h20 (by decide)) (And.intro (by first | rfl | assumption) ?_))))
  have key : ∀ τ : fd_S, τ = AK σ b s → fd_Sem (d + 59) 4 [.inr (.inr (.inl (some 3))), .inl (nI w), .inl (nI 0)] τ (fun r σ' => X [(35, .ireturn, 1, 0, []), (36, .athrow, 0, 0, [])] (fd_args 0 [.inr (.inr (.inl (some 3))), .inr (.inr (.inl (some b))), .inl (nI w), .inl s]) (r.toList ++ []) σ' 0 0) := by
    intro τ hτ
    subst hτ
    refine ok_own (an_all 16) (d + 6) 0 w k sz ld s _ _ rfl hw ⟨h20, r30, hk, ?_, ?_, ?_, ?_, tl, htl, ?_⟩ ?_
    · exact h1k
    · exact h1s
    · exact h1l
    · rfl
    · exact h31
    · repeat refine hX _ _ _ _ _ _ ?_
      exact h1
  refine key _ ?_
  refine Prod.ext rfl (Prod.ext (funext fun i => funext fun j => ?_) rfl)
  simp only [AK, fd_si, fd_u]; grind
theorem ok_answer (d b k w : Nat) (sz ld s : Int32) (σ : fd_S) (post : Option fd_V → fd_S → Prop) (h20 : 20 ≤ σ.1) (r30 : σ.2.2.1 3 0 = some 4) (tl : Nat) (htl : tl ≤ 10) (h31 : σ.2.1 3 1 = nI tl) (h32 : σ.2.1 3 2 = 0) (hb : b < σ.1) (hsb : fd_sh b = .inl 2) (hk : k < 7) (h1k : σ.2.1 b 1 = nI k) (h1s : σ.2.1 b 2 = sz) (h1l : σ.2.1 b 3 = ld) (hw : w < 6)
    (h1 : ∀ τ, SE JC σ τ → post (some (.inl (an_w k sz ld s 16 k w).1)) τ) : fd_Sem (d + 60) 1 [.inr (.inr (.inl (some 3))), .inr (.inr (.inl (some b))), .inl (nI w), .inl s] σ post := by
  refine ok_answerT d b k w sz ld s σ post h20 r30 tl htl h31 hb hsb hk h1k h1s h1l hw ?_
  rw [TRs_off _ _ (show (AK σ b s).2.1 3 2 = 0 from h32)]
  refine h1 _ ⟨rfl, rfl, rfl, fun i j hj => ?_⟩
  simp only [AK]
  unfold JC at hj
  grind
/-- answerTraced -/
def AT (σ : fd_S) (b : Nat) (s : Int32) (l : List Int32) : fd_S := fd_si (TRs (AK (fd_si (fd_si σ 3 1 0) 3 2 1) b s) l) 3 2 0
theorem ok_answerTraced (d b k w : Nat) (sz ld s : Int32) (σ : fd_S) (post : Option fd_V → fd_S → Prop) (h20 : 20 ≤ σ.1) (r30 : σ.2.2.1 3 0 = some 4) (hb : b < σ.1) (hsb : fd_sh b = .inl 2) (hk : k < 7) (h1k : σ.2.1 b 1 = nI k) (h1s : σ.2.1 b 2 = sz) (h1l : σ.2.1 b 3 = ld) (hw : w < 6)
    (h1 : post (some (.inl (an_w k sz ld s 16 k w).1)) (AT σ b s (an_w k sz ld s 16 k w).2)) : fd_Sem (d + 61) 2 [.inr (.inr (.inl (some 3))), .inr (.inr (.inl (some b))), .inl (nI w), .inl s] σ post := by
  have hb3 : b ≠ 3 := fun e => by rw [e] at hsb; cases hsb
  intro X hX hV
  repeat (first | refine hX _ _ _ _ _ _ ?_ | refine Exists.intro _ (And.intro (by first | rfl | assumption) (And.intro (by first | assumption | exact fd_lt20 h20 (by decide)) (And.intro (by first | rfl | assumption) ?_))))
  refine And.intro (Or.inr rfl) ?_
  repeat (first | refine hX _ _ _ _ _ _ ?_ | refine Exists.intro _ (And.intro (by first | rfl | assumption) (And.intro (by first | assumption | exact fd_lt20 h20 (by decide)) (And.intro (by first | rfl | assumption) ?_))))
  have e1 : ∀ j, (fd_si (fd_si σ 3 1 0) 3 2 1).2.1 b j = σ.2.1 b j := by
    intro j
    show fd_u (fd_u σ.2.1 3 1 0) 3 2 1 b j = _
    rw [fd_u_ne hb3, fd_u_ne hb3]
  refine ok_answerT d b k w sz ld s _ _ h20 r30 0 (by decide) ?_ hb hsb hk ((e1 1).trans h1k) ((e1 2).trans h1s) ((e1 3).trans h1l) hw ?_
  · show fd_u (fd_u σ.2.1 3 1 0) 3 2 1 3 1 = _
    simp [fd_u, nI_0]
  · have hN : ∀ (l : List Int32) (τ : fd_S), (TRs τ l).1 = τ.1 := by
      intro l
      induction l with
      | nil => intro τ; rfl
      | cons b l ih =>
        intro τ
        show (TRs (TR τ b) l).1 = τ.1
        rw [ih]
        unfold TR
        split
        · rfl
        · split <;> rfl
    have h20' : 20 ≤ (TRs (AK (fd_si (fd_si σ 3 1 0) 3 2 1) b s) (an_w k sz ld s 16 k w).2).1 := by rw [hN]; exact h20
    have h3 : 3 < (TRs (AK (fd_si (fd_si σ 3 1 0) 3 2 1) b s) (an_w k sz ld s 16 k w).2).1 := Nat.lt_of_lt_of_le (by decide) h20'
    repeat (first | refine hX _ _ _ _ _ _ ?_ | refine Exists.intro _ (And.intro (by first | rfl | assumption) (And.intro (by first | assumption | exact fd_lt20 h20 (by decide)) (And.intro (by first | rfl | assumption) ?_))))
    refine And.intro (Or.inl rfl) ?_
    repeat refine hX _ _ _ _ _ _ ?_
    exact h1
/-- traceAt -/
theorem ok_traceAt (d : Nat) (x : Int32) (σ : fd_S) (post : Option fd_V → fd_S → Prop) (h20 : 20 ≤ σ.1) (r30 : σ.2.2.1 3 0 = some 4) (tl : Nat) (htl : tl ≤ 10) (h31 : σ.2.1 3 1 = nI tl) (h1 : ∀ i, i < tl → x = nI i → post (some (.inl (σ.2.1 4 i))) σ) (h2 : (∀ i, i < tl → x ≠ nI i) → post (some (.inl (-1))) σ) : fd_Sem (d + 2) 3 [.inr (.inr (.inl (some 3))), .inl x] σ post := by
  intro X hX hV
  repeat (first | refine hX _ _ _ _ _ _ ?_ | refine Exists.intro _ (And.intro (by first | rfl | assumption) (And.intro (by first | assumption | exact fd_lt20 h20 (by decide)) (And.intro (by first | rfl | assumption) ?_))))
  rw [h31]
  refine ok_within _ _ _ _ _ _ (fun ha hb => ?_) (fun ha => ?_)
  · obtain ⟨i, hi, rfl⟩ := ix_of (by omega) ha hb
    repeat refine hX _ _ _ _ _ _ ?_
    refine And.intro (fun hc => absurd (show (1 : Int32) = 0 from hc) (by decide)) (fun _ => ?_)
    repeat (first | refine hX _ _ _ _ _ _ ?_ | refine Exists.intro _ (And.intro (by first | rfl | assumption) (And.intro (by first | assumption | exact fd_lt20 h20 (by decide)) (And.intro (by first | rfl | assumption) ?_))))
    refine Exists.intro _ (Exists.intro _ (And.intro (by first | rfl | assumption) (And.intro (by first | assumption | exact fd_lt20 h20 (by decide)) (And.intro (by first | rfl | assumption) (And.intro (vp_in_nI (by omega) (by decide)) ?_)))))
    have e : σ.2.1 4 (nI i).toNatClampNeg = σ.2.1 4 i := by rw [nI_clamp (by omega)]
    refine hX _ _ _ _ _ _ ?_
    rw [e]
    repeat refine hX _ _ _ _ _ _ ?_
    exact h1 i hi rfl
  · repeat refine hX _ _ _ _ _ _ ?_
    refine And.intro (fun _ => ?_) (fun hc => absurd (show (0 : Int32) = 0 from rfl) hc)
    repeat refine hX _ _ _ _ _ _ ?_
    refine h2 (fun i hi hx => ha ?_)
    rw [hx]
    exact ix_to (by omega) hi
/-- price -/
theorem ok_price (d b k : Nat) (sz ld : Int32) (σ : fd_S) (post : Option fd_V → fd_S → Prop) (h20 : 20 ≤ σ.1) (r03 : σ.2.2.1 0 3 = some 3) (r30 : σ.2.2.1 3 0 = some 4) (tl : Nat) (htl : tl ≤ 10) (h31 : σ.2.1 3 1 = nI tl) (h32 : σ.2.1 3 2 = 0) (hb : b < σ.1) (hsb : fd_sh b = .inl 2) (hk : k < 7) (h1k : σ.2.1 b 1 = nI k) (h1s : σ.2.1 b 2 = sz) (h1l : σ.2.1 b 3 = ld)
    (h1 : ∀ τ, SE JC σ τ → post (some (.inl (if σ.2.1 b 7 = -3 then (an_w k sz ld (σ.2.1 0 4) 16 k 3).1 else (an_w k sz ld (σ.2.1 0 4) 16 k 3).1 + σ.2.1 b 7))) τ) : fd_Sem (d + 61) 43 [.inr (.inr (.inl (some 0))), .inr (.inr (.inl (some b)))] σ post := by
  have hb3 : b ≠ 3 := fun e => by rw [e] at hsb; cases hsb
  intro X hX hV
  repeat (first | refine hX _ _ _ _ _ _ ?_ | refine Exists.intro _ (And.intro (by first | rfl | assumption) (And.intro (by first | assumption | exact fd_lt20 h20 (by decide)) (And.intro (by first | rfl | assumption) ?_))))
  refine ok_answer d b k 3 sz ld (σ.2.1 0 4) _ _ h20 r30 tl htl h31 h32 hb hsb hk h1k h1s h1l (by decide) (fun τ hτ => ?_)
  have h1 := h1 τ hτ
  have hbτ : b < τ.1 := by rw [hτ.1]; exact hb
  have e7 : τ.2.1 b 7 = σ.2.1 b 7 := hτ.2.2.2 b 7 (fun q => hb3 q.1)
  rw [← e7] at h1
  repeat (first | refine hX _ _ _ _ _ _ ?_ | refine Exists.intro _ (And.intro (by first | rfl | assumption) (And.intro (by first | assumption | exact fd_lt20 h20 (by decide)) (And.intro (by first | rfl | assumption) ?_))))
  refine ok_isHeavy _ _ _ _ hbτ hsb (fun hh => ?_) (fun hh => ?_)
  · rw [if_neg hh] at h1
    repeat refine hX _ _ _ _ _ _ ?_
    refine And.intro (fun hc => absurd (show (1 : Int32) = 0 from hc) (by decide)) (fun _ => ?_)
    repeat (first | refine hX _ _ _ _ _ _ ?_ | refine Exists.intro _ (And.intro (by first | rfl | assumption) (And.intro (by first | assumption | exact fd_lt20 h20 (by decide)) (And.intro (by first | rfl | assumption) ?_))))
    exact h1
  · rw [if_pos hh] at h1
    repeat refine hX _ _ _ _ _ _ ?_
    refine And.intro (fun _ => ?_) (fun hc => absurd (show (0 : Int32) = 0 from rfl) hc)
    repeat (first | refine hX _ _ _ _ _ _ ?_ | refine Exists.intro _ (And.intro (by first | rfl | assumption) (And.intro (by first | assumption | exact fd_lt20 h20 (by decide)) (And.intro (by first | rfl | assumption) ?_))))
    exact h1
/-- tooNear -/
theorem ok_tooNear (d b : Nat) (o : Option Nat) (σ : fd_S) (post : Option fd_V → fd_S → Prop) (hb : b < σ.1) (hsb : fd_sh b = .inl 2) (ho : ∀ a, o = some a → a < σ.1 ∧ fd_sh a = .inl 2)
    (h1 : ∀ a, o = some a → ¬ σ.2.1 a 8 = -3 → ¬ σ.2.1 b 8 = -3 → 5 < σ.2.1 a 8 + σ.2.1 b 8 → post (some (.inl 1)) σ) (h2 : (¬ ∃ a, o = some a ∧ ¬ σ.2.1 a 8 = -3 ∧ ¬ σ.2.1 b 8 = -3 ∧ 5 < σ.2.1 a 8 + σ.2.1 b 8) → post (some (.inl 0)) σ) : fd_Sem (d + 2) 44 [.inr (.inr (.inl o)), .inr (.inr (.inl (some b)))] σ post := by
  intro X hX hV
  repeat refine hX _ _ _ _ _ _ ?_
  refine And.intro (fun hc => ?_) (fun hc => ?_) <;> try dsimp only [fd_icmp] at hc
  · repeat refine hX _ _ _ _ _ _ ?_
    exact And.intro (Or.inl rfl) (h2 (fun ⟨a, ha, _⟩ => by rw [hc] at ha; cases ha))
  · cases o with
    | none => exact absurd rfl hc
    | some a =>
      obtain ⟨ha, hsa⟩ := ho a rfl
      repeat (first | refine hX _ _ _ _ _ _ ?_ | refine Exists.intro _ (And.intro (by first | rfl | assumption) (And.intro (by first | assumption | exact fd_lt20 h20 (by decide)) (And.intro (by first | rfl | assumption) ?_))))
      refine ok_isMarked _ _ _ _ ha hsa (fun hm => ?_) (fun hm => ?_)
      · repeat refine hX _ _ _ _ _ _ ?_
        refine And.intro (fun hc => absurd (show (1 : Int32) = 0 from hc) (by decide)) (fun _ => ?_)
        repeat (first | refine hX _ _ _ _ _ _ ?_ | refine Exists.intro _ (And.intro (by first | rfl | assumption) (And.intro (by first | assumption | exact fd_lt20 h20 (by decide)) (And.intro (by first | rfl | assumption) ?_))))
        refine ok_isMarked _ _ _ _ hb hsb (fun hn => ?_) (fun hn => ?_)
        · repeat refine hX _ _ _ _ _ _ ?_
          refine And.intro (fun _ => ?_) (fun hc => absurd (show (1 : Int32) = 0 from hc) (by decide))
          repeat (first | refine hX _ _ _ _ _ _ ?_ | refine Exists.intro _ (And.intro (by first | rfl | assumption) (And.intro (by first | assumption | exact fd_lt20 h20 (by decide)) (And.intro (by first | rfl | assumption) ?_))))
          refine And.intro (fun hc => ?_) (fun hc => ?_) <;> try dsimp only [fd_icmp] at hc
          · repeat refine hX _ _ _ _ _ _ ?_
            refine And.intro (Or.inl rfl) (h2 ?_)
            rintro ⟨a', e, -, -, h5⟩
            cases e
            exact absurd hc (i32_nle.mpr h5)
          · repeat refine hX _ _ _ _ _ _ ?_
            exact And.intro (Or.inr rfl) (h1 a rfl hm hn (i32_nle.mp hc))
        · repeat refine hX _ _ _ _ _ _ ?_
          refine And.intro (fun hc => absurd (show (0 : Int32) = 0 from rfl) hc) (fun _ => ?_)
          repeat refine hX _ _ _ _ _ _ ?_
          refine And.intro (Or.inl rfl) (h2 ?_)
          rintro ⟨a', e, -, h4, -⟩
          exact h4 hn
      · repeat refine hX _ _ _ _ _ _ ?_
        refine And.intro (fun _ => ?_) (fun hc => absurd (show (0 : Int32) = 0 from rfl) hc)
        repeat refine hX _ _ _ _ _ _ ?_
        refine And.intro (Or.inl rfl) (h2 ?_)
        rintro ⟨a', e, h4, -, -⟩
        cases e
        exact h4 hm
end
section
def cn (σ : fd_S) (h : Int32) : Nat → Int32
  | 0 => 0
  | i + 1 => if σ.2.1 (20 + i) 9 = h then cn σ h i + 1 else cn σ h i
theorem ok_countOf (d n : Nat) (h : Int32) (σ : fd_S) (post : Option fd_V → fd_S → Prop) (hB : fd_B σ n) (h1 : post (some (.inl (cn σ h n))) σ) : fd_Sem (d + 3) 41 [.inr (.inr (.inl (some 0))), .inl h] σ post := by
  obtain ⟨h20, hN, hn, hcn, r0, r2, r3, r30, hva, hla⟩ := id hB
  intro X hX hV
  have loop : ∀ f i, f + i = n → X ((fd_code 41).drop 4) [(3, .inl (nI i)), (2, .inl (cn σ h i)), (0, .inr (.inr (.inl (some 0)))), (1, .inl h)] [] σ 0 0 := by
    intro f
    induction f with
    | zero =>
      intro i hi
      have : i = n := by omega
      subst this
      repeat (first | refine hX _ _ _ _ _ _ ?_ | refine Exists.intro _ (And.intro (by first | rfl | assumption) (And.intro (by first | assumption | exact fd_lt20 h20 (by decide)) (And.intro (by first | rfl | assumption) ?_))))
      refine And.intro (fun hc => ?_) (fun hc => ?_) <;> try dsimp only [fd_icmp] at hc
      · repeat refine hX _ _ _ _ _ _ ?_
        exact h1
      · exact absurd (by rw [hcn]; exact nI_le (Nat.le_refl i) (by omega)) hc
    | succ f ih =>
      intro i hi
      repeat (first | refine hX _ _ _ _ _ _ ?_ | refine Exists.intro _ (And.intro (by first | rfl | assumption) (And.intro (by first | assumption | exact fd_lt20 h20 (by decide)) (And.intro (by first | rfl | assumption) ?_))))
      refine And.intro (fun hc => ?_) (fun hc => ?_) <;> try dsimp only [fd_icmp] at hc
      · rw [hcn, nI_leI (by omega) (by omega)] at hc
        omega
      · repeat (first | refine hX _ _ _ _ _ _ ?_ | refine Exists.intro _ (And.intro (by first | rfl | assumption) (And.intro (by first | assumption | exact fd_lt20 h20 (by decide)) (And.intro (by first | rfl | assumption) ?_))))
        refine ok_vehicleAt _ _ n _ _ hB (fun i' hi' e => ?_) (fun hno => absurd rfl (hno i (by omega)))
        rw [nI_eq (by omega) (by omega)] at e
        subst e
        have hv : 20 + i < σ.1 := by omega
        have hs := fd_shV i
        repeat refine hX _ _ _ _ _ _ ?_
        refine And.intro (fun hc => by cases hc) (fun _ => ?_)
        repeat (first | refine hX _ _ _ _ _ _ ?_ | refine Exists.intro _ (And.intro (by first | rfl | assumption) (And.intro (by first | assumption | exact fd_lt20 h20 (by decide)) (And.intro (by first | rfl | assumption) ?_))))
        refine And.intro (fun hc => ?_) (fun hc => ?_) <;> try dsimp only [fd_icmp] at hc
        · refine hX _ _ _ _ _ _ ?_
          refine hX _ _ _ _ _ _ ?_
          refine hV _ _ [(3, .inl (nI (i + 1))), (2, .inl (cn σ h (i + 1))), (0, .inr (.inr (.inl (some 0)))), (1, .inl h)] _ _ _ _ (And.intro (congrArg (fun x => some (Sum.inl x)) (nI_1 i)) (And.intro (congrArg (fun x => some (Sum.inl x)) (if_neg hc).symm) (And.intro rfl (And.intro rfl trivial)))) (ih (i + 1) (by omega))
        · refine hX _ _ _ _ _ _ ?_
          refine hX _ _ _ _ _ _ ?_
          refine hX _ _ _ _ _ _ ?_
          refine hV _ _ [(3, .inl (nI (i + 1))), (2, .inl (cn σ h (i + 1))), (0, .inr (.inr (.inl (some 0)))), (1, .inl h)] _ _ _ _ (And.intro (congrArg (fun x => some (Sum.inl x)) (nI_1 i)) (And.intro (congrArg (fun x => some (Sum.inl x)) (if_pos hc).symm) (And.intro rfl (And.intro rfl trivial)))) (ih (i + 1) (by omega))
  iterate 4 refine hX _ _ _ _ _ _ ?_
  exact loop n 0 rfl
/-- apart -/
theorem ok_apart (d n : Nat) (σ : fd_S) (post : Option fd_V → fd_S → Prop) (hB : fd_B σ n) (h1 : post (some (.inl (0 + σ.2.1 5 4 + σ.2.1 6 4 + -σ.2.1 7 4 + -σ.2.1 8 4))) σ) : fd_Sem (d + 1) 45 [.inr (.inr (.inl (some 0)))] σ post := by
  obtain ⟨h20, hN, hn, hcn, r0, r2, r3, r30, hva, hla⟩ := id hB
  intro X hX hV
  have step : ∀ l, l < 4 → ∀ acc : Int32, X ((fd_code 45).drop 4) [(2, .inl (nI (l + 1))), (1, .inl (if l < 2 then acc + σ.2.1 (5 + l) 4 else acc + -σ.2.1 (5 + l) 4)), (0, .inr (.inr (.inl (some 0))))] [] σ 0 0 → X ((fd_code 45).drop 4) [(2, .inl (nI l)), (1, .inl acc), (0, .inr (.inr (.inl (some 0))))] [] σ 0 0 := by
    intro l hl acc hgo
    have hv : 5 + l < σ.1 := by omega
    have hs := fd_sh_lane hl
    repeat refine hX _ _ _ _ _ _ ?_
    refine And.intro (fun hc => ?_) (fun hc => ?_) <;> try dsimp only [fd_icmp] at hc
    · have h2 : nI 4 ≤ nI l := hc
      rw [nI_leI (by omega) (by omega)] at h2
      omega
    · repeat (first | refine hX _ _ _ _ _ _ ?_ | refine Exists.intro _ (And.intro (by first | rfl | assumption) (And.intro (by first | assumption | exact fd_lt20 h20 (by decide)) (And.intro (by first | rfl | assumption) ?_))))
      refine Exists.intro _ (Exists.intro _ (Exists.intro _ (And.intro (by first | rfl | assumption) (And.intro (by first | assumption | exact fd_lt20 h20 (by decide)) (And.intro (by first | rfl | assumption) (And.intro (vp_in_nI hl (by decide)) ?_))))))
      have e : σ.2.2.1 2 (nI l).toNatClampNeg = some (5 + l) := by rw [nI_clamp (by omega)]; exact hla l hl
      refine hX _ _ _ _ _ _ ?_
      rw [e]
      repeat (first | refine hX _ _ _ _ _ _ ?_ | refine Exists.intro _ (And.intro (by first | rfl | assumption) (And.intro (by first | assumption | exact fd_lt20 h20 (by decide)) (And.intro (by first | rfl | assumption) ?_))))
      refine And.intro (fun hc => ?_) (fun hc => ?_) <;> try dsimp only [fd_icmp] at hc
      · have h2 : nI 2 ≤ nI l := hc
        rw [nI_leI (by omega) (by omega)] at h2
        rw [if_neg (by omega)] at hgo
        iterate 6 refine hX _ _ _ _ _ _ ?_
        refine hV _ _ [(2, .inl (nI (l + 1))), (1, .inl (acc + -σ.2.1 (5 + l) 4)), (0, .inr (.inr (.inl (some 0))))] _ _ _ _ (And.intro (congrArg (fun x => some (Sum.inl x)) (nI_1 l)) (And.intro rfl (And.intro rfl trivial))) hgo
      · have h2 : ¬ nI 2 ≤ nI l := hc
        rw [nI_leI (by omega) (by omega)] at h2
        rw [if_pos (by omega)] at hgo
        iterate 6 refine hX _ _ _ _ _ _ ?_
        refine hV _ _ [(2, .inl (nI (l + 1))), (1, .inl (acc + σ.2.1 (5 + l) 4)), (0, .inr (.inr (.inl (some 0))))] _ _ _ _ (And.intro (congrArg (fun x => some (Sum.inl x)) (nI_1 l)) (And.intro rfl (And.intro rfl trivial))) hgo
  iterate 4 refine hX _ _ _ _ _ _ ?_
  refine step 0 (by decide) 0 (step 1 (by decide) _ (step 2 (by decide) _ (step 3 (by decide) _ ?_)))
  repeat refine hX _ _ _ _ _ _ ?_
  refine And.intro (fun _ => ?_) (fun hc => absurd (show (4 : Int32) ≤ nI 4 from nI_le (a := 4) (Nat.le_refl 4) (by decide)) hc)
  repeat refine hX _ _ _ _ _ _ ?_
  exact h1
/-- longestMinutes -/
def mx (x y : Int32) : Int32 := if x < y then y else x
theorem ok_longest (d n : Nat) (σ : fd_S) (post : Option fd_V → fd_S → Prop) (hB : fd_B σ n) (h1 : post (some (.inl (mx (mx (mx (mx 0 (σ.2.1 5 5)) (σ.2.1 6 5)) (σ.2.1 7 5)) (σ.2.1 8 5)))) σ) : fd_Sem (d + 1) 46 [.inr (.inr (.inl (some 0)))] σ post := by
  obtain ⟨h20, hN, hn, hcn, r0, r2, r3, r30, hva, hla⟩ := id hB
  intro X hX hV
  have step : ∀ l, l < 4 → ∀ acc : Int32, X ((fd_code 46).drop 10) [(4, .inl (nI (l + 1))), (1, .inl (mx acc (σ.2.1 (5 + l) 5))), (2, .inr (.inr (.inl (some 2)))), (3, .inl (nI 4))] [] σ 0 0 → X ((fd_code 46).drop 10) [(4, .inl (nI l)), (1, .inl acc), (2, .inr (.inr (.inl (some 2)))), (3, .inl (nI 4))] [] σ 0 0 := by
    intro l hl acc hgo
    have hv : 5 + l < σ.1 := by omega
    have hs := fd_sh_lane hl
    repeat refine hX _ _ _ _ _ _ ?_
    refine And.intro (fun hc => ?_) (fun hc => ?_) <;> try dsimp only [fd_icmp] at hc
    · have h2 : nI 4 ≤ nI l := hc
      rw [nI_leI (by omega) (by omega)] at h2
      omega
    · repeat refine hX _ _ _ _ _ _ ?_
      refine Exists.intro _ (Exists.intro _ (Exists.intro _ (And.intro (by first | rfl | assumption) (And.intro (by first | assumption | exact fd_lt20 h20 (by decide)) (And.intro (by first | rfl | assumption) (And.intro (vp_in_nI hl (by decide)) ?_))))))
      have e : σ.2.2.1 2 (nI l).toNatClampNeg = some (5 + l) := by rw [nI_clamp (by omega)]; exact hla l hl
      refine hX _ _ _ _ _ _ ?_
      rw [e]
      iterate 3 refine hX _ _ _ _ _ _ ?_
      refine Exists.intro _ (And.intro (by first | rfl | assumption) (And.intro (by first | assumption | exact fd_lt20 h20 (by decide)) (And.intro (by first | rfl | assumption) ?_)))
      iterate 4 refine hX _ _ _ _ _ _ ?_
      exact hV _ _ [(4, .inl (nI (l + 1))), (1, .inl (mx acc (σ.2.1 (5 + l) 5))), (2, .inr (.inr (.inl (some 2)))), (3, .inl (nI 4))] _ _ _ _ (And.intro (congrArg (fun x => some (Sum.inl x)) (nI_1 l)) (And.intro rfl (And.intro rfl (And.intro rfl trivial)))) hgo
  iterate 4 refine hX _ _ _ _ _ _ ?_
  refine Exists.intro _ (And.intro (by first | rfl | assumption) (And.intro (by first | assumption | exact fd_lt20 h20 (by decide)) (And.intro (by first | rfl | assumption) ?_)))
  rw [r2]
  repeat refine hX _ _ _ _ _ _ ?_
  refine Exists.intro _ (Exists.intro _ (Exists.intro _ (And.intro rfl (And.intro (fd_lt20 h20 (by decide)) (And.intro rfl ?_)))))
  iterate 3 refine hX _ _ _ _ _ _ ?_
  refine hV _ _ [(4, .inl (nI 0)), (1, .inl 0), (2, .inr (.inr (.inl (some 2)))), (3, .inl (nI 4))] _ _ _ _ (And.intro rfl (And.intro rfl (And.intro rfl (And.intro rfl trivial)))) ?_
  refine step 0 (by decide) 0 (step 1 (by decide) _ (step 2 (by decide) _ (step 3 (by decide) _ ?_)))
  repeat refine hX _ _ _ _ _ _ ?_
  refine And.intro (fun _ => ?_) (fun hc => absurd (nI_le (a := 4) (Nat.le_refl 4) (by decide)) hc)
  repeat refine hX _ _ _ _ _ _ ?_
  exact h1
/-- sendAbroad -/
def sa_s : Nat → fd_S → Nat → fd_S
  | 0, σ, _ => σ
  | m + 1, σ, a => sa_s m (rl_s σ a ((σ.2.2.1 a 8).getD 0) 2) a
def Ln : Nat → fd_S → Nat → Prop
  | 0, _, _ => True
  | m + 1, σ, a => ∃ b, σ.2.2.1 a 8 = some b ∧ b < σ.1 ∧ fd_sh b = .inl 2 ∧ Ln m (rl_s σ a b 2) a
theorem ok_sendAbroad (d a m : Nat) (σ : fd_S) (post : Option fd_V → fd_S → Prop) (ha : a < σ.1) (hsa : fd_sh a = .inl 1) (hm : m ≤ 60) (h6 : σ.2.1 a 6 = nI m) (hl : Ln m σ a) (h1 : post none (sa_s m σ a)) : fd_Sem (d + 3) 18 [.inr (.inr (.inl (some a)))] σ post := by
  intro X hX hV
  have loop : ∀ m σ, m ≤ 60 → a < σ.1 → Ln m σ a → post none (sa_s m σ a) → X ((fd_code 18).drop 3) [(1, .inl (nI m)), (0, .inr (.inr (.inl (some a))))] [] σ 0 0 := by
    intro m
    induction m with
    | zero =>
      intro σ hm ha hl h1
      repeat refine hX _ _ _ _ _ _ ?_
      refine And.intro (fun _ => ?_) (fun hc => absurd (show (nI 0 : Int32) ≤ 0 from nI_le (a := 0) (b := 0) (Nat.le_refl 0) (by decide)) hc)
      repeat refine hX _ _ _ _ _ _ ?_
      exact h1
    | succ m ih =>
      intro σ hm ha hl h1
      obtain ⟨b, hb8, hb, hsb, hl2⟩ := hl
      have h1 : post none (sa_s m (rl_s σ a b 2) a) := by
        have : sa_s (m + 1) σ a = sa_s m (rl_s σ a ((σ.2.2.1 a 8).getD 0) 2) a := rfl
        rw [this, hb8] at h1
        exact h1
      repeat refine hX _ _ _ _ _ _ ?_
      refine And.intro (fun hc => absurd hc (nI_nle (by omega) (by omega))) (fun hc => ?_)
      repeat (first | refine hX _ _ _ _ _ _ ?_ | refine Exists.intro _ (And.intro (by first | rfl | assumption) (And.intro (by first | assumption | exact fd_lt20 h20 (by decide)) (And.intro (by first | rfl | assumption) ?_))))
      refine ok_removeLast _ a b 2 σ _ ha hsa hb hsb hb8 ?_
      refine hX _ _ _ _ _ _ ?_
      refine hX _ _ _ _ _ _ ?_
      exact hV _ _ [(1, .inl (nI m)), (0, .inr (.inr (.inl (some a))))] _ _ _ _ (And.intro (congrArg (fun x => some (Sum.inl x)) (pk_m1 m)) (And.intro rfl trivial)) (ih _ (by omega) ha hl2 h1)
  iterate 2 refine hX _ _ _ _ _ _ ?_
  refine Exists.intro _ (And.intro (by first | rfl | assumption) (And.intro (by first | assumption | exact fd_lt20 h20 (by decide)) (And.intro (by first | rfl | assumption) ?_)))
  rw [h6]
  refine hX _ _ _ _ _ _ ?_
  exact loop m σ hm ha hl h1
/-- measure -/
def JV (b i j : Nat) : Prop := (i = 3 ∧ 3 ≤ j) ∨ (i = b ∧ 4 ≤ j ∧ j ≤ 8)
theorem ok_measure (d b k : Nat) (sz ld : Int32) (σ : fd_S) (post : Option fd_V → fd_S → Prop) (h20 : 20 ≤ σ.1) (r03 : σ.2.2.1 0 3 = some 3) (r30 : σ.2.2.1 3 0 = some 4) (tl : Nat) (htl : tl ≤ 10) (h31 : σ.2.1 3 1 = nI tl) (h32 : σ.2.1 3 2 = 0) (hb : b < σ.1) (hsb : fd_sh b = .inl 2) (hk : k < 7) (h1k : σ.2.1 b 1 = nI k) (h1s : σ.2.1 b 2 = sz) (h1l : σ.2.1 b 3 = ld)
    (h1 : ∀ τ, SE (JV b) σ τ → τ.2.1 b 4 = (an_w k sz ld 0 16 k 0).1 → τ.2.1 b 5 = (an_w k sz ld 0 16 k 1).1 → τ.2.1 b 6 = (an_w k sz ld 0 16 k 2).1 → τ.2.1 b 7 = (an_w k sz ld 0 16 k 4).1 → τ.2.1 b 8 = (an_w k sz ld 0 16 k 5).1 → post none τ) : fd_Sem (d + 61) 42 [.inr (.inr (.inl (some 0))), .inr (.inr (.inl (some b)))] σ post := by
  have hb3 : b ≠ 3 := fun e => by rw [e] at hsb; cases hsb
  have nJ : ∀ {j}, ¬ JC b j := fun q => hb3 q.1
  have n31 : ¬ JC 3 1 := fun q => absurd q.2 (by decide)
  have n32 : ¬ JC 3 2 := fun q => absurd q.2 (by decide)
  intro X hX hV
  repeat (first | refine hX _ _ _ _ _ _ ?_ | refine Exists.intro _ (And.intro (by first | rfl | assumption) (And.intro (by first | assumption | exact fd_lt20 h20 (by decide)) (And.intro (by first | rfl | assumption) ?_))))
  refine ok_answer d b k 0 sz ld 0 _ _ h20 r30 tl htl h31 h32 hb hsb hk h1k h1s h1l (by decide) (fun τ1 t1 => ?_)
  have c1 : b < τ1.1 ∧ 20 ≤ τ1.1 ∧ τ1.2.2.1 0 3 = some 3 ∧ τ1.2.2.1 3 0 = some 4 := by rw [t1.1, t1.2.1]; exact ⟨hb, h20, r03, r30⟩
  obtain ⟨hb1, g20, g03, g30⟩ := c1
  iterate 1 refine hX _ _ _ _ _ _ ?_
  refine Exists.intro _ (And.intro rfl (And.intro hb1 (And.intro hsb ?_)))
  iterate 3 refine hX _ _ _ _ _ _ ?_
  refine Exists.intro _ (And.intro rfl (And.intro (fd_lt20 g20 (by decide)) (And.intro rfl ?_)))
  iterate 4 refine hX _ _ _ _ _ _ ?_
  refine Exists.intro _ (And.intro g03 (And.intro (fd_lt20 g20 (by decide)) (And.intro rfl ?_)))
  have v1 : ∀ i j, ¬ JC i j → (fd_si τ1 b 4 (an_w k sz ld 0 16 k 0).1).2.1 i j = if i = b ∧ j = 4 then (an_w k sz ld 0 16 k 0).1 else σ.2.1 i j := by
    intro i j hj
    show fd_u τ1.2.1 b 4 _ i j = _
    have := t1.2.2.2 i j hj
    unfold fd_u
    grind
  refine ok_answer d b k 1 sz ld 0 _ _ g20 g30 tl htl (by rw [v1 3 1 n31, if_neg (by omega)]; exact h31) (by rw [v1 3 2 n32, if_neg (by omega)]; exact h32) hb1 hsb hk (by rw [v1 b 1 nJ, if_neg (by omega)]; exact h1k) (by rw [v1 b 2 nJ, if_neg (by omega)]; exact h1s) (by rw [v1 b 3 nJ, if_neg (by omega)]; exact h1l) (by decide) (fun τ2 t2 => ?_)
  have c2 : b < τ2.1 ∧ 20 ≤ τ2.1 ∧ τ2.2.2.1 0 3 = some 3 ∧ τ2.2.2.1 3 0 = some 4 := by rw [t2.1, t2.2.1]; exact ⟨hb1, g20, g03, g30⟩
  obtain ⟨hb2, k20, k03, k30⟩ := c2
  iterate 1 refine hX _ _ _ _ _ _ ?_
  refine Exists.intro _ (And.intro rfl (And.intro hb2 (And.intro hsb ?_)))
  iterate 3 refine hX _ _ _ _ _ _ ?_
  refine Exists.intro _ (And.intro rfl (And.intro (fd_lt20 k20 (by decide)) (And.intro rfl ?_)))
  iterate 4 refine hX _ _ _ _ _ _ ?_
  refine Exists.intro _ (And.intro k03 (And.intro (fd_lt20 k20 (by decide)) (And.intro rfl ?_)))
  have v2 : ∀ i j, ¬ JC i j → (fd_si τ2 b 5 (an_w k sz ld 0 16 k 1).1).2.1 i j = if i = b ∧ j = 5 then (an_w k sz ld 0 16 k 1).1 else if i = b ∧ j = 4 then (an_w k sz ld 0 16 k 0).1 else σ.2.1 i j := by
    intro i j hj
    show fd_u τ2.2.1 b 5 _ i j = _
    have := t2.2.2.2 i j hj
    have := v1 i j hj
    unfold fd_u
    grind
  refine ok_answer d b k 2 sz ld 0 _ _ k20 k30 tl htl (by rw [v2 3 1 n31, if_neg (by omega), if_neg (by omega)]; exact h31) (by rw [v2 3 2 n32, if_neg (by omega), if_neg (by omega)]; exact h32) hb2 hsb hk (by rw [v2 b 1 nJ, if_neg (by omega), if_neg (by omega)]; exact h1k) (by rw [v2 b 2 nJ, if_neg (by omega), if_neg (by omega)]; exact h1s) (by rw [v2 b 3 nJ, if_neg (by omega), if_neg (by omega)]; exact h1l) (by decide) (fun τ3 t3 => ?_)
  have c3 : b < τ3.1 ∧ 20 ≤ τ3.1 ∧ τ3.2.2.1 0 3 = some 3 ∧ τ3.2.2.1 3 0 = some 4 := by rw [t3.1, t3.2.1]; exact ⟨hb2, k20, k03, k30⟩
  obtain ⟨hb3', l20, l03, l30⟩ := c3
  iterate 1 refine hX _ _ _ _ _ _ ?_
  refine Exists.intro _ (And.intro rfl (And.intro hb3' (And.intro hsb ?_)))
  iterate 3 refine hX _ _ _ _ _ _ ?_
  refine Exists.intro _ (And.intro rfl (And.intro (fd_lt20 l20 (by decide)) (And.intro rfl ?_)))
  iterate 4 refine hX _ _ _ _ _ _ ?_
  refine Exists.intro _ (And.intro l03 (And.intro (fd_lt20 l20 (by decide)) (And.intro rfl ?_)))
  have v3 : ∀ i j, ¬ JC i j → (fd_si τ3 b 6 (an_w k sz ld 0 16 k 2).1).2.1 i j = if i = b ∧ j = 6 then (an_w k sz ld 0 16 k 2).1 else if i = b ∧ j = 5 then (an_w k sz ld 0 16 k 1).1 else if i = b ∧ j = 4 then (an_w k sz ld 0 16 k 0).1 else σ.2.1 i j := by
    intro i j hj
    show fd_u τ3.2.1 b 6 _ i j = _
    have := t3.2.2.2 i j hj
    have := v2 i j hj
    unfold fd_u
    grind
  refine ok_answer d b k 4 sz ld 0 _ _ l20 l30 tl htl (by rw [v3 3 1 n31, if_neg (by omega), if_neg (by omega), if_neg (by omega)]; exact h31) (by rw [v3 3 2 n32, if_neg (by omega), if_neg (by omega), if_neg (by omega)]; exact h32) hb3' hsb hk (by rw [v3 b 1 nJ, if_neg (by omega), if_neg (by omega), if_neg (by omega)]; exact h1k) (by rw [v3 b 2 nJ, if_neg (by omega), if_neg (by omega), if_neg (by omega)]; exact h1s) (by rw [v3 b 3 nJ, if_neg (by omega), if_neg (by omega), if_neg (by omega)]; exact h1l) (by decide) (fun τ4 t4 => ?_)
  have c4 : b < τ4.1 ∧ 20 ≤ τ4.1 ∧ τ4.2.2.1 0 3 = some 3 ∧ τ4.2.2.1 3 0 = some 4 := by rw [t4.1, t4.2.1]; exact ⟨hb3', l20, l03, l30⟩
  obtain ⟨hb4, m20, m03, m30⟩ := c4
  iterate 1 refine hX _ _ _ _ _ _ ?_
  refine Exists.intro _ (And.intro rfl (And.intro hb4 (And.intro hsb ?_)))
  iterate 3 refine hX _ _ _ _ _ _ ?_
  refine Exists.intro _ (And.intro rfl (And.intro (fd_lt20 m20 (by decide)) (And.intro rfl ?_)))
  iterate 4 refine hX _ _ _ _ _ _ ?_
  refine Exists.intro _ (And.intro m03 (And.intro (fd_lt20 m20 (by decide)) (And.intro rfl ?_)))
  have v4 : ∀ i j, ¬ JC i j → (fd_si τ4 b 7 (an_w k sz ld 0 16 k 4).1).2.1 i j = if i = b ∧ j = 7 then (an_w k sz ld 0 16 k 4).1 else if i = b ∧ j = 6 then (an_w k sz ld 0 16 k 2).1 else if i = b ∧ j = 5 then (an_w k sz ld 0 16 k 1).1 else if i = b ∧ j = 4 then (an_w k sz ld 0 16 k 0).1 else σ.2.1 i j := by
    intro i j hj
    show fd_u τ4.2.1 b 7 _ i j = _
    have := t4.2.2.2 i j hj
    have := v3 i j hj
    unfold fd_u
    grind
  refine ok_answer d b k 5 sz ld 0 _ _ m20 m30 tl htl (by rw [v4 3 1 n31, if_neg (by omega), if_neg (by omega), if_neg (by omega), if_neg (by omega)]; exact h31) (by rw [v4 3 2 n32, if_neg (by omega), if_neg (by omega), if_neg (by omega), if_neg (by omega)]; exact h32) hb4 hsb hk (by rw [v4 b 1 nJ, if_neg (by omega), if_neg (by omega), if_neg (by omega), if_neg (by omega)]; exact h1k) (by rw [v4 b 2 nJ, if_neg (by omega), if_neg (by omega), if_neg (by omega), if_neg (by omega)]; exact h1s) (by rw [v4 b 3 nJ, if_neg (by omega), if_neg (by omega), if_neg (by omega), if_neg (by omega)]; exact h1l) (by decide) (fun τ5 t5 => ?_)
  have hb5 : b < τ5.1 := by rw [t5.1]; exact hb4
  iterate 1 refine hX _ _ _ _ _ _ ?_
  refine Exists.intro _ (And.intro rfl (And.intro hb5 (And.intro hsb ?_)))
  repeat refine hX _ _ _ _ _ _ ?_
  have v5 : ∀ i j, ¬ JC i j → (fd_si τ5 b 8 (an_w k sz ld 0 16 k 5).1).2.1 i j = if i = b ∧ j = 8 then (an_w k sz ld 0 16 k 5).1 else if i = b ∧ j = 7 then (an_w k sz ld 0 16 k 4).1 else if i = b ∧ j = 6 then (an_w k sz ld 0 16 k 2).1 else if i = b ∧ j = 5 then (an_w k sz ld 0 16 k 1).1 else if i = b ∧ j = 4 then (an_w k sz ld 0 16 k 0).1 else σ.2.1 i j := by
    intro i j hj
    show fd_u τ5.2.1 b 8 _ i j = _
    have := t5.2.2.2 i j hj
    have := v4 i j hj
    unfold fd_u
    grind
  refine h1 _ ⟨?_, ?_, ?_, fun i j hj => ?_⟩ ?_ ?_ ?_ ?_ ?_
  · exact t5.1.trans (t4.1.trans (t3.1.trans (t2.1.trans t1.1)))
  · exact t5.2.1.trans (t4.2.1.trans (t3.2.1.trans (t2.2.1.trans t1.2.1)))
  · exact t5.2.2.1.trans (t4.2.2.1.trans (t3.2.2.1.trans (t2.2.2.1.trans t1.2.2.1)))
  · have hj1 : ¬ JC i j := fun q => hj (Or.inl q)
    have hj2 : ¬ (i = b ∧ 4 ≤ j ∧ j ≤ 8) := fun q => hj (Or.inr q)
    have hm : ∀ m, 4 ≤ m → m ≤ 8 → ¬ (i = b ∧ j = m) := fun m h1 h2 q => hj2 ⟨q.1, by omega, by omega⟩
    rw [v5 i j hj1, if_neg (hm 8 (by decide) (by decide)), if_neg (hm 7 (by decide) (by decide)), if_neg (hm 6 (by decide) (by decide)), if_neg (hm 5 (by decide) (by decide)), if_neg (hm 4 (by decide) (by decide))]
  · rw [v5 b 4 nJ]; simp
  · rw [v5 b 5 nJ]; simp
  · rw [v5 b 6 nJ]; simp
  · rw [v5 b 7 nJ]; simp
  · rw [v5 b 8 nJ]; simp
end
section
/-- the model's own cells -/
def Mb (σ : fd_S) : Prop := 20 ≤ σ.1 ∧ σ.2.2.1 9 1 = some 10 ∧ σ.2.2.1 9 2 = some 11 ∧ σ.2.2.1 9 3 = some 12 ∧ σ.2.2.1 9 4 = some 13 ∧ σ.2.2.1 9 5 = some 14 ∧ σ.2.2.1 9 6 = some 15 ∧ σ.2.2.1 9 7 = some 16 ∧ σ.2.2.1 9 8 = some 17 ∧ σ.2.2.1 9 9 = some 18 ∧ σ.2.2.1 9 13 = some 19
/-- the model's trace from t0 on, and how many it has -/
def JM (t0 i j : Nat) : Prop := (i = 19 ∧ t0 ≤ j) ∨ (i = 9 ∧ j = 14)
/-- since σ0 the model has begun the bodies L -/
def Md (σ0 : fd_S) (t0 : Nat) (L : List Int32) (τ : fd_S) : Prop := SE (JM t0) σ0 τ ∧ τ.2.1 9 14 = nI (t0 + L.length) ∧ ∀ j, j < L.length → τ.2.1 19 (t0 + j) = L.getD j 0
theorem md_lt {σ0 τ : fd_S} {t0 : Nat} {L : List Int32} (h : Md σ0 t0 L τ) (h20 : 20 ≤ σ0.1) {a : Nat} (ha : a < 20) : a < τ.1 := by rw [h.1.1]; omega
theorem md_iald {σ0 τ : fd_S} {t0 : Nat} {L : List Int32} (h : Md σ0 t0 L τ) (h20 : 20 ≤ σ0.1) {f a n i : Nat} {x : Int32} {X : fd_X} {nx : List fd_E} {lv : fd_L} {t : List fd_V} {cc ss : Nat} (hf : σ0.2.2.1 9 f = some a) (ha : a < 19) (hs : fd_sh a = .inr (n, none)) (hi : i < n) (hx : σ0.2.1 a i = x) (h9 : a ≠ 9) (hn : n < 2 ^ 31) (k : X nx lv (.inl x :: t) τ cc ss) : fd_ial none X nx lv (.inl (nI i) :: .inr (.inr (.inl (τ.2.2.1 9 f))) :: t) τ cc ss := by
  have e : τ.2.1 a (nI i).toNatClampNeg = x := by
    rw [nI_clamp (by omega), h.1.2.2.2 a i (fun q => q.elim (fun q => by omega) (fun q => h9 q.1))]
    exact hx
  refine ⟨a, n, by rw [h.1.2.1]; exact hf, md_lt h h20 (by omega), hs, vp_in_nI hi hn, ?_⟩
  rw [e]
  exact k
theorem ok_began (d : Nat) (b : Int32) {σ0 τ : fd_S} {t0 : Nat} {L : List Int32} (h20 : 20 ≤ σ0.1) (r13 : σ0.2.2.1 9 13 = some 19) (hM : Md σ0 t0 L τ) (ht : t0 + L.length < 60) {post : Option fd_V → fd_S → Prop} (h1 : ∀ τ', Md σ0 t0 (L ++ [b]) τ' → post none τ') : fd_Sem (d + 1) 52 [.inr (.inr (.inl (some 9))), .inl b] τ post := by
  have g20 : 20 ≤ τ.1 := by rw [hM.1.1]; exact h20
  have h20 := g20
  have rr : τ.2.2.1 9 13 = some 19 := by rw [hM.1.2.1]; exact r13
  have hin : vp_in (τ.2.1 9 14) 60 := by rw [hM.2.1]; exact vp_in_nI ht (by decide)
  intro X hX hV
  repeat (first | refine hX _ _ _ _ _ _ ?_ | refine Exists.intro _ (And.intro (by first | rfl | assumption) (And.intro (by first | assumption | exact fd_lt20 h20 (by decide)) (And.intro (by first | rfl | assumption) ?_))))
  refine Exists.intro _ (Exists.intro _ (And.intro (by first | rfl | assumption) (And.intro (by first | assumption | exact fd_lt20 h20 (by decide)) (And.intro (by first | rfl | assumption) (And.intro hin ?_)))))
  repeat (first | refine hX _ _ _ _ _ _ ?_ | refine Exists.intro _ (And.intro (by first | rfl | assumption) (And.intro (by first | assumption | exact fd_lt20 h20 (by decide)) (And.intro (by first | rfl | assumption) ?_))))
  have ec : (τ.2.1 9 14).toNatClampNeg = t0 + L.length := by rw [hM.2.1, nI_clamp (by omega)]
  have key : ∀ i j, (fd_si (fd_si τ 19 (τ.2.1 9 14).toNatClampNeg b) 9 14 ((fd_si τ 19 (τ.2.1 9 14).toNatClampNeg b).2.1 9 14 + 1)).2.1 i j = if i = 9 ∧ j = 14 then τ.2.1 9 14 + 1 else if i = 19 ∧ j = t0 + L.length then b else τ.2.1 i j := by
    intro i j
    rw [ec]
    simp only [fd_si, fd_u]
    grind
  refine h1 _ ⟨⟨hM.1.1, hM.1.2.1, hM.1.2.2.1, fun i j hj => ?_⟩, ?_, fun j hj => ?_⟩
  · have h5 := hM.1.2.2.2 i j hj
    unfold JM at hj
    refine (key i j).trans ?_
    rw [if_neg (fun q => hj (Or.inr q)), if_neg (fun q => hj (Or.inl ⟨q.1, by omega⟩))]
    exact h5
  · refine (key 9 14).trans ?_
    rw [if_pos ⟨rfl, rfl⟩, hM.2.1, nI_1, List.length_append]
    rfl
  · refine (key 19 (t0 + j)).trans ?_
    rw [if_neg (by omega)]
    rw [List.length_append] at hj
    have hj : j < L.length + 1 := hj
    by_cases h5 : j = L.length
    · subst h5
      rw [if_pos ⟨rfl, rfl⟩]
      simp [List.getD]
    · rw [if_neg (by omega), hM.2.2 j (by omega)]
      simp [List.getD, List.getElem?_append_left (show j < L.length by omega)]
/-! the answers in the open -/
theorem av_0_0 (sz ld s : Int32) : (an_w 0 sz ld s 16 0 0).1 = sz := rfl
theorem at_0_0 (sz ld s : Int32) : (an_w 0 sz ld s 16 0 0).2 = [1] := rfl
theorem av_0_1 (sz ld s : Int32) : (an_w 1 sz ld s 16 1 0).1 = sz := rfl
theorem at_0_1 (sz ld s : Int32) : (an_w 1 sz ld s 16 1 0).2 = [1] := rfl
theorem av_0_2 (sz ld s : Int32) : (an_w 2 sz ld s 16 2 0).1 = (sz + 10) := rfl
theorem at_0_2 (sz ld s : Int32) : (an_w 2 sz ld s 16 2 0).2 = [2, 1] := rfl
theorem av_0_3 (sz ld s : Int32) : (an_w 3 sz ld s 16 3 0).1 = (sz + 10) := rfl
theorem at_0_3 (sz ld s : Int32) : (an_w 3 sz ld s 16 3 0).2 = [2, 1] := rfl
theorem av_0_4 (sz ld s : Int32) : (an_w 4 sz ld s 16 4 0).1 = (2 * (sz + 10)) := rfl
theorem at_0_4 (sz ld s : Int32) : (an_w 4 sz ld s 16 4 0).2 = [3, 2, 1] := rfl
theorem av_0_5 (sz ld s : Int32) : (an_w 5 sz ld s 16 5 0).1 = sz := rfl
theorem at_0_5 (sz ld s : Int32) : (an_w 5 sz ld s 16 5 0).2 = [1] := rfl
theorem av_0_6 (sz ld s : Int32) : (an_w 6 sz ld s 16 6 0).1 = (sz + 5) := rfl
theorem at_0_6 (sz ld s : Int32) : (an_w 6 sz ld s 16 6 0).2 = [4, 1] := rfl
theorem av_1_0 (sz ld s : Int32) : (an_w 0 sz ld s 16 0 1).1 = (1200 + ld) := rfl
theorem at_1_0 (sz ld s : Int32) : (an_w 0 sz ld s 16 0 1).2 = [11] := rfl
theorem av_1_1 (sz ld s : Int32) : (an_w 1 sz ld s 16 1 1).1 = (1200 + ld + 800) := rfl
theorem at_1_1 (sz ld s : Int32) : (an_w 1 sz ld s 16 1 1).2 = [12, 11] := rfl
theorem av_1_2 (sz ld s : Int32) : (an_w 2 sz ld s 16 2 1).1 = (1200 + ld + 800) := rfl
theorem at_1_2 (sz ld s : Int32) : (an_w 2 sz ld s 16 2 1).2 = [12, 11] := rfl
theorem av_1_3 (sz ld s : Int32) : (an_w 3 sz ld s 16 3 1).1 = (1200 + ld + 800 + ld / 4) := rfl
theorem at_1_3 (sz ld s : Int32) : (an_w 3 sz ld s 16 3 1).2 = [13, 12, 11] := rfl
theorem av_1_4 (sz ld s : Int32) : (an_w 4 sz ld s 16 4 1).1 = (1200 + ld + 800 + ld / 4) := rfl
theorem at_1_4 (sz ld s : Int32) : (an_w 4 sz ld s 16 4 1).2 = [13, 12, 11] := rfl
theorem av_1_5 (sz ld s : Int32) : (an_w 5 sz ld s 16 5 1).1 = (1200 + ld) := rfl
theorem at_1_5 (sz ld s : Int32) : (an_w 5 sz ld s 16 5 1).2 = [11] := rfl
theorem av_1_6 (sz ld s : Int32) : (an_w 6 sz ld s 16 6 1).1 = (1200 + ld + 9000) := rfl
theorem at_1_6 (sz ld s : Int32) : (an_w 6 sz ld s 16 6 1).2 = [14, 11] := rfl
theorem av_2_0 (sz ld s : Int32) : (an_w 0 sz ld s 16 0 2).1 = (1 + sz / 50) := rfl
theorem at_2_0 (sz ld s : Int32) : (an_w 0 sz ld s 16 0 2).2 = [21, 1] := rfl
theorem av_2_1 (sz ld s : Int32) : (an_w 1 sz ld s 16 1 2).1 = (1 + sz / 50) := rfl
theorem at_2_1 (sz ld s : Int32) : (an_w 1 sz ld s 16 1 2).2 = [21, 1] := rfl
theorem av_2_2 (sz ld s : Int32) : (an_w 2 sz ld s 16 2 2).1 = (1 + (sz + 10) / 50) := rfl
theorem at_2_2 (sz ld s : Int32) : (an_w 2 sz ld s 16 2 2).2 = [21, 2, 1] := rfl
theorem av_2_3 (sz ld s : Int32) : (an_w 3 sz ld s 16 3 2).1 = (1 + (sz + 10) / 50) := rfl
theorem at_2_3 (sz ld s : Int32) : (an_w 3 sz ld s 16 3 2).2 = [21, 2, 1] := rfl
theorem av_2_4 (sz ld s : Int32) : (an_w 4 sz ld s 16 4 2).1 = (1 + (2 * (sz + 10)) / 50)+ 6 := rfl
theorem at_2_4 (sz ld s : Int32) : (an_w 4 sz ld s 16 4 2).2 = [22, 21, 3, 2, 1] := rfl
theorem av_2_5 (sz ld s : Int32) : (an_w 5 sz ld s 16 5 2).1 = (1 + sz / 50) := rfl
theorem at_2_5 (sz ld s : Int32) : (an_w 5 sz ld s 16 5 2).2 = [21, 1] := rfl
theorem av_2_6 (sz ld s : Int32) : (an_w 6 sz ld s 16 6 2).1 = (1 + (sz + 5) / 50) := rfl
theorem at_2_6 (sz ld s : Int32) : (an_w 6 sz ld s 16 6 2).2 = [21, 4, 1] := rfl
theorem av_3_0 (sz ld s : Int32) : (an_w 0 sz ld s 16 0 3).1 = (500 + sz * (10 + s)) := rfl
theorem at_3_0 (sz ld s : Int32) : (an_w 0 sz ld s 16 0 3).2 = [31, 1] := rfl
theorem av_3_1 (sz ld s : Int32) : (an_w 1 sz ld s 16 1 3).1 = ((500 + sz * (10 + s)) + 20 * s) := rfl
theorem at_3_1 (sz ld s : Int32) : (an_w 1 sz ld s 16 1 3).2 = [32, 31, 1] := rfl
theorem av_3_2 (sz ld s : Int32) : (an_w 2 sz ld s 16 2 3).1 = ((500 + (sz + 10) * (10 + s)) + 20 * s) := rfl
theorem at_3_2 (sz ld s : Int32) : (an_w 2 sz ld s 16 2 3).2 = [32, 31, 2, 1] := rfl
theorem av_3_3 (sz ld s : Int32) : (an_w 3 sz ld s 16 3 3).1 = (2 * ((500 + (sz + 10) * (10 + s)) + 20 * s)) := rfl
theorem at_3_3 (sz ld s : Int32) : (an_w 3 sz ld s 16 3 3).2 = [33, 32, 31, 2, 1] := rfl
theorem av_3_4 (sz ld s : Int32) : (an_w 4 sz ld s 16 4 3).1 = (2 * ((500 + (2 * (sz + 10)) * (10 + s)) + 20 * s) + (1200 + ld + 800 + ld / 4) / 100) := rfl
theorem at_3_4 (sz ld s : Int32) : (an_w 4 sz ld s 16 4 3).2 = [34, 33, 32, 31, 3, 2, 1, 13, 12, 11] := rfl
theorem av_3_5 (sz ld s : Int32) : (an_w 5 sz ld s 16 5 3).1 = (500 + sz * (10 + s)) := rfl
theorem at_3_5 (sz ld s : Int32) : (an_w 5 sz ld s 16 5 3).2 = [31, 1] := rfl
theorem av_3_6 (sz ld s : Int32) : (an_w 6 sz ld s 16 6 3).1 = ((500 + (sz + 5) * (10 + s)) - (500 + (sz + 5) * (10 + s)) / 10) := rfl
theorem at_3_6 (sz ld s : Int32) : (an_w 6 sz ld s 16 6 3).2 = [35, 31, 4, 1] := rfl
theorem av_4_0 (sz ld s : Int32) : (an_w 0 sz ld s 16 0 4).1 = -3 := rfl
theorem at_4_0 (sz ld s : Int32) : (an_w 0 sz ld s 16 0 4).2 = [] := rfl
theorem av_4_1 (sz ld s : Int32) : (an_w 1 sz ld s 16 1 4).1 = -3 := rfl
theorem at_4_1 (sz ld s : Int32) : (an_w 1 sz ld s 16 1 4).2 = [] := rfl
theorem av_4_2 (sz ld s : Int32) : (an_w 2 sz ld s 16 2 4).1 = (1200 + ld + 800) / 200 := rfl
theorem at_4_2 (sz ld s : Int32) : (an_w 2 sz ld s 16 2 4).2 = [41, 12, 11] := rfl
theorem av_4_3 (sz ld s : Int32) : (an_w 3 sz ld s 16 3 4).1 = (1200 + ld + 800 + ld / 4) / 100 + 300 := rfl
theorem at_4_3 (sz ld s : Int32) : (an_w 3 sz ld s 16 3 4).2 = [42, 13, 12, 11] := rfl
theorem av_4_4 (sz ld s : Int32) : (an_w 4 sz ld s 16 4 4).1 = (1200 + ld + 800 + ld / 4) / 100 + 300 := rfl
theorem at_4_4 (sz ld s : Int32) : (an_w 4 sz ld s 16 4 4).2 = [42, 13, 12, 11] := rfl
theorem av_4_5 (sz ld s : Int32) : (an_w 5 sz ld s 16 5 4).1 = -3 := rfl
theorem at_4_5 (sz ld s : Int32) : (an_w 5 sz ld s 16 5 4).2 = [] := rfl
theorem av_4_6 (sz ld s : Int32) : (an_w 6 sz ld s 16 6 4).1 = (1200 + ld + 9000) / 200 := rfl
theorem at_4_6 (sz ld s : Int32) : (an_w 6 sz ld s 16 6 4).2 = [41, 14, 11] := rfl
theorem av_5_0 (sz ld s : Int32) : (an_w 0 sz ld s 16 0 5).1 = -3 := rfl
theorem at_5_0 (sz ld s : Int32) : (an_w 0 sz ld s 16 0 5).2 = [] := rfl
theorem av_5_1 (sz ld s : Int32) : (an_w 1 sz ld s 16 1 5).1 = -3 := rfl
theorem at_5_1 (sz ld s : Int32) : (an_w 1 sz ld s 16 1 5).2 = [] := rfl
theorem av_5_2 (sz ld s : Int32) : (an_w 2 sz ld s 16 2 5).1 = -3 := rfl
theorem at_5_2 (sz ld s : Int32) : (an_w 2 sz ld s 16 2 5).2 = [] := rfl
theorem av_5_3 (sz ld s : Int32) : (an_w 3 sz ld s 16 3 5).1 = 1 + ((1 + (sz + 10) / 50)) / 4 := rfl
theorem at_5_3 (sz ld s : Int32) : (an_w 3 sz ld s 16 3 5).2 = [51, 21, 2, 1] := rfl
theorem av_5_4 (sz ld s : Int32) : (an_w 4 sz ld s 16 4 5).1 = 1 + ((1 + (2 * (sz + 10)) / 50)+ 6) / 4 := rfl
theorem at_5_4 (sz ld s : Int32) : (an_w 4 sz ld s 16 4 5).2 = [51, 22, 21, 3, 2, 1] := rfl
theorem av_5_5 (sz ld s : Int32) : (an_w 5 sz ld s 16 5 5).1 = 1 + ((1 + sz / 50)) / 4 := rfl
theorem at_5_5 (sz ld s : Int32) : (an_w 5 sz ld s 16 5 5).2 = [51, 21, 1] := rfl
theorem av_5_6 (sz ld s : Int32) : (an_w 6 sz ld s 16 6 5).1 = 2 + (sz + 5) / 100 := rfl
theorem at_5_6 (sz ld s : Int32) : (an_w 6 sz ld s 16 6 5).2 = [52, 4, 1] := rfl
set_option maxRecDepth 100000 in
theorem ok_mlen_0 (d i t0 : Nat) (sz ld s : Int32) {σ0 τ : fd_S} {L : List Int32} {post : Option fd_V → fd_S → Prop} (hB : Mb σ0) (hi : i < 60) (hk : σ0.2.1 10 i = nI 0) (hs : σ0.2.1 11 i = sz) (hl : σ0.2.1 12 i = ld) (hM : Md σ0 t0 L τ) (ht : t0 + L.length + 3 ≤ 60) (h1 : ∀ τ', Md σ0 t0 (L ++ (an_w 0 sz ld s 16 0 0).2) τ' → post (some (.inl (an_w 0 sz ld s 16 0 0).1)) τ') : fd_Sem (d + 2) 53 [.inr (.inr (.inl (some 9))), .inl (nI i)] τ post := by
  obtain ⟨h20, r1, r2, r3, r4, r5, r6, r7, r8, r9, r13⟩ := id hB
  intro X hX hV
  repeat (first | refine hX _ _ _ _ _ _ ?_ | refine Exists.intro _ (And.intro (by first | rfl | assumption) (And.intro (by first | assumption | exact fd_lt20 h20 (by decide) | exact md_lt (by assumption) h20 (by decide)) (And.intro (by first | rfl | assumption) ?_))) | refine And.intro (fun hc => absurd hc (by dsimp only [fd_icmp]; decide)) (fun _ => ?_) | refine And.intro (fun _ => ?_) (fun hc => absurd hc (by dsimp only [fd_icmp]; decide)) | refine And.intro (by decide) ?_ | refine md_iald (by assumption) h20 (by assumption) (by decide) rfl hi (by assumption) (by decide) (by decide) ?_ | refine ok_in _ _ _ _ _ _ (fun _ _ => ?_) (fun hc => absurd (by decide) hc) | refine ok_in _ _ _ _ _ _ (fun h1 h2 => absurd (And.intro h1 h2) (by decide)) (fun _ => ?_) | (refine ok_began _ _ h20 r13 (by assumption) (by first | omega | (simp only [List.length_append, List.length_cons, List.length_nil]; omega)) (fun τ hM => ?_)))
  refine cast (congrArg (fun z => post (some (.inl z)) τ) ?_) (h1 τ ?_)
  · simp only [av_0_0, av_1_0, av_2_0, av_3_0, av_4_0, av_5_0, Int32.add_zero]
  · rw [at_0_0]
    try simp only [at_0_0, at_1_0, at_2_0, List.append_assoc, List.cons_append, List.nil_append] at hM ⊢
    exact hM
set_option maxRecDepth 100000 in
theorem ok_mlen_1 (d i t0 : Nat) (sz ld s : Int32) {σ0 τ : fd_S} {L : List Int32} {post : Option fd_V → fd_S → Prop} (hB : Mb σ0) (hi : i < 60) (hk : σ0.2.1 10 i = nI 1) (hs : σ0.2.1 11 i = sz) (hl : σ0.2.1 12 i = ld) (hM : Md σ0 t0 L τ) (ht : t0 + L.length + 3 ≤ 60) (h1 : ∀ τ', Md σ0 t0 (L ++ (an_w 1 sz ld s 16 1 0).2) τ' → post (some (.inl (an_w 1 sz ld s 16 1 0).1)) τ') : fd_Sem (d + 2) 53 [.inr (.inr (.inl (some 9))), .inl (nI i)] τ post := by
  obtain ⟨h20, r1, r2, r3, r4, r5, r6, r7, r8, r9, r13⟩ := id hB
  intro X hX hV
  repeat (first | refine hX _ _ _ _ _ _ ?_ | refine Exists.intro _ (And.intro (by first | rfl | assumption) (And.intro (by first | assumption | exact fd_lt20 h20 (by decide) | exact md_lt (by assumption) h20 (by decide)) (And.intro (by first | rfl | assumption) ?_))) | refine And.intro (fun hc => absurd hc (by dsimp only [fd_icmp]; decide)) (fun _ => ?_) | refine And.intro (fun _ => ?_) (fun hc => absurd hc (by dsimp only [fd_icmp]; decide)) | refine And.intro (by decide) ?_ | refine md_iald (by assumption) h20 (by assumption) (by decide) rfl hi (by assumption) (by decide) (by decide) ?_ | refine ok_in _ _ _ _ _ _ (fun _ _ => ?_) (fun hc => absurd (by decide) hc) | refine ok_in _ _ _ _ _ _ (fun h1 h2 => absurd (And.intro h1 h2) (by decide)) (fun _ => ?_) | (refine ok_began _ _ h20 r13 (by assumption) (by first | omega | (simp only [List.length_append, List.length_cons, List.length_nil]; omega)) (fun τ hM => ?_)))
  refine cast (congrArg (fun z => post (some (.inl z)) τ) ?_) (h1 τ ?_)
  · simp only [av_0_1, av_1_1, av_2_1, av_3_1, av_4_1, av_5_1, Int32.add_zero]
  · rw [at_0_1]
    try simp only [at_0_1, at_1_1, at_2_1, List.append_assoc, List.cons_append, List.nil_append] at hM ⊢
    exact hM
set_option maxRecDepth 100000 in
theorem ok_mlen_2 (d i t0 : Nat) (sz ld s : Int32) {σ0 τ : fd_S} {L : List Int32} {post : Option fd_V → fd_S → Prop} (hB : Mb σ0) (hi : i < 60) (hk : σ0.2.1 10 i = nI 2) (hs : σ0.2.1 11 i = sz) (hl : σ0.2.1 12 i = ld) (hM : Md σ0 t0 L τ) (ht : t0 + L.length + 3 ≤ 60) (h1 : ∀ τ', Md σ0 t0 (L ++ (an_w 2 sz ld s 16 2 0).2) τ' → post (some (.inl (an_w 2 sz ld s 16 2 0).1)) τ') : fd_Sem (d + 2) 53 [.inr (.inr (.inl (some 9))), .inl (nI i)] τ post := by
  obtain ⟨h20, r1, r2, r3, r4, r5, r6, r7, r8, r9, r13⟩ := id hB
  intro X hX hV
  repeat (first | refine hX _ _ _ _ _ _ ?_ | refine Exists.intro _ (And.intro (by first | rfl | assumption) (And.intro (by first | assumption | exact fd_lt20 h20 (by decide) | exact md_lt (by assumption) h20 (by decide)) (And.intro (by first | rfl | assumption) ?_))) | refine And.intro (fun hc => absurd hc (by dsimp only [fd_icmp]; decide)) (fun _ => ?_) | refine And.intro (fun _ => ?_) (fun hc => absurd hc (by dsimp only [fd_icmp]; decide)) | refine And.intro (by decide) ?_ | refine md_iald (by assumption) h20 (by assumption) (by decide) rfl hi (by assumption) (by decide) (by decide) ?_ | refine ok_in _ _ _ _ _ _ (fun _ _ => ?_) (fun hc => absurd (by decide) hc) | refine ok_in _ _ _ _ _ _ (fun h1 h2 => absurd (And.intro h1 h2) (by decide)) (fun _ => ?_) | (refine ok_began _ _ h20 r13 (by assumption) (by first | omega | (simp only [List.length_append, List.length_cons, List.length_nil]; omega)) (fun τ hM => ?_)))
  refine cast (congrArg (fun z => post (some (.inl z)) τ) ?_) (h1 τ ?_)
  · simp only [av_0_2, av_1_2, av_2_2, av_3_2, av_4_2, av_5_2, Int32.add_zero]
  · rw [at_0_2]
    try simp only [at_0_2, at_1_2, at_2_2, List.append_assoc, List.cons_append, List.nil_append] at hM ⊢
    exact hM
set_option maxRecDepth 100000 in
theorem ok_mlen_3 (d i t0 : Nat) (sz ld s : Int32) {σ0 τ : fd_S} {L : List Int32} {post : Option fd_V → fd_S → Prop} (hB : Mb σ0) (hi : i < 60) (hk : σ0.2.1 10 i = nI 3) (hs : σ0.2.1 11 i = sz) (hl : σ0.2.1 12 i = ld) (hM : Md σ0 t0 L τ) (ht : t0 + L.length + 3 ≤ 60) (h1 : ∀ τ', Md σ0 t0 (L ++ (an_w 3 sz ld s 16 3 0).2) τ' → post (some (.inl (an_w 3 sz ld s 16 3 0).1)) τ') : fd_Sem (d + 2) 53 [.inr (.inr (.inl (some 9))), .inl (nI i)] τ post := by
  obtain ⟨h20, r1, r2, r3, r4, r5, r6, r7, r8, r9, r13⟩ := id hB
  intro X hX hV
  repeat (first | refine hX _ _ _ _ _ _ ?_ | refine Exists.intro _ (And.intro (by first | rfl | assumption) (And.intro (by first | assumption | exact fd_lt20 h20 (by decide) | exact md_lt (by assumption) h20 (by decide)) (And.intro (by first | rfl | assumption) ?_))) | refine And.intro (fun hc => absurd hc (by dsimp only [fd_icmp]; decide)) (fun _ => ?_) | refine And.intro (fun _ => ?_) (fun hc => absurd hc (by dsimp only [fd_icmp]; decide)) | refine And.intro (by decide) ?_ | refine md_iald (by assumption) h20 (by assumption) (by decide) rfl hi (by assumption) (by decide) (by decide) ?_ | refine ok_in _ _ _ _ _ _ (fun _ _ => ?_) (fun hc => absurd (by decide) hc) | refine ok_in _ _ _ _ _ _ (fun h1 h2 => absurd (And.intro h1 h2) (by decide)) (fun _ => ?_) | (refine ok_began _ _ h20 r13 (by assumption) (by first | omega | (simp only [List.length_append, List.length_cons, List.length_nil]; omega)) (fun τ hM => ?_)))
  refine cast (congrArg (fun z => post (some (.inl z)) τ) ?_) (h1 τ ?_)
  · simp only [av_0_3, av_1_3, av_2_3, av_3_3, av_4_3, av_5_3, Int32.add_zero]
  · rw [at_0_3]
    try simp only [at_0_3, at_1_3, at_2_3, List.append_assoc, List.cons_append, List.nil_append] at hM ⊢
    exact hM
set_option maxRecDepth 100000 in
theorem ok_mlen_4 (d i t0 : Nat) (sz ld s : Int32) {σ0 τ : fd_S} {L : List Int32} {post : Option fd_V → fd_S → Prop} (hB : Mb σ0) (hi : i < 60) (hk : σ0.2.1 10 i = nI 4) (hs : σ0.2.1 11 i = sz) (hl : σ0.2.1 12 i = ld) (hM : Md σ0 t0 L τ) (ht : t0 + L.length + 3 ≤ 60) (h1 : ∀ τ', Md σ0 t0 (L ++ (an_w 4 sz ld s 16 4 0).2) τ' → post (some (.inl (an_w 4 sz ld s 16 4 0).1)) τ') : fd_Sem (d + 2) 53 [.inr (.inr (.inl (some 9))), .inl (nI i)] τ post := by
  obtain ⟨h20, r1, r2, r3, r4, r5, r6, r7, r8, r9, r13⟩ := id hB
  intro X hX hV
  repeat (first | refine hX _ _ _ _ _ _ ?_ | refine Exists.intro _ (And.intro (by first | rfl | assumption) (And.intro (by first | assumption | exact fd_lt20 h20 (by decide) | exact md_lt (by assumption) h20 (by decide)) (And.intro (by first | rfl | assumption) ?_))) | refine And.intro (fun hc => absurd hc (by dsimp only [fd_icmp]; decide)) (fun _ => ?_) | refine And.intro (fun _ => ?_) (fun hc => absurd hc (by dsimp only [fd_icmp]; decide)) | refine And.intro (by decide) ?_ | refine md_iald (by assumption) h20 (by assumption) (by decide) rfl hi (by assumption) (by decide) (by decide) ?_ | refine ok_in _ _ _ _ _ _ (fun _ _ => ?_) (fun hc => absurd (by decide) hc) | refine ok_in _ _ _ _ _ _ (fun h1 h2 => absurd (And.intro h1 h2) (by decide)) (fun _ => ?_) | (refine ok_began _ _ h20 r13 (by assumption) (by first | omega | (simp only [List.length_append, List.length_cons, List.length_nil]; omega)) (fun τ hM => ?_)))
  refine cast (congrArg (fun z => post (some (.inl z)) τ) ?_) (h1 τ ?_)
  · simp only [av_0_4, av_1_4, av_2_4, av_3_4, av_4_4, av_5_4, Int32.add_zero]
  · rw [at_0_4]
    try simp only [at_0_4, at_1_4, at_2_4, List.append_assoc, List.cons_append, List.nil_append] at hM ⊢
    exact hM
set_option maxRecDepth 100000 in
theorem ok_mlen_5 (d i t0 : Nat) (sz ld s : Int32) {σ0 τ : fd_S} {L : List Int32} {post : Option fd_V → fd_S → Prop} (hB : Mb σ0) (hi : i < 60) (hk : σ0.2.1 10 i = nI 5) (hs : σ0.2.1 11 i = sz) (hl : σ0.2.1 12 i = ld) (hM : Md σ0 t0 L τ) (ht : t0 + L.length + 3 ≤ 60) (h1 : ∀ τ', Md σ0 t0 (L ++ (an_w 5 sz ld s 16 5 0).2) τ' → post (some (.inl (an_w 5 sz ld s 16 5 0).1)) τ') : fd_Sem (d + 2) 53 [.inr (.inr (.inl (some 9))), .inl (nI i)] τ post := by
  obtain ⟨h20, r1, r2, r3, r4, r5, r6, r7, r8, r9, r13⟩ := id hB
  intro X hX hV
  repeat (first | refine hX _ _ _ _ _ _ ?_ | refine Exists.intro _ (And.intro (by first | rfl | assumption) (And.intro (by first | assumption | exact fd_lt20 h20 (by decide) | exact md_lt (by assumption) h20 (by decide)) (And.intro (by first | rfl | assumption) ?_))) | refine And.intro (fun hc => absurd hc (by dsimp only [fd_icmp]; decide)) (fun _ => ?_) | refine And.intro (fun _ => ?_) (fun hc => absurd hc (by dsimp only [fd_icmp]; decide)) | refine And.intro (by decide) ?_ | refine md_iald (by assumption) h20 (by assumption) (by decide) rfl hi (by assumption) (by decide) (by decide) ?_ | refine ok_in _ _ _ _ _ _ (fun _ _ => ?_) (fun hc => absurd (by decide) hc) | refine ok_in _ _ _ _ _ _ (fun h1 h2 => absurd (And.intro h1 h2) (by decide)) (fun _ => ?_) | (refine ok_began _ _ h20 r13 (by assumption) (by first | omega | (simp only [List.length_append, List.length_cons, List.length_nil]; omega)) (fun τ hM => ?_)))
  refine cast (congrArg (fun z => post (some (.inl z)) τ) ?_) (h1 τ ?_)
  · simp only [av_0_5, av_1_5, av_2_5, av_3_5, av_4_5, av_5_5, Int32.add_zero]
  · rw [at_0_5]
    try simp only [at_0_5, at_1_5, at_2_5, List.append_assoc, List.cons_append, List.nil_append] at hM ⊢
    exact hM
set_option maxRecDepth 100000 in
theorem ok_mlen_6 (d i t0 : Nat) (sz ld s : Int32) {σ0 τ : fd_S} {L : List Int32} {post : Option fd_V → fd_S → Prop} (hB : Mb σ0) (hi : i < 60) (hk : σ0.2.1 10 i = nI 6) (hs : σ0.2.1 11 i = sz) (hl : σ0.2.1 12 i = ld) (hM : Md σ0 t0 L τ) (ht : t0 + L.length + 3 ≤ 60) (h1 : ∀ τ', Md σ0 t0 (L ++ (an_w 6 sz ld s 16 6 0).2) τ' → post (some (.inl (an_w 6 sz ld s 16 6 0).1)) τ') : fd_Sem (d + 2) 53 [.inr (.inr (.inl (some 9))), .inl (nI i)] τ post := by
  obtain ⟨h20, r1, r2, r3, r4, r5, r6, r7, r8, r9, r13⟩ := id hB
  intro X hX hV
  repeat (first | refine hX _ _ _ _ _ _ ?_ | refine Exists.intro _ (And.intro (by first | rfl | assumption) (And.intro (by first | assumption | exact fd_lt20 h20 (by decide) | exact md_lt (by assumption) h20 (by decide)) (And.intro (by first | rfl | assumption) ?_))) | refine And.intro (fun hc => absurd hc (by dsimp only [fd_icmp]; decide)) (fun _ => ?_) | refine And.intro (fun _ => ?_) (fun hc => absurd hc (by dsimp only [fd_icmp]; decide)) | refine And.intro (by decide) ?_ | refine md_iald (by assumption) h20 (by assumption) (by decide) rfl hi (by assumption) (by decide) (by decide) ?_ | refine ok_in _ _ _ _ _ _ (fun _ _ => ?_) (fun hc => absurd (by decide) hc) | refine ok_in _ _ _ _ _ _ (fun h1 h2 => absurd (And.intro h1 h2) (by decide)) (fun _ => ?_) | (refine ok_began _ _ h20 r13 (by assumption) (by first | omega | (simp only [List.length_append, List.length_cons, List.length_nil]; omega)) (fun τ hM => ?_)))
  refine cast (congrArg (fun z => post (some (.inl z)) τ) ?_) (h1 τ ?_)
  · simp only [av_0_6, av_1_6, av_2_6, av_3_6, av_4_6, av_5_6, Int32.add_zero]
  · rw [at_0_6]
    try simp only [at_0_6, at_1_6, at_2_6, List.append_assoc, List.cons_append, List.nil_append] at hM ⊢
    exact hM
end
section
set_option maxRecDepth 100000 in
theorem ok_mmass_0 (d i t0 : Nat) (sz ld s : Int32) {σ0 τ : fd_S} {L : List Int32} {post : Option fd_V → fd_S → Prop} (hB : Mb σ0) (hi : i < 60) (hk : σ0.2.1 10 i = nI 0) (hs : σ0.2.1 11 i = sz) (hl : σ0.2.1 12 i = ld) (hM : Md σ0 t0 L τ) (ht : t0 + L.length + 3 ≤ 60) (h1 : ∀ τ', Md σ0 t0 (L ++ (an_w 0 sz ld s 16 0 1).2) τ' → post (some (.inl (an_w 0 sz ld s 16 0 1).1)) τ') : fd_Sem (d + 2) 54 [.inr (.inr (.inl (some 9))), .inl (nI i)] τ post := by
  obtain ⟨h20, r1, r2, r3, r4, r5, r6, r7, r8, r9, r13⟩ := id hB
  intro X hX hV
  repeat (first | refine hX _ _ _ _ _ _ ?_ | refine Exists.intro _ (And.intro (by first | rfl | assumption) (And.intro (by first | assumption | exact fd_lt20 h20 (by decide) | exact md_lt (by assumption) h20 (by decide)) (And.intro (by first | rfl | assumption) ?_))) | refine And.intro (fun hc => absurd hc (by dsimp only [fd_icmp]; decide)) (fun _ => ?_) | refine And.intro (fun _ => ?_) (fun hc => absurd hc (by dsimp only [fd_icmp]; decide)) | refine And.intro (by decide) ?_ | refine md_iald (by assumption) h20 (by assumption) (by decide) rfl hi (by assumption) (by decide) (by decide) ?_ | refine ok_in _ _ _ _ _ _ (fun _ _ => ?_) (fun hc => absurd (by decide) hc) | refine ok_in _ _ _ _ _ _ (fun h1 h2 => absurd (And.intro h1 h2) (by decide)) (fun _ => ?_) | (refine ok_began _ _ h20 r13 (by assumption) (by first | omega | (simp only [List.length_append, List.length_cons, List.length_nil]; omega)) (fun τ hM => ?_)))
  refine cast (congrArg (fun z => post (some (.inl z)) τ) ?_) (h1 τ ?_)
  · simp only [av_0_0, av_1_0, av_2_0, av_3_0, av_4_0, av_5_0, Int32.add_zero]
  · rw [at_1_0]
    try simp only [at_0_0, at_1_0, at_2_0, List.append_assoc, List.cons_append, List.nil_append] at hM ⊢
    exact hM
set_option maxRecDepth 100000 in
theorem ok_mmass_1 (d i t0 : Nat) (sz ld s : Int32) {σ0 τ : fd_S} {L : List Int32} {post : Option fd_V → fd_S → Prop} (hB : Mb σ0) (hi : i < 60) (hk : σ0.2.1 10 i = nI 1) (hs : σ0.2.1 11 i = sz) (hl : σ0.2.1 12 i = ld) (hM : Md σ0 t0 L τ) (ht : t0 + L.length + 3 ≤ 60) (h1 : ∀ τ', Md σ0 t0 (L ++ (an_w 1 sz ld s 16 1 1).2) τ' → post (some (.inl (an_w 1 sz ld s 16 1 1).1)) τ') : fd_Sem (d + 2) 54 [.inr (.inr (.inl (some 9))), .inl (nI i)] τ post := by
  obtain ⟨h20, r1, r2, r3, r4, r5, r6, r7, r8, r9, r13⟩ := id hB
  intro X hX hV
  repeat (first | refine hX _ _ _ _ _ _ ?_ | refine Exists.intro _ (And.intro (by first | rfl | assumption) (And.intro (by first | assumption | exact fd_lt20 h20 (by decide) | exact md_lt (by assumption) h20 (by decide)) (And.intro (by first | rfl | assumption) ?_))) | refine And.intro (fun hc => absurd hc (by dsimp only [fd_icmp]; decide)) (fun _ => ?_) | refine And.intro (fun _ => ?_) (fun hc => absurd hc (by dsimp only [fd_icmp]; decide)) | refine And.intro (by decide) ?_ | refine md_iald (by assumption) h20 (by assumption) (by decide) rfl hi (by assumption) (by decide) (by decide) ?_ | refine ok_in _ _ _ _ _ _ (fun _ _ => ?_) (fun hc => absurd (by decide) hc) | refine ok_in _ _ _ _ _ _ (fun h1 h2 => absurd (And.intro h1 h2) (by decide)) (fun _ => ?_) | (refine ok_began _ _ h20 r13 (by assumption) (by first | omega | (simp only [List.length_append, List.length_cons, List.length_nil]; omega)) (fun τ hM => ?_)))
  refine cast (congrArg (fun z => post (some (.inl z)) τ) ?_) (h1 τ ?_)
  · simp only [av_0_1, av_1_1, av_2_1, av_3_1, av_4_1, av_5_1, Int32.add_zero]
  · rw [at_1_1]
    try simp only [at_0_1, at_1_1, at_2_1, List.append_assoc, List.cons_append, List.nil_append] at hM ⊢
    exact hM
set_option maxRecDepth 100000 in
theorem ok_mmass_2 (d i t0 : Nat) (sz ld s : Int32) {σ0 τ : fd_S} {L : List Int32} {post : Option fd_V → fd_S → Prop} (hB : Mb σ0) (hi : i < 60) (hk : σ0.2.1 10 i = nI 2) (hs : σ0.2.1 11 i = sz) (hl : σ0.2.1 12 i = ld) (hM : Md σ0 t0 L τ) (ht : t0 + L.length + 3 ≤ 60) (h1 : ∀ τ', Md σ0 t0 (L ++ (an_w 2 sz ld s 16 2 1).2) τ' → post (some (.inl (an_w 2 sz ld s 16 2 1).1)) τ') : fd_Sem (d + 2) 54 [.inr (.inr (.inl (some 9))), .inl (nI i)] τ post := by
  obtain ⟨h20, r1, r2, r3, r4, r5, r6, r7, r8, r9, r13⟩ := id hB
  intro X hX hV
  repeat (first | refine hX _ _ _ _ _ _ ?_ | refine Exists.intro _ (And.intro (by first | rfl | assumption) (And.intro (by first | assumption | exact fd_lt20 h20 (by decide) | exact md_lt (by assumption) h20 (by decide)) (And.intro (by first | rfl | assumption) ?_))) | refine And.intro (fun hc => absurd hc (by dsimp only [fd_icmp]; decide)) (fun _ => ?_) | refine And.intro (fun _ => ?_) (fun hc => absurd hc (by dsimp only [fd_icmp]; decide)) | refine And.intro (by decide) ?_ | refine md_iald (by assumption) h20 (by assumption) (by decide) rfl hi (by assumption) (by decide) (by decide) ?_ | refine ok_in _ _ _ _ _ _ (fun _ _ => ?_) (fun hc => absurd (by decide) hc) | refine ok_in _ _ _ _ _ _ (fun h1 h2 => absurd (And.intro h1 h2) (by decide)) (fun _ => ?_) | (refine ok_began _ _ h20 r13 (by assumption) (by first | omega | (simp only [List.length_append, List.length_cons, List.length_nil]; omega)) (fun τ hM => ?_)))
  refine cast (congrArg (fun z => post (some (.inl z)) τ) ?_) (h1 τ ?_)
  · simp only [av_0_2, av_1_2, av_2_2, av_3_2, av_4_2, av_5_2, Int32.add_zero]
  · rw [at_1_2]
    try simp only [at_0_2, at_1_2, at_2_2, List.append_assoc, List.cons_append, List.nil_append] at hM ⊢
    exact hM
set_option maxRecDepth 100000 in
theorem ok_mmass_3 (d i t0 : Nat) (sz ld s : Int32) {σ0 τ : fd_S} {L : List Int32} {post : Option fd_V → fd_S → Prop} (hB : Mb σ0) (hi : i < 60) (hk : σ0.2.1 10 i = nI 3) (hs : σ0.2.1 11 i = sz) (hl : σ0.2.1 12 i = ld) (hM : Md σ0 t0 L τ) (ht : t0 + L.length + 3 ≤ 60) (h1 : ∀ τ', Md σ0 t0 (L ++ (an_w 3 sz ld s 16 3 1).2) τ' → post (some (.inl (an_w 3 sz ld s 16 3 1).1)) τ') : fd_Sem (d + 2) 54 [.inr (.inr (.inl (some 9))), .inl (nI i)] τ post := by
  obtain ⟨h20, r1, r2, r3, r4, r5, r6, r7, r8, r9, r13⟩ := id hB
  intro X hX hV
  repeat (first | refine hX _ _ _ _ _ _ ?_ | refine Exists.intro _ (And.intro (by first | rfl | assumption) (And.intro (by first | assumption | exact fd_lt20 h20 (by decide) | exact md_lt (by assumption) h20 (by decide)) (And.intro (by first | rfl | assumption) ?_))) | refine And.intro (fun hc => absurd hc (by dsimp only [fd_icmp]; decide)) (fun _ => ?_) | refine And.intro (fun _ => ?_) (fun hc => absurd hc (by dsimp only [fd_icmp]; decide)) | refine And.intro (by decide) ?_ | refine md_iald (by assumption) h20 (by assumption) (by decide) rfl hi (by assumption) (by decide) (by decide) ?_ | refine ok_in _ _ _ _ _ _ (fun _ _ => ?_) (fun hc => absurd (by decide) hc) | refine ok_in _ _ _ _ _ _ (fun h1 h2 => absurd (And.intro h1 h2) (by decide)) (fun _ => ?_) | (refine ok_began _ _ h20 r13 (by assumption) (by first | omega | (simp only [List.length_append, List.length_cons, List.length_nil]; omega)) (fun τ hM => ?_)))
  refine cast (congrArg (fun z => post (some (.inl z)) τ) ?_) (h1 τ ?_)
  · simp only [av_0_3, av_1_3, av_2_3, av_3_3, av_4_3, av_5_3, Int32.add_zero]
  · rw [at_1_3]
    try simp only [at_0_3, at_1_3, at_2_3, List.append_assoc, List.cons_append, List.nil_append] at hM ⊢
    exact hM
set_option maxRecDepth 100000 in
theorem ok_mmass_4 (d i t0 : Nat) (sz ld s : Int32) {σ0 τ : fd_S} {L : List Int32} {post : Option fd_V → fd_S → Prop} (hB : Mb σ0) (hi : i < 60) (hk : σ0.2.1 10 i = nI 4) (hs : σ0.2.1 11 i = sz) (hl : σ0.2.1 12 i = ld) (hM : Md σ0 t0 L τ) (ht : t0 + L.length + 3 ≤ 60) (h1 : ∀ τ', Md σ0 t0 (L ++ (an_w 4 sz ld s 16 4 1).2) τ' → post (some (.inl (an_w 4 sz ld s 16 4 1).1)) τ') : fd_Sem (d + 2) 54 [.inr (.inr (.inl (some 9))), .inl (nI i)] τ post := by
  obtain ⟨h20, r1, r2, r3, r4, r5, r6, r7, r8, r9, r13⟩ := id hB
  intro X hX hV
  repeat (first | refine hX _ _ _ _ _ _ ?_ | refine Exists.intro _ (And.intro (by first | rfl | assumption) (And.intro (by first | assumption | exact fd_lt20 h20 (by decide) | exact md_lt (by assumption) h20 (by decide)) (And.intro (by first | rfl | assumption) ?_))) | refine And.intro (fun hc => absurd hc (by dsimp only [fd_icmp]; decide)) (fun _ => ?_) | refine And.intro (fun _ => ?_) (fun hc => absurd hc (by dsimp only [fd_icmp]; decide)) | refine And.intro (by decide) ?_ | refine md_iald (by assumption) h20 (by assumption) (by decide) rfl hi (by assumption) (by decide) (by decide) ?_ | refine ok_in _ _ _ _ _ _ (fun _ _ => ?_) (fun hc => absurd (by decide) hc) | refine ok_in _ _ _ _ _ _ (fun h1 h2 => absurd (And.intro h1 h2) (by decide)) (fun _ => ?_) | (refine ok_began _ _ h20 r13 (by assumption) (by first | omega | (simp only [List.length_append, List.length_cons, List.length_nil]; omega)) (fun τ hM => ?_)))
  refine cast (congrArg (fun z => post (some (.inl z)) τ) ?_) (h1 τ ?_)
  · simp only [av_0_4, av_1_4, av_2_4, av_3_4, av_4_4, av_5_4, Int32.add_zero]
  · rw [at_1_4]
    try simp only [at_0_4, at_1_4, at_2_4, List.append_assoc, List.cons_append, List.nil_append] at hM ⊢
    exact hM
set_option maxRecDepth 100000 in
theorem ok_mmass_5 (d i t0 : Nat) (sz ld s : Int32) {σ0 τ : fd_S} {L : List Int32} {post : Option fd_V → fd_S → Prop} (hB : Mb σ0) (hi : i < 60) (hk : σ0.2.1 10 i = nI 5) (hs : σ0.2.1 11 i = sz) (hl : σ0.2.1 12 i = ld) (hM : Md σ0 t0 L τ) (ht : t0 + L.length + 3 ≤ 60) (h1 : ∀ τ', Md σ0 t0 (L ++ (an_w 5 sz ld s 16 5 1).2) τ' → post (some (.inl (an_w 5 sz ld s 16 5 1).1)) τ') : fd_Sem (d + 2) 54 [.inr (.inr (.inl (some 9))), .inl (nI i)] τ post := by
  obtain ⟨h20, r1, r2, r3, r4, r5, r6, r7, r8, r9, r13⟩ := id hB
  intro X hX hV
  repeat (first | refine hX _ _ _ _ _ _ ?_ | refine Exists.intro _ (And.intro (by first | rfl | assumption) (And.intro (by first | assumption | exact fd_lt20 h20 (by decide) | exact md_lt (by assumption) h20 (by decide)) (And.intro (by first | rfl | assumption) ?_))) | refine And.intro (fun hc => absurd hc (by dsimp only [fd_icmp]; decide)) (fun _ => ?_) | refine And.intro (fun _ => ?_) (fun hc => absurd hc (by dsimp only [fd_icmp]; decide)) | refine And.intro (by decide) ?_ | refine md_iald (by assumption) h20 (by assumption) (by decide) rfl hi (by assumption) (by decide) (by decide) ?_ | refine ok_in _ _ _ _ _ _ (fun _ _ => ?_) (fun hc => absurd (by decide) hc) | refine ok_in _ _ _ _ _ _ (fun h1 h2 => absurd (And.intro h1 h2) (by decide)) (fun _ => ?_) | (refine ok_began _ _ h20 r13 (by assumption) (by first | omega | (simp only [List.length_append, List.length_cons, List.length_nil]; omega)) (fun τ hM => ?_)))
  refine cast (congrArg (fun z => post (some (.inl z)) τ) ?_) (h1 τ ?_)
  · simp only [av_0_5, av_1_5, av_2_5, av_3_5, av_4_5, av_5_5, Int32.add_zero]
  · rw [at_1_5]
    try simp only [at_0_5, at_1_5, at_2_5, List.append_assoc, List.cons_append, List.nil_append] at hM ⊢
    exact hM
set_option maxRecDepth 100000 in
theorem ok_mmass_6 (d i t0 : Nat) (sz ld s : Int32) {σ0 τ : fd_S} {L : List Int32} {post : Option fd_V → fd_S → Prop} (hB : Mb σ0) (hi : i < 60) (hk : σ0.2.1 10 i = nI 6) (hs : σ0.2.1 11 i = sz) (hl : σ0.2.1 12 i = ld) (hM : Md σ0 t0 L τ) (ht : t0 + L.length + 3 ≤ 60) (h1 : ∀ τ', Md σ0 t0 (L ++ (an_w 6 sz ld s 16 6 1).2) τ' → post (some (.inl (an_w 6 sz ld s 16 6 1).1)) τ') : fd_Sem (d + 2) 54 [.inr (.inr (.inl (some 9))), .inl (nI i)] τ post := by
  obtain ⟨h20, r1, r2, r3, r4, r5, r6, r7, r8, r9, r13⟩ := id hB
  intro X hX hV
  repeat (first | refine hX _ _ _ _ _ _ ?_ | refine Exists.intro _ (And.intro (by first | rfl | assumption) (And.intro (by first | assumption | exact fd_lt20 h20 (by decide) | exact md_lt (by assumption) h20 (by decide)) (And.intro (by first | rfl | assumption) ?_))) | refine And.intro (fun hc => absurd hc (by dsimp only [fd_icmp]; decide)) (fun _ => ?_) | refine And.intro (fun _ => ?_) (fun hc => absurd hc (by dsimp only [fd_icmp]; decide)) | refine And.intro (by decide) ?_ | refine md_iald (by assumption) h20 (by assumption) (by decide) rfl hi (by assumption) (by decide) (by decide) ?_ | refine ok_in _ _ _ _ _ _ (fun _ _ => ?_) (fun hc => absurd (by decide) hc) | refine ok_in _ _ _ _ _ _ (fun h1 h2 => absurd (And.intro h1 h2) (by decide)) (fun _ => ?_) | (refine ok_began _ _ h20 r13 (by assumption) (by first | omega | (simp only [List.length_append, List.length_cons, List.length_nil]; omega)) (fun τ hM => ?_)))
  refine cast (congrArg (fun z => post (some (.inl z)) τ) ?_) (h1 τ ?_)
  · simp only [av_0_6, av_1_6, av_2_6, av_3_6, av_4_6, av_5_6, Int32.add_zero]
  · rw [at_1_6]
    try simp only [at_0_6, at_1_6, at_2_6, List.append_assoc, List.cons_append, List.nil_append] at hM ⊢
    exact hM
end
section
set_option maxRecDepth 100000 in
theorem ok_mmin_0 (d i t0 : Nat) (sz ld s : Int32) {σ0 τ : fd_S} {L : List Int32} {post : Option fd_V → fd_S → Prop} (hB : Mb σ0) (hi : i < 60) (hk : σ0.2.1 10 i = nI 0) (hs : σ0.2.1 11 i = sz) (hl : σ0.2.1 12 i = ld) (hM : Md σ0 t0 L τ) (ht : t0 + L.length + 5 ≤ 60) (h1 : ∀ τ', Md σ0 t0 (L ++ (an_w 0 sz ld s 16 0 2).2) τ' → post (some (.inl (an_w 0 sz ld s 16 0 2).1)) τ') : fd_Sem (d + 3) 55 [.inr (.inr (.inl (some 9))), .inl (nI i)] τ post := by
  obtain ⟨h20, r1, r2, r3, r4, r5, r6, r7, r8, r9, r13⟩ := id hB
  have e0 : (an_w 0 sz ld s 16 0 0).2.length = 1 := rfl
  have e1 : (an_w 0 sz ld s 16 0 1).2.length = 1 := rfl
  have e2 : (an_w 0 sz ld s 16 0 2).2.length = 2 := rfl
  intro X hX hV
  repeat (first | refine hX _ _ _ _ _ _ ?_ | refine Exists.intro _ (And.intro (by first | rfl | assumption) (And.intro (by first | assumption | exact fd_lt20 h20 (by decide) | exact md_lt (by assumption) h20 (by decide)) (And.intro (by first | rfl | assumption) ?_))) | refine And.intro (fun hc => absurd hc (by dsimp only [fd_icmp]; decide)) (fun _ => ?_) | refine And.intro (fun _ => ?_) (fun hc => absurd hc (by dsimp only [fd_icmp]; decide)) | refine And.intro (by decide) ?_ | refine md_iald (by assumption) h20 (by assumption) (by decide) rfl hi (by assumption) (by decide) (by decide) ?_ | refine ok_in _ _ _ _ _ _ (fun _ _ => ?_) (fun hc => absurd (by decide) hc) | refine ok_in _ _ _ _ _ _ (fun h1 h2 => absurd (And.intro h1 h2) (by decide)) (fun _ => ?_) | (refine ok_began _ _ h20 r13 (by assumption) (by first | omega | (simp only [List.length_append, List.length_cons, List.length_nil]; omega)) (fun τ hM => ?_)) | (refine ok_mlen_0 _ i t0 sz ld s hB hi hk hs hl (by assumption) (by first | omega | (simp only [List.length_append, List.length_cons, List.length_nil]; omega)) (fun τ hM => ?_)))
  refine cast (congrArg (fun z => post (some (.inl z)) τ) ?_) (h1 τ ?_)
  · simp only [av_0_0, av_1_0, av_2_0, av_3_0, av_4_0, av_5_0, Int32.add_zero]
  · rw [at_2_0]
    try simp only [at_0_0, at_1_0, at_2_0, List.append_assoc, List.cons_append, List.nil_append] at hM ⊢
    exact hM
set_option maxRecDepth 100000 in
theorem ok_mmin_1 (d i t0 : Nat) (sz ld s : Int32) {σ0 τ : fd_S} {L : List Int32} {post : Option fd_V → fd_S → Prop} (hB : Mb σ0) (hi : i < 60) (hk : σ0.2.1 10 i = nI 1) (hs : σ0.2.1 11 i = sz) (hl : σ0.2.1 12 i = ld) (hM : Md σ0 t0 L τ) (ht : t0 + L.length + 5 ≤ 60) (h1 : ∀ τ', Md σ0 t0 (L ++ (an_w 1 sz ld s 16 1 2).2) τ' → post (some (.inl (an_w 1 sz ld s 16 1 2).1)) τ') : fd_Sem (d + 3) 55 [.inr (.inr (.inl (some 9))), .inl (nI i)] τ post := by
  obtain ⟨h20, r1, r2, r3, r4, r5, r6, r7, r8, r9, r13⟩ := id hB
  have e0 : (an_w 1 sz ld s 16 1 0).2.length = 1 := rfl
  have e1 : (an_w 1 sz ld s 16 1 1).2.length = 2 := rfl
  have e2 : (an_w 1 sz ld s 16 1 2).2.length = 2 := rfl
  intro X hX hV
  repeat (first | refine hX _ _ _ _ _ _ ?_ | refine Exists.intro _ (And.intro (by first | rfl | assumption) (And.intro (by first | assumption | exact fd_lt20 h20 (by decide) | exact md_lt (by assumption) h20 (by decide)) (And.intro (by first | rfl | assumption) ?_))) | refine And.intro (fun hc => absurd hc (by dsimp only [fd_icmp]; decide)) (fun _ => ?_) | refine And.intro (fun _ => ?_) (fun hc => absurd hc (by dsimp only [fd_icmp]; decide)) | refine And.intro (by decide) ?_ | refine md_iald (by assumption) h20 (by assumption) (by decide) rfl hi (by assumption) (by decide) (by decide) ?_ | refine ok_in _ _ _ _ _ _ (fun _ _ => ?_) (fun hc => absurd (by decide) hc) | refine ok_in _ _ _ _ _ _ (fun h1 h2 => absurd (And.intro h1 h2) (by decide)) (fun _ => ?_) | (refine ok_began _ _ h20 r13 (by assumption) (by first | omega | (simp only [List.length_append, List.length_cons, List.length_nil]; omega)) (fun τ hM => ?_)) | (refine ok_mlen_1 _ i t0 sz ld s hB hi hk hs hl (by assumption) (by first | omega | (simp only [List.length_append, List.length_cons, List.length_nil]; omega)) (fun τ hM => ?_)))
  refine cast (congrArg (fun z => post (some (.inl z)) τ) ?_) (h1 τ ?_)
  · simp only [av_0_1, av_1_1, av_2_1, av_3_1, av_4_1, av_5_1, Int32.add_zero]
  · rw [at_2_1]
    try simp only [at_0_1, at_1_1, at_2_1, List.append_assoc, List.cons_append, List.nil_append] at hM ⊢
    exact hM
set_option maxRecDepth 100000 in
theorem ok_mmin_2 (d i t0 : Nat) (sz ld s : Int32) {σ0 τ : fd_S} {L : List Int32} {post : Option fd_V → fd_S → Prop} (hB : Mb σ0) (hi : i < 60) (hk : σ0.2.1 10 i = nI 2) (hs : σ0.2.1 11 i = sz) (hl : σ0.2.1 12 i = ld) (hM : Md σ0 t0 L τ) (ht : t0 + L.length + 5 ≤ 60) (h1 : ∀ τ', Md σ0 t0 (L ++ (an_w 2 sz ld s 16 2 2).2) τ' → post (some (.inl (an_w 2 sz ld s 16 2 2).1)) τ') : fd_Sem (d + 3) 55 [.inr (.inr (.inl (some 9))), .inl (nI i)] τ post := by
  obtain ⟨h20, r1, r2, r3, r4, r5, r6, r7, r8, r9, r13⟩ := id hB
  have e0 : (an_w 2 sz ld s 16 2 0).2.length = 2 := rfl
  have e1 : (an_w 2 sz ld s 16 2 1).2.length = 2 := rfl
  have e2 : (an_w 2 sz ld s 16 2 2).2.length = 3 := rfl
  intro X hX hV
  repeat (first | refine hX _ _ _ _ _ _ ?_ | refine Exists.intro _ (And.intro (by first | rfl | assumption) (And.intro (by first | assumption | exact fd_lt20 h20 (by decide) | exact md_lt (by assumption) h20 (by decide)) (And.intro (by first | rfl | assumption) ?_))) | refine And.intro (fun hc => absurd hc (by dsimp only [fd_icmp]; decide)) (fun _ => ?_) | refine And.intro (fun _ => ?_) (fun hc => absurd hc (by dsimp only [fd_icmp]; decide)) | refine And.intro (by decide) ?_ | refine md_iald (by assumption) h20 (by assumption) (by decide) rfl hi (by assumption) (by decide) (by decide) ?_ | refine ok_in _ _ _ _ _ _ (fun _ _ => ?_) (fun hc => absurd (by decide) hc) | refine ok_in _ _ _ _ _ _ (fun h1 h2 => absurd (And.intro h1 h2) (by decide)) (fun _ => ?_) | (refine ok_began _ _ h20 r13 (by assumption) (by first | omega | (simp only [List.length_append, List.length_cons, List.length_nil]; omega)) (fun τ hM => ?_)) | (refine ok_mlen_2 _ i t0 sz ld s hB hi hk hs hl (by assumption) (by first | omega | (simp only [List.length_append, List.length_cons, List.length_nil]; omega)) (fun τ hM => ?_)))
  refine cast (congrArg (fun z => post (some (.inl z)) τ) ?_) (h1 τ ?_)
  · simp only [av_0_2, av_1_2, av_2_2, av_3_2, av_4_2, av_5_2, Int32.add_zero]
  · rw [at_2_2]
    try simp only [at_0_2, at_1_2, at_2_2, List.append_assoc, List.cons_append, List.nil_append] at hM ⊢
    exact hM
set_option maxRecDepth 100000 in
theorem ok_mmin_3 (d i t0 : Nat) (sz ld s : Int32) {σ0 τ : fd_S} {L : List Int32} {post : Option fd_V → fd_S → Prop} (hB : Mb σ0) (hi : i < 60) (hk : σ0.2.1 10 i = nI 3) (hs : σ0.2.1 11 i = sz) (hl : σ0.2.1 12 i = ld) (hM : Md σ0 t0 L τ) (ht : t0 + L.length + 5 ≤ 60) (h1 : ∀ τ', Md σ0 t0 (L ++ (an_w 3 sz ld s 16 3 2).2) τ' → post (some (.inl (an_w 3 sz ld s 16 3 2).1)) τ') : fd_Sem (d + 3) 55 [.inr (.inr (.inl (some 9))), .inl (nI i)] τ post := by
  obtain ⟨h20, r1, r2, r3, r4, r5, r6, r7, r8, r9, r13⟩ := id hB
  have e0 : (an_w 3 sz ld s 16 3 0).2.length = 2 := rfl
  have e1 : (an_w 3 sz ld s 16 3 1).2.length = 3 := rfl
  have e2 : (an_w 3 sz ld s 16 3 2).2.length = 3 := rfl
  intro X hX hV
  repeat (first | refine hX _ _ _ _ _ _ ?_ | refine Exists.intro _ (And.intro (by first | rfl | assumption) (And.intro (by first | assumption | exact fd_lt20 h20 (by decide) | exact md_lt (by assumption) h20 (by decide)) (And.intro (by first | rfl | assumption) ?_))) | refine And.intro (fun hc => absurd hc (by dsimp only [fd_icmp]; decide)) (fun _ => ?_) | refine And.intro (fun _ => ?_) (fun hc => absurd hc (by dsimp only [fd_icmp]; decide)) | refine And.intro (by decide) ?_ | refine md_iald (by assumption) h20 (by assumption) (by decide) rfl hi (by assumption) (by decide) (by decide) ?_ | refine ok_in _ _ _ _ _ _ (fun _ _ => ?_) (fun hc => absurd (by decide) hc) | refine ok_in _ _ _ _ _ _ (fun h1 h2 => absurd (And.intro h1 h2) (by decide)) (fun _ => ?_) | (refine ok_began _ _ h20 r13 (by assumption) (by first | omega | (simp only [List.length_append, List.length_cons, List.length_nil]; omega)) (fun τ hM => ?_)) | (refine ok_mlen_3 _ i t0 sz ld s hB hi hk hs hl (by assumption) (by first | omega | (simp only [List.length_append, List.length_cons, List.length_nil]; omega)) (fun τ hM => ?_)))
  refine cast (congrArg (fun z => post (some (.inl z)) τ) ?_) (h1 τ ?_)
  · simp only [av_0_3, av_1_3, av_2_3, av_3_3, av_4_3, av_5_3, Int32.add_zero]
  · rw [at_2_3]
    try simp only [at_0_3, at_1_3, at_2_3, List.append_assoc, List.cons_append, List.nil_append] at hM ⊢
    exact hM
set_option maxRecDepth 100000 in
theorem ok_mmin_4 (d i t0 : Nat) (sz ld s : Int32) {σ0 τ : fd_S} {L : List Int32} {post : Option fd_V → fd_S → Prop} (hB : Mb σ0) (hi : i < 60) (hk : σ0.2.1 10 i = nI 4) (hs : σ0.2.1 11 i = sz) (hl : σ0.2.1 12 i = ld) (hM : Md σ0 t0 L τ) (ht : t0 + L.length + 5 ≤ 60) (h1 : ∀ τ', Md σ0 t0 (L ++ (an_w 4 sz ld s 16 4 2).2) τ' → post (some (.inl (an_w 4 sz ld s 16 4 2).1)) τ') : fd_Sem (d + 3) 55 [.inr (.inr (.inl (some 9))), .inl (nI i)] τ post := by
  obtain ⟨h20, r1, r2, r3, r4, r5, r6, r7, r8, r9, r13⟩ := id hB
  have e0 : (an_w 4 sz ld s 16 4 0).2.length = 3 := rfl
  have e1 : (an_w 4 sz ld s 16 4 1).2.length = 3 := rfl
  have e2 : (an_w 4 sz ld s 16 4 2).2.length = 5 := rfl
  intro X hX hV
  repeat (first | refine hX _ _ _ _ _ _ ?_ | refine Exists.intro _ (And.intro (by first | rfl | assumption) (And.intro (by first | assumption | exact fd_lt20 h20 (by decide) | exact md_lt (by assumption) h20 (by decide)) (And.intro (by first | rfl | assumption) ?_))) | refine And.intro (fun hc => absurd hc (by dsimp only [fd_icmp]; decide)) (fun _ => ?_) | refine And.intro (fun _ => ?_) (fun hc => absurd hc (by dsimp only [fd_icmp]; decide)) | refine And.intro (by decide) ?_ | refine md_iald (by assumption) h20 (by assumption) (by decide) rfl hi (by assumption) (by decide) (by decide) ?_ | refine ok_in _ _ _ _ _ _ (fun _ _ => ?_) (fun hc => absurd (by decide) hc) | refine ok_in _ _ _ _ _ _ (fun h1 h2 => absurd (And.intro h1 h2) (by decide)) (fun _ => ?_) | (refine ok_began _ _ h20 r13 (by assumption) (by first | omega | (simp only [List.length_append, List.length_cons, List.length_nil]; omega)) (fun τ hM => ?_)) | (refine ok_mlen_4 _ i t0 sz ld s hB hi hk hs hl (by assumption) (by first | omega | (simp only [List.length_append, List.length_cons, List.length_nil]; omega)) (fun τ hM => ?_)))
  refine cast (congrArg (fun z => post (some (.inl z)) τ) ?_) (h1 τ ?_)
  · simp only [av_0_4, av_1_4, av_2_4, av_3_4, av_4_4, av_5_4, Int32.add_zero]
  · rw [at_2_4]
    try simp only [at_0_4, at_1_4, at_2_4, List.append_assoc, List.cons_append, List.nil_append] at hM ⊢
    exact hM
set_option maxRecDepth 100000 in
theorem ok_mmin_5 (d i t0 : Nat) (sz ld s : Int32) {σ0 τ : fd_S} {L : List Int32} {post : Option fd_V → fd_S → Prop} (hB : Mb σ0) (hi : i < 60) (hk : σ0.2.1 10 i = nI 5) (hs : σ0.2.1 11 i = sz) (hl : σ0.2.1 12 i = ld) (hM : Md σ0 t0 L τ) (ht : t0 + L.length + 5 ≤ 60) (h1 : ∀ τ', Md σ0 t0 (L ++ (an_w 5 sz ld s 16 5 2).2) τ' → post (some (.inl (an_w 5 sz ld s 16 5 2).1)) τ') : fd_Sem (d + 3) 55 [.inr (.inr (.inl (some 9))), .inl (nI i)] τ post := by
  obtain ⟨h20, r1, r2, r3, r4, r5, r6, r7, r8, r9, r13⟩ := id hB
  have e0 : (an_w 5 sz ld s 16 5 0).2.length = 1 := rfl
  have e1 : (an_w 5 sz ld s 16 5 1).2.length = 1 := rfl
  have e2 : (an_w 5 sz ld s 16 5 2).2.length = 2 := rfl
  intro X hX hV
  repeat (first | refine hX _ _ _ _ _ _ ?_ | refine Exists.intro _ (And.intro (by first | rfl | assumption) (And.intro (by first | assumption | exact fd_lt20 h20 (by decide) | exact md_lt (by assumption) h20 (by decide)) (And.intro (by first | rfl | assumption) ?_))) | refine And.intro (fun hc => absurd hc (by dsimp only [fd_icmp]; decide)) (fun _ => ?_) | refine And.intro (fun _ => ?_) (fun hc => absurd hc (by dsimp only [fd_icmp]; decide)) | refine And.intro (by decide) ?_ | refine md_iald (by assumption) h20 (by assumption) (by decide) rfl hi (by assumption) (by decide) (by decide) ?_ | refine ok_in _ _ _ _ _ _ (fun _ _ => ?_) (fun hc => absurd (by decide) hc) | refine ok_in _ _ _ _ _ _ (fun h1 h2 => absurd (And.intro h1 h2) (by decide)) (fun _ => ?_) | (refine ok_began _ _ h20 r13 (by assumption) (by first | omega | (simp only [List.length_append, List.length_cons, List.length_nil]; omega)) (fun τ hM => ?_)) | (refine ok_mlen_5 _ i t0 sz ld s hB hi hk hs hl (by assumption) (by first | omega | (simp only [List.length_append, List.length_cons, List.length_nil]; omega)) (fun τ hM => ?_)))
  refine cast (congrArg (fun z => post (some (.inl z)) τ) ?_) (h1 τ ?_)
  · simp only [av_0_5, av_1_5, av_2_5, av_3_5, av_4_5, av_5_5, Int32.add_zero]
  · rw [at_2_5]
    try simp only [at_0_5, at_1_5, at_2_5, List.append_assoc, List.cons_append, List.nil_append] at hM ⊢
    exact hM
set_option maxRecDepth 100000 in
theorem ok_mmin_6 (d i t0 : Nat) (sz ld s : Int32) {σ0 τ : fd_S} {L : List Int32} {post : Option fd_V → fd_S → Prop} (hB : Mb σ0) (hi : i < 60) (hk : σ0.2.1 10 i = nI 6) (hs : σ0.2.1 11 i = sz) (hl : σ0.2.1 12 i = ld) (hM : Md σ0 t0 L τ) (ht : t0 + L.length + 5 ≤ 60) (h1 : ∀ τ', Md σ0 t0 (L ++ (an_w 6 sz ld s 16 6 2).2) τ' → post (some (.inl (an_w 6 sz ld s 16 6 2).1)) τ') : fd_Sem (d + 3) 55 [.inr (.inr (.inl (some 9))), .inl (nI i)] τ post := by
  obtain ⟨h20, r1, r2, r3, r4, r5, r6, r7, r8, r9, r13⟩ := id hB
  have e0 : (an_w 6 sz ld s 16 6 0).2.length = 2 := rfl
  have e1 : (an_w 6 sz ld s 16 6 1).2.length = 2 := rfl
  have e2 : (an_w 6 sz ld s 16 6 2).2.length = 3 := rfl
  intro X hX hV
  repeat (first | refine hX _ _ _ _ _ _ ?_ | refine Exists.intro _ (And.intro (by first | rfl | assumption) (And.intro (by first | assumption | exact fd_lt20 h20 (by decide) | exact md_lt (by assumption) h20 (by decide)) (And.intro (by first | rfl | assumption) ?_))) | refine And.intro (fun hc => absurd hc (by dsimp only [fd_icmp]; decide)) (fun _ => ?_) | refine And.intro (fun _ => ?_) (fun hc => absurd hc (by dsimp only [fd_icmp]; decide)) | refine And.intro (by decide) ?_ | refine md_iald (by assumption) h20 (by assumption) (by decide) rfl hi (by assumption) (by decide) (by decide) ?_ | refine ok_in _ _ _ _ _ _ (fun _ _ => ?_) (fun hc => absurd (by decide) hc) | refine ok_in _ _ _ _ _ _ (fun h1 h2 => absurd (And.intro h1 h2) (by decide)) (fun _ => ?_) | (refine ok_began _ _ h20 r13 (by assumption) (by first | omega | (simp only [List.length_append, List.length_cons, List.length_nil]; omega)) (fun τ hM => ?_)) | (refine ok_mlen_6 _ i t0 sz ld s hB hi hk hs hl (by assumption) (by first | omega | (simp only [List.length_append, List.length_cons, List.length_nil]; omega)) (fun τ hM => ?_)))
  refine cast (congrArg (fun z => post (some (.inl z)) τ) ?_) (h1 τ ?_)
  · simp only [av_0_6, av_1_6, av_2_6, av_3_6, av_4_6, av_5_6, Int32.add_zero]
  · rw [at_2_6]
    try simp only [at_0_6, at_1_6, at_2_6, List.append_assoc, List.cons_append, List.nil_append] at hM ⊢
    exact hM
end
section
set_option maxRecDepth 100000 in
theorem ok_mfare_0 (d i t0 : Nat) (sz ld s : Int32) {σ0 τ : fd_S} {L : List Int32} {post : Option fd_V → fd_S → Prop} (hB : Mb σ0) (hi : i < 60) (hk : σ0.2.1 10 i = nI 0) (hs : σ0.2.1 11 i = sz) (hl : σ0.2.1 12 i = ld) (hM : Md σ0 t0 L τ) (ht : t0 + L.length + 10 ≤ 60) (h1 : ∀ τ', Md σ0 t0 (L ++ (an_w 0 sz ld s 16 0 3).2) τ' → post (some (.inl (an_w 0 sz ld s 16 0 3).1)) τ') : fd_Sem (d + 3) 56 [.inr (.inr (.inl (some 9))), .inl (nI i), .inl s] τ post := by
  obtain ⟨h20, r1, r2, r3, r4, r5, r6, r7, r8, r9, r13⟩ := id hB
  have e0 : (an_w 0 sz ld s 16 0 0).2.length = 1 := rfl
  have e1 : (an_w 0 sz ld s 16 0 1).2.length = 1 := rfl
  have e2 : (an_w 0 sz ld s 16 0 2).2.length = 2 := rfl
  intro X hX hV
  repeat (first | refine hX _ _ _ _ _ _ ?_ | refine Exists.intro _ (And.intro (by first | rfl | assumption) (And.intro (by first | assumption | exact fd_lt20 h20 (by decide) | exact md_lt (by assumption) h20 (by decide)) (And.intro (by first | rfl | assumption) ?_))) | refine And.intro (fun hc => absurd hc (by dsimp only [fd_icmp]; decide)) (fun _ => ?_) | refine And.intro (fun _ => ?_) (fun hc => absurd hc (by dsimp only [fd_icmp]; decide)) | refine And.intro (by decide) ?_ | refine md_iald (by assumption) h20 (by assumption) (by decide) rfl hi (by assumption) (by decide) (by decide) ?_ | refine ok_in _ _ _ _ _ _ (fun _ _ => ?_) (fun hc => absurd (by decide) hc) | refine ok_in _ _ _ _ _ _ (fun h1 h2 => absurd (And.intro h1 h2) (by decide)) (fun _ => ?_) | (refine ok_began _ _ h20 r13 (by assumption) (by first | omega | (simp only [List.length_append, List.length_cons, List.length_nil]; omega)) (fun τ hM => ?_)) | (refine ok_mlen_0 _ i t0 sz ld s hB hi hk hs hl (by assumption) (by first | omega | (simp only [List.length_append, List.length_cons, List.length_nil]; omega)) (fun τ hM => ?_)) | (refine ok_mmass_0 _ i t0 sz ld s hB hi hk hs hl (by assumption) (by first | omega | (simp only [List.length_append, List.length_cons, List.length_nil]; omega)) (fun τ hM => ?_)))
  refine cast (congrArg (fun z => post (some (.inl z)) τ) ?_) (h1 τ ?_)
  · simp only [av_0_0, av_1_0, av_2_0, av_3_0, av_4_0, av_5_0, Int32.add_zero]
  · rw [at_3_0]
    try simp only [at_0_0, at_1_0, at_2_0, List.append_assoc, List.cons_append, List.nil_append] at hM ⊢
    exact hM
set_option maxRecDepth 100000 in
theorem ok_mfare_1 (d i t0 : Nat) (sz ld s : Int32) {σ0 τ : fd_S} {L : List Int32} {post : Option fd_V → fd_S → Prop} (hB : Mb σ0) (hi : i < 60) (hk : σ0.2.1 10 i = nI 1) (hs : σ0.2.1 11 i = sz) (hl : σ0.2.1 12 i = ld) (hM : Md σ0 t0 L τ) (ht : t0 + L.length + 10 ≤ 60) (h1 : ∀ τ', Md σ0 t0 (L ++ (an_w 1 sz ld s 16 1 3).2) τ' → post (some (.inl (an_w 1 sz ld s 16 1 3).1)) τ') : fd_Sem (d + 3) 56 [.inr (.inr (.inl (some 9))), .inl (nI i), .inl s] τ post := by
  obtain ⟨h20, r1, r2, r3, r4, r5, r6, r7, r8, r9, r13⟩ := id hB
  have e0 : (an_w 1 sz ld s 16 1 0).2.length = 1 := rfl
  have e1 : (an_w 1 sz ld s 16 1 1).2.length = 2 := rfl
  have e2 : (an_w 1 sz ld s 16 1 2).2.length = 2 := rfl
  intro X hX hV
  repeat (first | refine hX _ _ _ _ _ _ ?_ | refine Exists.intro _ (And.intro (by first | rfl | assumption) (And.intro (by first | assumption | exact fd_lt20 h20 (by decide) | exact md_lt (by assumption) h20 (by decide)) (And.intro (by first | rfl | assumption) ?_))) | refine And.intro (fun hc => absurd hc (by dsimp only [fd_icmp]; decide)) (fun _ => ?_) | refine And.intro (fun _ => ?_) (fun hc => absurd hc (by dsimp only [fd_icmp]; decide)) | refine And.intro (by decide) ?_ | refine md_iald (by assumption) h20 (by assumption) (by decide) rfl hi (by assumption) (by decide) (by decide) ?_ | refine ok_in _ _ _ _ _ _ (fun _ _ => ?_) (fun hc => absurd (by decide) hc) | refine ok_in _ _ _ _ _ _ (fun h1 h2 => absurd (And.intro h1 h2) (by decide)) (fun _ => ?_) | (refine ok_began _ _ h20 r13 (by assumption) (by first | omega | (simp only [List.length_append, List.length_cons, List.length_nil]; omega)) (fun τ hM => ?_)) | (refine ok_mlen_1 _ i t0 sz ld s hB hi hk hs hl (by assumption) (by first | omega | (simp only [List.length_append, List.length_cons, List.length_nil]; omega)) (fun τ hM => ?_)) | (refine ok_mmass_1 _ i t0 sz ld s hB hi hk hs hl (by assumption) (by first | omega | (simp only [List.length_append, List.length_cons, List.length_nil]; omega)) (fun τ hM => ?_)))
  refine cast (congrArg (fun z => post (some (.inl z)) τ) ?_) (h1 τ ?_)
  · simp only [av_0_1, av_1_1, av_2_1, av_3_1, av_4_1, av_5_1, Int32.add_zero]
  · rw [at_3_1]
    try simp only [at_0_1, at_1_1, at_2_1, List.append_assoc, List.cons_append, List.nil_append] at hM ⊢
    exact hM
set_option maxRecDepth 100000 in
theorem ok_mfare_2 (d i t0 : Nat) (sz ld s : Int32) {σ0 τ : fd_S} {L : List Int32} {post : Option fd_V → fd_S → Prop} (hB : Mb σ0) (hi : i < 60) (hk : σ0.2.1 10 i = nI 2) (hs : σ0.2.1 11 i = sz) (hl : σ0.2.1 12 i = ld) (hM : Md σ0 t0 L τ) (ht : t0 + L.length + 10 ≤ 60) (h1 : ∀ τ', Md σ0 t0 (L ++ (an_w 2 sz ld s 16 2 3).2) τ' → post (some (.inl (an_w 2 sz ld s 16 2 3).1)) τ') : fd_Sem (d + 3) 56 [.inr (.inr (.inl (some 9))), .inl (nI i), .inl s] τ post := by
  obtain ⟨h20, r1, r2, r3, r4, r5, r6, r7, r8, r9, r13⟩ := id hB
  have e0 : (an_w 2 sz ld s 16 2 0).2.length = 2 := rfl
  have e1 : (an_w 2 sz ld s 16 2 1).2.length = 2 := rfl
  have e2 : (an_w 2 sz ld s 16 2 2).2.length = 3 := rfl
  intro X hX hV
  repeat (first | refine hX _ _ _ _ _ _ ?_ | refine Exists.intro _ (And.intro (by first | rfl | assumption) (And.intro (by first | assumption | exact fd_lt20 h20 (by decide) | exact md_lt (by assumption) h20 (by decide)) (And.intro (by first | rfl | assumption) ?_))) | refine And.intro (fun hc => absurd hc (by dsimp only [fd_icmp]; decide)) (fun _ => ?_) | refine And.intro (fun _ => ?_) (fun hc => absurd hc (by dsimp only [fd_icmp]; decide)) | refine And.intro (by decide) ?_ | refine md_iald (by assumption) h20 (by assumption) (by decide) rfl hi (by assumption) (by decide) (by decide) ?_ | refine ok_in _ _ _ _ _ _ (fun _ _ => ?_) (fun hc => absurd (by decide) hc) | refine ok_in _ _ _ _ _ _ (fun h1 h2 => absurd (And.intro h1 h2) (by decide)) (fun _ => ?_) | (refine ok_began _ _ h20 r13 (by assumption) (by first | omega | (simp only [List.length_append, List.length_cons, List.length_nil]; omega)) (fun τ hM => ?_)) | (refine ok_mlen_2 _ i t0 sz ld s hB hi hk hs hl (by assumption) (by first | omega | (simp only [List.length_append, List.length_cons, List.length_nil]; omega)) (fun τ hM => ?_)) | (refine ok_mmass_2 _ i t0 sz ld s hB hi hk hs hl (by assumption) (by first | omega | (simp only [List.length_append, List.length_cons, List.length_nil]; omega)) (fun τ hM => ?_)))
  refine cast (congrArg (fun z => post (some (.inl z)) τ) ?_) (h1 τ ?_)
  · simp only [av_0_2, av_1_2, av_2_2, av_3_2, av_4_2, av_5_2, Int32.add_zero]
  · rw [at_3_2]
    try simp only [at_0_2, at_1_2, at_2_2, List.append_assoc, List.cons_append, List.nil_append] at hM ⊢
    exact hM
set_option maxRecDepth 100000 in
theorem ok_mfare_3 (d i t0 : Nat) (sz ld s : Int32) {σ0 τ : fd_S} {L : List Int32} {post : Option fd_V → fd_S → Prop} (hB : Mb σ0) (hi : i < 60) (hk : σ0.2.1 10 i = nI 3) (hs : σ0.2.1 11 i = sz) (hl : σ0.2.1 12 i = ld) (hM : Md σ0 t0 L τ) (ht : t0 + L.length + 10 ≤ 60) (h1 : ∀ τ', Md σ0 t0 (L ++ (an_w 3 sz ld s 16 3 3).2) τ' → post (some (.inl (an_w 3 sz ld s 16 3 3).1)) τ') : fd_Sem (d + 3) 56 [.inr (.inr (.inl (some 9))), .inl (nI i), .inl s] τ post := by
  obtain ⟨h20, r1, r2, r3, r4, r5, r6, r7, r8, r9, r13⟩ := id hB
  have e0 : (an_w 3 sz ld s 16 3 0).2.length = 2 := rfl
  have e1 : (an_w 3 sz ld s 16 3 1).2.length = 3 := rfl
  have e2 : (an_w 3 sz ld s 16 3 2).2.length = 3 := rfl
  intro X hX hV
  repeat (first | refine hX _ _ _ _ _ _ ?_ | refine Exists.intro _ (And.intro (by first | rfl | assumption) (And.intro (by first | assumption | exact fd_lt20 h20 (by decide) | exact md_lt (by assumption) h20 (by decide)) (And.intro (by first | rfl | assumption) ?_))) | refine And.intro (fun hc => absurd hc (by dsimp only [fd_icmp]; decide)) (fun _ => ?_) | refine And.intro (fun _ => ?_) (fun hc => absurd hc (by dsimp only [fd_icmp]; decide)) | refine And.intro (by decide) ?_ | refine md_iald (by assumption) h20 (by assumption) (by decide) rfl hi (by assumption) (by decide) (by decide) ?_ | refine ok_in _ _ _ _ _ _ (fun _ _ => ?_) (fun hc => absurd (by decide) hc) | refine ok_in _ _ _ _ _ _ (fun h1 h2 => absurd (And.intro h1 h2) (by decide)) (fun _ => ?_) | (refine ok_began _ _ h20 r13 (by assumption) (by first | omega | (simp only [List.length_append, List.length_cons, List.length_nil]; omega)) (fun τ hM => ?_)) | (refine ok_mlen_3 _ i t0 sz ld s hB hi hk hs hl (by assumption) (by first | omega | (simp only [List.length_append, List.length_cons, List.length_nil]; omega)) (fun τ hM => ?_)) | (refine ok_mmass_3 _ i t0 sz ld s hB hi hk hs hl (by assumption) (by first | omega | (simp only [List.length_append, List.length_cons, List.length_nil]; omega)) (fun τ hM => ?_)))
  refine cast (congrArg (fun z => post (some (.inl z)) τ) ?_) (h1 τ ?_)
  · simp only [av_0_3, av_1_3, av_2_3, av_3_3, av_4_3, av_5_3, Int32.add_zero]
  · rw [at_3_3]
    try simp only [at_0_3, at_1_3, at_2_3, List.append_assoc, List.cons_append, List.nil_append] at hM ⊢
    exact hM
set_option maxRecDepth 100000 in
theorem ok_mfare_4 (d i t0 : Nat) (sz ld s : Int32) {σ0 τ : fd_S} {L : List Int32} {post : Option fd_V → fd_S → Prop} (hB : Mb σ0) (hi : i < 60) (hk : σ0.2.1 10 i = nI 4) (hs : σ0.2.1 11 i = sz) (hl : σ0.2.1 12 i = ld) (hM : Md σ0 t0 L τ) (ht : t0 + L.length + 10 ≤ 60) (h1 : ∀ τ', Md σ0 t0 (L ++ (an_w 4 sz ld s 16 4 3).2) τ' → post (some (.inl (an_w 4 sz ld s 16 4 3).1)) τ') : fd_Sem (d + 3) 56 [.inr (.inr (.inl (some 9))), .inl (nI i), .inl s] τ post := by
  obtain ⟨h20, r1, r2, r3, r4, r5, r6, r7, r8, r9, r13⟩ := id hB
  have e0 : (an_w 4 sz ld s 16 4 0).2.length = 3 := rfl
  have e1 : (an_w 4 sz ld s 16 4 1).2.length = 3 := rfl
  have e2 : (an_w 4 sz ld s 16 4 2).2.length = 5 := rfl
  intro X hX hV
  repeat (first | refine hX _ _ _ _ _ _ ?_ | refine Exists.intro _ (And.intro (by first | rfl | assumption) (And.intro (by first | assumption | exact fd_lt20 h20 (by decide) | exact md_lt (by assumption) h20 (by decide)) (And.intro (by first | rfl | assumption) ?_))) | refine And.intro (fun hc => absurd hc (by dsimp only [fd_icmp]; decide)) (fun _ => ?_) | refine And.intro (fun _ => ?_) (fun hc => absurd hc (by dsimp only [fd_icmp]; decide)) | refine And.intro (by decide) ?_ | refine md_iald (by assumption) h20 (by assumption) (by decide) rfl hi (by assumption) (by decide) (by decide) ?_ | refine ok_in _ _ _ _ _ _ (fun _ _ => ?_) (fun hc => absurd (by decide) hc) | refine ok_in _ _ _ _ _ _ (fun h1 h2 => absurd (And.intro h1 h2) (by decide)) (fun _ => ?_) | (refine ok_began _ _ h20 r13 (by assumption) (by first | omega | (simp only [List.length_append, List.length_cons, List.length_nil]; omega)) (fun τ hM => ?_)) | (refine ok_mlen_4 _ i t0 sz ld s hB hi hk hs hl (by assumption) (by first | omega | (simp only [List.length_append, List.length_cons, List.length_nil]; omega)) (fun τ hM => ?_)) | (refine ok_mmass_4 _ i t0 sz ld s hB hi hk hs hl (by assumption) (by first | omega | (simp only [List.length_append, List.length_cons, List.length_nil]; omega)) (fun τ hM => ?_)))
  refine cast (congrArg (fun z => post (some (.inl z)) τ) ?_) (h1 τ ?_)
  · simp only [av_0_4, av_1_4, av_2_4, av_3_4, av_4_4, av_5_4, Int32.add_zero]
  · rw [at_3_4]
    try simp only [at_0_4, at_1_4, at_2_4, List.append_assoc, List.cons_append, List.nil_append] at hM ⊢
    exact hM
set_option maxRecDepth 100000 in
theorem ok_mfare_5 (d i t0 : Nat) (sz ld s : Int32) {σ0 τ : fd_S} {L : List Int32} {post : Option fd_V → fd_S → Prop} (hB : Mb σ0) (hi : i < 60) (hk : σ0.2.1 10 i = nI 5) (hs : σ0.2.1 11 i = sz) (hl : σ0.2.1 12 i = ld) (hM : Md σ0 t0 L τ) (ht : t0 + L.length + 10 ≤ 60) (h1 : ∀ τ', Md σ0 t0 (L ++ (an_w 5 sz ld s 16 5 3).2) τ' → post (some (.inl (an_w 5 sz ld s 16 5 3).1)) τ') : fd_Sem (d + 3) 56 [.inr (.inr (.inl (some 9))), .inl (nI i), .inl s] τ post := by
  obtain ⟨h20, r1, r2, r3, r4, r5, r6, r7, r8, r9, r13⟩ := id hB
  have e0 : (an_w 5 sz ld s 16 5 0).2.length = 1 := rfl
  have e1 : (an_w 5 sz ld s 16 5 1).2.length = 1 := rfl
  have e2 : (an_w 5 sz ld s 16 5 2).2.length = 2 := rfl
  intro X hX hV
  repeat (first | refine hX _ _ _ _ _ _ ?_ | refine Exists.intro _ (And.intro (by first | rfl | assumption) (And.intro (by first | assumption | exact fd_lt20 h20 (by decide) | exact md_lt (by assumption) h20 (by decide)) (And.intro (by first | rfl | assumption) ?_))) | refine And.intro (fun hc => absurd hc (by dsimp only [fd_icmp]; decide)) (fun _ => ?_) | refine And.intro (fun _ => ?_) (fun hc => absurd hc (by dsimp only [fd_icmp]; decide)) | refine And.intro (by decide) ?_ | refine md_iald (by assumption) h20 (by assumption) (by decide) rfl hi (by assumption) (by decide) (by decide) ?_ | refine ok_in _ _ _ _ _ _ (fun _ _ => ?_) (fun hc => absurd (by decide) hc) | refine ok_in _ _ _ _ _ _ (fun h1 h2 => absurd (And.intro h1 h2) (by decide)) (fun _ => ?_) | (refine ok_began _ _ h20 r13 (by assumption) (by first | omega | (simp only [List.length_append, List.length_cons, List.length_nil]; omega)) (fun τ hM => ?_)) | (refine ok_mlen_5 _ i t0 sz ld s hB hi hk hs hl (by assumption) (by first | omega | (simp only [List.length_append, List.length_cons, List.length_nil]; omega)) (fun τ hM => ?_)) | (refine ok_mmass_5 _ i t0 sz ld s hB hi hk hs hl (by assumption) (by first | omega | (simp only [List.length_append, List.length_cons, List.length_nil]; omega)) (fun τ hM => ?_)))
  refine cast (congrArg (fun z => post (some (.inl z)) τ) ?_) (h1 τ ?_)
  · simp only [av_0_5, av_1_5, av_2_5, av_3_5, av_4_5, av_5_5, Int32.add_zero]
  · rw [at_3_5]
    try simp only [at_0_5, at_1_5, at_2_5, List.append_assoc, List.cons_append, List.nil_append] at hM ⊢
    exact hM
set_option maxRecDepth 100000 in
theorem ok_mfare_6 (d i t0 : Nat) (sz ld s : Int32) {σ0 τ : fd_S} {L : List Int32} {post : Option fd_V → fd_S → Prop} (hB : Mb σ0) (hi : i < 60) (hk : σ0.2.1 10 i = nI 6) (hs : σ0.2.1 11 i = sz) (hl : σ0.2.1 12 i = ld) (hM : Md σ0 t0 L τ) (ht : t0 + L.length + 10 ≤ 60) (h1 : ∀ τ', Md σ0 t0 (L ++ (an_w 6 sz ld s 16 6 3).2) τ' → post (some (.inl (an_w 6 sz ld s 16 6 3).1)) τ') : fd_Sem (d + 3) 56 [.inr (.inr (.inl (some 9))), .inl (nI i), .inl s] τ post := by
  obtain ⟨h20, r1, r2, r3, r4, r5, r6, r7, r8, r9, r13⟩ := id hB
  have e0 : (an_w 6 sz ld s 16 6 0).2.length = 2 := rfl
  have e1 : (an_w 6 sz ld s 16 6 1).2.length = 2 := rfl
  have e2 : (an_w 6 sz ld s 16 6 2).2.length = 3 := rfl
  intro X hX hV
  repeat (first | refine hX _ _ _ _ _ _ ?_ | refine Exists.intro _ (And.intro (by first | rfl | assumption) (And.intro (by first | assumption | exact fd_lt20 h20 (by decide) | exact md_lt (by assumption) h20 (by decide)) (And.intro (by first | rfl | assumption) ?_))) | refine And.intro (fun hc => absurd hc (by dsimp only [fd_icmp]; decide)) (fun _ => ?_) | refine And.intro (fun _ => ?_) (fun hc => absurd hc (by dsimp only [fd_icmp]; decide)) | refine And.intro (by decide) ?_ | refine md_iald (by assumption) h20 (by assumption) (by decide) rfl hi (by assumption) (by decide) (by decide) ?_ | refine ok_in _ _ _ _ _ _ (fun _ _ => ?_) (fun hc => absurd (by decide) hc) | refine ok_in _ _ _ _ _ _ (fun h1 h2 => absurd (And.intro h1 h2) (by decide)) (fun _ => ?_) | (refine ok_began _ _ h20 r13 (by assumption) (by first | omega | (simp only [List.length_append, List.length_cons, List.length_nil]; omega)) (fun τ hM => ?_)) | (refine ok_mlen_6 _ i t0 sz ld s hB hi hk hs hl (by assumption) (by first | omega | (simp only [List.length_append, List.length_cons, List.length_nil]; omega)) (fun τ hM => ?_)) | (refine ok_mmass_6 _ i t0 sz ld s hB hi hk hs hl (by assumption) (by first | omega | (simp only [List.length_append, List.length_cons, List.length_nil]; omega)) (fun τ hM => ?_)))
  refine cast (congrArg (fun z => post (some (.inl z)) τ) ?_) (h1 τ ?_)
  · simp only [av_0_6, av_1_6, av_2_6, av_3_6, av_4_6, av_5_6, Int32.add_zero]
  · rw [at_3_6]
    try simp only [at_0_6, at_1_6, at_2_6, List.append_assoc, List.cons_append, List.nil_append] at hM ⊢
    exact hM
end
section
set_option maxRecDepth 100000 in
theorem ok_mtoll_2 (d i t0 : Nat) (sz ld s : Int32) {σ0 τ : fd_S} {L : List Int32} {post : Option fd_V → fd_S → Prop} (hB : Mb σ0) (hi : i < 60) (hk : σ0.2.1 10 i = nI 2) (hs : σ0.2.1 11 i = sz) (hl : σ0.2.1 12 i = ld) (hM : Md σ0 t0 L τ) (ht : t0 + L.length + 4 ≤ 60) (h1 : ∀ τ', Md σ0 t0 (L ++ (an_w 2 sz ld s 16 2 4).2) τ' → post (some (.inl (an_w 2 sz ld s 16 2 4).1)) τ') : fd_Sem (d + 3) 59 [.inr (.inr (.inl (some 9))), .inl (nI i)] τ post := by
  obtain ⟨h20, r1, r2, r3, r4, r5, r6, r7, r8, r9, r13⟩ := id hB
  have e0 : (an_w 2 sz ld s 16 2 0).2.length = 2 := rfl
  have e1 : (an_w 2 sz ld s 16 2 1).2.length = 2 := rfl
  have e2 : (an_w 2 sz ld s 16 2 2).2.length = 3 := rfl
  intro X hX hV
  repeat (first | refine hX _ _ _ _ _ _ ?_ | refine Exists.intro _ (And.intro (by first | rfl | assumption) (And.intro (by first | assumption | exact fd_lt20 h20 (by decide) | exact md_lt (by assumption) h20 (by decide)) (And.intro (by first | rfl | assumption) ?_))) | refine And.intro (fun hc => absurd hc (by dsimp only [fd_icmp]; decide)) (fun _ => ?_) | refine And.intro (fun _ => ?_) (fun hc => absurd hc (by dsimp only [fd_icmp]; decide)) | refine And.intro (by decide) ?_ | refine md_iald (by assumption) h20 (by assumption) (by decide) rfl hi (by assumption) (by decide) (by decide) ?_ | refine ok_in _ _ _ _ _ _ (fun _ _ => ?_) (fun hc => absurd (by decide) hc) | refine ok_in _ _ _ _ _ _ (fun h1 h2 => absurd (And.intro h1 h2) (by decide)) (fun _ => ?_) | (refine ok_began _ _ h20 r13 (by assumption) (by first | omega | (simp only [List.length_append, List.length_cons, List.length_nil]; omega)) (fun τ hM => ?_)) | (refine ok_mmass_2 _ i t0 sz ld s hB hi hk hs hl (by assumption) (by first | omega | (simp only [List.length_append, List.length_cons, List.length_nil]; omega)) (fun τ hM => ?_)))
  refine cast (congrArg (fun z => post (some (.inl z)) τ) ?_) (h1 τ ?_)
  · simp only [av_0_2, av_1_2, av_2_2, av_3_2, av_4_2, av_5_2, Int32.add_zero]
  · rw [at_4_2]
    try simp only [at_0_2, at_1_2, at_2_2, List.append_assoc, List.cons_append, List.nil_append] at hM ⊢
    exact hM
set_option maxRecDepth 100000 in
theorem ok_mtoll_3 (d i t0 : Nat) (sz ld s : Int32) {σ0 τ : fd_S} {L : List Int32} {post : Option fd_V → fd_S → Prop} (hB : Mb σ0) (hi : i < 60) (hk : σ0.2.1 10 i = nI 3) (hs : σ0.2.1 11 i = sz) (hl : σ0.2.1 12 i = ld) (hM : Md σ0 t0 L τ) (ht : t0 + L.length + 4 ≤ 60) (h1 : ∀ τ', Md σ0 t0 (L ++ (an_w 3 sz ld s 16 3 4).2) τ' → post (some (.inl (an_w 3 sz ld s 16 3 4).1)) τ') : fd_Sem (d + 3) 59 [.inr (.inr (.inl (some 9))), .inl (nI i)] τ post := by
  obtain ⟨h20, r1, r2, r3, r4, r5, r6, r7, r8, r9, r13⟩ := id hB
  have e0 : (an_w 3 sz ld s 16 3 0).2.length = 2 := rfl
  have e1 : (an_w 3 sz ld s 16 3 1).2.length = 3 := rfl
  have e2 : (an_w 3 sz ld s 16 3 2).2.length = 3 := rfl
  intro X hX hV
  repeat (first | refine hX _ _ _ _ _ _ ?_ | refine Exists.intro _ (And.intro (by first | rfl | assumption) (And.intro (by first | assumption | exact fd_lt20 h20 (by decide) | exact md_lt (by assumption) h20 (by decide)) (And.intro (by first | rfl | assumption) ?_))) | refine And.intro (fun hc => absurd hc (by dsimp only [fd_icmp]; decide)) (fun _ => ?_) | refine And.intro (fun _ => ?_) (fun hc => absurd hc (by dsimp only [fd_icmp]; decide)) | refine And.intro (by decide) ?_ | refine md_iald (by assumption) h20 (by assumption) (by decide) rfl hi (by assumption) (by decide) (by decide) ?_ | refine ok_in _ _ _ _ _ _ (fun _ _ => ?_) (fun hc => absurd (by decide) hc) | refine ok_in _ _ _ _ _ _ (fun h1 h2 => absurd (And.intro h1 h2) (by decide)) (fun _ => ?_) | (refine ok_began _ _ h20 r13 (by assumption) (by first | omega | (simp only [List.length_append, List.length_cons, List.length_nil]; omega)) (fun τ hM => ?_)) | (refine ok_mmass_3 _ i t0 sz ld s hB hi hk hs hl (by assumption) (by first | omega | (simp only [List.length_append, List.length_cons, List.length_nil]; omega)) (fun τ hM => ?_)))
  refine cast (congrArg (fun z => post (some (.inl z)) τ) ?_) (h1 τ ?_)
  · simp only [av_0_3, av_1_3, av_2_3, av_3_3, av_4_3, av_5_3, Int32.add_zero]
  · rw [at_4_3]
    try simp only [at_0_3, at_1_3, at_2_3, List.append_assoc, List.cons_append, List.nil_append] at hM ⊢
    exact hM
set_option maxRecDepth 100000 in
theorem ok_mtoll_4 (d i t0 : Nat) (sz ld s : Int32) {σ0 τ : fd_S} {L : List Int32} {post : Option fd_V → fd_S → Prop} (hB : Mb σ0) (hi : i < 60) (hk : σ0.2.1 10 i = nI 4) (hs : σ0.2.1 11 i = sz) (hl : σ0.2.1 12 i = ld) (hM : Md σ0 t0 L τ) (ht : t0 + L.length + 4 ≤ 60) (h1 : ∀ τ', Md σ0 t0 (L ++ (an_w 4 sz ld s 16 4 4).2) τ' → post (some (.inl (an_w 4 sz ld s 16 4 4).1)) τ') : fd_Sem (d + 3) 59 [.inr (.inr (.inl (some 9))), .inl (nI i)] τ post := by
  obtain ⟨h20, r1, r2, r3, r4, r5, r6, r7, r8, r9, r13⟩ := id hB
  have e0 : (an_w 4 sz ld s 16 4 0).2.length = 3 := rfl
  have e1 : (an_w 4 sz ld s 16 4 1).2.length = 3 := rfl
  have e2 : (an_w 4 sz ld s 16 4 2).2.length = 5 := rfl
  intro X hX hV
  repeat (first | refine hX _ _ _ _ _ _ ?_ | refine Exists.intro _ (And.intro (by first | rfl | assumption) (And.intro (by first | assumption | exact fd_lt20 h20 (by decide) | exact md_lt (by assumption) h20 (by decide)) (And.intro (by first | rfl | assumption) ?_))) | refine And.intro (fun hc => absurd hc (by dsimp only [fd_icmp]; decide)) (fun _ => ?_) | refine And.intro (fun _ => ?_) (fun hc => absurd hc (by dsimp only [fd_icmp]; decide)) | refine And.intro (by decide) ?_ | refine md_iald (by assumption) h20 (by assumption) (by decide) rfl hi (by assumption) (by decide) (by decide) ?_ | refine ok_in _ _ _ _ _ _ (fun _ _ => ?_) (fun hc => absurd (by decide) hc) | refine ok_in _ _ _ _ _ _ (fun h1 h2 => absurd (And.intro h1 h2) (by decide)) (fun _ => ?_) | (refine ok_began _ _ h20 r13 (by assumption) (by first | omega | (simp only [List.length_append, List.length_cons, List.length_nil]; omega)) (fun τ hM => ?_)) | (refine ok_mmass_4 _ i t0 sz ld s hB hi hk hs hl (by assumption) (by first | omega | (simp only [List.length_append, List.length_cons, List.length_nil]; omega)) (fun τ hM => ?_)))
  refine cast (congrArg (fun z => post (some (.inl z)) τ) ?_) (h1 τ ?_)
  · simp only [av_0_4, av_1_4, av_2_4, av_3_4, av_4_4, av_5_4, Int32.add_zero]
  · rw [at_4_4]
    try simp only [at_0_4, at_1_4, at_2_4, List.append_assoc, List.cons_append, List.nil_append] at hM ⊢
    exact hM
set_option maxRecDepth 100000 in
theorem ok_mtoll_6 (d i t0 : Nat) (sz ld s : Int32) {σ0 τ : fd_S} {L : List Int32} {post : Option fd_V → fd_S → Prop} (hB : Mb σ0) (hi : i < 60) (hk : σ0.2.1 10 i = nI 6) (hs : σ0.2.1 11 i = sz) (hl : σ0.2.1 12 i = ld) (hM : Md σ0 t0 L τ) (ht : t0 + L.length + 4 ≤ 60) (h1 : ∀ τ', Md σ0 t0 (L ++ (an_w 6 sz ld s 16 6 4).2) τ' → post (some (.inl (an_w 6 sz ld s 16 6 4).1)) τ') : fd_Sem (d + 3) 59 [.inr (.inr (.inl (some 9))), .inl (nI i)] τ post := by
  obtain ⟨h20, r1, r2, r3, r4, r5, r6, r7, r8, r9, r13⟩ := id hB
  have e0 : (an_w 6 sz ld s 16 6 0).2.length = 2 := rfl
  have e1 : (an_w 6 sz ld s 16 6 1).2.length = 2 := rfl
  have e2 : (an_w 6 sz ld s 16 6 2).2.length = 3 := rfl
  intro X hX hV
  repeat (first | refine hX _ _ _ _ _ _ ?_ | refine Exists.intro _ (And.intro (by first | rfl | assumption) (And.intro (by first | assumption | exact fd_lt20 h20 (by decide) | exact md_lt (by assumption) h20 (by decide)) (And.intro (by first | rfl | assumption) ?_))) | refine And.intro (fun hc => absurd hc (by dsimp only [fd_icmp]; decide)) (fun _ => ?_) | refine And.intro (fun _ => ?_) (fun hc => absurd hc (by dsimp only [fd_icmp]; decide)) | refine And.intro (by decide) ?_ | refine md_iald (by assumption) h20 (by assumption) (by decide) rfl hi (by assumption) (by decide) (by decide) ?_ | refine ok_in _ _ _ _ _ _ (fun _ _ => ?_) (fun hc => absurd (by decide) hc) | refine ok_in _ _ _ _ _ _ (fun h1 h2 => absurd (And.intro h1 h2) (by decide)) (fun _ => ?_) | (refine ok_began _ _ h20 r13 (by assumption) (by first | omega | (simp only [List.length_append, List.length_cons, List.length_nil]; omega)) (fun τ hM => ?_)) | (refine ok_mmass_6 _ i t0 sz ld s hB hi hk hs hl (by assumption) (by first | omega | (simp only [List.length_append, List.length_cons, List.length_nil]; omega)) (fun τ hM => ?_)))
  refine cast (congrArg (fun z => post (some (.inl z)) τ) ?_) (h1 τ ?_)
  · simp only [av_0_6, av_1_6, av_2_6, av_3_6, av_4_6, av_5_6, Int32.add_zero]
  · rw [at_4_6]
    try simp only [at_0_6, at_1_6, at_2_6, List.append_assoc, List.cons_append, List.nil_append] at hM ⊢
    exact hM
end
section
set_option maxRecDepth 100000 in
theorem ok_mdang_3 (d i t0 : Nat) (sz ld s : Int32) {σ0 τ : fd_S} {L : List Int32} {post : Option fd_V → fd_S → Prop} (hB : Mb σ0) (hi : i < 60) (hk : σ0.2.1 10 i = nI 3) (hs : σ0.2.1 11 i = sz) (hl : σ0.2.1 12 i = ld) (hM : Md σ0 t0 L τ) (ht : t0 + L.length + 6 ≤ 60) (h1 : ∀ τ', Md σ0 t0 (L ++ (an_w 3 sz ld s 16 3 5).2) τ' → post (some (.inl (an_w 3 sz ld s 16 3 5).1)) τ') : fd_Sem (d + 4) 60 [.inr (.inr (.inl (some 9))), .inl (nI i)] τ post := by
  obtain ⟨h20, r1, r2, r3, r4, r5, r6, r7, r8, r9, r13⟩ := id hB
  have e0 : (an_w 3 sz ld s 16 3 0).2.length = 2 := rfl
  have e1 : (an_w 3 sz ld s 16 3 1).2.length = 3 := rfl
  have e2 : (an_w 3 sz ld s 16 3 2).2.length = 3 := rfl
  intro X hX hV
  repeat (first | refine hX _ _ _ _ _ _ ?_ | refine Exists.intro _ (And.intro (by first | rfl | assumption) (And.intro (by first | assumption | exact fd_lt20 h20 (by decide) | exact md_lt (by assumption) h20 (by decide)) (And.intro (by first | rfl | assumption) ?_))) | refine And.intro (fun hc => absurd hc (by dsimp only [fd_icmp]; decide)) (fun _ => ?_) | refine And.intro (fun _ => ?_) (fun hc => absurd hc (by dsimp only [fd_icmp]; decide)) | refine And.intro (by decide) ?_ | refine md_iald (by assumption) h20 (by assumption) (by decide) rfl hi (by assumption) (by decide) (by decide) ?_ | refine ok_in _ _ _ _ _ _ (fun _ _ => ?_) (fun hc => absurd (by decide) hc) | refine ok_in _ _ _ _ _ _ (fun h1 h2 => absurd (And.intro h1 h2) (by decide)) (fun _ => ?_) | (refine ok_began _ _ h20 r13 (by assumption) (by first | omega | (simp only [List.length_append, List.length_cons, List.length_nil]; omega)) (fun τ hM => ?_)) | (refine ok_mlen_3 _ i t0 sz ld s hB hi hk hs hl (by assumption) (by first | omega | (simp only [List.length_append, List.length_cons, List.length_nil]; omega)) (fun τ hM => ?_)) | (refine ok_mmin_3 _ i t0 sz ld s hB hi hk hs hl (by assumption) (by first | omega | (simp only [List.length_append, List.length_cons, List.length_nil]; omega)) (fun τ hM => ?_)))
  refine cast (congrArg (fun z => post (some (.inl z)) τ) ?_) (h1 τ ?_)
  · simp only [av_0_3, av_1_3, av_2_3, av_3_3, av_4_3, av_5_3, Int32.add_zero]
  · rw [at_5_3]
    try simp only [at_0_3, at_1_3, at_2_3, List.append_assoc, List.cons_append, List.nil_append] at hM ⊢
    exact hM
set_option maxRecDepth 100000 in
theorem ok_mdang_4 (d i t0 : Nat) (sz ld s : Int32) {σ0 τ : fd_S} {L : List Int32} {post : Option fd_V → fd_S → Prop} (hB : Mb σ0) (hi : i < 60) (hk : σ0.2.1 10 i = nI 4) (hs : σ0.2.1 11 i = sz) (hl : σ0.2.1 12 i = ld) (hM : Md σ0 t0 L τ) (ht : t0 + L.length + 6 ≤ 60) (h1 : ∀ τ', Md σ0 t0 (L ++ (an_w 4 sz ld s 16 4 5).2) τ' → post (some (.inl (an_w 4 sz ld s 16 4 5).1)) τ') : fd_Sem (d + 4) 60 [.inr (.inr (.inl (some 9))), .inl (nI i)] τ post := by
  obtain ⟨h20, r1, r2, r3, r4, r5, r6, r7, r8, r9, r13⟩ := id hB
  have e0 : (an_w 4 sz ld s 16 4 0).2.length = 3 := rfl
  have e1 : (an_w 4 sz ld s 16 4 1).2.length = 3 := rfl
  have e2 : (an_w 4 sz ld s 16 4 2).2.length = 5 := rfl
  intro X hX hV
  repeat (first | refine hX _ _ _ _ _ _ ?_ | refine Exists.intro _ (And.intro (by first | rfl | assumption) (And.intro (by first | assumption | exact fd_lt20 h20 (by decide) | exact md_lt (by assumption) h20 (by decide)) (And.intro (by first | rfl | assumption) ?_))) | refine And.intro (fun hc => absurd hc (by dsimp only [fd_icmp]; decide)) (fun _ => ?_) | refine And.intro (fun _ => ?_) (fun hc => absurd hc (by dsimp only [fd_icmp]; decide)) | refine And.intro (by decide) ?_ | refine md_iald (by assumption) h20 (by assumption) (by decide) rfl hi (by assumption) (by decide) (by decide) ?_ | refine ok_in _ _ _ _ _ _ (fun _ _ => ?_) (fun hc => absurd (by decide) hc) | refine ok_in _ _ _ _ _ _ (fun h1 h2 => absurd (And.intro h1 h2) (by decide)) (fun _ => ?_) | (refine ok_began _ _ h20 r13 (by assumption) (by first | omega | (simp only [List.length_append, List.length_cons, List.length_nil]; omega)) (fun τ hM => ?_)) | (refine ok_mlen_4 _ i t0 sz ld s hB hi hk hs hl (by assumption) (by first | omega | (simp only [List.length_append, List.length_cons, List.length_nil]; omega)) (fun τ hM => ?_)) | (refine ok_mmin_4 _ i t0 sz ld s hB hi hk hs hl (by assumption) (by first | omega | (simp only [List.length_append, List.length_cons, List.length_nil]; omega)) (fun τ hM => ?_)))
  refine cast (congrArg (fun z => post (some (.inl z)) τ) ?_) (h1 τ ?_)
  · simp only [av_0_4, av_1_4, av_2_4, av_3_4, av_4_4, av_5_4, Int32.add_zero]
  · rw [at_5_4]
    try simp only [at_0_4, at_1_4, at_2_4, List.append_assoc, List.cons_append, List.nil_append] at hM ⊢
    exact hM
set_option maxRecDepth 100000 in
theorem ok_mdang_5 (d i t0 : Nat) (sz ld s : Int32) {σ0 τ : fd_S} {L : List Int32} {post : Option fd_V → fd_S → Prop} (hB : Mb σ0) (hi : i < 60) (hk : σ0.2.1 10 i = nI 5) (hs : σ0.2.1 11 i = sz) (hl : σ0.2.1 12 i = ld) (hM : Md σ0 t0 L τ) (ht : t0 + L.length + 6 ≤ 60) (h1 : ∀ τ', Md σ0 t0 (L ++ (an_w 5 sz ld s 16 5 5).2) τ' → post (some (.inl (an_w 5 sz ld s 16 5 5).1)) τ') : fd_Sem (d + 4) 60 [.inr (.inr (.inl (some 9))), .inl (nI i)] τ post := by
  obtain ⟨h20, r1, r2, r3, r4, r5, r6, r7, r8, r9, r13⟩ := id hB
  have e0 : (an_w 5 sz ld s 16 5 0).2.length = 1 := rfl
  have e1 : (an_w 5 sz ld s 16 5 1).2.length = 1 := rfl
  have e2 : (an_w 5 sz ld s 16 5 2).2.length = 2 := rfl
  intro X hX hV
  repeat (first | refine hX _ _ _ _ _ _ ?_ | refine Exists.intro _ (And.intro (by first | rfl | assumption) (And.intro (by first | assumption | exact fd_lt20 h20 (by decide) | exact md_lt (by assumption) h20 (by decide)) (And.intro (by first | rfl | assumption) ?_))) | refine And.intro (fun hc => absurd hc (by dsimp only [fd_icmp]; decide)) (fun _ => ?_) | refine And.intro (fun _ => ?_) (fun hc => absurd hc (by dsimp only [fd_icmp]; decide)) | refine And.intro (by decide) ?_ | refine md_iald (by assumption) h20 (by assumption) (by decide) rfl hi (by assumption) (by decide) (by decide) ?_ | refine ok_in _ _ _ _ _ _ (fun _ _ => ?_) (fun hc => absurd (by decide) hc) | refine ok_in _ _ _ _ _ _ (fun h1 h2 => absurd (And.intro h1 h2) (by decide)) (fun _ => ?_) | (refine ok_began _ _ h20 r13 (by assumption) (by first | omega | (simp only [List.length_append, List.length_cons, List.length_nil]; omega)) (fun τ hM => ?_)) | (refine ok_mlen_5 _ i t0 sz ld s hB hi hk hs hl (by assumption) (by first | omega | (simp only [List.length_append, List.length_cons, List.length_nil]; omega)) (fun τ hM => ?_)) | (refine ok_mmin_5 _ i t0 sz ld s hB hi hk hs hl (by assumption) (by first | omega | (simp only [List.length_append, List.length_cons, List.length_nil]; omega)) (fun τ hM => ?_)))
  refine cast (congrArg (fun z => post (some (.inl z)) τ) ?_) (h1 τ ?_)
  · simp only [av_0_5, av_1_5, av_2_5, av_3_5, av_4_5, av_5_5, Int32.add_zero]
  · rw [at_5_5]
    try simp only [at_0_5, at_1_5, at_2_5, List.append_assoc, List.cons_append, List.nil_append] at hM ⊢
    exact hM
set_option maxRecDepth 100000 in
theorem ok_mdang_6 (d i t0 : Nat) (sz ld s : Int32) {σ0 τ : fd_S} {L : List Int32} {post : Option fd_V → fd_S → Prop} (hB : Mb σ0) (hi : i < 60) (hk : σ0.2.1 10 i = nI 6) (hs : σ0.2.1 11 i = sz) (hl : σ0.2.1 12 i = ld) (hM : Md σ0 t0 L τ) (ht : t0 + L.length + 6 ≤ 60) (h1 : ∀ τ', Md σ0 t0 (L ++ (an_w 6 sz ld s 16 6 5).2) τ' → post (some (.inl (an_w 6 sz ld s 16 6 5).1)) τ') : fd_Sem (d + 4) 60 [.inr (.inr (.inl (some 9))), .inl (nI i)] τ post := by
  obtain ⟨h20, r1, r2, r3, r4, r5, r6, r7, r8, r9, r13⟩ := id hB
  have e0 : (an_w 6 sz ld s 16 6 0).2.length = 2 := rfl
  have e1 : (an_w 6 sz ld s 16 6 1).2.length = 2 := rfl
  have e2 : (an_w 6 sz ld s 16 6 2).2.length = 3 := rfl
  intro X hX hV
  repeat (first | refine hX _ _ _ _ _ _ ?_ | refine Exists.intro _ (And.intro (by first | rfl | assumption) (And.intro (by first | assumption | exact fd_lt20 h20 (by decide) | exact md_lt (by assumption) h20 (by decide)) (And.intro (by first | rfl | assumption) ?_))) | refine And.intro (fun hc => absurd hc (by dsimp only [fd_icmp]; decide)) (fun _ => ?_) | refine And.intro (fun _ => ?_) (fun hc => absurd hc (by dsimp only [fd_icmp]; decide)) | refine And.intro (by decide) ?_ | refine md_iald (by assumption) h20 (by assumption) (by decide) rfl hi (by assumption) (by decide) (by decide) ?_ | refine ok_in _ _ _ _ _ _ (fun _ _ => ?_) (fun hc => absurd (by decide) hc) | refine ok_in _ _ _ _ _ _ (fun h1 h2 => absurd (And.intro h1 h2) (by decide)) (fun _ => ?_) | (refine ok_began _ _ h20 r13 (by assumption) (by first | omega | (simp only [List.length_append, List.length_cons, List.length_nil]; omega)) (fun τ hM => ?_)) | (refine ok_mlen_6 _ i t0 sz ld s hB hi hk hs hl (by assumption) (by first | omega | (simp only [List.length_append, List.length_cons, List.length_nil]; omega)) (fun τ hM => ?_)) | (refine ok_mmin_6 _ i t0 sz ld s hB hi hk hs hl (by assumption) (by first | omega | (simp only [List.length_append, List.length_cons, List.length_nil]; omega)) (fun τ hM => ?_)))
  refine cast (congrArg (fun z => post (some (.inl z)) τ) ?_) (h1 τ ?_)
  · simp only [av_0_6, av_1_6, av_2_6, av_3_6, av_4_6, av_5_6, Int32.add_zero]
  · rw [at_5_6]
    try simp only [at_0_6, at_1_6, at_2_6, List.append_assoc, List.cons_append, List.nil_append] at hM ⊢
    exact hM
end
section
def hvy (k : Nat) : Bool := decide (k = 2) || decide (k = 3) || decide (k = 4) || decide (k = 6)
def mrk (k : Nat) : Bool := decide (3 ≤ k)
def JQ (t i j : Nat) : Prop := i = 19 ∧ t ≤ j
section
variable (d i t0 : Nat) (k : Nat) (sz ld s : Int32) {σ0 τ : fd_S} {L : List Int32} {post : Option fd_V → fd_S → Prop}
set_option maxRecDepth 100000 in
theorem ok_mlen (hB : Mb σ0) (hi : i < 60) (hk7 : k < 7) (hk : σ0.2.1 10 i = nI k) (hs : σ0.2.1 11 i = sz) (hl : σ0.2.1 12 i = ld) (hM : Md σ0 t0 L τ) (ht : t0 + L.length + 3 ≤ 60) (h1 : ∀ τ', Md σ0 t0 (L ++ (an_w k sz ld s 16 k 0).2) τ' → post (some (.inl (an_w k sz ld s 16 k 0).1)) τ') : fd_Sem (d + 2) 53 [.inr (.inr (.inl (some 9))), .inl (nI i)] τ post := by
  match k, hk7, hk, h1 with
  | 0, _, hk, h1 => exact ok_mlen_0 d i t0 sz ld s hB hi hk hs hl hM ht h1
  | 1, _, hk, h1 => exact ok_mlen_1 d i t0 sz ld s hB hi hk hs hl hM ht h1
  | 2, _, hk, h1 => exact ok_mlen_2 d i t0 sz ld s hB hi hk hs hl hM ht h1
  | 3, _, hk, h1 => exact ok_mlen_3 d i t0 sz ld s hB hi hk hs hl hM ht h1
  | 4, _, hk, h1 => exact ok_mlen_4 d i t0 sz ld s hB hi hk hs hl hM ht h1
  | 5, _, hk, h1 => exact ok_mlen_5 d i t0 sz ld s hB hi hk hs hl hM ht h1
  | 6, _, hk, h1 => exact ok_mlen_6 d i t0 sz ld s hB hi hk hs hl hM ht h1
set_option maxRecDepth 100000 in
theorem ok_mmass (hB : Mb σ0) (hi : i < 60) (hk7 : k < 7) (hk : σ0.2.1 10 i = nI k) (hs : σ0.2.1 11 i = sz) (hl : σ0.2.1 12 i = ld) (hM : Md σ0 t0 L τ) (ht : t0 + L.length + 3 ≤ 60) (h1 : ∀ τ', Md σ0 t0 (L ++ (an_w k sz ld s 16 k 1).2) τ' → post (some (.inl (an_w k sz ld s 16 k 1).1)) τ') : fd_Sem (d + 2) 54 [.inr (.inr (.inl (some 9))), .inl (nI i)] τ post := by
  match k, hk7, hk, h1 with
  | 0, _, hk, h1 => exact ok_mmass_0 d i t0 sz ld s hB hi hk hs hl hM ht h1
  | 1, _, hk, h1 => exact ok_mmass_1 d i t0 sz ld s hB hi hk hs hl hM ht h1
  | 2, _, hk, h1 => exact ok_mmass_2 d i t0 sz ld s hB hi hk hs hl hM ht h1
  | 3, _, hk, h1 => exact ok_mmass_3 d i t0 sz ld s hB hi hk hs hl hM ht h1
  | 4, _, hk, h1 => exact ok_mmass_4 d i t0 sz ld s hB hi hk hs hl hM ht h1
  | 5, _, hk, h1 => exact ok_mmass_5 d i t0 sz ld s hB hi hk hs hl hM ht h1
  | 6, _, hk, h1 => exact ok_mmass_6 d i t0 sz ld s hB hi hk hs hl hM ht h1
set_option maxRecDepth 100000 in
theorem ok_mmin (hB : Mb σ0) (hi : i < 60) (hk7 : k < 7) (hk : σ0.2.1 10 i = nI k) (hs : σ0.2.1 11 i = sz) (hl : σ0.2.1 12 i = ld) (hM : Md σ0 t0 L τ) (ht : t0 + L.length + 5 ≤ 60) (h1 : ∀ τ', Md σ0 t0 (L ++ (an_w k sz ld s 16 k 2).2) τ' → post (some (.inl (an_w k sz ld s 16 k 2).1)) τ') : fd_Sem (d + 3) 55 [.inr (.inr (.inl (some 9))), .inl (nI i)] τ post := by
  match k, hk7, hk, h1 with
  | 0, _, hk, h1 => exact ok_mmin_0 d i t0 sz ld s hB hi hk hs hl hM ht h1
  | 1, _, hk, h1 => exact ok_mmin_1 d i t0 sz ld s hB hi hk hs hl hM ht h1
  | 2, _, hk, h1 => exact ok_mmin_2 d i t0 sz ld s hB hi hk hs hl hM ht h1
  | 3, _, hk, h1 => exact ok_mmin_3 d i t0 sz ld s hB hi hk hs hl hM ht h1
  | 4, _, hk, h1 => exact ok_mmin_4 d i t0 sz ld s hB hi hk hs hl hM ht h1
  | 5, _, hk, h1 => exact ok_mmin_5 d i t0 sz ld s hB hi hk hs hl hM ht h1
  | 6, _, hk, h1 => exact ok_mmin_6 d i t0 sz ld s hB hi hk hs hl hM ht h1
set_option maxRecDepth 100000 in
theorem ok_mfare (hB : Mb σ0) (hi : i < 60) (hk7 : k < 7) (hk : σ0.2.1 10 i = nI k) (hs : σ0.2.1 11 i = sz) (hl : σ0.2.1 12 i = ld) (hM : Md σ0 t0 L τ) (ht : t0 + L.length + 10 ≤ 60) (h1 : ∀ τ', Md σ0 t0 (L ++ (an_w k sz ld s 16 k 3).2) τ' → post (some (.inl (an_w k sz ld s 16 k 3).1)) τ') : fd_Sem (d + 3) 56 [.inr (.inr (.inl (some 9))), .inl (nI i), .inl s] τ post := by
  match k, hk7, hk, h1 with
  | 0, _, hk, h1 => exact ok_mfare_0 d i t0 sz ld s hB hi hk hs hl hM ht h1
  | 1, _, hk, h1 => exact ok_mfare_1 d i t0 sz ld s hB hi hk hs hl hM ht h1
  | 2, _, hk, h1 => exact ok_mfare_2 d i t0 sz ld s hB hi hk hs hl hM ht h1
  | 3, _, hk, h1 => exact ok_mfare_3 d i t0 sz ld s hB hi hk hs hl hM ht h1
  | 4, _, hk, h1 => exact ok_mfare_4 d i t0 sz ld s hB hi hk hs hl hM ht h1
  | 5, _, hk, h1 => exact ok_mfare_5 d i t0 sz ld s hB hi hk hs hl hM ht h1
  | 6, _, hk, h1 => exact ok_mfare_6 d i t0 sz ld s hB hi hk hs hl hM ht h1
set_option maxRecDepth 100000 in
theorem ok_mtoll (hB : Mb σ0) (hi : i < 60) (hk7 : k < 7) (hh : hvy k = true) (hk : σ0.2.1 10 i = nI k) (hs : σ0.2.1 11 i = sz) (hl : σ0.2.1 12 i = ld) (hM : Md σ0 t0 L τ) (ht : t0 + L.length + 4 ≤ 60) (h1 : ∀ τ', Md σ0 t0 (L ++ (an_w k sz ld s 16 k 4).2) τ' → post (some (.inl (an_w k sz ld s 16 k 4).1)) τ') : fd_Sem (d + 3) 59 [.inr (.inr (.inl (some 9))), .inl (nI i)] τ post := by
  match k, hk7, hh, hk, h1 with
  | 0, _, hh, _, _ => cases hh
  | 1, _, hh, _, _ => cases hh
  | 2, _, _, hk, h1 => exact ok_mtoll_2 d i t0 sz ld s hB hi hk hs hl hM ht h1
  | 3, _, _, hk, h1 => exact ok_mtoll_3 d i t0 sz ld s hB hi hk hs hl hM ht h1
  | 4, _, _, hk, h1 => exact ok_mtoll_4 d i t0 sz ld s hB hi hk hs hl hM ht h1
  | 5, _, hh, _, _ => cases hh
  | 6, _, _, hk, h1 => exact ok_mtoll_6 d i t0 sz ld s hB hi hk hs hl hM ht h1
set_option maxRecDepth 100000 in
theorem ok_mdang (hB : Mb σ0) (hi : i < 60) (hk7 : k < 7) (hh : mrk k = true) (hk : σ0.2.1 10 i = nI k) (hs : σ0.2.1 11 i = sz) (hl : σ0.2.1 12 i = ld) (hM : Md σ0 t0 L τ) (ht : t0 + L.length + 6 ≤ 60) (h1 : ∀ τ', Md σ0 t0 (L ++ (an_w k sz ld s 16 k 5).2) τ' → post (some (.inl (an_w k sz ld s 16 k 5).1)) τ') : fd_Sem (d + 4) 60 [.inr (.inr (.inl (some 9))), .inl (nI i)] τ post := by
  match k, hk7, hh, hk, h1 with
  | 0, _, hh, _, _ => cases hh
  | 1, _, hh, _, _ => cases hh
  | 2, _, hh, _, _ => cases hh
  | 3, _, _, hk, h1 => exact ok_mdang_3 d i t0 sz ld s hB hi hk hs hl hM ht h1
  | 4, _, _, hk, h1 => exact ok_mdang_4 d i t0 sz ld s hB hi hk hs hl hM ht h1
  | 5, _, _, hk, h1 => exact ok_mdang_5 d i t0 sz ld s hB hi hk hs hl hM ht h1
  | 6, _, _, hk, h1 => exact ok_mdang_6 d i t0 sz ld s hB hi hk hs hl hM ht h1
end
theorem ok_mheavy (d k : Nat) (σ : fd_S) (post : Option fd_V → fd_S → Prop) (hk7 : k < 7) (h1 : hvy k = true → post (some (.inl 1)) σ) (h2 : hvy k = false → post (some (.inl 0)) σ) : fd_Sem (d + 2) 57 [.inl (nI k)] σ post := by
  match k, hk7, h1, h2 with
  | 0, _, _, h2 =>
    intro X hX hV
    repeat (first | refine hX _ _ _ _ _ _ ?_ | refine Exists.intro _ (And.intro (by first | rfl | assumption) (And.intro (by first | assumption | exact fd_lt20 h20 (by decide) | exact md_lt (by assumption) h20 (by decide)) (And.intro (by first | rfl | assumption) ?_))) | refine And.intro (fun hc => absurd hc (by dsimp only [fd_icmp]; decide)) (fun _ => ?_) | refine And.intro (fun _ => ?_) (fun hc => absurd hc (by dsimp only [fd_icmp]; decide)) | refine And.intro (by decide) ?_ | refine md_iald (by assumption) h20 (by assumption) (by decide) rfl hi (by assumption) (by decide) (by decide) ?_ | refine ok_in _ _ _ _ _ _ (fun _ _ => ?_) (fun hc => absurd (by decide) hc) | refine ok_in _ _ _ _ _ _ (fun h1 h2 => absurd (And.intro h1 h2) (by decide)) (fun _ => ?_) | (refine ok_began _ _ h20 r13 (by assumption) (by first | omega | (simp only [List.length_append, List.length_cons, List.length_nil]; omega)) (fun τ hM => ?_)))
    exact h2 rfl
  | 1, _, _, h2 =>
    intro X hX hV
    repeat (first | refine hX _ _ _ _ _ _ ?_ | refine Exists.intro _ (And.intro (by first | rfl | assumption) (And.intro (by first | assumption | exact fd_lt20 h20 (by decide) | exact md_lt (by assumption) h20 (by decide)) (And.intro (by first | rfl | assumption) ?_))) | refine And.intro (fun hc => absurd hc (by dsimp only [fd_icmp]; decide)) (fun _ => ?_) | refine And.intro (fun _ => ?_) (fun hc => absurd hc (by dsimp only [fd_icmp]; decide)) | refine And.intro (by decide) ?_ | refine md_iald (by assumption) h20 (by assumption) (by decide) rfl hi (by assumption) (by decide) (by decide) ?_ | refine ok_in _ _ _ _ _ _ (fun _ _ => ?_) (fun hc => absurd (by decide) hc) | refine ok_in _ _ _ _ _ _ (fun h1 h2 => absurd (And.intro h1 h2) (by decide)) (fun _ => ?_) | (refine ok_began _ _ h20 r13 (by assumption) (by first | omega | (simp only [List.length_append, List.length_cons, List.length_nil]; omega)) (fun τ hM => ?_)))
    exact h2 rfl
  | 2, _, h1, _ =>
    intro X hX hV
    repeat (first | refine hX _ _ _ _ _ _ ?_ | refine Exists.intro _ (And.intro (by first | rfl | assumption) (And.intro (by first | assumption | exact fd_lt20 h20 (by decide) | exact md_lt (by assumption) h20 (by decide)) (And.intro (by first | rfl | assumption) ?_))) | refine And.intro (fun hc => absurd hc (by dsimp only [fd_icmp]; decide)) (fun _ => ?_) | refine And.intro (fun _ => ?_) (fun hc => absurd hc (by dsimp only [fd_icmp]; decide)) | refine And.intro (by decide) ?_ | refine md_iald (by assumption) h20 (by assumption) (by decide) rfl hi (by assumption) (by decide) (by decide) ?_ | refine ok_in _ _ _ _ _ _ (fun _ _ => ?_) (fun hc => absurd (by decide) hc) | refine ok_in _ _ _ _ _ _ (fun h1 h2 => absurd (And.intro h1 h2) (by decide)) (fun _ => ?_) | (refine ok_began _ _ h20 r13 (by assumption) (by first | omega | (simp only [List.length_append, List.length_cons, List.length_nil]; omega)) (fun τ hM => ?_)))
    exact h1 rfl
  | 3, _, h1, _ =>
    intro X hX hV
    repeat (first | refine hX _ _ _ _ _ _ ?_ | refine Exists.intro _ (And.intro (by first | rfl | assumption) (And.intro (by first | assumption | exact fd_lt20 h20 (by decide) | exact md_lt (by assumption) h20 (by decide)) (And.intro (by first | rfl | assumption) ?_))) | refine And.intro (fun hc => absurd hc (by dsimp only [fd_icmp]; decide)) (fun _ => ?_) | refine And.intro (fun _ => ?_) (fun hc => absurd hc (by dsimp only [fd_icmp]; decide)) | refine And.intro (by decide) ?_ | refine md_iald (by assumption) h20 (by assumption) (by decide) rfl hi (by assumption) (by decide) (by decide) ?_ | refine ok_in _ _ _ _ _ _ (fun _ _ => ?_) (fun hc => absurd (by decide) hc) | refine ok_in _ _ _ _ _ _ (fun h1 h2 => absurd (And.intro h1 h2) (by decide)) (fun _ => ?_) | (refine ok_began _ _ h20 r13 (by assumption) (by first | omega | (simp only [List.length_append, List.length_cons, List.length_nil]; omega)) (fun τ hM => ?_)))
    exact h1 rfl
  | 4, _, h1, _ =>
    intro X hX hV
    repeat (first | refine hX _ _ _ _ _ _ ?_ | refine Exists.intro _ (And.intro (by first | rfl | assumption) (And.intro (by first | assumption | exact fd_lt20 h20 (by decide) | exact md_lt (by assumption) h20 (by decide)) (And.intro (by first | rfl | assumption) ?_))) | refine And.intro (fun hc => absurd hc (by dsimp only [fd_icmp]; decide)) (fun _ => ?_) | refine And.intro (fun _ => ?_) (fun hc => absurd hc (by dsimp only [fd_icmp]; decide)) | refine And.intro (by decide) ?_ | refine md_iald (by assumption) h20 (by assumption) (by decide) rfl hi (by assumption) (by decide) (by decide) ?_ | refine ok_in _ _ _ _ _ _ (fun _ _ => ?_) (fun hc => absurd (by decide) hc) | refine ok_in _ _ _ _ _ _ (fun h1 h2 => absurd (And.intro h1 h2) (by decide)) (fun _ => ?_) | (refine ok_began _ _ h20 r13 (by assumption) (by first | omega | (simp only [List.length_append, List.length_cons, List.length_nil]; omega)) (fun τ hM => ?_)))
    exact h1 rfl
  | 5, _, _, h2 =>
    intro X hX hV
    repeat (first | refine hX _ _ _ _ _ _ ?_ | refine Exists.intro _ (And.intro (by first | rfl | assumption) (And.intro (by first | assumption | exact fd_lt20 h20 (by decide) | exact md_lt (by assumption) h20 (by decide)) (And.intro (by first | rfl | assumption) ?_))) | refine And.intro (fun hc => absurd hc (by dsimp only [fd_icmp]; decide)) (fun _ => ?_) | refine And.intro (fun _ => ?_) (fun hc => absurd hc (by dsimp only [fd_icmp]; decide)) | refine And.intro (by decide) ?_ | refine md_iald (by assumption) h20 (by assumption) (by decide) rfl hi (by assumption) (by decide) (by decide) ?_ | refine ok_in _ _ _ _ _ _ (fun _ _ => ?_) (fun hc => absurd (by decide) hc) | refine ok_in _ _ _ _ _ _ (fun h1 h2 => absurd (And.intro h1 h2) (by decide)) (fun _ => ?_) | (refine ok_began _ _ h20 r13 (by assumption) (by first | omega | (simp only [List.length_append, List.length_cons, List.length_nil]; omega)) (fun τ hM => ?_)))
    exact h2 rfl
  | 6, _, h1, _ =>
    intro X hX hV
    repeat (first | refine hX _ _ _ _ _ _ ?_ | refine Exists.intro _ (And.intro (by first | rfl | assumption) (And.intro (by first | assumption | exact fd_lt20 h20 (by decide) | exact md_lt (by assumption) h20 (by decide)) (And.intro (by first | rfl | assumption) ?_))) | refine And.intro (fun hc => absurd hc (by dsimp only [fd_icmp]; decide)) (fun _ => ?_) | refine And.intro (fun _ => ?_) (fun hc => absurd hc (by dsimp only [fd_icmp]; decide)) | refine And.intro (by decide) ?_ | refine md_iald (by assumption) h20 (by assumption) (by decide) rfl hi (by assumption) (by decide) (by decide) ?_ | refine ok_in _ _ _ _ _ _ (fun _ _ => ?_) (fun hc => absurd (by decide) hc) | refine ok_in _ _ _ _ _ _ (fun h1 h2 => absurd (And.intro h1 h2) (by decide)) (fun _ => ?_) | (refine ok_began _ _ h20 r13 (by assumption) (by first | omega | (simp only [List.length_append, List.length_cons, List.length_nil]; omega)) (fun τ hM => ?_)))
    exact h1 rfl
theorem ok_mmarked (d k : Nat) (σ : fd_S) (post : Option fd_V → fd_S → Prop) (hk7 : k < 7) (h1 : mrk k = true → post (some (.inl 1)) σ) (h2 : mrk k = false → post (some (.inl 0)) σ) : fd_Sem (d + 1) 58 [.inl (nI k)] σ post := by
  intro X hX hV
  repeat refine hX _ _ _ _ _ _ ?_
  refine And.intro (fun hc => ?_) (fun hc => ?_) <;> try dsimp only [fd_icmp] at hc
  · have hc : nI k < nI 3 := hc
    rw [nI_ltI (by omega) (by omega)] at hc
    repeat refine hX _ _ _ _ _ _ ?_
    exact And.intro (Or.inl rfl) (h2 (by simp [mrk]; omega))
  · have hc : ¬ nI k < nI 3 := hc
    rw [nI_ltI (by omega) (by omega)] at hc
    repeat refine hX _ _ _ _ _ _ ?_
    exact And.intro (Or.inr rfl) (h1 (by simp [mrk]; omega))
theorem ok_isVehicle (d n : Nat) (x : Int32) (σ : fd_S) (post : Option fd_V → fd_S → Prop) (h20 : 20 ≤ σ.1) (hn : n ≤ 60) (h90 : σ.2.1 9 0 = nI n) (h1 : ∀ i, i < n → x = nI i → post (some (.inl 1)) σ) (h2 : (∀ i, i < n → x ≠ nI i) → post (some (.inl 0)) σ) : fd_Sem (d + 2) 49 [.inr (.inr (.inl (some 9))), .inl x] σ post := by
  intro X hX hV
  repeat (first | refine hX _ _ _ _ _ _ ?_ | refine Exists.intro _ (And.intro (by first | rfl | assumption) (And.intro (by first | assumption | exact fd_lt20 h20 (by decide)) (And.intro (by first | rfl | assumption) ?_))))
  rw [h90]
  refine ok_in _ _ _ _ _ _ (fun ha hb => ?_) (fun ha => ?_)
  · obtain ⟨i, hi, e⟩ := ix_of hn ha hb
    repeat refine hX _ _ _ _ _ _ ?_
    exact And.intro (Or.inr rfl) (h1 i hi e)
  · repeat refine hX _ _ _ _ _ _ ?_
    refine And.intro (Or.inl rfl) (h2 (fun i hi hx => ha ?_))
    rw [hx]
    exact ix_to hn hi
theorem ok_isLane (d : Nat) (x : Int32) (σ : fd_S) (post : Option fd_V → fd_S → Prop) (h1 : ∀ i, i < 4 → x = nI i → post (some (.inl 1)) σ) (h2 : (∀ i, i < 4 → x ≠ nI i) → post (some (.inl 0)) σ) : fd_Sem (d + 2) 50 [.inl x] σ post := by
  intro X hX hV
  repeat (first | refine hX _ _ _ _ _ _ ?_ | refine Exists.intro _ (And.intro (by first | rfl | assumption) (And.intro (by first | assumption | exact fd_lt20 h20 (by decide)) (And.intro (by first | rfl | assumption) ?_))))
  refine ok_in _ _ _ _ _ _ (fun ha hb => ?_) (fun ha => ?_)
  · rw [ix_4] at hb
    obtain ⟨i, hi, e⟩ := ix_of (by decide) ha hb
    repeat refine hX _ _ _ _ _ _ ?_
    exact And.intro (Or.inr rfl) (h1 i hi e)
  · repeat refine hX _ _ _ _ _ _ ?_
    refine And.intro (Or.inl rfl) (h2 (fun i hi hx => ha ?_))
    rw [hx, ix_4]
    exact ix_to (by decide) hi
theorem md_q {σ τ : fd_S} {t : Nat} {L : List Int32} (h : Md σ t L τ) : SE (JQ t) σ (fd_si τ 9 14 (σ.2.1 9 14)) := by
  refine ⟨h.1.1, h.1.2.1, h.1.2.2.1, fun i j hj => ?_⟩
  show fd_u τ.2.1 9 14 _ i j = _
  by_cases h9 : i = 9 ∧ j = 14
  · obtain ⟨rfl, rfl⟩ := h9
    rw [fd_u_eq]
  · have := h.1.2.2.2 i j (fun q => q.elim hj h9)
    rw [← this]
    unfold fd_u
    grind
theorem se_iald {P : Nat → Nat → Prop} {σ τ : fd_S} (h : SE P σ τ) (h20 : 20 ≤ σ.1) {f a n i : Nat} {x y : Int32} {X : fd_X} {nx : List fd_E} {lv : fd_L} {t : List fd_V} {cc ss : Nat} (hf : σ.2.2.1 9 f = some a) (ha : a < 20) (hs : fd_sh a = .inr (n, none)) (hy : y = nI i) (hi : i < n) (hx : σ.2.1 a i = x) (hP : ¬ P a i) (hn : n < 2 ^ 31) (k : X nx lv (.inl x :: t) τ cc ss) : fd_ial none X nx lv (.inl y :: .inr (.inr (.inl (τ.2.2.1 9 f))) :: t) τ cc ss := by
  subst hy
  have e : τ.2.1 a (nI i).toNatClampNeg = x := by
    rw [nI_clamp (by omega), h.2.2.2 a i hP]
    exact hx
  refine ⟨a, n, by rw [h.2.1]; exact hf, by rw [h.1]; omega, hs, vp_in_nI hi hn, ?_⟩
  rw [e]
  exact k
section
variable (d i k t : Nat) (sz ld s : Int32) (σ : fd_S) (post : Option fd_V → fd_S → Prop)
theorem ok_quiet_0 (hB : Mb σ) (hi : i < 60) (hk7 : k < 7) (hk : σ.2.1 10 i = nI k) (hs : σ.2.1 11 i = sz) (hl : σ.2.1 12 i = ld) (ht : σ.2.1 9 14 = nI t) (ht10 : t ≤ 10) (h1 : ∀ τ, SE (JQ t) σ τ → post (some (.inl (an_w k sz ld s 16 k 0).1)) τ) : fd_Sem (d + 5) 63 [.inr (.inr (.inl (some 9))), .inl (nI i), .inl 0, .inl s] σ post := by
  obtain ⟨h20, r1, r2, r3, r4, r5, r6, r7, r8, r9, r13⟩ := id hB
  have hM : Md σ t [] σ := ⟨SE.rf σ, by simpa using ht, fun j hj => by simp at hj⟩
  intro X hX hV
  repeat (first | refine hX _ _ _ _ _ _ ?_ | refine Exists.intro _ (And.intro (by first | rfl | assumption) (And.intro (by first | assumption | exact fd_lt20 h20 (by decide)) (And.intro (by first | rfl | assumption) ?_))))
  refine Or.inl (Exists.intro 0 (Exists.intro _ (And.intro rfl (And.intro (by decide) ?_))))
  repeat (first | refine hX _ _ _ _ _ _ ?_ | refine Exists.intro _ (And.intro (by first | rfl | assumption) (And.intro (by first | assumption | exact fd_lt20 h20 (by decide)) (And.intro (by first | rfl | assumption) ?_))))
  refine ok_mlen _ i t k sz ld s hB hi hk7 hk hs hl hM (by simp; omega) (fun τ hτ => ?_)
  have h9 : 9 < τ.1 := md_lt hτ h20 (by decide)
  repeat (first | refine hX _ _ _ _ _ _ ?_ | refine Exists.intro _ (And.intro (by first | rfl | assumption) (And.intro (by first | assumption | exact fd_lt20 h20 (by decide)) (And.intro (by first | rfl | assumption) ?_))))
  exact h1 _ (md_q hτ)
theorem ok_quiet_1 (hB : Mb σ) (hi : i < 60) (hk7 : k < 7) (hk : σ.2.1 10 i = nI k) (hs : σ.2.1 11 i = sz) (hl : σ.2.1 12 i = ld) (ht : σ.2.1 9 14 = nI t) (ht10 : t ≤ 10) (h1 : ∀ τ, SE (JQ t) σ τ → post (some (.inl (an_w k sz ld s 16 k 1).1)) τ) : fd_Sem (d + 5) 63 [.inr (.inr (.inl (some 9))), .inl (nI i), .inl 1, .inl s] σ post := by
  obtain ⟨h20, r1, r2, r3, r4, r5, r6, r7, r8, r9, r13⟩ := id hB
  have hM : Md σ t [] σ := ⟨SE.rf σ, by simpa using ht, fun j hj => by simp at hj⟩
  intro X hX hV
  repeat (first | refine hX _ _ _ _ _ _ ?_ | refine Exists.intro _ (And.intro (by first | rfl | assumption) (And.intro (by first | assumption | exact fd_lt20 h20 (by decide)) (And.intro (by first | rfl | assumption) ?_))))
  refine Or.inl (Exists.intro 1 (Exists.intro _ (And.intro rfl (And.intro (by decide) ?_))))
  repeat (first | refine hX _ _ _ _ _ _ ?_ | refine Exists.intro _ (And.intro (by first | rfl | assumption) (And.intro (by first | assumption | exact fd_lt20 h20 (by decide)) (And.intro (by first | rfl | assumption) ?_))))
  refine ok_mmass _ i t k sz ld s hB hi hk7 hk hs hl hM (by simp; omega) (fun τ hτ => ?_)
  have h9 : 9 < τ.1 := md_lt hτ h20 (by decide)
  repeat (first | refine hX _ _ _ _ _ _ ?_ | refine Exists.intro _ (And.intro (by first | rfl | assumption) (And.intro (by first | assumption | exact fd_lt20 h20 (by decide)) (And.intro (by first | rfl | assumption) ?_))))
  exact h1 _ (md_q hτ)
theorem ok_quiet_2 (hB : Mb σ) (hi : i < 60) (hk7 : k < 7) (hk : σ.2.1 10 i = nI k) (hs : σ.2.1 11 i = sz) (hl : σ.2.1 12 i = ld) (ht : σ.2.1 9 14 = nI t) (ht10 : t ≤ 10) (h1 : ∀ τ, SE (JQ t) σ τ → post (some (.inl (an_w k sz ld s 16 k 2).1)) τ) : fd_Sem (d + 5) 63 [.inr (.inr (.inl (some 9))), .inl (nI i), .inl 2, .inl s] σ post := by
  obtain ⟨h20, r1, r2, r3, r4, r5, r6, r7, r8, r9, r13⟩ := id hB
  have hM : Md σ t [] σ := ⟨SE.rf σ, by simpa using ht, fun j hj => by simp at hj⟩
  intro X hX hV
  repeat (first | refine hX _ _ _ _ _ _ ?_ | refine Exists.intro _ (And.intro (by first | rfl | assumption) (And.intro (by first | assumption | exact fd_lt20 h20 (by decide)) (And.intro (by first | rfl | assumption) ?_))))
  refine Or.inl (Exists.intro 2 (Exists.intro _ (And.intro rfl (And.intro (by decide) ?_))))
  repeat (first | refine hX _ _ _ _ _ _ ?_ | refine Exists.intro _ (And.intro (by first | rfl | assumption) (And.intro (by first | assumption | exact fd_lt20 h20 (by decide)) (And.intro (by first | rfl | assumption) ?_))))
  refine ok_mmin _ i t k sz ld s hB hi hk7 hk hs hl hM (by simp; omega) (fun τ hτ => ?_)
  have h9 : 9 < τ.1 := md_lt hτ h20 (by decide)
  repeat (first | refine hX _ _ _ _ _ _ ?_ | refine Exists.intro _ (And.intro (by first | rfl | assumption) (And.intro (by first | assumption | exact fd_lt20 h20 (by decide)) (And.intro (by first | rfl | assumption) ?_))))
  exact h1 _ (md_q hτ)
theorem ok_quiet_3 (hB : Mb σ) (hi : i < 60) (hk7 : k < 7) (hk : σ.2.1 10 i = nI k) (hs : σ.2.1 11 i = sz) (hl : σ.2.1 12 i = ld) (ht : σ.2.1 9 14 = nI t) (ht10 : t ≤ 10) (h1 : ∀ τ, SE (JQ t) σ τ → post (some (.inl (an_w k sz ld s 16 k 3).1)) τ) : fd_Sem (d + 5) 63 [.inr (.inr (.inl (some 9))), .inl (nI i), .inl 3, .inl s] σ post := by
  obtain ⟨h20, r1, r2, r3, r4, r5, r6, r7, r8, r9, r13⟩ := id hB
  have hM : Md σ t [] σ := ⟨SE.rf σ, by simpa using ht, fun j hj => by simp at hj⟩
  intro X hX hV
  repeat (first | refine hX _ _ _ _ _ _ ?_ | refine Exists.intro _ (And.intro (by first | rfl | assumption) (And.intro (by first | assumption | exact fd_lt20 h20 (by decide)) (And.intro (by first | rfl | assumption) ?_))))
  refine Or.inl (Exists.intro 3 (Exists.intro _ (And.intro rfl (And.intro (by decide) ?_))))
  repeat (first | refine hX _ _ _ _ _ _ ?_ | refine Exists.intro _ (And.intro (by first | rfl | assumption) (And.intro (by first | assumption | exact fd_lt20 h20 (by decide)) (And.intro (by first | rfl | assumption) ?_))))
  refine ok_mfare _ i t k sz ld s hB hi hk7 hk hs hl hM (by simp; omega) (fun τ hτ => ?_)
  have h9 : 9 < τ.1 := md_lt hτ h20 (by decide)
  repeat (first | refine hX _ _ _ _ _ _ ?_ | refine Exists.intro _ (And.intro (by first | rfl | assumption) (And.intro (by first | assumption | exact fd_lt20 h20 (by decide)) (And.intro (by first | rfl | assumption) ?_))))
  exact h1 _ (md_q hτ)
theorem ok_quiet_4 (hB : Mb σ) (hi : i < 60) (hk7 : k < 7) (hk : σ.2.1 10 i = nI k) (hs : σ.2.1 11 i = sz) (hl : σ.2.1 12 i = ld) (ht : σ.2.1 9 14 = nI t) (ht10 : t ≤ 10) (h1 : ∀ τ, SE (JQ t) σ τ → post (some (.inl (if hvy k = true then (an_w k sz ld s 16 k 4).1 else 0))) τ) : fd_Sem (d + 5) 63 [.inr (.inr (.inl (some 9))), .inl (nI i), .inl 4, .inl s] σ post := by
  obtain ⟨h20, r1, r2, r3, r4, r5, r6, r7, r8, r9, r13⟩ := id hB
  have hM : Md σ t [] σ := ⟨SE.rf σ, by simpa using ht, fun j hj => by simp at hj⟩
  intro X hX hV
  repeat (first | refine hX _ _ _ _ _ _ ?_ | refine Exists.intro _ (And.intro (by first | rfl | assumption) (And.intro (by first | assumption | exact fd_lt20 h20 (by decide)) (And.intro (by first | rfl | assumption) ?_))))
  refine Or.inl (Exists.intro 4 (Exists.intro _ (And.intro rfl (And.intro (by decide) ?_))))
  repeat (first | refine hX _ _ _ _ _ _ ?_ | refine Exists.intro _ (And.intro (by first | rfl | assumption) (And.intro (by first | assumption | exact fd_lt20 h20 (by decide)) (And.intro (by first | rfl | assumption) ?_))))
  refine se_iald (SE.rf (P := fun _ _ => False) σ) h20 r1 (by decide) rfl rfl hi hk id (by decide) ?_
  repeat (first | refine hX _ _ _ _ _ _ ?_ | refine Exists.intro _ (And.intro (by first | rfl | assumption) (And.intro (by first | assumption | exact fd_lt20 h20 (by decide)) (And.intro (by first | rfl | assumption) ?_))))
  refine ok_mheavy _ k _ _ hk7 (fun hh => ?_) (fun hh => ?_)
  · repeat refine hX _ _ _ _ _ _ ?_
    refine And.intro (fun hc => absurd (show (1 : Int32) = 0 from hc) (by decide)) (fun _ => ?_)
    repeat (first | refine hX _ _ _ _ _ _ ?_ | refine Exists.intro _ (And.intro (by first | rfl | assumption) (And.intro (by first | assumption | exact fd_lt20 h20 (by decide)) (And.intro (by first | rfl | assumption) ?_))))
    refine ok_mtoll _ i t k sz ld s hB hi hk7 hh hk hs hl hM (by simp; omega) (fun τ hτ => ?_)
    have h9 : 9 < τ.1 := md_lt hτ h20 (by decide)
    repeat (first | refine hX _ _ _ _ _ _ ?_ | refine Exists.intro _ (And.intro (by first | rfl | assumption) (And.intro (by first | assumption | exact fd_lt20 h20 (by decide)) (And.intro (by first | rfl | assumption) ?_))))
    have h1 := h1 _ (md_q hτ)
    rw [if_pos hh] at h1
    exact h1
  · repeat refine hX _ _ _ _ _ _ ?_
    refine And.intro (fun _ => ?_) (fun hc => absurd (show (0 : Int32) = 0 from rfl) hc)
    repeat (first | refine hX _ _ _ _ _ _ ?_ | refine Exists.intro _ (And.intro (by first | rfl | assumption) (And.intro (by first | assumption | exact fd_lt20 h20 (by decide)) (And.intro (by first | rfl | assumption) ?_))))
    have h1 := h1 _ (md_q hM)
    rw [if_neg (by rw [hh]; decide)] at h1
    exact h1
theorem ok_quiet_5 (hB : Mb σ) (hi : i < 60) (hk7 : k < 7) (hm : mrk k = true) (hk : σ.2.1 10 i = nI k) (hs : σ.2.1 11 i = sz) (hl : σ.2.1 12 i = ld) (ht : σ.2.1 9 14 = nI t) (ht10 : t ≤ 10) (h1 : ∀ τ, SE (JQ t) σ τ → post (some (.inl (an_w k sz ld s 16 k 5).1)) τ) : fd_Sem (d + 5) 63 [.inr (.inr (.inl (some 9))), .inl (nI i), .inl 5, .inl s] σ post := by
  obtain ⟨h20, r1, r2, r3, r4, r5, r6, r7, r8, r9, r13⟩ := id hB
  have hM : Md σ t [] σ := ⟨SE.rf σ, by simpa using ht, fun j hj => by simp at hj⟩
  intro X hX hV
  repeat (first | refine hX _ _ _ _ _ _ ?_ | refine Exists.intro _ (And.intro (by first | rfl | assumption) (And.intro (by first | assumption | exact fd_lt20 h20 (by decide)) (And.intro (by first | rfl | assumption) ?_))))
  refine Or.inr (And.intro (by decide) ?_)
  repeat (first | refine hX _ _ _ _ _ _ ?_ | refine Exists.intro _ (And.intro (by first | rfl | assumption) (And.intro (by first | assumption | exact fd_lt20 h20 (by decide)) (And.intro (by first | rfl | assumption) ?_))))
  refine ok_mdang _ i t k sz ld s hB hi hk7 hm hk hs hl hM (by simp; omega) (fun τ hτ => ?_)
  have h9 : 9 < τ.1 := md_lt hτ h20 (by decide)
  repeat (first | refine hX _ _ _ _ _ _ ?_ | refine Exists.intro _ (And.intro (by first | rfl | assumption) (And.intro (by first | assumption | exact fd_lt20 h20 (by decide)) (And.intro (by first | rfl | assumption) ?_))))
  exact h1 _ (md_q hτ)
end
end
section
/-- what stands k-th in lane l, and what the model says of vehicle i -/
def sv (σ : fd_S) (l k : Nat) : Nat := (σ.2.1 18 (60 * l + k)).toNatClampNeg
def kd (σ : fd_S) (i : Nat) : Nat := (σ.2.1 10 i).toNatClampNeg
def qv (σ : fd_S) (w : Nat) (s : Int32) (i : Nat) : Int32 := (an_w (kd σ i) (σ.2.1 11 i) (σ.2.1 12 i) s 16 (kd σ i) w).1
def Vi (σ : fd_S) (i : Nat) : Prop := i < 60 ∧ kd σ i < 7 ∧ σ.2.1 10 i = nI (kd σ i)
def Vs (σ : fd_S) (l m : Nat) : Prop := m ≤ 60 ∧ σ.2.1 17 l = nI m ∧ ∀ k, k < m → σ.2.1 18 (60 * l + k) = nI (sv σ l k) ∧ Vi σ (sv σ l k)
def sL (σ : fd_S) (l : Nat) : Nat → Int32
  | 0 => σ.2.1 15 l
  | k + 1 => sL σ l k - (qv σ 0 0 (sv σ l k) + 5)
def sM (σ : fd_S) (l : Nat) : Nat → Int32
  | 0 => 0
  | k + 1 => sM σ l k + qv σ 1 0 (sv σ l k)
def sN (σ : fd_S) (l : Nat) : Nat → Int32
  | 0 => 0
  | k + 1 => sN σ l k + qv σ 2 0 (sv σ l k)
theorem jq_ne {t i j : Nat} (h : i ≠ 19) : ¬ JQ t i j := fun q => h q.1
theorem sq_idx (l k : Nat) : (fun x y : Int32 => x + y) ((fun x y : Int32 => x * y) 60 (nI l)) (nI k) = nI (60 * l + k) := by
  show nI 60 * nI l + nI k = _
  rw [pk_mul, nI_add]
section
variable (d l m t : Nat) (σ : fd_S) (post : Option fd_V → fd_S → Prop)
theorem ok_leftLength (hB : Mb σ) (hl : l < 4) (hS : Vs σ l m) (ht : σ.2.1 9 14 = nI t) (ht10 : t ≤ 10) (h1 : ∀ τ, SE (JQ t) σ τ → post (some (.inl (sL σ l m))) τ) : fd_Sem (d + 6) 66 [.inr (.inr (.inl (some 9))), .inl (nI l)] σ post := by
  obtain ⟨h20, r1, r2, r3, r4, r5, r6, r7, r8, r9, r13⟩ := id hB
  obtain ⟨hm60, h17, hst⟩ := id hS
  intro X hX hV
  have loop : ∀ f k τ, f + k = m → SE (JQ t) σ τ → X ((fd_code 66).drop 7) [(3, .inl (nI k)), (2, .inl (sL σ l k)), (0, .inr (.inr (.inl (some 9)))), (1, .inl (nI l))] [] τ 0 0 := by
    intro f
    induction f with
    | zero =>
      intro k τ hk hτ
      have : k = m := by omega
      subst this
      have h9 : 9 < τ.1 := by rw [hτ.1]; omega
      repeat (first | refine hX _ _ _ _ _ _ ?_ | refine Exists.intro _ (And.intro (by first | rfl | assumption) (And.intro (by first | assumption | exact fd_lt20 h20 (by decide)) (And.intro (by first | rfl | assumption) ?_))))
      refine se_iald hτ h20 r8 (by decide) rfl rfl hl h17 (jq_ne (by decide)) (by decide) ?_
      repeat refine hX _ _ _ _ _ _ ?_
      refine And.intro (fun hc => ?_) (fun hc => ?_) <;> try dsimp only [fd_icmp] at hc
      · repeat refine hX _ _ _ _ _ _ ?_
        exact h1 τ hτ
      · exact absurd (nI_le (Nat.le_refl k) (by omega)) hc
    | succ f ih =>
      intro k τ hk hτ
      have h9 : 9 < τ.1 := by rw [hτ.1]; omega
      obtain ⟨hsk, hvi⟩ := hst k (by omega)
      repeat (first | refine hX _ _ _ _ _ _ ?_ | refine Exists.intro _ (And.intro (by first | rfl | assumption) (And.intro (by first | assumption | exact fd_lt20 h20 (by decide)) (And.intro (by first | rfl | assumption) ?_))))
      refine se_iald hτ h20 r8 (by decide) rfl rfl hl h17 (jq_ne (by decide)) (by decide) ?_
      repeat refine hX _ _ _ _ _ _ ?_
      refine And.intro (fun hc => ?_) (fun hc => ?_) <;> try dsimp only [fd_icmp] at hc
      · rw [nI_leI (by omega) (by omega)] at hc
        omega
      · repeat (first | refine hX _ _ _ _ _ _ ?_ | refine Exists.intro _ (And.intro (by first | rfl | assumption) (And.intro (by first | assumption | exact fd_lt20 h20 (by decide)) (And.intro (by first | rfl | assumption) ?_))))
        refine se_iald hτ h20 r9 (by decide) rfl (sq_idx l k) (by omega) hsk (jq_ne (by decide)) (by decide) ?_
        repeat (first | refine hX _ _ _ _ _ _ ?_ | refine Exists.intro _ (And.intro (by first | rfl | assumption) (And.intro (by first | assumption | exact fd_lt20 h20 (by decide)) (And.intro (by first | rfl | assumption) ?_))))
        have hBτ : Mb τ := by unfold Mb; rw [hτ.1, hτ.2.1]; exact hB
        refine ok_quiet_0 d _ (kd σ (sv σ l k)) t (σ.2.1 11 (sv σ l k)) (σ.2.1 12 (sv σ l k)) 0 τ _ hBτ hvi.1 hvi.2.1 ?_ ?_ ?_ ?_ ht10 (fun τ2 hτ2 => ?_)
        · rw [hτ.2.2.2 10 _ (jq_ne (by decide))]; exact hvi.2.2
        · exact hτ.2.2.2 11 _ (jq_ne (by decide))
        · exact hτ.2.2.2 12 _ (jq_ne (by decide))
        · rw [hτ.2.2.2 9 14 (jq_ne (by decide))]; exact ht
        · iterate 6 refine hX _ _ _ _ _ _ ?_
          exact hV _ _ [(3, .inl (nI (k + 1))), (2, .inl (sL σ l (k + 1))), (0, .inr (.inr (.inl (some 9)))), (1, .inl (nI l))] _ _ _ _ (And.intro (congrArg (fun x => some (Sum.inl x)) (nI_1 k)) (And.intro rfl (And.intro rfl (And.intro rfl trivial)))) (ih (k + 1) τ2 (by omega) (hτ.trans hτ2))
  repeat (first | refine hX _ _ _ _ _ _ ?_ | refine Exists.intro _ (And.intro (by first | rfl | assumption) (And.intro (by first | assumption | exact fd_lt20 h20 (by decide)) (And.intro (by first | rfl | assumption) ?_))))
  refine se_iald (SE.rf (P := fun _ _ => False) σ) h20 r6 (by decide) rfl rfl hl rfl id (by decide) ?_
  iterate 3 refine hX _ _ _ _ _ _ ?_
  exact loop m 0 σ rfl (SE.rf σ)
theorem ok_carried (hB : Mb σ) (hl : l < 4) (hS : Vs σ l m) (ht : σ.2.1 9 14 = nI t) (ht10 : t ≤ 10) (h1 : ∀ τ, SE (JQ t) σ τ → post (some (.inl (sM σ l m))) τ) : fd_Sem (d + 6) 67 [.inr (.inr (.inl (some 9))), .inl (nI l)] σ post := by
  obtain ⟨h20, r1, r2, r3, r4, r5, r6, r7, r8, r9, r13⟩ := id hB
  obtain ⟨hm60, h17, hst⟩ := id hS
  intro X hX hV
  have loop : ∀ f k τ, f + k = m → SE (JQ t) σ τ → X ((fd_code 67).drop 4) [(3, .inl (nI k)), (2, .inl (sM σ l k)), (0, .inr (.inr (.inl (some 9)))), (1, .inl (nI l))] [] τ 0 0 := by
    intro f
    induction f with
    | zero =>
      intro k τ hk hτ
      have : k = m := by omega
      subst this
      have h9 : 9 < τ.1 := by rw [hτ.1]; omega
      repeat (first | refine hX _ _ _ _ _ _ ?_ | refine Exists.intro _ (And.intro (by first | rfl | assumption) (And.intro (by first | assumption | exact fd_lt20 h20 (by decide)) (And.intro (by first | rfl | assumption) ?_))))
      refine se_iald hτ h20 r8 (by decide) rfl rfl hl h17 (jq_ne (by decide)) (by decide) ?_
      repeat refine hX _ _ _ _ _ _ ?_
      refine And.intro (fun hc => ?_) (fun hc => ?_) <;> try dsimp only [fd_icmp] at hc
      · repeat refine hX _ _ _ _ _ _ ?_
        exact h1 τ hτ
      · exact absurd (nI_le (Nat.le_refl k) (by omega)) hc
    | succ f ih =>
      intro k τ hk hτ
      have h9 : 9 < τ.1 := by rw [hτ.1]; omega
      obtain ⟨hsk, hvi⟩ := hst k (by omega)
      repeat (first | refine hX _ _ _ _ _ _ ?_ | refine Exists.intro _ (And.intro (by first | rfl | assumption) (And.intro (by first | assumption | exact fd_lt20 h20 (by decide)) (And.intro (by first | rfl | assumption) ?_))))
      refine se_iald hτ h20 r8 (by decide) rfl rfl hl h17 (jq_ne (by decide)) (by decide) ?_
      repeat refine hX _ _ _ _ _ _ ?_
      refine And.intro (fun hc => ?_) (fun hc => ?_) <;> try dsimp only [fd_icmp] at hc
      · rw [nI_leI (by omega) (by omega)] at hc
        omega
      · repeat (first | refine hX _ _ _ _ _ _ ?_ | refine Exists.intro _ (And.intro (by first | rfl | assumption) (And.intro (by first | assumption | exact fd_lt20 h20 (by decide)) (And.intro (by first | rfl | assumption) ?_))))
        refine se_iald hτ h20 r9 (by decide) rfl (sq_idx l k) (by omega) hsk (jq_ne (by decide)) (by decide) ?_
        repeat (first | refine hX _ _ _ _ _ _ ?_ | refine Exists.intro _ (And.intro (by first | rfl | assumption) (And.intro (by first | assumption | exact fd_lt20 h20 (by decide)) (And.intro (by first | rfl | assumption) ?_))))
        have hBτ : Mb τ := by unfold Mb; rw [hτ.1, hτ.2.1]; exact hB
        refine ok_quiet_1 d _ (kd σ (sv σ l k)) t (σ.2.1 11 (sv σ l k)) (σ.2.1 12 (sv σ l k)) 0 τ _ hBτ hvi.1 hvi.2.1 ?_ ?_ ?_ ?_ ht10 (fun τ2 hτ2 => ?_)
        · rw [hτ.2.2.2 10 _ (jq_ne (by decide))]; exact hvi.2.2
        · exact hτ.2.2.2 11 _ (jq_ne (by decide))
        · exact hτ.2.2.2 12 _ (jq_ne (by decide))
        · rw [hτ.2.2.2 9 14 (jq_ne (by decide))]; exact ht
        · iterate 4 refine hX _ _ _ _ _ _ ?_
          exact hV _ _ [(3, .inl (nI (k + 1))), (2, .inl (sM σ l (k + 1))), (0, .inr (.inr (.inl (some 9)))), (1, .inl (nI l))] _ _ _ _ (And.intro (congrArg (fun x => some (Sum.inl x)) (nI_1 k)) (And.intro rfl (And.intro rfl (And.intro rfl trivial)))) (ih (k + 1) τ2 (by omega) (hτ.trans hτ2))
  iterate 4 refine hX _ _ _ _ _ _ ?_
  exact loop m 0 σ rfl (SE.rf σ)
theorem ok_lasts (hB : Mb σ) (hl : l < 4) (hS : Vs σ l m) (ht : σ.2.1 9 14 = nI t) (ht10 : t ≤ 10) (h1 : ∀ τ, SE (JQ t) σ τ → post (some (.inl (sN σ l m))) τ) : fd_Sem (d + 6) 68 [.inr (.inr (.inl (some 9))), .inl (nI l)] σ post := by
  obtain ⟨h20, r1, r2, r3, r4, r5, r6, r7, r8, r9, r13⟩ := id hB
  obtain ⟨hm60, h17, hst⟩ := id hS
  intro X hX hV
  have loop : ∀ f k τ, f + k = m → SE (JQ t) σ τ → X ((fd_code 68).drop 4) [(3, .inl (nI k)), (2, .inl (sN σ l k)), (0, .inr (.inr (.inl (some 9)))), (1, .inl (nI l))] [] τ 0 0 := by
    intro f
    induction f with
    | zero =>
      intro k τ hk hτ
      have : k = m := by omega
      subst this
      have h9 : 9 < τ.1 := by rw [hτ.1]; omega
      repeat (first | refine hX _ _ _ _ _ _ ?_ | refine Exists.intro _ (And.intro (by first | rfl | assumption) (And.intro (by first | assumption | exact fd_lt20 h20 (by decide)) (And.intro (by first | rfl | assumption) ?_))))
      refine se_iald hτ h20 r8 (by decide) rfl rfl hl h17 (jq_ne (by decide)) (by decide) ?_
      repeat refine hX _ _ _ _ _ _ ?_
      refine And.intro (fun hc => ?_) (fun hc => ?_) <;> try dsimp only [fd_icmp] at hc
      · repeat refine hX _ _ _ _ _ _ ?_
        exact h1 τ hτ
      · exact absurd (nI_le (Nat.le_refl k) (by omega)) hc
    | succ f ih =>
      intro k τ hk hτ
      have h9 : 9 < τ.1 := by rw [hτ.1]; omega
      obtain ⟨hsk, hvi⟩ := hst k (by omega)
      repeat (first | refine hX _ _ _ _ _ _ ?_ | refine Exists.intro _ (And.intro (by first | rfl | assumption) (And.intro (by first | assumption | exact fd_lt20 h20 (by decide)) (And.intro (by first | rfl | assumption) ?_))))
      refine se_iald hτ h20 r8 (by decide) rfl rfl hl h17 (jq_ne (by decide)) (by decide) ?_
      repeat refine hX _ _ _ _ _ _ ?_
      refine And.intro (fun hc => ?_) (fun hc => ?_) <;> try dsimp only [fd_icmp] at hc
      · rw [nI_leI (by omega) (by omega)] at hc
        omega
      · repeat (first | refine hX _ _ _ _ _ _ ?_ | refine Exists.intro _ (And.intro (by first | rfl | assumption) (And.intro (by first | assumption | exact fd_lt20 h20 (by decide)) (And.intro (by first | rfl | assumption) ?_))))
        refine se_iald hτ h20 r9 (by decide) rfl (sq_idx l k) (by omega) hsk (jq_ne (by decide)) (by decide) ?_
        repeat (first | refine hX _ _ _ _ _ _ ?_ | refine Exists.intro _ (And.intro (by first | rfl | assumption) (And.intro (by first | assumption | exact fd_lt20 h20 (by decide)) (And.intro (by first | rfl | assumption) ?_))))
        have hBτ : Mb τ := by unfold Mb; rw [hτ.1, hτ.2.1]; exact hB
        refine ok_quiet_2 d _ (kd σ (sv σ l k)) t (σ.2.1 11 (sv σ l k)) (σ.2.1 12 (sv σ l k)) 0 τ _ hBτ hvi.1 hvi.2.1 ?_ ?_ ?_ ?_ ht10 (fun τ2 hτ2 => ?_)
        · rw [hτ.2.2.2 10 _ (jq_ne (by decide))]; exact hvi.2.2
        · exact hτ.2.2.2 11 _ (jq_ne (by decide))
        · exact hτ.2.2.2 12 _ (jq_ne (by decide))
        · rw [hτ.2.2.2 9 14 (jq_ne (by decide))]; exact ht
        · iterate 4 refine hX _ _ _ _ _ _ ?_
          exact hV _ _ [(3, .inl (nI (k + 1))), (2, .inl (sN σ l (k + 1))), (0, .inr (.inr (.inl (some 9)))), (1, .inl (nI l))] _ _ _ _ (And.intro (congrArg (fun x => some (Sum.inl x)) (nI_1 k)) (And.intro rfl (And.intro rfl (And.intro rfl trivial)))) (ih (k + 1) τ2 (by omega) (hτ.trans hτ2))
  iterate 4 refine hX _ _ _ _ _ _ ?_
  exact loop m 0 σ rfl (SE.rf σ)
end
end
section
theorem c_season (d : Nat) (x : Int32) (σ : fd_S) (post : Option fd_V → fd_S → Prop) (h20 : 20 ≤ σ.1) (h1 : 0 ≤ x → x ≤ 3 → post (some (.inl (σ.2.1 0 4))) (fd_si σ 0 4 x)) (h2 : ¬ (0 ≤ x ∧ x ≤ 3) → post (some (.inl (-2))) σ) : fd_Sem (d + 2) 28 [.inr (.inr (.inl (some 0))), .inl x] σ post := by
  intro X hX hV
  repeat (first | refine hX _ _ _ _ _ _ ?_ | refine Exists.intro _ (And.intro (by first | rfl | assumption) (And.intro (by first | assumption | exact fd_lt20 h20 (by decide)) (And.intro (by first | rfl | assumption) ?_))))
  refine ok_within _ _ _ _ _ _ (fun ha hb => ?_) (fun ha => ?_)
  · repeat refine hX _ _ _ _ _ _ ?_
    refine And.intro (fun _ => ?_) (fun hc => absurd (show (1 : Int32) = 0 from hc) (by decide))
    repeat (first | refine hX _ _ _ _ _ _ ?_ | refine Exists.intro _ (And.intro (by first | rfl | assumption) (And.intro (by first | assumption | exact fd_lt20 h20 (by decide)) (And.intro (by first | rfl | assumption) ?_))))
    exact h1 ha hb
  · repeat refine hX _ _ _ _ _ _ ?_
    refine And.intro (fun hc => absurd (show (0 : Int32) = 0 from rfl) hc) (fun _ => ?_)
    repeat (first | refine hX _ _ _ _ _ _ ?_ | refine Exists.intro _ (And.intro (by first | rfl | assumption) (And.intro (by first | assumption | exact fd_lt20 h20 (by decide)) (And.intro (by first | rfl | assumption) ?_))))
    exact h2 ha
theorem m_season (d : Nat) (x : Int32) (σ : fd_S) (post : Option fd_V → fd_S → Prop) (h20 : 20 ≤ σ.1) (h1 : 0 ≤ x → x ≤ 3 → post (some (.inl (σ.2.1 9 10))) (fd_si σ 9 10 x)) (h2 : ¬ (0 ≤ x ∧ x ≤ 3) → post (some (.inl (-2))) σ) : fd_Sem (d + 2) 65 [.inr (.inr (.inl (some 9))), .inl x] σ post := by
  intro X hX hV
  repeat (first | refine hX _ _ _ _ _ _ ?_ | refine Exists.intro _ (And.intro (by first | rfl | assumption) (And.intro (by first | assumption | exact fd_lt20 h20 (by decide)) (And.intro (by first | rfl | assumption) ?_))))
  refine ok_in _ _ _ _ _ _ (fun ha hb => ?_) (fun ha => ?_)
  · repeat refine hX _ _ _ _ _ _ ?_
    refine And.intro (fun _ => ?_) (fun hc => absurd (show (1 : Int32) = 0 from hc) (by decide))
    repeat (first | refine hX _ _ _ _ _ _ ?_ | refine Exists.intro _ (And.intro (by first | rfl | assumption) (And.intro (by first | assumption | exact fd_lt20 h20 (by decide)) (And.intro (by first | rfl | assumption) ?_))))
    exact h1 ha hb
  · repeat refine hX _ _ _ _ _ _ ?_
    refine And.intro (fun hc => absurd (show (0 : Int32) = 0 from rfl) hc) (fun _ => ?_)
    repeat (first | refine hX _ _ _ _ _ _ ?_ | refine Exists.intro _ (And.intro (by first | rfl | assumption) (And.intro (by first | assumption | exact fd_lt20 h20 (by decide)) (And.intro (by first | rfl | assumption) ?_))))
    exact h2 ha
theorem c_till (d : Nat) (σ : fd_S) (post : Option fd_V → fd_S → Prop) (h20 : 20 ≤ σ.1) (h1 : post (some (.inr (.inl (σ.2.2.2 0 6)))) σ) : fd_Sem (d + 1) 36 [.inr (.inr (.inl (some 0)))] σ post := by
  intro X hX hV
  repeat (first | refine hX _ _ _ _ _ _ ?_ | refine Exists.intro _ (And.intro (by first | rfl | assumption) (And.intro (by first | assumption | exact fd_lt20 h20 (by decide)) (And.intro (by first | rfl | assumption) ?_))))
  exact h1
theorem m_till (d : Nat) (σ : fd_S) (post : Option fd_V → fd_S → Prop) (h20 : 20 ≤ σ.1) (h1 : post (some (.inr (.inl (σ.2.2.2 9 12)))) σ) : fd_Sem (d + 1) 78 [.inr (.inr (.inl (some 9)))] σ post := by
  intro X hX hV
  repeat (first | refine hX _ _ _ _ _ _ ?_ | refine Exists.intro _ (And.intro (by first | rfl | assumption) (And.intro (by first | assumption | exact fd_lt20 h20 (by decide)) (And.intro (by first | rfl | assumption) ?_))))
  exact h1
theorem c_back (d n : Nat) (x : Int32) (σ : fd_S) (post : Option fd_V → fd_S → Prop) (hB : fd_B σ n) (h0 : (∀ i, i < n → x ≠ nI i) → post (some (.inl (-2))) σ) (h1 : ∀ i, i < n → x = nI i → σ.2.1 (20 + i) 9 = 2 → post (some (.inl 1)) (fd_si σ (20 + i) 9 0)) (h2 : ∀ i, i < n → x = nI i → ¬ σ.2.1 (20 + i) 9 = 2 → post (some (.inl (-3))) σ) : fd_Sem (d + 3) 32 [.inr (.inr (.inl (some 0))), .inl x] σ post := by
  obtain ⟨h20, hN, hn, hcn, r0, r2, r3, r30, hva, hla⟩ := id hB
  intro X hX hV
  repeat (first | refine hX _ _ _ _ _ _ ?_ | refine Exists.intro _ (And.intro (by first | rfl | assumption) (And.intro (by first | assumption | exact fd_lt20 h20 (by decide)) (And.intro (by first | rfl | assumption) ?_))))
  refine ok_vehicleAt _ _ n _ _ hB (fun i hi e => ?_) (fun hno => ?_)
  · have hv : 20 + i < σ.1 := by omega
    have hs := fd_shV i
    repeat refine hX _ _ _ _ _ _ ?_
    refine And.intro (fun _ => ?_) (fun hc => by cases hc)
    repeat (first | refine hX _ _ _ _ _ _ ?_ | refine Exists.intro _ (And.intro (by first | rfl | assumption) (And.intro (by first | assumption | exact fd_lt20 h20 (by decide)) (And.intro (by first | rfl | assumption) ?_))))
    refine And.intro (fun hc => ?_) (fun hc => ?_) <;> try dsimp only [fd_icmp] at hc
    · repeat (first | refine hX _ _ _ _ _ _ ?_ | refine Exists.intro _ (And.intro (by first | rfl | assumption) (And.intro (by first | assumption | exact fd_lt20 h20 (by decide)) (And.intro (by first | rfl | assumption) ?_))))
      exact h1 i hi e hc
    · repeat (first | refine hX _ _ _ _ _ _ ?_ | refine Exists.intro _ (And.intro (by first | rfl | assumption) (And.intro (by first | assumption | exact fd_lt20 h20 (by decide)) (And.intro (by first | rfl | assumption) ?_))))
      exact h2 i hi e hc
  · repeat refine hX _ _ _ _ _ _ ?_
    refine And.intro (fun hc => absurd rfl hc) (fun _ => ?_)
    repeat refine hX _ _ _ _ _ _ ?_
    exact h0 hno
theorem m_back (d n : Nat) (x : Int32) (σ : fd_S) (post : Option fd_V → fd_S → Prop) (hB : Mb σ) (hn : n ≤ 60) (h90 : σ.2.1 9 0 = nI n) (h0 : (∀ i, i < n → x ≠ nI i) → post (some (.inl (-2))) σ) (h1 : ∀ i, i < n → x = nI i → σ.2.1 13 i = 2 → post (some (.inl 1)) (fd_si σ 13 i 0)) (h2 : ∀ i, i < n → x = nI i → ¬ σ.2.1 13 i = 2 → post (some (.inl (-3))) σ) : fd_Sem (d + 3) 72 [.inr (.inr (.inl (some 9))), .inl x] σ post := by
  obtain ⟨h20, r1, r2, r3, r4, r5, r6, r7, r8, r9, r13⟩ := id hB
  intro X hX hV
  repeat (first | refine hX _ _ _ _ _ _ ?_ | refine Exists.intro _ (And.intro (by first | rfl | assumption) (And.intro (by first | assumption | exact fd_lt20 h20 (by decide)) (And.intro (by first | rfl | assumption) ?_))))
  refine ok_isVehicle _ n _ _ _ h20 hn h90 (fun i hi e => ?_) (fun hno => ?_)
  · subst e
    repeat refine hX _ _ _ _ _ _ ?_
    refine And.intro (fun _ => ?_) (fun hc => absurd (show (1 : Int32) = 0 from hc) (by decide))
    repeat (first | refine hX _ _ _ _ _ _ ?_ | refine Exists.intro _ (And.intro (by first | rfl | assumption) (And.intro (by first | assumption | exact fd_lt20 h20 (by decide)) (And.intro (by first | rfl | assumption) ?_))))
    refine se_iald (SE.rf (P := fun _ _ => False) σ) h20 r4 (by decide) rfl rfl (show i < 60 by omega) rfl id (by decide) ?_
    repeat refine hX _ _ _ _ _ _ ?_
    refine And.intro (fun hc => ?_) (fun hc => ?_) <;> try dsimp only [fd_icmp] at hc
    · repeat (first | refine hX _ _ _ _ _ _ ?_ | refine Exists.intro _ (And.intro (by first | rfl | assumption) (And.intro (by first | assumption | exact fd_lt20 h20 (by decide)) (And.intro (by first | rfl | assumption) ?_))))
      refine Exists.intro _ (Exists.intro _ (And.intro (by first | rfl | assumption) (And.intro (by first | assumption | exact fd_lt20 h20 (by decide)) (And.intro (by first | rfl | assumption) (And.intro (vp_in_nI (show i < 60 by omega) (by decide)) ?_)))))
      repeat refine hX _ _ _ _ _ _ ?_
      have h1 := h1 i hi rfl hc
      rw [← nI_clamp (show i < 2 ^ 31 by omega)] at h1
      exact h1
    · repeat refine hX _ _ _ _ _ _ ?_
      exact h2 i hi rfl hc
  · repeat refine hX _ _ _ _ _ _ ?_
    refine And.intro (fun hc => absurd (show (0 : Int32) = 0 from rfl) hc) (fun _ => ?_)
    repeat refine hX _ _ _ _ _ _ ?_
    exact h0 hno
theorem c_lane (d n : Nat) (x len bea : Int32) (σ : fd_S) (post : Option fd_V → fd_S → Prop) (hB : fd_B σ n) (h0 : ¬ ((∃ l, l < 4 ∧ x = nI l) ∧ (0 ≤ len ∧ len ≤ 2000) ∧ (0 ≤ bea ∧ bea ≤ 200000)) → post (some (.inl (-2))) σ) (h1 : ∀ l, l < 4 → x = nI l → 0 ≤ len → len ≤ 2000 → 0 ≤ bea → bea ≤ 200000 → σ.2.1 (5 + l) 6 ≤ 0 → post (some (.inl 1)) (fd_si (fd_si σ (5 + l) 1 len) (5 + l) 2 bea)) (h2 : ∀ l, l < 4 → x = nI l → 0 ≤ len → len ≤ 2000 → 0 ≤ bea → bea ≤ 200000 → ¬ σ.2.1 (5 + l) 6 ≤ 0 → post (some (.inl (-3))) σ) : fd_Sem (d + 3) 27 [.inr (.inr (.inl (some 0))), .inl x, .inl len, .inl bea] σ post := by
  obtain ⟨h20, hN, hn, hcn, r0, r2, r3, r30, hva, hla⟩ := id hB
  intro X hX hV
  repeat (first | refine hX _ _ _ _ _ _ ?_ | refine Exists.intro _ (And.intro (by first | rfl | assumption) (And.intro (by first | assumption | exact fd_lt20 h20 (by decide)) (And.intro (by first | rfl | assumption) ?_))))
  refine ok_laneAt _ _ n _ _ hB (fun l hl e => ?_) (fun hno => ?_)
  · have hv : 5 + l < σ.1 := by omega
    have hs := fd_sh_lane hl
    repeat refine hX _ _ _ _ _ _ ?_
    refine And.intro (fun hc => by cases hc) (fun _ => ?_)
    repeat refine hX _ _ _ _ _ _ ?_
    refine ok_within _ _ _ _ _ _ (fun ha hb => ?_) (fun ha => ?_)
    · repeat refine hX _ _ _ _ _ _ ?_
      refine And.intro (fun hc => absurd (show (1 : Int32) = 0 from hc) (by decide)) (fun _ => ?_)
      repeat refine hX _ _ _ _ _ _ ?_
      refine ok_within _ _ _ _ _ _ (fun hc hd => ?_) (fun hc => ?_)
      · repeat refine hX _ _ _ _ _ _ ?_
        refine And.intro (fun _ => ?_) (fun hc => absurd (show (1 : Int32) = 0 from hc) (by decide))
        repeat (first | refine hX _ _ _ _ _ _ ?_ | refine Exists.intro _ (And.intro (by first | rfl | assumption) (And.intro (by first | assumption | exact fd_lt20 h20 (by decide)) (And.intro (by first | rfl | assumption) ?_))))
        refine And.intro (fun h6 => ?_) (fun h6 => ?_)
        · repeat (first | refine hX _ _ _ _ _ _ ?_ | refine Exists.intro _ (And.intro (by first | rfl | assumption) (And.intro (by first | assumption | exact fd_lt20 h20 (by decide)) (And.intro (by first | rfl | assumption) ?_))))
          exact h1 l hl e ha hb hc hd h6
        · repeat (first | refine hX _ _ _ _ _ _ ?_ | refine Exists.intro _ (And.intro (by first | rfl | assumption) (And.intro (by first | assumption | exact fd_lt20 h20 (by decide)) (And.intro (by first | rfl | assumption) ?_))))
          exact h2 l hl e ha hb hc hd h6
      · repeat refine hX _ _ _ _ _ _ ?_
        refine And.intro (fun hc => absurd (show (0 : Int32) = 0 from rfl) hc) (fun _ => ?_)
        repeat refine hX _ _ _ _ _ _ ?_
        exact h0 (fun q => hc q.2.2)
    · repeat refine hX _ _ _ _ _ _ ?_
      refine And.intro (fun _ => ?_) (fun hc => absurd (show (0 : Int32) = 0 from rfl) hc)
      repeat refine hX _ _ _ _ _ _ ?_
      exact h0 (fun q => ha q.2.1)
  · repeat refine hX _ _ _ _ _ _ ?_
    refine And.intro (fun _ => ?_) (fun hc => absurd rfl hc)
    repeat refine hX _ _ _ _ _ _ ?_
    exact h0 (fun ⟨⟨l, hl, e⟩, _⟩ => hno l hl e)
theorem m_lane (d : Nat) (x len bea : Int32) (σ : fd_S) (post : Option fd_V → fd_S → Prop) (hB : Mb σ) (h0 : ¬ ((∃ l, l < 4 ∧ x = nI l) ∧ (0 ≤ len ∧ len ≤ 2000) ∧ (0 ≤ bea ∧ bea ≤ 200000)) → post (some (.inl (-2))) σ) (h1 : ∀ l, l < 4 → x = nI l → 0 ≤ len → len ≤ 2000 → 0 ≤ bea → bea ≤ 200000 → σ.2.1 17 l ≤ 0 → post (some (.inl 1)) (fd_si (fd_si σ 15 l len) 16 l bea)) (h2 : ∀ l, l < 4 → x = nI l → 0 ≤ len → len ≤ 2000 → 0 ≤ bea → bea ≤ 200000 → ¬ σ.2.1 17 l ≤ 0 → post (some (.inl (-3))) σ) : fd_Sem (d + 3) 64 [.inr (.inr (.inl (some 9))), .inl x, .inl len, .inl bea] σ post := by
  obtain ⟨h20, r1, r2, r3, r4, r5, r6, r7, r8, r9, r13⟩ := id hB
  intro X hX hV
  repeat (first | refine hX _ _ _ _ _ _ ?_ | refine Exists.intro _ (And.intro (by first | rfl | assumption) (And.intro (by first | assumption | exact fd_lt20 h20 (by decide)) (And.intro (by first | rfl | assumption) ?_))))
  refine ok_isLane _ _ _ _ (fun l hl e => ?_) (fun hno => ?_)
  · subst e
    repeat refine hX _ _ _ _ _ _ ?_
    refine And.intro (fun hc => absurd (show (1 : Int32) = 0 from hc) (by decide)) (fun _ => ?_)
    repeat refine hX _ _ _ _ _ _ ?_
    refine ok_in _ _ _ _ _ _ (fun ha hb => ?_) (fun ha => ?_)
    · repeat refine hX _ _ _ _ _ _ ?_
      refine And.intro (fun hc => absurd (show (1 : Int32) = 0 from hc) (by decide)) (fun _ => ?_)
      repeat refine hX _ _ _ _ _ _ ?_
      refine ok_in _ _ _ _ _ _ (fun hc hd => ?_) (fun hc => ?_)
      · repeat refine hX _ _ _ _ _ _ ?_
        refine And.intro (fun _ => ?_) (fun hc => absurd (show (1 : Int32) = 0 from hc) (by decide))
        repeat (first | refine hX _ _ _ _ _ _ ?_ | refine Exists.intro _ (And.intro (by first | rfl | assumption) (And.intro (by first | assumption | exact fd_lt20 h20 (by decide)) (And.intro (by first | rfl | assumption) ?_))))
        refine se_iald (SE.rf (P := fun _ _ => False) σ) h20 r8 (by decide) rfl rfl hl rfl id (by decide) ?_
        repeat refine hX _ _ _ _ _ _ ?_
        refine And.intro (fun h6 => ?_) (fun h6 => ?_)
        · repeat (first | refine hX _ _ _ _ _ _ ?_ | refine Exists.intro _ (And.intro (by first | rfl | assumption) (And.intro (by first | assumption | exact fd_lt20 h20 (by decide)) (And.intro (by first | rfl | assumption) ?_))))
          refine Exists.intro _ (Exists.intro _ (And.intro (by first | rfl | assumption) (And.intro (by first | assumption | exact fd_lt20 h20 (by decide)) (And.intro (by first | rfl | assumption) (And.intro (vp_in_nI hl (by decide)) ?_)))))
          repeat (first | refine hX _ _ _ _ _ _ ?_ | refine Exists.intro _ (And.intro (by first | rfl | assumption) (And.intro (by first | assumption | exact fd_lt20 h20 (by decide)) (And.intro (by first | rfl | assumption) ?_))))
          refine Exists.intro _ (Exists.intro _ (And.intro (by first | rfl | assumption) (And.intro (by first | assumption | exact fd_lt20 h20 (by decide)) (And.intro (by first | rfl | assumption) (And.intro (vp_in_nI hl (by decide)) ?_)))))
          repeat refine hX _ _ _ _ _ _ ?_
          have h1 := h1 l hl rfl ha hb hc hd h6
          rw [← nI_clamp (show l < 2 ^ 31 by omega)] at h1
          exact h1
        · repeat (first | refine hX _ _ _ _ _ _ ?_ | refine Exists.intro _ (And.intro (by first | rfl | assumption) (And.intro (by first | assumption | exact fd_lt20 h20 (by decide)) (And.intro (by first | rfl | assumption) ?_))))
          exact h2 l hl rfl ha hb hc hd h6
      · repeat refine hX _ _ _ _ _ _ ?_
        refine And.intro (fun hc => absurd (show (0 : Int32) = 0 from rfl) hc) (fun _ => ?_)
        repeat refine hX _ _ _ _ _ _ ?_
        exact h0 (fun q => hc q.2.2)
    · repeat refine hX _ _ _ _ _ _ ?_
      refine And.intro (fun _ => ?_) (fun hc => absurd (show (0 : Int32) = 0 from rfl) hc)
      repeat refine hX _ _ _ _ _ _ ?_
      exact h0 (fun q => ha q.2.1)
  · repeat refine hX _ _ _ _ _ _ ?_
    refine And.intro (fun _ => ?_) (fun hc => absurd (show (0 : Int32) = 0 from rfl) hc)
    repeat refine hX _ _ _ _ _ _ ?_
    exact h0 (fun ⟨⟨l, hl, e⟩, _⟩ => hno l hl e)
theorem c_trace (d : Nat) (x : Int32) (σ : fd_S) (post : Option fd_V → fd_S → Prop) (h20 : 20 ≤ σ.1) (r03 : σ.2.2.1 0 3 = some 3) (r30 : σ.2.2.1 3 0 = some 4) (tl : Nat) (htl : tl ≤ 10) (h31 : σ.2.1 3 1 = nI tl) (h1 : ∀ i, i < tl → x = nI i → post (some (.inl (σ.2.1 4 i))) σ) (h2 : (∀ i, i < tl → x ≠ nI i) → post (some (.inl (-1))) σ) : fd_Sem (d + 3) 26 [.inr (.inr (.inl (some 0))), .inl x] σ post := by
  intro X hX hV
  repeat (first | refine hX _ _ _ _ _ _ ?_ | refine Exists.intro _ (And.intro (by first | rfl | assumption) (And.intro (by first | assumption | exact fd_lt20 h20 (by decide)) (And.intro (by first | rfl | assumption) ?_))))
  refine ok_traceAt _ _ _ _ h20 r30 tl htl h31 (fun i hi e => ?_) (fun hno => ?_)
  · repeat refine hX _ _ _ _ _ _ ?_
    exact h1 i hi e
  · repeat refine hX _ _ _ _ _ _ ?_
    exact h2 hno
theorem m_trace (d : Nat) (x : Int32) (σ : fd_S) (post : Option fd_V → fd_S → Prop) (hB : Mb σ) (tl : Nat) (htl : tl ≤ 10) (h31 : σ.2.1 9 14 = nI tl) (h1 : ∀ i, i < tl → x = nI i → post (some (.inl (σ.2.1 19 i))) σ) (h2 : (∀ i, i < tl → x ≠ nI i) → post (some (.inl (-1))) σ) : fd_Sem (d + 3) 62 [.inr (.inr (.inl (some 9))), .inl x] σ post := by
  obtain ⟨h20, r1, r2, r3, r4, r5, r6, r7, r8, r9, r13⟩ := id hB
  intro X hX hV
  repeat (first | refine hX _ _ _ _ _ _ ?_ | refine Exists.intro _ (And.intro (by first | rfl | assumption) (And.intro (by first | assumption | exact fd_lt20 h20 (by decide)) (And.intro (by first | rfl | assumption) ?_))))
  rw [h31]
  refine ok_in _ _ _ _ _ _ (fun ha hb => ?_) (fun ha => ?_)
  · obtain ⟨i, hi, rfl⟩ := ix_of (by omega) ha hb
    repeat refine hX _ _ _ _ _ _ ?_
    refine And.intro (fun hc => absurd (show (1 : Int32) = 0 from hc) (by decide)) (fun _ => ?_)
    repeat (first | refine hX _ _ _ _ _ _ ?_ | refine Exists.intro _ (And.intro (by first | rfl | assumption) (And.intro (by first | assumption | exact fd_lt20 h20 (by decide)) (And.intro (by first | rfl | assumption) ?_))))
    refine se_iald (SE.rf (P := fun _ _ => False) σ) h20 r13 (by decide) rfl rfl (show i < 60 by omega) rfl id (by decide) ?_
    repeat refine hX _ _ _ _ _ _ ?_
    exact h1 i hi rfl
  · repeat refine hX _ _ _ _ _ _ ?_
    refine And.intro (fun _ => ?_) (fun hc => absurd (show (0 : Int32) = 0 from rfl) hc)
    repeat refine hX _ _ _ _ _ _ ?_
    refine h2 (fun i hi hx => ha ?_)
    rw [hx]
    exact ix_to (by omega) hi
end
section
theorem ts_cases (x : Int32) (N : Nat) : (x.toInt < 0 ∨ (N : Int) < x.toInt) ∨ ∃ j : Nat, j ≤ N ∧ x = nI j := by
  by_cases h : x < 0
  · left; left
    rw [Int32.lt_iff_toInt_lt] at h
    exact h
  · obtain ⟨j, hj, rfl⟩ := nI_of h
    by_cases h2 : j ≤ N
    · right; exact ⟨j, h2, rfl⟩
    · left; right
      rw [nI_toInt hj]
      omega
theorem ts_in {x : Int32} {N : Nat} (hN : N < 2 ^ 31) (h : ¬ ((0 : Int32) ≤ x ∧ x ≤ nI N)) : x.toInt < 0 ∨ (N : Int) < x.toInt := by
  rcases ts_cases x N with h1 | ⟨j, hj, rfl⟩
  · exact h1
  · exact absurd ⟨nI_pos' (by omega), nI_le hj hN⟩ h
theorem ts_out {x : Int32} {N : Nat} (hN : N < 2 ^ 31) (h : x.toInt < 0 ∨ (N : Int) < x.toInt) : ¬ ((0 : Int32) ≤ x ∧ x ≤ nI N) := by
  rintro ⟨h1, h2⟩
  rw [Int32.le_iff_toInt_le] at h1 h2
  rw [nI_toInt hN] at h2
  have : (0 : Int32).toInt = 0 := rfl
  omega
def ccv (σ : fd_S) (n j : Nat) : Int32 := match j with
  | 0 => σ.2.1 0 1
  | 1 => cn σ 0 n
  | 2 => cn σ 1 n
  | 3 => cn σ 2 n
  | 4 => σ.2.1 0 5
  | _ => σ.2.1 0 4
theorem c_count (d n : Nat) (x : Int32) (σ : fd_S) (post : Option fd_V → fd_S → Prop) (hB : fd_B σ n) (h0 : (x.toInt < 0 ∨ (5 : Int) < x.toInt) → post (some (.inl (-2))) σ) (h1 : ∀ j, j ≤ 5 → x = nI j → post (some (.inl (ccv σ n j))) σ) : fd_Sem (d + 4) 35 [.inr (.inr (.inl (some 0))), .inl x] σ post := by
  obtain ⟨h20, hN, hn, hcn, r0, r2, r3, r30, hva, hla⟩ := id hB
  intro X hX hV
  repeat refine hX _ _ _ _ _ _ ?_
  rcases ts_cases x 5 with hx | ⟨j, hj, rfl⟩
  · refine Or.inr (And.intro hx ?_)
    repeat refine hX _ _ _ _ _ _ ?_
    exact h0 hx
  · match j, hj, h1 with
    | 0, _, h1 =>
      refine Or.inl (Exists.intro 0 (Exists.intro _ (And.intro rfl (And.intro (by decide) ?_))))
      repeat (first | refine hX _ _ _ _ _ _ ?_ | refine Exists.intro _ (And.intro (by first | rfl | assumption) (And.intro (by first | assumption | exact fd_lt20 h20 (by decide)) (And.intro (by first | rfl | assumption) ?_))))
      exact h1 0 (by decide) rfl
    | 1, _, h1 =>
      refine Or.inl (Exists.intro 1 (Exists.intro _ (And.intro rfl (And.intro (by decide) ?_))))
      repeat (first | refine hX _ _ _ _ _ _ ?_ | refine Exists.intro _ (And.intro (by first | rfl | assumption) (And.intro (by first | assumption | exact fd_lt20 h20 (by decide)) (And.intro (by first | rfl | assumption) ?_))))
      refine ok_countOf _ n _ _ _ hB ?_
      repeat refine hX _ _ _ _ _ _ ?_
      exact h1 1 (by decide) rfl
    | 2, _, h1 =>
      refine Or.inl (Exists.intro 2 (Exists.intro _ (And.intro rfl (And.intro (by decide) ?_))))
      repeat (first | refine hX _ _ _ _ _ _ ?_ | refine Exists.intro _ (And.intro (by first | rfl | assumption) (And.intro (by first | assumption | exact fd_lt20 h20 (by decide)) (And.intro (by first | rfl | assumption) ?_))))
      refine ok_countOf _ n _ _ _ hB ?_
      repeat refine hX _ _ _ _ _ _ ?_
      exact h1 2 (by decide) rfl
    | 3, _, h1 =>
      refine Or.inl (Exists.intro 3 (Exists.intro _ (And.intro rfl (And.intro (by decide) ?_))))
      repeat (first | refine hX _ _ _ _ _ _ ?_ | refine Exists.intro _ (And.intro (by first | rfl | assumption) (And.intro (by first | assumption | exact fd_lt20 h20 (by decide)) (And.intro (by first | rfl | assumption) ?_))))
      refine ok_countOf _ n _ _ _ hB ?_
      repeat refine hX _ _ _ _ _ _ ?_
      exact h1 3 (by decide) rfl
    | 4, _, h1 =>
      refine Or.inl (Exists.intro 4 (Exists.intro _ (And.intro rfl (And.intro (by decide) ?_))))
      repeat (first | refine hX _ _ _ _ _ _ ?_ | refine Exists.intro _ (And.intro (by first | rfl | assumption) (And.intro (by first | assumption | exact fd_lt20 h20 (by decide)) (And.intro (by first | rfl | assumption) ?_))))
      exact h1 4 (by decide) rfl
    | 5, _, h1 =>
      refine Or.inl (Exists.intro 5 (Exists.intro _ (And.intro rfl (And.intro (by decide) ?_))))
      repeat (first | refine hX _ _ _ _ _ _ ?_ | refine Exists.intro _ (And.intro (by first | rfl | assumption) (And.intro (by first | assumption | exact fd_lt20 h20 (by decide)) (And.intro (by first | rfl | assumption) ?_))))
      exact h1 5 (by decide) rfl
    | j + 6, hj, _ => omega
def mcn (σ : fd_S) (h : Int32) : Nat → Int32
  | 0 => 0
  | k + 1 => mcn σ h k + (if σ.2.1 13 k = h then 1 else 0)
def mcv (σ : fd_S) (n j : Nat) : Int32 := match j with
  | 0 => σ.2.1 9 0
  | 4 => σ.2.1 9 11
  | 5 => σ.2.1 9 10
  | j => mcn σ (nI j - 1) n
theorem m_count (d n : Nat) (x : Int32) (σ : fd_S) (post : Option fd_V → fd_S → Prop) (hB : Mb σ) (hn : n ≤ 60) (h90 : σ.2.1 9 0 = nI n) (h0 : ¬ (0 ≤ x ∧ x ≤ 5) → post (some (.inl (-2))) σ) (h1 : ∀ j, j ≤ 5 → x = nI j → post (some (.inl (mcv σ n j))) σ) : fd_Sem (d + 2) 77 [.inr (.inr (.inl (some 9))), .inl x] σ post := by
  obtain ⟨h20, r1, r2, r3, r4, r5, r6, r7, r8, r9, r13⟩ := id hB
  intro X hX hV
  repeat refine hX _ _ _ _ _ _ ?_
  refine ok_in _ _ _ _ _ _ (fun ha hb => ?_) (fun ha => ?_)
  · obtain ⟨j, hj, rfl⟩ : ∃ j, j < 6 ∧ x = nI j := ix_of (by decide) ha (by rw [show (nI 6 - 1 : Int32) = 5 by decide]; exact hb)
    have loop : ∀ f k, f + k = n → X ((fd_code 77).drop 11) [(3, .inl (nI k)), (2, .inl (mcn σ (nI j - 1) k)), (0, .inr (.inr (.inl (some 9)))), (1, .inl (nI j))] [] σ 0 0 := by
      intro f
      induction f with
      | zero =>
        intro k hk
        have : k = n := by omega
        subst this
        repeat (first | refine hX _ _ _ _ _ _ ?_ | refine Exists.intro _ (And.intro (by first | rfl | assumption) (And.intro (by first | assumption | exact fd_lt20 h20 (by decide)) (And.intro (by first | rfl | assumption) ?_))))
        rw [h90]
        repeat refine hX _ _ _ _ _ _ ?_
        refine And.intro (fun _ => ?_) (fun hc => absurd (nI_le (Nat.le_refl k) (by omega)) hc)
        repeat refine hX _ _ _ _ _ _ ?_
        match j, hj, h1 with
        | 0, _, h1 =>
          repeat (first | refine hX _ _ _ _ _ _ ?_ | refine Exists.intro _ (And.intro (by first | rfl | assumption) (And.intro (by first | assumption | exact fd_lt20 h20 (by decide) | exact md_lt (by assumption) h20 (by decide)) (And.intro (by first | rfl | assumption) ?_))) | refine And.intro (fun hc => absurd hc (by dsimp only [fd_icmp]; decide)) (fun _ => ?_) | refine And.intro (fun _ => ?_) (fun hc => absurd hc (by dsimp only [fd_icmp]; decide)) | refine And.intro (by decide) ?_ | refine md_iald (by assumption) h20 (by assumption) (by decide) rfl hi (by assumption) (by decide) (by decide) ?_ | refine ok_in _ _ _ _ _ _ (fun _ _ => ?_) (fun hc => absurd (by decide) hc) | refine ok_in _ _ _ _ _ _ (fun h1 h2 => absurd (And.intro h1 h2) (by decide)) (fun _ => ?_) | (refine ok_began _ _ h20 r13 (by assumption) (by first | omega | (simp only [List.length_append, List.length_cons, List.length_nil]; omega)) (fun τ hM => ?_)))
          exact h1 0 (by decide) rfl
        | 1, _, h1 =>
          repeat (first | refine hX _ _ _ _ _ _ ?_ | refine Exists.intro _ (And.intro (by first | rfl | assumption) (And.intro (by first | assumption | exact fd_lt20 h20 (by decide) | exact md_lt (by assumption) h20 (by decide)) (And.intro (by first | rfl | assumption) ?_))) | refine And.intro (fun hc => absurd hc (by dsimp only [fd_icmp]; decide)) (fun _ => ?_) | refine And.intro (fun _ => ?_) (fun hc => absurd hc (by dsimp only [fd_icmp]; decide)) | refine And.intro (by decide) ?_ | refine md_iald (by assumption) h20 (by assumption) (by decide) rfl hi (by assumption) (by decide) (by decide) ?_ | refine ok_in _ _ _ _ _ _ (fun _ _ => ?_) (fun hc => absurd (by decide) hc) | refine ok_in _ _ _ _ _ _ (fun h1 h2 => absurd (And.intro h1 h2) (by decide)) (fun _ => ?_) | (refine ok_began _ _ h20 r13 (by assumption) (by first | omega | (simp only [List.length_append, List.length_cons, List.length_nil]; omega)) (fun τ hM => ?_)))
          exact h1 1 (by decide) rfl
        | 2, _, h1 =>
          repeat (first | refine hX _ _ _ _ _ _ ?_ | refine Exists.intro _ (And.intro (by first | rfl | assumption) (And.intro (by first | assumption | exact fd_lt20 h20 (by decide) | exact md_lt (by assumption) h20 (by decide)) (And.intro (by first | rfl | assumption) ?_))) | refine And.intro (fun hc => absurd hc (by dsimp only [fd_icmp]; decide)) (fun _ => ?_) | refine And.intro (fun _ => ?_) (fun hc => absurd hc (by dsimp only [fd_icmp]; decide)) | refine And.intro (by decide) ?_ | refine md_iald (by assumption) h20 (by assumption) (by decide) rfl hi (by assumption) (by decide) (by decide) ?_ | refine ok_in _ _ _ _ _ _ (fun _ _ => ?_) (fun hc => absurd (by decide) hc) | refine ok_in _ _ _ _ _ _ (fun h1 h2 => absurd (And.intro h1 h2) (by decide)) (fun _ => ?_) | (refine ok_began _ _ h20 r13 (by assumption) (by first | omega | (simp only [List.length_append, List.length_cons, List.length_nil]; omega)) (fun τ hM => ?_)))
          exact h1 2 (by decide) rfl
        | 3, _, h1 =>
          repeat (first | refine hX _ _ _ _ _ _ ?_ | refine Exists.intro _ (And.intro (by first | rfl | assumption) (And.intro (by first | assumption | exact fd_lt20 h20 (by decide) | exact md_lt (by assumption) h20 (by decide)) (And.intro (by first | rfl | assumption) ?_))) | refine And.intro (fun hc => absurd hc (by dsimp only [fd_icmp]; decide)) (fun _ => ?_) | refine And.intro (fun _ => ?_) (fun hc => absurd hc (by dsimp only [fd_icmp]; decide)) | refine And.intro (by decide) ?_ | refine md_iald (by assumption) h20 (by assumption) (by decide) rfl hi (by assumption) (by decide) (by decide) ?_ | refine ok_in _ _ _ _ _ _ (fun _ _ => ?_) (fun hc => absurd (by decide) hc) | refine ok_in _ _ _ _ _ _ (fun h1 h2 => absurd (And.intro h1 h2) (by decide)) (fun _ => ?_) | (refine ok_began _ _ h20 r13 (by assumption) (by first | omega | (simp only [List.length_append, List.length_cons, List.length_nil]; omega)) (fun τ hM => ?_)))
          exact h1 3 (by decide) rfl
        | 4, _, h1 =>
          repeat (first | refine hX _ _ _ _ _ _ ?_ | refine Exists.intro _ (And.intro (by first | rfl | assumption) (And.intro (by first | assumption | exact fd_lt20 h20 (by decide) | exact md_lt (by assumption) h20 (by decide)) (And.intro (by first | rfl | assumption) ?_))) | refine And.intro (fun hc => absurd hc (by dsimp only [fd_icmp]; decide)) (fun _ => ?_) | refine And.intro (fun _ => ?_) (fun hc => absurd hc (by dsimp only [fd_icmp]; decide)) | refine And.intro (by decide) ?_ | refine md_iald (by assumption) h20 (by assumption) (by decide) rfl hi (by assumption) (by decide) (by decide) ?_ | refine ok_in _ _ _ _ _ _ (fun _ _ => ?_) (fun hc => absurd (by decide) hc) | refine ok_in _ _ _ _ _ _ (fun h1 h2 => absurd (And.intro h1 h2) (by decide)) (fun _ => ?_) | (refine ok_began _ _ h20 r13 (by assumption) (by first | omega | (simp only [List.length_append, List.length_cons, List.length_nil]; omega)) (fun τ hM => ?_)))
          exact h1 4 (by decide) rfl
        | 5, _, h1 =>
          repeat (first | refine hX _ _ _ _ _ _ ?_ | refine Exists.intro _ (And.intro (by first | rfl | assumption) (And.intro (by first | assumption | exact fd_lt20 h20 (by decide) | exact md_lt (by assumption) h20 (by decide)) (And.intro (by first | rfl | assumption) ?_))) | refine And.intro (fun hc => absurd hc (by dsimp only [fd_icmp]; decide)) (fun _ => ?_) | refine And.intro (fun _ => ?_) (fun hc => absurd hc (by dsimp only [fd_icmp]; decide)) | refine And.intro (by decide) ?_ | refine md_iald (by assumption) h20 (by assumption) (by decide) rfl hi (by assumption) (by decide) (by decide) ?_ | refine ok_in _ _ _ _ _ _ (fun _ _ => ?_) (fun hc => absurd (by decide) hc) | refine ok_in _ _ _ _ _ _ (fun h1 h2 => absurd (And.intro h1 h2) (by decide)) (fun _ => ?_) | (refine ok_began _ _ h20 r13 (by assumption) (by first | omega | (simp only [List.length_append, List.length_cons, List.length_nil]; omega)) (fun τ hM => ?_)))
          exact h1 5 (by decide) rfl
      | succ f ih =>
        intro k hk
        repeat (first | refine hX _ _ _ _ _ _ ?_ | refine Exists.intro _ (And.intro (by first | rfl | assumption) (And.intro (by first | assumption | exact fd_lt20 h20 (by decide)) (And.intro (by first | rfl | assumption) ?_))))
        rw [h90]
        repeat refine hX _ _ _ _ _ _ ?_
        refine And.intro (fun hc => ?_) (fun _ => ?_)
        · have hc : nI n ≤ nI k := hc
          rw [nI_leI (by omega) (by omega)] at hc
          omega
        · repeat (first | refine hX _ _ _ _ _ _ ?_ | refine Exists.intro _ (And.intro (by first | rfl | assumption) (And.intro (by first | assumption | exact fd_lt20 h20 (by decide)) (And.intro (by first | rfl | assumption) ?_))))
          refine se_iald (SE.rf (P := fun _ _ => False) σ) h20 r4 (by decide) rfl rfl (show k < 60 by omega) rfl id (by decide) ?_
          repeat refine hX _ _ _ _ _ _ ?_
          refine And.intro (fun hc => ?_) (fun hc => ?_) <;> try dsimp only [fd_icmp] at hc
          · iterate 5 refine hX _ _ _ _ _ _ ?_
            exact hV _ _ [(3, .inl (nI (k + 1))), (2, .inl (mcn σ (nI j - 1) (k + 1))), (0, .inr (.inr (.inl (some 9)))), (1, .inl (nI j))] _ _ _ _ (And.intro (congrArg (fun x => some (Sum.inl x)) (nI_1 k)) (And.intro (congrArg (fun x => some (Sum.inl (mcn σ (nI j - 1) k + x))) (if_neg hc).symm) (And.intro rfl (And.intro rfl trivial)))) (ih (k + 1) (by omega))
          · iterate 6 refine hX _ _ _ _ _ _ ?_
            exact hV _ _ [(3, .inl (nI (k + 1))), (2, .inl (mcn σ (nI j - 1) (k + 1))), (0, .inr (.inr (.inl (some 9)))), (1, .inl (nI j))] _ _ _ _ (And.intro (congrArg (fun x => some (Sum.inl x)) (nI_1 k)) (And.intro (congrArg (fun x => some (Sum.inl (mcn σ (nI j - 1) k + x))) (if_pos hc).symm) (And.intro rfl (And.intro rfl trivial)))) (ih (k + 1) (by omega))
    repeat refine hX _ _ _ _ _ _ ?_
    refine And.intro (fun _ => ?_) (fun hc => absurd (show (1 : Int32) = 0 from hc) (by decide))
    iterate 4 refine hX _ _ _ _ _ _ ?_
    exact loop n 0 rfl
  · repeat refine hX _ _ _ _ _ _ ?_
    refine And.intro (fun hc => absurd (show (0 : Int32) = 0 from rfl) hc) (fun _ => ?_)
    repeat refine hX _ _ _ _ _ _ ?_
    exact h0 ha
def ctv (σ : fd_S) (a j : Nat) : Int32 := match j with
  | 0 => σ.2.1 a 1
  | 1 => σ.2.1 a 9
  | 2 => σ.2.1 a 10
  | 3 => σ.2.1 a 11
  | 4 => σ.2.1 a 13
  | 5 => if σ.2.1 a 7 = -3 then 0 else 1
  | _ => if σ.2.1 a 8 = -3 then 0 else 1
theorem c_told (d n : Nat) (x w : Int32) (σ : fd_S) (post : Option fd_V → fd_S → Prop) (hB : fd_B σ n) (h0 : (∀ i, i < n → x ≠ nI i) → post (some (.inl (-2))) σ) (h0w : (w.toInt < 0 ∨ (6 : Int) < w.toInt) → post (some (.inl (-2))) σ) (h1 : ∀ i j, i < n → x = nI i → j ≤ 6 → w = nI j → post (some (.inl (ctv σ (20 + i) j))) σ) : fd_Sem (d + 3) 33 [.inr (.inr (.inl (some 0))), .inl x, .inl w] σ post := by
  obtain ⟨h20, hN, hn, hcn, r0, r2, r3, r30, hva, hla⟩ := id hB
  intro X hX hV
  repeat (first | refine hX _ _ _ _ _ _ ?_ | refine Exists.intro _ (And.intro (by first | rfl | assumption) (And.intro (by first | assumption | exact fd_lt20 h20 (by decide)) (And.intro (by first | rfl | assumption) ?_))))
  refine ok_vehicleAt _ _ n _ _ hB (fun i hi e => ?_) (fun hno => ?_)
  · have hv : 20 + i < σ.1 := by omega
    have hs := fd_shV i
    repeat refine hX _ _ _ _ _ _ ?_
    refine And.intro (fun _ => ?_) (fun hc => by cases hc)
    repeat refine hX _ _ _ _ _ _ ?_
    rcases ts_cases w 6 with hx | ⟨j, hj, rfl⟩
    · refine Or.inr (And.intro hx ?_)
      repeat refine hX _ _ _ _ _ _ ?_
      exact h0w hx
    · have h1 := h1 i j hi e hj rfl
      match j, hj, h1 with
      | 0, _, h1 =>
        refine Or.inl (Exists.intro 0 (Exists.intro _ (And.intro rfl (And.intro (by decide) ?_))))
        repeat (first | refine hX _ _ _ _ _ _ ?_ | refine Exists.intro _ (And.intro (by first | rfl | assumption) (And.intro (by first | assumption | exact fd_lt20 h20 (by decide)) (And.intro (by first | rfl | assumption) ?_))))
        exact h1
      | 1, _, h1 =>
        refine Or.inl (Exists.intro 1 (Exists.intro _ (And.intro rfl (And.intro (by decide) ?_))))
        repeat (first | refine hX _ _ _ _ _ _ ?_ | refine Exists.intro _ (And.intro (by first | rfl | assumption) (And.intro (by first | assumption | exact fd_lt20 h20 (by decide)) (And.intro (by first | rfl | assumption) ?_))))
        exact h1
      | 2, _, h1 =>
        refine Or.inl (Exists.intro 2 (Exists.intro _ (And.intro rfl (And.intro (by decide) ?_))))
        repeat (first | refine hX _ _ _ _ _ _ ?_ | refine Exists.intro _ (And.intro (by first | rfl | assumption) (And.intro (by first | assumption | exact fd_lt20 h20 (by decide)) (And.intro (by first | rfl | assumption) ?_))))
        exact h1
      | 3, _, h1 =>
        refine Or.inl (Exists.intro 3 (Exists.intro _ (And.intro rfl (And.intro (by decide) ?_))))
        repeat (first | refine hX _ _ _ _ _ _ ?_ | refine Exists.intro _ (And.intro (by first | rfl | assumption) (And.intro (by first | assumption | exact fd_lt20 h20 (by decide)) (And.intro (by first | rfl | assumption) ?_))))
        exact h1
      | 4, _, h1 =>
        refine Or.inl (Exists.intro 4 (Exists.intro _ (And.intro rfl (And.intro (by decide) ?_))))
        repeat (first | refine hX _ _ _ _ _ _ ?_ | refine Exists.intro _ (And.intro (by first | rfl | assumption) (And.intro (by first | assumption | exact fd_lt20 h20 (by decide)) (And.intro (by first | rfl | assumption) ?_))))
        exact h1
      | 5, _, h1 =>
        refine Or.inl (Exists.intro 5 (Exists.intro _ (And.intro rfl (And.intro (by decide) ?_))))
        repeat (first | refine hX _ _ _ _ _ _ ?_ | refine Exists.intro _ (And.intro (by first | rfl | assumption) (And.intro (by first | assumption | exact fd_lt20 h20 (by decide)) (And.intro (by first | rfl | assumption) ?_))))
        refine ok_isHeavy _ _ _ _ hv hs (fun hh => ?_) (fun hh => ?_)
        · repeat refine hX _ _ _ _ _ _ ?_
          refine And.intro (fun hc => absurd (show (1 : Int32) = 0 from hc) (by decide)) (fun _ => ?_)
          repeat refine hX _ _ _ _ _ _ ?_
          have h1 : post (some (.inl (if σ.2.1 (20 + i) 7 = -3 then 0 else 1))) σ := h1
          rw [if_neg hh] at h1
          exact h1
        · repeat refine hX _ _ _ _ _ _ ?_
          refine And.intro (fun _ => ?_) (fun hc => absurd (show (0 : Int32) = 0 from rfl) hc)
          repeat refine hX _ _ _ _ _ _ ?_
          have h1 : post (some (.inl (if σ.2.1 (20 + i) 7 = -3 then 0 else 1))) σ := h1
          rw [if_pos hh] at h1
          exact h1
      | 6, _, h1 =>
        refine Or.inl (Exists.intro 6 (Exists.intro _ (And.intro rfl (And.intro (by decide) ?_))))
        repeat (first | refine hX _ _ _ _ _ _ ?_ | refine Exists.intro _ (And.intro (by first | rfl | assumption) (And.intro (by first | assumption | exact fd_lt20 h20 (by decide)) (And.intro (by first | rfl | assumption) ?_))))
        refine ok_isMarked _ _ _ _ hv hs (fun hh => ?_) (fun hh => ?_)
        · repeat refine hX _ _ _ _ _ _ ?_
          refine And.intro (fun hc => absurd (show (1 : Int32) = 0 from hc) (by decide)) (fun _ => ?_)
          repeat refine hX _ _ _ _ _ _ ?_
          have h1 : post (some (.inl (if σ.2.1 (20 + i) 8 = -3 then 0 else 1))) σ := h1
          rw [if_neg hh] at h1
          exact h1
        · repeat refine hX _ _ _ _ _ _ ?_
          refine And.intro (fun _ => ?_) (fun hc => absurd (show (0 : Int32) = 0 from rfl) hc)
          repeat refine hX _ _ _ _ _ _ ?_
          have h1 : post (some (.inl (if σ.2.1 (20 + i) 8 = -3 then 0 else 1))) σ := h1
          rw [if_pos hh] at h1
          exact h1
      | j + 7, hj, _ => omega
  · repeat refine hX _ _ _ _ _ _ ?_
    refine And.intro (fun hc => absurd rfl hc) (fun _ => ?_)
    repeat refine hX _ _ _ _ _ _ ?_
    exact h0 hno
end
section
/-- where x stands: lane lo, place ah; -1 and -1 if nowhere -/
def FM (σ : fd_S) (m : Nat → Nat) (x lo ah : Int32) : Prop := (∃ l k, l < 4 ∧ k < m l ∧ σ.2.1 18 (60 * l + k) = x ∧ (∀ l' k', l' < 4 → k' < m l' → (l' ≠ l ∨ k' ≠ k) → σ.2.1 18 (60 * l' + k') ≠ x) ∧ lo = nI l ∧ ah = nI k) ∨ ((∀ l k, l < 4 → k < m l → σ.2.1 18 (60 * l + k) ≠ x) ∧ lo = -1 ∧ ah = -1)
theorem ok_laneOf (d : Nat) (m : Nat → Nat) (x lo ah : Int32) (σ : fd_S) (post : Option fd_V → fd_S → Prop) (hB : Mb σ) (hm : ∀ l, l < 4 → m l ≤ 60 ∧ σ.2.1 17 l = nI (m l)) (hF : FM σ m x lo ah) (h1 : post (some (.inl lo)) σ) : fd_Sem (d + 1) 73 [.inr (.inr (.inl (some 9))), .inl x] σ post := by
  obtain ⟨h20, r1, r2, r3, r4, r5, r6, r7, r8, r9, r13⟩ := id hB
  intro X hX hV
  have outer : ∀ f l, f + l = 4 → (∀ l' k', l' < l → k' < m l' → σ.2.1 18 (60 * l' + k') ≠ x) → X ((fd_code 73).drop 2) [(2, .inl (nI l)), (0, .inr (.inr (.inl (some 9)))), (1, .inl x)] [] σ 0 0 := by
    intro f
    induction f with
    | zero =>
      intro l hl hno
      have : l = 4 := by omega
      subst this
      repeat refine hX _ _ _ _ _ _ ?_
      refine And.intro (fun _ => ?_) (fun hc => absurd (nI_le (a := 4) (Nat.le_refl 4) (by decide)) hc)
      repeat refine hX _ _ _ _ _ _ ?_
      rcases hF with ⟨l, k, hl4, hk, he, -, -, -⟩ | ⟨-, e, -⟩
      · exact absurd he (hno l k hl4 hk)
      · rw [e] at h1
        exact h1
    | succ f ih =>
      intro l hl hno
      have hl4 : l < 4 := by omega
      obtain ⟨hm60, h17⟩ := hm l hl4
      have inner : ∀ g k, g + k = m l → (∀ k', k' < k → σ.2.1 18 (60 * l + k') ≠ x) → X ((fd_code 73).drop 7) [(3, .inl (nI k)), (2, .inl (nI l)), (0, .inr (.inr (.inl (some 9)))), (1, .inl x)] [] σ 0 0 := by
        intro g
        induction g with
        | zero =>
          intro k hk hnk
          have : k = m l := by omega
          subst this
          repeat (first | refine hX _ _ _ _ _ _ ?_ | refine Exists.intro _ (And.intro (by first | rfl | assumption) (And.intro (by first | assumption | exact fd_lt20 h20 (by decide)) (And.intro (by first | rfl | assumption) ?_))))
          refine se_iald (SE.rf (P := fun _ _ => False) σ) h20 r8 (by decide) rfl rfl hl4 h17 id (by decide) ?_
          repeat refine hX _ _ _ _ _ _ ?_
          refine And.intro (fun _ => ?_) (fun hc => absurd (nI_le (Nat.le_refl (m l)) (by omega)) hc)
          refine hX _ _ _ _ _ _ ?_
          refine hX _ _ _ _ _ _ ?_
          refine hV _ _ [(2, .inl (nI (l + 1))), (0, .inr (.inr (.inl (some 9)))), (1, .inl x)] _ _ _ _ (And.intro (congrArg (fun x => some (Sum.inl x)) (nI_1 l)) (And.intro rfl (And.intro rfl trivial))) (ih (l + 1) (by omega) ?_)
          intro l' k' hl' hk'
          by_cases h : l' = l
          · subst h
            exact hnk k' hk'
          · exact hno l' k' (by omega) hk'
        | succ g ihg =>
          intro k hk hnk
          repeat (first | refine hX _ _ _ _ _ _ ?_ | refine Exists.intro _ (And.intro (by first | rfl | assumption) (And.intro (by first | assumption | exact fd_lt20 h20 (by decide)) (And.intro (by first | rfl | assumption) ?_))))
          refine se_iald (SE.rf (P := fun _ _ => False) σ) h20 r8 (by decide) rfl rfl hl4 h17 id (by decide) ?_
          repeat refine hX _ _ _ _ _ _ ?_
          refine And.intro (fun hc => ?_) (fun _ => ?_)
          · have hc : nI (m l) ≤ nI k := hc
            rw [nI_leI (by omega) (by omega)] at hc
            omega
          · repeat (first | refine hX _ _ _ _ _ _ ?_ | refine Exists.intro _ (And.intro (by first | rfl | assumption) (And.intro (by first | assumption | exact fd_lt20 h20 (by decide)) (And.intro (by first | rfl | assumption) ?_))))
            refine se_iald (SE.rf (P := fun _ _ => False) σ) h20 r9 (by decide) rfl (sq_idx l k) (by omega) rfl id (by decide) ?_
            repeat refine hX _ _ _ _ _ _ ?_
            refine And.intro (fun hc => ?_) (fun hc => ?_) <;> try dsimp only [fd_icmp] at hc
            · refine hX _ _ _ _ _ _ ?_
              refine hX _ _ _ _ _ _ ?_
              refine hV _ _ [(3, .inl (nI (k + 1))), (2, .inl (nI l)), (0, .inr (.inr (.inl (some 9)))), (1, .inl x)] _ _ _ _ (And.intro (congrArg (fun x => some (Sum.inl x)) (nI_1 k)) (And.intro rfl (And.intro rfl (And.intro rfl trivial)))) (ihg (k + 1) (by omega) ?_)
              intro k' hk'
              by_cases h : k' = k
              · subst h
                exact hc
              · exact hnk k' (by omega)
            · repeat refine hX _ _ _ _ _ _ ?_
              rcases hF with ⟨l2, k2, hl2, hk2, he, hu, e, -⟩ | ⟨hno2, -, -⟩
              · by_cases h : l = l2
                · rw [e, ← h] at h1
                  exact h1
                · exact absurd hc (hu l k hl4 (by omega) (Or.inl h))
              · exact absurd hc (hno2 l k hl4 (by omega))
      repeat refine hX _ _ _ _ _ _ ?_
      refine And.intro (fun hc => ?_) (fun _ => ?_)
      · have hc : nI 4 ≤ nI l := hc
        rw [nI_leI (by omega) (by omega)] at hc
        omega
      · refine hX _ _ _ _ _ _ ?_
        refine hX _ _ _ _ _ _ ?_
        exact hV _ _ [(3, .inl (nI 0)), (2, .inl (nI l)), (0, .inr (.inr (.inl (some 9)))), (1, .inl x)] _ _ _ _ (And.intro rfl (And.intro rfl (And.intro rfl (And.intro rfl trivial)))) (inner (m l) 0 rfl (fun _ h => absurd h (Nat.not_lt_zero _)))
  iterate 2 refine hX _ _ _ _ _ _ ?_
  exact outer 4 0 rfl (fun _ _ h => absurd h (Nat.not_lt_zero _))
theorem nI_neg1 {l : Nat} (h : l < 2 ^ 31) : ¬ nI l = -1 := by
  intro hc
  have := congrArg Int32.toInt hc
  rw [nI_toInt h] at this
  have h9 : (-1 : Int32).toInt = -1 := by decide
  rw [h9] at this
  omega
theorem ok_aheadOf (d : Nat) (m : Nat → Nat) (x lo ah : Int32) (σ : fd_S) (post : Option fd_V → fd_S → Prop) (hB : Mb σ) (hm : ∀ l, l < 4 → m l ≤ 60 ∧ σ.2.1 17 l = nI (m l)) (hF : FM σ m x lo ah) (h1 : post (some (.inl ah)) σ) : fd_Sem (d + 2) 74 [.inr (.inr (.inl (some 9))), .inl x] σ post := by
  obtain ⟨h20, r1, r2, r3, r4, r5, r6, r7, r8, r9, r13⟩ := id hB
  intro X hX hV
  repeat (first | refine hX _ _ _ _ _ _ ?_ | refine Exists.intro _ (And.intro (by first | rfl | assumption) (And.intro (by first | assumption | exact fd_lt20 h20 (by decide)) (And.intro (by first | rfl | assumption) ?_))))
  refine ok_laneOf _ m x lo ah σ _ hB hm hF ?_
  rcases hF with ⟨l, k, hl4, hk, he, hu, e1, e2⟩ | ⟨hno, e1, e2⟩
  · subst e1
    subst e2
    have hm60 := (hm l hl4).1
    have loop : ∀ g j, g + j = k → X ((fd_code 74).drop 6) [(3, .inl (nI j)), (2, .inl (nI l)), (0, .inr (.inr (.inl (some 9)))), (1, .inl x)] [] σ 0 0 := by
      intro g
      induction g with
      | zero =>
        intro j hj
        have : j = k := by omega
        subst this
        repeat refine hX _ _ _ _ _ _ ?_
        refine And.intro (fun hc => absurd hc (nI_neg1 (by omega))) (fun _ => ?_)
        repeat (first | refine hX _ _ _ _ _ _ ?_ | refine Exists.intro _ (And.intro (by first | rfl | assumption) (And.intro (by first | assumption | exact fd_lt20 h20 (by decide)) (And.intro (by first | rfl | assumption) ?_))))
        refine se_iald (SE.rf (P := fun _ _ => False) σ) h20 r9 (by decide) rfl (sq_idx l j) (by omega) rfl id (by decide) ?_
        repeat refine hX _ _ _ _ _ _ ?_
        refine And.intro (fun _ => ?_) (fun hc => absurd he hc)
        repeat refine hX _ _ _ _ _ _ ?_
        refine And.intro (fun _ => ?_) (fun hc => absurd hc (nI_neg1 (by omega)))
        repeat refine hX _ _ _ _ _ _ ?_
        exact h1
      | succ g ih =>
        intro j hj
        repeat refine hX _ _ _ _ _ _ ?_
        refine And.intro (fun hc => absurd hc (nI_neg1 (by omega))) (fun _ => ?_)
        repeat (first | refine hX _ _ _ _ _ _ ?_ | refine Exists.intro _ (And.intro (by first | rfl | assumption) (And.intro (by first | assumption | exact fd_lt20 h20 (by decide)) (And.intro (by first | rfl | assumption) ?_))))
        refine se_iald (SE.rf (P := fun _ _ => False) σ) h20 r9 (by decide) rfl (sq_idx l j) (by omega) rfl id (by decide) ?_
        repeat refine hX _ _ _ _ _ _ ?_
        refine And.intro (fun hc => absurd hc (hu l j hl4 (by omega) (Or.inr (by omega)))) (fun _ => ?_)
        refine hX _ _ _ _ _ _ ?_
        refine hX _ _ _ _ _ _ ?_
        exact hV _ _ [(3, .inl (nI (j + 1))), (2, .inl (nI l)), (0, .inr (.inr (.inl (some 9)))), (1, .inl x)] _ _ _ _ (And.intro (congrArg (fun x => some (Sum.inl x)) (nI_1 j)) (And.intro rfl (And.intro rfl (And.intro rfl trivial)))) (ih (j + 1) (by omega))
    iterate 3 refine hX _ _ _ _ _ _ ?_
    exact loop k 0 rfl
  · subst e1
    subst e2
    repeat refine hX _ _ _ _ _ _ ?_
    refine And.intro (fun _ => ?_) (fun hc => absurd (show (-1 : Int32) = -1 from rfl) hc)
    repeat refine hX _ _ _ _ _ _ ?_
    refine And.intro (fun hc => absurd (show (-1 : Int32) = -1 from rfl) hc) (fun _ => ?_)
    repeat refine hX _ _ _ _ _ _ ?_
    exact h1
def mtv (σ : fd_S) (lo ah : Int32) (i j : Nat) : Int32 := match j with
  | 0 => σ.2.1 10 i
  | 1 => σ.2.1 13 i
  | 2 => lo
  | 3 => ah
  | 4 => σ.2.1 14 i
  | 5 => if hvy (kd σ i) = true then 1 else 0
  | _ => if mrk (kd σ i) = true then 1 else 0
theorem m_told (d n : Nat) (m : Nat → Nat) (x w : Int32) (σ : fd_S) (post : Option fd_V → fd_S → Prop) (hB : Mb σ) (hn : n ≤ 60) (h90 : σ.2.1 9 0 = nI n) (hm : ∀ l, l < 4 → m l ≤ 60 ∧ σ.2.1 17 l = nI (m l)) (h0 : (∀ i, i < n → x ≠ nI i) → post (some (.inl (-2))) σ) (h0w : ¬ (0 ≤ w ∧ w ≤ 6) → post (some (.inl (-2))) σ) (h1 : ∀ i, i < n → x = nI i → Vi σ i ∧ ∃ lo ah, FM σ m x lo ah ∧ ∀ j, j ≤ 6 → w = nI j → post (some (.inl (mtv σ lo ah i j))) σ) : fd_Sem (d + 3) 75 [.inr (.inr (.inl (some 9))), .inl x, .inl w] σ post := by
  obtain ⟨h20, r1, r2, r3, r4, r5, r6, r7, r8, r9, r13⟩ := id hB
  intro X hX hV
  repeat (first | refine hX _ _ _ _ _ _ ?_ | refine Exists.intro _ (And.intro (by first | rfl | assumption) (And.intro (by first | assumption | exact fd_lt20 h20 (by decide)) (And.intro (by first | rfl | assumption) ?_))))
  refine ok_isVehicle _ n _ _ _ h20 hn h90 (fun i hi e => ?_) (fun hno => ?_)
  · repeat refine hX _ _ _ _ _ _ ?_
    refine And.intro (fun hc => absurd (show (1 : Int32) = 0 from hc) (by decide)) (fun _ => ?_)
    repeat refine hX _ _ _ _ _ _ ?_
    refine ok_in _ _ _ _ _ _ (fun ha hb => ?_) (fun ha => ?_)
    · obtain ⟨j, hj, rfl⟩ : ∃ j, j < 7 ∧ w = nI j := ix_of (by decide) ha (by rw [show (nI 7 - 1 : Int32) = 6 by decide]; exact hb)
      obtain ⟨hvi, lo, ah, hF, hq⟩ := h1 i hi e
      have hz := hq j (by omega) rfl
      clear hq h1
      subst e
      have hi60 := hvi.1
      repeat refine hX _ _ _ _ _ _ ?_
      refine And.intro (fun _ => ?_) (fun hc => absurd (show (1 : Int32) = 0 from hc) (by decide))
      repeat refine hX _ _ _ _ _ _ ?_
      match j, hj, hz with
      | 0, _, h1 =>
        refine Or.inl (Exists.intro 0 (Exists.intro _ (And.intro rfl (And.intro (by decide) ?_))))
        repeat (first | refine hX _ _ _ _ _ _ ?_ | refine Exists.intro _ (And.intro (by first | rfl | assumption) (And.intro (by first | assumption | exact fd_lt20 h20 (by decide)) (And.intro (by first | rfl | assumption) ?_))))
        refine se_iald (SE.rf (P := fun _ _ => False) σ) h20 r1 (by decide) rfl rfl hi60 rfl id (by decide) ?_
        repeat refine hX _ _ _ _ _ _ ?_
        exact h1
      | 1, _, h1 =>
        refine Or.inl (Exists.intro 1 (Exists.intro _ (And.intro rfl (And.intro (by decide) ?_))))
        repeat (first | refine hX _ _ _ _ _ _ ?_ | refine Exists.intro _ (And.intro (by first | rfl | assumption) (And.intro (by first | assumption | exact fd_lt20 h20 (by decide)) (And.intro (by first | rfl | assumption) ?_))))
        refine se_iald (SE.rf (P := fun _ _ => False) σ) h20 r4 (by decide) rfl rfl hi60 rfl id (by decide) ?_
        repeat refine hX _ _ _ _ _ _ ?_
        exact h1
      | 2, _, h1 =>
        refine Or.inl (Exists.intro 2 (Exists.intro _ (And.intro rfl (And.intro (by decide) ?_))))
        repeat (first | refine hX _ _ _ _ _ _ ?_ | refine Exists.intro _ (And.intro (by first | rfl | assumption) (And.intro (by first | assumption | exact fd_lt20 h20 (by decide)) (And.intro (by first | rfl | assumption) ?_))))
        refine ok_laneOf _ m _ lo ah σ _ hB hm hF ?_
        repeat refine hX _ _ _ _ _ _ ?_
        exact h1
      | 3, _, h1 =>
        refine Or.inl (Exists.intro 3 (Exists.intro _ (And.intro rfl (And.intro (by decide) ?_))))
        repeat (first | refine hX _ _ _ _ _ _ ?_ | refine Exists.intro _ (And.intro (by first | rfl | assumption) (And.intro (by first | assumption | exact fd_lt20 h20 (by decide)) (And.intro (by first | rfl | assumption) ?_))))
        refine ok_aheadOf _ m _ lo ah σ _ hB hm hF ?_
        repeat refine hX _ _ _ _ _ _ ?_
        exact h1
      | 4, _, h1 =>
        refine Or.inl (Exists.intro 4 (Exists.intro _ (And.intro rfl (And.intro (by decide) ?_))))
        repeat (first | refine hX _ _ _ _ _ _ ?_ | refine Exists.intro _ (And.intro (by first | rfl | assumption) (And.intro (by first | assumption | exact fd_lt20 h20 (by decide)) (And.intro (by first | rfl | assumption) ?_))))
        refine se_iald (SE.rf (P := fun _ _ => False) σ) h20 r5 (by decide) rfl rfl hi60 rfl id (by decide) ?_
        repeat refine hX _ _ _ _ _ _ ?_
        exact h1
      | 5, _, h1 =>
        refine Or.inl (Exists.intro 5 (Exists.intro _ (And.intro rfl (And.intro (by decide) ?_))))
        repeat (first | refine hX _ _ _ _ _ _ ?_ | refine Exists.intro _ (And.intro (by first | rfl | assumption) (And.intro (by first | assumption | exact fd_lt20 h20 (by decide)) (And.intro (by first | rfl | assumption) ?_))))
        refine se_iald (SE.rf (P := fun _ _ => False) σ) h20 r1 (by decide) rfl rfl hi60 hvi.2.2 id (by decide) ?_
        repeat refine hX _ _ _ _ _ _ ?_
        have h1 : post (some (.inl (if hvy (kd σ i) = true then 1 else 0))) σ := h1
        refine ok_mheavy _ _ _ _ hvi.2.1 (fun hh => ?_) (fun hh => ?_)
        · rw [if_pos hh] at h1
          repeat refine hX _ _ _ _ _ _ ?_
          refine And.intro (fun hc => absurd (show (1 : Int32) = 0 from hc) (by decide)) (fun _ => ?_)
          repeat refine hX _ _ _ _ _ _ ?_
          exact h1
        · rw [if_neg (by rw [hh]; decide)] at h1
          repeat refine hX _ _ _ _ _ _ ?_
          refine And.intro (fun _ => ?_) (fun hc => absurd (show (0 : Int32) = 0 from rfl) hc)
          repeat refine hX _ _ _ _ _ _ ?_
          exact h1
      | 6, _, h1 =>
        refine Or.inr (And.intro (by decide) ?_)
        repeat (first | refine hX _ _ _ _ _ _ ?_ | refine Exists.intro _ (And.intro (by first | rfl | assumption) (And.intro (by first | assumption | exact fd_lt20 h20 (by decide)) (And.intro (by first | rfl | assumption) ?_))))
        refine se_iald (SE.rf (P := fun _ _ => False) σ) h20 r1 (by decide) rfl rfl hi60 hvi.2.2 id (by decide) ?_
        repeat refine hX _ _ _ _ _ _ ?_
        have h1 : post (some (.inl (if mrk (kd σ i) = true then 1 else 0))) σ := h1
        refine ok_mmarked _ _ _ _ hvi.2.1 (fun hh => ?_) (fun hh => ?_)
        · rw [if_pos hh] at h1
          repeat refine hX _ _ _ _ _ _ ?_
          refine And.intro (fun hc => absurd (show (1 : Int32) = 0 from hc) (by decide)) (fun _ => ?_)
          repeat refine hX _ _ _ _ _ _ ?_
          exact h1
        · rw [if_neg (by rw [hh]; decide)] at h1
          repeat refine hX _ _ _ _ _ _ ?_
          refine And.intro (fun _ => ?_) (fun hc => absurd (show (0 : Int32) = 0 from rfl) hc)
          repeat refine hX _ _ _ _ _ _ ?_
          exact h1
    · repeat refine hX _ _ _ _ _ _ ?_
      refine And.intro (fun hc => absurd (show (0 : Int32) = 0 from rfl) hc) (fun _ => ?_)
      repeat refine hX _ _ _ _ _ _ ?_
      exact h0w ha
  · repeat refine hX _ _ _ _ _ _ ?_
    refine And.intro (fun _ => ?_) (fun hc => absurd (show (0 : Int32) = 0 from rfl) hc)
    repeat refine hX _ _ _ _ _ _ ?_
    exact h0 hno
end
section
def cdv (σ : fd_S) (a j : Nat) (f g : Int32) : Int32 := match j with
  | 0 => σ.2.1 a 1 - σ.2.1 a 3
  | 1 => σ.2.1 a 2 - σ.2.1 a 4
  | 2 => σ.2.1 a 6
  | 3 => σ.2.1 a 5
  | 4 => f
  | _ => g
def nof (σ : fd_S) (o : Option Nat) : Int32 := match o with
  | none => -1
  | some a => σ.2.1 a 0
theorem c_deck (d n : Nat) (x w : Int32) (σ : fd_S) (post : Option fd_V → fd_S → Prop) (hB : fd_B σ n) (hfl : ∀ l, l < 4 → ∀ j, ∀ a, σ.2.2.1 (5 + l) j = some a → a < σ.1 ∧ fd_sh a = .inl 2) (h0 : (∀ i, i < 4 → x ≠ nI i) → post (some (.inl (-2))) σ) (h0w : (w.toInt < 0 ∨ (5 : Int) < w.toInt) → post (some (.inl (-2))) σ) (h1 : ∀ l j, l < 4 → x = nI l → j ≤ 5 → w = nI j → post (some (.inl (cdv σ (5 + l) j (nof σ (σ.2.2.1 (5 + l) 7)) (nof σ (σ.2.2.1 (5 + l) 8))))) σ) : fd_Sem (d + 3) 34 [.inr (.inr (.inl (some 0))), .inl x, .inl w] σ post := by
  obtain ⟨h20, hN, hn, hcn, r0, r2, r3, r30, hva, hla⟩ := id hB
  intro X hX hV
  repeat (first | refine hX _ _ _ _ _ _ ?_ | refine Exists.intro _ (And.intro (by first | rfl | assumption) (And.intro (by first | assumption | exact fd_lt20 h20 (by decide)) (And.intro (by first | rfl | assumption) ?_))))
  refine ok_laneAt _ _ n _ _ hB (fun l hl e => ?_) (fun hno => ?_)
  · have hv : 5 + l < σ.1 := by omega
    have hs := fd_sh_lane hl
    repeat refine hX _ _ _ _ _ _ ?_
    refine And.intro (fun _ => ?_) (fun hc => by cases hc)
    repeat refine hX _ _ _ _ _ _ ?_
    rcases ts_cases w 5 with hx | ⟨j, hj, rfl⟩
    · refine Or.inr (And.intro hx ?_)
      repeat refine hX _ _ _ _ _ _ ?_
      exact h0w hx
    · have hz := h1 l j hl e hj rfl
      clear h1
      match j, hj, hz with
      | 0, _, h1 =>
        refine Or.inl (Exists.intro 0 (Exists.intro _ (And.intro rfl (And.intro (by decide) ?_))))
        repeat (first | refine hX _ _ _ _ _ _ ?_ | refine Exists.intro _ (And.intro (by first | rfl | assumption) (And.intro (by first | assumption | exact fd_lt20 h20 (by decide)) (And.intro (by first | rfl | assumption) ?_))))
        refine ok_lengthLeft _ _ _ _ hv hs ?_
        repeat refine hX _ _ _ _ _ _ ?_
        exact h1
      | 1, _, h1 =>
        refine Or.inl (Exists.intro 1 (Exists.intro _ (And.intro rfl (And.intro (by decide) ?_))))
        repeat (first | refine hX _ _ _ _ _ _ ?_ | refine Exists.intro _ (And.intro (by first | rfl | assumption) (And.intro (by first | assumption | exact fd_lt20 h20 (by decide)) (And.intro (by first | rfl | assumption) ?_))))
        refine ok_bearingLeft _ _ _ _ hv hs ?_
        repeat refine hX _ _ _ _ _ _ ?_
        exact h1
      | 2, _, h1 =>
        refine Or.inl (Exists.intro 2 (Exists.intro _ (And.intro rfl (And.intro (by decide) ?_))))
        repeat (first | refine hX _ _ _ _ _ _ ?_ | refine Exists.intro _ (And.intro (by first | rfl | assumption) (And.intro (by first | assumption | exact fd_lt20 h20 (by decide)) (And.intro (by first | rfl | assumption) ?_))))
        exact h1
      | 3, _, h1 =>
        refine Or.inl (Exists.intro 3 (Exists.intro _ (And.intro rfl (And.intro (by decide) ?_))))
        repeat (first | refine hX _ _ _ _ _ _ ?_ | refine Exists.intro _ (And.intro (by first | rfl | assumption) (And.intro (by first | assumption | exact fd_lt20 h20 (by decide)) (And.intro (by first | rfl | assumption) ?_))))
        exact h1
      | 4, _, h1 =>
        refine Or.inl (Exists.intro 4 (Exists.intro _ (And.intro rfl (And.intro (by decide) ?_))))
        repeat (first | refine hX _ _ _ _ _ _ ?_ | refine Exists.intro _ (And.intro (by first | rfl | assumption) (And.intro (by first | assumption | exact fd_lt20 h20 (by decide)) (And.intro (by first | rfl | assumption) ?_))))
        have h1 : post (some (.inl (nof σ (σ.2.2.1 (5 + l) 7)))) σ := h1
        refine ok_numberOf _ _ _ _ (fun ho => ?_) (fun a ho => ?_)
        · rw [ho] at h1
          repeat refine hX _ _ _ _ _ _ ?_
          exact h1
        · obtain ⟨q1, q2⟩ := hfl l hl 7 a ho
          rw [ho] at h1
          refine ⟨q1, q2, ?_⟩
          repeat refine hX _ _ _ _ _ _ ?_
          exact h1
      | 5, _, h1 =>
        refine Or.inl (Exists.intro 5 (Exists.intro _ (And.intro rfl (And.intro (by decide) ?_))))
        repeat (first | refine hX _ _ _ _ _ _ ?_ | refine Exists.intro _ (And.intro (by first | rfl | assumption) (And.intro (by first | assumption | exact fd_lt20 h20 (by decide)) (And.intro (by first | rfl | assumption) ?_))))
        have h1 : post (some (.inl (nof σ (σ.2.2.1 (5 + l) 8)))) σ := h1
        refine ok_numberOf _ _ _ _ (fun ho => ?_) (fun a ho => ?_)
        · rw [ho] at h1
          repeat refine hX _ _ _ _ _ _ ?_
          exact h1
        · obtain ⟨q1, q2⟩ := hfl l hl 8 a ho
          rw [ho] at h1
          refine ⟨q1, q2, ?_⟩
          repeat refine hX _ _ _ _ _ _ ?_
          exact h1
      | j + 6, hj, _ => omega
  · repeat refine hX _ _ _ _ _ _ ?_
    refine And.intro (fun hc => absurd rfl hc) (fun _ => ?_)
    repeat refine hX _ _ _ _ _ _ ?_
    exact h0 hno
theorem sq_idx0 (l : Nat) : (fun x y : Int32 => x * y) 60 (nI l) = nI (60 * l + 0) := by
  show nI 60 * nI l = _
  rw [pk_mul]
  rfl
theorem sq_idxm (l m : Nat) (h : 0 < m) : (fun x y : Int32 => x - y) ((fun x y : Int32 => x + y) ((fun x y : Int32 => x * y) 60 (nI l)) (nI m)) 1 = nI (60 * l + (m - 1)) := by
  show nI 60 * nI l + nI m - 1 = _
  rw [pk_mul, nI_add, show 60 * l + m = (60 * l + (m - 1)) + 1 by omega]
  exact nI_pred _
def mdv (σ : fd_S) (l m j : Nat) : Int32 := match j with
  | 0 => sL σ l m
  | 1 => σ.2.1 16 l - sM σ l m
  | 2 => nI m
  | 3 => sN σ l m
  | 4 => if m = 0 then -1 else σ.2.1 18 (60 * l + 0)
  | _ => if m = 0 then -1 else σ.2.1 18 (60 * l + (m - 1))
theorem m_deck (d t : Nat) (m : Nat → Nat) (x w : Int32) (σ : fd_S) (post : Option fd_V → fd_S → Prop) (hB : Mb σ) (hS : ∀ l, l < 4 → Vs σ l (m l)) (ht : σ.2.1 9 14 = nI t) (ht10 : t ≤ 10) (h0 : (∀ i, i < 4 → x ≠ nI i) → post (some (.inl (-2))) σ) (h0w : ¬ (0 ≤ w ∧ w ≤ 5) → post (some (.inl (-2))) σ) (h1 : ∀ l j, l < 4 → x = nI l → j ≤ 5 → w = nI j → ∀ τ, SE (JQ t) σ τ → post (some (.inl (mdv σ l (m l) j))) τ) : fd_Sem (d + 7) 76 [.inr (.inr (.inl (some 9))), .inl x, .inl w] σ post := by
  obtain ⟨h20, r1, r2, r3, r4, r5, r6, r7, r8, r9, r13⟩ := id hB
  intro X hX hV
  repeat (first | refine hX _ _ _ _ _ _ ?_ | refine Exists.intro _ (And.intro (by first | rfl | assumption) (And.intro (by first | assumption | exact fd_lt20 h20 (by decide)) (And.intro (by first | rfl | assumption) ?_))))
  refine ok_isLane _ _ _ _ (fun l hl e => ?_) (fun hno => ?_)
  · repeat refine hX _ _ _ _ _ _ ?_
    refine And.intro (fun hc => absurd (show (1 : Int32) = 0 from hc) (by decide)) (fun _ => ?_)
    repeat refine hX _ _ _ _ _ _ ?_
    refine ok_in _ _ _ _ _ _ (fun ha hb => ?_) (fun ha => ?_)
    · obtain ⟨j, hj, rfl⟩ : ∃ j, j < 6 ∧ w = nI j := ix_of (by decide) ha (by rw [show (nI 6 - 1 : Int32) = 5 by decide]; exact hb)
      have hz := h1 l j hl e (by omega) rfl
      clear h1
      subst e
      obtain ⟨hm60, h17, hst⟩ := id (hS l hl)
      repeat refine hX _ _ _ _ _ _ ?_
      refine And.intro (fun _ => ?_) (fun hc => absurd (show (1 : Int32) = 0 from hc) (by decide))
      repeat refine hX _ _ _ _ _ _ ?_
      match j, hj, hz with
      | 0, _, h1 =>
        refine Or.inl (Exists.intro 0 (Exists.intro _ (And.intro rfl (And.intro (by decide) ?_))))
        repeat (first | refine hX _ _ _ _ _ _ ?_ | refine Exists.intro _ (And.intro (by first | rfl | assumption) (And.intro (by first | assumption | exact fd_lt20 h20 (by decide)) (And.intro (by first | rfl | assumption) ?_))))
        refine ok_leftLength _ l (m l) t σ _ hB hl (hS l hl) ht ht10 (fun τ hτ => ?_)
        repeat refine hX _ _ _ _ _ _ ?_
        exact h1 τ hτ
      | 1, _, h1 =>
        refine Or.inl (Exists.intro 1 (Exists.intro _ (And.intro rfl (And.intro (by decide) ?_))))
        repeat (first | refine hX _ _ _ _ _ _ ?_ | refine Exists.intro _ (And.intro (by first | rfl | assumption) (And.intro (by first | assumption | exact fd_lt20 h20 (by decide)) (And.intro (by first | rfl | assumption) ?_))))
        refine se_iald (SE.rf (P := fun _ _ => False) σ) h20 r7 (by decide) rfl rfl hl rfl id (by decide) ?_
        repeat (first | refine hX _ _ _ _ _ _ ?_ | refine Exists.intro _ (And.intro (by first | rfl | assumption) (And.intro (by first | assumption | exact fd_lt20 h20 (by decide)) (And.intro (by first | rfl | assumption) ?_))))
        refine ok_carried _ l (m l) t σ _ hB hl (hS l hl) ht ht10 (fun τ hτ => ?_)
        repeat refine hX _ _ _ _ _ _ ?_
        exact h1 τ hτ
      | 2, _, h1 =>
        refine Or.inl (Exists.intro 2 (Exists.intro _ (And.intro rfl (And.intro (by decide) ?_))))
        repeat (first | refine hX _ _ _ _ _ _ ?_ | refine Exists.intro _ (And.intro (by first | rfl | assumption) (And.intro (by first | assumption | exact fd_lt20 h20 (by decide)) (And.intro (by first | rfl | assumption) ?_))))
        refine se_iald (SE.rf (P := fun _ _ => False) σ) h20 r8 (by decide) rfl rfl hl h17 id (by decide) ?_
        repeat refine hX _ _ _ _ _ _ ?_
        exact h1 σ (SE.rf σ)
      | 3, _, h1 =>
        refine Or.inl (Exists.intro 3 (Exists.intro _ (And.intro rfl (And.intro (by decide) ?_))))
        repeat (first | refine hX _ _ _ _ _ _ ?_ | refine Exists.intro _ (And.intro (by first | rfl | assumption) (And.intro (by first | assumption | exact fd_lt20 h20 (by decide)) (And.intro (by first | rfl | assumption) ?_))))
        refine ok_lasts _ l (m l) t σ _ hB hl (hS l hl) ht ht10 (fun τ hτ => ?_)
        repeat refine hX _ _ _ _ _ _ ?_
        exact h1 τ hτ
      | 4, _, h1 =>
        refine Or.inl (Exists.intro 4 (Exists.intro _ (And.intro rfl (And.intro (by decide) ?_))))
        repeat (first | refine hX _ _ _ _ _ _ ?_ | refine Exists.intro _ (And.intro (by first | rfl | assumption) (And.intro (by first | assumption | exact fd_lt20 h20 (by decide)) (And.intro (by first | rfl | assumption) ?_))))
        refine se_iald (SE.rf (P := fun _ _ => False) σ) h20 r8 (by decide) rfl rfl hl h17 id (by decide) ?_
        repeat refine hX _ _ _ _ _ _ ?_
        have h1 : post (some (.inl (if m l = 0 then -1 else σ.2.1 18 (60 * l + 0)))) σ := h1 σ (SE.rf σ)
        by_cases hm0 : m l = 0
        · rw [if_pos hm0] at h1
          refine And.intro (fun hc => absurd (show nI (m l) = 0 by rw [hm0]; rfl) hc) (fun _ => ?_)
          repeat refine hX _ _ _ _ _ _ ?_
          exact h1
        · rw [if_neg hm0] at h1
          refine And.intro (fun _ => ?_) (fun hc => absurd hc (nI_ne0 (by omega) (by omega)))
          repeat (first | refine hX _ _ _ _ _ _ ?_ | refine Exists.intro _ (And.intro (by first | rfl | assumption) (And.intro (by first | assumption | exact fd_lt20 h20 (by decide)) (And.intro (by first | rfl | assumption) ?_))))
          refine se_iald (SE.rf (P := fun _ _ => False) σ) h20 r9 (by decide) rfl (sq_idx0 l) (by omega) rfl id (by decide) ?_
          repeat refine hX _ _ _ _ _ _ ?_
          exact h1
      | 5, _, h1 =>
        refine Or.inr (And.intro (by decide) ?_)
        repeat (first | refine hX _ _ _ _ _ _ ?_ | refine Exists.intro _ (And.intro (by first | rfl | assumption) (And.intro (by first | assumption | exact fd_lt20 h20 (by decide)) (And.intro (by first | rfl | assumption) ?_))))
        refine se_iald (SE.rf (P := fun _ _ => False) σ) h20 r8 (by decide) rfl rfl hl h17 id (by decide) ?_
        repeat refine hX _ _ _ _ _ _ ?_
        have h1 : post (some (.inl (if m l = 0 then -1 else σ.2.1 18 (60 * l + (m l - 1))))) σ := h1 σ (SE.rf σ)
        by_cases hm0 : m l = 0
        · rw [if_pos hm0] at h1
          refine And.intro (fun hc => absurd (show nI (m l) = 0 by rw [hm0]; rfl) hc) (fun _ => ?_)
          repeat refine hX _ _ _ _ _ _ ?_
          exact h1
        · rw [if_neg hm0] at h1
          refine And.intro (fun _ => ?_) (fun hc => absurd hc (nI_ne0 (by omega) (by omega)))
          repeat (first | refine hX _ _ _ _ _ _ ?_ | refine Exists.intro _ (And.intro (by first | rfl | assumption) (And.intro (by first | assumption | exact fd_lt20 h20 (by decide)) (And.intro (by first | rfl | assumption) ?_))))
          refine se_iald (SE.rf (P := fun _ _ => False) σ) h20 r8 (by decide) rfl rfl hl h17 id (by decide) ?_
          repeat refine hX _ _ _ _ _ _ ?_
          refine se_iald (SE.rf (P := fun _ _ => False) σ) h20 r9 (by decide) rfl (sq_idxm l (m l) (by omega)) (by omega) rfl id (by decide) ?_
          repeat refine hX _ _ _ _ _ _ ?_
          exact h1
    · repeat refine hX _ _ _ _ _ _ ?_
      refine And.intro (fun hc => absurd (show (0 : Int32) = 0 from rfl) hc) (fun _ => ?_)
      repeat refine hX _ _ _ _ _ _ ?_
      exact h0w ha
  · repeat refine hX _ _ _ _ _ _ ?_
    refine And.intro (fun _ => ?_) (fun hc => absurd (show (0 : Int32) = 0 from rfl) hc)
    repeat refine hX _ _ _ _ _ _ ?_
    exact h0 hno
end
section
theorem si_eq {σ : fd_S} {a k : Nat} {v : Int32} : (fd_si σ a k v).2.1 a k = v := by show fd_u σ.2.1 a k v a k = v; exact fd_u_eq
theorem si_ne {σ : fd_S} {a k i j : Nat} {v : Int32} (h : i ≠ a) : (fd_si σ a k v).2.1 i j = σ.2.1 i j := by show fd_u σ.2.1 a k v i j = _; exact fd_u_ne h
theorem ia_ld {τ : fd_S} (h20 : 20 ≤ τ.1) {f a n i : Nat} {x y : Int32} {X : fd_X} {nx : List fd_E} {lv : fd_L} {t : List fd_V} {cc ss : Nat} (hf : τ.2.2.1 9 f = some a) (ha : a < 20) (hs : fd_sh a = .inr (n, none)) (hy : y = nI i) (hi : i < n) (hx : τ.2.1 a i = x) (hn : n < 2 ^ 31) (k : X nx lv (.inl x :: t) τ cc ss) : fd_ial none X nx lv (.inl y :: .inr (.inr (.inl (τ.2.2.1 9 f))) :: t) τ cc ss := se_iald (SE.rf (P := fun _ _ => False) τ) h20 hf ha hs hy hi hx id hn k
theorem ia_st {τ : fd_S} (h20 : 20 ≤ τ.1) {f a n i : Nat} {v y : Int32} {X : fd_X} {nx : List fd_E} {lv : fd_L} {t : List fd_V} {cc ss : Nat} (hf : τ.2.2.1 9 f = some a) (ha : a < 20) (hs : fd_sh a = .inr (n, none)) (hy : y = nI i) (hi : i < n) (hn : n < 2 ^ 31) (k : X nx lv t (fd_si τ a i v) cc ss) : fd_ias X nx lv (.inl v :: .inl y :: .inr (.inr (.inl (τ.2.2.1 9 f))) :: t) τ cc ss := by
  subst hy
  refine ⟨a, n, hf, by omega, hs, vp_in_nI hi hn, ?_⟩
  rw [nI_clamp (by omega)]
  exact k
def of_s (σ : fd_S) (a b : Nat) : fd_S := fd_sl (fd_si (rl_s σ a b 0) b 13 0) 0 6 (σ.2.2.2 0 6 - (σ.2.1 b 13).toInt64)
theorem c_off (d n : Nat) (x : Int32) (σ : fd_S) (post : Option fd_V → fd_S → Prop) (hB : fd_B σ n) (hfl : ∀ l, l < 4 → ∀ j, ∀ a, σ.2.2.1 (5 + l) j = some a → a < σ.1 ∧ fd_sh a = .inl 2) (h0 : (∀ i, i < 4 → x ≠ nI i) → post (some (.inl (-2))) σ) (h2 : ∀ l, l < 4 → x = nI l → σ.2.2.1 (5 + l) 8 = none → post (some (.inl (-3))) σ) (h1 : ∀ l b, l < 4 → x = nI l → σ.2.2.1 (5 + l) 8 = some b → post (some (.inl (σ.2.1 b 13))) (of_s σ (5 + l) b)) : fd_Sem (d + 3) 30 [.inr (.inr (.inl (some 0))), .inl x] σ post := by
  obtain ⟨h20, hN, hn, hcn, r0, r2, r3, r30, hva, hla⟩ := id hB
  intro X hX hV
  repeat (first | refine hX _ _ _ _ _ _ ?_ | refine Exists.intro _ (And.intro (by first | rfl | assumption) (And.intro (by first | assumption | exact fd_lt20 h20 (by decide)) (And.intro (by first | rfl | assumption) ?_))))
  refine ok_laneAt _ _ n _ _ hB (fun l hl e => ?_) (fun hno => ?_)
  · have hv : 5 + l < σ.1 := by omega
    have hs := fd_sh_lane hl
    repeat refine hX _ _ _ _ _ _ ?_
    refine And.intro (fun _ => ?_) (fun hc => by cases hc)
    iterate 2 refine hX _ _ _ _ _ _ ?_
    refine Exists.intro _ (And.intro (by first | rfl | assumption) (And.intro (by first | assumption | exact fd_lt20 h20 (by decide)) (And.intro (by first | rfl | assumption) ?_)))
    obtain ⟨o, ho⟩ : ∃ o, σ.2.2.1 (5 + l) 8 = o := ⟨_, rfl⟩
    rw [ho]
    cases o with
    | none =>
      repeat refine hX _ _ _ _ _ _ ?_
      refine And.intro (fun hc => absurd rfl hc) (fun _ => ?_)
      repeat refine hX _ _ _ _ _ _ ?_
      exact h2 l hl e ho
    | some b =>
      obtain ⟨hb, hsb⟩ := hfl l hl 8 b ho
      have h1 := h1 l b hl e ho
      have e13 : (rl_s σ (5 + l) b 0).2.1 b 13 = σ.2.1 b 13 := by simp [rl_s]
      have hb2 : b < (rl_s σ (5 + l) b 0).1 := hb
      repeat refine hX _ _ _ _ _ _ ?_
      refine And.intro (fun _ => ?_) (fun hc => by cases hc)
      repeat (first | refine hX _ _ _ _ _ _ ?_ | refine Exists.intro _ (And.intro (by first | rfl | assumption) (And.intro (by first | assumption | exact fd_lt20 h20 (by decide)) (And.intro (by first | rfl | assumption) ?_))))
      refine ok_removeLast _ (5 + l) b 0 σ _ hv hs hb hsb ho ?_
      iterate 2 refine hX _ _ _ _ _ _ ?_
      refine Exists.intro _ (And.intro (by first | rfl | assumption) (And.intro (by first | assumption | exact fd_lt20 h20 (by decide)) (And.intro (by first | rfl | assumption) ?_)))
      rw [e13]
      have g20 : 20 ≤ (rl_s σ (5 + l) b 0).1 := h20
      have h20 := g20
      repeat (first | refine hX _ _ _ _ _ _ ?_ | refine Exists.intro _ (And.intro (by first | rfl | assumption) (And.intro (by first | assumption | exact fd_lt20 h20 (by decide)) (And.intro (by first | rfl | assumption) ?_))))
      exact h1
  · repeat refine hX _ _ _ _ _ _ ?_
    refine And.intro (fun hc => absurd rfl hc) (fun _ => ?_)
    repeat refine hX _ _ _ _ _ _ ?_
    exact h0 hno
def mo_s (σ : fd_S) (l m i : Nat) : fd_S := fd_sl (fd_si (fd_si (fd_si σ 17 l (nI (m - 1))) 13 i 0) 14 i 0) 9 12 (σ.2.2.2 9 12 - (σ.2.1 14 i).toInt64)
theorem m_off (d : Nat) (m : Nat → Nat) (x : Int32) (σ : fd_S) (post : Option fd_V → fd_S → Prop) (hB : Mb σ) (hS : ∀ l, l < 4 → Vs σ l (m l)) (h0 : (∀ i, i < 4 → x ≠ nI i) → post (some (.inl (-2))) σ) (h2 : ∀ l, l < 4 → x = nI l → m l = 0 → post (some (.inl (-3))) σ) (h1 : ∀ l, l < 4 → x = nI l → 0 < m l → post (some (.inl (σ.2.1 14 (sv σ l (m l - 1))))) (mo_s σ l (m l) (sv σ l (m l - 1)))) : fd_Sem (d + 3) 70 [.inr (.inr (.inl (some 9))), .inl x] σ post := by
  obtain ⟨h20, r1, r2, r3, r4, r5, r6, r7, r8, r9, r13⟩ := id hB
  intro X hX hV
  repeat (first | refine hX _ _ _ _ _ _ ?_ | refine Exists.intro _ (And.intro (by first | rfl | assumption) (And.intro (by first | assumption | exact fd_lt20 h20 (by decide)) (And.intro (by first | rfl | assumption) ?_))))
  refine ok_isLane _ _ _ _ (fun l hl e => ?_) (fun hno => ?_)
  · obtain ⟨hm60, h17, hst⟩ := id (hS l hl)
    have g1 := h1 l hl e
    have g2 := h2 l hl e
    clear h1 h2
    subst e
    repeat refine hX _ _ _ _ _ _ ?_
    refine And.intro (fun _ => ?_) (fun hc => absurd (show (1 : Int32) = 0 from hc) (by decide))
    repeat (first | refine hX _ _ _ _ _ _ ?_ | refine Exists.intro _ (And.intro (by first | rfl | assumption) (And.intro (by first | assumption | exact fd_lt20 h20 (by decide)) (And.intro (by first | rfl | assumption) ?_))))
    refine ia_ld (by exact h20) (by exact r8) (by decide) (by rfl) rfl hl h17 (by decide) ?_
    repeat refine hX _ _ _ _ _ _ ?_
    by_cases hm0 : m l = 0
    · refine And.intro (fun hc => absurd (show nI (m l) = 0 by rw [hm0]; rfl) hc) (fun _ => ?_)
      repeat refine hX _ _ _ _ _ _ ?_
      exact g2 hm0
    · have h1 := g1 (by omega)
      obtain ⟨hsk, hvi⟩ := hst (m l - 1) (by omega)
      refine And.intro (fun _ => ?_) (fun hc => absurd hc (nI_ne0 (by omega) (by omega)))
      repeat (first | refine hX _ _ _ _ _ _ ?_ | refine Exists.intro _ (And.intro (by first | rfl | assumption) (And.intro (by first | assumption | exact fd_lt20 h20 (by decide)) (And.intro (by first | rfl | assumption) ?_))))
      refine ia_ld (by exact h20) (by exact r8) (by decide) (by rfl) rfl hl h17 (by decide) ?_
      iterate 3 refine hX _ _ _ _ _ _ ?_
      rw [show (fun x y : Int32 => x - y) (nI (m l)) 1 = nI (m l - 1) from by show nI (m l) - 1 = _; rw [show m l = (m l - 1) + 1 by omega]; exact nI_pred _]
      refine ia_st (by exact h20) (by exact r8) (by decide) (by rfl) rfl hl (by decide) ?_
      repeat (first | refine hX _ _ _ _ _ _ ?_ | refine Exists.intro _ (And.intro (by first | rfl | assumption) (And.intro (by first | assumption | exact fd_lt20 h20 (by decide)) (And.intro (by first | rfl | assumption) ?_))))
      refine ia_ld (by exact h20) (by exact r8) (by decide) (by rfl) rfl hl (x := nI (m l - 1)) (by exact si_eq) (by decide) ?_
      repeat (first | refine hX _ _ _ _ _ _ ?_ | refine Exists.intro _ (And.intro (by first | rfl | assumption) (And.intro (by first | assumption | exact fd_lt20 h20 (by decide)) (And.intro (by first | rfl | assumption) ?_))))
      refine ia_ld (by exact h20) (by exact r9) (by decide) (by rfl) (sq_idx l (m l - 1)) (by omega) (x := nI (sv σ l (m l - 1))) (by rw [si_ne (by decide)]; exact hsk) (by decide) ?_
      repeat (first | refine hX _ _ _ _ _ _ ?_ | refine Exists.intro _ (And.intro (by first | rfl | assumption) (And.intro (by first | assumption | exact fd_lt20 h20 (by decide)) (And.intro (by first | rfl | assumption) ?_))))
      refine ia_ld (by exact h20) (by exact r5) (by decide) (by rfl) rfl hvi.1 (x := σ.2.1 14 (sv σ l (m l - 1))) (by rw [si_ne (by decide)]) (by decide) ?_
      repeat (first | refine hX _ _ _ _ _ _ ?_ | refine Exists.intro _ (And.intro (by first | rfl | assumption) (And.intro (by first | assumption | exact fd_lt20 h20 (by decide)) (And.intro (by first | rfl | assumption) ?_))))
      refine ia_st (by exact h20) (by exact r4) (by decide) (by rfl) rfl hvi.1 (by decide) ?_
      repeat (first | refine hX _ _ _ _ _ _ ?_ | refine Exists.intro _ (And.intro (by first | rfl | assumption) (And.intro (by first | assumption | exact fd_lt20 h20 (by decide)) (And.intro (by first | rfl | assumption) ?_))))
      refine ia_st (by exact h20) (by exact r5) (by decide) (by rfl) rfl hvi.1 (by decide) ?_
      repeat (first | refine hX _ _ _ _ _ _ ?_ | refine Exists.intro _ (And.intro (by first | rfl | assumption) (And.intro (by first | assumption | exact fd_lt20 h20 (by decide)) (And.intro (by first | rfl | assumption) ?_))))
      exact h1
  · repeat refine hX _ _ _ _ _ _ ?_
    refine And.intro (fun hc => absurd (show (0 : Int32) = 0 from rfl) hc) (fun _ => ?_)
    repeat refine hX _ _ _ _ _ _ ?_
    exact h0 hno
theorem c_ask (d n : Nat) (x w s : Int32) (σ : fd_S) (post : Option fd_V → fd_S → Prop) (hB : fd_B σ n) (h0 : ¬ ((∃ i, i < n ∧ x = nI i) ∧ (0 ≤ w ∧ w ≤ 5) ∧ (w = 3 → 0 ≤ s ∧ s ≤ 3)) → post (some (.inl (-2))) σ) (h1 : ∀ i j, i < n → x = nI i → j < 6 → w = nI j → (w = 3 → 0 ≤ s ∧ s ≤ 3) → ∃ k, k < 7 ∧ σ.2.1 (20 + i) 1 = nI k ∧ post (some (.inl (an_w k (σ.2.1 (20 + i) 2) (σ.2.1 (20 + i) 3) s 16 k j).1)) (AT σ (20 + i) s (an_w k (σ.2.1 (20 + i) 2) (σ.2.1 (20 + i) 3) s 16 k j).2)) : fd_Sem (d + 62) 25 [.inr (.inr (.inl (some 0))), .inl x, .inl w, .inl s] σ post := by
  obtain ⟨h20, hN, hn, hcn, r0, r2, r3, r30, hva, hla⟩ := id hB
  intro X hX hV
  repeat (first | refine hX _ _ _ _ _ _ ?_ | refine Exists.intro _ (And.intro (by first | rfl | assumption) (And.intro (by first | assumption | exact fd_lt20 h20 (by decide)) (And.intro (by first | rfl | assumption) ?_))))
  refine ok_vehicleAt _ _ n _ _ hB (fun i hi e => ?_) (fun hno => ?_)
  · have hv : 20 + i < σ.1 := by omega
    have hs := fd_shV i
    repeat refine hX _ _ _ _ _ _ ?_
    refine And.intro (fun hc => by cases hc) (fun _ => ?_)
    repeat refine hX _ _ _ _ _ _ ?_
    refine ok_within _ _ _ _ _ _ (fun ha hb => ?_) (fun ha => ?_)
    · obtain ⟨j, hj, hw⟩ : ∃ j, j < 6 ∧ w = nI j := ix_of (by decide) ha (by rw [show (nI 6 - 1 : Int32) = 5 by decide]; exact hb)
      have fin : (w = 3 → 0 ≤ s ∧ s ≤ 3) → X ((fd_code 25).drop 23) [(4, .inr (.inr (.inl (some (20 + i))))), (0, .inr (.inr (.inl (some 0)))), (2, .inl w), (3, .inl s)] [] σ 0 0 := by
        intro h3
        obtain ⟨k, hk7, hk, h1⟩ := h1 i j hi e hj hw h3
        rw [hw]
        repeat (first | refine hX _ _ _ _ _ _ ?_ | refine Exists.intro _ (And.intro (by first | rfl | assumption) (And.intro (by first | assumption | exact fd_lt20 h20 (by decide)) (And.intro (by first | rfl | assumption) ?_))))
        refine ok_answerTraced d (20 + i) k j _ _ s σ _ h20 r30 hv hs hk7 hk rfl rfl hj ?_
        repeat refine hX _ _ _ _ _ _ ?_
        exact h1
      repeat refine hX _ _ _ _ _ _ ?_
      refine And.intro (fun _ => ?_) (fun hc => absurd (show (1 : Int32) = 0 from hc) (by decide))
      repeat refine hX _ _ _ _ _ _ ?_
      refine And.intro (fun hc => ?_) (fun hc => ?_) <;> try dsimp only [fd_icmp] at hc
      · exact hV _ _ [(4, .inr (.inr (.inl (some (20 + i))))), (0, .inr (.inr (.inl (some 0)))), (2, .inl w), (3, .inl s)] _ _ _ _ (And.intro rfl (And.intro rfl (And.intro rfl (And.intro rfl trivial)))) (fin (fun q => absurd q hc))
      · repeat refine hX _ _ _ _ _ _ ?_
        refine ok_within _ _ _ _ _ _ (fun h5 h6 => ?_) (fun h5 => ?_)
        · repeat refine hX _ _ _ _ _ _ ?_
          refine And.intro (fun _ => ?_) (fun hc => absurd (show (1 : Int32) = 0 from hc) (by decide))
          exact hV _ _ [(4, .inr (.inr (.inl (some (20 + i))))), (0, .inr (.inr (.inl (some 0)))), (2, .inl w), (3, .inl s)] _ _ _ _ (And.intro rfl (And.intro rfl (And.intro rfl (And.intro rfl trivial)))) (fin (fun _ => ⟨h5, h6⟩))
        · repeat refine hX _ _ _ _ _ _ ?_
          refine And.intro (fun hc => absurd (show (0 : Int32) = 0 from rfl) hc) (fun _ => ?_)
          repeat refine hX _ _ _ _ _ _ ?_
          exact h0 (fun q => h5 (q.2.2 hc))
    · repeat refine hX _ _ _ _ _ _ ?_
      refine And.intro (fun hc => absurd (show (0 : Int32) = 0 from rfl) hc) (fun _ => ?_)
      repeat refine hX _ _ _ _ _ _ ?_
      exact h0 (fun q => ha q.2.1)
  · repeat refine hX _ _ _ _ _ _ ?_
    refine And.intro (fun _ => ?_) (fun hc => absurd rfl hc)
    repeat refine hX _ _ _ _ _ _ ?_
    exact h0 (fun ⟨⟨i, hi, e⟩, _⟩ => hno i hi e)
theorem an_w4_no {k : Nat} (hk : k < 7) (h : hvy k = false) (sz ld s : Int32) : an_w k sz ld s 16 k 4 = (-3, []) := by
  match k, hk, h with
  | 0, _, _ => rfl
  | 1, _, _ => rfl
  | 5, _, _ => rfl
  | 2, _, h => cases h
  | 3, _, h => cases h
  | 4, _, h => cases h
  | 6, _, h => cases h
theorem an_w5_no {k : Nat} (hk : k < 7) (h : mrk k = false) (sz ld s : Int32) : an_w k sz ld s 16 k 5 = (-3, []) := by
  match k, hk, h with
  | 0, _, _ => rfl
  | 1, _, _ => rfl
  | 2, _, _ => rfl
  | 3, _, h => cases h
  | 4, _, h => cases h
  | 5, _, h => cases h
  | 6, _, h => cases h
theorem m_ask (d n : Nat) (x w s : Int32) (σ : fd_S) (post : Option fd_V → fd_S → Prop) (hB : Mb σ) (hn : n ≤ 60) (h90 : σ.2.1 9 0 = nI n) (h0 : ¬ ((∃ i, i < n ∧ x = nI i) ∧ (0 ≤ w ∧ w ≤ 5) ∧ (w = 3 → 0 ≤ s ∧ s ≤ 3)) → post (some (.inl (-2))) σ) (h1 : ∀ i j, i < n → x = nI i → j < 6 → w = nI j → (w = 3 → 0 ≤ s ∧ s ≤ 3) → ∃ k, k < 7 ∧ σ.2.1 10 i = nI k ∧ ∀ τ, Md (fd_si σ 9 14 0) 0 (an_w k (σ.2.1 11 i) (σ.2.1 12 i) s 16 k j).2 τ → post (some (.inl (an_w k (σ.2.1 11 i) (σ.2.1 12 i) s 16 k j).1)) τ) : fd_Sem (d + 5) 61 [.inr (.inr (.inl (some 9))), .inl x, .inl w, .inl s] σ post := by
  obtain ⟨h20, r1, r2, r3, r4, r5, r6, r7, r8, r9, r13⟩ := id hB
  intro X hX hV
  repeat (first | refine hX _ _ _ _ _ _ ?_ | refine Exists.intro _ (And.intro (by first | rfl | assumption) (And.intro (by first | assumption | exact fd_lt20 h20 (by decide)) (And.intro (by first | rfl | assumption) ?_))))
  refine ok_isVehicle _ n _ _ _ h20 hn h90 (fun i hi e => ?_) (fun hno => ?_)
  · repeat refine hX _ _ _ _ _ _ ?_
    refine And.intro (fun hc => absurd (show (1 : Int32) = 0 from hc) (by decide)) (fun _ => ?_)
    repeat refine hX _ _ _ _ _ _ ?_
    refine ok_in _ _ _ _ _ _ (fun ha hb => ?_) (fun ha => ?_)
    · obtain ⟨j, hj, hw⟩ : ∃ j, j < 6 ∧ w = nI j := ix_of (by decide) ha (by rw [show (nI 6 - 1 : Int32) = 5 by decide]; exact hb)
      have fin : (w = 3 → 0 ≤ s ∧ s ≤ 3) → X ((fd_code 61).drop 19) [(0, .inr (.inr (.inl (some 9)))), (1, .inl x), (2, .inl w), (3, .inl s)] [] σ 0 0 := by
        intro h3
        obtain ⟨k, hk7, hk, hz⟩ := h1 i j hi e hj hw h3
        clear h1 h0
        have hi60 : i < 60 := by omega
        subst e
        subst hw
        have hB1 : Mb (fd_si σ 9 14 0) := hB
        have hk1 : (fd_si σ 9 14 0).2.1 10 i = nI k := by show fd_u σ.2.1 9 14 0 10 i = _; rw [fd_u_ne (by decide)]; exact hk
        have hs1 : (fd_si σ 9 14 0).2.1 11 i = σ.2.1 11 i := by show fd_u σ.2.1 9 14 0 11 i = _; rw [fd_u_ne (by decide)]
        have hl1 : (fd_si σ 9 14 0).2.1 12 i = σ.2.1 12 i := by show fd_u σ.2.1 9 14 0 12 i = _; rw [fd_u_ne (by decide)]
        have hM : Md (fd_si σ 9 14 0) 0 [] (fd_si σ 9 14 0) := ⟨SE.rf _, by show fd_u σ.2.1 9 14 0 9 14 = _; rw [fd_u_eq]; rfl, fun j hj => by simp at hj⟩
        repeat (first | refine hX _ _ _ _ _ _ ?_ | refine Exists.intro _ (And.intro (by first | rfl | assumption) (And.intro (by first | assumption | exact fd_lt20 h20 (by decide)) (And.intro (by first | rfl | assumption) ?_))))
        match j, hj, hz with
        | 0, _, hz =>
          refine Or.inl (Exists.intro 0 (Exists.intro _ (And.intro rfl (And.intro (by decide) ?_))))
          repeat (first | refine hX _ _ _ _ _ _ ?_ | refine Exists.intro _ (And.intro (by first | rfl | assumption) (And.intro (by first | assumption | exact fd_lt20 h20 (by decide)) (And.intro (by first | rfl | assumption) ?_))))
          refine ok_mlen _ i 0 k _ _ s hB1 hi60 hk7 hk1 hs1 hl1 hM (by decide) (fun τ hτ => ?_)
          repeat refine hX _ _ _ _ _ _ ?_
          exact hz τ hτ
        | 1, _, hz =>
          refine Or.inl (Exists.intro 1 (Exists.intro _ (And.intro rfl (And.intro (by decide) ?_))))
          repeat (first | refine hX _ _ _ _ _ _ ?_ | refine Exists.intro _ (And.intro (by first | rfl | assumption) (And.intro (by first | assumption | exact fd_lt20 h20 (by decide)) (And.intro (by first | rfl | assumption) ?_))))
          refine ok_mmass _ i 0 k _ _ s hB1 hi60 hk7 hk1 hs1 hl1 hM (by decide) (fun τ hτ => ?_)
          repeat refine hX _ _ _ _ _ _ ?_
          exact hz τ hτ
        | 2, _, hz =>
          refine Or.inl (Exists.intro 2 (Exists.intro _ (And.intro rfl (And.intro (by decide) ?_))))
          repeat (first | refine hX _ _ _ _ _ _ ?_ | refine Exists.intro _ (And.intro (by first | rfl | assumption) (And.intro (by first | assumption | exact fd_lt20 h20 (by decide)) (And.intro (by first | rfl | assumption) ?_))))
          refine ok_mmin _ i 0 k _ _ s hB1 hi60 hk7 hk1 hs1 hl1 hM (by decide) (fun τ hτ => ?_)
          repeat refine hX _ _ _ _ _ _ ?_
          exact hz τ hτ
        | 3, _, hz =>
          refine Or.inl (Exists.intro 3 (Exists.intro _ (And.intro rfl (And.intro (by decide) ?_))))
          repeat (first | refine hX _ _ _ _ _ _ ?_ | refine Exists.intro _ (And.intro (by first | rfl | assumption) (And.intro (by first | assumption | exact fd_lt20 h20 (by decide)) (And.intro (by first | rfl | assumption) ?_))))
          refine ok_mfare _ i 0 k _ _ s hB1 hi60 hk7 hk1 hs1 hl1 hM (by decide) (fun τ hτ => ?_)
          repeat refine hX _ _ _ _ _ _ ?_
          exact hz τ hτ
        | 4, _, hz =>
          refine Or.inl (Exists.intro 4 (Exists.intro _ (And.intro rfl (And.intro (by decide) ?_))))
          repeat (first | refine hX _ _ _ _ _ _ ?_ | refine Exists.intro _ (And.intro (by first | rfl | assumption) (And.intro (by first | assumption | exact fd_lt20 h20 (by decide)) (And.intro (by first | rfl | assumption) ?_))))
          refine ia_ld (by exact h20) (by exact r1) (by decide) (by rfl) rfl hi60 hk1 (by decide) ?_
          repeat refine hX _ _ _ _ _ _ ?_
          refine ok_mheavy _ k _ _ hk7 (fun hh => ?_) (fun hh => ?_)
          · repeat refine hX _ _ _ _ _ _ ?_
            refine And.intro (fun hc => absurd (show (1 : Int32) = 0 from hc) (by decide)) (fun _ => ?_)
            repeat (first | refine hX _ _ _ _ _ _ ?_ | refine Exists.intro _ (And.intro (by first | rfl | assumption) (And.intro (by first | assumption | exact fd_lt20 h20 (by decide)) (And.intro (by first | rfl | assumption) ?_))))
            refine ok_mtoll _ i 0 k _ _ s hB1 hi60 hk7 hh hk1 hs1 hl1 hM (by decide) (fun τ hτ => ?_)
            repeat refine hX _ _ _ _ _ _ ?_
            exact hz τ hτ
          · rw [an_w4_no hk7 hh] at hz
            repeat refine hX _ _ _ _ _ _ ?_
            refine And.intro (fun _ => ?_) (fun hc => absurd (show (0 : Int32) = 0 from rfl) hc)
            repeat refine hX _ _ _ _ _ _ ?_
            exact hz _ hM
        | 5, _, hz =>
          refine Or.inr (And.intro (by decide) ?_)
          repeat (first | refine hX _ _ _ _ _ _ ?_ | refine Exists.intro _ (And.intro (by first | rfl | assumption) (And.intro (by first | assumption | exact fd_lt20 h20 (by decide)) (And.intro (by first | rfl | assumption) ?_))))
          refine ia_ld (by exact h20) (by exact r1) (by decide) (by rfl) rfl hi60 hk1 (by decide) ?_
          repeat refine hX _ _ _ _ _ _ ?_
          refine ok_mmarked _ k _ _ hk7 (fun hh => ?_) (fun hh => ?_)
          · repeat refine hX _ _ _ _ _ _ ?_
            refine And.intro (fun hc => absurd (show (1 : Int32) = 0 from hc) (by decide)) (fun _ => ?_)
            repeat (first | refine hX _ _ _ _ _ _ ?_ | refine Exists.intro _ (And.intro (by first | rfl | assumption) (And.intro (by first | assumption | exact fd_lt20 h20 (by decide)) (And.intro (by first | rfl | assumption) ?_))))
            refine ok_mdang _ i 0 k _ _ s hB1 hi60 hk7 hh hk1 hs1 hl1 hM (by decide) (fun τ hτ => ?_)
            repeat refine hX _ _ _ _ _ _ ?_
            exact hz τ hτ
          · rw [an_w5_no hk7 hh] at hz
            repeat refine hX _ _ _ _ _ _ ?_
            refine And.intro (fun _ => ?_) (fun hc => absurd (show (0 : Int32) = 0 from rfl) hc)
            repeat refine hX _ _ _ _ _ _ ?_
            exact hz _ hM
      repeat refine hX _ _ _ _ _ _ ?_
      refine And.intro (fun hc => absurd (show (1 : Int32) = 0 from hc) (by decide)) (fun _ => ?_)
      repeat refine hX _ _ _ _ _ _ ?_
      refine And.intro (fun hc => ?_) (fun hc => ?_) <;> try dsimp only [fd_icmp] at hc
      · exact hV _ _ [(0, .inr (.inr (.inl (some 9)))), (1, .inl x), (2, .inl w), (3, .inl s)] _ _ _ _ (And.intro rfl (And.intro rfl (And.intro rfl (And.intro rfl trivial)))) (fin (fun q => absurd q hc))
      · repeat refine hX _ _ _ _ _ _ ?_
        refine ok_in _ _ _ _ _ _ (fun h5 h6 => ?_) (fun h5 => ?_)
        · repeat refine hX _ _ _ _ _ _ ?_
          refine And.intro (fun _ => ?_) (fun hc => absurd (show (1 : Int32) = 0 from hc) (by decide))
          exact hV _ _ [(0, .inr (.inr (.inl (some 9)))), (1, .inl x), (2, .inl w), (3, .inl s)] _ _ _ _ (And.intro rfl (And.intro rfl (And.intro rfl (And.intro rfl trivial)))) (fin (fun _ => ⟨h5, h6⟩))
        · repeat refine hX _ _ _ _ _ _ ?_
          refine And.intro (fun hc => absurd (show (0 : Int32) = 0 from rfl) hc) (fun _ => ?_)
          repeat refine hX _ _ _ _ _ _ ?_
          exact h0 (fun q => h5 (q.2.2 hc))
    · repeat refine hX _ _ _ _ _ _ ?_
      refine And.intro (fun _ => ?_) (fun hc => absurd (show (0 : Int32) = 0 from rfl) hc)
      repeat refine hX _ _ _ _ _ _ ?_
      exact h0 (fun q => ha q.2.1)
  · repeat refine hX _ _ _ _ _ _ ?_
    refine And.intro (fun _ => ?_) (fun hc => absurd (show (0 : Int32) = 0 from rfl) hc)
    repeat refine hX _ _ _ _ _ _ ?_
    exact h0 (fun ⟨⟨i, hi, e⟩, _⟩ => hno i hi e)
end
section
def pr (σ : fd_S) (b k : Nat) : Int32 := if σ.2.1 b 7 = -3 then (an_w k (σ.2.1 b 2) (σ.2.1 b 3) (σ.2.1 0 4) 16 k 3).1 else (an_w k (σ.2.1 b 2) (σ.2.1 b 3) (σ.2.1 0 4) 16 k 3).1 + σ.2.1 b 7
def room (σ : fd_S) (a b : Nat) : Prop := σ.2.1 b 4 + 5 ≤ σ.2.1 a 1 - σ.2.1 a 3 ∧ σ.2.1 b 5 ≤ σ.2.1 a 2 - σ.2.1 a 4
def near (σ : fd_S) (a b : Nat) : Prop := ∃ c, σ.2.2.1 a 8 = some c ∧ ¬ σ.2.1 c 8 = -3 ∧ ¬ σ.2.1 b 8 = -3 ∧ 5 < σ.2.1 c 8 + σ.2.1 b 8
theorem c_board (d n : Nat) (x y : Int32) (σ : fd_S) (post : Option fd_V → fd_S → Prop) (hB : fd_B σ n) (tl : Nat) (htl : tl ≤ 10) (h31 : σ.2.1 3 1 = nI tl) (h32 : σ.2.1 3 2 = 0) (hfl : ∀ l, l < 4 → ∀ j, ∀ a, σ.2.2.1 (5 + l) j = some a → a < σ.1 ∧ fd_sh a = .inl 2) (h0 : ¬ ((∃ i, i < n ∧ x = nI i) ∧ ∃ l, l < 4 ∧ y = nI l) → post (some (.inl (-2))) σ)
    (h1 : ∀ i l, i < n → x = nI i → l < 4 → y = nI l → (¬ σ.2.1 (20 + i) 9 = 0 → post (some (.inl (-3))) σ) ∧ (σ.2.1 (20 + i) 9 = 0 → ¬ room σ (5 + l) (20 + i) → post (some (.inl (-4))) σ) ∧ (σ.2.1 (20 + i) 9 = 0 → room σ (5 + l) (20 + i) → near σ (5 + l) (20 + i) → post (some (.inl (-5))) σ) ∧ (σ.2.1 (20 + i) 9 = 0 → room σ (5 + l) (20 + i) → ¬ near σ (5 + l) (20 + i) → ∃ k, k < 7 ∧ σ.2.1 (20 + i) 1 = nI k ∧ ∀ τ, SE JC σ τ → post (some (.inl (pr σ (20 + i) k))) (fd_sl (fd_si (ap_s τ (5 + l) (20 + i)) (20 + i) 13 (pr σ (20 + i) k)) 0 6 (σ.2.2.2 0 6 + (pr σ (20 + i) k).toInt64)))) : fd_Sem (d + 62) 29 [.inr (.inr (.inl (some 0))), .inl x, .inl y] σ post := by
  obtain ⟨h20, hN, hn, hcn, r0, r2, r3, r30, hva, hla⟩ := id hB
  intro X hX hV
  repeat (first | refine hX _ _ _ _ _ _ ?_ | refine Exists.intro _ (And.intro (by first | rfl | assumption) (And.intro (by first | assumption | exact fd_lt20 h20 (by decide)) (And.intro (by first | rfl | assumption) ?_))))
  refine ok_vehicleAt _ _ n _ _ hB (fun i hi e => ?_) (fun hno => ?_)
  · have hvi : 20 + i < σ.1 := by omega
    have hsi := fd_shV i
    repeat (first | refine hX _ _ _ _ _ _ ?_ | refine Exists.intro _ (And.intro (by first | rfl | assumption) (And.intro (by first | assumption | exact fd_lt20 h20 (by decide)) (And.intro (by first | rfl | assumption) ?_))))
    refine ok_laneAt _ _ n _ _ hB (fun l hl e2 => ?_) (fun hno => ?_)
    · have hvl : 5 + l < σ.1 := by omega
      have hsl := fd_sh_lane hl
      obtain ⟨g3, g4, g5, g1⟩ := h1 i l hi e hl e2
      clear h1
      repeat refine hX _ _ _ _ _ _ ?_
      refine And.intro (fun hc => by cases hc) (fun _ => ?_)
      repeat refine hX _ _ _ _ _ _ ?_
      refine And.intro (fun _ => ?_) (fun hc => by cases hc)
      repeat (first | refine hX _ _ _ _ _ _ ?_ | refine Exists.intro _ (And.intro (by first | rfl | assumption) (And.intro (by first | assumption | exact fd_lt20 h20 (by decide)) (And.intro (by first | rfl | assumption) ?_))))
      refine And.intro (fun hh => ?_) (fun hh => ?_)
      · have hh : σ.2.1 (20 + i) 9 = 0 := hh
        repeat (first | refine hX _ _ _ _ _ _ ?_ | refine Exists.intro _ (And.intro (by first | rfl | assumption) (And.intro (by first | assumption | exact fd_lt20 h20 (by decide)) (And.intro (by first | rfl | assumption) ?_))))
        refine ok_hasRoomFor _ _ _ _ _ hvl hsl hvi hsi (fun ha hb => ?_) (fun ha => ?_)
        · have hr : room σ (5 + l) (20 + i) := ⟨ha, hb⟩
          repeat refine hX _ _ _ _ _ _ ?_
          refine And.intro (fun _ => ?_) (fun hc => absurd (show (1 : Int32) = 0 from hc) (by decide))
          repeat (first | refine hX _ _ _ _ _ _ ?_ | refine Exists.intro _ (And.intro (by first | rfl | assumption) (And.intro (by first | assumption | exact fd_lt20 h20 (by decide)) (And.intro (by first | rfl | assumption) ?_))))
          refine ok_tooNear _ (20 + i) (σ.2.2.1 (5 + l) 8) _ _ hvi hsi (fun a ho => hfl l hl 8 a ho) (fun c ho m1 m2 m5 => ?_) (fun hno => ?_)
          · repeat refine hX _ _ _ _ _ _ ?_
            refine And.intro (fun hc => absurd (show (1 : Int32) = 0 from hc) (by decide)) (fun _ => ?_)
            repeat refine hX _ _ _ _ _ _ ?_
            exact g5 hh hr ⟨c, ho, m1, m2, m5⟩
          · obtain ⟨k, hk7, hk, g1⟩ := g1 hh hr hno
            repeat refine hX _ _ _ _ _ _ ?_
            refine And.intro (fun _ => ?_) (fun hc => absurd (show (0 : Int32) = 0 from rfl) hc)
            repeat (first | refine hX _ _ _ _ _ _ ?_ | refine Exists.intro _ (And.intro (by first | rfl | assumption) (And.intro (by first | assumption | exact fd_lt20 h20 (by decide)) (And.intro (by first | rfl | assumption) ?_))))
            refine ok_price d (20 + i) k _ _ σ _ h20 r3 r30 tl htl h31 h32 hvi hsi hk7 hk rfl rfl (fun τ hτ => ?_)
            have g1 := g1 τ hτ
            have hi2 : 20 + i < τ.1 := by rw [hτ.1]; exact hvi
            have hl2 : 5 + l < τ.1 := by rw [hτ.1]; exact hvl
            have hz2 : 0 < τ.1 := by rw [hτ.1]; omega
            rw [← hτ.2.2.1] at g1
            repeat (first | refine hX _ _ _ _ _ _ ?_ | refine Exists.intro _ (And.intro (by first | rfl | assumption) (And.intro (by first | assumption | exact fd_lt20 h20 (by decide)) (And.intro (by first | rfl | assumption) ?_))))
            refine ok_append _ _ _ _ _ hl2 hsl hi2 hsi ?_
            have hi3 : 20 + i < (ap_s τ (5 + l) (20 + i)).1 := hi2
            have hz3 : 0 < (ap_s τ (5 + l) (20 + i)).1 := hz2
            repeat (first | refine hX _ _ _ _ _ _ ?_ | refine Exists.intro _ (And.intro (by first | rfl | assumption) (And.intro (by first | assumption | exact fd_lt20 h20 (by decide)) (And.intro (by first | rfl | assumption) ?_))))
            exact g1
        · repeat refine hX _ _ _ _ _ _ ?_
          refine And.intro (fun hc => absurd (show (0 : Int32) = 0 from rfl) hc) (fun _ => ?_)
          repeat refine hX _ _ _ _ _ _ ?_
          exact g4 hh ha
      · repeat refine hX _ _ _ _ _ _ ?_
        exact g3 hh
    · repeat refine hX _ _ _ _ _ _ ?_
      refine And.intro (fun hc => by cases hc) (fun _ => ?_)
      repeat refine hX _ _ _ _ _ _ ?_
      refine And.intro (fun hc => absurd rfl hc) (fun _ => ?_)
      repeat refine hX _ _ _ _ _ _ ?_
      exact h0 (fun ⟨_, l, hl, e⟩ => hno l hl e)
  · repeat (first | refine hX _ _ _ _ _ _ ?_ | refine Exists.intro _ (And.intro (by first | rfl | assumption) (And.intro (by first | assumption | exact fd_lt20 h20 (by decide)) (And.intro (by first | rfl | assumption) ?_))))
    refine ok_laneAt _ _ n _ _ hB (fun l hl e2 => ?_) (fun hno2 => ?_)
    · repeat refine hX _ _ _ _ _ _ ?_
      refine And.intro (fun _ => ?_) (fun hc => absurd rfl hc)
      repeat refine hX _ _ _ _ _ _ ?_
      exact h0 (fun ⟨⟨i, hi, e⟩, _⟩ => hno i hi e)
    · repeat refine hX _ _ _ _ _ _ ?_
      refine And.intro (fun _ => ?_) (fun hc => absurd rfl hc)
      repeat refine hX _ _ _ _ _ _ ?_
      exact h0 (fun ⟨⟨i, hi, e⟩, _⟩ => hno i hi e)
end
section
section
variable {t l m : Nat} {σ τ : fd_S}
theorem jq_at (h : SE (JQ t) σ τ) {i j : Nat} (hi : i ≠ 19) : τ.2.1 i j = σ.2.1 i j := h.2.2.2 i j (jq_ne hi)
theorem sv_se (h : SE (JQ t) σ τ) (k : Nat) : sv τ l k = sv σ l k := by unfold sv; rw [jq_at h (by decide)]
theorem kd_se (h : SE (JQ t) σ τ) (i : Nat) : kd τ i = kd σ i := by unfold kd; rw [jq_at h (by decide)]
theorem qv_se (h : SE (JQ t) σ τ) (w : Nat) (s : Int32) (i : Nat) : qv τ w s i = qv σ w s i := by unfold qv; rw [kd_se h, jq_at h (by decide), jq_at h (by decide)]
theorem Vi_se (h : SE (JQ t) σ τ) {i : Nat} (hv : Vi σ i) : Vi τ i := by unfold Vi at *; rw [kd_se h, jq_at h (by decide)]; exact hv
theorem Vs_se (h : SE (JQ t) σ τ) (hv : Vs σ l m) : Vs τ l m := ⟨hv.1, by rw [jq_at h (by decide)]; exact hv.2.1, fun k hk => ⟨by rw [sv_se h, jq_at h (by decide)]; exact (hv.2.2 k hk).1, by rw [sv_se h]; exact Vi_se h (hv.2.2 k hk).2⟩⟩
theorem Mb_se {P : Nat → Nat → Prop} (h : SE P σ τ) (hB : Mb σ) : Mb τ := by unfold Mb; rw [h.1, h.2.1]; exact hB
theorem sL_se (h : SE (JQ t) σ τ) : ∀ m, sL τ l m = sL σ l m
  | 0 => jq_at h (by decide)
  | m + 1 => by simp only [sL]; rw [sL_se h m, qv_se h, sv_se h]
theorem sM_se (h : SE (JQ t) σ τ) : ∀ m, sM τ l m = sM σ l m
  | 0 => rfl
  | m + 1 => by simp only [sM]; rw [sM_se h m, qv_se h, sv_se h]
theorem sN_se (h : SE (JQ t) σ τ) : ∀ m, sN τ l m = sN σ l m
  | 0 => rfl
  | m + 1 => by simp only [sN]; rw [sN_se h m, qv_se h, sv_se h]
end
theorem ia_sto {τ : fd_S} {a n i : Nat} {v y : Int32} {o : Option Nat} {X : fd_X} {nx : List fd_E} {lv : fd_L} {t : List fd_V} {cc ss : Nat} (h20 : 20 ≤ τ.1) (hf : o = some a) (ha : a < 20) (hs : fd_sh a = .inr (n, none)) (hy : y = nI i) (hi : i < n) (hn : n < 2 ^ 31) (k : X nx lv t (fd_si τ a i v) cc ss) : fd_ias X nx lv (.inl v :: .inl y :: .inr (.inr (.inl o)) :: t) τ cc ss := by
  subst hy
  refine ⟨a, n, hf, by omega, hs, vp_in_nI hi hn, ?_⟩
  rw [nI_clamp (by omega)]
  exact k
theorem ia_ldo {τ : fd_S} {a n i : Nat} {x y : Int32} {o : Option Nat} {X : fd_X} {nx : List fd_E} {lv : fd_L} {t : List fd_V} {cc ss : Nat} (h20 : 20 ≤ τ.1) (hf : o = some a) (ha : a < 20) (hs : fd_sh a = .inr (n, none)) (hy : y = nI i) (hi : i < n) (hx : τ.2.1 a i = x) (hn : n < 2 ^ 31) (k : X nx lv (.inl x :: t) τ cc ss) : fd_ial none X nx lv (.inl y :: .inr (.inr (.inl o)) :: t) τ cc ss := by
  subst hy
  refine ⟨a, n, hf, by omega, hs, vp_in_nI hi hn, ?_⟩
  rw [nI_clamp (by omega), hx]
  exact k
def mpay (σ : fd_S) (i : Nat) : Int32 := qv σ 3 (σ.2.1 9 10) i + (if hvy (kd σ i) = true then qv σ 4 0 i else 0)
def mb_s (σ : fd_S) (l m i : Nat) : fd_S := fd_sl (fd_si (fd_si (fd_si (fd_si σ 18 (60 * l + m) (nI i)) 17 l (nI (m + 1))) 13 i 1) 14 i (mpay σ i)) 9 12 (σ.2.2.2 9 12 + (mpay σ i).toInt64)
def mroom (σ : fd_S) (l m i : Nat) : Prop := qv σ 0 0 i + 5 ≤ sL σ l m ∧ qv σ 1 0 i ≤ σ.2.1 16 l - sM σ l m
def mnear (σ : fd_S) (l m i : Nat) : Prop := 0 < m ∧ mrk (kd σ i) = true ∧ mrk (kd σ (sv σ l (m - 1))) = true ∧ 5 < qv σ 5 0 (sv σ l (m - 1)) + qv σ 5 0 i
set_option maxHeartbeats 1000000 in
theorem m_board (d n t : Nat) (m : Nat → Nat) (x y : Int32) (σ : fd_S) (post : Option fd_V → fd_S → Prop) (hB : Mb σ) (hn : n ≤ 60) (h90 : σ.2.1 9 0 = nI n) (hS : ∀ l, l < 4 → Vs σ l (m l)) (hVi : ∀ i, i < n → Vi σ i) (ht : σ.2.1 9 14 = nI t) (ht10 : t ≤ 10) (h0 : ¬ ((∃ i, i < n ∧ x = nI i) ∧ ∃ l, l < 4 ∧ y = nI l) → post (some (.inl (-2))) σ)
    (h1 : ∀ i l, i < n → x = nI i → l < 4 → y = nI l → (¬ σ.2.1 13 i = 0 → post (some (.inl (-3))) σ) ∧ (σ.2.1 13 i = 0 → ¬ mroom σ l (m l) i → ∀ τ, SE (JQ t) σ τ → post (some (.inl (-4))) τ) ∧ (σ.2.1 13 i = 0 → mroom σ l (m l) i → mnear σ l (m l) i → ∀ τ, SE (JQ t) σ τ → post (some (.inl (-5))) τ) ∧ (σ.2.1 13 i = 0 → mroom σ l (m l) i → ¬ mnear σ l (m l) i → m l < 60 ∧ ∀ τ, SE (JQ t) (mb_s σ l (m l) i) τ → post (some (.inl (mpay σ i))) τ)) : fd_Sem (d + 7) 69 [.inr (.inr (.inl (some 9))), .inl x, .inl y] σ post := by
  obtain ⟨h20, r1, r2, r3, r4, r5, r6, r7, r8, r9, r13⟩ := id hB
  intro X hX hV
  repeat (first | refine hX _ _ _ _ _ _ ?_ | refine Exists.intro _ (And.intro (by first | rfl | assumption) (And.intro (by first | assumption | exact fd_lt20 h20 (by decide)) (And.intro (by first | rfl | assumption) ?_))))
  refine ok_isVehicle _ n _ _ _ h20 hn h90 (fun i hi e => ?_) (fun hno => ?_)
  · repeat refine hX _ _ _ _ _ _ ?_
    refine And.intro (fun hc => absurd (show (1 : Int32) = 0 from hc) (by decide)) (fun _ => ?_)
    repeat refine hX _ _ _ _ _ _ ?_
    refine ok_isLane _ _ _ _ (fun l hl e2 => ?_) (fun hno => ?_)
    · obtain ⟨g3, g4, g5, g1⟩ := h1 i l hi e hl e2
      have hvi := hVi i hi
      have hi60 := hvi.1
      obtain ⟨hm60, h17, hst⟩ := id (hS l hl)
      clear h1 h0
      subst e
      subst e2
      repeat refine hX _ _ _ _ _ _ ?_
      refine And.intro (fun _ => ?_) (fun hc => absurd (show (1 : Int32) = 0 from hc) (by decide))
      repeat (first | refine hX _ _ _ _ _ _ ?_ | refine Exists.intro _ (And.intro (by first | rfl | assumption) (And.intro (by first | assumption | exact fd_lt20 h20 (by decide)) (And.intro (by first | rfl | assumption) ?_))))
      refine ia_ld (by exact h20) (by exact r4) (by decide) (by rfl) rfl hi60 rfl (by decide) ?_
      repeat refine hX _ _ _ _ _ _ ?_
      refine And.intro (fun hh => ?_) (fun hh => ?_)
      · have hh : σ.2.1 13 i = 0 := hh
        have g4 := g4 hh
        have g5 := g5 hh
        have g1 := g1 hh
        clear g3
        repeat (first | refine hX _ _ _ _ _ _ ?_ | refine Exists.intro _ (And.intro (by first | rfl | assumption) (And.intro (by first | assumption | exact fd_lt20 h20 (by decide)) (And.intro (by first | rfl | assumption) ?_))))
        refine ok_quiet_0 _ i (kd σ i) t _ _ 0 σ _ hB hi60 hvi.2.1 hvi.2.2 rfl rfl ht ht10 (fun τ1 t1 => ?_)
        have p9 : 9 < τ1.1 := by rw [t1.1]; omega
        repeat (first | refine hX _ _ _ _ _ _ ?_ | refine Exists.intro _ (And.intro (by first | rfl | assumption) (And.intro (by first | assumption | exact fd_lt20 h20 (by decide)) (And.intro (by first | rfl | assumption) ?_))))
        refine ok_leftLength _ l (m l) t τ1 _ (Mb_se t1 hB) hl (Vs_se t1 (hS l hl)) (by rw [jq_at t1 (by decide)]; exact ht) ht10 (fun τ2 t2' => ?_)
        have t2 := t1.trans t2'
        rw [sL_se t1]
        repeat refine hX _ _ _ _ _ _ ?_
        refine And.intro (fun hc => ?_) (fun hc => ?_)
        · have hc : sL σ l (m l) < qv σ 0 0 i + 5 := hc
          repeat refine hX _ _ _ _ _ _ ?_
          exact g4 (fun q => i32_nlt.mpr q.1 hc) τ2 t2
        · have hc1 : qv σ 0 0 i + 5 ≤ sL σ l (m l) := i32_nlt.mp hc
          have p9 : 9 < τ2.1 := by rw [t2.1]; omega
          repeat (first | refine hX _ _ _ _ _ _ ?_ | refine Exists.intro _ (And.intro (by first | rfl | assumption) (And.intro (by first | assumption | exact fd_lt20 h20 (by decide)) (And.intro (by first | rfl | assumption) ?_))))
          refine ok_quiet_1 _ i (kd σ i) t (σ.2.1 11 i) (σ.2.1 12 i) 0 τ2 _ (Mb_se t2 hB) hi60 hvi.2.1 (by rw [jq_at t2 (by decide)]; exact hvi.2.2) (jq_at t2 (by decide)) (jq_at t2 (by decide)) (by rw [jq_at t2 (by decide)]; exact ht) ht10 (fun τ3 t3' => ?_)
          have t3 := t2.trans t3'
          have p9 : 9 < τ3.1 := by rw [t3.1]; omega
          have q20 : 20 ≤ τ3.1 := by rw [t3.1]; exact h20
          repeat (first | refine hX _ _ _ _ _ _ ?_ | refine Exists.intro _ (And.intro (by first | rfl | assumption) (And.intro (by first | assumption | exact fd_lt20 h20 (by decide)) (And.intro (by first | rfl | assumption) ?_))))
          refine ia_ldo (by exact q20) (by rw [t3.2.1]; exact r7) (by decide) (by rfl) rfl hl (x := σ.2.1 16 l) (by exact jq_at t3 (by decide)) (by decide) ?_
          repeat (first | refine hX _ _ _ _ _ _ ?_ | refine Exists.intro _ (And.intro (by first | rfl | assumption) (And.intro (by first | assumption | exact fd_lt20 h20 (by decide)) (And.intro (by first | rfl | assumption) ?_))))
          refine ok_carried _ l (m l) t τ3 _ (Mb_se t3 hB) hl (Vs_se t3 (hS l hl)) (by rw [jq_at t3 (by decide)]; exact ht) ht10 (fun τ4 t4' => ?_)
          have t4 := t3.trans t4'
          rw [sM_se t3]
          repeat refine hX _ _ _ _ _ _ ?_
          refine And.intro (fun hc => ?_) (fun hc => ?_)
          · have hc2 : qv σ 1 0 i ≤ σ.2.1 16 l - sM σ l (m l) := hc
            have hroom : mroom σ l (m l) i := ⟨hc1, hc2⟩
            have g5 := g5 hroom
            have g1 := g1 hroom
            clear g4
            have fin : ∀ τ, SE (JQ t) σ τ → ¬ mnear σ l (m l) i → X ((fd_code 69).drop 89) [(0, .inr (.inr (.inl (some 9)))), (1, .inl (nI i)), (2, .inl (nI l))] [] τ 0 0 := by
              intro τ hτ hnn
              obtain ⟨hm, g1⟩ := g1 hnn
              have w20 : 20 ≤ τ.1 := by rw [hτ.1]; exact h20
              have p9 : 9 < τ.1 := by omega
              have rr : ∀ f, τ.2.2.1 9 f = σ.2.2.1 9 f := fun f => by rw [hτ.2.1]
              repeat (first | refine hX _ _ _ _ _ _ ?_ | refine Exists.intro _ (And.intro (by first | rfl | assumption) (And.intro (by first | assumption | exact fd_lt20 h20 (by decide)) (And.intro (by first | rfl | assumption) ?_))))
              refine ia_ldo (by exact w20) (by rw [rr]; exact r8) (by decide) (by rfl) rfl hl (x := nI (m l)) (by rw [jq_at hτ (by decide)]; exact h17) (by decide) ?_
              iterate 3 refine hX _ _ _ _ _ _ ?_
              refine ia_sto (by exact w20) (by exact (rr 9).trans r9) (by decide) (by rfl) (sq_idx l (m l)) (by omega) (by decide) ?_
              repeat (first | refine hX _ _ _ _ _ _ ?_ | refine Exists.intro _ (And.intro (by first | rfl | assumption) (And.intro (by first | assumption | exact fd_lt20 h20 (by decide)) (And.intro (by first | rfl | assumption) ?_))))
              refine ia_ldo (by exact w20) (by exact (rr 8).trans r8) (by decide) (by rfl) rfl hl (x := nI (m l)) (by rw [si_ne (by decide), jq_at hτ (by decide)]; exact h17) (by decide) ?_
              iterate 3 refine hX _ _ _ _ _ _ ?_
              rw [show (fun x y : Int32 => x + y) (nI (m l)) 1 = nI (m l + 1) from nI_1 _]
              refine ia_sto (by exact w20) (by exact (rr 8).trans r8) (by decide) (by rfl) rfl hl (by decide) ?_
              repeat (first | refine hX _ _ _ _ _ _ ?_ | refine Exists.intro _ (And.intro (by first | rfl | assumption) (And.intro (by first | assumption | exact fd_lt20 h20 (by decide)) (And.intro (by first | rfl | assumption) ?_))))
              refine ia_sto (by exact w20) (by exact (rr 4).trans r4) (by decide) (by rfl) rfl hi60 (by decide) ?_
              have eρ : ∀ a j, a ≠ 18 → a ≠ 17 → a ≠ 13 → a ≠ 19 → (fd_si (fd_si (fd_si τ 18 (60 * l + m l) (nI i)) 17 l (nI (m l + 1))) 13 i 1).2.1 a j = σ.2.1 a j := by
                intro a j a1 a2 a3 a4
                rw [si_ne a3, si_ne a2, si_ne a1, jq_at hτ a4]
              have hBρ : Mb (fd_si (fd_si (fd_si τ 18 (60 * l + m l) (nI i)) 17 l (nI (m l + 1))) 13 i 1) := (Mb_se hτ hB : Mb τ)
              repeat (first | refine hX _ _ _ _ _ _ ?_ | refine Exists.intro _ (And.intro (by first | rfl | assumption) (And.intro (by first | assumption | exact fd_lt20 h20 (by decide)) (And.intro (by first | rfl | assumption) ?_))))
              rw [eρ 9 10 (by decide) (by decide) (by decide) (by decide)]
              refine ok_quiet_3 _ i (kd σ i) t (σ.2.1 11 i) (σ.2.1 12 i) (σ.2.1 9 10) _ _ hBρ hi60 hvi.2.1 (by rw [eρ 10 _ (by decide) (by decide) (by decide) (by decide)]; exact hvi.2.2) (eρ 11 _ (by decide) (by decide) (by decide) (by decide)) (eρ 12 _ (by decide) (by decide) (by decide) (by decide)) (by rw [eρ 9 14 (by decide) (by decide) (by decide) (by decide)]; exact ht) ht10 (fun ρ1 s1 => ?_)
              have p9 : 9 < ρ1.1 := by rw [s1.1]; exact p9
              repeat (first | refine hX _ _ _ _ _ _ ?_ | refine Exists.intro _ (And.intro (by first | rfl | assumption) (And.intro (by first | assumption | exact fd_lt20 h20 (by decide)) (And.intro (by first | rfl | assumption) ?_))))
              refine ok_quiet_4 _ i (kd σ i) t (σ.2.1 11 i) (σ.2.1 12 i) 0 ρ1 _ (Mb_se s1 hBρ) hi60 hvi.2.1 (by rw [jq_at s1 (by decide), eρ 10 _ (by decide) (by decide) (by decide) (by decide)]; exact hvi.2.2) (by rw [jq_at s1 (by decide), eρ 11 _ (by decide) (by decide) (by decide) (by decide)]) (by rw [jq_at s1 (by decide), eρ 12 _ (by decide) (by decide) (by decide) (by decide)]) (by rw [jq_at s1 (by decide), eρ 9 14 (by decide) (by decide) (by decide) (by decide)]; exact ht) ht10 (fun ρ2 s2' => ?_)
              have s2 := s1.trans s2'
              have u20 : 20 ≤ ρ2.1 := by rw [s2.1]; exact w20
              have p9 : 9 < ρ2.1 := by omega
              have ru : ∀ f, ρ2.2.2.1 9 f = σ.2.2.1 9 f := fun f => by rw [s2.2.1]; exact rr f
              refine hX _ _ _ _ _ _ ?_
              refine hX _ _ _ _ _ _ ?_
              refine ia_sto (by exact u20) (by exact (rr 5).trans r5) (by decide) (by rfl) rfl hi60 (by decide) ?_
              repeat (first | refine hX _ _ _ _ _ _ ?_ | refine Exists.intro _ (And.intro (by first | rfl | assumption) (And.intro (by first | assumption | exact fd_lt20 h20 (by decide)) (And.intro (by first | rfl | assumption) ?_))))
              refine ia_ldo (by exact u20) (by exact (ru 5).trans r5) (by decide) (by rfl) rfl hi60 (x := mpay σ i) (by exact si_eq) (by decide) ?_
              repeat (first | refine hX _ _ _ _ _ _ ?_ | refine Exists.intro _ (And.intro (by first | rfl | assumption) (And.intro (by first | assumption | exact fd_lt20 h20 (by decide)) (And.intro (by first | rfl | assumption) ?_))))
              refine ia_ldo (by exact u20) (by exact (ru 5).trans r5) (by decide) (by rfl) rfl hi60 (x := mpay σ i) (by exact (si_eq (σ := ρ2) (a := 14) (k := i) (v := mpay σ i))) (by decide) ?_
              repeat refine hX _ _ _ _ _ _ ?_
              refine g1 _ ⟨?_, ?_, ?_, fun a j hj => ?_⟩
              · exact s2.1.trans hτ.1
              · exact s2.2.1.trans hτ.2.1
              · show fd_u ρ2.2.2.2 9 12 (ρ2.2.2.2 9 12 + (mpay σ i).toInt64) = fd_u σ.2.2.2 9 12 (σ.2.2.2 9 12 + (mpay σ i).toInt64)
                have : ρ2.2.2.2 = σ.2.2.2 := s2.2.2.1.trans hτ.2.2.1
                rw [this]
              · show fd_u ρ2.2.1 14 i (mpay σ i) a j = fd_u (fd_si (fd_si (fd_si σ 18 (60 * l + m l) (nI i)) 17 l (nI (m l + 1))) 13 i 1).2.1 14 i (mpay σ i) a j
                have e5 := s2.2.2.2 a j hj
                have e6 := hτ.2.2.2 a j hj
                unfold fd_u
                rw [e5]
                simp only [fd_si]
                unfold fd_u
                rw [e6]
            have q20 : 20 ≤ τ4.1 := by rw [t4.1]; exact h20
            have p9 : 9 < τ4.1 := by omega
            have rr : ∀ f, τ4.2.2.1 9 f = σ.2.2.1 9 f := fun f => by rw [t4.2.1]
            repeat (first | refine hX _ _ _ _ _ _ ?_ | refine Exists.intro _ (And.intro (by first | rfl | assumption) (And.intro (by first | assumption | exact fd_lt20 h20 (by decide)) (And.intro (by first | rfl | assumption) ?_))))
            refine ia_ldo (by exact q20) (by exact (rr 8).trans r8) (by decide) (by rfl) rfl hl (x := nI (m l)) (by rw [jq_at t4 (by decide)]; exact h17) (by decide) ?_
            repeat refine hX _ _ _ _ _ _ ?_
            by_cases hm0 : m l = 0
            · refine And.intro (fun _ => ?_) (fun hc => absurd (show nI (m l) ≤ 0 by rw [hm0]; exact nI_le (a := 0) (b := 0) (Nat.le_refl 0) (by decide)) hc)
              exact hV _ _ [(0, .inr (.inr (.inl (some 9)))), (1, .inl (nI i)), (2, .inl (nI l))] _ _ _ _ (And.intro rfl (And.intro rfl (And.intro rfl trivial))) (fin τ4 t4 (fun q => by have := q.1; omega))
            · refine And.intro (fun hc => absurd hc (nI_nle (by omega) (by omega))) (fun _ => ?_)
              repeat (first | refine hX _ _ _ _ _ _ ?_ | refine Exists.intro _ (And.intro (by first | rfl | assumption) (And.intro (by first | assumption | exact fd_lt20 h20 (by decide)) (And.intro (by first | rfl | assumption) ?_))))
              refine ia_ldo (by exact q20) (by exact (rr 1).trans r1) (by decide) (by rfl) rfl hi60 (x := nI (kd σ i)) (by rw [jq_at t4 (by decide)]; exact hvi.2.2) (by decide) ?_
              repeat refine hX _ _ _ _ _ _ ?_
              refine ok_mmarked _ (kd σ i) _ _ hvi.2.1 (fun m1 => ?_) (fun m1 => ?_)
              · obtain ⟨hsk, hvk⟩ := hst (m l - 1) (by omega)
                repeat refine hX _ _ _ _ _ _ ?_
                refine And.intro (fun hc => absurd (show (1 : Int32) = 0 from hc) (by decide)) (fun _ => ?_)
                repeat (first | refine hX _ _ _ _ _ _ ?_ | refine Exists.intro _ (And.intro (by first | rfl | assumption) (And.intro (by first | assumption | exact fd_lt20 h20 (by decide)) (And.intro (by first | rfl | assumption) ?_))))
                refine ia_ldo (by exact q20) (by exact (rr 8).trans r8) (by decide) (by rfl) rfl hl (x := nI (m l)) (by rw [jq_at t4 (by decide)]; exact h17) (by decide) ?_
                repeat refine hX _ _ _ _ _ _ ?_
                refine ia_ldo (by exact q20) (by exact (rr 9).trans r9) (by decide) (by rfl) (sq_idxm l (m l) (by omega)) (by omega) (x := nI (sv σ l (m l - 1))) (by rw [jq_at t4 (by decide)]; exact hsk) (by decide) ?_
                repeat (first | refine hX _ _ _ _ _ _ ?_ | refine Exists.intro _ (And.intro (by first | rfl | assumption) (And.intro (by first | assumption | exact fd_lt20 h20 (by decide)) (And.intro (by first | rfl | assumption) ?_))))
                refine ia_ldo (by exact q20) (by exact (rr 1).trans r1) (by decide) (by rfl) rfl hvk.1 (x := nI (kd σ (sv σ l (m l - 1)))) (by rw [jq_at t4 (by decide)]; exact hvk.2.2) (by decide) ?_
                repeat refine hX _ _ _ _ _ _ ?_
                refine ok_mmarked _ (kd σ (sv σ l (m l - 1))) _ _ hvk.2.1 (fun m2 => ?_) (fun m2 => ?_)
                · repeat refine hX _ _ _ _ _ _ ?_
                  refine And.intro (fun hc => absurd (show (1 : Int32) = 0 from hc) (by decide)) (fun _ => ?_)
                  repeat (first | refine hX _ _ _ _ _ _ ?_ | refine Exists.intro _ (And.intro (by first | rfl | assumption) (And.intro (by first | assumption | exact fd_lt20 h20 (by decide)) (And.intro (by first | rfl | assumption) ?_))))
                  refine ok_quiet_5 _ (sv σ l (m l - 1)) (kd σ (sv σ l (m l - 1))) t (σ.2.1 11 (sv σ l (m l - 1))) (σ.2.1 12 (sv σ l (m l - 1))) 0 τ4 _ (Mb_se t4 hB) hvk.1 hvk.2.1 m2 (by rw [jq_at t4 (by decide)]; exact hvk.2.2) (jq_at t4 (by decide)) (jq_at t4 (by decide)) (by rw [jq_at t4 (by decide)]; exact ht) ht10 (fun τ5 t5' => ?_)
                  have t5 := t4.trans t5'
                  have p9 : 9 < τ5.1 := by rw [t5.1]; omega
                  repeat (first | refine hX _ _ _ _ _ _ ?_ | refine Exists.intro _ (And.intro (by first | rfl | assumption) (And.intro (by first | assumption | exact fd_lt20 h20 (by decide)) (And.intro (by first | rfl | assumption) ?_))))
                  refine ok_quiet_5 _ i (kd σ i) t (σ.2.1 11 i) (σ.2.1 12 i) 0 τ5 _ (Mb_se t5 hB) hi60 hvi.2.1 m1 (by rw [jq_at t5 (by decide)]; exact hvi.2.2) (jq_at t5 (by decide)) (jq_at t5 (by decide)) (by rw [jq_at t5 (by decide)]; exact ht) ht10 (fun τ6 t6' => ?_)
                  have t6 := t5.trans t6'
                  repeat refine hX _ _ _ _ _ _ ?_
                  refine And.intro (fun hc => ?_) (fun hc => ?_)
                  · have hc : qv σ 5 0 (sv σ l (m l - 1)) + qv σ 5 0 i ≤ 5 := hc
                    exact hV _ _ [(0, .inr (.inr (.inl (some 9)))), (1, .inl (nI i)), (2, .inl (nI l))] _ _ _ _ (And.intro rfl (And.intro rfl (And.intro rfl trivial))) (fin τ6 t6 (fun q => i32_nle.mpr q.2.2.2 hc))
                  · have hc : ¬ qv σ 5 0 (sv σ l (m l - 1)) + qv σ 5 0 i ≤ 5 := hc
                    repeat refine hX _ _ _ _ _ _ ?_
                    exact g5 ⟨by omega, m1, m2, i32_nle.mp hc⟩ τ6 t6
                · repeat refine hX _ _ _ _ _ _ ?_
                  refine And.intro (fun _ => ?_) (fun hc => absurd (show (0 : Int32) = 0 from rfl) hc)
                  exact hV _ _ [(0, .inr (.inr (.inl (some 9)))), (1, .inl (nI i)), (2, .inl (nI l))] _ _ _ _ (And.intro rfl (And.intro rfl (And.intro rfl trivial))) (fin τ4 t4 (fun q => by have := q.2.2.1; rw [m2] at this; cases this))
              · repeat refine hX _ _ _ _ _ _ ?_
                refine And.intro (fun _ => ?_) (fun hc => absurd (show (0 : Int32) = 0 from rfl) hc)
                exact hV _ _ [(0, .inr (.inr (.inl (some 9)))), (1, .inl (nI i)), (2, .inl (nI l))] _ _ _ _ (And.intro rfl (And.intro rfl (And.intro rfl trivial))) (fin τ4 t4 (fun q => by have := q.2.1; rw [m1] at this; cases this))
          · have hc2 : ¬ qv σ 1 0 i ≤ σ.2.1 16 l - sM σ l (m l) := hc
            repeat refine hX _ _ _ _ _ _ ?_
            exact g4 (fun q => hc2 q.2) τ4 t4
      · repeat refine hX _ _ _ _ _ _ ?_
        exact g3 hh
    · repeat refine hX _ _ _ _ _ _ ?_
      refine And.intro (fun hc => absurd (show (0 : Int32) = 0 from rfl) hc) (fun _ => ?_)
      repeat refine hX _ _ _ _ _ _ ?_
      exact h0 (fun ⟨_, l, hl, e⟩ => hno l hl e)
  · repeat refine hX _ _ _ _ _ _ ?_
    refine And.intro (fun _ => ?_) (fun hc => absurd (show (0 : Int32) = 0 from rfl) hc)
    repeat refine hX _ _ _ _ _ _ ?_
    exact h0 (fun ⟨⟨i, hi, e⟩, _⟩ => hno i hi e)
end
section
def Sq (m : Nat → Nat) (σ : fd_S) : Nat → fd_S
  | 0 => σ
  | l + 1 => sa_s (m l) (Sq m σ l) (5 + l)
def aabs (x : Int32) : Int32 := if 0 ≤ x then x else 0 - x
theorem c_sail (d n : Nat) (m : Nat → Nat) (σ : fd_S) (post : Option fd_V → fd_S → Prop) (hB : fd_B σ n) (hL : ∀ l, l < 4 → 20 ≤ (Sq m σ l).1 ∧ (Sq m σ l).2.2.1 2 l = some (5 + l) ∧ m l ≤ 60 ∧ (Sq m σ l).2.1 (5 + l) 6 = nI (m l) ∧ Ln (m l) (Sq m σ l) (5 + l)) (h4 : 20 ≤ (Sq m σ 4).1)
    (h0 : (cn σ 1 n = 0 ∨ 30000 < aabs (0 + σ.2.1 5 4 + σ.2.1 6 4 + -σ.2.1 7 4 + -σ.2.1 8 4)) → post (some (.inl (-3))) σ) (h1 : ¬ cn σ 1 n = 0 → aabs (0 + σ.2.1 5 4 + σ.2.1 6 4 + -σ.2.1 7 4 + -σ.2.1 8 4) ≤ 30000 → post (some (.inl (mx (mx (mx (mx 0 (σ.2.1 5 5)) (σ.2.1 6 5)) (σ.2.1 7 5)) (σ.2.1 8 5) + 30))) (fd_si (Sq m σ 4) 0 5 ((Sq m σ 4).2.1 0 5 + 1))) : fd_Sem (d + 4) 31 [.inr (.inr (.inl (some 0)))] σ post := by
  obtain ⟨h20, hN, hn, hcn, r0, r2, r3, r30, hva, hla⟩ := id hB
  intro X hX hV
  repeat (first | refine hX _ _ _ _ _ _ ?_ | refine Exists.intro _ (And.intro (by first | rfl | assumption) (And.intro (by first | assumption | exact fd_lt20 h20 (by decide)) (And.intro (by first | rfl | assumption) ?_))))
  refine ok_countOf _ n _ _ _ hB ?_
  repeat refine hX _ _ _ _ _ _ ?_
  refine And.intro (fun hc => ?_) (fun hc => ?_) <;> try dsimp only [fd_icmp] at hc
  · repeat refine hX _ _ _ _ _ _ ?_
    exact h0 (Or.inl hc)
  · repeat (first | refine hX _ _ _ _ _ _ ?_ | refine Exists.intro _ (And.intro (by first | rfl | assumption) (And.intro (by first | assumption | exact fd_lt20 h20 (by decide)) (And.intro (by first | rfl | assumption) ?_))))
    refine ok_apart _ n _ _ hB ?_
    repeat refine hX _ _ _ _ _ _ ?_
    refine And.intro (fun hd => ?_) (fun hd => ?_)
    · have hd : aabs (0 + σ.2.1 5 4 + σ.2.1 6 4 + -σ.2.1 7 4 + -σ.2.1 8 4) ≤ 30000 := hd
      have h1 := h1 hc hd
      repeat (first | refine hX _ _ _ _ _ _ ?_ | refine Exists.intro _ (And.intro (by first | rfl | assumption) (And.intro (by first | assumption | exact fd_lt20 h20 (by decide)) (And.intro (by first | rfl | assumption) ?_))))
      refine ok_longest _ n _ _ hB ?_
      generalize hR : mx (mx (mx (mx 0 (σ.2.1 5 5)) (σ.2.1 6 5)) (σ.2.1 7 5)) (σ.2.1 8 5) = R at h1 ⊢
      have step : ∀ l, l < 4 → X ((fd_code 31).drop 24) [(4, .inl (nI (l + 1))), (0, .inr (.inr (.inl (some 0)))), (1, .inl (R + 30)), (2, .inr (.inr (.inl (some 2)))), (3, .inl (nI 4))] [] (Sq m σ (l + 1)) 0 0 → X ((fd_code 31).drop 24) [(4, .inl (nI l)), (0, .inr (.inr (.inl (some 0)))), (1, .inl (R + 30)), (2, .inr (.inr (.inl (some 2)))), (3, .inl (nI 4))] [] (Sq m σ l) 0 0 := by
        intro l hl hgo
        obtain ⟨g20, gr, gm, g6, gL⟩ := hL l hl
        have hv : 5 + l < (Sq m σ l).1 := by omega
        have hs := fd_sh_lane hl
        have h20 := g20
        repeat refine hX _ _ _ _ _ _ ?_
        refine And.intro (fun hc => ?_) (fun _ => ?_)
        · have h2 : nI 4 ≤ nI l := hc
          rw [nI_leI (by omega) (by omega)] at h2
          omega
        · repeat refine hX _ _ _ _ _ _ ?_
          refine Exists.intro _ (Exists.intro _ (Exists.intro _ (And.intro (by first | rfl | assumption) (And.intro (by first | assumption | exact fd_lt20 h20 (by decide)) (And.intro (by first | rfl | assumption) (And.intro (vp_in_nI hl (by decide)) ?_))))))
          have e : (Sq m σ l).2.2.1 2 (nI l).toNatClampNeg = some (5 + l) := by rw [nI_clamp (by omega)]; exact gr
          refine hX _ _ _ _ _ _ ?_
          rw [e]
          repeat (first | refine hX _ _ _ _ _ _ ?_ | refine Exists.intro _ (And.intro (by first | rfl | assumption) (And.intro (by first | assumption | exact fd_lt20 h20 (by decide)) (And.intro (by first | rfl | assumption) ?_))))
          refine ok_sendAbroad _ (5 + l) (m l) _ _ hv hs gm g6 gL ?_
          refine hX _ _ _ _ _ _ ?_
          refine hX _ _ _ _ _ _ ?_
          exact hV _ _ [(4, .inl (nI (l + 1))), (0, .inr (.inr (.inl (some 0)))), (1, .inl (R + 30)), (2, .inr (.inr (.inl (some 2)))), (3, .inl (nI 4))] _ _ _ _ (And.intro (congrArg (fun x => some (Sum.inl x)) (nI_1 l)) (And.intro rfl (And.intro rfl (And.intro rfl (And.intro rfl trivial))))) hgo
      iterate 5 refine hX _ _ _ _ _ _ ?_
      refine Exists.intro _ (And.intro (by first | rfl | assumption) (And.intro (by first | assumption | exact fd_lt20 h20 (by decide)) (And.intro (by first | rfl | assumption) ?_)))
      rw [r2]
      repeat refine hX _ _ _ _ _ _ ?_
      refine Exists.intro _ (Exists.intro _ (Exists.intro _ (And.intro rfl (And.intro (fd_lt20 h20 (by decide)) (And.intro rfl ?_)))))
      iterate 3 refine hX _ _ _ _ _ _ ?_
      refine hV _ _ [(4, .inl (nI 0)), (0, .inr (.inr (.inl (some 0)))), (1, .inl (R + 30)), (2, .inr (.inr (.inl (some 2)))), (3, .inl (nI 4))] _ _ _ _ (And.intro rfl (And.intro rfl (And.intro rfl (And.intro rfl (And.intro rfl trivial))))) ?_
      refine step 0 (by decide) (step 1 (by decide) (step 2 (by decide) (step 3 (by decide) ?_)))
      have h20 := h4
      repeat refine hX _ _ _ _ _ _ ?_
      refine And.intro (fun _ => ?_) (fun hc => absurd (nI_le (a := 4) (Nat.le_refl 4) (by decide)) hc)
      repeat (first | refine hX _ _ _ _ _ _ ?_ | refine Exists.intro _ (And.intro (by first | rfl | assumption) (And.intro (by first | assumption | exact fd_lt20 h20 (by decide)) (And.intro (by first | rfl | assumption) ?_))))
      exact h1
    · have hd : ¬ aabs (0 + σ.2.1 5 4 + σ.2.1 6 4 + -σ.2.1 7 4 + -σ.2.1 8 4) ≤ 30000 := hd
      repeat refine hX _ _ _ _ _ _ ?_
      exact h0 (Or.inr (i32_nle.mp hd))
def PS (σ : fd_S) (m : Nat → Nat) (l k i : Nat) : Prop := (∃ l' k', l' < l ∧ k' < m l' ∧ sv σ l' k' = i) ∨ (∃ k', k' < k ∧ sv σ l k' = i)
def ZR (σ : fd_S) (m : Nat → Nat) (t l k : Nat) (τ : fd_S) : Prop := τ.1 = σ.1 ∧ τ.2.2.1 = σ.2.2.1 ∧ τ.2.2.2 = σ.2.2.2 ∧ (∀ a j, a ≠ 13 → a ≠ 17 → ¬ JQ t a j → τ.2.1 a j = σ.2.1 a j) ∧ (∀ l', l' < l → τ.2.1 17 l' = 0) ∧ (∀ l', l ≤ l' → τ.2.1 17 l' = σ.2.1 17 l') ∧ (∀ i, (PS σ m l k i → τ.2.1 13 i = 2) ∧ (¬ PS σ m l k i → τ.2.1 13 i = σ.2.1 13 i))
theorem zr_sv {σ τ : fd_S} {m : Nat → Nat} {t l k : Nat} (h : ZR σ m t l k τ) (l' k' : Nat) : sv τ l' k' = sv σ l' k' := by unfold sv; rw [h.2.2.2.1 18 _ (by decide) (by decide) (jq_ne (by decide))]
theorem zr_kd {σ τ : fd_S} {m : Nat → Nat} {t l k : Nat} (h : ZR σ m t l k τ) (i : Nat) : kd τ i = kd σ i := by unfold kd; rw [h.2.2.2.1 10 _ (by decide) (by decide) (jq_ne (by decide))]
theorem zr_qv {σ τ : fd_S} {m : Nat → Nat} {t l k : Nat} (h : ZR σ m t l k τ) (w : Nat) (s : Int32) (i : Nat) : qv τ w s i = qv σ w s i := by unfold qv; rw [zr_kd h, h.2.2.2.1 11 _ (by decide) (by decide) (jq_ne (by decide)), h.2.2.2.1 12 _ (by decide) (by decide) (jq_ne (by decide))]
theorem zr_sN {σ τ : fd_S} {m : Nat → Nat} {t l k : Nat} (h : ZR σ m t l k τ) (l' : Nat) : ∀ n, sN τ l' n = sN σ l' n
  | 0 => rfl
  | n + 1 => by simp only [sN]; rw [zr_sN h l' n, zr_qv h, zr_sv h]
theorem zr_se {σ τ ρ : fd_S} {m : Nat → Nat} {t l k : Nat} (h : ZR σ m t l k τ) (h2 : SE (JQ t) τ ρ) : ZR σ m t l k ρ := ⟨h2.1.trans h.1, h2.2.1.trans h.2.1, h2.2.2.1.trans h.2.2.1, fun a j a1 a2 a3 => (h2.2.2.2 a j a3).trans (h.2.2.2.1 a j a1 a2 a3), fun l' h' => (jq_at h2 (by decide)).trans (h.2.2.2.2.1 l' h'), fun l' h' => (jq_at h2 (by decide)).trans (h.2.2.2.2.2.1 l' h'), fun i => ⟨fun q => (jq_at h2 (by decide)).trans ((h.2.2.2.2.2.2 i).1 q), fun q => (jq_at h2 (by decide)).trans ((h.2.2.2.2.2.2 i).2 q)⟩⟩
theorem si_ne2 {σ : fd_S} {a k i j : Nat} {v : Int32} (h : j ≠ k) : (fd_si σ a k v).2.1 i j = σ.2.1 i j := by show fd_u σ.2.1 a k v i j = _; exact fd_u_ne2 h
set_option maxHeartbeats 1000000 in
theorem m_sail (d t : Nat) (m : Nat → Nat) (σ : fd_S) (post : Option fd_V → fd_S → Prop) (hB : Mb σ) (hS : ∀ l, l < 4 → Vs σ l (m l)) (ht : σ.2.1 9 14 = nI t) (ht10 : t ≤ 10)
    (h0 : (nI (m 0) + nI (m 1) + nI (m 2) + nI (m 3) = 0 ∨ 30000 < sM σ 0 (m 0) + sM σ 1 (m 1) - sM σ 2 (m 2) - sM σ 3 (m 3) ∨ sM σ 0 (m 0) + sM σ 1 (m 1) - sM σ 2 (m 2) - sM σ 3 (m 3) < -30000) → ∀ τ, SE (JQ t) σ τ → post (some (.inl (-3))) τ) (h1 : ¬ nI (m 0) + nI (m 1) + nI (m 2) + nI (m 3) = 0 → ¬ 30000 < sM σ 0 (m 0) + sM σ 1 (m 1) - sM σ 2 (m 2) - sM σ 3 (m 3) → ¬ sM σ 0 (m 0) + sM σ 1 (m 1) - sM σ 2 (m 2) - sM σ 3 (m 3) < -30000 → ∀ τ, ZR σ m t 4 0 τ → post (some (.inl (mx (mx (mx (mx 0 (sN σ 0 (m 0))) (sN σ 1 (m 1))) (sN σ 2 (m 2))) (sN σ 3 (m 3)) + 30))) (fd_si τ 9 11 (σ.2.1 9 11 + 1))) : fd_Sem (d + 7) 71 [.inr (.inr (.inl (some 9)))] σ post := by
  obtain ⟨h20, r1, r2, r3, r4, r5, r6, r7, r8, r9, r13⟩ := id hB
  intro X hX hV
  repeat (first | refine hX _ _ _ _ _ _ ?_ | refine Exists.intro _ (And.intro (by first | rfl | assumption) (And.intro (by first | assumption | exact fd_lt20 h20 (by decide)) (And.intro (by first | rfl | assumption) ?_))))
  refine ia_ld (by exact h20) (by exact r8) (by decide) (by rfl) (i := 0) rfl (by decide) (hS 0 (by decide)).2.1 (by decide) ?_
  repeat (first | refine hX _ _ _ _ _ _ ?_ | refine Exists.intro _ (And.intro (by first | rfl | assumption) (And.intro (by first | assumption | exact fd_lt20 h20 (by decide)) (And.intro (by first | rfl | assumption) ?_))))
  refine ia_ld (by exact h20) (by exact r8) (by decide) (by rfl) (i := 1) rfl (by decide) (hS 1 (by decide)).2.1 (by decide) ?_
  repeat (first | refine hX _ _ _ _ _ _ ?_ | refine Exists.intro _ (And.intro (by first | rfl | assumption) (And.intro (by first | assumption | exact fd_lt20 h20 (by decide)) (And.intro (by first | rfl | assumption) ?_))))
  refine ia_ld (by exact h20) (by exact r8) (by decide) (by rfl) (i := 2) rfl (by decide) (hS 2 (by decide)).2.1 (by decide) ?_
  repeat (first | refine hX _ _ _ _ _ _ ?_ | refine Exists.intro _ (And.intro (by first | rfl | assumption) (And.intro (by first | assumption | exact fd_lt20 h20 (by decide)) (And.intro (by first | rfl | assumption) ?_))))
  refine ia_ld (by exact h20) (by exact r8) (by decide) (by rfl) (i := 3) rfl (by decide) (hS 3 (by decide)).2.1 (by decide) ?_
  repeat (first | refine hX _ _ _ _ _ _ ?_ | refine Exists.intro _ (And.intro (by first | rfl | assumption) (And.intro (by first | assumption | exact fd_lt20 h20 (by decide)) (And.intro (by first | rfl | assumption) ?_))))
  refine ok_carried _ 0 (m 0) t σ _ hB (by decide) (hS 0 (by decide)) ht ht10 (fun τ1 t1 => ?_)
  have p9 : 9 < τ1.1 := by rw [t1.1]; omega
  repeat (first | refine hX _ _ _ _ _ _ ?_ | refine Exists.intro _ (And.intro (by first | rfl | assumption) (And.intro (by first | assumption | exact fd_lt20 h20 (by decide)) (And.intro (by first | rfl | assumption) ?_))))
  refine ok_carried _ 1 (m 1) t τ1 _ (Mb_se t1 hB) (by decide) (Vs_se t1 (hS 1 (by decide))) (by rw [jq_at t1 (by decide)]; exact ht) ht10 (fun τ2 t2' => ?_)
  have t2 := t1.trans t2'
  rw [sM_se t1]
  have p9 : 9 < τ2.1 := by rw [t2.1]; omega
  repeat (first | refine hX _ _ _ _ _ _ ?_ | refine Exists.intro _ (And.intro (by first | rfl | assumption) (And.intro (by first | assumption | exact fd_lt20 h20 (by decide)) (And.intro (by first | rfl | assumption) ?_))))
  refine ok_carried _ 2 (m 2) t τ2 _ (Mb_se t2 hB) (by decide) (Vs_se t2 (hS 2 (by decide))) (by rw [jq_at t2 (by decide)]; exact ht) ht10 (fun τ3 t3' => ?_)
  have t3 := t2.trans t3'
  rw [sM_se t2]
  have p9 : 9 < τ3.1 := by rw [t3.1]; omega
  repeat (first | refine hX _ _ _ _ _ _ ?_ | refine Exists.intro _ (And.intro (by first | rfl | assumption) (And.intro (by first | assumption | exact fd_lt20 h20 (by decide)) (And.intro (by first | rfl | assumption) ?_))))
  refine ok_carried _ 3 (m 3) t τ3 _ (Mb_se t3 hB) (by decide) (Vs_se t3 (hS 3 (by decide))) (by rw [jq_at t3 (by decide)]; exact ht) ht10 (fun τ4 t4' => ?_)
  have t4 := t3.trans t4'
  rw [sM_se t3]
  repeat refine hX _ _ _ _ _ _ ?_
  refine And.intro (fun hc => ?_) (fun ha => ?_)
  · have hc : nI (m 0) + nI (m 1) + nI (m 2) + nI (m 3) = 0 := hc
    repeat refine hX _ _ _ _ _ _ ?_
    exact h0 (Or.inl hc) τ4 t4
  · have ha : ¬ nI (m 0) + nI (m 1) + nI (m 2) + nI (m 3) = 0 := ha
    repeat refine hX _ _ _ _ _ _ ?_
    refine And.intro (fun hc => ?_) (fun hb => ?_)
    · have hc : 30000 < sM σ 0 (m 0) + sM σ 1 (m 1) - sM σ 2 (m 2) - sM σ 3 (m 3) := hc
      repeat refine hX _ _ _ _ _ _ ?_
      exact h0 (Or.inr (Or.inl hc)) τ4 t4
    · have hb : ¬ 30000 < sM σ 0 (m 0) + sM σ 1 (m 1) - sM σ 2 (m 2) - sM σ 3 (m 3) := hb
      repeat refine hX _ _ _ _ _ _ ?_
      refine And.intro (fun hc => ?_) (fun hc => ?_)
      · have hc : -30000 ≤ sM σ 0 (m 0) + sM σ 1 (m 1) - sM σ 2 (m 2) - sM σ 3 (m 3) := hc
        have h1 := h1 ha hb (i32_nlt.mpr hc)
        have step : ∀ l, l < 4 → ∀ acc : Int32, (∀ τ, ZR σ m t (l + 1) 0 τ → X ((fd_code 71).drop 50) [(4, .inl (nI (l + 1))), (3, .inl (mx acc (sN σ l (m l)))), (0, .inr (.inr (.inl (some 9))))] [] τ 0 0) → ∀ τ, ZR σ m t l 0 τ → X ((fd_code 71).drop 50) [(4, .inl (nI l)), (3, .inl acc), (0, .inr (.inr (.inl (some 9))))] [] τ 0 0 := by
          intro l hl acc hgo τ hτ
          obtain ⟨hm60, h17, hst⟩ := id (hS l hl)
          have p9 : 9 < τ.1 := by rw [hτ.1]; omega
          have hVs : Vs τ l (m l) := by
            refine ⟨hm60, (hτ.2.2.2.2.2.1 l (Nat.le_refl l)).trans h17, fun k hk => ?_⟩
            obtain ⟨a1, a2⟩ := hst k hk
            rw [zr_sv hτ]
            refine ⟨(hτ.2.2.2.1 18 _ (by decide) (by decide) (jq_ne (by decide))).trans a1, ?_⟩
            unfold Vi at a2 ⊢
            rw [zr_kd hτ, hτ.2.2.2.1 10 _ (by decide) (by decide) (jq_ne (by decide))]
            exact a2
          have hBτ : Mb τ := by unfold Mb; rw [hτ.1, hτ.2.1]; exact hB
          repeat refine hX _ _ _ _ _ _ ?_
          refine And.intro (fun hc => ?_) (fun _ => ?_)
          · have h2 : nI 4 ≤ nI l := hc
            rw [nI_leI (by omega) (by omega)] at h2
            omega
          · repeat (first | refine hX _ _ _ _ _ _ ?_ | refine Exists.intro _ (And.intro (by first | rfl | assumption) (And.intro (by first | assumption | exact fd_lt20 h20 (by decide)) (And.intro (by first | rfl | assumption) ?_))))
            refine ok_lasts _ l (m l) t τ _ hBτ hl hVs ((hτ.2.2.2.1 9 14 (by decide) (by decide) (jq_ne (by decide))).trans ht) ht10 (fun ρ hρ' => ?_)
            rw [zr_sN hτ]
            have hρ := zr_se hτ hρ'
            have inner : ∀ g k ρ, g + k = m l → ZR σ m t l k ρ → X ((fd_code 71).drop 66) [(6, .inl (nI k)), (4, .inl (nI l)), (3, .inl (mx acc (sN σ l (m l)))), (0, .inr (.inr (.inl (some 9))))] [] ρ 0 0 := by
              intro g
              induction g with
              | zero =>
                intro k ρ hk hρ
                have : k = m l := by omega
                subst this
                have w20 : 20 ≤ ρ.1 := by rw [hρ.1]; exact h20
                have p9 : 9 < ρ.1 := by omega
                have rr : ∀ f, ρ.2.2.1 9 f = σ.2.2.1 9 f := fun f => by rw [hρ.2.1]
                repeat (first | refine hX _ _ _ _ _ _ ?_ | refine Exists.intro _ (And.intro (by first | rfl | assumption) (And.intro (by first | assumption | exact fd_lt20 h20 (by decide)) (And.intro (by first | rfl | assumption) ?_))))
                refine ia_ldo (by exact w20) (by exact (rr 8).trans r8) (by decide) (by rfl) rfl hl (x := nI (m l)) (by exact (hρ.2.2.2.2.2.1 l (Nat.le_refl l)).trans h17) (by decide) ?_
                repeat refine hX _ _ _ _ _ _ ?_
                refine And.intro (fun _ => ?_) (fun hc => absurd (nI_le (Nat.le_refl (m l)) (by omega)) hc)
                repeat (first | refine hX _ _ _ _ _ _ ?_ | refine Exists.intro _ (And.intro (by first | rfl | assumption) (And.intro (by first | assumption | exact fd_lt20 h20 (by decide)) (And.intro (by first | rfl | assumption) ?_))))
                refine ia_sto (by exact w20) (by exact (rr 8).trans r8) (by decide) (by rfl) rfl hl (by decide) ?_
                refine hX _ _ _ _ _ _ ?_
                refine hX _ _ _ _ _ _ ?_
                refine hV _ _ [(4, .inl (nI (l + 1))), (3, .inl (mx acc (sN σ l (m l)))), (0, .inr (.inr (.inl (some 9))))] _ _ _ _ (And.intro (congrArg (fun x => some (Sum.inl x)) (nI_1 l)) (And.intro rfl (And.intro rfl trivial))) (hgo _ ⟨hρ.1, hρ.2.1, hρ.2.2.1, fun a j a1 a2 a3 => (si_ne a2).trans (hρ.2.2.2.1 a j a1 a2 a3), fun l' h' => ?_, fun l' h' => ?_, fun i => ?_⟩)
                · by_cases hll : l' = l
                  · subst hll
                    exact si_eq
                  · rw [si_ne2 hll]
                    exact hρ.2.2.2.2.1 l' (by omega)
                · rw [si_ne2 (by omega)]
                  exact hρ.2.2.2.2.2.1 l' (by omega)
                · rw [si_ne (by decide)]
                  have hps : PS σ m (l + 1) 0 i ↔ PS σ m l (m l) i := by
                    unfold PS
                    constructor
                    · rintro (⟨l', k', a1, a2, a3⟩ | ⟨k', a1, _⟩)
                      · by_cases hll : l' = l
                        · subst hll
                          exact Or.inr ⟨k', a2, a3⟩
                        · exact Or.inl ⟨l', k', by omega, a2, a3⟩
                      · omega
                    · rintro (⟨l', k', a1, a2, a3⟩ | ⟨k', a1, a2⟩)
                      · exact Or.inl ⟨l', k', by omega, a2, a3⟩
                      · exact Or.inl ⟨l, k', by omega, a1, a2⟩
                  rw [hps]
                  exact hρ.2.2.2.2.2.2 i
              | succ g ih =>
                intro k ρ hk hρ
                have w20 : 20 ≤ ρ.1 := by rw [hρ.1]; exact h20
                have p9 : 9 < ρ.1 := by omega
                have rr : ∀ f, ρ.2.2.1 9 f = σ.2.2.1 9 f := fun f => by rw [hρ.2.1]
                obtain ⟨hsk, hvk⟩ := hst k (by omega)
                repeat (first | refine hX _ _ _ _ _ _ ?_ | refine Exists.intro _ (And.intro (by first | rfl | assumption) (And.intro (by first | assumption | exact fd_lt20 h20 (by decide)) (And.intro (by first | rfl | assumption) ?_))))
                refine ia_ldo (by exact w20) (by exact (rr 8).trans r8) (by decide) (by rfl) rfl hl (x := nI (m l)) (by exact (hρ.2.2.2.2.2.1 l (Nat.le_refl l)).trans h17) (by decide) ?_
                repeat refine hX _ _ _ _ _ _ ?_
                refine And.intro (fun hc => ?_) (fun _ => ?_)
                · have hc : nI (m l) ≤ nI k := hc
                  rw [nI_leI (by omega) (by omega)] at hc
                  omega
                · repeat (first | refine hX _ _ _ _ _ _ ?_ | refine Exists.intro _ (And.intro (by first | rfl | assumption) (And.intro (by first | assumption | exact fd_lt20 h20 (by decide)) (And.intro (by first | rfl | assumption) ?_))))
                  refine ia_ldo (by exact w20) (by exact (rr 9).trans r9) (by decide) (by rfl) (sq_idx l k) (by omega) (x := nI (sv σ l k)) (by exact (hρ.2.2.2.1 18 _ (by decide) (by decide) (jq_ne (by decide))).trans hsk) (by decide) ?_
                  refine hX _ _ _ _ _ _ ?_
                  refine hX _ _ _ _ _ _ ?_
                  refine ia_sto (by exact w20) (by exact (rr 4).trans r4) (by decide) (by rfl) rfl hvk.1 (by decide) ?_
                  refine hX _ _ _ _ _ _ ?_
                  refine hX _ _ _ _ _ _ ?_
                  refine hV _ _ [(6, .inl (nI (k + 1))), (4, .inl (nI l)), (3, .inl (mx acc (sN σ l (m l)))), (0, .inr (.inr (.inl (some 9))))] _ _ _ _ (And.intro (congrArg (fun x => some (Sum.inl x)) (nI_1 k)) (And.intro rfl (And.intro rfl (And.intro rfl trivial)))) (ih (k + 1) _ (by omega) ⟨hρ.1, hρ.2.1, hρ.2.2.1, fun a j a1 a2 a3 => (si_ne a1).trans (hρ.2.2.2.1 a j a1 a2 a3), fun l' h' => (si_ne (by decide)).trans (hρ.2.2.2.2.1 l' h'), fun l' h' => (si_ne (by decide)).trans (hρ.2.2.2.2.2.1 l' h'), fun i => ?_⟩)
                  have hps : PS σ m l (k + 1) i ↔ PS σ m l k i ∨ sv σ l k = i := by
                    unfold PS
                    constructor
                    · rintro (h | ⟨k', a1, a2⟩)
                      · exact Or.inl (Or.inl h)
                      · by_cases hkk : k' = k
                        · subst hkk
                          exact Or.inr a2
                        · exact Or.inl (Or.inr ⟨k', by omega, a2⟩)
                    · rintro ((h | ⟨k', a1, a2⟩) | h)
                      · exact Or.inl h
                      · exact Or.inr ⟨k', by omega, a2⟩
                      · exact Or.inr ⟨k, by omega, h⟩
                  rw [hps]
                  by_cases hii : i = sv σ l k
                  · subst hii
                    exact ⟨fun _ => si_eq, fun q => absurd (Or.inr rfl) q⟩
                  · rw [si_ne2 hii]
                    refine ⟨fun q => (hρ.2.2.2.2.2.2 i).1 (q.elim id (fun e => absurd e.symm hii)), fun q => (hρ.2.2.2.2.2.2 i).2 (fun z => q (Or.inl z))⟩
            repeat refine hX _ _ _ _ _ _ ?_
            refine And.intro (fun hc => ?_) (fun hc => ?_)
            · have hc : sN σ l (m l) ≤ acc := hc
              have emx : mx acc (sN σ l (m l)) = acc := if_neg (i32_nlt.mpr hc)
              iterate 3 refine hX _ _ _ _ _ _ ?_
              refine hX _ _ _ _ _ _ ?_
              exact hV _ _ [(6, .inl (nI 0)), (4, .inl (nI l)), (3, .inl (mx acc (sN σ l (m l)))), (0, .inr (.inr (.inl (some 9))))] _ _ _ _ (And.intro rfl (And.intro rfl (And.intro (congrArg (fun x => some (Sum.inl x)) emx.symm) (And.intro rfl trivial)))) (inner (m l) 0 ρ rfl hρ)
            · have hc : ¬ sN σ l (m l) ≤ acc := hc
              have emx : mx acc (sN σ l (m l)) = sN σ l (m l) := if_pos (i32_nle.mp hc)
              iterate 4 refine hX _ _ _ _ _ _ ?_
              refine hX _ _ _ _ _ _ ?_
              exact hV _ _ [(6, .inl (nI 0)), (4, .inl (nI l)), (3, .inl (mx acc (sN σ l (m l)))), (0, .inr (.inr (.inl (some 9))))] _ _ _ _ (And.intro rfl (And.intro rfl (And.intro (congrArg (fun x => some (Sum.inl x)) emx.symm) (And.intro rfl trivial)))) (inner (m l) 0 ρ rfl hρ)
        iterate 4 refine hX _ _ _ _ _ _ ?_
        have z4 : ZR σ m t 0 0 τ4 := ⟨t4.1, t4.2.1, t4.2.2.1, fun a j _ _ a3 => t4.2.2.2 a j a3, fun l' h' => absurd h' (Nat.not_lt_zero _), fun l' _ => jq_at t4 (by decide), fun i => ⟨fun q => by rcases q with ⟨l', _, h', _⟩ | ⟨k', h', _⟩ <;> omega, fun _ => jq_at t4 (by decide)⟩⟩
        refine hV _ _ [(4, .inl (nI 0)), (3, .inl 0), (0, .inr (.inr (.inl (some 9))))] _ _ _ _ (And.intro rfl (And.intro rfl (And.intro rfl trivial))) ?_
        refine step 0 (by decide) 0 (step 1 (by decide) _ (step 2 (by decide) _ (step 3 (by decide) _ (fun τ hτ => ?_)))) τ4 z4
        have p9 : 9 < τ.1 := by rw [hτ.1]; omega
        have h1 := h1 τ hτ
        rw [← hτ.2.2.2.1 9 11 (by decide) (by decide) (jq_ne (by decide))] at h1
        repeat refine hX _ _ _ _ _ _ ?_
        refine And.intro (fun _ => ?_) (fun hc => absurd (nI_le (a := 4) (Nat.le_refl 4) (by decide)) hc)
        repeat (first | refine hX _ _ _ _ _ _ ?_ | refine Exists.intro _ (And.intro (by first | rfl | assumption) (And.intro (by first | assumption | exact fd_lt20 h20 (by decide)) (And.intro (by first | rfl | assumption) ?_))))
        exact h1
      · have hc : ¬ -30000 ≤ sM σ 0 (m 0) + sM σ 1 (m 1) - sM σ 2 (m 2) - sM σ 3 (m 3) := hc
        repeat refine hX _ _ _ _ _ _ ?_
        exact h0 (Or.inr (Or.inr (i32_nle.mp hc))) τ4 t4
end
section
/-- Vehicle's own beginning -/
def vi_s (σ : fd_S) (a : Nat) (x k s l : Int32) : fd_S := (σ.1, fun i j => if i = a then (if j = 0 then x else if j = 1 then k else if j = 2 then s else if j = 3 then l else if j = 4 ∨ j = 5 ∨ j = 6 ∨ j = 9 ∨ j = 13 then 0 else if j = 7 ∨ j = 8 then -3 else if j = 10 ∨ j = 11 then -1 else σ.2.1 a j) else σ.2.1 i j, fun i j => if i = a ∧ j = 12 then none else σ.2.2.1 i j, σ.2.2.2)
set_option maxHeartbeats 1000000 in
theorem ok_vinit (d a : Nat) (x k s l : Int32) (σ : fd_S) (post : Option fd_V → fd_S → Prop) (hv : a < σ.1) (hs : fd_sh a = .inl 2) (h1 : post none (vi_s σ a x k s l)) : fd_Sem (d + 1) 19 [.inr (.inr (.inl (some a))), .inl x, .inl k, .inl s, .inl l] σ post := by
  intro X hX hV
  refine hX _ _ _ _ _ _ ?_
  refine hX _ _ _ _ _ _ ?_
  refine Exists.intro _ (And.intro rfl ?_)
  repeat (first | refine hX _ _ _ _ _ _ ?_ | refine Exists.intro _ (And.intro (by first | rfl | assumption) (And.intro (by first | assumption | exact fd_lt20 h20 (by decide)) (And.intro (by first | rfl | assumption) ?_))))
  refine cast (congrArg (post none) ?_) h1
  refine Prod.ext rfl (Prod.ext (funext fun i => funext fun j => ?_) (Prod.ext (funext fun i => funext fun j => ?_) rfl))
  · clear hX hV h1
    simp only [vi_s, fd_si, fd_sr, fd_u]
    by_cases h : i = a
    · subst h; simp only [if_true]; grind (splits := 20)
    · simp only [h, if_false]
  · simp only [vi_s, fd_si, fd_sr, fd_u]; grind
theorem okL_c {N : Nat} {q : Nat × fd_V} {r : fd_L} (h : fd_ok1 N q.2) (h2 : fd_okL N r) : fd_okL N (q :: r) := List.forall_mem_cons.mpr ⟨h, h2⟩
theorem okL_n {N : Nat} : fd_okL N [] := fun _ h => by cases h
theorem okV_c {N : Nat} {q : fd_V} {r : List fd_V} (h : fd_ok1 N q) (h2 : fd_okV N r) : fd_okV N (q :: r) := List.forall_mem_cons.mpr ⟨h, h2⟩
theorem okV_n {N : Nat} : fd_okV N [] := fun _ h => by cases h
theorem ok_r {N a : Nat} (h : a < N) : fd_ok1 N (.inr (.inr (.inl (some a)))) := fun _ e => by cases e; exact h
def Vok (k s l : Int32) : Prop := (0 ≤ k ∧ k ≤ 6) ∧ (10 ≤ s ∧ s ≤ 200) ∧ (0 ≤ l ∧ l ≤ 40000)
/-- a vehicle more, cell v -/
def VN (σ : fd_S) (n k : Nat) (s l : Int32) (τ : fd_S) : Prop := τ.1 = σ.1 + 1 ∧ τ.2.2.1 = (fun i j => if i = σ.1 then none else if i = 1 ∧ j = n then some σ.1 else σ.2.2.1 i j) ∧ (∀ i j, i ≠ σ.1 → τ.2.2.2 i j = σ.2.2.2 i j) ∧ (∀ i j, i ≠ σ.1 → ¬ (i = 0 ∧ j = 1) → ¬ JC i j → τ.2.1 i j = σ.2.1 i j) ∧ τ.2.1 0 1 = nI (n + 1) ∧ τ.2.1 σ.1 0 = nI n ∧ τ.2.1 σ.1 1 = nI k ∧ τ.2.1 σ.1 2 = s ∧ τ.2.1 σ.1 3 = l ∧ τ.2.1 σ.1 4 = (an_w k s l 0 16 k 0).1 ∧ τ.2.1 σ.1 5 = (an_w k s l 0 16 k 1).1 ∧ τ.2.1 σ.1 6 = (an_w k s l 0 16 k 2).1 ∧ τ.2.1 σ.1 7 = (an_w k s l 0 16 k 4).1 ∧ τ.2.1 σ.1 8 = (an_w k s l 0 16 k 5).1 ∧ τ.2.1 σ.1 9 = 0 ∧ τ.2.1 σ.1 10 = -1 ∧ τ.2.1 σ.1 11 = -1 ∧ τ.2.1 σ.1 13 = 0
set_option maxHeartbeats 1000000 in
theorem c_vehicle (d n : Nat) (x s l : Int32) (σ : fd_S) (post : Option fd_V → fd_S → Prop) (hB : fd_B σ n) (hN : σ.1 = 20 + n) (hclo : fd_clo σ) (tl : Nat) (htl : tl ≤ 10) (h31 : σ.2.1 3 1 = nI tl) (h32 : σ.2.1 3 2 = 0) (h0 : ¬ Vok x s l → post (some (.inl (-2))) σ) (h4 : Vok x s l → n = 60 → post (some (.inl (-4))) σ) (h1 : ∀ k, k < 7 → x = nI k → Vok x s l → n < 60 → ∀ τ, VN σ n k s l τ → post (some (.inl (nI n))) τ) : fd_Sem (d + 62) 24 [.inr (.inr (.inl (some 0))), .inl x, .inl s, .inl l] σ post := by
  obtain ⟨h20, hN', hn, hc, r0, r2, r3, r30, hva, hla⟩ := id hB
  intro X hX hV
  have bad : ¬ Vok x s l → X ((fd_code 24).drop 15) [(0, .inr (.inr (.inl (some 0)))), (1, .inl x), (2, .inl s), (3, .inl l)] [] σ 0 0 := by
    intro hb
    repeat refine hX _ _ _ _ _ _ ?_
    exact h0 hb
  repeat refine hX _ _ _ _ _ _ ?_
  refine ok_within _ _ _ _ _ _ (fun ha hb => ?_) (fun ha => ?_)
  · repeat refine hX _ _ _ _ _ _ ?_
    refine And.intro (fun hc => absurd (show (1 : Int32) = 0 from hc) (by decide)) (fun _ => ?_)
    repeat refine hX _ _ _ _ _ _ ?_
    refine ok_within _ _ _ _ _ _ (fun ha2 hb2 => ?_) (fun ha2 => ?_)
    · repeat refine hX _ _ _ _ _ _ ?_
      refine And.intro (fun hc => absurd (show (1 : Int32) = 0 from hc) (by decide)) (fun _ => ?_)
      repeat refine hX _ _ _ _ _ _ ?_
      refine ok_within _ _ _ _ _ _ (fun ha3 hb3 => ?_) (fun ha3 => ?_)
      · have hok : Vok x s l := ⟨⟨ha, hb⟩, ⟨ha2, hb2⟩, ⟨ha3, hb3⟩⟩
        repeat refine hX _ _ _ _ _ _ ?_
        refine And.intro (fun _ => ?_) (fun hc => absurd (show (1 : Int32) = 0 from hc) (by decide))
        repeat (first | refine hX _ _ _ _ _ _ ?_ | refine Exists.intro _ (And.intro (by first | rfl | assumption) (And.intro (by first | assumption | exact fd_lt20 h20 (by decide)) (And.intro (by first | rfl | assumption) ?_))))
        rw [hc]
        refine And.intro (fun hc => ?_) (fun hc => ?_) <;> try dsimp only [fd_icmp] at hc
        · have hlt : n < 60 := by
            have h2 : nI n < nI 60 := hc
            rw [nI_ltI (by omega) (by omega)] at h2
            exact h2
          refine hX _ _ _ _ _ _ ?_
          refine And.intro (by rw [hN]; exact fd_shV n) (And.intro ⟨by decide, by decide, okL_c (ok_r (by omega)) (okL_c trivial (okL_c trivial (okL_c trivial okL_n))), okV_n, hclo⟩ ?_)
          have hsv : fd_sh σ.1 = .inl 2 := by rw [hN]; exact fd_shV n
          have hρ0 : ∀ i j, i ≠ σ.1 → (fd_alloc σ).2.1 i j = σ.2.1 i j := fun i j h => if_neg h
          have hρ1 : ∀ i j, (fd_alloc σ).2.2.1 i j = if i = σ.1 then none else σ.2.2.1 i j := fun i j => rfl
          have hρ2 : ∀ i j, i ≠ σ.1 → (fd_alloc σ).2.2.2 i j = σ.2.2.2 i j := fun i j h => if_neg h
          have hρ3 : (fd_alloc σ).1 = σ.1 + 1 := rfl
          generalize fd_alloc σ = ρ at *
          have h20 : 20 ≤ ρ.1 := by omega
          have hv : σ.1 < ρ.1 := by omega
          repeat (first | refine hX _ _ _ _ _ _ ?_ | refine Exists.intro _ (And.intro (by first | rfl | assumption) (And.intro (by first | assumption | exact fd_lt20 h20 (by decide)) (And.intro (by first | rfl | assumption) ?_))))
          refine Exists.intro _ (And.intro rfl ?_)
          have e01 : ρ.2.1 0 1 = nI n := by rw [hρ0 0 1 (by omega)]; assumption
          rw [e01]
          obtain ⟨k, hk, rfl⟩ : ∃ k, k < 7 ∧ x = nI k := ix_of (n := 7) (by decide) ha hb
          refine ok_vinit _ _ _ _ _ _ _ _ hv hsv ?_
          have w0 : ∀ i j, (vi_s ρ σ.1 (nI n) (nI k) s l).2.1 i j = if i = σ.1 then (if j = 0 then nI n else if j = 1 then nI k else if j = 2 then s else if j = 3 then l else if j = 4 ∨ j = 5 ∨ j = 6 ∨ j = 9 ∨ j = 13 then 0 else if j = 7 ∨ j = 8 then -3 else if j = 10 ∨ j = 11 then -1 else ρ.2.1 σ.1 j) else σ.2.1 i j := by
            intro i j
            simp only [vi_s]
            have := hρ0 i j
            grind
          have w1 : ∀ i j, (vi_s ρ σ.1 (nI n) (nI k) s l).2.2.1 i j = if i = σ.1 then none else σ.2.2.1 i j := by
            intro i j
            simp only [vi_s]
            have := hρ1 i j
            grind
          have w2 : (vi_s ρ σ.1 (nI n) (nI k) s l).2.2.2 = ρ.2.2.2 := rfl
          have w3 : (vi_s ρ σ.1 (nI n) (nI k) s l).1 = ρ.1 := rfl
          generalize vi_s ρ σ.1 (nI n) (nI k) s l = π at *
          have h20 : 20 ≤ π.1 := by omega
          have hv : σ.1 < π.1 := by omega
          repeat (first | refine hX _ _ _ _ _ _ ?_ | refine Exists.intro _ (And.intro (by first | rfl | assumption) (And.intro (by first | assumption | exact fd_lt20 h20 (by decide)) (And.intro (by first | rfl | assumption) ?_))))
          have g3 : ∀ j, π.2.1 3 j = σ.2.1 3 j := fun j => by rw [w0, if_neg (by omega)]
          refine ok_measure d σ.1 k s l π _ h20 (by rw [w1, if_neg (by omega)]; assumption) (by rw [w1, if_neg (by omega)]; assumption) tl htl (by rw [g3]; assumption) (by rw [g3]; assumption) hv hsv hk (by rw [w0]; simp) (by rw [w0]; simp) (by rw [w0]; simp) (fun τ hτ q4 q5 q6 q7 q8 => ?_)
          obtain ⟨t1, t2, t3, t4⟩ := id hτ
          have h20 : 20 ≤ τ.1 := by omega
          have hv : σ.1 < τ.1 := by omega
          have r0' : τ.2.2.1 0 0 = some 1 := by rw [t2, w1, if_neg (by omega)]; assumption
          have c1' : τ.2.1 0 1 = nI n := by rw [t4 0 1 (fun q => by rcases q with q | q <;> omega), w0, if_neg (by omega)]; assumption
          repeat (first | refine hX _ _ _ _ _ _ ?_ | refine Exists.intro _ (And.intro (by first | rfl | assumption) (And.intro (by first | assumption | exact fd_lt20 h20 (by decide)) (And.intro (by first | rfl | assumption) ?_))))
          have e : (τ.2.1 0 1).toNatClampNeg = n := by rw [c1']; exact nI_clamp (by omega)
          refine Exists.intro 1 (Exists.intro 60 (Exists.intro 2 (Exists.intro σ.1 (And.intro r0' (And.intro (by omega) (And.intro rfl (And.intro (by rw [c1']; exact vp_in_nI hlt (by decide)) (And.intro rfl (And.intro hv (And.intro hsv ?_))))))))))
          rw [e]
          repeat (first | refine hX _ _ _ _ _ _ ?_ | refine Exists.intro _ (And.intro (by first | rfl | assumption) (And.intro (by first | assumption | exact fd_lt20 h20 (by decide)) (And.intro (by first | rfl | assumption) ?_))))
          have u0 : ∀ i j, i ≠ σ.1 → ¬ (i = 0 ∧ j = 1) → ¬ JC i j → (fd_si (fd_sr τ 1 n (some σ.1)) 0 1 (τ.2.1 0 1 + 1)).2.1 i j = σ.2.1 i j := by
            intro i j a1 a2 a3
            show fd_u τ.2.1 0 1 _ i j = _
            have b1 := t4 i j (fun q => by rcases q with q | q; exact a3 q; exact a1 q.1)
            have b2 := w0 i j
            unfold fd_u
            grind
          have u1 : ∀ j, (fd_si (fd_sr τ 1 n (some σ.1)) 0 1 (τ.2.1 0 1 + 1)).2.1 σ.1 j = τ.2.1 σ.1 j := fun j => if_neg (by omega)
          have u2 : ∀ j, ¬ (4 ≤ j ∧ j ≤ 8) → τ.2.1 σ.1 j = π.2.1 σ.1 j := fun j hj => t4 σ.1 j (fun q => by rcases q with q | q <;> omega)
          suffices key : post (some (.inl ((fd_si (fd_sr τ 1 n (some σ.1)) 0 1 (τ.2.1 0 1 + 1)).2.1 σ.1 0))) (fd_si (fd_sr τ 1 n (some σ.1)) 0 1 (τ.2.1 0 1 + 1)) from key
          refine cast (congrArg (fun v => post (some (.inl v)) _) (?_ : nI n = _)) (h1 k hk rfl hok hlt _ ⟨?_, ?_, ?_, u0, ?_, ?_, ?_, ?_, ?_, ?_, ?_, ?_, ?_, ?_, ?_, ?_, ?_, ?_⟩)
          · rw [u1, u2 0 (by omega), w0]; simp
          · show τ.1 = _; omega
          · funext i j
            show fd_u τ.2.2.1 1 n (some σ.1) i j = _
            rw [t2]
            have := w1 i j
            unfold fd_u
            grind
          · intro i j hi
            show τ.2.2.2 i j = _
            rw [t3, w2, hρ2 i j hi]
          · show fd_u τ.2.1 0 1 _ 0 1 = _
            rw [fd_u_eq, c1']; exact nI_1 n
          · rw [u1, u2 0 (by omega), w0]; simp
          · rw [u1, u2 1 (by omega), w0]; simp
          · rw [u1, u2 2 (by omega), w0]; simp
          · rw [u1, u2 3 (by omega), w0]; simp
          · rw [u1]; exact q4
          · rw [u1]; exact q5
          · rw [u1]; exact q6
          · rw [u1]; exact q7
          · rw [u1]; exact q8
          · rw [u1, u2 9 (by omega), w0]; simp
          · rw [u1, u2 10 (by omega), w0]; simp
          · rw [u1, u2 11 (by omega), w0]; simp
          · rw [u1, u2 13 (by omega), w0]; simp
        · have h60 : n = 60 := by
            have h2 : ¬ nI n < nI 60 := hc
            rw [nI_ltI (by omega) (by omega)] at h2
            omega
          repeat refine hX _ _ _ _ _ _ ?_
          exact h4 hok h60
      · repeat refine hX _ _ _ _ _ _ ?_
        refine And.intro (fun hc => absurd (show (0 : Int32) = 0 from rfl) hc) (fun _ => ?_)
        exact bad (fun q => ha3 q.2.2)
    · repeat refine hX _ _ _ _ _ _ ?_
      refine And.intro (fun _ => ?_) (fun hc => absurd (show (0 : Int32) = 0 from rfl) hc)
      exact bad (fun q => ha2 q.2.1)
  · repeat refine hX _ _ _ _ _ _ ?_
    refine And.intro (fun _ => ?_) (fun hc => absurd (show (0 : Int32) = 0 from rfl) hc)
    exact bad (fun q => ha q.1)

def mv_s (σ : fd_S) (n : Nat) (k s l : Int32) : fd_S := fd_si (fd_si (fd_si (fd_si (fd_si (fd_si σ 10 n k) 11 n s) 12 n l) 13 n 0) 14 n 0) 9 0 (nI (n + 1))
theorem m_vehicle (d n : Nat) (x s l : Int32) (σ : fd_S) (post : Option fd_V → fd_S → Prop) (hB : Mb σ) (hn : n ≤ 60) (h90 : σ.2.1 9 0 = nI n) (h0 : ¬ Vok x s l → post (some (.inl (-2))) σ) (h4 : Vok x s l → n = 60 → post (some (.inl (-4))) σ) (h1 : Vok x s l → n < 60 → post (some (.inl (nI n))) (mv_s σ n x s l)) : fd_Sem (d + 2) 51 [.inr (.inr (.inl (some 9))), .inl x, .inl s, .inl l] σ post := by
  obtain ⟨h20, r1, r2, r3, r4, r5, r6, r7, r8, r9, r13⟩ := id hB
  intro X hX hV
  have bad : ¬ Vok x s l → X ((fd_code 51).drop 15) [(0, .inr (.inr (.inl (some 9)))), (1, .inl x), (2, .inl s), (3, .inl l)] [] σ 0 0 := by
    intro hb
    repeat refine hX _ _ _ _ _ _ ?_
    exact h0 hb
  repeat refine hX _ _ _ _ _ _ ?_
  refine ok_in _ _ _ _ _ _ (fun ha hb => ?_) (fun ha => ?_)
  · repeat refine hX _ _ _ _ _ _ ?_
    refine And.intro (fun hc => absurd (show (1 : Int32) = 0 from hc) (by decide)) (fun _ => ?_)
    repeat refine hX _ _ _ _ _ _ ?_
    refine ok_in _ _ _ _ _ _ (fun ha2 hb2 => ?_) (fun ha2 => ?_)
    · repeat refine hX _ _ _ _ _ _ ?_
      refine And.intro (fun hc => absurd (show (1 : Int32) = 0 from hc) (by decide)) (fun _ => ?_)
      repeat refine hX _ _ _ _ _ _ ?_
      refine ok_in _ _ _ _ _ _ (fun ha3 hb3 => ?_) (fun ha3 => ?_)
      · have hok : Vok x s l := ⟨⟨ha, hb⟩, ⟨ha2, hb2⟩, ⟨ha3, hb3⟩⟩
        repeat refine hX _ _ _ _ _ _ ?_
        refine And.intro (fun _ => ?_) (fun hc => absurd (show (1 : Int32) = 0 from hc) (by decide))
        repeat (first | refine hX _ _ _ _ _ _ ?_ | refine Exists.intro _ (And.intro (by first | rfl | assumption) (And.intro (by first | assumption | exact fd_lt20 h20 (by decide)) (And.intro (by first | rfl | assumption) ?_))))
        rw [h90]
        refine And.intro (fun hc => ?_) (fun hc => ?_) <;> try dsimp only [fd_icmp] at hc
        · have hlt : n < 60 := by
            have h2 : ¬ nI n = nI 60 := hc
            rw [nI_eq (by omega) (by omega)] at h2
            omega
          repeat (first | refine hX _ _ _ _ _ _ ?_ | refine Exists.intro _ (And.intro (by first | rfl | assumption) (And.intro (by first | assumption | exact fd_lt20 h20 (by decide)) (And.intro (by first | rfl | assumption) ?_))))
          refine ia_st (τ := σ) h20 (n := 60) r1 (by decide) rfl h90 hlt (by decide) ?_
          repeat (first | refine hX _ _ _ _ _ _ ?_ | refine Exists.intro _ (And.intro (by first | rfl | assumption) (And.intro (by first | assumption | exact fd_lt20 h20 (by decide)) (And.intro (by first | rfl | assumption) ?_))))
          refine ia_st (τ := (fd_si σ 10 n x)) h20 (n := 60) r2 (by decide) rfl h90 hlt (by decide) ?_
          repeat (first | refine hX _ _ _ _ _ _ ?_ | refine Exists.intro _ (And.intro (by first | rfl | assumption) (And.intro (by first | assumption | exact fd_lt20 h20 (by decide)) (And.intro (by first | rfl | assumption) ?_))))
          refine ia_st (τ := (fd_si (fd_si σ 10 n x) 11 n s)) h20 (n := 60) r3 (by decide) rfl h90 hlt (by decide) ?_
          repeat (first | refine hX _ _ _ _ _ _ ?_ | refine Exists.intro _ (And.intro (by first | rfl | assumption) (And.intro (by first | assumption | exact fd_lt20 h20 (by decide)) (And.intro (by first | rfl | assumption) ?_))))
          refine ia_st (τ := (fd_si (fd_si (fd_si σ 10 n x) 11 n s) 12 n l)) h20 (n := 60) r4 (by decide) rfl h90 hlt (by decide) ?_
          repeat (first | refine hX _ _ _ _ _ _ ?_ | refine Exists.intro _ (And.intro (by first | rfl | assumption) (And.intro (by first | assumption | exact fd_lt20 h20 (by decide)) (And.intro (by first | rfl | assumption) ?_))))
          refine ia_st (τ := (fd_si (fd_si (fd_si (fd_si σ 10 n x) 11 n s) 12 n l) 13 n 0)) h20 (n := 60) r5 (by decide) rfl h90 hlt (by decide) ?_
          repeat (first | refine hX _ _ _ _ _ _ ?_ | refine Exists.intro _ (And.intro (by first | rfl | assumption) (And.intro (by first | assumption | exact fd_lt20 h20 (by decide)) (And.intro (by first | rfl | assumption) ?_))))
          have e1 : σ.2.1 9 0 + 1 = nI (n + 1) := by rw [h90]; exact nI_1 n
          refine cast ?_ (h1 hok hlt)
          have e2 : ∀ y, y = nI (n + 1) → post (some (.inl (nI n))) (mv_s σ n x s l) = post (some (.inl (y - 1))) (fd_si (fd_si (fd_si (fd_si (fd_si (fd_si σ 10 n x) 11 n s) 12 n l) 13 n 0) 14 n 0) 9 0 y) := by
            intro y hy
            subst hy
            rw [nI_pred]
            rfl
          exact e2 _ e1
        · have h60 : n = 60 := by
            have h2 : nI n = nI 60 := hc
            rw [nI_eq (by omega) (by omega)] at h2
            exact h2
          repeat refine hX _ _ _ _ _ _ ?_
          exact h4 hok h60
      · repeat refine hX _ _ _ _ _ _ ?_
        refine And.intro (fun hc => absurd (show (0 : Int32) = 0 from rfl) hc) (fun _ => ?_)
        exact bad (fun q => ha3 q.2.2)
    · repeat refine hX _ _ _ _ _ _ ?_
      refine And.intro (fun _ => ?_) (fun hc => absurd (show (0 : Int32) = 0 from rfl) hc)
      exact bad (fun q => ha2 q.2.1)
  · repeat refine hX _ _ _ _ _ _ ?_
    refine And.intro (fun _ => ?_) (fun hc => absurd (show (0 : Int32) = 0 from rfl) hc)
    exact bad (fun q => ha q.1)
end
section
/-! the constructors -/
theorem clo_al {σ : fd_S} (h : fd_clo σ) : fd_clo (fd_alloc σ) := by
  intro a k x hx
  have hx : (if a = σ.1 then none else σ.2.2.1 a k) = some x := hx
  have : σ.2.2.1 a k = some x := by
    split at hx
    · cases hx
    · exact hx
  exact Nat.lt_succ_of_lt (h a k x this)
theorem clo_sr {σ : fd_S} {a k : Nat} {w : Option Nat} (h : fd_clo σ) (hw : ∀ x, w = some x → x < σ.1) : fd_clo (fd_sr σ a k w) := by
  intro i j x hx
  have hx : fd_u σ.2.2.1 a k w i j = some x := hx
  unfold fd_u at hx
  split at hx
  · split at hx
    · exact hw x hx
    · exact h i j x hx
  · exact h i j x hx
theorem clo_eq {σ τ : fd_S} (h : fd_clo σ) (h1 : τ.1 = σ.1) (h2 : τ.2.2.1 = σ.2.2.1) : fd_clo τ := by
  intro i j x hx
  rw [h2] at hx
  rw [h1]
  exact h i j x hx
/-- Lane's own beginning -/
def li_s (σ : fd_S) (a : Nat) (x : Int32) : fd_S := (σ.1, fun i j => if i = a then (if j = 0 then x else if j ≤ 6 then 0 else σ.2.1 a j) else σ.2.1 i j, fun i j => if i = a ∧ (j = 7 ∨ j = 8) then none else σ.2.2.1 i j, σ.2.2.2)
theorem ok_linit (d a : Nat) (x : Int32) (σ : fd_S) (post : Option fd_V → fd_S → Prop) (hv : a < σ.1) (hs : fd_sh a = .inl 1) (h1 : post none (li_s σ a x)) : fd_Sem (d + 1) 12 [.inr (.inr (.inl (some a))), .inl x] σ post := by
  intro X hX hV
  refine hX _ _ _ _ _ _ ?_
  refine hX _ _ _ _ _ _ ?_
  refine Exists.intro _ (And.intro rfl ?_)
  repeat (first | refine hX _ _ _ _ _ _ ?_ | refine Exists.intro _ (And.intro (by first | rfl | assumption) (And.intro (by first | assumption | exact fd_lt20 h20 (by decide)) (And.intro (by first | rfl | assumption) ?_))))
  refine cast (congrArg (post none) ?_) h1
  refine Prod.ext rfl (Prod.ext (funext fun i => funext fun j => ?_) (Prod.ext (funext fun i => funext fun j => ?_) rfl))
  · clear hX hV h1
    simp only [li_s, fd_si, fd_sr, fd_u]
    by_cases h : i = a
    · subst h; simp only [if_true]; grind (splits := 20)
    · simp only [h, if_false]
  · simp only [li_s, fd_si, fd_sr, fd_u]; grind
/-- Answers' own beginning: cell 3, its row cell 4 -/
theorem ok_ainit (d : Nat) (σ : fd_S) (post : Option fd_V → fd_S → Prop) (hN : σ.1 = 4) (hclo : fd_clo σ) (h1 : ∀ τ : fd_S, τ.1 = 5 → (∀ i j, τ.2.2.1 i j = if i = 4 then none else if i = 3 ∧ j = 0 then some 4 else σ.2.2.1 i j) → (∀ i j, τ.2.1 i j = if i = 4 ∨ (i = 3 ∧ 1 ≤ j ∧ j ≤ 6) then 0 else σ.2.1 i j) → (∀ i j, τ.2.2.2 i j = if i = 4 then 0 else σ.2.2.2 i j) → fd_clo τ → post none τ) : fd_Sem (d + 1) 0 [.inr (.inr (.inl (some 3)))] σ post := by
  obtain ⟨N, H, R, L⟩ := σ
  have hN : N = 4 := hN
  subst hN
  intro X hX hV
  refine hX _ _ _ _ _ _ ?_
  refine hX _ _ _ _ _ _ ?_
  refine Exists.intro _ (And.intro rfl ?_)
  repeat refine hX _ _ _ _ _ _ ?_
  refine Exists.intro 10 (And.intro rfl (And.intro (by decide) (And.intro (by decide) (And.intro rfl (And.intro ⟨by decide, by decide, okL_c (ok_r (show 3 < 4 by decide)) okL_n, okV_c (ok_r (show 3 < 4 by decide)) okV_n, hclo⟩ ?_)))))
  refine hX _ _ _ _ _ _ ?_
  refine Exists.intro _ (And.intro rfl (And.intro (show 3 < 5 by decide) (And.intro rfl ?_)))
  have c1 := clo_sr (σ := fd_alloc (4, H, R, L)) (a := 3) (k := 0) (w := some 4) (clo_al hclo) (fun x e => by cases e; exact (show 4 < 5 by decide))
  have e1 : ∀ i j, (fd_sr (fd_alloc (4, H, R, L)) 3 0 (some 4)).2.1 i j = if i = 4 then 0 else H i j := fun _ _ => rfl
  have e2 : ∀ i j, (fd_sr (fd_alloc (4, H, R, L)) 3 0 (some 4)).2.2.1 i j = if i = 4 then none else if i = 3 ∧ j = 0 then some 4 else R i j := by
    intro i j
    show fd_u (fd_u0 R 4 none) 3 0 (some 4) i j = _
    unfold fd_u fd_u0
    grind
  have e3 : ∀ i j, (fd_sr (fd_alloc (4, H, R, L)) 3 0 (some 4)).2.2.2 i j = if i = 4 then 0 else L i j := fun _ _ => rfl
  have e4 : (fd_sr (fd_alloc (4, H, R, L)) 3 0 (some 4)).1 = 5 := rfl
  generalize fd_sr (fd_alloc (4, H, R, L)) 3 0 (some 4) = ρ at *
  suffices key : X ((fd_code 0).drop 6) [(0, .inr (.inr (.inl (some 3))))] [] ρ 1 10 from key
  have h3 : 3 < ρ.1 := by omega
  repeat (first | refine hX _ _ _ _ _ _ ?_ | refine Exists.intro _ (And.intro (by first | rfl | assumption) (And.intro (by first | assumption | exact fd_lt20 h20 (by decide)) (And.intro (by first | rfl | assumption) ?_))))
  refine And.intro (Or.inl rfl) ?_
  repeat (first | refine hX _ _ _ _ _ _ ?_ | refine Exists.intro _ (And.intro (by first | rfl | assumption) (And.intro (by first | assumption | exact fd_lt20 h20 (by decide)) (And.intro (by first | rfl | assumption) ?_))))
  refine h1 _ e4 e2 (fun i j => ?_) e3 (clo_eq c1 rfl rfl)
  simp only [fd_si, fd_u]
  have := e1 i j
  grind

/-- the deck with l lanes made -/
def IN (l : Nat) (σ : fd_S) : Prop := σ.1 = 5 + l ∧ (∀ i j, σ.2.2.1 i j = if i = 0 then (if j = 0 then some 1 else if j = 2 then some 2 else if j = 3 then some 3 else none) else if i = 3 ∧ j = 0 then some 4 else if i = 2 ∧ j < l then some (5 + j) else none) ∧ (∀ i j, σ.2.1 i j = if 5 ≤ i ∧ i < 5 + l ∧ j = 0 then nI (i - 5) else 0) ∧ (∀ i j, σ.2.2.2 i j = 0)
theorem in_clo {l : Nat} {σ : fd_S} (h : IN l σ) : fd_clo σ := by
  intro i j x hx
  rw [h.2.1 i j] at hx
  rw [h.1]
  split at hx
  · split at hx
    · cases hx; omega
    · split at hx
      · cases hx; omega
      · split at hx
        · cases hx; omega
        · cases hx
  · split at hx
    · cases hx; omega
    · split at hx
      · cases hx; omega
      · cases hx
theorem ok_dinit (d : Nat) (σ : fd_S) (post : Option fd_V → fd_S → Prop) (hN : σ.1 = 1) (hH : ∀ i j, σ.2.1 i j = 0) (hR : ∀ i j, σ.2.2.1 i j = none) (hL : ∀ i j, σ.2.2.2 i j = 0) (h1 : ∀ τ, IN 4 τ → post none τ) : fd_Sem (d + 2) 23 [.inr (.inr (.inl (some 0)))] σ post := by
  obtain ⟨N, H, R, L⟩ := σ
  have hN : N = 1 := hN
  subst hN
  have hclo : fd_clo (1, H, R, L) := fun i j x hx => by rw [hR i j] at hx; cases hx
  intro X hX hV
  have step : ∀ m l σ cc ss, l + m = 4 → cc + m ≤ 8 → ss + 9 * m ≤ 117 → IN l σ → X ((fd_code 23).drop 29) [(1, .inl (nI l)), (0, .inr (.inr (.inl (some 0))))] [] σ cc ss := by
    intro m
    induction m with
    | zero =>
      intro l σ cc ss hl _ _ hI
      have hl : l = 4 := by omega
      subst hl
      repeat refine hX _ _ _ _ _ _ ?_
      refine And.intro (fun _ => ?_) (fun hc => absurd (show (4 : Int32) ≤ nI 4 from nI_le (a := 4) (Nat.le_refl 4) (by decide)) hc)
      repeat refine hX _ _ _ _ _ _ ?_
      exact h1 _ hI
    | succ m ih =>
      intro l σ cc ss hl hcc hss hI
      have hcl := in_clo hI
      obtain ⟨i1, i2, i3, i4⟩ := id hI
      have h0 : 0 < σ.1 := by omega
      repeat refine hX _ _ _ _ _ _ ?_
      refine And.intro (fun hc => ?_) (fun _ => ?_)
      · have h2 : nI 4 ≤ nI l := hc
        rw [nI_leI (by omega) (by omega)] at h2
        omega
      refine hX _ _ _ _ _ _ ?_
      refine hX _ _ _ _ _ _ ?_
      refine Exists.intro _ (And.intro (by first | rfl | assumption) (And.intro (by first | assumption | exact fd_lt20 h20 (by decide)) (And.intro (by first | rfl | assumption) ?_)))
      have r2 : σ.2.2.1 0 2 = some 2 := by rw [i2]; rfl
      rw [r2]
      refine hX _ _ _ _ _ _ ?_
      refine hX _ _ _ _ _ _ ?_
      have hsh : fd_sh σ.1 = .inl 1 := by rw [i1]; exact fd_sh_lane (by omega)
      refine And.intro hsh (And.intro ⟨by show cc + 1 ≤ 8; omega, by show ss + 9 ≤ 117; omega, okL_c trivial (okL_c (ok_r h0) okL_n), okV_c trivial (okV_c (ok_r (by omega)) okV_n), hcl⟩ ?_)
      have hv : σ.1 < (fd_alloc σ).1 := Nat.lt_succ_self _
      repeat refine hX _ _ _ _ _ _ ?_
      refine Exists.intro _ (And.intro rfl ?_)
      refine ok_linit _ _ _ _ _ hv hsh ?_
      refine hX _ _ _ _ _ _ ?_
      have hv2 : σ.1 < (li_s (fd_alloc σ) σ.1 (nI l)).1 := hv
      have hv3 : 2 < (li_s (fd_alloc σ) σ.1 (nI l)).1 := by omega
      refine Exists.intro 2 (Exists.intro 4 (Exists.intro 1 (Exists.intro σ.1 (And.intro rfl (And.intro hv3 (And.intro rfl (And.intro (vp_in_nI (by omega) (by decide)) (And.intro rfl (And.intro hv2 (And.intro hsh ?_))))))))))
      rw [nI_clamp (show l < 2 ^ 31 by omega)]
      refine hX _ _ _ _ _ _ ?_
      refine hX _ _ _ _ _ _ ?_
      refine hV _ _ [(1, .inl (nI (l + 1))), (0, .inr (.inr (.inl (some 0))))] _ _ _ _ (And.intro (congrArg (fun x => some (Sum.inl x)) (nI_1 l)) (And.intro rfl trivial)) (ih (l + 1) _ _ _ (by omega) (by omega) (by show ss + 9 + 9 * m ≤ 117; omega) ⟨?_, ?_, ?_, ?_⟩)
      · show σ.1 + 1 = _; omega
      · intro i j
        show fd_u (fun i j => if i = σ.1 ∧ (j = 7 ∨ j = 8) then none else fd_u0 σ.2.2.1 σ.1 none i j) 2 l (some σ.1) i j = _
        have := i2 i j
        unfold fd_u fd_u0
        grind
      · intro i j
        show (if i = σ.1 then (if j = 0 then nI l else if j ≤ 6 then 0 else fd_u0 σ.2.1 σ.1 0 σ.1 j) else fd_u0 σ.2.1 σ.1 0 i j) = _
        have := i3 i j
        unfold fd_u0
        grind
      · intro i j
        show fd_u0 σ.2.2.2 σ.1 0 i j = 0
        have := i4 i j
        unfold fd_u0
        grind
  refine hX _ _ _ _ _ _ ?_
  refine hX _ _ _ _ _ _ ?_
  refine Exists.intro _ (And.intro rfl ?_)
  repeat refine hX _ _ _ _ _ _ ?_
  refine Exists.intro 60 (And.intro rfl (And.intro (by decide) (And.intro (by decide) (And.intro rfl (And.intro ⟨by decide, by decide, okL_c (ok_r (show 0 < 1 by decide)) okL_n, okV_c (ok_r (show 0 < 1 by decide)) okV_n, hclo⟩ ?_)))))
  refine hX _ _ _ _ _ _ ?_
  refine Exists.intro _ (And.intro rfl (And.intro (show 0 < 2 by decide) (And.intro rfl ?_)))
  repeat refine hX _ _ _ _ _ _ ?_
  refine Exists.intro _ (And.intro rfl (And.intro (show 0 < 2 by decide) (And.intro rfl ?_)))
  have c1 : fd_clo (fd_si (fd_sr (fd_alloc (1, H, R, L)) 0 0 (some 1)) 0 1 0) := clo_eq (clo_sr (σ := fd_alloc (1, H, R, L)) (a := 0) (k := 0) (w := some 1) (clo_al hclo) (fun x e => by cases e; exact (show 1 < 2 by decide))) rfl rfl
  repeat refine hX _ _ _ _ _ _ ?_
  refine Exists.intro 4 (And.intro rfl (And.intro (by decide) (And.intro (by decide) (And.intro rfl (And.intro ⟨by decide, by decide, okL_c (ok_r (show 0 < 2 by decide)) okL_n, okV_c (ok_r (show 0 < 2 by decide)) okV_n, c1⟩ ?_)))))
  refine hX _ _ _ _ _ _ ?_
  refine Exists.intro _ (And.intro rfl (And.intro (show 0 < 3 by decide) (And.intro rfl ?_)))
  have c2 : fd_clo (fd_sr (fd_alloc (fd_si (fd_sr (fd_alloc (1, H, R, L)) 0 0 (some 1)) 0 1 0)) 0 2 (some 2)) := clo_sr (clo_al c1) (fun x e => by cases e; exact (show 2 < 3 by decide))
  refine hX _ _ _ _ _ _ ?_
  refine hX _ _ _ _ _ _ ?_
  refine And.intro rfl (And.intro ⟨by decide, by decide, okL_c (ok_r (show 0 < 3 by decide)) okL_n, okV_c (ok_r (show 0 < 3 by decide)) okV_n, c2⟩ ?_)
  have c3 := clo_al c2
  have e1 : (fd_alloc (fd_sr (fd_alloc (fd_si (fd_sr (fd_alloc (1, H, R, L)) 0 0 (some 1)) 0 1 0)) 0 2 (some 2))).1 = 4 := rfl
  have e2 : ∀ i j, (fd_alloc (fd_sr (fd_alloc (fd_si (fd_sr (fd_alloc (1, H, R, L)) 0 0 (some 1)) 0 1 0)) 0 2 (some 2))).2.2.1 i j = if i = 0 ∧ j = 0 then some 1 else if i = 0 ∧ j = 2 then some 2 else none := by
    intro i j
    show fd_u0 (fd_u (fd_u0 (fd_u (fd_u0 R 1 none) 0 0 (some 1)) 2 none) 0 2 (some 2)) 3 none i j = _
    have : R i j = none := hR i j
    unfold fd_u fd_u0
    grind
  have e3 : ∀ i j, (fd_alloc (fd_sr (fd_alloc (fd_si (fd_sr (fd_alloc (1, H, R, L)) 0 0 (some 1)) 0 1 0)) 0 2 (some 2))).2.1 i j = 0 := by
    intro i j
    show fd_u0 (fd_u0 (fd_u (fd_u0 H 1 0) 0 1 0) 2 0) 3 0 i j = _
    have : H i j = 0 := hH i j
    unfold fd_u fd_u0
    grind
  have e4 : ∀ i j, (fd_alloc (fd_sr (fd_alloc (fd_si (fd_sr (fd_alloc (1, H, R, L)) 0 0 (some 1)) 0 1 0)) 0 2 (some 2))).2.2.2 i j = 0 := by
    intro i j
    show fd_u0 (fd_u0 (fd_u0 L 1 0) 2 0) 3 0 i j = _
    have : L i j = 0 := hL i j
    unfold fd_u0
    grind
  suffices key : ∀ ρ : fd_S, fd_clo ρ → ρ.1 = 4 → (∀ i j, ρ.2.2.1 i j = if i = 0 ∧ j = 0 then some 1 else if i = 0 ∧ j = 2 then some 2 else none) → (∀ i j, ρ.2.1 i j = 0) → (∀ i j, ρ.2.2.2 i j = 0) → X ((fd_code 23).drop 15) [(0, .inr (.inr (.inl (some 0))))] [.inr (.inr (.inl (some 3))), .inr (.inr (.inl (some 0)))] ρ 3 71 from key _ c3 e1 e2 e3 e4
  intro ρ c3 e1 e2 e3 e4
  repeat refine hX _ _ _ _ _ _ ?_
  refine Exists.intro _ (And.intro rfl ?_)
  refine And.intro ⟨by decide, by decide, okL_c (ok_r (by omega)) okL_n, okV_c (ok_r (by omega)) (okV_c (ok_r (by omega)) okV_n), c3⟩ ?_
  refine ok_ainit _ ρ _ e1 c3 (fun τ t1 t2 t3 t4 t5 => ?_)
  have h0 : 0 < τ.1 := by omega
  refine hX _ _ _ _ _ _ ?_
  refine Exists.intro _ (And.intro (by first | rfl | assumption) (And.intro (by first | assumption | exact fd_lt20 h20 (by decide)) (And.intro (by first | rfl | assumption) ?_)))
  iterate 2 refine hX _ _ _ _ _ _ ?_
  refine hX _ _ _ _ _ _ ?_
  refine Exists.intro _ (And.intro (by first | rfl | assumption) (And.intro (by first | assumption | exact fd_lt20 h20 (by decide)) (And.intro (by first | rfl | assumption) ?_)))
  iterate 2 refine hX _ _ _ _ _ _ ?_
  refine hX _ _ _ _ _ _ ?_
  refine Exists.intro _ (And.intro (by first | rfl | assumption) (And.intro (by first | assumption | exact fd_lt20 h20 (by decide)) (And.intro (by first | rfl | assumption) ?_)))
  iterate 2 refine hX _ _ _ _ _ _ ?_
  refine hX _ _ _ _ _ _ ?_
  refine Exists.intro _ (And.intro (by first | rfl | assumption) (And.intro (by first | assumption | exact fd_lt20 h20 (by decide)) (And.intro (by first | rfl | assumption) ?_)))
  refine hX _ _ _ _ _ _ ?_
  refine hX _ _ _ _ _ _ ?_
  refine step 4 0 _ _ _ rfl (by decide) (by decide) ⟨t1, fun i j => ?_, fun i j => ?_, fun i j => ?_⟩
  · show fd_u τ.2.2.1 0 3 (some 3) i j = _
    have := t2 i j
    have := e2 i j
    unfold fd_u
    grind
  · show fd_u (fd_u τ.2.1 0 4 0) 0 5 0 i j = _
    have := t3 i j
    have := e3 i j
    unfold fd_u
    grind
  · show fd_u τ.2.2.2 0 6 0 i j = _
    have := t4 i j
    have := e4 i j
    unfold fd_u
    grind
end
section

/-- the model's own beginning: cell 9, its rows 10 to 19 -/
def INM (H : Nat → Nat → Int32) (R : Nat → Nat → Option Nat) (L : Nat → Nat → Int64) (τ : fd_S) : Prop := τ.1 = 20 ∧ (∀ i j, i < 9 → τ.2.2.1 i j = R i j) ∧ (∀ i j, i < 10 → τ.2.1 i j = H i j) ∧ (∀ i j, 10 ≤ i → i < 20 → τ.2.1 i j = 0) ∧ (∀ i j, i < 10 → τ.2.2.2 i j = L i j) ∧ Mb τ ∧ fd_clo τ
set_option maxHeartbeats 2000000 in
theorem ok_minit (d : Nat) (H : Nat → Nat → Int32) (R : Nat → Nat → Option Nat) (L : Nat → Nat → Int64) (post : Option fd_V → fd_S → Prop) (hclo : fd_clo (10, H, R, L)) (h1 : ∀ τ, INM H R L τ → post none τ) : fd_Sem (d + 1) 47 [.inr (.inr (.inl (some 9)))] (10, H, R, L) post := by
  intro X hX hV
  refine hX _ _ _ _ _ _ ?_
  refine hX _ _ _ _ _ _ ?_
  refine Exists.intro _ (And.intro rfl ?_)
  have c0 := hclo
  refine hX _ _ _ _ _ _ ?_
  refine hX _ _ _ _ _ _ ?_
  refine hX _ _ _ _ _ _ ?_
  refine Exists.intro 60 (And.intro rfl (And.intro (by decide) (And.intro (by decide) (And.intro rfl (And.intro ⟨by decide, by decide, okL_c (ok_r (show 9 < 10 by decide)) okL_n, okV_c (ok_r (show 9 < 10 by decide)) okV_n, c0⟩ ?_)))))
  refine hX _ _ _ _ _ _ ?_
  refine Exists.intro _ (And.intro rfl (And.intro (show 9 < 11 by decide) (And.intro rfl ?_)))
  have c1 : fd_clo (fd_sr (fd_alloc (10, H, R, L)) 9 1 (some 10)) := clo_sr (clo_al c0) (fun x e => by cases e; exact (show 10 < 11 by decide))
  refine hX _ _ _ _ _ _ ?_
  refine hX _ _ _ _ _ _ ?_
  refine hX _ _ _ _ _ _ ?_
  refine Exists.intro 60 (And.intro rfl (And.intro (by decide) (And.intro (by decide) (And.intro rfl (And.intro ⟨by decide, by decide, okL_c (ok_r (show 9 < 11 by decide)) okL_n, okV_c (ok_r (show 9 < 11 by decide)) okV_n, c1⟩ ?_)))))
  refine hX _ _ _ _ _ _ ?_
  refine Exists.intro _ (And.intro rfl (And.intro (show 9 < 12 by decide) (And.intro rfl ?_)))
  have c2 : fd_clo (fd_sr (fd_alloc (fd_sr (fd_alloc (10, H, R, L)) 9 1 (some 10))) 9 2 (some 11)) := clo_sr (clo_al c1) (fun x e => by cases e; exact (show 11 < 12 by decide))
  refine hX _ _ _ _ _ _ ?_
  refine hX _ _ _ _ _ _ ?_
  refine hX _ _ _ _ _ _ ?_
  refine Exists.intro 60 (And.intro rfl (And.intro (by decide) (And.intro (by decide) (And.intro rfl (And.intro ⟨by decide, by decide, okL_c (ok_r (show 9 < 12 by decide)) okL_n, okV_c (ok_r (show 9 < 12 by decide)) okV_n, c2⟩ ?_)))))
  refine hX _ _ _ _ _ _ ?_
  refine Exists.intro _ (And.intro rfl (And.intro (show 9 < 13 by decide) (And.intro rfl ?_)))
  have c3 : fd_clo (fd_sr (fd_alloc (fd_sr (fd_alloc (fd_sr (fd_alloc (10, H, R, L)) 9 1 (some 10))) 9 2 (some 11))) 9 3 (some 12)) := clo_sr (clo_al c2) (fun x e => by cases e; exact (show 12 < 13 by decide))
  refine hX _ _ _ _ _ _ ?_
  refine hX _ _ _ _ _ _ ?_
  refine hX _ _ _ _ _ _ ?_
  refine Exists.intro 60 (And.intro rfl (And.intro (by decide) (And.intro (by decide) (And.intro rfl (And.intro ⟨by decide, by decide, okL_c (ok_r (show 9 < 13 by decide)) okL_n, okV_c (ok_r (show 9 < 13 by decide)) okV_n, c3⟩ ?_)))))
  refine hX _ _ _ _ _ _ ?_
  refine Exists.intro _ (And.intro rfl (And.intro (show 9 < 14 by decide) (And.intro rfl ?_)))
  have c4 : fd_clo (fd_sr (fd_alloc (fd_sr (fd_alloc (fd_sr (fd_alloc (fd_sr (fd_alloc (10, H, R, L)) 9 1 (some 10))) 9 2 (some 11))) 9 3 (some 12))) 9 4 (some 13)) := clo_sr (clo_al c3) (fun x e => by cases e; exact (show 13 < 14 by decide))
  refine hX _ _ _ _ _ _ ?_
  refine hX _ _ _ _ _ _ ?_
  refine hX _ _ _ _ _ _ ?_
  refine Exists.intro 60 (And.intro rfl (And.intro (by decide) (And.intro (by decide) (And.intro rfl (And.intro ⟨by decide, by decide, okL_c (ok_r (show 9 < 14 by decide)) okL_n, okV_c (ok_r (show 9 < 14 by decide)) okV_n, c4⟩ ?_)))))
  refine hX _ _ _ _ _ _ ?_
  refine Exists.intro _ (And.intro rfl (And.intro (show 9 < 15 by decide) (And.intro rfl ?_)))
  have c5 : fd_clo (fd_sr (fd_alloc (fd_sr (fd_alloc (fd_sr (fd_alloc (fd_sr (fd_alloc (fd_sr (fd_alloc (10, H, R, L)) 9 1 (some 10))) 9 2 (some 11))) 9 3 (some 12))) 9 4 (some 13))) 9 5 (some 14)) := clo_sr (clo_al c4) (fun x e => by cases e; exact (show 14 < 15 by decide))
  refine hX _ _ _ _ _ _ ?_
  refine hX _ _ _ _ _ _ ?_
  refine hX _ _ _ _ _ _ ?_
  refine Exists.intro 4 (And.intro rfl (And.intro (by decide) (And.intro (by decide) (And.intro rfl (And.intro ⟨by decide, by decide, okL_c (ok_r (show 9 < 15 by decide)) okL_n, okV_c (ok_r (show 9 < 15 by decide)) okV_n, c5⟩ ?_)))))
  refine hX _ _ _ _ _ _ ?_
  refine Exists.intro _ (And.intro rfl (And.intro (show 9 < 16 by decide) (And.intro rfl ?_)))
  have c6 : fd_clo (fd_sr (fd_alloc (fd_sr (fd_alloc (fd_sr (fd_alloc (fd_sr (fd_alloc (fd_sr (fd_alloc (fd_sr (fd_alloc (10, H, R, L)) 9 1 (some 10))) 9 2 (some 11))) 9 3 (some 12))) 9 4 (some 13))) 9 5 (some 14))) 9 6 (some 15)) := clo_sr (clo_al c5) (fun x e => by cases e; exact (show 15 < 16 by decide))
  refine hX _ _ _ _ _ _ ?_
  refine hX _ _ _ _ _ _ ?_
  refine hX _ _ _ _ _ _ ?_
  refine Exists.intro 4 (And.intro rfl (And.intro (by decide) (And.intro (by decide) (And.intro rfl (And.intro ⟨by decide, by decide, okL_c (ok_r (show 9 < 16 by decide)) okL_n, okV_c (ok_r (show 9 < 16 by decide)) okV_n, c6⟩ ?_)))))
  refine hX _ _ _ _ _ _ ?_
  refine Exists.intro _ (And.intro rfl (And.intro (show 9 < 17 by decide) (And.intro rfl ?_)))
  have c7 : fd_clo (fd_sr (fd_alloc (fd_sr (fd_alloc (fd_sr (fd_alloc (fd_sr (fd_alloc (fd_sr (fd_alloc (fd_sr (fd_alloc (fd_sr (fd_alloc (10, H, R, L)) 9 1 (some 10))) 9 2 (some 11))) 9 3 (some 12))) 9 4 (some 13))) 9 5 (some 14))) 9 6 (some 15))) 9 7 (some 16)) := clo_sr (clo_al c6) (fun x e => by cases e; exact (show 16 < 17 by decide))
  refine hX _ _ _ _ _ _ ?_
  refine hX _ _ _ _ _ _ ?_
  refine hX _ _ _ _ _ _ ?_
  refine Exists.intro 4 (And.intro rfl (And.intro (by decide) (And.intro (by decide) (And.intro rfl (And.intro ⟨by decide, by decide, okL_c (ok_r (show 9 < 17 by decide)) okL_n, okV_c (ok_r (show 9 < 17 by decide)) okV_n, c7⟩ ?_)))))
  refine hX _ _ _ _ _ _ ?_
  refine Exists.intro _ (And.intro rfl (And.intro (show 9 < 18 by decide) (And.intro rfl ?_)))
  have c8 : fd_clo (fd_sr (fd_alloc (fd_sr (fd_alloc (fd_sr (fd_alloc (fd_sr (fd_alloc (fd_sr (fd_alloc (fd_sr (fd_alloc (fd_sr (fd_alloc (fd_sr (fd_alloc (10, H, R, L)) 9 1 (some 10))) 9 2 (some 11))) 9 3 (some 12))) 9 4 (some 13))) 9 5 (some 14))) 9 6 (some 15))) 9 7 (some 16))) 9 8 (some 17)) := clo_sr (clo_al c7) (fun x e => by cases e; exact (show 17 < 18 by decide))
  refine hX _ _ _ _ _ _ ?_
  refine hX _ _ _ _ _ _ ?_
  refine hX _ _ _ _ _ _ ?_
  refine Exists.intro 240 (And.intro rfl (And.intro (by decide) (And.intro (by decide) (And.intro rfl (And.intro ⟨by decide, by decide, okL_c (ok_r (show 9 < 18 by decide)) okL_n, okV_c (ok_r (show 9 < 18 by decide)) okV_n, c8⟩ ?_)))))
  refine hX _ _ _ _ _ _ ?_
  refine Exists.intro _ (And.intro rfl (And.intro (show 9 < 19 by decide) (And.intro rfl ?_)))
  have c9 : fd_clo (fd_sr (fd_alloc (fd_sr (fd_alloc (fd_sr (fd_alloc (fd_sr (fd_alloc (fd_sr (fd_alloc (fd_sr (fd_alloc (fd_sr (fd_alloc (fd_sr (fd_alloc (fd_sr (fd_alloc (10, H, R, L)) 9 1 (some 10))) 9 2 (some 11))) 9 3 (some 12))) 9 4 (some 13))) 9 5 (some 14))) 9 6 (some 15))) 9 7 (some 16))) 9 8 (some 17))) 9 9 (some 18)) := clo_sr (clo_al c8) (fun x e => by cases e; exact (show 18 < 19 by decide))
  refine hX _ _ _ _ _ _ ?_
  refine hX _ _ _ _ _ _ ?_
  refine hX _ _ _ _ _ _ ?_
  refine Exists.intro 60 (And.intro rfl (And.intro (by decide) (And.intro (by decide) (And.intro rfl (And.intro ⟨by decide, by decide, okL_c (ok_r (show 9 < 19 by decide)) okL_n, okV_c (ok_r (show 9 < 19 by decide)) okV_n, c9⟩ ?_)))))
  refine hX _ _ _ _ _ _ ?_
  refine Exists.intro _ (And.intro rfl (And.intro (show 9 < 20 by decide) (And.intro rfl ?_)))
  have c10 : fd_clo (fd_sr (fd_alloc (fd_sr (fd_alloc (fd_sr (fd_alloc (fd_sr (fd_alloc (fd_sr (fd_alloc (fd_sr (fd_alloc (fd_sr (fd_alloc (fd_sr (fd_alloc (fd_sr (fd_alloc (fd_sr (fd_alloc (10, H, R, L)) 9 1 (some 10))) 9 2 (some 11))) 9 3 (some 12))) 9 4 (some 13))) 9 5 (some 14))) 9 6 (some 15))) 9 7 (some 16))) 9 8 (some 17))) 9 9 (some 18))) 9 13 (some 19)) := clo_sr (clo_al c9) (fun x e => by cases e; exact (show 19 < 20 by decide))
  refine hX _ _ _ _ _ _ ?_
  refine h1 _ ⟨rfl, fun i j hi => ?_, fun i j hi => ?_, fun i j hi hi2 => ?_, fun i j hi => ?_, ⟨Nat.le_refl 20, rfl, rfl, rfl, rfl, rfl, rfl, rfl, rfl, rfl, rfl⟩, c10⟩
  · show (fd_u (fd_u0 (fd_u (fd_u0 (fd_u (fd_u0 (fd_u (fd_u0 (fd_u (fd_u0 (fd_u (fd_u0 (fd_u (fd_u0 (fd_u (fd_u0 (fd_u (fd_u0 (fd_u (fd_u0 R 10 none) 9 1 (some 10)) 11 none) 9 2 (some 11)) 12 none) 9 3 (some 12)) 13 none) 9 4 (some 13)) 14 none) 9 5 (some 14)) 15 none) 9 6 (some 15)) 16 none) 9 7 (some 16)) 17 none) 9 8 (some 17)) 18 none) 9 9 (some 18)) 19 none) 9 13 (some 19)) i j = _
    have h9 : i ≠ 9 := by omega
    have z : ∀ (f : Nat → Nat → Option Nat) (a : Nat), 10 ≤ a → fd_u0 f a none i j = f i j := fun f a h => if_neg (by omega)
    iterate 10 rw [fd_u_ne h9, z _ _ (by decide)]
  · show (fd_u0 (fd_u0 (fd_u0 (fd_u0 (fd_u0 (fd_u0 (fd_u0 (fd_u0 (fd_u0 (fd_u0 H 10 0) 11 0) 12 0) 13 0) 14 0) 15 0) 16 0) 17 0) 18 0) 19 0) i j = _
    unfold fd_u0
    repeat rw [if_neg (by omega)]
  · show (fd_u0 (fd_u0 (fd_u0 (fd_u0 (fd_u0 (fd_u0 (fd_u0 (fd_u0 (fd_u0 (fd_u0 H 10 0) 11 0) 12 0) 13 0) 14 0) 15 0) 16 0) 17 0) 18 0) 19 0) i j = _
    unfold fd_u0
    grind (splits := 20)
  · show (fd_u0 (fd_u0 (fd_u0 (fd_u0 (fd_u0 (fd_u0 (fd_u0 (fd_u0 (fd_u0 (fd_u0 L 10 0) 11 0) 12 0) 13 0) 14 0) 15 0) 16 0) 17 0) 18 0) 19 0) i j = _
    unfold fd_u0
    repeat rw [if_neg (by omega)]
end
section
/-! THE COUPLING: the deck's cells against the model's -/
def mm (σ : fd_S) (l : Nat) : Nat := (σ.2.1 17 l).toNatClampNeg
def CB (σ : fd_S) (n : Nat) : Prop := fd_B σ n ∧ Mb σ ∧ σ.1 = 20 + n ∧ σ.2.1 9 0 = nI n ∧ fd_clo σ
/-- what a vehicle is -/
def CV (σ : fd_S) (i : Nat) : Prop := kd σ i < 7 ∧ σ.2.1 10 i = nI (kd σ i) ∧ (10 ≤ σ.2.1 11 i ∧ σ.2.1 11 i ≤ 200) ∧ (0 ≤ σ.2.1 12 i ∧ σ.2.1 12 i ≤ 40000) ∧ σ.2.1 (20 + i) 0 = nI i ∧ σ.2.1 (20 + i) 1 = σ.2.1 10 i ∧ σ.2.1 (20 + i) 2 = σ.2.1 11 i ∧ σ.2.1 (20 + i) 3 = σ.2.1 12 i ∧ σ.2.1 (20 + i) 4 = qv σ 0 0 i ∧ σ.2.1 (20 + i) 5 = qv σ 1 0 i ∧ σ.2.1 (20 + i) 6 = qv σ 2 0 i ∧ σ.2.1 (20 + i) 7 = qv σ 4 0 i ∧ σ.2.1 (20 + i) 8 = qv σ 5 0 i
/-- where it is -/
def CD (σ : fd_S) (i : Nat) : Prop := σ.2.1 (20 + i) 9 = σ.2.1 13 i ∧ σ.2.1 (20 + i) 13 = σ.2.1 14 i ∧ (σ.2.1 13 i = 1 → ∃ l k, l < 4 ∧ k < mm σ l ∧ sv σ l k = i) ∧ (σ.2.1 13 i ≠ 1 → σ.2.1 (20 + i) 10 = -1 ∧ σ.2.1 (20 + i) 11 = -1)
/-- who stands k-th in lane l -/
def CS (σ : fd_S) (n l k : Nat) : Prop := σ.2.1 18 (60 * l + k) = nI (sv σ l k) ∧ sv σ l k < n ∧ σ.2.1 13 (sv σ l k) = 1 ∧ σ.2.1 (20 + sv σ l k) 10 = nI l ∧ σ.2.1 (20 + sv σ l k) 11 = nI k ∧ σ.2.2.1 (20 + sv σ l k) 12 = if k = 0 then none else some (20 + sv σ l (k - 1))
/-- a lane -/
def CL (σ : fd_S) (l : Nat) : Prop := mm σ l ≤ 60 ∧ σ.2.1 17 l = nI (mm σ l) ∧ σ.2.1 (5 + l) 6 = nI (mm σ l) ∧ σ.2.1 (5 + l) 0 = nI l ∧ σ.2.1 (5 + l) 1 = σ.2.1 15 l ∧ σ.2.1 (5 + l) 2 = σ.2.1 16 l ∧ σ.2.1 15 l - σ.2.1 (5 + l) 3 = sL σ l (mm σ l) ∧ σ.2.1 (5 + l) 4 = sM σ l (mm σ l) ∧ σ.2.1 (5 + l) 5 = sN σ l (mm σ l) ∧ (σ.2.2.1 (5 + l) 8 = if mm σ l = 0 then none else some (20 + sv σ l (mm σ l - 1))) ∧ (σ.2.2.1 (5 + l) 7 = if mm σ l = 0 then none else some (20 + sv σ l 0)) ∧ (∀ j, j ≠ 7 → j ≠ 8 → σ.2.2.1 (5 + l) j = none) ∧ (0 ≤ σ.2.1 16 l ∧ σ.2.1 16 l ≤ 200000) ∧ ∀ k, k ≤ mm σ l → 0 ≤ sM σ l k ∧ sM σ l k ≤ σ.2.1 16 l
def Core (σ : fd_S) (n : Nat) : Prop := CB σ n ∧ (∀ i, i < n → CV σ i) ∧ (∀ i, i < n → CD σ i) ∧ (∀ l k, l < 4 → k < mm σ l → CS σ n l k) ∧ ∀ l, l < 4 → CL σ l
/-- ints that the core does not look at -/
def J0 (i j : Nat) : Prop := (i = 0 ∧ (j = 4 ∨ j = 5)) ∨ (i = 9 ∧ 10 ≤ j) ∨ i = 3 ∨ i = 4 ∨ i = 19
section
variable {σ τ : fd_S}
theorem kd_c {i : Nat} (h : τ.2.1 10 i = σ.2.1 10 i) : kd τ i = kd σ i := by unfold kd; rw [h]
theorem qv_c {i : Nat} (h : τ.2.1 10 i = σ.2.1 10 i) (h1 : τ.2.1 11 i = σ.2.1 11 i) (h2 : τ.2.1 12 i = σ.2.1 12 i) (w : Nat) (s : Int32) : qv τ w s i = qv σ w s i := by unfold qv; rw [kd_c h, h1, h2]
theorem sv_c {l k : Nat} (h : τ.2.1 18 (60 * l + k) = σ.2.1 18 (60 * l + k)) : sv τ l k = sv σ l k := by unfold sv; rw [h]
theorem mm_c {l : Nat} (h : τ.2.1 17 l = σ.2.1 17 l) : mm τ l = mm σ l := by unfold mm; rw [h]
/-- the same m vehicles stand there, and answer the same -/
def W3 (σ τ : fd_S) (l m : Nat) : Prop := ∀ k, k < m → sv τ l k = sv σ l k ∧ ∀ w, qv τ w 0 (sv σ l k) = qv σ w 0 (sv σ l k)
theorem W3.le {l m k : Nat} (h : W3 σ τ l m) (hk : k ≤ m) : W3 σ τ l k := fun j hj => h j (Nat.lt_of_lt_of_le hj hk)
theorem sL_c {l : Nat} (h : τ.2.1 15 l = σ.2.1 15 l) : ∀ {m : Nat}, W3 σ τ l m → sL τ l m = sL σ l m
  | 0, _ => h
  | m + 1, hw => by simp only [sL]; rw [sL_c h (hw.le (Nat.le_succ m)), (hw m (Nat.lt_succ_self m)).1, (hw m (Nat.lt_succ_self m)).2 0]
theorem sM_c {l : Nat} : ∀ {m : Nat}, W3 σ τ l m → sM τ l m = sM σ l m
  | 0, _ => rfl
  | m + 1, hw => by simp only [sM]; rw [sM_c (hw.le (Nat.le_succ m)), (hw m (Nat.lt_succ_self m)).1, (hw m (Nat.lt_succ_self m)).2 1]
theorem sN_c {l : Nat} : ∀ {m : Nat}, W3 σ τ l m → sN τ l m = sN σ l m
  | 0, _ => rfl
  | m + 1, hw => by simp only [sN]; rw [sN_c (hw.le (Nat.le_succ m)), (hw m (Nat.lt_succ_self m)).1, (hw m (Nat.lt_succ_self m)).2 2]
theorem CB_c {n : Nat} (h1 : τ.1 = σ.1) (h2 : τ.2.2.1 = σ.2.2.1) (h3 : τ.2.1 0 1 = σ.2.1 0 1) (h4 : τ.2.1 9 0 = σ.2.1 9 0) (h : CB σ n) : CB τ n := by
  unfold CB fd_B Mb fd_clo at *
  rw [h1, h2, h3, h4]
  exact h
theorem CV_c {i : Nat} (h0 : τ.2.1 10 i = σ.2.1 10 i) (h1 : τ.2.1 11 i = σ.2.1 11 i) (h2 : τ.2.1 12 i = σ.2.1 12 i) (h3 : ∀ j, j < 9 → τ.2.1 (20 + i) j = σ.2.1 (20 + i) j) (h : CV σ i) : CV τ i := by
  unfold CV at *
  simp only [qv_c h0 h1 h2, kd_c h0, h0, h1, h2, h3 0 (by decide), h3 1 (by decide), h3 2 (by decide), h3 3 (by decide), h3 4 (by decide), h3 5 (by decide), h3 6 (by decide), h3 7 (by decide), h3 8 (by decide)]
  exact h
theorem CD_c {i : Nat} (h9 : τ.2.1 (20 + i) 9 = σ.2.1 (20 + i) 9) (h10 : τ.2.1 (20 + i) 10 = σ.2.1 (20 + i) 10) (h11 : τ.2.1 (20 + i) 11 = σ.2.1 (20 + i) 11) (hp : τ.2.1 (20 + i) 13 = τ.2.1 14 i) (h13 : τ.2.1 13 i = σ.2.1 13 i) (hw : ∀ l k, l < 4 → k < mm σ l → sv σ l k = i → k < mm τ l ∧ sv τ l k = i) (h : CD σ i) : CD τ i := by
  refine ⟨by rw [h9, h13]; exact h.1, hp, fun q => ?_, fun q => ?_⟩
  · rw [h13] at q
    obtain ⟨l, k, a, b, c⟩ := h.2.2.1 q
    exact ⟨l, k, a, (hw l k a b c).1, (hw l k a b c).2⟩
  · rw [h13] at q
    rw [h10, h11]
    exact h.2.2.2 q
theorem CS_c {n n' l k : Nat} (h18 : ∀ j, j ≤ k → τ.2.1 18 (60 * l + j) = σ.2.1 18 (60 * l + j)) (h13 : τ.2.1 13 (sv σ l k) = σ.2.1 13 (sv σ l k)) (h10 : τ.2.1 (20 + sv σ l k) 10 = σ.2.1 (20 + sv σ l k) 10) (h11 : τ.2.1 (20 + sv σ l k) 11 = σ.2.1 (20 + sv σ l k) 11) (h12 : τ.2.2.1 (20 + sv σ l k) 12 = σ.2.2.1 (20 + sv σ l k) 12) (hn : n ≤ n') (h : CS σ n l k) : CS τ n' l k := by
  unfold CS at *
  rw [sv_c (h18 k (Nat.le_refl k)), sv_c (h18 (k - 1) (Nat.sub_le k 1)), h18 k (Nat.le_refl k), h13, h10, h11, h12]
  exact ⟨h.1, Nat.lt_of_lt_of_le h.2.1 hn, h.2.2⟩
theorem CL_c {l : Nat} (h15 : τ.2.1 15 l = σ.2.1 15 l) (h16 : τ.2.1 16 l = σ.2.1 16 l) (h17 : τ.2.1 17 l = σ.2.1 17 l) (hw : W3 σ τ l (mm σ l)) (h5 : ∀ j, τ.2.1 (5 + l) j = σ.2.1 (5 + l) j) (hr : ∀ j, τ.2.2.1 (5 + l) j = σ.2.2.1 (5 + l) j) (h : CL σ l) : CL τ l := by
  have e1 : mm σ l ≠ 0 → sv τ l (mm σ l - 1) = sv σ l (mm σ l - 1) := fun q => (hw _ (by omega)).1
  have e2 : mm σ l ≠ 0 → sv τ l 0 = sv σ l 0 := fun q => (hw _ (by omega)).1
  obtain ⟨a1, a2, a3, a4, a5, a6, a7, a8, a9, a10, a11, a12, a13, a14⟩ := h
  unfold CL
  rw [mm_c h17, h17, h15, h16, sL_c h15 hw, sM_c hw, sN_c hw]
  simp only [h5, hr]
  refine ⟨a1, a2, a3, a4, a5, a6, a7, a8, a9, ?_, ?_, a12, a13, fun k hk => ?_⟩
  · rw [a10]
    by_cases q : mm σ l = 0
    · rw [if_pos q, if_pos q]
    · rw [if_neg q, if_neg q, e1 q]
  · rw [a11]
    by_cases q : mm σ l = 0
    · rw [if_pos q, if_pos q]
    · rw [if_neg q, if_neg q, e2 q]
  · rw [sM_c (hw.le hk)]
    exact a14 k hk
theorem Core_p {n : Nat} (h1 : τ.1 = σ.1) (h2 : τ.2.2.1 = σ.2.2.1) (h3 : ∀ i j, ¬ J0 i j → i ≠ 14 → ¬ (20 ≤ i ∧ j = 13) → τ.2.1 i j = σ.2.1 i j) (hp : ∀ i, i < n → τ.2.1 (20 + i) 13 = τ.2.1 14 i) (h : Core σ n) : Core τ n := by
  have j1 : ∀ i j, 5 ≤ i → i < 9 → τ.2.1 i j = σ.2.1 i j := fun i j a b => h3 i j (fun q => by unfold J0 at q; omega) (by omega) (by omega)
  have j2 : ∀ i j, 10 ≤ i → i < 19 → i ≠ 14 → τ.2.1 i j = σ.2.1 i j := fun i j a b c => h3 i j (fun q => by unfold J0 at q; omega) c (by omega)
  have j3 : ∀ i j, 20 ≤ i → j ≠ 13 → τ.2.1 i j = σ.2.1 i j := fun i j a c => h3 i j (fun q => by unfold J0 at q; omega) (by omega) (by omega)
  have j10 := fun j => j2 10 j (by decide) (by decide) (by decide)
  have j11 := fun j => j2 11 j (by decide) (by decide) (by decide)
  have j12 := fun j => j2 12 j (by decide) (by decide) (by decide)
  have j13 := fun j => j2 13 j (by decide) (by decide) (by decide)
  have j15 := fun j => j2 15 j (by decide) (by decide) (by decide)
  have j16 := fun j => j2 16 j (by decide) (by decide) (by decide)
  have j17 := fun j => j2 17 j (by decide) (by decide) (by decide)
  have j18 := fun j => j2 18 j (by decide) (by decide) (by decide)
  have jv := fun i j (hj : j ≠ 13) => j3 (20 + i) j (by omega) hj
  obtain ⟨c1, c2, c3, c4, c5⟩ := h
  refine ⟨CB_c h1 h2 (h3 0 1 (fun q => by unfold J0 at q; omega) (by decide) (by decide)) (h3 9 0 (fun q => by unfold J0 at q; omega) (by decide) (by decide)) c1, fun i hi => CV_c (j10 i) (j11 i) (j12 i) (fun j hj => jv i j (by omega)) (c2 i hi), fun i hi => ?_, fun l k hl hk => ?_, fun l hl => ?_⟩
  · refine CD_c (jv i 9 (by decide)) (jv i 10 (by decide)) (jv i 11 (by decide)) (hp i hi) (j13 i) (fun l k _ b c => ⟨by rw [mm_c (j17 l)]; exact b, by rw [sv_c (j18 _)]; exact c⟩) (c3 i hi)
  · rw [mm_c (j17 l)] at hk
    exact CS_c (fun j _ => j18 _) (j13 _) (jv _ 10 (by decide)) (jv _ 11 (by decide)) (by rw [h2]) (Nat.le_refl n) (c4 l k hl hk)
  · exact CL_c (j15 l) (j16 l) (j17 l) (fun k _ => ⟨sv_c (j18 _), fun w => qv_c (j10 _) (j11 _) (j12 _) w 0⟩) (fun j => j1 (5 + l) j (by omega) (by omega)) (fun j => by rw [h2]) (c5 l hl)
theorem Core_c {n : Nat} (h1 : τ.1 = σ.1) (h2 : τ.2.2.1 = σ.2.2.1) (h3 : ∀ i j, ¬ J0 i j → τ.2.1 i j = σ.2.1 i j) (h : Core σ n) : Core τ n :=
  Core_p h1 h2 (fun i j a _ _ => h3 i j a) (fun i hi => by
    rw [h3 (20 + i) 13 (fun q => by unfold J0 at q; omega), h3 14 i (fun q => by unfold J0 at q; omega)]
    exact (h.2.2.1 i hi).2.1) h
end
section
variable {σ : fd_S} {n : Nat}
theorem Core.N (h : Core σ n) : σ.1 = 20 + n := h.1.2.2.1
theorem Core.n60 (h : Core σ n) : n ≤ 60 := h.1.1.2.2.1
theorem Core.inj (h : Core σ n) {l k l' k' : Nat} (hl : l < 4) (hk : k < mm σ l) (hl' : l' < 4) (hk' : k' < mm σ l') (e : sv σ l k = sv σ l' k') : l = l' ∧ k = k' := by
  have a := h.2.2.2.1 l k hl hk
  have b := h.2.2.2.1 l' k' hl' hk'
  have m1 := (h.2.2.2.2 l hl).1
  have m2 := (h.2.2.2.2 l' hl').1
  have a1 := a.2.2.2.1
  have a2 := a.2.2.2.2.1
  rw [e, b.2.2.2.1, nI_eq (by omega) (by omega)] at a1
  rw [e, b.2.2.2.2.1, nI_eq (by omega) (by omega)] at a2
  exact ⟨a1.symm, a2.symm⟩
theorem Core.Vi (h : Core σ n) {i : Nat} (hi : i < n) : Vi σ i := ⟨Nat.lt_of_lt_of_le hi h.n60, (h.2.1 i hi).1, (h.2.1 i hi).2.1⟩
theorem Core.Vs (h : Core σ n) {l : Nat} (hl : l < 4) : Vs σ l (mm σ l) := ⟨(h.2.2.2.2 l hl).1, (h.2.2.2.2 l hl).2.1, fun k hk => ⟨(h.2.2.2.1 l k hl hk).1, h.Vi (h.2.2.2.1 l k hl hk).2.1⟩⟩
theorem Core.fl (h : Core σ n) : ∀ l, l < 4 → ∀ j, ∀ a, σ.2.2.1 (5 + l) j = some a → a < σ.1 ∧ fd_sh a = .inl 2 := by
  intro l hl j a ha
  obtain ⟨a1, a2, a3, a4, a5, a6, a7, a8, a9, a10, a11, a12, a13, a14⟩ := h.2.2.2.2 l hl
  rw [h.N]
  by_cases h8 : j = 8
  · subst h8
    rw [a10] at ha
    by_cases hm : mm σ l = 0
    · rw [if_pos hm] at ha; cases ha
    · rw [if_neg hm] at ha; cases ha
      have := (h.2.2.2.1 l (mm σ l - 1) hl (by omega)).2.1
      exact ⟨by omega, fd_shV _⟩
  · by_cases h7 : j = 7
    · subst h7
      rw [a11] at ha
      by_cases hm : mm σ l = 0
      · rw [if_pos hm] at ha; cases ha
      · rw [if_neg hm] at ha; cases ha
        have := (h.2.2.2.1 l 0 hl (by omega)).2.1
        exact ⟨by omega, fd_shV _⟩
    · rw [a12 j h7 h8] at ha; cases ha
end
end
section
/-! one vehicle less in lane l: it becomes z -/
def pop (σ : fd_S) (l : Nat) (z : Int32) : fd_S := fd_si (fd_si (rl_s σ (5 + l) (20 + sv σ l (mm σ l - 1)) z) 17 l (nI (mm σ l - 1))) 13 (sv σ l (mm σ l - 1)) z
theorem CB_d {σ τ : fd_S} {n : Nat} (h1 : τ.1 = σ.1) (h2 : ∀ i j, i < 4 ∨ i = 9 → τ.2.2.1 i j = σ.2.2.1 i j) (hc : fd_clo τ) (h3 : τ.2.1 0 1 = σ.2.1 0 1) (h4 : τ.2.1 9 0 = σ.2.1 9 0) (h : CB σ n) : CB τ n := by
  obtain ⟨b, m, a, c, d⟩ := h
  unfold CB fd_B Mb at *
  simp only [h1, h2 0 _ (Or.inl (by decide)), h2 1 _ (Or.inl (by decide)), h2 2 _ (Or.inl (by decide)), h2 3 _ (Or.inl (by decide)), h2 9 _ (Or.inr rfl), h3, h4]
  exact ⟨b, m, a, c, hc⟩
set_option maxHeartbeats 1000000 in
theorem Core_pop {σ : fd_S} {n l : Nat} {z : Int32} (h : Core σ n) (hl : l < 4) (hm : 0 < mm σ l) (hz : z ≠ 1) : Core (pop σ l z) n := by
  obtain ⟨m, em⟩ : ∃ m, mm σ l = m + 1 := ⟨mm σ l - 1, by omega⟩
  have inj := fun {l k l' k' : Nat} => Core.inj h (l := l) (k := k) (l' := l') (k' := k')
  obtain ⟨c1, c2, c3, c4, c5⟩ := id h
  have ST := c4 l m hl (by omega)
  obtain ⟨a1, a2, a3, a4, a5, a6, a7, a8, a9, a10, a11, a12, a13, a14⟩ := c5 l hl
  rw [em] at a1 a2 a3 a7 a8 a9 a10 a11 a14
  obtain ⟨s1, s2, s3, s4, s5, s6⟩ := ST
  have hN := h.N
  have pp : pop σ l z = fd_si (fd_si (rl_s σ (5 + l) (20 + sv σ l m) z) 17 l (nI m)) 13 (sv σ l m) z := by unfold pop; rw [em]; rfl
  rw [pp]
  generalize ei : sv σ l m = i0 at *
  have f1 : ∀ a j, a ≠ 13 → a ≠ 17 → a ≠ 20 + i0 → a ≠ 5 + l → (fd_si (fd_si (rl_s σ (5 + l) (20 + i0) z) 17 l (nI m)) 13 i0 z).2.1 a j = σ.2.1 a j := by
    intro a j b1 b2 b3 b4
    rw [si_ne b1, si_ne b2]
    show (if a = 20 + i0 then _ else if a = 5 + l then _ else σ.2.1 a j) = _
    rw [if_neg b3, if_neg b4]
  have f13 : (fd_si (fd_si (rl_s σ (5 + l) (20 + i0) z) 17 l (nI m)) 13 i0 z).2.1 13 i0 = z := si_eq
  have f13' : ∀ j, j ≠ i0 → (fd_si (fd_si (rl_s σ (5 + l) (20 + i0) z) 17 l (nI m)) 13 i0 z).2.1 13 j = σ.2.1 13 j := by
    intro j hj
    rw [si_ne2 hj, si_ne (by decide)]
    show (if 13 = 20 + i0 then _ else if 13 = 5 + l then _ else σ.2.1 13 j) = _
    rw [if_neg (by omega), if_neg (by omega)]
  have f17 : (fd_si (fd_si (rl_s σ (5 + l) (20 + i0) z) 17 l (nI m)) 13 i0 z).2.1 17 l = nI m := by
    rw [si_ne (by decide)]; exact si_eq
  have f17' : ∀ j, j ≠ l → (fd_si (fd_si (rl_s σ (5 + l) (20 + i0) z) 17 l (nI m)) 13 i0 z).2.1 17 j = σ.2.1 17 j := by
    intro j hj
    rw [si_ne (by decide), si_ne2 hj]
    show (if 17 = 20 + i0 then _ else if 17 = 5 + l then _ else σ.2.1 17 j) = _
    rw [if_neg (by omega), if_neg (by omega)]
  have fv : ∀ j, (fd_si (fd_si (rl_s σ (5 + l) (20 + i0) z) 17 l (nI m)) 13 i0 z).2.1 (20 + i0) j = if j = 9 then z else if j = 10 then -1 else if j = 11 then -1 else σ.2.1 (20 + i0) j := by
    intro j
    rw [si_ne (by omega), si_ne (by omega)]
    show (if 20 + i0 = 20 + i0 then _ else _) = _
    rw [if_pos rfl]
  have fl : ∀ j, (fd_si (fd_si (rl_s σ (5 + l) (20 + i0) z) 17 l (nI m)) 13 i0 z).2.1 (5 + l) j = if j = 6 then σ.2.1 (5 + l) 6 - 1 else if j = 3 then σ.2.1 (5 + l) 3 - (σ.2.1 (20 + i0) 4 + 5) else if j = 4 then σ.2.1 (5 + l) 4 - σ.2.1 (20 + i0) 5 else if j = 5 then σ.2.1 (5 + l) 5 - σ.2.1 (20 + i0) 6 else σ.2.1 (5 + l) j := by
    intro j
    rw [si_ne (by omega), si_ne (by omega)]
    show (if 5 + l = 20 + i0 then _ else if 5 + l = 5 + l then _ else _) = _
    rw [if_neg (by omega), if_pos rfl]
  have g : ∀ i j, (fd_si (fd_si (rl_s σ (5 + l) (20 + i0) z) 17 l (nI m)) 13 i0 z).2.2.1 i j = if i = 20 + i0 then (if j = 12 then none else σ.2.2.1 (20 + i0) j) else if i = 5 + l then (if j = 8 then σ.2.2.1 (20 + i0) 12 else if j = 7 then (if σ.2.2.1 (20 + i0) 12 = none then none else σ.2.2.1 (5 + l) 7) else σ.2.2.1 (5 + l) j) else σ.2.2.1 i j := fun _ _ => rfl
  have gN : (fd_si (fd_si (rl_s σ (5 + l) (20 + i0) z) 17 l (nI m)) 13 i0 z).1 = σ.1 := rfl
  generalize fd_si (fd_si (rl_s σ (5 + l) (20 + i0) z) 17 l (nI m)) 13 i0 z = ρ at *
  have m0 : mm ρ l = m := by unfold mm; rw [f17]; exact nI_clamp (by omega)
  have m1 : ∀ l', l' ≠ l → mm ρ l' = mm σ l' := fun l' q => mm_c (f17' l' q)
  have hsv : ∀ l' k, sv ρ l' k = sv σ l' k := fun l' k => sv_c (f1 18 _ (by decide) (by decide) (by omega) (by omega))
  have hqv : ∀ w s i, qv ρ w s i = qv σ w s i := fun w s i => qv_c (f1 10 _ (by decide) (by decide) (by omega) (by omega)) (f1 11 _ (by decide) (by decide) (by omega) (by omega)) (f1 12 _ (by decide) (by decide) (by omega) (by omega)) w s
  have hW : ∀ l' k, W3 σ ρ l' k := fun l' k j _ => ⟨hsv l' j, fun w => hqv w 0 _⟩
  have hv0 := c2 i0 s2
  obtain ⟨v1, v2, v3, v4, v5, v6, v7, v8, v9, v10, v11, v12, v13⟩ := id hv0
  refine ⟨CB_d gN (fun i j hi => ?_) (fun i j x hx => ?_) (f1 0 1 (by decide) (by decide) (by omega) (by omega)) (f1 9 0 (by decide) (by decide) (by omega) (by omega)) c1, fun i hi => ?_, fun i hi => ?_, fun l' k hl' hk => ?_, fun l' hl' => ?_⟩
  · rw [g, if_neg (by omega), if_neg (by omega)]
  · rw [g] at hx
    rw [gN]
    have hclo := c1.2.2.2.2
    by_cases q1 : i = 20 + i0
    · rw [if_pos q1] at hx
      by_cases q2 : j = 12
      · rw [if_pos q2] at hx; cases hx
      · rw [if_neg q2] at hx; exact hclo _ _ _ hx
    · rw [if_neg q1] at hx
      by_cases q2 : i = 5 + l
      · rw [if_pos q2] at hx
        by_cases q3 : j = 8
        · rw [if_pos q3] at hx; exact hclo _ _ _ hx
        · rw [if_neg q3] at hx
          by_cases q4 : j = 7
          · rw [if_pos q4] at hx
            by_cases q5 : σ.2.2.1 (20 + i0) 12 = none
            · rw [if_pos q5] at hx; cases hx
            · rw [if_neg q5] at hx; exact hclo _ _ _ hx
          · rw [if_neg q4] at hx; exact hclo _ _ _ hx
      · rw [if_neg q2] at hx; exact hclo _ _ _ hx
  · by_cases hi0 : i = i0
    · subst hi0
      refine CV_c (f1 10 _ (by decide) (by decide) (by omega) (by omega)) (f1 11 _ (by decide) (by decide) (by omega) (by omega)) (f1 12 _ (by decide) (by decide) (by omega) (by omega)) (fun j hj => ?_) (c2 i hi)
      rw [fv, if_neg (by omega), if_neg (by omega), if_neg (by omega)]
    · exact CV_c (f1 10 _ (by decide) (by decide) (by omega) (by omega)) (f1 11 _ (by decide) (by decide) (by omega) (by omega)) (f1 12 _ (by decide) (by decide) (by omega) (by omega)) (fun j hj => f1 (20 + i) j (by omega) (by omega) (by omega) (by omega)) (c2 i hi)
  · by_cases hi0 : i = i0
    · subst hi0
      refine ⟨?_, ?_, fun q => absurd (f13.symm.trans q) hz, fun _ => ⟨?_, ?_⟩⟩
      · rw [fv, f13, if_pos rfl]
      · rw [fv, if_neg (by decide), if_neg (by decide), if_neg (by decide), f1 14 _ (by decide) (by decide) (by omega) (by omega)]
        exact (c3 i hi).2.1
      · rw [fv, if_neg (by decide), if_pos rfl]
      · rw [fv, if_neg (by decide), if_neg (by decide), if_pos rfl]
    · have fi : ∀ j, ρ.2.1 (20 + i) j = σ.2.1 (20 + i) j := fun j => f1 (20 + i) j (by omega) (by omega) (by omega) (by omega)
      refine CD_c (fi 9) (fi 10) (fi 11) (by rw [fi, f1 14 _ (by decide) (by decide) (by omega) (by omega)]; exact (c3 i hi).2.1) (f13' i hi0) (fun l' k b1 b2 b3 => ?_) (c3 i hi)
      refine ⟨?_, by rw [hsv]; exact b3⟩
      by_cases q : l' = l
      · subst q
        rw [m0]
        have : k ≠ m := fun e => by subst e; exact hi0 (b3.symm.trans ei)
        omega
      · rw [m1 l' q]; exact b2
  · have hk' : k < mm σ l' ∧ sv σ l' k ≠ i0 := by
      by_cases q : l' = l
      · subst q
        rw [m0] at hk
        refine ⟨by omega, fun e => ?_⟩
        have := inj hl (k := k) (by omega) hl (k' := m) (by omega) (e.trans ei.symm)
        omega
      · rw [m1 l' q] at hk
        refine ⟨hk, fun e => ?_⟩
        exact q (inj hl' hk hl (k' := m) (by omega) (e.trans ei.symm)).1
    refine CS_c (fun j _ => f1 18 _ (by decide) (by decide) (by omega) (by omega)) (f13' _ hk'.2) (f1 _ 10 (by omega) (by omega) (by omega) (by omega)) (f1 _ 11 (by omega) (by omega) (by omega) (by omega)) ?_ (Nat.le_refl n) (c4 l' k hl' hk'.1)
    rw [g, if_neg (by omega), if_neg (by omega)]
  · by_cases q : l' = l
    · subst q
      have r12 : σ.2.2.1 (20 + i0) 12 = if m = 0 then none else some (20 + sv σ l' (m - 1)) := s6
      refine ⟨by omega, by rw [m0]; exact f17, ?_, ?_, ?_, ?_, ?_, ?_, ?_, ?_, ?_, ?_, ?_, ?_⟩
      · rw [m0, fl, if_pos rfl, a3]; exact nI_pred m
      · rw [fl, if_neg (by decide), if_neg (by decide), if_neg (by decide), if_neg (by decide)]; exact a4
      · rw [fl, if_neg (by decide), if_neg (by decide), if_neg (by decide), if_neg (by decide), f1 15 _ (by decide) (by decide) (by omega) (by omega)]; exact a5
      · rw [fl, if_neg (by decide), if_neg (by decide), if_neg (by decide), if_neg (by decide), f1 16 _ (by decide) (by decide) (by omega) (by omega)]; exact a6
      · have e7 : sL σ l' (m + 1) = sL σ l' m - (qv σ 0 0 i0 + 5) := by simp only [sL]; rw [ei]
        rw [m0, fl, if_neg (by decide), if_pos rfl, sL_c (f1 15 _ (by decide) (by decide) (by omega) (by omega)) (hW l' m), f1 15 _ (by decide) (by decide) (by omega) (by omega), v9]
        rw [e7] at a7
        grind
      · have e8 : sM σ l' (m + 1) = sM σ l' m + qv σ 1 0 i0 := by simp only [sM]; rw [ei]
        rw [m0, fl, if_neg (by decide), if_neg (by decide), if_pos rfl, sM_c (hW l' m), v10, a8, e8]
        grind
      · have e9 : sN σ l' (m + 1) = sN σ l' m + qv σ 2 0 i0 := by simp only [sN]; rw [ei]
        rw [m0, fl, if_neg (by decide), if_neg (by decide), if_neg (by decide), if_pos rfl, sN_c (hW l' m), v11, a9, e9]
        grind
      · rw [m0, g, if_neg (by omega), if_pos rfl, if_pos rfl, r12, hsv]
      · rw [m0, g, if_neg (by omega), if_pos rfl, if_neg (by decide), if_pos rfl, r12, hsv, a11]
        by_cases q : m = 0
        · simp [q]
        · simp [q]
      · intro j h7 h8
        rw [g, if_neg (by omega), if_pos rfl, if_neg h8, if_neg h7]
        exact a12 j h7 h8
      · rw [f1 16 _ (by decide) (by decide) (by omega) (by omega)]; exact a13
      · intro k hk
        rw [m0] at hk
        rw [sM_c (hW l' k), f1 16 _ (by decide) (by decide) (by omega) (by omega)]
        exact a14 k (by omega)
    · exact CL_c (f1 15 _ (by decide) (by decide) (by omega) (by omega)) (f1 16 _ (by decide) (by decide) (by omega) (by omega)) (f17' l' q) (hW l' _) (fun j => f1 (5 + l') j (by omega) (by omega) (by omega) (by omega)) (fun j => by rw [g, if_neg (by omega), if_neg (by omega)]) (c5 l' hl')
end
section
/-! what the answers come to, for vehicles that may be -/
theorem nI_n3 {x : Nat} (h : x < 2 ^ 31) : ¬ nI x = -3 := by
  intro e
  have := nI_toInt h
  rw [e] at this
  have h2 : (-3 : Int32).toInt = -3 := by decide
  omega
theorem cv_nat {σ : fd_S} {i : Nat} (h : CV σ i) : ∃ a b, 10 ≤ a ∧ a ≤ 200 ∧ b ≤ 40000 ∧ σ.2.1 11 i = nI a ∧ σ.2.1 12 i = nI b := by
  obtain ⟨_, _, ⟨h1, h2⟩, ⟨h3, h4⟩, _⟩ := h
  obtain ⟨a, ha, ea⟩ := nI_of2 (M := 200) (n := 200) (by decide) (i32_nlt.mpr (Int32.le_trans (by decide) h1)) h2
  obtain ⟨b, hb, eb⟩ := nI_of2 (M := 40000) (n := 40000) (by decide) (i32_nlt.mpr h3) h4
  refine ⟨a, b, ?_, ha, hb, ea, eb⟩
  have h1 : nI 10 ≤ σ.2.1 11 i := h1
  rw [ea, nI_leI (by omega) (by omega)] at h1
  exact h1
theorem q_mass {σ : fd_S} {i : Nat} (h : CV σ i) : ∃ M, M ≤ 60000 ∧ qv σ 1 0 i = nI M := by
  obtain ⟨a, b, ha, ha2, hb, ea, eb⟩ := cv_nat h
  have hk := h.1
  unfold qv
  rw [ea, eb]
  generalize kd σ i = k at hk
  match k, hk with
  | 0, _ => exact ⟨1200 + b, by omega, by rw [av_1_0]; exact nI_add 1200 b⟩
  | 1, _ => exact ⟨1200 + b + 800, by omega, by rw [av_1_1]; show nI 1200 + nI b + nI 800 = _; rw [nI_add, nI_add]⟩
  | 2, _ => exact ⟨1200 + b + 800, by omega, by rw [av_1_2]; show nI 1200 + nI b + nI 800 = _; rw [nI_add, nI_add]⟩
  | 3, _ => exact ⟨1200 + b + 800 + b / 4, by omega, by rw [av_1_3]; show nI 1200 + nI b + nI 800 + nI b / nI 4 = _; rw [nI_add, nI_add, pk_div (by omega) (by decide) (by decide), nI_add]⟩
  | 4, _ => exact ⟨1200 + b + 800 + b / 4, by omega, by rw [av_1_4]; show nI 1200 + nI b + nI 800 + nI b / nI 4 = _; rw [nI_add, nI_add, pk_div (by omega) (by decide) (by decide), nI_add]⟩
  | 5, _ => exact ⟨1200 + b, by omega, by rw [av_1_5]; exact nI_add 1200 b⟩
  | 6, _ => exact ⟨1200 + b + 9000, by omega, by rw [av_1_6]; show nI 1200 + nI b + nI 9000 = _; rw [nI_add, nI_add]⟩
theorem q_toll {σ : fd_S} {i : Nat} (h : CV σ i) : qv σ 4 0 i = -3 ↔ hvy (kd σ i) = false := by
  obtain ⟨a, b, ha, ha2, hb, ea, eb⟩ := cv_nat h
  have hk := h.1
  unfold qv
  rw [ea, eb]
  generalize kd σ i = k at hk
  match k, hk with
  | 0, _ => rw [av_4_0]; decide
  | 1, _ => rw [av_4_1]; decide
  | 5, _ => rw [av_4_5]; decide
  | 2, _ =>
    rw [av_4_2]
    have e : (nI 1200 + nI b + nI 800) / nI 200 = nI ((1200 + b + 800) / 200) := by rw [nI_add, nI_add, pk_div (by omega) (by decide) (by decide)]
    refine ⟨fun q => absurd (e.symm.trans q) (nI_n3 (by omega)), fun q => absurd q (by decide)⟩
  | 3, _ =>
    rw [av_4_3]
    have e : (nI 1200 + nI b + nI 800 + nI b / nI 4) / nI 100 + nI 300 = nI ((1200 + b + 800 + b / 4) / 100 + 300) := by rw [nI_add, nI_add, pk_div (by omega) (by decide) (by decide), nI_add, pk_div (by omega) (by decide) (by decide), nI_add]
    refine ⟨fun q => absurd (e.symm.trans q) (nI_n3 (by omega)), fun q => absurd q (by decide)⟩
  | 4, _ =>
    rw [av_4_4]
    have e : (nI 1200 + nI b + nI 800 + nI b / nI 4) / nI 100 + nI 300 = nI ((1200 + b + 800 + b / 4) / 100 + 300) := by rw [nI_add, nI_add, pk_div (by omega) (by decide) (by decide), nI_add, pk_div (by omega) (by decide) (by decide), nI_add]
    refine ⟨fun q => absurd (e.symm.trans q) (nI_n3 (by omega)), fun q => absurd q (by decide)⟩
  | 6, _ =>
    rw [av_4_6]
    have e : (nI 1200 + nI b + nI 9000) / nI 200 = nI ((1200 + b + 9000) / 200) := by rw [nI_add, nI_add, pk_div (by omega) (by decide) (by decide)]
    refine ⟨fun q => absurd (e.symm.trans q) (nI_n3 (by omega)), fun q => absurd q (by decide)⟩
theorem q_dang {σ : fd_S} {i : Nat} (h : CV σ i) : qv σ 5 0 i = -3 ↔ mrk (kd σ i) = false := by
  obtain ⟨a, b, ha, ha2, hb, ea, eb⟩ := cv_nat h
  have hk := h.1
  unfold qv
  rw [ea, eb]
  generalize kd σ i = k at hk
  match k, hk with
  | 0, _ => rw [av_5_0]; decide
  | 1, _ => rw [av_5_1]; decide
  | 2, _ => rw [av_5_2]; decide
  | 3, _ =>
    rw [av_5_3]
    have e : nI 1 + (nI 1 + (nI a + nI 10) / nI 50) / nI 4 = nI (1 + (1 + (a + 10) / 50) / 4) := by rw [nI_add, pk_div (by omega) (by decide) (by decide), nI_add, pk_div (by omega) (by decide) (by decide), nI_add]
    refine ⟨fun q => absurd (e.symm.trans q) (nI_n3 (by omega)), fun q => absurd q (by decide)⟩
  | 4, _ =>
    rw [av_5_4]
    have e : nI 1 + (nI 1 + (nI 2 * (nI a + nI 10)) / nI 50 + nI 6) / nI 4 = nI (1 + (1 + (2 * (a + 10)) / 50 + 6) / 4) := by rw [nI_add, pk_mul, pk_div (by omega) (by decide) (by decide), nI_add, nI_add, pk_div (by omega) (by decide) (by decide), nI_add]
    refine ⟨fun q => absurd (e.symm.trans q) (nI_n3 (by omega)), fun q => absurd q (by decide)⟩
  | 5, _ =>
    rw [av_5_5]
    have e : nI 1 + (nI 1 + nI a / nI 50) / nI 4 = nI (1 + (1 + a / 50) / 4) := by rw [pk_div (by omega) (by decide) (by decide), nI_add, pk_div (by omega) (by decide) (by decide), nI_add]
    refine ⟨fun q => absurd (e.symm.trans q) (nI_n3 (by omega)), fun q => absurd q (by decide)⟩
  | 6, _ =>
    rw [av_5_6]
    have e : nI 2 + (nI a + nI 5) / nI 100 = nI (2 + (a + 5) / 100) := by rw [nI_add, pk_div (by omega) (by decide) (by decide), nI_add]
    refine ⟨fun q => absurd (e.symm.trans q) (nI_n3 (by omega)), fun q => absurd q (by decide)⟩
/-! one vehicle more in lane l -/
def push (σ : fd_S) (l i : Nat) : fd_S := fd_si (fd_si (fd_si (ap_s σ (5 + l) (20 + i)) 18 (60 * l + mm σ l) (nI i)) 17 l (nI (mm σ l + 1))) 13 i 1
set_option maxHeartbeats 1000000 in
theorem Core_push {σ : fd_S} {n l i0 : Nat} (h : Core σ n) (hl : l < 4) (hi0 : i0 < n) (hw : σ.2.1 13 i0 ≠ 1) (h60 : mm σ l < 60) (hr : qv σ 1 0 i0 ≤ σ.2.1 16 l - sM σ l (mm σ l)) : Core (push σ l i0) n := by
  obtain ⟨c1, c2, c3, c4, c5⟩ := id h
  obtain ⟨a1, a2, a3, a4, a5, a6, a7, a8, a9, a10, a11, a12, a13, a14⟩ := c5 l hl
  have hN := h.N
  have n60 := h.n60
  have hns : ∀ l' k, l' < 4 → k < mm σ l' → sv σ l' k ≠ i0 := fun l' k b1 b2 e => hw (by rw [← e]; exact (c4 l' k b1 b2).2.2.1)
  unfold push
  generalize em : mm σ l = m at *
  have f1 : ∀ a j, a ≠ 13 → a ≠ 17 → a ≠ 18 → a ≠ 20 + i0 → a ≠ 5 + l → (fd_si (fd_si (fd_si (ap_s σ (5 + l) (20 + i0)) 18 (60 * l + m) (nI i0)) 17 l (nI (m + 1))) 13 i0 1).2.1 a j = σ.2.1 a j := by
    intro a j b1 b2 b5 b3 b4
    rw [si_ne b1, si_ne b2, si_ne b5]
    show (if a = 20 + i0 then _ else if a = 5 + l then _ else σ.2.1 a j) = _
    rw [if_neg b3, if_neg b4]
  have f13 : (fd_si (fd_si (fd_si (ap_s σ (5 + l) (20 + i0)) 18 (60 * l + m) (nI i0)) 17 l (nI (m + 1))) 13 i0 1).2.1 13 i0 = 1 := si_eq
  have f13' : ∀ j, j ≠ i0 → (fd_si (fd_si (fd_si (ap_s σ (5 + l) (20 + i0)) 18 (60 * l + m) (nI i0)) 17 l (nI (m + 1))) 13 i0 1).2.1 13 j = σ.2.1 13 j := by
    intro j hj
    rw [si_ne2 hj, si_ne (by decide), si_ne (by decide)]
    show (if 13 = 20 + i0 then _ else if 13 = 5 + l then _ else σ.2.1 13 j) = _
    rw [if_neg (by omega), if_neg (by omega)]
  have f17 : (fd_si (fd_si (fd_si (ap_s σ (5 + l) (20 + i0)) 18 (60 * l + m) (nI i0)) 17 l (nI (m + 1))) 13 i0 1).2.1 17 l = nI (m + 1) := by
    rw [si_ne (by decide)]; exact si_eq
  have f17' : ∀ j, j ≠ l → (fd_si (fd_si (fd_si (ap_s σ (5 + l) (20 + i0)) 18 (60 * l + m) (nI i0)) 17 l (nI (m + 1))) 13 i0 1).2.1 17 j = σ.2.1 17 j := by
    intro j hj
    rw [si_ne (by decide), si_ne2 hj, si_ne (by decide)]
    show (if 17 = 20 + i0 then _ else if 17 = 5 + l then _ else σ.2.1 17 j) = _
    rw [if_neg (by omega), if_neg (by omega)]
  have f18 : (fd_si (fd_si (fd_si (ap_s σ (5 + l) (20 + i0)) 18 (60 * l + m) (nI i0)) 17 l (nI (m + 1))) 13 i0 1).2.1 18 (60 * l + m) = nI i0 := by
    rw [si_ne (by decide), si_ne (by decide)]; exact si_eq
  have f18' : ∀ j, j ≠ 60 * l + m → (fd_si (fd_si (fd_si (ap_s σ (5 + l) (20 + i0)) 18 (60 * l + m) (nI i0)) 17 l (nI (m + 1))) 13 i0 1).2.1 18 j = σ.2.1 18 j := by
    intro j hj
    rw [si_ne (by decide), si_ne (by decide), si_ne2 hj]
    show (if 18 = 20 + i0 then _ else if 18 = 5 + l then _ else σ.2.1 18 j) = _
    rw [if_neg (by omega), if_neg (by omega)]
  have fv : ∀ j, (fd_si (fd_si (fd_si (ap_s σ (5 + l) (20 + i0)) 18 (60 * l + m) (nI i0)) 17 l (nI (m + 1))) 13 i0 1).2.1 (20 + i0) j = if j = 9 then 1 else if j = 10 then σ.2.1 (5 + l) 0 else if j = 11 then σ.2.1 (5 + l) 6 else σ.2.1 (20 + i0) j := by
    intro j
    rw [si_ne (by omega), si_ne (by omega), si_ne (by omega)]
    show (if 20 + i0 = 20 + i0 then _ else _) = _
    rw [if_pos rfl]
  have fl : ∀ j, (fd_si (fd_si (fd_si (ap_s σ (5 + l) (20 + i0)) 18 (60 * l + m) (nI i0)) 17 l (nI (m + 1))) 13 i0 1).2.1 (5 + l) j = if j = 6 then σ.2.1 (5 + l) 6 + 1 else if j = 3 then σ.2.1 (5 + l) 3 + (σ.2.1 (20 + i0) 4 + 5) else if j = 4 then σ.2.1 (5 + l) 4 + σ.2.1 (20 + i0) 5 else if j = 5 then σ.2.1 (5 + l) 5 + σ.2.1 (20 + i0) 6 else σ.2.1 (5 + l) j := by
    intro j
    rw [si_ne (by omega), si_ne (by omega), si_ne (by omega)]
    show (if 5 + l = 20 + i0 then _ else if 5 + l = 5 + l then _ else _) = _
    rw [if_neg (by omega), if_pos rfl]
  have g : ∀ i j, (fd_si (fd_si (fd_si (ap_s σ (5 + l) (20 + i0)) 18 (60 * l + m) (nI i0)) 17 l (nI (m + 1))) 13 i0 1).2.2.1 i j = if i = 20 + i0 then (if j = 12 then σ.2.2.1 (5 + l) 8 else σ.2.2.1 (20 + i0) j) else if i = 5 + l then (if j = 8 then some (20 + i0) else if j = 7 then (if σ.2.2.1 (5 + l) 7 = none then some (20 + i0) else σ.2.2.1 (5 + l) 7) else σ.2.2.1 (5 + l) j) else σ.2.2.1 i j := fun _ _ => rfl
  have gN : (fd_si (fd_si (fd_si (ap_s σ (5 + l) (20 + i0)) 18 (60 * l + m) (nI i0)) 17 l (nI (m + 1))) 13 i0 1).1 = σ.1 := rfl
  generalize fd_si (fd_si (fd_si (ap_s σ (5 + l) (20 + i0)) 18 (60 * l + m) (nI i0)) 17 l (nI (m + 1))) 13 i0 1 = ρ at *
  have m0 : mm ρ l = m + 1 := by unfold mm; rw [f17]; exact nI_clamp (by omega)
  have m1 : ∀ l', l' ≠ l → mm ρ l' = mm σ l' := fun l' q => mm_c (f17' l' q)
  have ix : ∀ l' k, l' < 4 → k < mm σ l' → 60 * l' + k ≠ 60 * l + m := by
    intro l' k b1 b2 e
    have := (c5 l' b1).1
    have e1 : l' = l := by omega
    subst e1
    omega
  have hsv : ∀ l' k, l' < 4 → k < mm σ l' → sv ρ l' k = sv σ l' k := fun l' k b1 b2 => sv_c (f18' _ (ix l' k b1 b2))
  have hsm : sv ρ l m = i0 := by unfold sv; rw [f18]; exact nI_clamp (by omega)
  have hqv : ∀ w s i, qv ρ w s i = qv σ w s i := fun w s i => qv_c (f1 10 _ (by decide) (by decide) (by decide) (by omega) (by omega)) (f1 11 _ (by decide) (by decide) (by decide) (by omega) (by omega)) (f1 12 _ (by decide) (by decide) (by decide) (by omega) (by omega)) w s
  have hW : ∀ l', l' < 4 → W3 σ ρ l' (mm σ l') := fun l' b j hj => ⟨hsv l' j b hj, fun w => hqv w 0 _⟩
  have hWl : W3 σ ρ l m := by have := hW l hl; rw [em] at this; exact this
  have hv0 := c2 i0 hi0
  obtain ⟨v1, v2, v3, v4, v5, v6, v7, v8, v9, v10, v11, v12, v13⟩ := id hv0
  refine ⟨CB_d gN (fun i j hi => ?_) (fun i j x hx => ?_) (f1 0 1 (by decide) (by decide) (by decide) (by omega) (by omega)) (f1 9 0 (by decide) (by decide) (by decide) (by omega) (by omega)) c1, fun i hi => ?_, fun i hi => ?_, fun l' k hl' hk => ?_, fun l' hl' => ?_⟩
  · rw [g, if_neg (by omega), if_neg (by omega)]
  · rw [g] at hx
    rw [gN]
    have hclo := c1.2.2.2.2
    by_cases q1 : i = 20 + i0
    · rw [if_pos q1] at hx
      by_cases q2 : j = 12
      · rw [if_pos q2] at hx; exact hclo _ _ _ hx
      · rw [if_neg q2] at hx; exact hclo _ _ _ hx
    · rw [if_neg q1] at hx
      by_cases q2 : i = 5 + l
      · rw [if_pos q2] at hx
        by_cases q3 : j = 8
        · rw [if_pos q3] at hx; cases hx; omega
        · rw [if_neg q3] at hx
          by_cases q4 : j = 7
          · rw [if_pos q4] at hx
            by_cases q5 : σ.2.2.1 (5 + l) 7 = none
            · rw [if_pos q5] at hx; cases hx; omega
            · rw [if_neg q5] at hx; exact hclo _ _ _ hx
          · rw [if_neg q4] at hx; exact hclo _ _ _ hx
      · rw [if_neg q2] at hx; exact hclo _ _ _ hx
  · refine CV_c (f1 10 _ (by decide) (by decide) (by decide) (by omega) (by omega)) (f1 11 _ (by decide) (by decide) (by decide) (by omega) (by omega)) (f1 12 _ (by decide) (by decide) (by decide) (by omega) (by omega)) (fun j hj => ?_) (c2 i hi)
    by_cases q : i = i0
    · subst q
      rw [fv, if_neg (by omega), if_neg (by omega), if_neg (by omega)]
    · exact f1 (20 + i) j (by omega) (by omega) (by omega) (by omega) (by omega)
  · by_cases q : i = i0
    · subst q
      refine ⟨?_, ?_, fun _ => ⟨l, m, hl, by omega, hsm⟩, fun q => absurd f13 q⟩
      · rw [fv, f13, if_pos rfl]
      · rw [fv, if_neg (by decide), if_neg (by decide), if_neg (by decide), f1 14 _ (by decide) (by decide) (by decide) (by omega) (by omega)]
        exact (c3 i hi).2.1
    · have fi : ∀ j, ρ.2.1 (20 + i) j = σ.2.1 (20 + i) j := fun j => f1 (20 + i) j (by omega) (by omega) (by omega) (by omega) (by omega)
      refine CD_c (fi 9) (fi 10) (fi 11) (by rw [fi, f1 14 _ (by decide) (by decide) (by decide) (by omega) (by omega)]; exact (c3 i hi).2.1) (f13' i q) (fun l' k b1 b2 b3 => ?_) (c3 i hi)
      refine ⟨?_, by rw [hsv l' k b1 b2]; exact b3⟩
      by_cases q : l' = l
      · subst q
        omega
      · rw [m1 l' q]; exact b2
  · by_cases hkm : l' = l ∧ k = m
    · obtain ⟨e1, e2⟩ := hkm
      subst e1
      subst e2
      refine ⟨by rw [hsm]; exact f18, by rw [hsm]; exact hi0, by rw [hsm]; exact f13, ?_, ?_, ?_⟩
      · rw [hsm, fv, if_neg (by decide), if_pos rfl]; exact a4
      · rw [hsm, fv, if_neg (by decide), if_neg (by decide), if_pos rfl]; exact a3
      · rw [hsm, g, if_pos rfl, if_pos rfl, a10]
        by_cases q : k = 0
        · rw [if_pos q, if_pos q]
        · rw [if_neg q, if_neg q, hsv l' (k - 1) hl (by omega)]
    · have hk' : k < mm σ l' := by
        by_cases q : l' = l
        · subst q
          have : k ≠ m := fun e => hkm ⟨rfl, e⟩
          omega
        · rw [m1 l' q] at hk; exact hk
      have hn0 := hns l' k hl' hk'
      refine CS_c (fun j hj => f18' _ (ix l' j hl' (by omega))) (f13' _ hn0) (f1 _ 10 (by omega) (by omega) (by omega) (by omega) (by omega)) (f1 _ 11 (by omega) (by omega) (by omega) (by omega) (by omega)) ?_ (Nat.le_refl n) (c4 l' k hl' hk')
      rw [g, if_neg (by omega), if_neg (by omega)]
  · by_cases q : l' = l
    · subst q
      refine ⟨by omega, by rw [m0]; exact f17, ?_, ?_, ?_, ?_, ?_, ?_, ?_, ?_, ?_, ?_, ?_, ?_⟩
      · rw [m0, fl, if_pos rfl, a3]; exact nI_1 m
      · rw [fl, if_neg (by decide), if_neg (by decide), if_neg (by decide), if_neg (by decide)]; exact a4
      · rw [fl, if_neg (by decide), if_neg (by decide), if_neg (by decide), if_neg (by decide), f1 15 _ (by decide) (by decide) (by decide) (by omega) (by omega)]; exact a5
      · rw [fl, if_neg (by decide), if_neg (by decide), if_neg (by decide), if_neg (by decide), f1 16 _ (by decide) (by decide) (by decide) (by omega) (by omega)]; exact a6
      · have e7 : sL ρ l' (m + 1) = sL σ l' m - (qv σ 0 0 i0 + 5) := by simp only [sL]; rw [hsm, hqv, sL_c (f1 15 _ (by decide) (by decide) (by decide) (by omega) (by omega)) hWl]
        rw [m0, fl, if_neg (by decide), if_pos rfl, f1 15 _ (by decide) (by decide) (by decide) (by omega) (by omega), v9, e7, ← a7]
        grind
      · have e8 : sM ρ l' (m + 1) = sM σ l' m + qv σ 1 0 i0 := by simp only [sM]; rw [hsm, hqv, sM_c hWl]
        rw [m0, fl, if_neg (by decide), if_neg (by decide), if_pos rfl, v10, a8, e8]
      · have e9 : sN ρ l' (m + 1) = sN σ l' m + qv σ 2 0 i0 := by simp only [sN]; rw [hsm, hqv, sN_c hWl]
        rw [m0, fl, if_neg (by decide), if_neg (by decide), if_neg (by decide), if_pos rfl, v11, a9, e9]
      · rw [m0, g, if_neg (by omega), if_pos rfl, if_pos rfl, if_neg (by omega)]
        show _ = some (20 + sv ρ l' m)
        rw [hsm]
      · rw [m0, g, if_neg (by omega), if_pos rfl, if_neg (by decide), if_pos rfl, a11, if_neg (Nat.succ_ne_zero m)]
        by_cases q : m = 0
        · subst q
          rw [if_pos rfl, if_pos rfl, hsm]
        · rw [if_neg q, if_neg (by simp), hsv l' 0 hl (by omega)]
      · intro j h7 h8
        rw [g, if_neg (by omega), if_pos rfl, if_neg h8, if_neg h7]
        exact a12 j h7 h8
      · rw [f1 16 _ (by decide) (by decide) (by decide) (by omega) (by omega)]; exact a13
      · intro k hk
        rw [m0] at hk
        rw [f1 16 _ (by decide) (by decide) (by decide) (by omega) (by omega)]
        by_cases q : k = m + 1
        · subst q
          have e8 : sM ρ l' (m + 1) = sM σ l' m + qv σ 1 0 i0 := by simp only [sM]; rw [hsm, hqv, sM_c hWl]
          rw [e8]
          obtain ⟨M, hM, eM⟩ := q_mass hv0
          obtain ⟨b, hb, eb⟩ := nI_of2 (M := 200000) (n := 200000) (by decide) (i32_nlt.mpr a13.1) a13.2
          have hs := a14 m (Nat.le_refl m)
          obtain ⟨s, hs2, es⟩ := nI_of (i32_nlt.mpr hs.1)
          rw [eb, es] at hs hr
          rw [eM] at hr
          rw [eb, es, eM]
          have hsb : s ≤ b := (nI_leI hs2 (by omega)).mp hs.2
          rw [pk_sub hsb, nI_leI (by omega) (by omega)] at hr
          rw [nI_add]
          exact ⟨nI_pos' (by omega), nI_le (by omega) (by omega)⟩
        · rw [sM_c (hWl.le (by omega))]
          exact a14 k (by omega)
    · exact CL_c (f1 15 _ (by decide) (by decide) (by decide) (by omega) (by omega)) (f1 16 _ (by decide) (by decide) (by decide) (by omega) (by omega)) (f17' l' q) (hW l' hl') (fun j => f1 (5 + l') j (by omega) (by omega) (by omega) (by omega) (by omega)) (fun j => by rw [g, if_neg (by omega), if_neg (by omega)]) (c5 l' hl')
end
section
theorem si_at {σ : fd_S} {a k i j : Nat} {v : Int32} : (fd_si σ a k v).2.1 i j = if i = a ∧ j = k then v else σ.2.1 i j := by
  show fd_u σ.2.1 a k v i j = _
  unfold fd_u
  by_cases h1 : i = a
  · by_cases h2 : j = k
    · rw [if_pos h1, if_pos h2, if_pos ⟨h1, h2⟩]
    · rw [if_pos h1, if_neg h2, if_neg (fun q => h2 q.2)]
  · rw [if_neg h1, if_neg (fun q => h1 q.1)]
/-- a vehicle comes back -/
theorem Core_back {σ : fd_S} {n i0 : Nat} (h : Core σ n) (hi0 : i0 < n) (h2 : σ.2.1 13 i0 = 2) : Core (fd_si (fd_si σ (20 + i0) 9 0) 13 i0 0) n := by
  obtain ⟨c1, c2, c3, c4, c5⟩ := id h
  have f : ∀ a j, (fd_si (fd_si σ (20 + i0) 9 0) 13 i0 0).2.1 a j = if a = 13 ∧ j = i0 then 0 else if a = 20 + i0 ∧ j = 9 then 0 else σ.2.1 a j := fun a j => by rw [si_at, si_at]
  have g : (fd_si (fd_si σ (20 + i0) 9 0) 13 i0 0).2.2.1 = σ.2.2.1 := rfl
  have gN : (fd_si (fd_si σ (20 + i0) 9 0) 13 i0 0).1 = σ.1 := rfl
  generalize fd_si (fd_si σ (20 + i0) 9 0) 13 i0 0 = ρ at *
  have f1 : ∀ a j, a ≠ 13 → ¬ (a = 20 + i0 ∧ j = 9) → ρ.2.1 a j = σ.2.1 a j := fun a j b1 b2 => by rw [f, if_neg (fun q => b1 q.1), if_neg b2]
  have m1 : ∀ l, mm ρ l = mm σ l := fun l => mm_c (f1 17 _ (by decide) (by omega))
  have hsv : ∀ l k, sv ρ l k = sv σ l k := fun l k => sv_c (f1 18 _ (by decide) (by omega))
  have hqv : ∀ w s i, qv ρ w s i = qv σ w s i := fun w s i => qv_c (f1 10 _ (by decide) (by omega)) (f1 11 _ (by decide) (by omega)) (f1 12 _ (by decide) (by omega)) w s
  refine ⟨CB_c gN g (f1 0 1 (by decide) (by omega)) (f1 9 0 (by decide) (by omega)) c1, fun i hi => CV_c (f1 10 _ (by decide) (by omega)) (f1 11 _ (by decide) (by omega)) (f1 12 _ (by decide) (by omega)) (fun j hj => f1 _ j (by omega) (by omega)) (c2 i hi), fun i hi => ?_, fun l k hl hk => ?_, fun l hl => ?_⟩
  · by_cases q : i = i0
    · subst q
      have e13 : ρ.2.1 13 i = 0 := by rw [f, if_pos ⟨rfl, rfl⟩]
      have e10 := (c3 i hi).2.2.2 (by rw [h2]; decide)
      refine ⟨?_, ?_, fun q => ?_, fun _ => ⟨?_, ?_⟩⟩
      · rw [e13, f, if_neg (by omega), if_pos ⟨rfl, rfl⟩]
      · rw [f1 _ 13 (by omega) (by omega), f1 14 _ (by decide) (by omega)]; exact (c3 i hi).2.1
      · rw [e13] at q; exact absurd q (by decide)
      · rw [f1 _ 10 (by omega) (by omega)]; exact e10.1
      · rw [f1 _ 11 (by omega) (by omega)]; exact e10.2
    · have fi : ∀ j, ρ.2.1 (20 + i) j = σ.2.1 (20 + i) j := fun j => f1 (20 + i) j (by omega) (by omega)
      refine CD_c (fi 9) (fi 10) (fi 11) (by rw [fi, f1 14 _ (by decide) (by omega)]; exact (c3 i hi).2.1) (by rw [f, if_neg (by omega), if_neg (by omega)]) (fun l' k b1 b2 b3 => ⟨by rw [m1]; exact b2, by rw [hsv]; exact b3⟩) (c3 i hi)
  · rw [m1] at hk
    have cs := c4 l k hl hk
    have hn0 : sv σ l k ≠ i0 := fun e => by
      have := cs.2.2.1
      rw [e, h2] at this
      exact absurd this (by decide)
    exact CS_c (fun j _ => f1 18 _ (by decide) (by omega)) (by rw [f, if_neg (fun q => hn0 q.2), if_neg (by omega)]) (f1 _ 10 (by omega) (by omega)) (f1 _ 11 (by omega) (by omega)) (by rw [g]) (Nat.le_refl n) cs
  · exact CL_c (f1 15 _ (by decide) (by omega)) (f1 16 _ (by decide) (by omega)) (f1 17 _ (by decide) (by omega)) (fun k _ => ⟨hsv l k, fun w => hqv w 0 _⟩) (fun j => f1 (5 + l) j (by omega) (by omega)) (fun j => by rw [g]) (c5 l hl)
theorem i32_sub0 {x y z : Int32} (h : x - y = x) : z - y = z := by
  grind
theorem sM_0 (σ : fd_S) (l : Nat) : sM σ l 0 = 0 := rfl
theorem sN_0 (σ : fd_S) (l : Nat) : sN σ l 0 = 0 := rfl
/-- an empty lane changes -/
theorem Core_lane {σ : fd_S} {n l0 : Nat} {len bea : Int32} (h : Core σ n) (hl0 : l0 < 4) (hm : mm σ l0 = 0) (hb0 : 0 ≤ bea) (hb1 : bea ≤ 200000) : Core (fd_si (fd_si (fd_si (fd_si σ (5 + l0) 1 len) (5 + l0) 2 bea) 15 l0 len) 16 l0 bea) n := by
  obtain ⟨c1, c2, c3, c4, c5⟩ := id h
  obtain ⟨a1, a2, a3, a4, a5, a6, a7, a8, a9, a10, a11, a12, a13, a14⟩ := c5 l0 hl0
  rw [hm] at a2 a3 a7 a8 a9 a10 a11 a14
  have f : ∀ a j, (fd_si (fd_si (fd_si (fd_si σ (5 + l0) 1 len) (5 + l0) 2 bea) 15 l0 len) 16 l0 bea).2.1 a j = if a = 16 ∧ j = l0 then bea else if a = 15 ∧ j = l0 then len else if a = 5 + l0 ∧ j = 2 then bea else if a = 5 + l0 ∧ j = 1 then len else σ.2.1 a j := fun a j => by rw [si_at, si_at, si_at, si_at]
  have g : (fd_si (fd_si (fd_si (fd_si σ (5 + l0) 1 len) (5 + l0) 2 bea) 15 l0 len) 16 l0 bea).2.2.1 = σ.2.2.1 := rfl
  have gN : (fd_si (fd_si (fd_si (fd_si σ (5 + l0) 1 len) (5 + l0) 2 bea) 15 l0 len) 16 l0 bea).1 = σ.1 := rfl
  generalize fd_si (fd_si (fd_si (fd_si σ (5 + l0) 1 len) (5 + l0) 2 bea) 15 l0 len) 16 l0 bea = ρ at *
  have f1 : ∀ a j, ¬ (a = 15 ∧ j = l0) → ¬ (a = 16 ∧ j = l0) → ¬ (a = 5 + l0 ∧ (j = 1 ∨ j = 2)) → ρ.2.1 a j = σ.2.1 a j := fun a j b1 b2 b3 => by rw [f, if_neg b2, if_neg b1, if_neg (by omega), if_neg (by omega)]
  have m1 : ∀ l, mm ρ l = mm σ l := fun l => mm_c (f1 17 _ (by omega) (by omega) (by omega))
  have hsv : ∀ l k, sv ρ l k = sv σ l k := fun l k => sv_c (f1 18 _ (by omega) (by omega) (by omega))
  have hqv : ∀ w s i, qv ρ w s i = qv σ w s i := fun w s i => qv_c (f1 10 _ (by omega) (by omega) (by omega)) (f1 11 _ (by omega) (by omega) (by omega)) (f1 12 _ (by omega) (by omega) (by omega)) w s
  have fi : ∀ i j, ρ.2.1 (20 + i) j = σ.2.1 (20 + i) j := fun i j => f1 (20 + i) j (by omega) (by omega) (by omega)
  refine ⟨CB_c gN g (f1 0 1 (by omega) (by omega) (by omega)) (f1 9 0 (by omega) (by omega) (by omega)) c1, fun i hi => CV_c (f1 10 _ (by omega) (by omega) (by omega)) (f1 11 _ (by omega) (by omega) (by omega)) (f1 12 _ (by omega) (by omega) (by omega)) (fun j hj => fi i j) (c2 i hi), fun i hi => ?_, fun l k hl hk => ?_, fun l hl => ?_⟩
  · refine CD_c (fi i 9) (fi i 10) (fi i 11) (by rw [fi, f1 14 _ (by omega) (by omega) (by omega)]; exact (c3 i hi).2.1) (f1 13 _ (by omega) (by omega) (by omega)) (fun l' k b1 b2 b3 => ⟨by rw [m1]; exact b2, by rw [hsv]; exact b3⟩) (c3 i hi)
  · rw [m1] at hk
    exact CS_c (fun j _ => f1 18 _ (by omega) (by omega) (by omega)) (f1 13 _ (by omega) (by omega) (by omega)) (fi _ 10) (fi _ 11) (by rw [g]) (Nat.le_refl n) (c4 l k hl hk)
  · by_cases q : l = l0
    · subst q
      have e15 : ρ.2.1 15 l = len := by rw [f, if_neg (by omega), if_pos ⟨rfl, rfl⟩]
      have e16 : ρ.2.1 16 l = bea := by rw [f, if_pos ⟨rfl, rfl⟩]
      have fl : ∀ j, j ≠ 1 → j ≠ 2 → ρ.2.1 (5 + l) j = σ.2.1 (5 + l) j := fun j b1 b2 => f1 _ j (by omega) (by omega) (by omega)
      have mρ : mm ρ l = 0 := by rw [m1]; exact hm
      unfold CL
      rw [mρ, g, e15, e16, fl 6 (by decide) (by decide), fl 0 (by decide) (by decide), fl 3 (by decide) (by decide), fl 4 (by decide) (by decide), fl 5 (by decide) (by decide), a3, a8, a9, sM_0, sM_0, sN_0, sN_0]
      refine ⟨by decide, ?_, rfl, a4, ?_, ?_, ?_, rfl, rfl, by rw [a10, if_pos rfl, if_pos rfl], by rw [a11, if_pos rfl, if_pos rfl], a12, ⟨hb0, hb1⟩, fun k hk => ?_⟩
      · rw [f1 17 _ (by omega) (by omega) (by omega)]; exact a2
      · rw [f, if_neg (by omega), if_neg (by omega), if_neg (by omega), if_pos ⟨rfl, rfl⟩]
      · rw [f, if_neg (by omega), if_neg (by omega), if_pos ⟨rfl, rfl⟩]
      · have e7 : sL σ l 0 = σ.2.1 15 l := rfl
        have e8 : sL ρ l 0 = len := e15
        rw [e7] at a7
        rw [e8]
        exact i32_sub0 a7
      · have : k = 0 := by omega
        subst this
        rw [sM_0]
        exact ⟨Int32.le_refl 0, hb0⟩
    · exact CL_c (f1 15 _ (by omega) (by omega) (by omega)) (f1 16 _ (by omega) (by omega) (by omega)) (f1 17 _ (by omega) (by omega) (by omega)) (fun k _ => ⟨hsv l k, fun w => hqv w 0 _⟩) (fun j => f1 (5 + l) j (by omega) (by omega) (by omega)) (fun j => by rw [g]) (c5 l hl)
/-- a vehicle more -/
theorem Core_veh {σ π : fd_S} {n k : Nat} {s l : Int32} (h : Core σ n) (hn : n < 60) (hk : k < 7) (hok : Vok (nI k) s l) (hV : VN σ n k s l π) : Core (mv_s π n (nI k) s l) (n + 1) := by
  obtain ⟨c1, c2, c3, c4, c5⟩ := id h
  have hN := h.N
  obtain ⟨p1, p2, p3, p4, p5, q0, q1, q2, q3, q4, q5, q6, q7, q8, q9, q10, q11, q13⟩ := hV
  rw [hN] at p1 p2 p3 p4 q0 q1 q2 q3 q4 q5 q6 q7 q8 q9 q10 q11 q13
  have f : ∀ a j, (mv_s π n (nI k) s l).2.1 a j = if a = 9 ∧ j = 0 then nI (n + 1) else if a = 14 ∧ j = n then 0 else if a = 13 ∧ j = n then 0 else if a = 12 ∧ j = n then l else if a = 11 ∧ j = n then s else if a = 10 ∧ j = n then nI k else π.2.1 a j := fun a j => by unfold mv_s; rw [si_at, si_at, si_at, si_at, si_at, si_at]
  have g : ∀ a j, (mv_s π n (nI k) s l).2.2.1 a j = if a = 20 + n then none else if a = 1 ∧ j = n then some (20 + n) else σ.2.2.1 a j := fun a j => by
    have : (mv_s π n (nI k) s l).2.2.1 = π.2.2.1 := rfl
    rw [this, p2]
  have gN : (mv_s π n (nI k) s l).1 = 20 + n + 1 := p1
  generalize mv_s π n (nI k) s l = ρ at *
  have f1 : ∀ a j, a ≠ 0 → a ≠ 3 → ¬ (a = 9 ∧ j = 0) → ¬ (10 ≤ a ∧ a ≤ 14 ∧ j = n) → a ≠ 20 + n → ρ.2.1 a j = σ.2.1 a j := fun a j b1 b2 b3 b4 b5 => by
    rw [f, if_neg b3, if_neg (by omega), if_neg (by omega), if_neg (by omega), if_neg (by omega), if_neg (by omega), p4 a j b5 (by omega) (fun q => b2 q.1)]
  have fn : ∀ j, ρ.2.1 (20 + n) j = π.2.1 (20 + n) j := fun j => by rw [f, if_neg (by omega), if_neg (by omega), if_neg (by omega), if_neg (by omega), if_neg (by omega), if_neg (by omega)]
  have m1 : ∀ l, mm ρ l = mm σ l := fun l => mm_c (f1 17 _ (by omega) (by omega) (by omega) (by omega) (by omega))
  have hsv : ∀ l k, sv ρ l k = sv σ l k := fun l k => sv_c (f1 18 _ (by omega) (by omega) (by omega) (by omega) (by omega))
  have hqv : ∀ w s i, i < n → qv ρ w s i = qv σ w s i := fun w s i hi => qv_c (f1 10 _ (by omega) (by omega) (by omega) (by omega) (by omega)) (f1 11 _ (by omega) (by omega) (by omega) (by omega) (by omega)) (f1 12 _ (by omega) (by omega) (by omega) (by omega) (by omega)) w s
  have fi : ∀ i j, i < n → ρ.2.1 (20 + i) j = σ.2.1 (20 + i) j := fun i j hi => f1 (20 + i) j (by omega) (by omega) (by omega) (by omega) (by omega)
  have e10 : ρ.2.1 10 n = nI k := by rw [f, if_neg (by omega), if_neg (by omega), if_neg (by omega), if_neg (by omega), if_neg (by omega), if_pos ⟨rfl, rfl⟩]
  have e11 : ρ.2.1 11 n = s := by rw [f, if_neg (by omega), if_neg (by omega), if_neg (by omega), if_neg (by omega), if_pos ⟨rfl, rfl⟩]
  have e12 : ρ.2.1 12 n = l := by rw [f, if_neg (by omega), if_neg (by omega), if_neg (by omega), if_pos ⟨rfl, rfl⟩]
  have e13 : ρ.2.1 13 n = 0 := by rw [f, if_neg (by omega), if_neg (by omega), if_pos ⟨rfl, rfl⟩]
  have e14 : ρ.2.1 14 n = 0 := by rw [f, if_neg (by omega), if_pos ⟨rfl, rfl⟩]
  have ek : kd ρ n = k := by unfold kd; rw [e10]; exact nI_clamp (by omega)
  have eq : ∀ w, qv ρ w 0 n = (an_w k s l 0 16 k w).1 := fun w => by unfold qv; rw [ek, e11, e12]
  obtain ⟨⟨b20, bN, bn, bc, r0, r2, r3, r30, hva, hla⟩, ⟨mb, k1, k2, k3, k4, k5, k6, k7, k8, k9, k13⟩, _, _, hclo⟩ := id c1
  have g9 : ∀ j, ρ.2.2.1 9 j = σ.2.2.1 9 j := fun j => by rw [g, if_neg (by omega), if_neg (by omega)]
  refine ⟨⟨⟨by omega, by omega, by omega, ?_, ?_, ?_, ?_, ?_, fun i hi => ?_, fun i hi => ?_⟩, ⟨by omega, ?_, ?_, ?_, ?_, ?_, ?_, ?_, ?_, ?_, ?_⟩, by omega, ?_, fun a j x hx => ?_⟩, fun i hi => ?_, fun i hi => ?_, fun l k hl hk => ?_, fun l hl => ?_⟩
  · rw [f, if_neg (by omega), if_neg (by omega), if_neg (by omega), if_neg (by omega), if_neg (by omega), if_neg (by omega)]; exact p5
  · rw [g, if_neg (by omega), if_neg (by omega)]; exact r0
  · rw [g, if_neg (by omega), if_neg (by omega)]; exact r2
  · rw [g, if_neg (by omega), if_neg (by omega)]; exact r3
  · rw [g, if_neg (by omega), if_neg (by omega)]; exact r30
  · rw [g, if_neg (by omega)]
    by_cases q : i = n
    · subst q
      rw [if_pos ⟨rfl, rfl⟩]
    · rw [if_neg (by omega)]; exact hva i (by omega)
  · rw [g, if_neg (by omega), if_neg (by omega)]; exact hla i hi
  · rw [g9]; exact k1
  · rw [g9]; exact k2
  · rw [g9]; exact k3
  · rw [g9]; exact k4
  · rw [g9]; exact k5
  · rw [g9]; exact k6
  · rw [g9]; exact k7
  · rw [g9]; exact k8
  · rw [g9]; exact k9
  · rw [g9]; exact k13
  · rw [f, if_pos ⟨rfl, rfl⟩]
  · rw [g] at hx
    rw [gN]
    by_cases z1 : a = 20 + n
    · rw [if_pos z1] at hx; cases hx
    · rw [if_neg z1] at hx
      by_cases z2 : a = 1 ∧ j = n
      · rw [if_pos z2] at hx; cases hx; omega
      · rw [if_neg z2] at hx
        have := hclo a j x hx
        omega
  · by_cases q : i = n
    · subst q
      refine ⟨by rw [ek]; exact hk, by rw [ek]; exact e10, by rw [e11]; exact hok.2.1, by rw [e12]; exact hok.2.2, ?_, ?_, ?_, ?_, ?_, ?_, ?_, ?_, ?_⟩
      · rw [fn]; exact q0
      · rw [fn, e10]; exact q1
      · rw [fn, e11]; exact q2
      · rw [fn, e12]; exact q3
      · rw [fn, eq]; exact q4
      · rw [fn, eq]; exact q5
      · rw [fn, eq]; exact q6
      · rw [fn, eq]; exact q7
      · rw [fn, eq]; exact q8
    · exact CV_c (f1 10 _ (by omega) (by omega) (by omega) (by omega) (by omega)) (f1 11 _ (by omega) (by omega) (by omega) (by omega) (by omega)) (f1 12 _ (by omega) (by omega) (by omega) (by omega) (by omega)) (fun j hj => fi i j (by omega)) (c2 i (by omega))
  · by_cases q : i = n
    · subst q
      refine ⟨by rw [fn, e13]; exact q9, by rw [fn, e14]; exact q13, fun q => ?_, fun _ => ⟨by rw [fn]; exact q10, by rw [fn]; exact q11⟩⟩
      rw [e13] at q
      exact absurd q (by decide)
    · have hi' : i < n := by omega
      refine CD_c (fi i 9 hi') (fi i 10 hi') (fi i 11 hi') (by rw [fi i 13 hi', f1 14 _ (by omega) (by omega) (by omega) (by omega) (by omega)]; exact (c3 i hi').2.1) (f1 13 _ (by omega) (by omega) (by omega) (by omega) (by omega)) (fun l' k b1 b2 b3 => ⟨by rw [m1]; exact b2, by rw [hsv]; exact b3⟩) (c3 i hi')
  · rw [m1] at hk
    have cs := c4 l k hl hk
    have hlt := cs.2.1
    exact CS_c (fun j _ => f1 18 _ (by omega) (by omega) (by omega) (by omega) (by omega)) (f1 13 _ (by omega) (by omega) (by omega) (by omega) (by omega)) (fi _ 10 hlt) (fi _ 11 hlt) (by rw [g, if_neg (by omega), if_neg (by omega)]) (Nat.le_succ n) cs
  · exact CL_c (f1 15 _ (by omega) (by omega) (by omega) (by omega) (by omega)) (f1 16 _ (by omega) (by omega) (by omega) (by omega) (by omega)) (f1 17 _ (by omega) (by omega) (by omega) (by omega) (by omega)) (fun k hk => ⟨hsv l k, fun w => hqv w 0 _ (c4 l k hl hk).2.1⟩) (fun j => f1 (5 + l) j (by omega) (by omega) (by omega) (by omega) (by omega)) (fun j => by rw [g, if_neg (by omega), if_neg (by omega)]) (c5 l hl)
end
section
/-! THE PAIRS: what the class answers, the model answers after it, and the coupling holds again -/
def Cs (σ : fd_S) : Prop := σ.2.1 3 2 = 0 ∧ σ.2.1 0 4 = σ.2.1 9 10 ∧ σ.2.1 0 5 = σ.2.1 9 11 ∧ σ.2.2.2 0 6 = σ.2.2.2 9 12 ∧ ∃ t, t ≤ 10 ∧ σ.2.1 3 1 = nI t ∧ σ.2.1 9 14 = nI t ∧ ∀ j, j < t → σ.2.1 4 j = σ.2.1 19 j
def Cp (σ : fd_S) (n : Nat) : Prop := Core σ n ∧ Cs σ
abbrev rf (a : Nat) : fd_V := .inr (.inr (.inl (some a)))
def Pair (kc km : Nat) (as : List fd_V) : Prop := ∀ σ n, Cp σ n → ∀ post : Option fd_V → fd_S → Prop, (∀ (v : Int32) (τ : fd_S), 20 ≤ τ.1 → (∀ post' : Option fd_V → fd_S → Prop, (∀ τ' n', Cp τ' n' → post' (some (.inl v)) τ') → fd_Sem 100 km (rf 9 :: as) τ post') → post (some (.inl v)) τ) → fd_Sem 100 kc (rf 0 :: as) σ post
section
variable {σ : fd_S} {n : Nat}
theorem Cp.B (h : Cp σ n) : fd_B σ n := h.1.1.1
theorem Cp.M (h : Cp σ n) : Mb σ := h.1.1.2.1
theorem Cp.h20 (h : Cp σ n) : 20 ≤ σ.1 := h.1.1.1.1
theorem Cp.h90 (h : Cp σ n) : σ.2.1 9 0 = nI n := h.1.1.2.2.2.1
theorem Cp.n60 (h : Cp σ n) : n ≤ 60 := h.1.n60
end
theorem Cs_c {σ τ : fd_S} (h1 : ∀ i j, (i = 0 ∧ (j = 4 ∨ j = 5)) ∨ (i = 3 ∧ (j = 1 ∨ j = 2)) ∨ i = 4 ∨ (i = 9 ∧ 10 ≤ j) ∨ i = 19 → τ.2.1 i j = σ.2.1 i j) (h2 : τ.2.2.2 0 6 = τ.2.2.2 9 12) (h : Cs σ) : Cs τ := by
  obtain ⟨a1, a2, a3, a4, t, b1, b2, b3, b4⟩ := h
  refine ⟨?_, ?_, ?_, h2, t, b1, ?_, ?_, fun j hj => ?_⟩
  · rw [h1 3 2 (by omega)]; exact a1
  · rw [h1 0 4 (by omega), h1 9 10 (by omega)]; exact a2
  · rw [h1 0 5 (by omega), h1 9 11 (by omega)]; exact a3
  · rw [h1 3 1 (by omega)]; exact b2
  · rw [h1 9 14 (by omega)]; exact b3
  · rw [h1 4 j (by omega), h1 19 j (by omega)]; exact b4 j hj
theorem p_season (x : Int32) : Pair 28 65 [.inl x] := by
  intro σ n h post k
  have h20 := h.h20
  refine c_season 98 x σ _ h20 (fun a1 a2 => ?_) (fun a => ?_)
  · refine k _ _ h20 (fun post' k' => ?_)
    refine m_season 98 x _ _ h20 (fun _ _ => ?_) (fun q => absurd ⟨a1, a2⟩ q)
    obtain ⟨s1, s2, s3, s4, t, b1, b2, b3, b4⟩ := h.2
    have e : (fd_si σ 0 4 x).2.1 9 10 = σ.2.1 0 4 := by rw [si_ne (by decide), s2]
    rw [e]
    refine k' _ n ⟨Core_c (σ := σ) rfl rfl (fun i j hj => ?_) h.1, ?_, ?_, ?_, s4, t, b1, ?_, ?_, fun j hj => ?_⟩
    · rw [si_at, si_at, if_neg (fun q => hj (by unfold J0; omega)), if_neg (fun q => hj (by unfold J0; omega))]
    · rw [si_ne (by decide), si_ne (by decide)]; exact s1
    · rw [si_ne (by decide), si_eq, si_eq]
    · rw [si_ne (by decide), si_ne2 (by decide), si_ne2 (by decide), si_ne (by decide)]; exact s3
    · rw [si_ne (by decide), si_ne (by decide)]; exact b2
    · rw [si_ne2 (by decide), si_ne (by decide)]; exact b3
    · rw [si_ne (by decide), si_ne (by decide), si_ne (by decide), si_ne (by decide)]; exact b4 j hj
  · refine k _ _ h20 (fun post' k' => ?_)
    exact m_season 98 x _ _ h20 (fun q1 q2 => absurd ⟨q1, q2⟩ a) (fun _ => k' _ n h)
theorem p_back (x : Int32) : Pair 32 72 [.inl x] := by
  intro σ n h post k
  have h20 := h.h20
  have hn := h.n60
  refine c_back 97 n x σ _ h.B (fun a => ?_) (fun i hi hx hw => ?_) (fun i hi hx hw => ?_)
  · refine k _ _ h20 (fun post' k' => ?_)
    exact m_back 97 n x σ _ h.M hn h.h90 (fun _ => k' _ n h) (fun i hi hx => absurd hx (a i hi)) (fun i hi hx => absurd hx (a i hi))
  · refine k _ _ h20 (fun post' k' => ?_)
    have e := (h.1.2.2.1 i hi).1
    have e13 : σ.2.1 13 i = 2 := by rw [← e]; exact hw
    refine m_back 97 n x _ _ h.M hn ?_ (fun a => absurd hx (a i hi)) (fun i' hi' hx' _ => ?_) (fun i' hi' hx' q => ?_)
    · rw [si_ne (by omega)]; exact h.h90
    · have ei : i' = i := (nI_eq (by omega) (by omega)).mp (hx'.symm.trans hx)
      subst ei
      refine k' _ n ⟨Core_back h.1 hi e13, Cs_c (σ := σ) (fun a j q => ?_) h.2.2.2.2.1 h.2⟩
      rw [si_at, si_at, if_neg (by omega), if_neg (by omega)]
    · have ei : i' = i := (nI_eq (by omega) (by omega)).mp (hx'.symm.trans hx)
      subst ei
      rw [si_ne (by omega)] at q
      exact absurd e13 q
  · refine k _ _ h20 (fun post' k' => ?_)
    have e := (h.1.2.2.1 i hi).1
    refine m_back 97 n x σ _ h.M hn h.h90 (fun a => absurd hx (a i hi)) (fun i' hi' hx' q => ?_) (fun _ _ _ _ => k' _ n h)
    have ei : i' = i := (nI_eq (by omega) (by omega)).mp (hx'.symm.trans hx)
    subst ei
    exact absurd (e.trans q) hw
theorem p_lane (x y z : Int32) : Pair 27 64 [.inl x, .inl y, .inl z] := by
  intro σ n h post k
  have h20 := h.h20
  refine c_lane 97 n x y z σ _ h.B (fun a => ?_) (fun l hl hx q1 q2 q3 q4 q5 => ?_) (fun l hl hx q1 q2 q3 q4 q5 => ?_)
  · refine k _ _ h20 (fun post' k' => ?_)
    exact m_lane 97 x y z σ _ h.M (fun _ => k' _ n h) (fun l hl hx q1 q2 q3 q4 _ => absurd ⟨⟨l, hl, hx⟩, ⟨q1, q2⟩, ⟨q3, q4⟩⟩ a) (fun l hl hx q1 q2 q3 q4 _ => absurd ⟨⟨l, hl, hx⟩, ⟨q1, q2⟩, ⟨q3, q4⟩⟩ a)
  · have cl := h.1.2.2.2.2 l hl
    have m0 : mm σ l = 0 := by
      rw [cl.2.2.1] at q5
      have : nI (mm σ l) ≤ nI 0 := q5
      rw [nI_leI (by have := cl.1; omega) (by decide)] at this
      omega
    have e17 : σ.2.1 17 l = 0 := by rw [cl.2.1, m0]; exact nI_0
    refine k _ _ h20 (fun post' k' => ?_)
    have e17' : ∀ j, (fd_si (fd_si σ (5 + l) 1 y) (5 + l) 2 z).2.1 17 j = σ.2.1 17 j := fun j => by rw [si_ne (by omega), si_ne (by omega)]
    refine m_lane 97 x y z _ _ h.M (fun a => absurd ⟨⟨l, hl, hx⟩, ⟨q1, q2⟩, ⟨q3, q4⟩⟩ a) (fun l' hl' hx' _ _ _ _ _ => ?_) (fun l' hl' hx' _ _ _ _ q => ?_)
    · have ei : l' = l := (nI_eq (by omega) (by omega)).mp (hx'.symm.trans hx)
      subst ei
      refine k' _ n ⟨Core_lane h.1 hl m0 q3 q4, Cs_c (σ := σ) (fun a j q => ?_) h.2.2.2.2.1 h.2⟩
      rw [si_at, si_at, si_at, si_at, if_neg (by omega), if_neg (by omega), if_neg (by omega), if_neg (by omega)]
    · have ei : l' = l := (nI_eq (by omega) (by omega)).mp (hx'.symm.trans hx)
      subst ei
      rw [e17', e17] at q
      exact absurd (Int32.le_refl 0) q
  · have cl := h.1.2.2.2.2 l hl
    refine k _ _ h20 (fun post' k' => ?_)
    refine m_lane 97 x y z _ _ h.M (fun a => absurd ⟨⟨l, hl, hx⟩, ⟨q1, q2⟩, ⟨q3, q4⟩⟩ a) (fun l' hl' hx' _ _ _ _ q => ?_) (fun _ _ _ _ _ _ _ _ => k' _ n h)
    have ei : l' = l := (nI_eq (by omega) (by omega)).mp (hx'.symm.trans hx)
    subst ei
    rw [cl.2.1, ← cl.2.2.1] at q
    exact absurd q q5
theorem p_trace (x : Int32) : Pair 26 62 [.inl x] := by
  intro σ n h post k
  have h20 := h.h20
  obtain ⟨s1, s2, s3, s4, t, b1, b2, b3, b4⟩ := h.2
  obtain ⟨_, _, _, _, r0, r2, r3, r30, _⟩ := h.B
  refine c_trace 97 x σ _ h20 r3 r30 t b1 b2 (fun i hi hx => ?_) (fun a => ?_)
  · refine k _ _ h20 (fun post' k' => ?_)
    refine m_trace 97 x σ _ h.M t b1 b3 (fun i' hi' hx' => ?_) (fun a => absurd hx (a i hi))
    have ei : i' = i := (nI_eq (by omega) (by omega)).mp (hx'.symm.trans hx)
    subst ei
    rw [← b4 i' hi]
    exact k' _ n h
  · refine k _ _ h20 (fun post' k' => ?_)
    exact m_trace 97 x σ _ h.M t b1 b3 (fun i' hi' hx' => absurd hx' (a i' hi')) (fun _ => k' _ n h)
theorem cn_mcn {σ : fd_S} {v : Int32} : ∀ {n : Nat}, (∀ i, i < n → σ.2.1 (20 + i) 9 = σ.2.1 13 i) → cn σ v n = mcn σ v n
  | 0, _ => rfl
  | n + 1, h => by
    have ih := cn_mcn (σ := σ) (v := v) (n := n) (fun i hi => h i (by omega))
    simp only [cn, mcn]
    rw [h n (Nat.lt_succ_self n), ih]
    by_cases q : σ.2.1 13 n = v
    · rw [if_pos q, if_pos q]
    · rw [if_neg q, if_neg q]; grind
theorem p_count (x : Int32) : Pair 35 77 [.inl x] := by
  intro σ n h post k
  have h20 := h.h20
  have hn := h.n60
  obtain ⟨s1, s2, s3, s4, t, b1, b2, b3, b4⟩ := h.2
  have hc : ∀ v, cn σ v n = mcn σ v n := fun v => cn_mcn (fun i hi => (h.1.2.2.1 i hi).1)
  have key : ∀ j, j ≤ 5 → ccv σ n j = mcv σ n j := by
    intro j hj
    match j, hj with
    | 0, _ => exact h.B.2.2.2.1.trans h.h90.symm
    | 1, _ => exact hc 0
    | 2, _ => exact hc 1
    | 3, _ => exact hc 2
    | 4, _ => exact s3
    | 5, _ => exact s2
  refine c_count 96 n x σ _ h.B (fun a => ?_) (fun j hj hx => ?_)
  · refine k _ _ h20 (fun post' k' => ?_)
    refine m_count 98 n x σ _ h.M hn h.h90 (fun _ => k' _ n h) (fun j hj hx => ?_)
    exact absurd ⟨by rw [hx]; exact nI_pos' (by omega), by rw [hx]; exact nI_le hj (by decide)⟩ (ts_out (N := 5) (by decide) a)
  · refine k _ _ h20 (fun post' k' => ?_)
    refine m_count 98 n x σ _ h.M hn h.h90 (fun a => absurd ⟨by rw [hx]; exact nI_pos' (by omega), by rw [hx]; exact nI_le hj (by decide)⟩ a) (fun j' hj' hx' => ?_)
    have ei : j' = j := (nI_eq (by omega) (by omega)).mp (hx'.symm.trans hx)
    subst ei
    rw [← key j' hj]
    exact k' _ n h
theorem p_till (σ : fd_S) (n : Nat) (h : Cp σ n) (post : Option fd_V → fd_S → Prop) (k : ∀ (v : Int64), (∀ post' : Option fd_V → fd_S → Prop, post' (some (.inr (.inl v))) σ → fd_Sem 100 78 [rf 9] σ post') → post (some (.inr (.inl v))) σ) : fd_Sem 100 36 [rf 0] σ post := by
  have h20 := h.h20
  refine c_till 99 σ _ h20 (k _ (fun post' k' => ?_))
  refine m_till 99 σ _ h20 ?_
  rw [← h.2.2.2.2.1]
  exact k'
end
section
theorem an_len (sz ld s : Int32) : ∀ w k, w < 6 → k < 7 → (an_w k sz ld s 16 k w).2.length ≤ 10
  | 0, 0, _, _ => by rw [at_0_0]; decide
  | 0, 1, _, _ => by rw [at_0_1]; decide
  | 0, 2, _, _ => by rw [at_0_2]; decide
  | 0, 3, _, _ => by rw [at_0_3]; decide
  | 0, 4, _, _ => by rw [at_0_4]; decide
  | 0, 5, _, _ => by rw [at_0_5]; decide
  | 0, 6, _, _ => by rw [at_0_6]; decide
  | 1, 0, _, _ => by rw [at_1_0]; decide
  | 1, 1, _, _ => by rw [at_1_1]; decide
  | 1, 2, _, _ => by rw [at_1_2]; decide
  | 1, 3, _, _ => by rw [at_1_3]; decide
  | 1, 4, _, _ => by rw [at_1_4]; decide
  | 1, 5, _, _ => by rw [at_1_5]; decide
  | 1, 6, _, _ => by rw [at_1_6]; decide
  | 2, 0, _, _ => by rw [at_2_0]; decide
  | 2, 1, _, _ => by rw [at_2_1]; decide
  | 2, 2, _, _ => by rw [at_2_2]; decide
  | 2, 3, _, _ => by rw [at_2_3]; decide
  | 2, 4, _, _ => by rw [at_2_4]; decide
  | 2, 5, _, _ => by rw [at_2_5]; decide
  | 2, 6, _, _ => by rw [at_2_6]; decide
  | 3, 0, _, _ => by rw [at_3_0]; decide
  | 3, 1, _, _ => by rw [at_3_1]; decide
  | 3, 2, _, _ => by rw [at_3_2]; decide
  | 3, 3, _, _ => by rw [at_3_3]; decide
  | 3, 4, _, _ => by rw [at_3_4]; decide
  | 3, 5, _, _ => by rw [at_3_5]; decide
  | 3, 6, _, _ => by rw [at_3_6]; decide
  | 4, 0, _, _ => by rw [at_4_0]; decide
  | 4, 1, _, _ => by rw [at_4_1]; decide
  | 4, 2, _, _ => by rw [at_4_2]; decide
  | 4, 3, _, _ => by rw [at_4_3]; decide
  | 4, 4, _, _ => by rw [at_4_4]; decide
  | 4, 5, _, _ => by rw [at_4_5]; decide
  | 4, 6, _, _ => by rw [at_4_6]; decide
  | 5, 0, _, _ => by rw [at_5_0]; decide
  | 5, 1, _, _ => by rw [at_5_1]; decide
  | 5, 2, _, _ => by rw [at_5_2]; decide
  | 5, 3, _, _ => by rw [at_5_3]; decide
  | 5, 4, _, _ => by rw [at_5_4]; decide
  | 5, 5, _, _ => by rw [at_5_5]; decide
  | 5, 6, _, _ => by rw [at_5_6]; decide
  | _ + 6, _, h, _ => by omega
  | 0, _ + 7, _, h => by omega
  | 1, _ + 7, _, h => by omega
  | 2, _ + 7, _, h => by omega
  | 3, _ + 7, _, h => by omega
  | 4, _ + 7, _, h => by omega
  | 5, _ + 7, _, h => by omega
/-- where the model's row says that a vehicle stands, and what the vehicle's own fields say -/
theorem FM_c {σ : fd_S} {n i : Nat} (h : Core σ n) (hi : i < n) : FM σ (mm σ) (nI i) (σ.2.1 (20 + i) 10) (σ.2.1 (20 + i) 11) := by
  have hn := h.n60
  have cd := h.2.2.1 i hi
  by_cases q : σ.2.1 13 i = 1
  · obtain ⟨l, k, hl, hk, e⟩ := cd.2.2.1 q
    have cs := h.2.2.2.1 l k hl hk
    refine Or.inl ⟨l, k, hl, hk, by rw [← e]; exact cs.1, fun l' k' hl' hk' hne e2 => ?_, by rw [← e]; exact cs.2.2.2.1, by rw [← e]; exact cs.2.2.2.2.1⟩
    have cs' := h.2.2.2.1 l' k' hl' hk'
    rw [cs'.1, nI_eq (by have := cs'.2.1; omega) (by omega)] at e2
    have := h.inj hl' hk' hl hk (e2.trans e.symm)
    omega
  · refine Or.inr ⟨fun l k hl hk e => ?_, (cd.2.2.2 q).1, (cd.2.2.2 q).2⟩
    have cs := h.2.2.2.1 l k hl hk
    rw [cs.1, nI_eq (by have := cs.2.1; omega) (by omega)] at e
    exact q (by rw [← e]; exact cs.2.2.1)
theorem p_told (x w : Int32) : Pair 33 75 [.inl x, .inl w] := by
  intro σ n h post k
  have h20 := h.h20
  have hn := h.n60
  have hm : ∀ l, l < 4 → mm σ l ≤ 60 ∧ σ.2.1 17 l = nI (mm σ l) := fun l hl => ⟨(h.1.2.2.2.2 l hl).1, (h.1.2.2.2.2 l hl).2.1⟩
  have key : ∀ i j, i < n → j ≤ 6 → ctv σ (20 + i) j = mtv σ (σ.2.1 (20 + i) 10) (σ.2.1 (20 + i) 11) i j := by
    intro i j hi hj
    have cv := h.1.2.1 i hi
    have cd := h.1.2.2.1 i hi
    obtain ⟨v1, v2, v3, v4, v5, v6, v7, v8, v9, v10, v11, v12, v13⟩ := id cv
    match j, hj with
    | 0, _ => exact v6
    | 1, _ => exact cd.1
    | 2, _ => rfl
    | 3, _ => rfl
    | 4, _ => exact cd.2.1
    | 5, _ =>
      show (if σ.2.1 (20 + i) 7 = -3 then 0 else 1) = (if hvy (kd σ i) = true then 1 else 0)
      rw [v12]
      have := q_toll cv
      by_cases q : hvy (kd σ i) = true
      · rw [if_pos q, if_neg (fun e => by rw [this.mp e] at q; cases q)]
      · rw [if_neg q, if_pos (this.mpr (by simpa using q))]
    | 6, _ =>
      show (if σ.2.1 (20 + i) 8 = -3 then 0 else 1) = (if mrk (kd σ i) = true then 1 else 0)
      rw [v13]
      have := q_dang cv
      by_cases q : mrk (kd σ i) = true
      · rw [if_pos q, if_neg (fun e => by rw [this.mp e] at q; cases q)]
      · rw [if_neg q, if_pos (this.mpr (by simpa using q))]
  have no : ∀ j, j ≤ 6 → w = nI j → ¬ (w.toInt < 0 ∨ (6 : Int) < w.toInt) := fun j hj hw a => absurd ⟨by rw [hw]; exact nI_pos' (by omega), by rw [hw]; exact nI_le hj (by decide)⟩ (ts_out (N := 6) (by decide) a)
  refine c_told 97 n x w σ _ h.B (fun a => ?_) (fun a => ?_) (fun i j hi hx hj hw => ?_)
  · refine k _ _ h20 (fun post' k' => ?_)
    exact m_told 97 n (mm σ) x w σ _ h.M hn h.h90 hm (fun _ => k' _ n h) (fun _ => k' _ n h) (fun i hi hx => absurd hx (a i hi))
  · refine k _ _ h20 (fun post' k' => ?_)
    exact m_told 97 n (mm σ) x w σ _ h.M hn h.h90 hm (fun _ => k' _ n h) (fun _ => k' _ n h) (fun i hi hx => ⟨h.1.Vi hi, _, _, by rw [hx]; exact FM_c h.1 hi, fun j hj hw => absurd a (no j hj hw)⟩)
  · refine k _ _ h20 (fun post' k' => ?_)
    refine m_told 97 n (mm σ) x w σ _ h.M hn h.h90 hm (fun a => absurd hx (a i hi)) (fun a => ?_) (fun i' hi' hx' => ?_)
    · exact absurd ⟨by rw [hw]; exact nI_pos' (by omega), by rw [hw]; exact nI_le hj (by decide)⟩ a
    · have ei : i' = i := (nI_eq (by omega) (by omega)).mp (hx'.symm.trans hx)
      subst ei
      refine ⟨h.1.Vi hi, _, _, by rw [hx]; exact FM_c h.1 hi, fun j' hj' hw' => ?_⟩
      have ej : j' = j := (nI_eq (by omega) (by omega)).mp (hw'.symm.trans hw)
      subst ej
      rw [← key i' j' hi hj]
      exact k' _ n h
theorem Cp_q {σ τ : fd_S} {n t : Nat} (h : Cp σ n) (ht : σ.2.1 9 14 = nI t) (ht10 : t ≤ 10) (hq : SE (JQ t) σ τ) : Cp τ n := by
  obtain ⟨s1, s2, s3, s4, t', b1, b2, b3, b4⟩ := h.2
  have e : t' = t := (nI_eq (by omega) (by omega)).mp (b3.symm.trans ht)
  subst e
  obtain ⟨z1, z2, z3, z4⟩ := hq
  have f : ∀ i j, i ≠ 19 → τ.2.1 i j = σ.2.1 i j := fun i j hi => z4 i j (fun q => hi q.1)
  refine ⟨Core_c z1 z2 (fun i j hj => f i j (fun q => hj (by unfold J0; omega))) h.1, ?_, ?_, ?_, by rw [z3]; exact s4, t', b1, ?_, ?_, fun j hj => ?_⟩
  · rw [f 3 2 (by decide)]; exact s1
  · rw [f 0 4 (by decide), f 9 10 (by decide)]; exact s2
  · rw [f 0 5 (by decide), f 9 11 (by decide)]; exact s3
  · rw [f 3 1 (by decide)]; exact b2
  · rw [f 9 14 (by decide)]; exact b3
  · rw [f 4 j (by decide), z4 19 j (fun q => by have := q.2; omega)]; exact b4 j hj
theorem p_deck (x w : Int32) : Pair 34 76 [.inl x, .inl w] := by
  intro σ n h post k
  have h20 := h.h20
  have hn := h.n60
  obtain ⟨s1, s2, s3, s4, t, b1, b2, b3, b4⟩ := h.2
  have hS : ∀ l, l < 4 → Vs σ l (mm σ l) := fun l hl => h.1.Vs hl
  have key : ∀ l j, l < 4 → j ≤ 5 → cdv σ (5 + l) j (nof σ (σ.2.2.1 (5 + l) 7)) (nof σ (σ.2.2.1 (5 + l) 8)) = mdv σ l (mm σ l) j := by
    intro l j hl hj
    obtain ⟨a1, a2, a3, a4, a5, a6, a7, a8, a9, a10, a11, a12, a13, a14⟩ := h.1.2.2.2.2 l hl
    match j, hj with
    | 0, _ =>
      show σ.2.1 (5 + l) 1 - σ.2.1 (5 + l) 3 = sL σ l (mm σ l)
      rw [a5]; exact a7
    | 1, _ =>
      show σ.2.1 (5 + l) 2 - σ.2.1 (5 + l) 4 = σ.2.1 16 l - sM σ l (mm σ l)
      rw [a6, a8]
    | 2, _ => exact a3
    | 3, _ => exact a9
    | 4, _ =>
      show nof σ (σ.2.2.1 (5 + l) 7) = if mm σ l = 0 then -1 else σ.2.1 18 (60 * l + 0)
      rw [a11]
      by_cases q : mm σ l = 0
      · rw [if_pos q, if_pos q]; rfl
      · rw [if_neg q, if_neg q]
        have cs := h.1.2.2.2.1 l 0 hl (by omega)
        show σ.2.1 (20 + sv σ l 0) 0 = _
        rw [cs.1]
        exact (h.1.2.1 _ cs.2.1).2.2.2.2.1
    | 5, _ =>
      show nof σ (σ.2.2.1 (5 + l) 8) = if mm σ l = 0 then -1 else σ.2.1 18 (60 * l + (mm σ l - 1))
      rw [a10]
      by_cases q : mm σ l = 0
      · rw [if_pos q, if_pos q]; rfl
      · rw [if_neg q, if_neg q]
        have cs := h.1.2.2.2.1 l (mm σ l - 1) hl (by omega)
        show σ.2.1 (20 + sv σ l (mm σ l - 1)) 0 = _
        rw [cs.1]
        exact (h.1.2.1 _ cs.2.1).2.2.2.2.1
  have no : ∀ j, j ≤ 5 → w = nI j → ¬ (w.toInt < 0 ∨ (5 : Int) < w.toInt) := fun j hj hw a => absurd ⟨by rw [hw]; exact nI_pos' (by omega), by rw [hw]; exact nI_le hj (by decide)⟩ (ts_out (N := 5) (by decide) a)
  refine c_deck 97 n x w σ _ h.B h.1.fl (fun a => ?_) (fun a => ?_) (fun l j hl hx hj hw => ?_)
  · refine k _ _ h20 (fun post' k' => ?_)
    exact m_deck 93 t (mm σ) x w σ _ h.M hS b3 b1 (fun _ => k' _ n h) (fun _ => k' _ n h) (fun l j hl hx => absurd hx (a l hl))
  · refine k _ _ h20 (fun post' k' => ?_)
    exact m_deck 93 t (mm σ) x w σ _ h.M hS b3 b1 (fun _ => k' _ n h) (fun _ => k' _ n h) (fun l j hl hx hj hw => absurd a (no j hj hw))
  · refine k _ _ h20 (fun post' k' => ?_)
    refine m_deck 93 t (mm σ) x w σ _ h.M hS b3 b1 (fun a => absurd hx (a l hl)) (fun a => ?_) (fun l' j' hl' hx' hj' hw' τ hτ => ?_)
    · exact absurd ⟨by rw [hw]; exact nI_pos' (by omega), by rw [hw]; exact nI_le hj (by decide)⟩ a
    · have ei : l' = l := (nI_eq (by omega) (by omega)).mp (hx'.symm.trans hx)
      have ej : j' = j := (nI_eq (by omega) (by omega)).mp (hw'.symm.trans hw)
      subst ei
      subst ej
      rw [← key l' j' hl hj]
      exact k' _ n (Cp_q h b3 b1 hτ)
theorem p_vehicle (x s l : Int32) : Pair 24 51 [.inl x, .inl s, .inl l] := by
  intro σ n h post k
  have h20 := h.h20
  have hn := h.n60
  have hN := h.1.N
  obtain ⟨s1, s2, s3, s4, t, b1, b2, b3, b4⟩ := h.2
  refine c_vehicle 38 n x s l σ _ h.B hN h.1.1.2.2.2.2 t b1 b2 s1 (fun a => ?_) (fun a a60 => ?_) (fun kk hkk hx a hlt τ hV => ?_)
  · refine k _ _ h20 (fun post' k' => ?_)
    exact m_vehicle 98 n x s l σ _ h.M hn h.h90 (fun _ => k' _ n h) (fun q => absurd q a) (fun q => absurd q a)
  · refine k _ _ h20 (fun post' k' => ?_)
    exact m_vehicle 98 n x s l σ _ h.M hn h.h90 (fun q => absurd a q) (fun _ _ => k' _ n h) (fun _ q => by omega)
  · subst hx
    obtain ⟨p1, p2, p3, p4, p5, _⟩ := id hV
    refine k _ _ (by omega) (fun post' k' => ?_)
    have r9 : ∀ j, τ.2.2.1 9 j = σ.2.2.1 9 j := fun j => by rw [p2]; show (if 9 = σ.1 then none else if 9 = 1 ∧ j = n then some σ.1 else σ.2.2.1 9 j) = _; rw [if_neg (by omega), if_neg (by omega)]
    have mB : Mb τ := by
      have hM := h.M
      unfold Mb at hM ⊢
      simp only [r9]
      exact ⟨by omega, hM.2⟩
    have e9 : τ.2.1 9 0 = nI n := by rw [p4 9 0 (by omega) (by omega) (fun q => absurd q.1 (by decide))]; exact h.h90
    refine m_vehicle 98 n (nI kk) s l τ _ mB hn e9 (fun q => absurd a q) (fun _ q => by omega) (fun _ _ => ?_)
    refine k' _ (n + 1) ⟨Core_veh h.1 hlt hkk a hV, Cs_c (σ := σ) (fun i j q => ?_) ?_ h.2⟩
    · unfold mv_s
      rw [si_at, si_at, si_at, si_at, si_at, si_at, if_neg (by omega), if_neg (by omega), if_neg (by omega), if_neg (by omega), if_neg (by omega), if_neg (by omega)]
      exact p4 i j (by omega) (by omega) (fun q2 => by have := q2.1; have := q2.2; omega)
    · show τ.2.2.2 0 6 = τ.2.2.2 9 12
      rw [p3 0 6 (by omega), p3 9 12 (by omega)]
      exact s4
/-- what the trace is, once told -/
theorem TRs_on : ∀ (l : List Int32) (σ : fd_S) (t : Nat), σ.2.1 3 2 = 1 → σ.2.1 3 1 = nI t → t + l.length ≤ 10 → (TRs σ l).1 = σ.1 ∧ (TRs σ l).2.2.1 = σ.2.2.1 ∧ (TRs σ l).2.2.2 = σ.2.2.2 ∧ (TRs σ l).2.1 3 1 = nI (t + l.length) ∧ (∀ i j, ¬ (i = 4 ∧ t ≤ j) → ¬ (i = 3 ∧ j = 1) → (TRs σ l).2.1 i j = σ.2.1 i j) ∧ ∀ j, j < l.length → (TRs σ l).2.1 4 (t + j) = l.getD j 0
  | [], σ, t, _, h1, _ => ⟨rfl, rfl, rfl, h1, fun _ _ _ _ => rfl, fun j hj => absurd hj (Nat.not_lt_zero j)⟩
  | b :: l, σ, t, h2, h1, hl => by
    have hl' : t + 1 + l.length ≤ 10 := by simp only [List.length_cons] at hl; omega
    have e : TR σ b = fd_si (fd_si σ 4 t b) 3 1 (nI (t + 1)) := by
      unfold TR
      rw [if_neg (by rw [h2]; decide), if_neg (by rw [h1]; show ¬ nI 10 ≤ nI t; rw [nI_leI (by decide) (by omega)]; omega), h1, nI_clamp (by omega), nI_1]
    have e2 : TRs σ (b :: l) = TRs (fd_si (fd_si σ 4 t b) 3 1 (nI (t + 1))) l := by show TRs (TR σ b) l = _; rw [e]
    have ih := TRs_on l (fd_si (fd_si σ 4 t b) 3 1 (nI (t + 1))) (t + 1) (by rw [si_ne2 (by decide), si_ne (by decide)]; exact h2) si_eq hl'
    rw [e2]
    obtain ⟨i1, i2, i3, i4, i5, i6⟩ := ih
    refine ⟨i1, i2, i3, ?_, fun i j a1 a2 => ?_, fun j hj => ?_⟩
    · rw [i4]; congr 1; simp only [List.length_cons]; omega
    · rw [i5 i j (by omega) a2, si_at, si_at, if_neg a2, if_neg (by omega)]
    · match j, hj with
      | 0, _ => rw [i5 4 (t + 0) (by omega) (by omega), si_at, si_at, if_neg (by omega), if_pos ⟨rfl, rfl⟩]; rfl
      | j + 1, hj =>
        have : t + (j + 1) = t + 1 + j := by omega
        rw [this, i6 j (by simp only [List.length_cons] at hj; omega)]
        rfl
theorem p_ask (x w s : Int32) : Pair 25 61 [.inl x, .inl w, .inl s] := by
  intro σ n h post k
  have h20 := h.h20
  have hn := h.n60
  obtain ⟨s1, s2, s3, s4, t, b1, b2, b3, b4⟩ := h.2
  refine c_ask 38 n x w s σ _ h.B (fun a => ?_) (fun i j hi hx hj hw hs => ?_)
  · refine k _ _ h20 (fun post' k' => ?_)
    refine m_ask 95 n x w s σ _ h.M hn h.h90 (fun _ => k' _ n h) (fun i j hi hx hj hw hs => absurd ⟨⟨i, hi, hx⟩, ⟨?_, ?_⟩, hs⟩ a)
    · rw [hw]; exact nI_pos' (by omega)
    · rw [hw]; exact nI_le (b := 5) (by omega) (by decide)
  · obtain ⟨v1, v2, v3, v4, v5, v6, v7, v8, v9, v10, v11, v12, v13⟩ := h.1.2.1 i hi
    refine ⟨kd σ i, v1, v6.trans v2, ?_⟩
    rw [v7, v8]
    have hlen := an_len (σ.2.1 11 i) (σ.2.1 12 i) s j (kd σ i) hj v1
    generalize hA : an_w (kd σ i) (σ.2.1 11 i) (σ.2.1 12 i) s 16 (kd σ i) j = A at hlen
    have TS := TRs_on A.2 (AK (fd_si (fd_si σ 3 1 0) 3 2 1) (20 + i) s) 0 (by show (fd_si (fd_si σ 3 1 0) 3 2 1).2.1 3 2 = 1; exact si_eq) (by show (fd_si (fd_si σ 3 1 0) 3 2 1).2.1 3 1 = nI 0; rw [si_ne2 (by decide)]; exact si_eq) (by omega)
    obtain ⟨i1, i2, i3, i4, i5, i6⟩ := TS
    have q1 : (AT σ (20 + i) s A.2).1 = σ.1 := i1
    have q2 : (AT σ (20 + i) s A.2).2.2.1 = σ.2.2.1 := i2
    have q3 : (AT σ (20 + i) s A.2).2.2.2 = σ.2.2.2 := i3
    have q4 : (AT σ (20 + i) s A.2).2.1 3 1 = nI A.2.length := by
      show (fd_si _ 3 2 0).2.1 3 1 = _
      rw [si_ne2 (by decide), i4, Nat.zero_add]
    have q5 : (AT σ (20 + i) s A.2).2.1 3 2 = 0 := si_eq
    have q6 : ∀ j, j < A.2.length → (AT σ (20 + i) s A.2).2.1 4 j = A.2.getD j 0 := by
      intro j hj
      have := i6 j hj
      rw [Nat.zero_add] at this
      show (fd_si _ 3 2 0).2.1 4 j = _
      rw [si_ne (by decide)]; exact this
    have q7 : ∀ a j, a ≠ 3 → a ≠ 4 → (AT σ (20 + i) s A.2).2.1 a j = σ.2.1 a j := by
      intro a j c1 c2
      show (fd_si _ 3 2 0).2.1 a j = _
      rw [si_ne c1, i5 a j (fun q => c2 q.1) (fun q => c1 q.1)]
      show (if a = 3 then _ else (fd_si (fd_si σ 3 1 0) 3 2 1).2.1 a j) = _
      rw [if_neg c1, si_ne c1, si_ne c1]
    generalize AT σ (20 + i) s A.2 = π at *
    have mB : Mb π := by
      have hM := h.M
      unfold Mb at hM ⊢
      rw [q1, q2]
      exact hM
    refine k _ _ (by omega) (fun post' k' => ?_)
    have hw5 : 0 ≤ w ∧ w ≤ 5 := ⟨by rw [hw]; exact nI_pos' (by omega), by rw [hw]; exact nI_le (b := 5) (by omega) (by decide)⟩
    refine m_ask 95 n x w s π _ mB hn (by rw [q7 9 0 (by decide) (by decide)]; exact h.h90) (fun a => absurd ⟨⟨i, hi, hx⟩, hw5, hs⟩ a) (fun i' j' hi' hx' hj' hw' _ => ?_)
    · have ei : i' = i := (nI_eq (by omega) (by omega)).mp (hx'.symm.trans hx)
      have ej : j' = j := (nI_eq (by omega) (by omega)).mp (hw'.symm.trans hw)
      subst ei
      subst ej
      refine ⟨kd σ i', v1, by rw [q7 10 _ (by decide) (by decide)]; exact v2, ?_⟩
      rw [q7 11 _ (by decide) (by decide), q7 12 _ (by decide) (by decide), hA]
      intro τ hτ
      obtain ⟨⟨z1, z2, z3, z4⟩, y1, y2⟩ := hτ
      have z4' : ∀ a j, a ≠ 19 → ¬ (a = 9 ∧ j = 14) → τ.2.1 a j = π.2.1 a j := fun a j c1 c2 => by
        rw [z4 a j (fun q => by rcases q with q | q; exact c1 q.1; exact c2 q), si_at, if_neg c2]
      refine k' _ n ⟨Core_c (σ := σ) (z1.trans q1) (z2.trans q2) (fun a j hj => ?_) h.1, ?_, ?_, ?_, ?_, A.2.length, hlen, ?_, ?_, fun j hj => ?_⟩
      · rw [z4' a j (fun q => hj (by unfold J0; omega)) (fun q => hj (by unfold J0; omega)), q7 a j (fun q => hj (by unfold J0; omega)) (fun q => hj (by unfold J0; omega))]
      · rw [z4' 3 2 (by decide) (by omega)]; exact q5
      · rw [z4' 0 4 (by decide) (by omega), z4' 9 10 (by decide) (by omega), q7 0 4 (by decide) (by decide), q7 9 10 (by decide) (by decide)]; exact s2
      · rw [z4' 0 5 (by decide) (by omega), z4' 9 11 (by decide) (by omega), q7 0 5 (by decide) (by decide), q7 9 11 (by decide) (by decide)]; exact s3
      · rw [z3]
        show π.2.2.2 0 6 = π.2.2.2 9 12
        rw [q3]; exact s4
      · rw [z4' 3 1 (by decide) (by omega)]; exact q4
      · rw [y1, Nat.zero_add]
      · rw [z4' 4 j (by decide) (by omega), q6 j hj]
        have := y2 j hj
        rw [Nat.zero_add] at this
        exact this.symm
end
section
theorem sl_at {σ : fd_S} {a k i j : Nat} {v : Int64} : (fd_sl σ a k v).2.2.2 i j = if i = a ∧ j = k then v else σ.2.2.2 i j := by
  show fd_u σ.2.2.2 a k v i j = _
  unfold fd_u
  by_cases h1 : i = a
  · by_cases h2 : j = k
    · rw [if_pos h1, if_pos h2, if_pos ⟨h1, h2⟩]
    · rw [if_pos h1, if_neg h2, if_neg (fun q => h2 q.2)]
  · rw [if_neg h1, if_neg (fun q => h1 q.1)]
/-- the model's rows as they were -/
theorem Vs_c {σ τ : fd_S} {l m : Nat} (h : ∀ a j, 10 ≤ a → a < 19 → a ≠ 13 → τ.2.1 a j = σ.2.1 a j) (hv : Vs σ l m) : Vs τ l m := by
  refine ⟨hv.1, by rw [h 17 _ (by decide) (by decide) (by decide)]; exact hv.2.1, fun k hk => ?_⟩
  have e : sv τ l k = sv σ l k := sv_c (h 18 _ (by decide) (by decide) (by decide))
  have ek : kd τ (sv σ l k) = kd σ (sv σ l k) := kd_c (h 10 _ (by decide) (by decide) (by decide))
  obtain ⟨q1, q2⟩ := hv.2.2 k hk
  rw [e, h 18 _ (by decide) (by decide) (by decide)]
  refine ⟨q1, q2.1, by rw [ek]; exact q2.2.1, by rw [ek, h 10 _ (by decide) (by decide) (by decide)]; exact q2.2.2⟩
theorem Vi_c {σ τ : fd_S} {i : Nat} (h : τ.2.1 10 i = σ.2.1 10 i) (hv : Vi σ i) : Vi τ i := by
  unfold Vi at *
  rw [kd_c h, h]
  exact hv
theorem p_off (x : Int32) : Pair 30 70 [.inl x] := by
  intro σ n h post k
  have h20 := h.h20
  have hn := h.n60
  obtain ⟨s1, s2, s3, s4, t, b1, b2, b3, b4⟩ := h.2
  have hS : ∀ l, l < 4 → Vs σ l (mm σ l) := fun l hl => h.1.Vs hl
  refine c_off 97 n x σ _ h.B h.1.fl (fun a => ?_) (fun l hl hx h8 => ?_) (fun l b hl hx h8 => ?_)
  · refine k _ _ h20 (fun post' k' => ?_)
    exact m_off 97 (mm σ) x σ _ h.M hS (fun _ => k' _ n h) (fun l hl hx => absurd hx (a l hl)) (fun l hl hx => absurd hx (a l hl))
  · have cl := h.1.2.2.2.2 l hl
    have m0 : mm σ l = 0 := by
      have := cl.2.2.2.2.2.2.2.2.2.1
      rw [h8] at this
      by_cases q : mm σ l = 0
      · exact q
      · rw [if_neg q] at this; cases this
    refine k _ _ h20 (fun post' k' => ?_)
    refine m_off 97 (mm σ) x σ _ h.M hS (fun a => absurd hx (a l hl)) (fun _ _ _ _ => k' _ n h) (fun l' hl' hx' q => ?_)
    have ei : l' = l := (nI_eq (by omega) (by omega)).mp (hx'.symm.trans hx)
    subst ei
    omega
  · have cl := h.1.2.2.2.2 l hl
    have hm : mm σ l ≠ 0 ∧ b = 20 + sv σ l (mm σ l - 1) := by
      have := cl.2.2.2.2.2.2.2.2.2.1
      rw [h8] at this
      by_cases q : mm σ l = 0
      · rw [if_pos q] at this; cases this
      · rw [if_neg q] at this; exact ⟨q, Option.some.inj this⟩
    obtain ⟨m0, eb⟩ := hm
    have cs := h.1.2.2.2.1 l (mm σ l - 1) hl (by omega)
    have hi0 := cs.2.1
    generalize ei : sv σ l (mm σ l - 1) = i0 at *
    subst eb
    have cd := h.1.2.2.1 i0 hi0
    have f : ∀ a j, (of_s σ (5 + l) (20 + i0)).2.1 a j = if a = 20 + i0 ∧ j = 13 then 0 else (rl_s σ (5 + l) (20 + i0) 0).2.1 a j := fun a j => by
      show (fd_si (rl_s σ (5 + l) (20 + i0) 0) (20 + i0) 13 0).2.1 a j = _
      rw [si_at]
    have f1 : ∀ a j, a ≠ 20 + i0 → a ≠ 5 + l → (of_s σ (5 + l) (20 + i0)).2.1 a j = σ.2.1 a j := fun a j q1 q2 => by
      rw [f, if_neg (by omega)]
      show (if a = 20 + i0 then _ else if a = 5 + l then _ else σ.2.1 a j) = _
      rw [if_neg q1, if_neg q2]
    have g : (of_s σ (5 + l) (20 + i0)).2.2.1 = (rl_s σ (5 + l) (20 + i0) 0).2.2.1 := rfl
    have g9 : ∀ j, (of_s σ (5 + l) (20 + i0)).2.2.1 9 j = σ.2.2.1 9 j := fun j => by
      show (if 9 = 20 + i0 then _ else if 9 = 5 + l then _ else σ.2.2.1 9 j) = _
      rw [if_neg (by omega), if_neg (by omega)]
    have gN : (of_s σ (5 + l) (20 + i0)).1 = σ.1 := rfl
    have gL : (of_s σ (5 + l) (20 + i0)).2.2.2 = (fd_sl σ 0 6 (σ.2.2.2 0 6 - (σ.2.1 (20 + i0) 13).toInt64)).2.2.2 := rfl
    generalize of_s σ (5 + l) (20 + i0) = π at *
    have mB : Mb π := by
      have hM := h.M
      unfold Mb at hM ⊢
      simp only [g9, gN]
      exact hM
    refine k _ _ (by omega) (fun post' k' => ?_)
    refine m_off 97 (mm σ) x π _ mB (fun l' hl' => Vs_c (fun a j q1 q2 _ => f1 a j (by omega) (by omega)) (hS l' hl')) (fun a => absurd hx (a l hl)) (fun l' hl' hx' q => ?_) (fun l' hl' hx' _ => ?_)
    · have ei : l' = l := (nI_eq (by omega) (by omega)).mp (hx'.symm.trans hx)
      subst ei
      omega
    · have el : l' = l := (nI_eq (by omega) (by omega)).mp (hx'.symm.trans hx)
      subst el
      have es : sv π l' (mm σ l' - 1) = i0 := by rw [sv_c (f1 18 _ (by omega) (by omega))]; exact ei
      have e14 : π.2.1 14 i0 = σ.2.1 (20 + i0) 13 := by rw [f1 14 _ (by omega) (by omega)]; exact cd.2.1.symm
      rw [es, e14]
      have cp := Core_pop (z := 0) h.1 hl (by omega) (by decide)
      unfold pop at cp
      rw [ei] at cp
      have w : ∀ a j, (mo_s π l' (mm σ l') i0).2.1 a j = if a = 14 ∧ j = i0 then 0 else if a = 13 ∧ j = i0 then 0 else if a = 17 ∧ j = l' then nI (mm σ l' - 1) else π.2.1 a j := fun a j => by
        show (fd_si (fd_si (fd_si π 17 l' (nI (mm σ l' - 1))) 13 i0 0) 14 i0 0).2.1 a j = _
        rw [si_at, si_at, si_at]
      refine k' _ n ⟨Core_p (τ := mo_s π l' (mm σ l') i0) ?_ ?_ (fun a j q1 q2 q3 => ?_) (fun i hi => ?_) cp, Cs_c (σ := σ) (fun a j q => ?_) ?_ h.2⟩
      · exact gN
      · exact g
      · rw [w, si_at, si_at, f, if_neg (by omega), if_neg (c := a = 20 + i0 ∧ j = 13) (by omega)]
      · rw [w, w, if_neg (by omega), if_neg (by omega), if_neg (by omega)]
        by_cases q : i = i0
        · subst q
          rw [if_pos ⟨rfl, rfl⟩, f, if_pos ⟨rfl, rfl⟩]
        · rw [if_neg (by omega), if_neg (by omega), if_neg (by omega), f1 _ _ (by omega) (by omega), f1 _ _ (by omega) (by omega)]
          exact (h.1.2.2.1 i hi).2.1
      · rw [w, if_neg (by omega), if_neg (by omega), if_neg (by omega)]
        exact f1 a j (by omega) (by omega)
      · show (fd_sl (fd_si (fd_si (fd_si π 17 l' (nI (mm σ l' - 1))) 13 i0 0) 14 i0 0) 9 12 (π.2.2.2 9 12 - (π.2.1 14 i0).toInt64)).2.2.2 0 6 = (fd_sl (fd_si (fd_si (fd_si π 17 l' (nI (mm σ l' - 1))) 13 i0 0) 14 i0 0) 9 12 (π.2.2.2 9 12 - (π.2.1 14 i0).toInt64)).2.2.2 9 12
        rw [sl_at, sl_at, if_neg (by omega), if_pos ⟨rfl, rfl⟩]
        show π.2.2.2 0 6 = _
        rw [gL, sl_at, sl_at, if_pos ⟨rfl, rfl⟩, if_neg (by omega), e14, s4]
end
section
theorem pig : ∀ (N m : Nat) (f : Nat → Nat), (∀ k, k < m → f k < N) → (∀ a b, a < m → b < m → f a = f b → a = b) → m ≤ N
  | 0, m, f, h1, _ => by
    by_cases q : m = 0
    · omega
    · exact absurd (h1 0 (by omega)) (by omega)
  | N + 1, m, f, h1, h2 => by
    by_cases q : m = 0
    · omega
    · obtain ⟨m', rfl⟩ : ∃ m', m = m' + 1 := ⟨m - 1, by omega⟩
      have hm : m' ≤ N := by
        refine pig N m' (fun k => if f k = N then f m' else f k) (fun k hk => ?_) (fun a b ha hb e => ?_)
        · have e1 := h1 k (by omega)
          have e2 := h1 m' (by omega)
          show (if f k = N then f m' else f k) < N
          by_cases z : f k = N
          · rw [if_pos z]
            have : f m' ≠ N := fun q => by
              have := h2 k m' (by omega) (by omega) (z.trans q.symm)
              omega
            omega
          · rw [if_neg z]; omega
        · have e : (if f a = N then f m' else f a) = (if f b = N then f m' else f b) := e
          by_cases za : f a = N
          · by_cases zb : f b = N
            · exact h2 a b (by omega) (by omega) (za.trans zb.symm)
            · rw [if_pos za, if_neg zb] at e
              have := h2 m' b (by omega) (by omega) e
              omega
          · by_cases zb : f b = N
            · rw [if_neg za, if_pos zb] at e
              have := h2 a m' (by omega) (by omega) e
              omega
            · rw [if_neg za, if_neg zb] at e
              exact h2 a b (by omega) (by omega) e
      omega
theorem Core.m60 {σ : fd_S} {n l i : Nat} (h : Core σ n) (hl : l < 4) (hi : i < n) (hw : σ.2.1 13 i ≠ 1) : mm σ l < 60 := by
  have hn := h.n60
  have hns : ∀ k, k < mm σ l → sv σ l k ≠ i := fun k hk e => hw (by rw [← e]; exact (h.2.2.2.1 l k hl hk).2.2.1)
  have := pig n (mm σ l + 1) (fun k => if k < mm σ l then sv σ l k else i) (fun k hk => by
    show (if k < mm σ l then sv σ l k else i) < n
    by_cases q : k < mm σ l
    · rw [if_pos q]; exact (h.2.2.2.1 l k hl q).2.1
    · rw [if_neg q]; exact hi) (fun a b ha hb e => by
    have e : (if a < mm σ l then sv σ l a else i) = (if b < mm σ l then sv σ l b else i) := e
    by_cases qa : a < mm σ l
    · by_cases qb : b < mm σ l
      · rw [if_pos qa, if_pos qb] at e
        exact (h.inj hl qa hl qb e).2
      · rw [if_pos qa, if_neg qb] at e
        exact absurd e (hns a qa)
    · by_cases qb : b < mm σ l
      · rw [if_neg qa, if_pos qb] at e
        exact absurd e.symm (hns b qb)
      · omega)
  omega
theorem room_c {σ : fd_S} {n l i : Nat} (h : Core σ n) (hl : l < 4) (hi : i < n) : room σ (5 + l) (20 + i) ↔ mroom σ l (mm σ l) i := by
  obtain ⟨a1, a2, a3, a4, a5, a6, a7, a8, a9, a10, a11, a12, a13, a14⟩ := h.2.2.2.2 l hl
  obtain ⟨v1, v2, v3, v4, v5, v6, v7, v8, v9, v10, v11, v12, v13⟩ := h.2.1 i hi
  unfold room mroom
  rw [v9, v10, a5, a7, a6, a8]
theorem near_c {σ : fd_S} {n l i : Nat} (h : Core σ n) (hl : l < 4) (hi : i < n) : near σ (5 + l) (20 + i) ↔ mnear σ l (mm σ l) i := by
  obtain ⟨a1, a2, a3, a4, a5, a6, a7, a8, a9, a10, a11, a12, a13, a14⟩ := h.2.2.2.2 l hl
  have cv := h.2.1 i hi
  obtain ⟨v1, v2, v3, v4, v5, v6, v7, v8, v9, v10, v11, v12, v13⟩ := id cv
  unfold near mnear
  rw [a10, v13]
  by_cases q : mm σ l = 0
  · rw [if_pos q]
    exact ⟨fun ⟨c, e, _⟩ => (by cases e), fun ⟨q2, _⟩ => (by omega)⟩
  · rw [if_neg q]
    have cs := h.2.2.2.1 l (mm σ l - 1) hl (by omega)
    have cv' := h.2.1 _ cs.2.1
    obtain ⟨u1, u2, u3, u4, u5, u6, u7, u8, u9, u10, u11, u12, u13⟩ := id cv'
    have t1 := q_dang cv
    have t2 := q_dang cv'
    refine ⟨fun ⟨c, e, c1, c2, c3⟩ => ?_, fun ⟨_, c1, c2, c3⟩ => ⟨_, rfl, ?_, ?_, ?_⟩⟩
    · have e := Option.some.inj e
      subst e
      rw [u13] at c1 c3
      refine ⟨by omega, ?_, ?_, c3⟩
      · cases z : mrk (kd σ i) with
        | true => rfl
        | false => exact absurd (t1.mpr z) c2
      · cases z : mrk (kd σ (sv σ l (mm σ l - 1))) with
        | true => rfl
        | false => exact absurd (t2.mpr z) c1
    · rw [u13]
      intro e
      rw [t2.mp e] at c2
      cases c2
    · intro e
      rw [t1.mp e] at c1
      cases c1
    · rw [u13]; exact c3
theorem pay_c {σ : fd_S} {n i : Nat} (h : Cp σ n) (hi : i < n) : pr σ (20 + i) (kd σ i) = mpay σ i := by
  have cv := h.1.2.1 i hi
  obtain ⟨v1, v2, v3, v4, v5, v6, v7, v8, v9, v10, v11, v12, v13⟩ := id cv
  have t1 := q_toll cv
  unfold pr mpay
  rw [v7, v8, v12, h.2.2.1]
  show (if qv σ 4 0 i = -3 then qv σ 3 (σ.2.1 9 10) i else qv σ 3 (σ.2.1 9 10) i + qv σ 4 0 i) = _
  by_cases q : hvy (kd σ i) = true
  · rw [if_pos q, if_neg (fun e => by rw [t1.mp e] at q; cases q)]
  · rw [if_neg q, if_pos (t1.mpr (by simpa using q))]
    grind
set_option maxHeartbeats 1000000 in
theorem p_board (x y : Int32) : Pair 29 69 [.inl x, .inl y] := by
  intro σ n h post k
  have h20 := h.h20
  have hn := h.n60
  obtain ⟨s1, s2, s3, s4, t, b1, b2, b3, b4⟩ := h.2
  have hS : ∀ l, l < 4 → Vs σ l (mm σ l) := fun l hl => h.1.Vs hl
  have hVi : ∀ i, i < n → Vi σ i := fun i hi => h.1.Vi hi
  refine c_board 38 n x y σ _ h.B t b1 b2 s1 h.1.fl (fun a => ?_) (fun i l hi hx hl hy => ?_)
  · refine k _ _ h20 (fun post' k' => ?_)
    exact m_board 93 n t (mm σ) x y σ _ h.M hn h.h90 hS hVi b3 b1 (fun _ => k' _ n h) (fun i l hi hx hl hy => absurd ⟨⟨i, hi, hx⟩, ⟨l, hl, hy⟩⟩ a)
  · have e9 := (h.1.2.2.1 i hi).1
    have rc := room_c h.1 hl hi
    have nc := near_c h.1 hl hi
    refine ⟨fun q => ?_, fun q q2 => ?_, fun q q2 q3 => ?_, fun q q2 q3 => ?_⟩
    · refine k _ _ h20 (fun post' k' => ?_)
      refine m_board 93 n t (mm σ) x y σ _ h.M hn h.h90 hS hVi b3 b1 (fun a => absurd ⟨⟨i, hi, hx⟩, ⟨l, hl, hy⟩⟩ a) (fun i' l' hi' hx' hl' hy' => ?_)
      have ei : i' = i := (nI_eq (by omega) (by omega)).mp (hx'.symm.trans hx)
      subst ei
      rw [e9] at q
      exact ⟨fun _ => k' _ n h, fun z => absurd z q, fun z => absurd z q, fun z => absurd z q⟩
    · refine k _ _ h20 (fun post' k' => ?_)
      refine m_board 93 n t (mm σ) x y σ _ h.M hn h.h90 hS hVi b3 b1 (fun a => absurd ⟨⟨i, hi, hx⟩, ⟨l, hl, hy⟩⟩ a) (fun i' l' hi' hx' hl' hy' => ?_)
      have ei : i' = i := (nI_eq (by omega) (by omega)).mp (hx'.symm.trans hx)
      have el : l' = l := (nI_eq (by omega) (by omega)).mp (hy'.symm.trans hy)
      subst ei
      subst el
      rw [e9] at q
      rw [rc] at q2
      exact ⟨fun z => absurd q z, fun _ _ τ hτ => k' _ n (Cp_q h b3 b1 hτ), fun _ z => absurd z q2, fun _ z => absurd z q2⟩
    · refine k _ _ h20 (fun post' k' => ?_)
      refine m_board 93 n t (mm σ) x y σ _ h.M hn h.h90 hS hVi b3 b1 (fun a => absurd ⟨⟨i, hi, hx⟩, ⟨l, hl, hy⟩⟩ a) (fun i' l' hi' hx' hl' hy' => ?_)
      have ei : i' = i := (nI_eq (by omega) (by omega)).mp (hx'.symm.trans hx)
      have el : l' = l := (nI_eq (by omega) (by omega)).mp (hy'.symm.trans hy)
      subst ei
      subst el
      rw [e9] at q
      rw [rc] at q2
      rw [nc] at q3
      exact ⟨fun z => absurd q z, fun _ z => absurd q2 z, fun _ _ _ τ hτ => k' _ n (Cp_q h b3 b1 hτ), fun _ _ z => absurd q3 z⟩
    · have cv := h.1.2.1 i hi
      refine ⟨kd σ i, cv.1, by rw [cv.2.2.2.2.2.1]; exact cv.2.1, fun τ hτ => ?_⟩
      rw [pay_c h hi]
      obtain ⟨z1, z2, z3, z4⟩ := hτ
      have q13 : σ.2.1 13 i = 0 := by rw [← e9]; exact q
      rw [rc] at q2
      rw [nc] at q3
      have w13 : σ.2.1 13 i ≠ 1 := by rw [q13]; decide
      have h60 := h.1.m60 hl hi w13
      have f : ∀ a j, (fd_sl (fd_si (ap_s τ (5 + l) (20 + i)) (20 + i) 13 (mpay σ i)) 0 6 (σ.2.2.2 0 6 + (mpay σ i).toInt64)).2.1 a j = if a = 20 + i ∧ j = 13 then mpay σ i else (ap_s τ (5 + l) (20 + i)).2.1 a j := fun a j => by
        show (fd_si (ap_s τ (5 + l) (20 + i)) (20 + i) 13 (mpay σ i)).2.1 a j = _
        rw [si_at]
      have ft : ∀ a j, a ≠ 3 → (ap_s τ (5 + l) (20 + i)).2.1 a j = (ap_s σ (5 + l) (20 + i)).2.1 a j := by
        intro a j a3
        have zz : ∀ a j, a ≠ 3 → τ.2.1 a j = σ.2.1 a j := fun a j a3 => z4 a j (fun q => a3 q.1)
        unfold ap_s
        simp only [zz a j a3, zz (5 + l) _ (by omega), zz (20 + i) _ (by omega)]
      have f1 : ∀ a j, a ≠ 3 → a ≠ 20 + i → a ≠ 5 + l → (fd_sl (fd_si (ap_s τ (5 + l) (20 + i)) (20 + i) 13 (mpay σ i)) 0 6 (σ.2.2.2 0 6 + (mpay σ i).toInt64)).2.1 a j = σ.2.1 a j := fun a j a3 c1 c2 => by
        rw [f, if_neg (by omega), ft a j a3]
        show (if a = 20 + i then _ else if a = 5 + l then _ else σ.2.1 a j) = _
        rw [if_neg c1, if_neg c2]
      have f3 : ∀ j, j < 3 → (fd_sl (fd_si (ap_s τ (5 + l) (20 + i)) (20 + i) 13 (mpay σ i)) 0 6 (σ.2.2.2 0 6 + (mpay σ i).toInt64)).2.1 3 j = σ.2.1 3 j := fun j hj => by
        rw [f, if_neg (by omega)]
        show (if 3 = 20 + i then _ else if 3 = 5 + l then _ else τ.2.1 3 j) = _
        rw [if_neg (by omega), if_neg (by omega)]
        exact z4 3 j (fun q => by have := q.2; omega)
      have g : (fd_sl (fd_si (ap_s τ (5 + l) (20 + i)) (20 + i) 13 (mpay σ i)) 0 6 (σ.2.2.2 0 6 + (mpay σ i).toInt64)).2.2.1 = (ap_s σ (5 + l) (20 + i)).2.2.1 := by
        show (ap_s τ (5 + l) (20 + i)).2.2.1 = _
        unfold ap_s
        rw [z2]
      have gN : (fd_sl (fd_si (ap_s τ (5 + l) (20 + i)) (20 + i) 13 (mpay σ i)) 0 6 (σ.2.2.2 0 6 + (mpay σ i).toInt64)).1 = σ.1 := z1
      have gL : ∀ a j, (fd_sl (fd_si (ap_s τ (5 + l) (20 + i)) (20 + i) 13 (mpay σ i)) 0 6 (σ.2.2.2 0 6 + (mpay σ i).toInt64)).2.2.2 a j = if a = 0 ∧ j = 6 then σ.2.2.2 0 6 + (mpay σ i).toInt64 else σ.2.2.2 a j := fun a j => by
        rw [sl_at]
        show (if _ then _ else τ.2.2.2 a j) = _
        rw [z3]
      generalize fd_sl (fd_si (ap_s τ (5 + l) (20 + i)) (20 + i) 13 (mpay σ i)) 0 6 (σ.2.2.2 0 6 + (mpay σ i).toInt64) = π at *
      have g9 : ∀ j, π.2.2.1 9 j = σ.2.2.1 9 j := fun j => by
        rw [g]
        show (if 9 = 20 + i then _ else if 9 = 5 + l then _ else σ.2.2.1 9 j) = _
        rw [if_neg (by omega), if_neg (by omega)]
      have fm : ∀ a j, 9 ≤ a → a < 20 → π.2.1 a j = σ.2.1 a j := fun a j c1 c2 => f1 a j (by omega) (by omega) (by omega)
      have mB : Mb π := by
        have hM := h.M
        unfold Mb at hM ⊢
        simp only [g9, gN]
        exact hM
      have hqv : ∀ w s i, qv π w s i = qv σ w s i := fun w s i => qv_c (fm 10 _ (by decide) (by decide)) (fm 11 _ (by decide) (by decide)) (fm 12 _ (by decide) (by decide)) w s
      have hkd : ∀ i, kd π i = kd σ i := fun i => kd_c (fm 10 _ (by decide) (by decide))
      have hsv : ∀ l k, sv π l k = sv σ l k := fun l k => sv_c (fm 18 _ (by decide) (by decide))
      have hW : ∀ l m, W3 σ π l m := fun l m k _ => ⟨hsv l k, fun w => hqv w 0 _⟩
      have rm : mroom π l (mm σ l) i := by
        unfold mroom at q2 ⊢
        rw [hqv, hqv, sL_c (fm 15 _ (by decide) (by decide)) (hW l _), sM_c (hW l _), fm 16 _ (by decide) (by decide)]
        exact q2
      have nm : ¬ mnear π l (mm σ l) i := by
        unfold mnear at q3 ⊢
        rw [hkd, hkd, hsv, hqv, hqv]
        exact q3
      have pm : mpay π i = mpay σ i := by
        unfold mpay
        rw [hqv, hqv, hkd, fm 9 _ (by decide) (by decide)]
      refine k _ _ (by omega) (fun post' k' => ?_)
      refine m_board 93 n t (mm σ) x y π _ mB hn (by rw [fm 9 _ (by decide) (by decide)]; exact h.h90) (fun l' hl' => Vs_c (fun a j c1 c2 _ => fm a j (by omega) (by omega)) (hS l' hl')) (fun i' hi' => Vi_c (fm 10 _ (by decide) (by decide)) (hVi i' hi')) (by rw [fm 9 _ (by decide) (by decide)]; exact b3) b1 (fun a => absurd ⟨⟨i, hi, hx⟩, ⟨l, hl, hy⟩⟩ a) (fun i' l' hi' hx' hl' hy' => ?_)
      have ei : i' = i := (nI_eq (by omega) (by omega)).mp (hx'.symm.trans hx)
      have el : l' = l := (nI_eq (by omega) (by omega)).mp (hy'.symm.trans hy)
      subst ei
      subst el
      have p13 : π.2.1 13 i' = 0 := by rw [fm 13 _ (by decide) (by decide)]; exact q13
      refine ⟨fun z => absurd p13 z, fun _ z => absurd rm z, fun _ _ z => absurd z nm, fun _ _ _ => ⟨h60, fun ω hω => ?_⟩⟩
      rw [pm]
      have cp := Core_push h.1 hl hi w13 h60 q2.2
      unfold push at cp
      have w : ∀ a j, (mb_s π l' (mm σ l') i').2.1 a j = if a = 14 ∧ j = i' then mpay σ i' else if a = 13 ∧ j = i' then 1 else if a = 17 ∧ j = l' then nI (mm σ l' + 1) else if a = 18 ∧ j = 60 * l' + mm σ l' then nI i' else π.2.1 a j := fun a j => by
        show (fd_si (fd_si (fd_si (fd_si π 18 (60 * l' + mm σ l') (nI i')) 17 l' (nI (mm σ l' + 1))) 13 i' 1) 14 i' (mpay π i')).2.1 a j = _
        rw [si_at, si_at, si_at, si_at, pm]
      have wJ : ∀ a j, a < 10 → (mb_s π l' (mm σ l') i').2.1 a j = π.2.1 a j := fun a j ha => by rw [w, if_neg (by omega), if_neg (by omega), if_neg (by omega), if_neg (by omega)]
      have CP : Cp (mb_s π l' (mm σ l') i') n := by
        refine ⟨Core_p (τ := mb_s π l' (mm σ l') i') ?_ ?_ (fun a j c1 c2 c3 => ?_) (fun i2 hi2 => ?_) cp, Cs_c (σ := σ) (fun a j q => ?_) ?_ h.2⟩
        · exact gN
        · exact g
        · have a3 : a ≠ 3 := fun e => c1 (by unfold J0; omega)
          rw [w, si_at, si_at, si_at, f, ft a j a3, if_neg (by omega), if_neg (c := a = 20 + i' ∧ j = 13) (by omega)]
        · rw [w, w, if_neg (by omega), if_neg (by omega), if_neg (by omega), if_neg (by omega)]
          by_cases q : i2 = i'
          · subst q
            rw [if_pos ⟨rfl, rfl⟩, f, if_pos ⟨rfl, rfl⟩]
          · rw [if_neg (by omega), if_neg (by omega), if_neg (by omega), if_neg (by omega), f1 _ _ (by omega) (by omega) (by omega), f1 _ _ (by omega) (by omega) (by omega)]
            exact (h.1.2.2.1 i2 hi2).2.1
        · rw [w, if_neg (by omega), if_neg (by omega), if_neg (by omega), if_neg (by omega)]
          by_cases a3 : a = 3
          · subst a3
            exact f3 j (by omega)
          · exact f1 a j a3 (by omega) (by omega)
        · show (fd_sl (fd_si (fd_si (fd_si (fd_si π 18 (60 * l' + mm σ l') (nI i')) 17 l' (nI (mm σ l' + 1))) 13 i' 1) 14 i' (mpay π i')) 9 12 (π.2.2.2 9 12 + (mpay π i').toInt64)).2.2.2 0 6 = (fd_sl (fd_si (fd_si (fd_si (fd_si π 18 (60 * l' + mm σ l') (nI i')) 17 l' (nI (mm σ l' + 1))) 13 i' 1) 14 i' (mpay π i')) 9 12 (π.2.2.2 9 12 + (mpay π i').toInt64)).2.2.2 9 12
          rw [sl_at, sl_at, if_neg (by omega), if_pos ⟨rfl, rfl⟩]
          show π.2.2.2 0 6 = _
          rw [gL, gL, if_pos ⟨rfl, rfl⟩, if_neg (by omega), pm, s4]
      refine k' _ n (Cp_q CP (t := t) ?_ b1 hω)
      rw [wJ 9 14 (by decide), fm 9 14 (by decide) (by decide)]
      exact b3
end
section
/-! sailing: the lanes empty themselves one by one; beside it the model's rows, as they would go along -/
def CE (σ ρ : fd_S) : Prop := ρ.1 = σ.1 ∧ ρ.2.2.1 = σ.2.2.1 ∧ ∀ i j, i < 9 ∨ 20 ≤ i → ρ.2.1 i j = σ.2.1 i j
def Fr (σ τ : fd_S) : Prop := τ.1 = σ.1 ∧ τ.2.2.2 = σ.2.2.2 ∧ ∀ i j, i < 5 ∨ (9 ≤ i ∧ i < 20) → τ.2.1 i j = σ.2.1 i j ∧ τ.2.2.1 i j = σ.2.2.1 i j
theorem Fr.rf (σ : fd_S) : Fr σ σ := ⟨rfl, rfl, fun _ _ _ => ⟨rfl, rfl⟩⟩
theorem Fr.trans {σ τ ρ : fd_S} (h1 : Fr σ τ) (h2 : Fr τ ρ) : Fr σ ρ := ⟨h2.1.trans h1.1, h2.2.1.trans h1.2.1, fun i j h => ⟨((h2.2.2 i j h).1).trans (h1.2.2 i j h).1, ((h2.2.2 i j h).2).trans (h1.2.2 i j h).2⟩⟩
theorem rl_fr {σ : fd_S} {l b : Nat} {z : Int32} (hl : l < 4) (hb : 20 ≤ b) : Fr σ (rl_s σ (5 + l) b z) := by
  refine ⟨rfl, rfl, fun i j h => ⟨?_, ?_⟩⟩
  · show (if i = b then _ else if i = 5 + l then _ else σ.2.1 i j) = _
    rw [if_neg (by omega), if_neg (by omega)]
  · show (if i = b then _ else if i = 5 + l then _ else σ.2.2.1 i j) = _
    rw [if_neg (by omega), if_neg (by omega)]
theorem rl_out {σ : fd_S} {l b : Nat} {z : Int32} {i j : Nat} (h1 : i ≠ b) (h2 : i ≠ 5 + l) : (rl_s σ (5 + l) b z).2.1 i j = σ.2.1 i j := by
  show (if i = b then _ else if i = 5 + l then _ else σ.2.1 i j) = _
  rw [if_neg h1, if_neg h2]
theorem ce_pop {σ ρ : fd_S} {l : Nat} (h : CE σ ρ) (hl : l < 4) : CE (rl_s σ (5 + l) (20 + sv ρ l (mm ρ l - 1)) 2) (pop ρ l 2) := by
  obtain ⟨h1, h2, h3⟩ := h
  unfold pop
  generalize sv ρ l (mm ρ l - 1) = i0
  have e2 : (rl_s ρ (5 + l) (20 + i0) 2).2.2.1 = (rl_s σ (5 + l) (20 + i0) 2).2.2.1 := by unfold rl_s; rw [h2]
  refine ⟨h1, e2, fun i j hi => ?_⟩
  rw [si_ne (by omega), si_ne (by omega)]
  unfold rl_s
  simp only [h3 i j hi, h3 (5 + l) _ (Or.inl (by omega)), h3 (20 + i0) _ (Or.inr (by omega))]
section
variable {ρ : fd_S} {l : Nat} {z : Int32}
theorem pop_row (hl : l < 4) {a j : Nat} (h1 : 9 ≤ a) (h2 : a < 20) (h3 : a ≠ 13) (h4 : a ≠ 17) : (pop ρ l z).2.1 a j = ρ.2.1 a j := by
  unfold pop
  rw [si_ne h3, si_ne h4, rl_out (by omega) (by omega)]
theorem pop_17 (hl : l < 4) {j : Nat} (h : j ≠ l) : (pop ρ l z).2.1 17 j = ρ.2.1 17 j := by
  unfold pop
  rw [si_ne (by decide), si_ne2 h, rl_out (by omega) (by omega)]
theorem pop_17l (hm : mm ρ l ≤ 60) : mm (pop ρ l z) l = mm ρ l - 1 := by
  show ((pop ρ l z).2.1 17 l).toNatClampNeg = _
  have : (pop ρ l z).2.1 17 l = nI (mm ρ l - 1) := by
    unfold pop
    rw [si_ne (by decide), si_eq]
  rw [this]
  exact nI_clamp (by omega)
theorem pop_13 (hl : l < 4) {j : Nat} (h : j ≠ sv ρ l (mm ρ l - 1)) : (pop ρ l z).2.1 13 j = ρ.2.1 13 j := by
  unfold pop
  rw [si_ne2 h, si_ne (by decide), rl_out (by omega) (by omega)]
theorem pop_13l : (pop ρ l z).2.1 13 (sv ρ l (mm ρ l - 1)) = z := by
  unfold pop
  exact si_eq
end
def pops : Nat → fd_S → Nat → fd_S
  | 0, ρ, _ => ρ
  | m + 1, ρ, l => pops m (pop ρ l 2) l
theorem pops_ok {n l : Nat} (hl : l < 4) : ∀ (m : Nat) (σ ρ : fd_S), CE σ ρ → Core ρ n → mm ρ l = m → Ln m σ (5 + l) ∧ Fr σ (sa_s m σ (5 + l)) ∧ CE (sa_s m σ (5 + l)) (pops m ρ l) ∧ Core (pops m ρ l) n ∧ mm (pops m ρ l) l = 0 ∧ (∀ a j, 9 ≤ a → a < 20 → a ≠ 13 → a ≠ 17 → (pops m ρ l).2.1 a j = ρ.2.1 a j) ∧ (∀ j, j ≠ l → (pops m ρ l).2.1 17 j = ρ.2.1 17 j) ∧ ∀ i, ((∃ k, k < m ∧ sv ρ l k = i) → (pops m ρ l).2.1 13 i = 2) ∧ ((¬ ∃ k, k < m ∧ sv ρ l k = i) → (pops m ρ l).2.1 13 i = ρ.2.1 13 i)
  | 0, σ, ρ, hce, hc, hm => ⟨trivial, Fr.rf σ, hce, hc, hm, fun _ _ _ _ _ _ => rfl, fun _ _ => rfl, fun i => ⟨fun ⟨k, hk, _⟩ => absurd hk (Nat.not_lt_zero k), fun _ => rfl⟩⟩
  | m + 1, σ, ρ, hce, hc, hm => by
    have cl := hc.2.2.2.2 l hl
    have cs := hc.2.2.2.1 l m hl (by omega)
    have hi0 := cs.2.1
    have hN := hc.N
    have r8 : σ.2.2.1 (5 + l) 8 = some (20 + sv ρ l m) := by
      rw [← hce.2.1, cl.2.2.2.2.2.2.2.2.2.1, hm, if_neg (Nat.succ_ne_zero m)]
      rfl
    have em : mm ρ l - 1 = m := by omega
    have hce2 := ce_pop hce hl
    rw [em] at hce2
    have hm2 : mm (pop ρ l 2) l = m := by rw [pop_17l cl.1]; exact em
    have ih := pops_ok hl m (rl_s σ (5 + l) (20 + sv ρ l m) 2) (pop ρ l 2) hce2 (Core_pop hc hl (by omega) (by decide)) hm2
    obtain ⟨j1, j2, j3, j4, j5, j6, j7, j8⟩ := ih
    have esa : sa_s (m + 1) σ (5 + l) = sa_s m (rl_s σ (5 + l) (20 + sv ρ l m) 2) (5 + l) := by
      show sa_s m (rl_s σ (5 + l) ((σ.2.2.1 (5 + l) 8).getD 0) 2) (5 + l) = _
      rw [r8]
      rfl
    have esv : ∀ k, sv (pop ρ l 2) l k = sv ρ l k := fun k => sv_c (pop_row hl (by decide) (by decide) (by decide) (by decide))
    rw [esa]
    refine ⟨⟨_, r8, by rw [← hce.1, hN]; omega, fd_shV _, j1⟩, (rl_fr hl (by omega)).trans j2, j3, j4, j5, fun a j c1 c2 c3 c4 => (j6 a j c1 c2 c3 c4).trans (pop_row hl c1 c2 c3 c4), fun j hj => (j7 j hj).trans (pop_17 hl hj), fun i => ⟨fun ⟨k, hk, e⟩ => ?_, fun hno => ?_⟩⟩
    · by_cases q : ∃ k, k < m ∧ sv (pop ρ l 2) l k = i
      · exact (j8 i).1 q
      · have hkm : k = m := by
          by_cases z : k = m
          · exact z
          · exact absurd ⟨k, by omega, by rw [esv]; exact e⟩ q
        subst hkm
        show (pops k (pop ρ l 2) l).2.1 13 i = 2
        rw [(j8 i).2 q, ← e, ← em, em]
        have := pop_13l (ρ := ρ) (l := l) (z := 2)
        rw [em] at this
        exact this
    · have q : ¬ ∃ k, k < m ∧ sv (pop ρ l 2) l k = i := fun ⟨k, hk, e⟩ => hno ⟨k, by omega, by rw [← esv]; exact e⟩
      show (pops m (pop ρ l 2) l).2.1 13 i = _
      rw [(j8 i).2 q]
      refine pop_13 hl (fun e => hno ⟨m, Nat.lt_succ_self m, ?_⟩)
      rw [em] at e
      exact e.symm
def Pq (m : Nat → Nat) (σ : fd_S) : Nat → fd_S
  | 0 => σ
  | l + 1 => pops (m l) (Pq m σ l) l
theorem Pq_ok {σ : fd_S} {n : Nat} (hc : Core σ n) : ∀ l, l ≤ 4 → CE (Sq (mm σ) σ l) (Pq (mm σ) σ l) ∧ Core (Pq (mm σ) σ l) n ∧ Fr σ (Sq (mm σ) σ l) ∧ (∀ a j, 9 ≤ a → a < 20 → a ≠ 13 → a ≠ 17 → (Pq (mm σ) σ l).2.1 a j = σ.2.1 a j) ∧ (∀ l', l ≤ l' → (Pq (mm σ) σ l).2.1 17 l' = σ.2.1 17 l') ∧ (∀ l', l' < l → (Pq (mm σ) σ l).2.1 17 l' = 0) ∧ (∀ i, ((∃ l' k, l' < l ∧ k < mm σ l' ∧ sv σ l' k = i) → (Pq (mm σ) σ l).2.1 13 i = 2) ∧ ((¬ ∃ l' k, l' < l ∧ k < mm σ l' ∧ sv σ l' k = i) → (Pq (mm σ) σ l).2.1 13 i = σ.2.1 13 i)) ∧ ∀ l', l' < l → Ln (mm σ l') (Sq (mm σ) σ l') (5 + l') ∧ (Sq (mm σ) σ l').2.1 (5 + l') 6 = nI (mm σ l')
  | 0, _ => ⟨⟨rfl, rfl, fun _ _ _ => rfl⟩, hc, Fr.rf σ, fun _ _ _ _ _ _ => rfl, fun _ _ => rfl, fun l' h => absurd h (Nat.not_lt_zero l'), fun i => ⟨fun ⟨l', k, h, _⟩ => absurd h (Nat.not_lt_zero l'), fun _ => rfl⟩, fun l' h => absurd h (Nat.not_lt_zero l')⟩
  | l + 1, hl => by
    obtain ⟨i1, i2, i3, i4, i5, i6, i7, i8⟩ := Pq_ok hc l (by omega)
    have hml : mm (Pq (mm σ) σ l) l = mm σ l := mm_c (i5 l (Nat.le_refl l))
    obtain ⟨j1, j2, j3, j4, j5, j6, j7, j8⟩ := pops_ok (show l < 4 by omega) (mm σ l) (Sq (mm σ) σ l) (Pq (mm σ) σ l) i1 i2 hml
    have esv : ∀ k, sv (Pq (mm σ) σ l) l k = sv σ l k := fun k => sv_c (i4 18 _ (by decide) (by decide) (by decide) (by decide))
    have e6 : (Sq (mm σ) σ l).2.1 (5 + l) 6 = nI (mm σ l) := by
      rw [← i1.2.2 (5 + l) 6 (Or.inl (by omega))]
      have := (i2.2.2.2.2 l (by omega)).2.2.1
      rw [hml] at this
      exact this
    refine ⟨j3, j4, i3.trans j2, fun a j c1 c2 c3 c4 => (j6 a j c1 c2 c3 c4).trans (i4 a j c1 c2 c3 c4), fun l' h' => (j7 l' (by omega)).trans (i5 l' (by omega)), fun l' h' => ?_, fun i => ⟨fun ⟨l', k, h1, h2, h3⟩ => ?_, fun hno => ?_⟩, fun l' h' => ?_⟩
    · by_cases q : l' = l
      · subst q
        have := (j4.2.2.2.2 l' (by omega)).2.1
        rw [j5] at this
        exact this.trans nI_0
      · exact (j7 l' q).trans (i6 l' (by omega))
    · by_cases q : l' = l
      · subst q
        exact (j8 i).1 ⟨k, h2, by rw [esv]; exact h3⟩
      · have e2 := (i7 i).1 ⟨l', k, by omega, h2, h3⟩
        by_cases z : ∃ k, k < mm σ l ∧ sv (Pq (mm σ) σ l) l k = i
        · exact (j8 i).1 z
        · exact ((j8 i).2 z).trans e2
    · have z : ¬ ∃ k, k < mm σ l ∧ sv (Pq (mm σ) σ l) l k = i := fun ⟨k, h1, h2⟩ => hno ⟨l, k, Nat.lt_succ_self l, h1, by rw [← esv]; exact h2⟩
      exact ((j8 i).2 z).trans ((i7 i).2 (fun ⟨l', k, h1, h2⟩ => hno ⟨l', k, by omega, h2⟩))
    · by_cases q : l' = l
      · subst q
        exact ⟨j1, e6⟩
      · exact i8 l' (by omega)
theorem cn_N {σ : fd_S} {v : Int32} : ∀ n, n ≤ 60 → ∃ c, c ≤ n ∧ cn σ v n = nI c ∧ (c = 0 ↔ ∀ i, i < n → σ.2.1 (20 + i) 9 ≠ v)
  | 0, _ => ⟨0, Nat.le_refl 0, nI_0.symm, ⟨fun _ i hi => absurd hi (Nat.not_lt_zero i), fun _ => rfl⟩⟩
  | n + 1, hn => by
    obtain ⟨c, h1, h2, h3⟩ := cn_N (σ := σ) (v := v) n (by omega)
    by_cases q : σ.2.1 (20 + n) 9 = v
    · refine ⟨c + 1, by omega, ?_, ⟨fun e => by omega, fun e => absurd q (e n (Nat.lt_succ_self n))⟩⟩
      simp only [cn]
      rw [if_pos q, h2]
      exact nI_1 c
    · refine ⟨c, by omega, ?_, ⟨fun e i hi => ?_, fun e => h3.mpr (fun i hi => e i (by omega))⟩⟩
      · simp only [cn]
        rw [if_neg q, h2]
      · by_cases z : i = n
        · subst z; exact q
        · exact h3.mp e i (by omega)
/-- how far apart, by one way or the other -/
theorem apart_c {a b c d : Int32} (ha : 0 ≤ a ∧ a ≤ 200000) (hb : 0 ≤ b ∧ b ≤ 200000) (hc : 0 ≤ c ∧ c ≤ 200000) (hd : 0 ≤ d ∧ d ≤ 200000) : 30000 < aabs (0 + a + b + -c + -d) ↔ (30000 < a + b - c - d ∨ a + b - c - d < -30000) := by
  obtain ⟨A, hA, rfl⟩ := nI_of2 (M := 200000) (n := 200000) (by decide) (i32_nlt.mpr ha.1) ha.2
  obtain ⟨B, hB, rfl⟩ := nI_of2 (M := 200000) (n := 200000) (by decide) (i32_nlt.mpr hb.1) hb.2
  obtain ⟨C, hC, rfl⟩ := nI_of2 (M := 200000) (n := 200000) (by decide) (i32_nlt.mpr hc.1) hc.2
  obtain ⟨D, hD, rfl⟩ := nI_of2 (M := 200000) (n := 200000) (by decide) (i32_nlt.mpr hd.1) hd.2
  have e1 : 0 + nI A + nI B + -nI C + -nI D = (nI A + nI B) - (nI C + nI D) := by grind
  have e2 : nI A + nI B - nI C - nI D = (nI A + nI B) - (nI C + nI D) := by grind
  rw [e1, e2, nI_add, nI_add]
  have e3 : (0 : Int32) - (nI (A + B) - nI (C + D)) = nI (C + D) - nI (A + B) := by grind
  have t1 := pk_sub_toInt (a := A + B) (b := C + D) (by omega) (by omega)
  have t2 := pk_sub_toInt (a := C + D) (b := A + B) (by omega) (by omega)
  have c1 : (30000 : Int32).toInt = 30000 := by decide
  have c2 : (-30000 : Int32).toInt = -30000 := by decide
  have c3 : (0 : Int32).toInt = 0 := by decide
  unfold aabs
  by_cases q : (0 : Int32) ≤ nI (A + B) - nI (C + D)
  · rw [if_pos q]
    simp only [Int32.lt_iff_toInt_lt, Int32.le_iff_toInt_le, t1, c1, c2, c3] at q ⊢
    omega
  · rw [if_neg q, e3]
    simp only [Int32.lt_iff_toInt_lt, Int32.le_iff_toInt_le, t1, t2, c1, c2, c3] at q ⊢
    omega
end
section
theorem on_deck {σ : fd_S} {n : Nat} (h : Core σ n) : cn σ 1 n = 0 ↔ nI (mm σ 0) + nI (mm σ 1) + nI (mm σ 2) + nI (mm σ 3) = 0 := by
  have hn := h.n60
  have l0 := (h.2.2.2.2 0 (by decide)).1
  have l1 := (h.2.2.2.2 1 (by decide)).1
  have l2 := (h.2.2.2.2 2 (by decide)).1
  have l3 := (h.2.2.2.2 3 (by decide)).1
  obtain ⟨c, h1, h2, h3⟩ := cn_N (σ := σ) (v := 1) n hn
  rw [h2, nI_add, nI_add, nI_add]
  have e1 : nI c = 0 ↔ c = 0 := nI_eq (b := 0) (by omega) (by decide)
  have e2 : nI (mm σ 0 + mm σ 1 + mm σ 2 + mm σ 3) = 0 ↔ mm σ 0 + mm σ 1 + mm σ 2 + mm σ 3 = 0 := nI_eq (b := 0) (by omega) (by decide)
  rw [e1, e2, h3]
  constructor
  · intro q
    have z : ∀ l, l < 4 → mm σ l = 0 := by
      intro l hl
      by_cases e : mm σ l = 0
      · exact e
      · have cs := h.2.2.2.1 l 0 hl (by omega)
        exact absurd ((h.2.2.1 _ cs.2.1).1.trans cs.2.2.1) (q _ cs.2.1)
    rw [z 0 (by decide), z 1 (by decide), z 2 (by decide), z 3 (by decide)]
  · intro q i hi e
    have cd := h.2.2.1 i hi
    obtain ⟨l, k, hl, hk, _⟩ := cd.2.2.1 (cd.1.symm.trans e)
    have : mm σ l = 0 := by
      match l, hl with
      | 0, _ => omega
      | 1, _ => omega
      | 2, _ => omega
      | 3, _ => omega
    omega
set_option maxHeartbeats 1000000 in
theorem p_sail : Pair 31 71 [] := by
  intro σ n h post k
  have h20 := h.h20
  have hn := h.n60
  obtain ⟨s1, s2, s3, s4, t, b1, b2, b3, b4⟩ := h.2
  have hS : ∀ l, l < 4 → Vs σ l (mm σ l) := fun l hl => h.1.Vs hl
  have hla := h.B.2.2.2.2.2.2.2.2.2
  have hO := on_deck h.1
  have PQ := Pq_ok h.1
  have bd : ∀ l, l < 4 → 0 ≤ sM σ l (mm σ l) ∧ sM σ l (mm σ l) ≤ 200000 := fun l hl => by
    have cl := h.1.2.2.2.2 l hl
    have b := cl.2.2.2.2.2.2.2.2.2.2.2.2.2 (mm σ l) (Nat.le_refl _)
    exact ⟨b.1, Int32.le_trans b.2 cl.2.2.2.2.2.2.2.2.2.2.2.2.1.2⟩
  have c4 : ∀ l, l < 4 → σ.2.1 (5 + l) 4 = sM σ l (mm σ l) := fun l hl => (h.1.2.2.2.2 l hl).2.2.2.2.2.2.2.1
  have c5 : ∀ l, l < 4 → σ.2.1 (5 + l) 5 = sN σ l (mm σ l) := fun l hl => (h.1.2.2.2.2 l hl).2.2.2.2.2.2.2.2.1
  have hA := apart_c (bd 0 (by decide)) (bd 1 (by decide)) (bd 2 (by decide)) (bd 3 (by decide))
  have d0 : σ.2.1 5 4 = sM σ 0 (mm σ 0) := c4 0 (by decide)
  have d1 : σ.2.1 6 4 = sM σ 1 (mm σ 1) := c4 1 (by decide)
  have d2 : σ.2.1 7 4 = sM σ 2 (mm σ 2) := c4 2 (by decide)
  have d3 : σ.2.1 8 4 = sM σ 3 (mm σ 3) := c4 3 (by decide)
  refine c_sail 96 n (mm σ) σ _ h.B (fun l hl => ?_) ?_ (fun q => ?_) (fun q1 q2 => ?_)
  · obtain ⟨_, _, fr, _⟩ := PQ l (by omega)
    obtain ⟨_, _, _, _, _, _, _, i8⟩ := PQ 4 (by omega)
    exact ⟨by rw [fr.1]; exact h20, by rw [(fr.2.2 2 l (by omega)).2]; exact hla l hl, (h.1.2.2.2.2 l hl).1, (i8 l hl).2, (i8 l hl).1⟩
  · obtain ⟨_, _, fr, _⟩ := PQ 4 (by omega)
    rw [fr.1]; exact h20
  · refine k _ _ h20 (fun post' k' => ?_)
    rw [hO, d0, d1, d2, d3, hA] at q
    exact m_sail 93 t (mm σ) σ _ h.M hS b3 b1 (fun _ τ hτ => k' _ n (Cp_q h b3 b1 hτ)) (fun r1 r2 r3 => absurd q (fun z => by rcases z with z | z | z; exact r1 z; exact r2 z; exact r3 z))
  · rw [hO] at q1
    rw [← i32_nlt, d0, d1, d2, d3, hA] at q2
    obtain ⟨i1, i2, i3, i4, i5, i6, i7, i8⟩ := PQ 4 (by omega)
    have e5 : mx (mx (mx (mx 0 (σ.2.1 5 5)) (σ.2.1 6 5)) (σ.2.1 7 5)) (σ.2.1 8 5) = mx (mx (mx (mx 0 (sN σ 0 (mm σ 0))) (sN σ 1 (mm σ 1))) (sN σ 2 (mm σ 2))) (sN σ 3 (mm σ 3)) := by
      have g0 : σ.2.1 5 5 = sN σ 0 (mm σ 0) := c5 0 (by decide)
      have g1 : σ.2.1 6 5 = sN σ 1 (mm σ 1) := c5 1 (by decide)
      have g2 : σ.2.1 7 5 = sN σ 2 (mm σ 2) := c5 2 (by decide)
      have g3 : σ.2.1 8 5 = sN σ 3 (mm σ 3) := c5 3 (by decide)
      rw [g0, g1, g2, g3]
    rw [e5]
    generalize Sq (mm σ) σ 4 = ψ at *
    generalize Pq (mm σ) σ 4 = ρ at *
    have fm : ∀ a j, 9 ≤ a → a < 20 → (fd_si ψ 0 5 (ψ.2.1 0 5 + 1)).2.1 a j = σ.2.1 a j := fun a j c1 c2 => by rw [si_ne (by omega)]; exact (i3.2.2 a j (Or.inr ⟨c1, c2⟩)).1
    have f0 : ∀ a j, a < 5 → ¬ (a = 0 ∧ j = 5) → (fd_si ψ 0 5 (ψ.2.1 0 5 + 1)).2.1 a j = σ.2.1 a j := fun a j c1 c2 => by rw [si_at, if_neg c2]; exact (i3.2.2 a j (Or.inl c1)).1
    have f05 : (fd_si ψ 0 5 (ψ.2.1 0 5 + 1)).2.1 0 5 = σ.2.1 0 5 + 1 := by rw [si_eq, (i3.2.2 0 5 (Or.inl (by decide))).1]
    have fc : ∀ a j, a < 9 ∨ 20 ≤ a → ¬ (a = 0 ∧ j = 5) → (fd_si ψ 0 5 (ψ.2.1 0 5 + 1)).2.1 a j = ρ.2.1 a j := fun a j c1 c2 => by rw [si_at, if_neg c2]; exact (i1.2.2 a j c1).symm
    have gN : (fd_si ψ 0 5 (ψ.2.1 0 5 + 1)).1 = σ.1 := i3.1
    have gL : (fd_si ψ 0 5 (ψ.2.1 0 5 + 1)).2.2.2 = σ.2.2.2 := i3.2.1
    have gR : (fd_si ψ 0 5 (ψ.2.1 0 5 + 1)).2.2.1 = ρ.2.2.1 := i1.2.1.symm
    have g9 : ∀ j, (fd_si ψ 0 5 (ψ.2.1 0 5 + 1)).2.2.1 9 j = σ.2.2.1 9 j := fun j => (i3.2.2 9 j (Or.inr ⟨by decide, by decide⟩)).2
    have gρ : ρ.1 = σ.1 := i1.1.trans i3.1
    generalize fd_si ψ 0 5 (ψ.2.1 0 5 + 1) = π at *
    have mB : Mb π := by
      have hM := h.M
      unfold Mb at hM ⊢
      simp only [g9, gN]
      exact hM
    have hqv : ∀ w s i, qv π w s i = qv σ w s i := fun w s i => qv_c (fm 10 _ (by decide) (by decide)) (fm 11 _ (by decide) (by decide)) (fm 12 _ (by decide) (by decide)) w s
    have hsv : ∀ l k, sv π l k = sv σ l k := fun l k => sv_c (fm 18 _ (by decide) (by decide))
    have hW : ∀ l m, W3 σ π l m := fun l m k _ => ⟨hsv l k, fun w => hqv w 0 _⟩
    refine k _ _ (by omega) (fun post' k' => ?_)
    refine m_sail 93 t (mm σ) π _ mB (fun l' hl' => Vs_c (fun a j c1 c2 _ => fm a j (by omega) (by omega)) (hS l' hl')) (by rw [fm 9 _ (by decide) (by decide)]; exact b3) b1 (fun q => ?_) (fun _ _ _ τ hτ => ?_)
    · rw [sM_c (hW 0 _), sM_c (hW 1 _), sM_c (hW 2 _), sM_c (hW 3 _)] at q
      rcases q with z | z
      · exact absurd z q1
      · exact absurd z q2
    · rw [sN_c (hW 0 _), sN_c (hW 1 _), sN_c (hW 2 _), sN_c (hW 3 _)]
      obtain ⟨z1, z2, z3, z4, z5, z6, z7⟩ := hτ
      have tm : ∀ a j, a ≠ 13 → a ≠ 17 → ¬ JQ t a j → τ.2.1 a j = π.2.1 a j := z4
      have t9 : ∀ j, τ.2.1 9 j = σ.2.1 9 j := fun j => (tm 9 j (by decide) (by decide) (jq_ne (by decide))).trans (fm 9 j (by decide) (by decide))
      refine k' _ n ⟨Core_c (σ := ρ) ?_ ?_ (fun a j hj => ?_) i2, ?_, ?_, ?_, ?_, t, b1, ?_, ?_, fun j hj => ?_⟩
      · exact z1.trans (gN.trans gρ.symm)
      · exact z2.trans gR
      · have a9 : ¬ (a = 9 ∧ j = 11) := fun e => hj (by unfold J0; omega)
        have a19 : a ≠ 19 := fun e => hj (by unfold J0; omega)
        have a05 : ¬ (a = 0 ∧ j = 5) := fun e => hj (by unfold J0; omega)
        rw [si_at, if_neg a9]
        by_cases r1 : a < 9 ∨ 20 ≤ a
        · rw [tm a j (by omega) (by omega) (jq_ne a19)]
          exact fc a j r1 a05
        · by_cases r13 : a = 13
          · subst r13
            by_cases r : ∃ l' k', l' < 4 ∧ k' < mm σ l' ∧ sv σ l' k' = j
            · obtain ⟨l', k', e1, e2, e3⟩ := r
              rw [(z7 j).1 (Or.inl ⟨l', k', e1, e2, by rw [hsv]; exact e3⟩), (i7 j).1 ⟨l', k', e1, e2, e3⟩]
            · rw [(z7 j).2 (fun e => ?_), (i7 j).2 r]
              · exact fm 13 j (by decide) (by decide)
              · rcases e with ⟨l', k', e1, e2, e3⟩ | ⟨k', e1, _⟩
                · exact r ⟨l', k', e1, e2, by rw [← hsv]; exact e3⟩
                · omega
          · by_cases r17 : a = 17
            · subst r17
              by_cases r : j < 4
              · rw [z5 j r, i6 j r]
              · rw [z6 j (by omega), i5 j (by omega)]
                exact fm 17 j (by decide) (by decide)
            · rw [tm a j r13 r17 (jq_ne a19), fm a j (by omega) (by omega), i4 a j (by omega) (by omega) r13 r17]
      · rw [si_ne (by decide), tm 3 2 (by decide) (by decide) (jq_ne (by decide)), f0 3 2 (by decide) (by omega)]; exact s1
      · rw [si_ne (by decide), si_ne2 (by decide), tm 0 4 (by decide) (by decide) (jq_ne (by decide)), f0 0 4 (by decide) (by omega), t9]; exact s2
      · rw [si_ne (by decide), si_eq, tm 0 5 (by decide) (by decide) (jq_ne (by decide)), f05, fm 9 11 (by decide) (by decide), s3]
      · show τ.2.2.2 0 6 = τ.2.2.2 9 12
        rw [z3, gL]; exact s4
      · rw [si_ne (by decide), tm 3 1 (by decide) (by decide) (jq_ne (by decide)), f0 3 1 (by decide) (by omega)]; exact b2
      · rw [si_ne2 (by decide), t9]; exact b3
      · rw [si_ne (by decide), si_ne (by decide), tm 4 j (by decide) (by decide) (jq_ne (by decide)), f0 4 j (by decide) (by omega), tm 19 j (by decide) (by decide) (fun e => by have := e.2; omega), fm 19 j (by decide) (by decide)]
        exact b4 j hj
end
section
/-! at the beginning -/
theorem first_Cp {H : Nat → Nat → Int32} {R : Nat → Nat → Option Nat} {L : Nat → Nat → Int64} {ω : fd_S} (hI : IN 4 (9, H, R, L)) (hM : INM (fd_u0 H 9 0) (fd_u0 R 9 none) (fd_u0 L 9 0) ω) : Cp ω 0 := by
  obtain ⟨_, i2, i3, i4⟩ := hI
  obtain ⟨m1, m2, m3, m4, m5, m6, m7⟩ := hM
  have hR : ∀ i j, i < 9 → ω.2.2.1 i j = if i = 0 then (if j = 0 then some 1 else if j = 2 then some 2 else if j = 3 then some 3 else none) else if i = 3 ∧ j = 0 then some 4 else if i = 2 ∧ j < 4 then some (5 + j) else none := fun i j hi => by
    rw [m2 i j hi]
    show (if i = 9 then none else R i j) = _
    rw [if_neg (by omega)]
    exact i2 i j
  have hH : ∀ i j, i < 9 → ω.2.1 i j = if 5 ≤ i ∧ i < 5 + 4 ∧ j = 0 then nI (i - 5) else 0 := fun i j hi => by
    rw [m3 i j (by omega)]
    show (if i = 9 then 0 else H i j) = _
    rw [if_neg (by omega)]
    exact i3 i j
  have hH9 : ∀ j, ω.2.1 9 j = 0 := fun j => by
    rw [m3 9 j (by decide)]
    show (if 9 = 9 then 0 else H 9 j) = 0
    rw [if_pos rfl]
  have hH0 : ∀ i j, i < 9 → ¬ (5 ≤ i ∧ j = 0) → ω.2.1 i j = 0 := fun i j hi hj => by rw [hH i j hi, if_neg (by omega)]
  have hL : ∀ i j, i < 10 → ω.2.2.2 i j = 0 := fun i j hi => by
    rw [m5 i j hi]
    show (if i = 9 then 0 else L i j) = 0
    by_cases q : i = 9
    · rw [if_pos q]
    · rw [if_neg q]; exact i4 i j
  have mm0 : ∀ l, mm ω l = 0 := fun l => by
    show (ω.2.1 17 l).toNatClampNeg = 0
    rw [m4 17 l (by decide) (by decide)]
    decide
  refine ⟨⟨⟨⟨by omega, by omega, by decide, ?_, ?_, ?_, ?_, ?_, fun i hi => absurd hi (Nat.not_lt_zero i), fun l hl => ?_⟩, m6, m1, ?_, m7⟩, fun i hi => absurd hi (Nat.not_lt_zero i), fun i hi => absurd hi (Nat.not_lt_zero i), fun l k _ hk => absurd hk (by rw [mm0]; exact Nat.not_lt_zero k), fun l hl => ?_⟩, ?_, ?_, ?_, ?_, 0, by decide, ?_, ?_, fun j hj => absurd hj (Nat.not_lt_zero j)⟩
  · rw [hH0 0 1 (by decide) (by decide)]; exact nI_0.symm
  · rw [hR 0 0 (by decide)]; rfl
  · rw [hR 0 2 (by decide)]; rfl
  · rw [hR 0 3 (by decide)]; rfl
  · rw [hR 3 0 (by decide)]; rfl
  · rw [hR 2 l (by decide), if_neg (by decide), if_neg (by omega), if_pos ⟨rfl, hl⟩]
  · rw [hH9]; exact nI_0.symm
  · have z : ∀ j, j ≠ 0 → ω.2.1 (5 + l) j = 0 := fun j hj => hH0 (5 + l) j (by omega) (by omega)
    have r : ∀ j, ω.2.2.1 (5 + l) j = none := fun j => by rw [hR (5 + l) j (by omega), if_neg (by omega), if_neg (by omega), if_neg (by omega)]
    have e15 : ω.2.1 15 l = 0 := m4 15 l (by decide) (by decide)
    have e16 : ω.2.1 16 l = 0 := m4 16 l (by decide) (by decide)
    unfold CL
    rw [mm0]
    refine ⟨by decide, ?_, ?_, ?_, ?_, ?_, ?_, ?_, ?_, ?_, ?_, fun j _ _ => r j, ?_, fun k hk => ?_⟩
    · rw [m4 17 l (by decide) (by decide)]; exact nI_0.symm
    · rw [z 6 (by decide)]; exact nI_0.symm
    · rw [hH (5 + l) 0 (by omega), if_pos (by omega)]
      congr 1
      omega
    · rw [z 1 (by decide), e15]
    · rw [z 2 (by decide), e16]
    · have : sL ω l 0 = ω.2.1 15 l := rfl
      rw [this, z 3 (by decide), e15]
      decide
    · rw [z 4 (by decide), sM_0]
    · rw [z 5 (by decide), sN_0]
    · rw [r, if_pos rfl]
    · rw [r, if_pos rfl]
    · rw [e16]; decide
    · have : k = 0 := by omega
      subst this
      rw [sM_0, e16]
      decide
  · exact hH0 3 2 (by decide) (by decide)
  · rw [hH0 0 4 (by decide) (by decide), hH9]
  · rw [hH0 0 5 (by decide) (by decide), hH9]
  · rw [hL 0 6 (by decide), hL 9 12 (by decide)]
  · rw [hH0 3 1 (by decide) (by decide)]; exact nI_0.symm
  · rw [hH9]; exact nI_0.symm
end
section
theorem lg_cmp_self (v : Int64) : lg_cmp v v = 0 := by
  unfold lg_cmp
  rw [if_neg (fun h => absurd h (by simp)), if_pos rfl]
/-! THE LAW'S OWN RUN -/
set_option maxHeartbeats 4000000 in
set_option maxRecDepth 100000 in
theorem law_loop (L : Nat) (xs : Nat → Int32) (hL : L ≤ 2048) (X : fd_X) (hX : ∀ suf lv st σ cc ss, fd_step (fd_Sem 100) (some (L, xs)) 79 (fun r _ => r = some (.inl 1)) X suf lv st σ cc ss → X suf lv st σ cc ss) (hV : fd_subX X) : ∀ f i σ n cc ss, L ≤ i + f → i ≤ 4000 → cc + f ≤ 600000 → ss + 14 * f ≤ 7302250 → Cp σ n → X ((fd_code 79).drop 10) [(3, .inl (nI i)), (2, rf 9), (1, rf 0), (0, .inr (.inr (.inr 2)))] [] σ cc ss := by
  intro f
  induction f with
  | zero =>
    intro i σ n cc ss h1 h2 h3 h4 hC
    iterate 3 refine hX _ _ _ _ _ _ ?_
    refine Or.inr (And.intro rfl (Exists.intro _ (Exists.intro _ (And.intro rfl ?_))))
    iterate 3 refine hX _ _ _ _ _ _ ?_
    refine And.intro (fun _ => ?_) (fun hc => ?_)
    · iterate 2 refine hX _ _ _ _ _ _ ?_
      exact And.intro (Or.inr rfl) rfl
    · refine absurd (?_ : nI L - nI 4 < nI i) hc
      rw [Int32.lt_iff_toInt_lt, pk_sub_toInt (by omega) (by omega), nI_toInt (by omega)]
      omega
  | succ f ih =>
    intro i σ n cc ss h1 h2 h3 h4 hC
    have h20 := hC.h20
    have hN := hC.1.N
    iterate 3 refine hX _ _ _ _ _ _ ?_
    refine Or.inr (And.intro rfl (Exists.intro _ (Exists.intro _ (And.intro rfl ?_))))
    iterate 3 refine hX _ _ _ _ _ _ ?_
    refine And.intro (fun _ => ?_) (fun hc => ?_)
    · iterate 2 refine hX _ _ _ _ _ _ ?_
      exact And.intro (Or.inr rfl) rfl
    · have hi : i + 4 ≤ L := by
        have hc : ¬ nI L - nI 4 < nI i := hc
        rw [Int32.lt_iff_toInt_lt, pk_sub_toInt (by omega) (by omega), nI_toInt (by omega)] at hc
        omega
      have v0 : vp_in (nI i) L := vp_in_nI (by omega) (by omega)
      have v1 : vp_in (nI i + 1) L := by show vp_in (nI i + nI 1) L; rw [nI_add]; exact vp_in_nI (by omega) (by omega)
      have v2 : vp_in (nI i + 2) L := by show vp_in (nI i + nI 2) L; rw [nI_add]; exact vp_in_nI (by omega) (by omega)
      have v3 : vp_in (nI i + 3) L := by show vp_in (nI i + nI 3) L; rw [nI_add]; exact vp_in_nI (by omega) (by omega)
      have nxt : ∀ τ n' cc' ss', Cp τ n' → cc' + f ≤ 600000 → ss' + 14 * f ≤ 7302250 → X ((fd_code 79).drop 314) [(3, .inl (nI i)), (2, rf 9), (1, rf 0), (0, .inr (.inr (.inr 2)))] [] τ cc' ss' := by
        intro τ n' cc' ss' hC' g1 g2
        iterate 2 refine hX _ _ _ _ _ _ ?_
        refine hV _ _ [(3, .inl (nI (i + 4))), (2, rf 9), (1, rf 0), (0, .inr (.inr (.inr 2)))] _ _ _ _ (And.intro (congrArg (fun x => some (Sum.inl x)) (nI_add i 4)) (And.intro rfl (And.intro rfl (And.intro rfl trivial)))) (ih (i + 4) τ n' cc' ss' (by omega) (by omega) g1 g2 hC')
      iterate 3 refine hX _ _ _ _ _ _ ?_
      refine Or.inr (And.intro rfl (Exists.intro _ (Exists.intro _ (And.intro rfl (And.intro v0 ?_)))))
      iterate 2 refine hX _ _ _ _ _ _ ?_
      generalize xs (nI i).toNatClampNeg = x
      obtain ⟨j, hj, ej⟩ := pk_andE x (m := 15) 4 (by decide)
      have ej : (fun x y : Int32 => x &&& y) x 15 = nI j := ej
      have hj : j < 16 := hj
      refine hX _ _ _ _ _ _ ?_
      rw [ej]
      match j, hj with
      | 0, _ =>
        refine Or.inl (Exists.intro 0 (Exists.intro 22 (And.intro rfl (And.intro (nI_toInt (by decide)) ?_))))
        refine hX _ _ _ _ _ _ ?_
        iterate 5 refine hX _ _ _ _ _ _ ?_
        refine Or.inr (And.intro rfl (Exists.intro _ (Exists.intro _ (And.intro rfl (And.intro v1 ?_)))))
        iterate 5 refine hX _ _ _ _ _ _ ?_
        refine Or.inr (And.intro rfl (Exists.intro _ (Exists.intro _ (And.intro rfl (And.intro v2 ?_)))))
        iterate 5 refine hX _ _ _ _ _ _ ?_
        refine Or.inr (And.intro rfl (Exists.intro _ (Exists.intro _ (And.intro rfl (And.intro v3 ?_)))))
        refine hX _ _ _ _ _ _ ?_
        refine Exists.intro 0 (And.intro rfl (And.intro (by omega) (And.intro rfl ?_)))
        refine And.intro ⟨by show cc + 1 ≤ 600000; omega, by show ss + 14 ≤ 7302250; omega, okL_c trivial (okL_c (ok_r (by omega)) (okL_c (ok_r (by omega)) (okL_c trivial okL_n))), okV_n, hC.1.1.2.2.2.2⟩ ?_
        refine p_vehicle _ _ _ σ n hC _ (fun v τ h20 hm => ?_)
        refine hX _ _ _ _ _ _ ?_
        iterate 5 refine hX _ _ _ _ _ _ ?_
        refine Or.inr (And.intro rfl (Exists.intro _ (Exists.intro _ (And.intro rfl (And.intro v1 ?_)))))
        iterate 5 refine hX _ _ _ _ _ _ ?_
        refine Or.inr (And.intro rfl (Exists.intro _ (Exists.intro _ (And.intro rfl (And.intro v2 ?_)))))
        iterate 5 refine hX _ _ _ _ _ _ ?_
        refine Or.inr (And.intro rfl (Exists.intro _ (Exists.intro _ (And.intro rfl (And.intro v3 ?_)))))
        refine hX _ _ _ _ _ _ ?_
        refine Exists.intro 9 (And.intro rfl (And.intro (by omega) (And.intro rfl ?_)))
        refine hm _ (fun τ' n' hC' => ?_)
        refine hX _ _ _ _ _ _ ?_
        exact And.intro (fun _ => nxt τ' n' (cc + 1) (ss + 14) hC' (by omega) (by omega)) (fun hc => absurd rfl hc)
      | 1, _ =>
        refine Or.inl (Exists.intro 1 (Exists.intro 59 (And.intro rfl (And.intro (nI_toInt (by decide)) ?_))))
        refine hX _ _ _ _ _ _ ?_
        iterate 5 refine hX _ _ _ _ _ _ ?_
        refine Or.inr (And.intro rfl (Exists.intro _ (Exists.intro _ (And.intro rfl (And.intro v1 ?_)))))
        iterate 5 refine hX _ _ _ _ _ _ ?_
        refine Or.inr (And.intro rfl (Exists.intro _ (Exists.intro _ (And.intro rfl (And.intro v2 ?_)))))
        iterate 5 refine hX _ _ _ _ _ _ ?_
        refine Or.inr (And.intro rfl (Exists.intro _ (Exists.intro _ (And.intro rfl (And.intro v3 ?_)))))
        refine hX _ _ _ _ _ _ ?_
        refine Exists.intro 0 (And.intro rfl (And.intro (by omega) (And.intro rfl ?_)))
        refine p_ask _ _ _ σ n hC _ (fun v τ h20 hm => ?_)
        refine hX _ _ _ _ _ _ ?_
        iterate 5 refine hX _ _ _ _ _ _ ?_
        refine Or.inr (And.intro rfl (Exists.intro _ (Exists.intro _ (And.intro rfl (And.intro v1 ?_)))))
        iterate 5 refine hX _ _ _ _ _ _ ?_
        refine Or.inr (And.intro rfl (Exists.intro _ (Exists.intro _ (And.intro rfl (And.intro v2 ?_)))))
        iterate 5 refine hX _ _ _ _ _ _ ?_
        refine Or.inr (And.intro rfl (Exists.intro _ (Exists.intro _ (And.intro rfl (And.intro v3 ?_)))))
        refine hX _ _ _ _ _ _ ?_
        refine Exists.intro 9 (And.intro rfl (And.intro (by omega) (And.intro rfl ?_)))
        refine hm _ (fun τ' n' hC' => ?_)
        refine hX _ _ _ _ _ _ ?_
        exact And.intro (fun _ => nxt τ' n' cc ss hC' (by omega) (by omega)) (fun hc => absurd rfl hc)
      | 2, _ =>
        refine Or.inl (Exists.intro 2 (Exists.intro 96 (And.intro rfl (And.intro (nI_toInt (by decide)) ?_))))
        refine hX _ _ _ _ _ _ ?_
        iterate 5 refine hX _ _ _ _ _ _ ?_
        refine Or.inr (And.intro rfl (Exists.intro _ (Exists.intro _ (And.intro rfl (And.intro v1 ?_)))))
        refine hX _ _ _ _ _ _ ?_
        refine Exists.intro 0 (And.intro rfl (And.intro (by omega) (And.intro rfl ?_)))
        refine p_trace _ σ n hC _ (fun v τ h20 hm => ?_)
        refine hX _ _ _ _ _ _ ?_
        iterate 5 refine hX _ _ _ _ _ _ ?_
        refine Or.inr (And.intro rfl (Exists.intro _ (Exists.intro _ (And.intro rfl (And.intro v1 ?_)))))
        refine hX _ _ _ _ _ _ ?_
        refine Exists.intro 9 (And.intro rfl (And.intro (by omega) (And.intro rfl ?_)))
        refine hm _ (fun τ' n' hC' => ?_)
        refine hX _ _ _ _ _ _ ?_
        exact And.intro (fun _ => nxt τ' n' cc ss hC' (by omega) (by omega)) (fun hc => absurd rfl hc)
      | 3, _ =>
        refine Or.inl (Exists.intro 3 (Exists.intro 113 (And.intro rfl (And.intro (nI_toInt (by decide)) ?_))))
        refine hX _ _ _ _ _ _ ?_
        iterate 5 refine hX _ _ _ _ _ _ ?_
        refine Or.inr (And.intro rfl (Exists.intro _ (Exists.intro _ (And.intro rfl (And.intro v1 ?_)))))
        iterate 5 refine hX _ _ _ _ _ _ ?_
        refine Or.inr (And.intro rfl (Exists.intro _ (Exists.intro _ (And.intro rfl (And.intro v2 ?_)))))
        iterate 5 refine hX _ _ _ _ _ _ ?_
        refine Or.inr (And.intro rfl (Exists.intro _ (Exists.intro _ (And.intro rfl (And.intro v3 ?_)))))
        refine hX _ _ _ _ _ _ ?_
        refine Exists.intro 0 (And.intro rfl (And.intro (by omega) (And.intro rfl ?_)))
        refine p_lane _ _ _ σ n hC _ (fun v τ h20 hm => ?_)
        refine hX _ _ _ _ _ _ ?_
        iterate 5 refine hX _ _ _ _ _ _ ?_
        refine Or.inr (And.intro rfl (Exists.intro _ (Exists.intro _ (And.intro rfl (And.intro v1 ?_)))))
        iterate 5 refine hX _ _ _ _ _ _ ?_
        refine Or.inr (And.intro rfl (Exists.intro _ (Exists.intro _ (And.intro rfl (And.intro v2 ?_)))))
        iterate 5 refine hX _ _ _ _ _ _ ?_
        refine Or.inr (And.intro rfl (Exists.intro _ (Exists.intro _ (And.intro rfl (And.intro v3 ?_)))))
        refine hX _ _ _ _ _ _ ?_
        refine Exists.intro 9 (And.intro rfl (And.intro (by omega) (And.intro rfl ?_)))
        refine hm _ (fun τ' n' hC' => ?_)
        refine hX _ _ _ _ _ _ ?_
        exact And.intro (fun _ => nxt τ' n' cc ss hC' (by omega) (by omega)) (fun hc => absurd rfl hc)
      | 4, _ =>
        refine Or.inl (Exists.intro 4 (Exists.intro 150 (And.intro rfl (And.intro (nI_toInt (by decide)) ?_))))
        refine hX _ _ _ _ _ _ ?_
        iterate 5 refine hX _ _ _ _ _ _ ?_
        refine Or.inr (And.intro rfl (Exists.intro _ (Exists.intro _ (And.intro rfl (And.intro v1 ?_)))))
        refine hX _ _ _ _ _ _ ?_
        refine Exists.intro 0 (And.intro rfl (And.intro (by omega) (And.intro rfl ?_)))
        refine p_season _ σ n hC _ (fun v τ h20 hm => ?_)
        refine hX _ _ _ _ _ _ ?_
        iterate 5 refine hX _ _ _ _ _ _ ?_
        refine Or.inr (And.intro rfl (Exists.intro _ (Exists.intro _ (And.intro rfl (And.intro v1 ?_)))))
        refine hX _ _ _ _ _ _ ?_
        refine Exists.intro 9 (And.intro rfl (And.intro (by omega) (And.intro rfl ?_)))
        refine hm _ (fun τ' n' hC' => ?_)
        refine hX _ _ _ _ _ _ ?_
        exact And.intro (fun _ => nxt τ' n' cc ss hC' (by omega) (by omega)) (fun hc => absurd rfl hc)
      | 5, _ =>
        refine Or.inl (Exists.intro 5 (Exists.intro 167 (And.intro rfl (And.intro (nI_toInt (by decide)) ?_))))
        refine hX _ _ _ _ _ _ ?_
        iterate 5 refine hX _ _ _ _ _ _ ?_
        refine Or.inr (And.intro rfl (Exists.intro _ (Exists.intro _ (And.intro rfl (And.intro v1 ?_)))))
        iterate 5 refine hX _ _ _ _ _ _ ?_
        refine Or.inr (And.intro rfl (Exists.intro _ (Exists.intro _ (And.intro rfl (And.intro v2 ?_)))))
        refine hX _ _ _ _ _ _ ?_
        refine Exists.intro 0 (And.intro rfl (And.intro (by omega) (And.intro rfl ?_)))
        refine p_board _ _ σ n hC _ (fun v τ h20 hm => ?_)
        refine hX _ _ _ _ _ _ ?_
        iterate 5 refine hX _ _ _ _ _ _ ?_
        refine Or.inr (And.intro rfl (Exists.intro _ (Exists.intro _ (And.intro rfl (And.intro v1 ?_)))))
        iterate 5 refine hX _ _ _ _ _ _ ?_
        refine Or.inr (And.intro rfl (Exists.intro _ (Exists.intro _ (And.intro rfl (And.intro v2 ?_)))))
        refine hX _ _ _ _ _ _ ?_
        refine Exists.intro 9 (And.intro rfl (And.intro (by omega) (And.intro rfl ?_)))
        refine hm _ (fun τ' n' hC' => ?_)
        refine hX _ _ _ _ _ _ ?_
        exact And.intro (fun _ => nxt τ' n' cc ss hC' (by omega) (by omega)) (fun hc => absurd rfl hc)
      | 6, _ =>
        refine Or.inl (Exists.intro 6 (Exists.intro 194 (And.intro rfl (And.intro (nI_toInt (by decide)) ?_))))
        refine hX _ _ _ _ _ _ ?_
        iterate 5 refine hX _ _ _ _ _ _ ?_
        refine Or.inr (And.intro rfl (Exists.intro _ (Exists.intro _ (And.intro rfl (And.intro v1 ?_)))))
        refine hX _ _ _ _ _ _ ?_
        refine Exists.intro 0 (And.intro rfl (And.intro (by omega) (And.intro rfl ?_)))
        refine p_off _ σ n hC _ (fun v τ h20 hm => ?_)
        refine hX _ _ _ _ _ _ ?_
        iterate 5 refine hX _ _ _ _ _ _ ?_
        refine Or.inr (And.intro rfl (Exists.intro _ (Exists.intro _ (And.intro rfl (And.intro v1 ?_)))))
        refine hX _ _ _ _ _ _ ?_
        refine Exists.intro 9 (And.intro rfl (And.intro (by omega) (And.intro rfl ?_)))
        refine hm _ (fun τ' n' hC' => ?_)
        refine hX _ _ _ _ _ _ ?_
        exact And.intro (fun _ => nxt τ' n' cc ss hC' (by omega) (by omega)) (fun hc => absurd rfl hc)
      | 7, _ =>
        refine Or.inl (Exists.intro 7 (Exists.intro 211 (And.intro rfl (And.intro (nI_toInt (by decide)) ?_))))
        refine hX _ _ _ _ _ _ ?_
        refine hX _ _ _ _ _ _ ?_
        refine Exists.intro 0 (And.intro rfl (And.intro (by omega) (And.intro rfl ?_)))
        refine p_sail σ n hC _ (fun v τ h20 hm => ?_)
        refine hX _ _ _ _ _ _ ?_
        refine hX _ _ _ _ _ _ ?_
        refine Exists.intro 9 (And.intro rfl (And.intro (by omega) (And.intro rfl ?_)))
        refine hm _ (fun τ' n' hC' => ?_)
        refine hX _ _ _ _ _ _ ?_
        exact And.intro (fun _ => nxt τ' n' cc ss hC' (by omega) (by omega)) (fun hc => absurd rfl hc)
      | 8, _ =>
        refine Or.inl (Exists.intro 8 (Exists.intro 218 (And.intro rfl (And.intro (nI_toInt (by decide)) ?_))))
        refine hX _ _ _ _ _ _ ?_
        iterate 5 refine hX _ _ _ _ _ _ ?_
        refine Or.inr (And.intro rfl (Exists.intro _ (Exists.intro _ (And.intro rfl (And.intro v1 ?_)))))
        refine hX _ _ _ _ _ _ ?_
        refine Exists.intro 0 (And.intro rfl (And.intro (by omega) (And.intro rfl ?_)))
        refine p_back _ σ n hC _ (fun v τ h20 hm => ?_)
        refine hX _ _ _ _ _ _ ?_
        iterate 5 refine hX _ _ _ _ _ _ ?_
        refine Or.inr (And.intro rfl (Exists.intro _ (Exists.intro _ (And.intro rfl (And.intro v1 ?_)))))
        refine hX _ _ _ _ _ _ ?_
        refine Exists.intro 9 (And.intro rfl (And.intro (by omega) (And.intro rfl ?_)))
        refine hm _ (fun τ' n' hC' => ?_)
        refine hX _ _ _ _ _ _ ?_
        exact And.intro (fun _ => nxt τ' n' cc ss hC' (by omega) (by omega)) (fun hc => absurd rfl hc)
      | 9, _ =>
        refine Or.inl (Exists.intro 9 (Exists.intro 235 (And.intro rfl (And.intro (nI_toInt (by decide)) ?_))))
        refine hX _ _ _ _ _ _ ?_
        iterate 5 refine hX _ _ _ _ _ _ ?_
        refine Or.inr (And.intro rfl (Exists.intro _ (Exists.intro _ (And.intro rfl (And.intro v1 ?_)))))
        iterate 5 refine hX _ _ _ _ _ _ ?_
        refine Or.inr (And.intro rfl (Exists.intro _ (Exists.intro _ (And.intro rfl (And.intro v2 ?_)))))
        refine hX _ _ _ _ _ _ ?_
        refine Exists.intro 0 (And.intro rfl (And.intro (by omega) (And.intro rfl ?_)))
        refine p_told _ _ σ n hC _ (fun v τ h20 hm => ?_)
        refine hX _ _ _ _ _ _ ?_
        iterate 5 refine hX _ _ _ _ _ _ ?_
        refine Or.inr (And.intro rfl (Exists.intro _ (Exists.intro _ (And.intro rfl (And.intro v1 ?_)))))
        iterate 5 refine hX _ _ _ _ _ _ ?_
        refine Or.inr (And.intro rfl (Exists.intro _ (Exists.intro _ (And.intro rfl (And.intro v2 ?_)))))
        refine hX _ _ _ _ _ _ ?_
        refine Exists.intro 9 (And.intro rfl (And.intro (by omega) (And.intro rfl ?_)))
        refine hm _ (fun τ' n' hC' => ?_)
        refine hX _ _ _ _ _ _ ?_
        exact And.intro (fun _ => nxt τ' n' cc ss hC' (by omega) (by omega)) (fun hc => absurd rfl hc)
      | 10, _ =>
        refine Or.inl (Exists.intro 10 (Exists.intro 262 (And.intro rfl (And.intro (nI_toInt (by decide)) ?_))))
        refine hX _ _ _ _ _ _ ?_
        iterate 5 refine hX _ _ _ _ _ _ ?_
        refine Or.inr (And.intro rfl (Exists.intro _ (Exists.intro _ (And.intro rfl (And.intro v1 ?_)))))
        iterate 5 refine hX _ _ _ _ _ _ ?_
        refine Or.inr (And.intro rfl (Exists.intro _ (Exists.intro _ (And.intro rfl (And.intro v2 ?_)))))
        refine hX _ _ _ _ _ _ ?_
        refine Exists.intro 0 (And.intro rfl (And.intro (by omega) (And.intro rfl ?_)))
        refine p_deck _ _ σ n hC _ (fun v τ h20 hm => ?_)
        refine hX _ _ _ _ _ _ ?_
        iterate 5 refine hX _ _ _ _ _ _ ?_
        refine Or.inr (And.intro rfl (Exists.intro _ (Exists.intro _ (And.intro rfl (And.intro v1 ?_)))))
        iterate 5 refine hX _ _ _ _ _ _ ?_
        refine Or.inr (And.intro rfl (Exists.intro _ (Exists.intro _ (And.intro rfl (And.intro v2 ?_)))))
        refine hX _ _ _ _ _ _ ?_
        refine Exists.intro 9 (And.intro rfl (And.intro (by omega) (And.intro rfl ?_)))
        refine hm _ (fun τ' n' hC' => ?_)
        refine hX _ _ _ _ _ _ ?_
        exact And.intro (fun _ => nxt τ' n' cc ss hC' (by omega) (by omega)) (fun hc => absurd rfl hc)
      | 11, _ =>
        refine Or.inl (Exists.intro 11 (Exists.intro 289 (And.intro rfl (And.intro (nI_toInt (by decide)) ?_))))
        refine hX _ _ _ _ _ _ ?_
        iterate 5 refine hX _ _ _ _ _ _ ?_
        refine Or.inr (And.intro rfl (Exists.intro _ (Exists.intro _ (And.intro rfl (And.intro v1 ?_)))))
        refine hX _ _ _ _ _ _ ?_
        refine Exists.intro 0 (And.intro rfl (And.intro (by omega) (And.intro rfl ?_)))
        refine p_count _ σ n hC _ (fun v τ h20 hm => ?_)
        refine hX _ _ _ _ _ _ ?_
        iterate 5 refine hX _ _ _ _ _ _ ?_
        refine Or.inr (And.intro rfl (Exists.intro _ (Exists.intro _ (And.intro rfl (And.intro v1 ?_)))))
        refine hX _ _ _ _ _ _ ?_
        refine Exists.intro 9 (And.intro rfl (And.intro (by omega) (And.intro rfl ?_)))
        refine hm _ (fun τ' n' hC' => ?_)
        refine hX _ _ _ _ _ _ ?_
        exact And.intro (fun _ => nxt τ' n' cc ss hC' (by omega) (by omega)) (fun hc => absurd rfl hc)
      | 12, _ =>
        refine Or.inl (Exists.intro 12 (Exists.intro 306 (And.intro rfl (And.intro (nI_toInt (by decide)) ?_))))
        refine hX _ _ _ _ _ _ ?_
        refine hX _ _ _ _ _ _ ?_
        refine Exists.intro 0 (And.intro rfl (And.intro (by omega) (And.intro rfl ?_)))
        refine p_till σ n hC _ (fun v hm => ?_)
        refine hX _ _ _ _ _ _ ?_
        refine hX _ _ _ _ _ _ ?_
        refine Exists.intro 9 (And.intro rfl (And.intro (by omega) (And.intro rfl ?_)))
        refine hm _ ?_
        refine hX _ _ _ _ _ _ ?_
        refine hX _ _ _ _ _ _ ?_
        exact And.intro (fun _ => nxt σ n cc ss hC (by omega) (by omega)) (fun hc => absurd (lg_cmp_self v) hc)
      | 13, _ => exact Or.inr (And.intro (Or.inr (by rw [nI_toInt (by decide)]; decide)) (nxt σ n cc ss hC (by omega) (by omega)))
      | 14, _ => exact Or.inr (And.intro (Or.inr (by rw [nI_toInt (by decide)]; decide)) (nxt σ n cc ss hC (by omega) (by omega)))
      | 15, _ => exact Or.inr (And.intro (Or.inr (by rw [nI_toInt (by decide)]; decide)) (nxt σ n cc ss hC (by omega) (by omega)))
      | _ + 16, h => exact absurd h (by omega)
theorem fd_law : fd_LawOk := by
  intro L xs hL X hX hV
  have hs : fd_clo (fd_alloc fd_s0) := clo_al (fun a k x h => by cases h)
  refine hX _ _ _ _ _ _ ?_
  refine And.intro rfl (And.intro ⟨by decide, by decide, okL_c trivial okL_n, okV_n, fun a k x h => by cases h⟩ ?_)
  iterate 2 refine hX _ _ _ _ _ _ ?_
  refine Exists.intro _ (And.intro rfl ?_)
  refine And.intro ⟨by decide, by decide, okL_c trivial okL_n, okV_c (ok_r (by decide)) okV_n, hs⟩ ?_
  refine ok_dinit 98 (fd_alloc fd_s0) _ rfl (fun i j => ?_) (fun i j => ?_) (fun i j => ?_) (fun τ hI => ?_)
  · show (if i = 0 then 0 else 0) = (0 : Int32); split <;> rfl
  · show (if i = 0 then none else none) = (none : Option Nat); split <;> rfl
  · show (if i = 0 then 0 else 0) = (0 : Int64); split <;> rfl
  have hcl := in_clo hI
  obtain ⟨N, H, R, L'⟩ := τ
  have hN : N = 9 := hI.1
  subst hN
  refine hX _ _ _ _ _ _ ?_
  refine hX _ _ _ _ _ _ ?_
  refine And.intro rfl (And.intro ⟨by decide, by decide, okL_c (ok_r (show 0 < 9 by decide)) (okL_c trivial okL_n), okV_n, hcl⟩ ?_)
  iterate 2 refine hX _ _ _ _ _ _ ?_
  refine Exists.intro _ (And.intro rfl ?_)
  have hcl2 := clo_al hcl
  refine And.intro ⟨by decide, by decide, okL_c (ok_r (show 0 < 10 by decide)) (okL_c trivial okL_n), okV_c (ok_r (show 9 < 10 by decide)) okV_n, hcl2⟩ ?_
  refine ok_minit 99 (fd_u0 H 9 0) (fd_u0 R 9 none) (fd_u0 L' 9 0) _ hcl2 (fun ω hM => ?_)
  iterate 3 refine hX _ _ _ _ _ _ ?_
  exact hV _ _ [(3, .inl (nI 0)), (2, rf 9), (1, rf 0), (0, .inr (.inr (.inr 2)))] _ _ _ _ (And.intro rfl (And.intro rfl (And.intro rfl (And.intro rfl trivial)))) (law_loop L xs hL X hX hV 2048 0 ω 0 _ _ (by omega) (by decide) (by decide) (by decide) (first_Cp hI hM))
end
section
theorem whole_start {p : Program} {e : Env} {s : State} {m : MethodId} {below : List Frame} {meth : Method} {c : Code} (l : Launch) {b L : Nat} {xs : Nat → Int32} (hL : L ≤ 2048) (C0 : lw_At p s m meth c b L xs) : W p l e room_1 s m #[Value.ref b] below meth c s.heap [] 0 0 (lw_Z below #[Value.ref b] s) (entryFrame m ([Value.ref b] : List Value).toArray 4) := fd_start fd_law l hL C0
set_option maxHeartbeats 4000000 in
theorem lw_walk (l : Launch) (b : Addr) (xs : List Int32) : MetFree l x (headSpec (Jvm.Cond.code x code maxLocals ret :: tables_1) room_1) (lw_P b xs) (fun _ _ _ _ _ => True) lw_Q := by
  refine MetFree.of_bodyS (code := code) (maxLocals := maxLocals) (ret := ret) (by decide) ?_ ?_
  · intro args s m h hn
    obtain ⟨meth, c, h1, h2, h3, h4, h5, h6, -, -⟩ := Cond.code_spec hn (atoms_spec (ws := Jvm.Cond.code x code maxLocals ret :: tables_1) h _ List.mem_cons_self)
    exact ⟨meth, c, h1, h2, h3, h4, h5, h6⟩
  · intro p e s m args below meth c s₁ B hml0 hP _
    obtain ⟨rfl, hx, hbd, hgv⟩ := hP
    obtain ⟨scr, harrAt, hlist, hof, hsmall⟩ := hx
    obtain ⟨hcb, hkn, -, -⟩ := State.arrayAt?_spec harrAt
    have hown : s.vm.findClass R_law = some m.cls := findClass_of_methodNamed B.named
    have hts0 : ∀ c ∈ (Jvm.Cond.code x code maxLocals ret :: tables_1), c.before #[Value.ref b] s = true := atoms_spec (ws := Jvm.Cond.code x code maxLocals ret :: tables_1) B.pre
    have hts : ∀ w ∈ lw_tbl, w.before #[Value.ref b] s = true := k2_hts_sels lw_privs (fun w hw => hts0 w (List.mem_cons_of_mem _ hw)) lw_privs_ok
    have hml : c.maxLocals = 4 := B.maxLocals_eq (hts0 _ List.mem_cons_self)
    have X₀ : Stand p l e room_1 s m #[Value.ref b] below meth c s₁ [] 0 0 := Stand.of_body B
    have hh0 : s₁.heap = s.heap := by rw [B.state]; rfl
    have hsz : scr.slots.size = xs.length := by rw [← Array.length_toList, hlist, List.length_map]
    have hval : ∀ j : Nat, j < xs.length → scr.slots[j]? = some (.int (xs.getD j 0)) := fun j hj => by
      rw [← Array.getElem?_toList, hlist]
      simp [hj]
    have hbl : b < s.heap.size := (Array.getElem?_eq_some_iff.mp hcb).1
    have hX : va_X b xs.length (fun j => xs.getD j 0) s s.heap := ⟨scr, hcb, hof, hkn, hsz, hval⟩
    have K : W p l e room_1 s m #[Value.ref b] below meth c s₁.heap [] 0 0 (lw_Z below #[Value.ref b] s) (entryFrame m ([Value.ref b] : List Value).toArray 4) := by
      rw [hh0]
      exact whole_start l hbd ⟨B.exec, B.bytes, B.returns, hml, hown, hts, hX, hbl, B.notSynchronized, hgv⟩
    obtain ⟨t, a1, o, b1, b2, b3⟩ := K s₁ rfl X₀
    exact ⟨t, o, a1, b1, b2, b3⟩
theorem lw_pre_spec {args : Array Value} {s : State} (h : (Jvm.Cond.and given_1 narrow_1).before args s = true) (hr : rest_1_c.before args s = true) : ∃ (b : Addr) (xs : List Int32), lw_P b xs args s := by
  have hs := flat_of_before _ h
  have hq := flat_of_before _ hr
  have hc : (Cond.count 1).before args s = true := hs _ (by decide +kernel)
  have harr : (Cond.arrayOf (.arg 0) .int).before args s = true := hs _ (by decide +kernel)
  have hle : (Cond.le (.length (.arg 0)) (.int 2048)).before args s = true := hs _ (by decide +kernel)
  have hlen : (Cond.isInt (.length (.arg 0))).before args s = true := hq _ (by decide +kernel)
  have hall : (Cond.all (.arg 0) (.isInt (.elem (.arg 0) (.index 0)))).before args s = true := hq _ (by decide +kernel)
  obtain ⟨b, xs, hb, hx⟩ := State.ints_of_pre rfl harr hlen hall
  have hsm : xs.length < 2 ^ 31 := hx.choose_spec.2.2.2
  have hev : (Term.length (.arg 0)).eval args s none [] s = some (.int xs.length.toInt32) := hx.length_eval hb
  have hv := Cond.le_ints hev (show (Term.int 2048).eval args s none [] s = some (.int 2048) from rfl)
  have hd : xs.length.toInt32 ≤ 2048 := by
    simpa [Cond.before, Cond.holds, hv] using hle
  have hN : xs.length ≤ 2048 := (Int32.ofNat_le_ofNat hsm (by decide)).mp (show Int32.ofNat xs.length ≤ Int32.ofNat 2048 from hd)
  exact ⟨b, xs, Cond.one_arg hc (show args[0]? = some (.ref b) from hb), hx, hN, h⟩
theorem lw_comes (l : Launch) : Comes l x (Jvm.Cond.code x code maxLocals ret :: tables_1) room_1 (fun tb e args s => Calls_1 tb e args s ∧ rest_1 tb e args s ∧ Pre_1 tb e args s)
    (fun _ _ args s o t => lw_Q args s o t) := by
  intro p e ha hc hk s m args below hf hfit hheap happ hpre
  obtain ⟨b, xs, hP⟩ := lw_pre_spec hpre.2.2 hpre.2.1
  obtain ⟨k, o, h1, h2, h3, hQ⟩ := lw_walk l b xs p e ha hc hk s m args below hf ((Spec.applies_iff_loose hf).mp happ).1 hP trivial
  exact ⟨k, o, h1, h2, h3, hQ⟩
theorem lw_frame {s t : State} {o : Outcome} {args : Array Value} (h : Framed s o t [] 600000 7302250) :
    Framed s o t (fieldLocs frame_1_writes args s ++ arrayLocs frame_1_arrays args s ++ staticLocs frame_1_statics s) 600000 7302250 := h
theorem lw_limb (L : Cond) (hL : ∀ (args : Array Value) (s t : State), L.after args s (.returned (some (.int 1))) t = true) :
    ArmFor flags0 classFile x code maxLocals ret World_1 tables_1 room_1 Calls_1 rest_1 Pre_1
      (fun tb e a s o t => postC L tb e a s o t ∧ Framed s o t (fieldLocs frame_1_writes a s ++ arrayLocs frame_1_arrays a s ++ staticLocs frame_1_statics s) 600000 7302250) := by
  intro l _ _ _ p e ha hc hk s m args below hf hfit hheap happ hpre
  obtain ⟨k, o, h1, h2, h3, rfl, hF⟩ := lw_comes l p e ha hc hk s m args below hf hfit hheap happ hpre
  exact ⟨k, _, h1, h2, h3, hL args s _, lw_frame hF⟩
theorem i_vc : Claimed_1_1 ∧ Claimed_1_2 := ⟨lw_limb limb_1_1 (fun args s t => by simp [limb_1_1, Cond.after, Cond.holds, Cond.value]), lw_limb limb_1_2 (fun args s t => Cond.after_iff.mpr (by
  first | (rw [show limb_1_2 = Cond.eq .result (.int 1) from rfl, Cond.eq_ints (x := 1) (y := 1) rfl rfl]; simp; done) | (simp [limb_1_2, Cond.value, Term.eval]; done)))⟩
end
