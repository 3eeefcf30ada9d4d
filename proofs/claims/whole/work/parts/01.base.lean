-- ===== PART A: goes FIRST, ahead of the names: the tables' words, and 'selects' of the private methods out of them =====
/-- a private method of a class that the tables say can be made, by its rows of tables_1 -/
def lw_okq (q : MethodName × Nat) : Prop := (q.1.cls ≠ "java/lang/invoke/MethodHandle" ∧ q.1.cls ≠ "java/lang/invoke/VarHandle") ∧ Cond.instantiable q.1.cls q.2 ∈ tables_1 ∧ Cond.privateMethod q.1 ∈ tables_1 ∧ Cond.instanceMethod q.1 ∈ tables_1
theorem lw_p0 : lw_okq (⟨"FerryDeck", "measure", "(LFerryDeck$Vehicle;)V"⟩, 7) := ⟨⟨by decide +kernel, by decide +kernel⟩, List.mem_of_getElem? (i := 8) (by decide +kernel), List.mem_of_getElem? (i := 188) (by decide +kernel), List.mem_of_getElem? (i := 189) (by decide +kernel)⟩
theorem lw_p1 : lw_okq (⟨"FerryDeck$Answers", "own", "(II)I"⟩, 7) := ⟨⟨by decide +kernel, by decide +kernel⟩, List.mem_of_getElem? (i := 20) (by decide +kernel), List.mem_of_getElem? (i := 196) (by decide +kernel), List.mem_of_getElem? (i := 197) (by decide +kernel)⟩
theorem lw_p2 : lw_okq (⟨"FerryDeck$Answers", "answerAs", "(III)I"⟩, 7) := ⟨⟨by decide +kernel, by decide +kernel⟩, List.mem_of_getElem? (i := 20) (by decide +kernel), List.mem_of_getElem? (i := 200) (by decide +kernel), List.mem_of_getElem? (i := 201) (by decide +kernel)⟩
theorem lw_p3 : lw_okq (⟨"FerryDeck$Answers", "byBody", "(IIII)I"⟩, 7) := ⟨⟨by decide +kernel, by decide +kernel⟩, List.mem_of_getElem? (i := 20) (by decide +kernel), List.mem_of_getElem? (i := 215) (by decide +kernel), List.mem_of_getElem? (i := 216) (by decide +kernel)⟩
theorem lw_p4 : lw_okq (⟨"FerryDeck$Answers", "leave", "(I)V"⟩, 7) := ⟨⟨by decide +kernel, by decide +kernel⟩, List.mem_of_getElem? (i := 20) (by decide +kernel), List.mem_of_getElem? (i := 219) (by decide +kernel), List.mem_of_getElem? (i := 220) (by decide +kernel)⟩
theorem lw_p5 : lw_okq (⟨"FerryDeck$Answers", "above", "(III)I"⟩, 7) := ⟨⟨by decide +kernel, by decide +kernel⟩, List.mem_of_getElem? (i := 20) (by decide +kernel), List.mem_of_getElem? (i := 223) (by decide +kernel), List.mem_of_getElem? (i := 224) (by decide +kernel)⟩
theorem lw_p6 : lw_okq (⟨"FerryDeck", "vehicleAt", "(I)LFerryDeck$Vehicle;"⟩, 7) := ⟨⟨by decide +kernel, by decide +kernel⟩, List.mem_of_getElem? (i := 8) (by decide +kernel), List.mem_of_getElem? (i := 234) (by decide +kernel), List.mem_of_getElem? (i := 235) (by decide +kernel)⟩
theorem lw_p7 : lw_okq (⟨"FerryDeck", "laneAt", "(I)LFerryDeck$Lane;"⟩, 7) := ⟨⟨by decide +kernel, by decide +kernel⟩, List.mem_of_getElem? (i := 8) (by decide +kernel), List.mem_of_getElem? (i := 255) (by decide +kernel), List.mem_of_getElem? (i := 256) (by decide +kernel)⟩
theorem lw_p8 : lw_okq (⟨"FerryDeck", "price", "(LFerryDeck$Vehicle;)I"⟩, 7) := ⟨⟨by decide +kernel, by decide +kernel⟩, List.mem_of_getElem? (i := 8) (by decide +kernel), List.mem_of_getElem? (i := 287) (by decide +kernel), List.mem_of_getElem? (i := 288) (by decide +kernel)⟩
theorem lw_p9 : lw_okq (⟨"FerryDeck", "countOf", "(I)I"⟩, 7) := ⟨⟨by decide +kernel, by decide +kernel⟩, List.mem_of_getElem? (i := 8) (by decide +kernel), List.mem_of_getElem? (i := 315) (by decide +kernel), List.mem_of_getElem? (i := 316) (by decide +kernel)⟩
theorem lw_p10 : lw_okq (⟨"FerryDeck", "apart", "()I"⟩, 7) := ⟨⟨by decide +kernel, by decide +kernel⟩, List.mem_of_getElem? (i := 8) (by decide +kernel), List.mem_of_getElem? (i := 319) (by decide +kernel), List.mem_of_getElem? (i := 320) (by decide +kernel)⟩
theorem lw_p11 : lw_okq (⟨"FerryDeck", "longestMinutes", "()I"⟩, 7) := ⟨⟨by decide +kernel, by decide +kernel⟩, List.mem_of_getElem? (i := 8) (by decide +kernel), List.mem_of_getElem? (i := 326) (by decide +kernel), List.mem_of_getElem? (i := 327) (by decide +kernel)⟩
theorem lw_p12 : lw_okq (⟨"FerryDeckModel", "isVehicle", "(I)Z"⟩, 15) := ⟨⟨by decide +kernel, by decide +kernel⟩, List.mem_of_getElem? (i := 363) (by decide +kernel), List.mem_of_getElem? (i := 427) (by decide +kernel), List.mem_of_getElem? (i := 428) (by decide +kernel)⟩
theorem lw_p13 : lw_okq (⟨"FerryDeckModel", "length", "(I)I"⟩, 15) := ⟨⟨by decide +kernel, by decide +kernel⟩, List.mem_of_getElem? (i := 363) (by decide +kernel), List.mem_of_getElem? (i := 431) (by decide +kernel), List.mem_of_getElem? (i := 432) (by decide +kernel)⟩
theorem lw_p14 : lw_okq (⟨"FerryDeckModel", "began", "(I)V"⟩, 15) := ⟨⟨by decide +kernel, by decide +kernel⟩, List.mem_of_getElem? (i := 363) (by decide +kernel), List.mem_of_getElem? (i := 435) (by decide +kernel), List.mem_of_getElem? (i := 436) (by decide +kernel)⟩
theorem lw_p15 : lw_okq (⟨"FerryDeckModel", "mass", "(I)I"⟩, 15) := ⟨⟨by decide +kernel, by decide +kernel⟩, List.mem_of_getElem? (i := 363) (by decide +kernel), List.mem_of_getElem? (i := 439) (by decide +kernel), List.mem_of_getElem? (i := 440) (by decide +kernel)⟩
def lw_privs_1 : List (MethodName × Nat) := [(⟨"FerryDeck", "measure", "(LFerryDeck$Vehicle;)V"⟩, 7), (⟨"FerryDeck$Answers", "own", "(II)I"⟩, 7), (⟨"FerryDeck$Answers", "answerAs", "(III)I"⟩, 7), (⟨"FerryDeck$Answers", "byBody", "(IIII)I"⟩, 7), (⟨"FerryDeck$Answers", "leave", "(I)V"⟩, 7), (⟨"FerryDeck$Answers", "above", "(III)I"⟩, 7), (⟨"FerryDeck", "vehicleAt", "(I)LFerryDeck$Vehicle;"⟩, 7), (⟨"FerryDeck", "laneAt", "(I)LFerryDeck$Lane;"⟩, 7), (⟨"FerryDeck", "price", "(LFerryDeck$Vehicle;)I"⟩, 7), (⟨"FerryDeck", "countOf", "(I)I"⟩, 7), (⟨"FerryDeck", "apart", "()I"⟩, 7), (⟨"FerryDeck", "longestMinutes", "()I"⟩, 7), (⟨"FerryDeckModel", "isVehicle", "(I)Z"⟩, 15), (⟨"FerryDeckModel", "length", "(I)I"⟩, 15), (⟨"FerryDeckModel", "began", "(I)V"⟩, 15), (⟨"FerryDeckModel", "mass", "(I)I"⟩, 15)]
theorem lw_r1 : ∀ q ∈ lw_privs_1, lw_okq q := List.forall_mem_cons.mpr ⟨lw_p0, List.forall_mem_cons.mpr ⟨lw_p1, List.forall_mem_cons.mpr ⟨lw_p2, List.forall_mem_cons.mpr ⟨lw_p3, List.forall_mem_cons.mpr ⟨lw_p4, List.forall_mem_cons.mpr ⟨lw_p5, List.forall_mem_cons.mpr ⟨lw_p6, List.forall_mem_cons.mpr ⟨lw_p7, List.forall_mem_cons.mpr ⟨lw_p8, List.forall_mem_cons.mpr ⟨lw_p9, List.forall_mem_cons.mpr ⟨lw_p10, List.forall_mem_cons.mpr ⟨lw_p11, List.forall_mem_cons.mpr ⟨lw_p12, List.forall_mem_cons.mpr ⟨lw_p13, List.forall_mem_cons.mpr ⟨lw_p14, List.forall_mem_cons.mpr ⟨lw_p15, fun _ h => absurd h List.not_mem_nil⟩⟩⟩⟩⟩⟩⟩⟩⟩⟩⟩⟩⟩⟩⟩⟩
theorem lw_p16 : lw_okq (⟨"FerryDeckModel", "minutes", "(I)I"⟩, 15) := ⟨⟨by decide +kernel, by decide +kernel⟩, List.mem_of_getElem? (i := 363) (by decide +kernel), List.mem_of_getElem? (i := 443) (by decide +kernel), List.mem_of_getElem? (i := 444) (by decide +kernel)⟩
theorem lw_p17 : lw_okq (⟨"FerryDeckModel", "fare", "(II)I"⟩, 15) := ⟨⟨by decide +kernel, by decide +kernel⟩, List.mem_of_getElem? (i := 363) (by decide +kernel), List.mem_of_getElem? (i := 447) (by decide +kernel), List.mem_of_getElem? (i := 448) (by decide +kernel)⟩
theorem lw_p18 : lw_okq (⟨"FerryDeckModel", "toll", "(I)I"⟩, 15) := ⟨⟨by decide +kernel, by decide +kernel⟩, List.mem_of_getElem? (i := 363) (by decide +kernel), List.mem_of_getElem? (i := 454) (by decide +kernel), List.mem_of_getElem? (i := 455) (by decide +kernel)⟩
theorem lw_p19 : lw_okq (⟨"FerryDeckModel", "danger", "(I)I"⟩, 15) := ⟨⟨by decide +kernel, by decide +kernel⟩, List.mem_of_getElem? (i := 363) (by decide +kernel), List.mem_of_getElem? (i := 461) (by decide +kernel), List.mem_of_getElem? (i := 462) (by decide +kernel)⟩
theorem lw_p20 : lw_okq (⟨"FerryDeckModel", "quiet", "(III)I"⟩, 15) := ⟨⟨by decide +kernel, by decide +kernel⟩, List.mem_of_getElem? (i := 363) (by decide +kernel), List.mem_of_getElem? (i := 485) (by decide +kernel), List.mem_of_getElem? (i := 486) (by decide +kernel)⟩
theorem lw_p21 : lw_okq (⟨"FerryDeckModel", "leftLength", "(I)I"⟩, 15) := ⟨⟨by decide +kernel, by decide +kernel⟩, List.mem_of_getElem? (i := 363) (by decide +kernel), List.mem_of_getElem? (i := 489) (by decide +kernel), List.mem_of_getElem? (i := 490) (by decide +kernel)⟩
theorem lw_p22 : lw_okq (⟨"FerryDeckModel", "carried", "(I)I"⟩, 15) := ⟨⟨by decide +kernel, by decide +kernel⟩, List.mem_of_getElem? (i := 363) (by decide +kernel), List.mem_of_getElem? (i := 493) (by decide +kernel), List.mem_of_getElem? (i := 494) (by decide +kernel)⟩
theorem lw_p23 : lw_okq (⟨"FerryDeckModel", "lasts", "(I)I"⟩, 15) := ⟨⟨by decide +kernel, by decide +kernel⟩, List.mem_of_getElem? (i := 363) (by decide +kernel), List.mem_of_getElem? (i := 505) (by decide +kernel), List.mem_of_getElem? (i := 506) (by decide +kernel)⟩
theorem lw_p24 : lw_okq (⟨"FerryDeckModel", "laneOf", "(I)I"⟩, 15) := ⟨⟨by decide +kernel, by decide +kernel⟩, List.mem_of_getElem? (i := 363) (by decide +kernel), List.mem_of_getElem? (i := 517) (by decide +kernel), List.mem_of_getElem? (i := 518) (by decide +kernel)⟩
theorem lw_p25 : lw_okq (⟨"FerryDeckModel", "aheadOf", "(I)I"⟩, 15) := ⟨⟨by decide +kernel, by decide +kernel⟩, List.mem_of_getElem? (i := 363) (by decide +kernel), List.mem_of_getElem? (i := 521) (by decide +kernel), List.mem_of_getElem? (i := 522) (by decide +kernel)⟩
def lw_privs_2 : List (MethodName × Nat) := [(⟨"FerryDeckModel", "minutes", "(I)I"⟩, 15), (⟨"FerryDeckModel", "fare", "(II)I"⟩, 15), (⟨"FerryDeckModel", "toll", "(I)I"⟩, 15), (⟨"FerryDeckModel", "danger", "(I)I"⟩, 15), (⟨"FerryDeckModel", "quiet", "(III)I"⟩, 15), (⟨"FerryDeckModel", "leftLength", "(I)I"⟩, 15), (⟨"FerryDeckModel", "carried", "(I)I"⟩, 15), (⟨"FerryDeckModel", "lasts", "(I)I"⟩, 15), (⟨"FerryDeckModel", "laneOf", "(I)I"⟩, 15), (⟨"FerryDeckModel", "aheadOf", "(I)I"⟩, 15)]
theorem lw_r2 : ∀ q ∈ lw_privs_2, lw_okq q := List.forall_mem_cons.mpr ⟨lw_p16, List.forall_mem_cons.mpr ⟨lw_p17, List.forall_mem_cons.mpr ⟨lw_p18, List.forall_mem_cons.mpr ⟨lw_p19, List.forall_mem_cons.mpr ⟨lw_p20, List.forall_mem_cons.mpr ⟨lw_p21, List.forall_mem_cons.mpr ⟨lw_p22, List.forall_mem_cons.mpr ⟨lw_p23, List.forall_mem_cons.mpr ⟨lw_p24, List.forall_mem_cons.mpr ⟨lw_p25, fun _ h => absurd h List.not_mem_nil⟩⟩⟩⟩⟩⟩⟩⟩⟩⟩
def lw_privs : List (MethodName × Nat) := lw_privs_1 ++ (lw_privs_2)
def lw_tbl : List Cond := k2_sels lw_privs ++ tables_1
theorem lw_privs_ok : ∀ q ∈ lw_privs, lw_okq q := by
  show ∀ q ∈ lw_privs_1 ++ (lw_privs_2), lw_okq q
  exact List.forall_mem_append.mpr ⟨lw_r1, lw_r2⟩
def RX0 : String := "FerryDeck$Answers"
def TX0 : u_T := fun k => match k with
  | 0 => ("FerryDeck$Answers", "trace", "[I", true)
  | 1 => ("FerryDeck$Answers", "traceLength", "I", false)
  | 2 => ("FerryDeck$Answers", "tracing", "Z", false)
  | 3 => ("FerryDeck$Answers", "askedKind", "I", false)
  | 4 => ("FerryDeck$Answers", "askedSize", "I", false)
  | 5 => ("FerryDeck$Answers", "askedLoad", "I", false)
  | _ => ("FerryDeck$Answers", "askedSeason", "I", false)
def tyX0 : Nat → FieldType := fun k => match k with
  | 0 => .array .int
  | 1 => .int
  | 2 => .boolean
  | 3 => .int
  | 4 => .int
  | 5 => .int
  | _ => .int
abbrev wsX00 : List Cond := u_ws RX0 TX0 7
theorem nmX0 : ∀ a, a < 7 → ∀ b, b < 7 → a ≠ b → (TX0 a).2.1 ≠ (TX0 b).2.1 := by decide +kernel
theorem tyX0_ok : ∀ k, k < 7 → parseFieldDescriptor (TX0 k).2.2.1 = some (tyX0 k) := by decide +kernel
abbrev cX0_init : ByteArray := prog_2_method_1_code
def yX0_init : MethodName := ⟨RX0, "<init>", "()V"⟩
abbrev cX0_answer : ByteArray := prog_2_method_2_code
def yX0_answer : MethodName := ⟨RX0, "answer", "(LFerryDeck$Vehicle;II)I"⟩
abbrev cX0_answerTraced : ByteArray := prog_2_method_3_code
def yX0_answerTraced : MethodName := ⟨RX0, "answerTraced", "(LFerryDeck$Vehicle;II)I"⟩
abbrev cX0_traceAt : ByteArray := prog_2_method_4_code
def yX0_traceAt : MethodName := ⟨RX0, "traceAt", "(I)I"⟩
abbrev cX0_own : ByteArray := prog_2_method_5_code
def yX0_own : MethodName := ⟨RX0, "own", "(II)I"⟩
abbrev cX0_above : ByteArray := prog_2_method_6_code
def yX0_above : MethodName := ⟨RX0, "above", "(III)I"⟩
abbrev cX0_answerAs : ByteArray := prog_2_method_7_code
def yX0_answerAs : MethodName := ⟨RX0, "answerAs", "(III)I"⟩
abbrev cX0_tellerOf : ByteArray := prog_2_method_8_code
def yX0_tellerOf : MethodName := ⟨RX0, "tellerOf", "(II)I"⟩
abbrev cX0_bodyOf : ByteArray := prog_2_method_9_code
def yX0_bodyOf : MethodName := ⟨RX0, "bodyOf", "(II)I"⟩
abbrev cX0_leave : ByteArray := prog_2_method_10_code
def yX0_leave : MethodName := ⟨RX0, "leave", "(I)V"⟩
abbrev cX0_byBody : ByteArray := prog_2_method_11_code
def yX0_byBody : MethodName := ⟨RX0, "byBody", "(IIII)I"⟩
abbrev cX0_lessATenth : ByteArray := prog_2_method_12_code
def yX0_lessATenth : MethodName := ⟨RX0, "lessATenth", "(I)I"⟩
def RX1 : String := "FerryDeck$Lane"
def TX1 : u_T := fun k => match k with
  | 0 => ("FerryDeck$Lane", "number", "I", true)
  | 1 => ("FerryDeck$Lane", "length", "I", false)
  | 2 => ("FerryDeck$Lane", "bearing", "I", false)
  | 3 => ("FerryDeck$Lane", "taken", "I", false)
  | 4 => ("FerryDeck$Lane", "carried", "I", false)
  | 5 => ("FerryDeck$Lane", "minutes", "I", false)
  | 6 => ("FerryDeck$Lane", "standing", "I", false)
  | 7 => ("FerryDeck$Lane", "first", "LFerryDeck$Vehicle;", false)
  | _ => ("FerryDeck$Lane", "last", "LFerryDeck$Vehicle;", false)
def tyX1 : Nat → FieldType := fun k => match k with
  | 0 => .int
  | 1 => .int
  | 2 => .int
  | 3 => .int
  | 4 => .int
  | 5 => .int
  | 6 => .int
  | 7 => .object "FerryDeck$Vehicle"
  | _ => .object "FerryDeck$Vehicle"
abbrev wsX10 : List Cond := u_ws RX1 TX1 9
theorem nmX1 : ∀ a, a < 9 → ∀ b, b < 9 → a ≠ b → (TX1 a).2.1 ≠ (TX1 b).2.1 := by decide +kernel
theorem tyX1_ok : ∀ k, k < 9 → parseFieldDescriptor (TX1 k).2.2.1 = some (tyX1 k) := by decide +kernel
abbrev cX1_init : ByteArray := prog_3_method_1_code
def yX1_init : MethodName := ⟨RX1, "<init>", "(I)V"⟩
abbrev cX1_lengthLeft : ByteArray := prog_3_method_2_code
def yX1_lengthLeft : MethodName := ⟨RX1, "lengthLeft", "()I"⟩
abbrev cX1_bearingLeft : ByteArray := prog_3_method_3_code
def yX1_bearingLeft : MethodName := ⟨RX1, "bearingLeft", "()I"⟩
abbrev cX1_hasRoomFor : ByteArray := prog_3_method_4_code
def yX1_hasRoomFor : MethodName := ⟨RX1, "hasRoomFor", "(LFerryDeck$Vehicle;)Z"⟩
abbrev cX1_append : ByteArray := prog_3_method_5_code
def yX1_append : MethodName := ⟨RX1, "append", "(LFerryDeck$Vehicle;)V"⟩
abbrev cX1_removeLast : ByteArray := prog_3_method_6_code
def yX1_removeLast : MethodName := ⟨RX1, "removeLast", "(I)V"⟩
abbrev cX1_sendAbroad : ByteArray := prog_3_method_7_code
def yX1_sendAbroad : MethodName := ⟨RX1, "sendAbroad", "()V"⟩
def RX2 : String := "FerryDeck$Vehicle"
def TX2 : u_T := fun k => match k with
  | 0 => ("FerryDeck$Vehicle", "number", "I", true)
  | 1 => ("FerryDeck$Vehicle", "kind", "I", true)
  | 2 => ("FerryDeck$Vehicle", "size", "I", true)
  | 3 => ("FerryDeck$Vehicle", "load", "I", true)
  | 4 => ("FerryDeck$Vehicle", "length", "I", false)
  | 5 => ("FerryDeck$Vehicle", "mass", "I", false)
  | 6 => ("FerryDeck$Vehicle", "minutes", "I", false)
  | 7 => ("FerryDeck$Vehicle", "toll", "I", false)
  | 8 => ("FerryDeck$Vehicle", "danger", "I", false)
  | 9 => ("FerryDeck$Vehicle", "how", "I", false)
  | 10 => ("FerryDeck$Vehicle", "lane", "I", false)
  | 11 => ("FerryDeck$Vehicle", "place", "I", false)
  | 12 => ("FerryDeck$Vehicle", "ahead", "LFerryDeck$Vehicle;", false)
  | _ => ("FerryDeck$Vehicle", "paid", "I", false)
def tyX2 : Nat → FieldType := fun k => match k with
  | 0 => .int
  | 1 => .int
  | 2 => .int
  | 3 => .int
  | 4 => .int
  | 5 => .int
  | 6 => .int
  | 7 => .int
  | 8 => .int
  | 9 => .int
  | 10 => .int
  | 11 => .int
  | 12 => .object "FerryDeck$Vehicle"
  | _ => .int
abbrev wsX20 : List Cond := u_ws RX2 TX2 14
theorem nmX2 : ∀ a, a < 14 → ∀ b, b < 14 → a ≠ b → (TX2 a).2.1 ≠ (TX2 b).2.1 := by decide +kernel
theorem tyX2_ok : ∀ k, k < 14 → parseFieldDescriptor (TX2 k).2.2.1 = some (tyX2 k) := by decide +kernel
abbrev cX2_init : ByteArray := prog_4_method_1_code
def yX2_init : MethodName := ⟨RX2, "<init>", "(IIII)V"⟩
abbrev cX2_isHeavy : ByteArray := prog_4_method_2_code
def yX2_isHeavy : MethodName := ⟨RX2, "isHeavy", "()Z"⟩
abbrev cX2_isMarked : ByteArray := prog_4_method_3_code
def yX2_isMarked : MethodName := ⟨RX2, "isMarked", "()Z"⟩
abbrev cX2_leaveDeck : ByteArray := prog_4_method_4_code
def yX2_leaveDeck : MethodName := ⟨RX2, "leaveDeck", "(I)V"⟩
def RX3 : String := "FerryDeck"
def TX3 : u_T := fun k => match k with
  | 0 => ("FerryDeck", "vehicles", "[LFerryDeck$Vehicle;", true)
  | 1 => ("FerryDeck", "vehicleCount", "I", false)
  | 2 => ("FerryDeck", "lanes", "[LFerryDeck$Lane;", true)
  | 3 => ("FerryDeck", "answers", "LFerryDeck$Answers;", true)
  | 4 => ("FerryDeck", "season", "I", false)
  | 5 => ("FerryDeck", "sailings", "I", false)
  | _ => ("FerryDeck", "till", "J", false)
def tyX3 : Nat → FieldType := fun k => match k with
  | 0 => .array (.object "FerryDeck$Vehicle")
  | 1 => .int
  | 2 => .array (.object "FerryDeck$Lane")
  | 3 => .object "FerryDeck$Answers"
  | 4 => .int
  | 5 => .int
  | _ => .long
abbrev wsX30 : List Cond := u_ws RX3 TX3 7
theorem nmX3 : ∀ a, a < 7 → ∀ b, b < 7 → a ≠ b → (TX3 a).2.1 ≠ (TX3 b).2.1 := by decide +kernel
theorem tyX3_ok : ∀ k, k < 7 → parseFieldDescriptor (TX3 k).2.2.1 = some (tyX3 k) := by decide +kernel
abbrev cX3_init : ByteArray := prog_1_method_1_code
def yX3_init : MethodName := ⟨RX3, "<init>", "()V"⟩
abbrev cX3_vehicle : ByteArray := prog_1_method_2_code
def yX3_vehicle : MethodName := ⟨RX3, "vehicle", "(III)I"⟩
abbrev cX3_ask : ByteArray := prog_1_method_3_code
def yX3_ask : MethodName := ⟨RX3, "ask", "(III)I"⟩
abbrev cX3_trace : ByteArray := prog_1_method_4_code
def yX3_trace : MethodName := ⟨RX3, "trace", "(I)I"⟩
abbrev cX3_lane : ByteArray := prog_1_method_5_code
def yX3_lane : MethodName := ⟨RX3, "lane", "(III)I"⟩
abbrev cX3_season : ByteArray := prog_1_method_6_code
def yX3_season : MethodName := ⟨RX3, "season", "(I)I"⟩
abbrev cX3_board : ByteArray := prog_1_method_7_code
def yX3_board : MethodName := ⟨RX3, "board", "(II)I"⟩
abbrev cX3_off : ByteArray := prog_1_method_8_code
def yX3_off : MethodName := ⟨RX3, "off", "(I)I"⟩
abbrev cX3_sail : ByteArray := prog_1_method_9_code
def yX3_sail : MethodName := ⟨RX3, "sail", "()I"⟩
abbrev cX3_back : ByteArray := prog_1_method_10_code
def yX3_back : MethodName := ⟨RX3, "back", "(I)I"⟩
abbrev cX3_told : ByteArray := prog_1_method_11_code
def yX3_told : MethodName := ⟨RX3, "told", "(II)I"⟩
abbrev cX3_deck : ByteArray := prog_1_method_12_code
def yX3_deck : MethodName := ⟨RX3, "deck", "(II)I"⟩
abbrev cX3_count : ByteArray := prog_1_method_13_code
def yX3_count : MethodName := ⟨RX3, "count", "(I)I"⟩
abbrev cX3_till : ByteArray := prog_1_method_14_code
def yX3_till : MethodName := ⟨RX3, "till", "()J"⟩
abbrev cX3_within : ByteArray := prog_1_method_15_code
def yX3_within : MethodName := ⟨RX3, "within", "(III)Z"⟩
abbrev cX3_vehicleAt : ByteArray := prog_1_method_16_code
def yX3_vehicleAt : MethodName := ⟨RX3, "vehicleAt", "(I)LFerryDeck$Vehicle;"⟩
abbrev cX3_laneAt : ByteArray := prog_1_method_17_code
def yX3_laneAt : MethodName := ⟨RX3, "laneAt", "(I)LFerryDeck$Lane;"⟩
abbrev cX3_numberOf : ByteArray := prog_1_method_18_code
def yX3_numberOf : MethodName := ⟨RX3, "numberOf", "(LFerryDeck$Vehicle;)I"⟩
abbrev cX3_countOf : ByteArray := prog_1_method_19_code
def yX3_countOf : MethodName := ⟨RX3, "countOf", "(I)I"⟩
abbrev cX3_measure : ByteArray := prog_1_method_20_code
def yX3_measure : MethodName := ⟨RX3, "measure", "(LFerryDeck$Vehicle;)V"⟩
abbrev cX3_price : ByteArray := prog_1_method_21_code
def yX3_price : MethodName := ⟨RX3, "price", "(LFerryDeck$Vehicle;)I"⟩
abbrev cX3_tooNear : ByteArray := prog_1_method_22_code
def yX3_tooNear : MethodName := ⟨RX3, "tooNear", "(LFerryDeck$Vehicle;LFerryDeck$Vehicle;)Z"⟩
abbrev cX3_apart : ByteArray := prog_1_method_23_code
def yX3_apart : MethodName := ⟨RX3, "apart", "()I"⟩
abbrev cX3_longestMinutes : ByteArray := prog_1_method_24_code
def yX3_longestMinutes : MethodName := ⟨RX3, "longestMinutes", "()I"⟩
def RX4 : String := "FerryDeckModel"
def TX4 : u_T := fun k => match k with
  | 0 => ("FerryDeckModel", "vehicles", "I", false)
  | 1 => ("FerryDeckModel", "kind", "[I", true)
  | 2 => ("FerryDeckModel", "size", "[I", true)
  | 3 => ("FerryDeckModel", "load", "[I", true)
  | 4 => ("FerryDeckModel", "state", "[I", true)
  | 5 => ("FerryDeckModel", "paid", "[I", true)
  | 6 => ("FerryDeckModel", "lengths", "[I", true)
  | 7 => ("FerryDeckModel", "bearings", "[I", true)
  | 8 => ("FerryDeckModel", "many", "[I", true)
  | 9 => ("FerryDeckModel", "stands", "[I", true)
  | 10 => ("FerryDeckModel", "season", "I", false)
  | 11 => ("FerryDeckModel", "sails", "I", false)
  | 12 => ("FerryDeckModel", "till", "J", false)
  | 13 => ("FerryDeckModel", "trace", "[I", true)
  | _ => ("FerryDeckModel", "traced", "I", false)
def tyX4 : Nat → FieldType := fun k => match k with
  | 0 => .int
  | 1 => .array .int
  | 2 => .array .int
  | 3 => .array .int
  | 4 => .array .int
  | 5 => .array .int
  | 6 => .array .int
  | 7 => .array .int
  | 8 => .array .int
  | 9 => .array .int
  | 10 => .int
  | 11 => .int
  | 12 => .long
  | 13 => .array .int
  | _ => .int
abbrev wsX40 : List Cond := u_ws RX4 TX4 15
theorem nmX4 : ∀ a, a < 15 → ∀ b, b < 15 → a ≠ b → (TX4 a).2.1 ≠ (TX4 b).2.1 := by decide +kernel
theorem tyX4_ok : ∀ k, k < 15 → parseFieldDescriptor (TX4 k).2.2.1 = some (tyX4 k) := by decide +kernel
abbrev cX4_init : ByteArray := prog_6_method_1_code
def yX4_init : MethodName := ⟨RX4, "<init>", "()V"⟩
abbrev cX4_in : ByteArray := prog_6_method_3_code
def yX4_in : MethodName := ⟨RX4, "in", "(III)Z"⟩
abbrev cX4_isVehicle : ByteArray := prog_6_method_4_code
def yX4_isVehicle : MethodName := ⟨RX4, "isVehicle", "(I)Z"⟩
abbrev cX4_isLane : ByteArray := prog_6_method_5_code
def yX4_isLane : MethodName := ⟨RX4, "isLane", "(I)Z"⟩
abbrev cX4_vehicle : ByteArray := prog_6_method_6_code
def yX4_vehicle : MethodName := ⟨RX4, "vehicle", "(III)I"⟩
abbrev cX4_began : ByteArray := prog_6_method_7_code
def yX4_began : MethodName := ⟨RX4, "began", "(I)V"⟩
abbrev cX4_length : ByteArray := prog_6_method_8_code
def yX4_length : MethodName := ⟨RX4, "length", "(I)I"⟩
abbrev cX4_mass : ByteArray := prog_6_method_9_code
def yX4_mass : MethodName := ⟨RX4, "mass", "(I)I"⟩
abbrev cX4_minutes : ByteArray := prog_6_method_10_code
def yX4_minutes : MethodName := ⟨RX4, "minutes", "(I)I"⟩
abbrev cX4_fare : ByteArray := prog_6_method_11_code
def yX4_fare : MethodName := ⟨RX4, "fare", "(II)I"⟩
abbrev cX4_isHeavy : ByteArray := prog_6_method_12_code
def yX4_isHeavy : MethodName := ⟨RX4, "isHeavy", "(I)Z"⟩
abbrev cX4_isMarked : ByteArray := prog_6_method_13_code
def yX4_isMarked : MethodName := ⟨RX4, "isMarked", "(I)Z"⟩
abbrev cX4_toll : ByteArray := prog_6_method_14_code
def yX4_toll : MethodName := ⟨RX4, "toll", "(I)I"⟩
abbrev cX4_danger : ByteArray := prog_6_method_15_code
def yX4_danger : MethodName := ⟨RX4, "danger", "(I)I"⟩
abbrev cX4_ask : ByteArray := prog_6_method_16_code
def yX4_ask : MethodName := ⟨RX4, "ask", "(III)I"⟩
abbrev cX4_trace : ByteArray := prog_6_method_17_code
def yX4_trace : MethodName := ⟨RX4, "trace", "(I)I"⟩
abbrev cX4_quiet : ByteArray := prog_6_method_18_code
def yX4_quiet : MethodName := ⟨RX4, "quiet", "(III)I"⟩
abbrev cX4_lane : ByteArray := prog_6_method_19_code
def yX4_lane : MethodName := ⟨RX4, "lane", "(III)I"⟩
abbrev cX4_season : ByteArray := prog_6_method_20_code
def yX4_season : MethodName := ⟨RX4, "season", "(I)I"⟩
abbrev cX4_leftLength : ByteArray := prog_6_method_21_code
def yX4_leftLength : MethodName := ⟨RX4, "leftLength", "(I)I"⟩
abbrev cX4_carried : ByteArray := prog_6_method_22_code
def yX4_carried : MethodName := ⟨RX4, "carried", "(I)I"⟩
abbrev cX4_lasts : ByteArray := prog_6_method_23_code
def yX4_lasts : MethodName := ⟨RX4, "lasts", "(I)I"⟩
abbrev cX4_board : ByteArray := prog_6_method_24_code
def yX4_board : MethodName := ⟨RX4, "board", "(II)I"⟩
abbrev cX4_off : ByteArray := prog_6_method_25_code
def yX4_off : MethodName := ⟨RX4, "off", "(I)I"⟩
abbrev cX4_sail : ByteArray := prog_6_method_26_code
def yX4_sail : MethodName := ⟨RX4, "sail", "()I"⟩
abbrev cX4_back : ByteArray := prog_6_method_27_code
def yX4_back : MethodName := ⟨RX4, "back", "(I)I"⟩
abbrev cX4_laneOf : ByteArray := prog_6_method_28_code
def yX4_laneOf : MethodName := ⟨RX4, "laneOf", "(I)I"⟩
abbrev cX4_aheadOf : ByteArray := prog_6_method_29_code
def yX4_aheadOf : MethodName := ⟨RX4, "aheadOf", "(I)I"⟩
abbrev cX4_told : ByteArray := prog_6_method_30_code
def yX4_told : MethodName := ⟨RX4, "told", "(II)I"⟩
abbrev cX4_deck : ByteArray := prog_6_method_31_code
def yX4_deck : MethodName := ⟨RX4, "deck", "(II)I"⟩
abbrev cX4_count : ByteArray := prog_6_method_32_code
def yX4_count : MethodName := ⟨RX4, "count", "(I)I"⟩
abbrev cX4_till : ByteArray := prog_6_method_33_code
def yX4_till : MethodName := ⟨RX4, "till", "()J"⟩
def RJ9 : String := "java/lang/Math"
def RL : String := "FerryDeckLaw"
abbrev cL_law : ByteArray := code
def yL_law : MethodName := ⟨RL, "law", "([I)Z"⟩
abbrev vwCl : List vw_C := [(RX0, TX0, 7), (RX1, TX1, 9), (RX2, TX2, 14), (RX3, TX3, 7), (RX4, TX4, 15)]
