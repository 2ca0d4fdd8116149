section
-- the tables' words (the skeleton's part A), then names: taken from the printed papers
-- ===== PART A: goes FIRST, ahead of the names: the tables' words, and 'selects' of the private methods out of them =====
/-- a private method of a class that the tables say can be made, by its rows of tables_1 -/
def lw_okq (q : MethodName × Nat) : Prop := (q.1.cls ≠ "java/lang/invoke/MethodHandle" ∧ q.1.cls ≠ "java/lang/invoke/VarHandle") ∧ Cond.instantiable q.1.cls q.2 ∈ tables_1 ∧ Cond.privateMethod q.1 ∈ tables_1 ∧ Cond.instanceMethod q.1 ∈ tables_1
theorem lw_p0 : lw_okq (⟨"ZStreams", "hasStream", "(I)Z"⟩, 18) := ⟨⟨by decide +kernel, by decide +kernel⟩, List.mem_of_getElem? (i := 13) (by decide +kernel), List.mem_of_getElem? (i := 214) (by decide +kernel), List.mem_of_getElem? (i := 215) (by decide +kernel)⟩
theorem lw_p1 : lw_okq (⟨"ZStreams", "turnTranscriptOn", "()I"⟩, 18) := ⟨⟨by decide +kernel, by decide +kernel⟩, List.mem_of_getElem? (i := 13) (by decide +kernel), List.mem_of_getElem? (i := 222) (by decide +kernel), List.mem_of_getElem? (i := 223) (by decide +kernel)⟩
theorem lw_p2 : lw_okq (⟨"ZStreams", "giveTranscriptFile", "()I"⟩, 18) := ⟨⟨by decide +kernel, by decide +kernel⟩, List.mem_of_getElem? (i := 13) (by decide +kernel), List.mem_of_getElem? (i := 226) (by decide +kernel), List.mem_of_getElem? (i := 227) (by decide +kernel)⟩
theorem lw_p3 : lw_okq (⟨"ZStreams", "ask", "()I"⟩, 18) := ⟨⟨by decide +kernel, by decide +kernel⟩, List.mem_of_getElem? (i := 13) (by decide +kernel), List.mem_of_getElem? (i := 230) (by decide +kernel), List.mem_of_getElem? (i := 231) (by decide +kernel)⟩
theorem lw_p4 : lw_okq (⟨"ZStreams", "turnTranscriptOff", "()I"⟩, 18) := ⟨⟨by decide +kernel, by decide +kernel⟩, List.mem_of_getElem? (i := 13) (by decide +kernel), List.mem_of_getElem? (i := 262) (by decide +kernel), List.mem_of_getElem? (i := 263) (by decide +kernel)⟩
theorem lw_p5 : lw_okq (⟨"ZStreams", "openTable", "(I)I"⟩, 18) := ⟨⟨by decide +kernel, by decide +kernel⟩, List.mem_of_getElem? (i := 13) (by decide +kernel), List.mem_of_getElem? (i := 266) (by decide +kernel), List.mem_of_getElem? (i := 267) (by decide +kernel)⟩
theorem lw_p6 : lw_okq (⟨"ZStreams", "closeTable", "()I"⟩, 18) := ⟨⟨by decide +kernel, by decide +kernel⟩, List.mem_of_getElem? (i := 13) (by decide +kernel), List.mem_of_getElem? (i := 283) (by decide +kernel), List.mem_of_getElem? (i := 284) (by decide +kernel)⟩
theorem lw_p7 : lw_okq (⟨"ZStreams", "turnCommandsOn", "()I"⟩, 18) := ⟨⟨by decide +kernel, by decide +kernel⟩, List.mem_of_getElem? (i := 13) (by decide +kernel), List.mem_of_getElem? (i := 319) (by decide +kernel), List.mem_of_getElem? (i := 320) (by decide +kernel)⟩
theorem lw_p8 : lw_okq (⟨"ZStreams", "turnCommandsOff", "()I"⟩, 18) := ⟨⟨by decide +kernel, by decide +kernel⟩, List.mem_of_getElem? (i := 13) (by decide +kernel), List.mem_of_getElem? (i := 323) (by decide +kernel), List.mem_of_getElem? (i := 324) (by decide +kernel)⟩
theorem lw_p9 : lw_okq (⟨"ZStreams", "writeIntoTable", "(I)I"⟩, 18) := ⟨⟨by decide +kernel, by decide +kernel⟩, List.mem_of_getElem? (i := 13) (by decide +kernel), List.mem_of_getElem? (i := 334) (by decide +kernel), List.mem_of_getElem? (i := 335) (by decide +kernel)⟩
theorem lw_p10 : lw_okq (⟨"ZStreams", "show", "(I)I"⟩, 18) := ⟨⟨by decide +kernel, by decide +kernel⟩, List.mem_of_getElem? (i := 13) (by decide +kernel), List.mem_of_getElem? (i := 344) (by decide +kernel), List.mem_of_getElem? (i := 345) (by decide +kernel)⟩
theorem lw_p11 : lw_okq (⟨"ZStreams", "writeToTranscript", "(I)Z"⟩, 18) := ⟨⟨by decide +kernel, by decide +kernel⟩, List.mem_of_getElem? (i := 13) (by decide +kernel), List.mem_of_getElem? (i := 363) (by decide +kernel), List.mem_of_getElem? (i := 364) (by decide +kernel)⟩
theorem lw_p12 : lw_okq (⟨"ZStreams", "writeBehind", "(II)Z"⟩, 18) := ⟨⟨by decide +kernel, by decide +kernel⟩, List.mem_of_getElem? (i := 13) (by decide +kernel), List.mem_of_getElem? (i := 367) (by decide +kernel), List.mem_of_getElem? (i := 368) (by decide +kernel)⟩
theorem lw_p13 : lw_okq (⟨"ZStreams", "faultOfLoad", "(III)I"⟩, 18) := ⟨⟨by decide +kernel, by decide +kernel⟩, List.mem_of_getElem? (i := 13) (by decide +kernel), List.mem_of_getElem? (i := 469) (by decide +kernel), List.mem_of_getElem? (i := 470) (by decide +kernel)⟩
theorem lw_p14 : lw_okq (⟨"ZStreams", "endSpentSource", "()V"⟩, 18) := ⟨⟨by decide +kernel, by decide +kernel⟩, List.mem_of_getElem? (i := 13) (by decide +kernel), List.mem_of_getElem? (i := 485) (by decide +kernel), List.mem_of_getElem? (i := 486) (by decide +kernel)⟩
theorem lw_p15 : lw_okq (⟨"ZStreams", "readTyped", "(I)V"⟩, 18) := ⟨⟨by decide +kernel, by decide +kernel⟩, List.mem_of_getElem? (i := 13) (by decide +kernel), List.mem_of_getElem? (i := 493) (by decide +kernel), List.mem_of_getElem? (i := 494) (by decide +kernel)⟩
def lw_privs_1 : List (MethodName × Nat) := [(⟨"ZStreams", "hasStream", "(I)Z"⟩, 18), (⟨"ZStreams", "turnTranscriptOn", "()I"⟩, 18), (⟨"ZStreams", "giveTranscriptFile", "()I"⟩, 18), (⟨"ZStreams", "ask", "()I"⟩, 18), (⟨"ZStreams", "turnTranscriptOff", "()I"⟩, 18), (⟨"ZStreams", "openTable", "(I)I"⟩, 18), (⟨"ZStreams", "closeTable", "()I"⟩, 18), (⟨"ZStreams", "turnCommandsOn", "()I"⟩, 18), (⟨"ZStreams", "turnCommandsOff", "()I"⟩, 18), (⟨"ZStreams", "writeIntoTable", "(I)I"⟩, 18), (⟨"ZStreams", "show", "(I)I"⟩, 18), (⟨"ZStreams", "writeToTranscript", "(I)Z"⟩, 18), (⟨"ZStreams", "writeBehind", "(II)Z"⟩, 18), (⟨"ZStreams", "faultOfLoad", "(III)I"⟩, 18), (⟨"ZStreams", "endSpentSource", "()V"⟩, 18), (⟨"ZStreams", "readTyped", "(I)V"⟩, 18)]
theorem lw_r1 : ∀ q ∈ lw_privs_1, lw_okq q := List.forall_mem_cons.mpr ⟨lw_p0, List.forall_mem_cons.mpr ⟨lw_p1, List.forall_mem_cons.mpr ⟨lw_p2, List.forall_mem_cons.mpr ⟨lw_p3, List.forall_mem_cons.mpr ⟨lw_p4, List.forall_mem_cons.mpr ⟨lw_p5, List.forall_mem_cons.mpr ⟨lw_p6, List.forall_mem_cons.mpr ⟨lw_p7, List.forall_mem_cons.mpr ⟨lw_p8, List.forall_mem_cons.mpr ⟨lw_p9, List.forall_mem_cons.mpr ⟨lw_p10, List.forall_mem_cons.mpr ⟨lw_p11, List.forall_mem_cons.mpr ⟨lw_p12, List.forall_mem_cons.mpr ⟨lw_p13, List.forall_mem_cons.mpr ⟨lw_p14, List.forall_mem_cons.mpr ⟨lw_p15, fun _ h => absurd h List.not_mem_nil⟩⟩⟩⟩⟩⟩⟩⟩⟩⟩⟩⟩⟩⟩⟩⟩
theorem lw_p16 : lw_okq (⟨"ZStreams", "readFile", "(I)V"⟩, 18) := ⟨⟨by decide +kernel, by decide +kernel⟩, List.mem_of_getElem? (i := 13) (by decide +kernel), List.mem_of_getElem? (i := 505) (by decide +kernel), List.mem_of_getElem? (i := 506) (by decide +kernel)⟩
theorem lw_p17 : lw_okq (⟨"ZStreams", "echoLine", "(Z)V"⟩, 18) := ⟨⟨by decide +kernel, by decide +kernel⟩, List.mem_of_getElem? (i := 13) (by decide +kernel), List.mem_of_getElem? (i := 509) (by decide +kernel), List.mem_of_getElem? (i := 510) (by decide +kernel)⟩
theorem lw_p18 : lw_okq (⟨"ZStreams", "writeToCommands", "(I)V"⟩, 18) := ⟨⟨by decide +kernel, by decide +kernel⟩, List.mem_of_getElem? (i := 13) (by decide +kernel), List.mem_of_getElem? (i := 521) (by decide +kernel), List.mem_of_getElem? (i := 522) (by decide +kernel)⟩
theorem lw_p19 : lw_okq (⟨"ZStreams$Player", "makeReady", "(IZ)V"⟩, 4) := ⟨⟨by decide +kernel, by decide +kernel⟩, List.mem_of_getElem? (i := 135) (by decide +kernel), List.mem_of_getElem? (i := 538) (by decide +kernel), List.mem_of_getElem? (i := 539) (by decide +kernel)⟩
theorem lw_p20 : lw_okq (⟨"ZStreamsModel", "getFile", "()I"⟩, 32) := ⟨⟨by decide +kernel, by decide +kernel⟩, List.mem_of_getElem? (i := 622) (by decide +kernel), List.mem_of_getElem? (i := 732) (by decide +kernel), List.mem_of_getElem? (i := 733) (by decide +kernel)⟩
theorem lw_p21 : lw_okq (⟨"ZStreamsModel", "ask", "()I"⟩, 32) := ⟨⟨by decide +kernel, by decide +kernel⟩, List.mem_of_getElem? (i := 622) (by decide +kernel), List.mem_of_getElem? (i := 736) (by decide +kernel), List.mem_of_getElem? (i := 737) (by decide +kernel)⟩
theorem lw_p22 : lw_okq (⟨"ZStreamsModel", "row", "(II)V"⟩, 32) := ⟨⟨by decide +kernel, by decide +kernel⟩, List.mem_of_getElem? (i := 622) (by decide +kernel), List.mem_of_getElem? (i := 740) (by decide +kernel), List.mem_of_getElem? (i := 741) (by decide +kernel)⟩
theorem lw_p23 : lw_okq (⟨"ZStreamsModel", "fresh", "(I)V"⟩, 32) := ⟨⟨by decide +kernel, by decide +kernel⟩, List.mem_of_getElem? (i := 622) (by decide +kernel), List.mem_of_getElem? (i := 744) (by decide +kernel), List.mem_of_getElem? (i := 745) (by decide +kernel)⟩
theorem lw_p24 : lw_okq (⟨"ZStreamsModel", "open", "(I)I"⟩, 32) := ⟨⟨by decide +kernel, by decide +kernel⟩, List.mem_of_getElem? (i := 622) (by decide +kernel), List.mem_of_getElem? (i := 748) (by decide +kernel), List.mem_of_getElem? (i := 749) (by decide +kernel)⟩
theorem lw_p25 : lw_okq (⟨"ZStreamsModel", "close", "()I"⟩, 32) := ⟨⟨by decide +kernel, by decide +kernel⟩, List.mem_of_getElem? (i := 622) (by decide +kernel), List.mem_of_getElem? (i := 752) (by decide +kernel), List.mem_of_getElem? (i := 753) (by decide +kernel)⟩
theorem lw_p26 : lw_okq (⟨"ZStreamsModel", "plain", "(I)I"⟩, 32) := ⟨⟨by decide +kernel, by decide +kernel⟩, List.mem_of_getElem? (i := 622) (by decide +kernel), List.mem_of_getElem? (i := 763) (by decide +kernel), List.mem_of_getElem? (i := 764) (by decide +kernel)⟩
theorem lw_p27 : lw_okq (⟨"ZStreamsModel", "append", "(II)Z"⟩, 32) := ⟨⟨by decide +kernel, by decide +kernel⟩, List.mem_of_getElem? (i := 622) (by decide +kernel), List.mem_of_getElem? (i := 767) (by decide +kernel), List.mem_of_getElem? (i := 768) (by decide +kernel)⟩
theorem lw_p28 : lw_okq (⟨"ZStreamsModel", "stop", "()V"⟩, 32) := ⟨⟨by decide +kernel, by decide +kernel⟩, List.mem_of_getElem? (i := 622) (by decide +kernel), List.mem_of_getElem? (i := 844) (by decide +kernel), List.mem_of_getElem? (i := 845) (by decide +kernel)⟩
def lw_privs_2 : List (MethodName × Nat) := [(⟨"ZStreams", "readFile", "(I)V"⟩, 18), (⟨"ZStreams", "echoLine", "(Z)V"⟩, 18), (⟨"ZStreams", "writeToCommands", "(I)V"⟩, 18), (⟨"ZStreams$Player", "makeReady", "(IZ)V"⟩, 4), (⟨"ZStreamsModel", "getFile", "()I"⟩, 32), (⟨"ZStreamsModel", "ask", "()I"⟩, 32), (⟨"ZStreamsModel", "row", "(II)V"⟩, 32), (⟨"ZStreamsModel", "fresh", "(I)V"⟩, 32), (⟨"ZStreamsModel", "open", "(I)I"⟩, 32), (⟨"ZStreamsModel", "close", "()I"⟩, 32), (⟨"ZStreamsModel", "plain", "(I)I"⟩, 32), (⟨"ZStreamsModel", "append", "(II)Z"⟩, 32), (⟨"ZStreamsModel", "stop", "()V"⟩, 32)]
theorem lw_r2 : ∀ q ∈ lw_privs_2, lw_okq q := List.forall_mem_cons.mpr ⟨lw_p16, List.forall_mem_cons.mpr ⟨lw_p17, List.forall_mem_cons.mpr ⟨lw_p18, List.forall_mem_cons.mpr ⟨lw_p19, List.forall_mem_cons.mpr ⟨lw_p20, List.forall_mem_cons.mpr ⟨lw_p21, List.forall_mem_cons.mpr ⟨lw_p22, List.forall_mem_cons.mpr ⟨lw_p23, List.forall_mem_cons.mpr ⟨lw_p24, List.forall_mem_cons.mpr ⟨lw_p25, List.forall_mem_cons.mpr ⟨lw_p26, List.forall_mem_cons.mpr ⟨lw_p27, List.forall_mem_cons.mpr ⟨lw_p28, fun _ h => absurd h List.not_mem_nil⟩⟩⟩⟩⟩⟩⟩⟩⟩⟩⟩⟩⟩
def lw_privs : List (MethodName × Nat) := lw_privs_1 ++ (lw_privs_2)
def lw_tbl : List Cond := k2_sels lw_privs ++ tables_1
theorem lw_privs_ok : ∀ q ∈ lw_privs, lw_okq q := by
  show ∀ q ∈ lw_privs_1 ++ (lw_privs_2), lw_okq q
  exact List.forall_mem_append.mpr ⟨lw_r1, lw_r2⟩
def RX0 : String := "ZStreams$Files"
def TX0 : u_T := fun k => match k with
  | 0 => ("ZStreams$Files", "kinds", "[I", true)
  | 1 => ("ZStreams$Files", "lengths", "[I", true)
  | _ => ("ZStreams$Files", "bytes", "[[I", true)
def tyX0 : Nat → FieldType := fun k => match k with
  | 0 => .array .int
  | 1 => .array .int
  | _ => .array (.array .int)
abbrev wsX00 : List Cond := u_ws RX0 TX0 3
theorem nmX0 : ∀ a, a < 3 → ∀ b, b < 3 → a ≠ b → (TX0 a).2.1 ≠ (TX0 b).2.1 := by decide +kernel
theorem tyX0_ok : ∀ k, k < 3 → parseFieldDescriptor (TX0 k).2.2.1 = some (tyX0 k) := by decide +kernel
abbrev cX0_init : ByteArray := prog_2_method_1_code
def yX0_init : MethodName := ⟨RX0, "<init>", "()V"⟩
abbrev cX0_has : ByteArray := prog_2_method_2_code
def yX0_has : MethodName := ⟨RX0, "has", "(I)Z"⟩
abbrev cX0_isThere : ByteArray := prog_2_method_3_code
def yX0_isThere : MethodName := ⟨RX0, "isThere", "(I)Z"⟩
abbrev cX0_is : ByteArray := prog_2_method_4_code
def yX0_is : MethodName := ⟨RX0, "is", "(II)Z"⟩
abbrev cX0_kindOf : ByteArray := prog_2_method_5_code
def yX0_kindOf : MethodName := ⟨RX0, "kindOf", "(I)I"⟩
abbrev cX0_lengthOf : ByteArray := prog_2_method_6_code
def yX0_lengthOf : MethodName := ⟨RX0, "lengthOf", "(I)I"⟩
abbrev cX0_hasByte : ByteArray := prog_2_method_7_code
def yX0_hasByte : MethodName := ⟨RX0, "hasByte", "(II)Z"⟩
abbrev cX0_get : ByteArray := prog_2_method_8_code
def yX0_get : MethodName := ⟨RX0, "get", "(II)I"⟩
abbrev cX0_remove : ByteArray := prog_2_method_9_code
def yX0_remove : MethodName := ⟨RX0, "remove", "(I)V"⟩
abbrev cX0_makeEmpty : ByteArray := prog_2_method_10_code
def yX0_makeEmpty : MethodName := ⟨RX0, "makeEmpty", "(II)V"⟩
abbrev cX0_append : ByteArray := prog_2_method_11_code
def yX0_append : MethodName := ⟨RX0, "append", "(III)Z"⟩
def RX1 : String := "ZStreams$Line"
def TX1 : u_T := fun k => match k with
  | 0 => ("ZStreams$Line", "signs", "[I", true)
  | _ => ("ZStreams$Line", "size", "I", false)
def tyX1 : Nat → FieldType := fun k => match k with
  | 0 => .array .int
  | _ => .int
abbrev wsX10 : List Cond := u_ws RX1 TX1 2
theorem nmX1 : ∀ a, a < 2 → ∀ b, b < 2 → a ≠ b → (TX1 a).2.1 ≠ (TX1 b).2.1 := by decide +kernel
theorem tyX1_ok : ∀ k, k < 2 → parseFieldDescriptor (TX1 k).2.2.1 = some (tyX1 k) := by decide +kernel
abbrev cX1_init : ByteArray := prog_3_method_1_code
def yX1_init : MethodName := ⟨RX1, "<init>", "()V"⟩
abbrev cX1_length : ByteArray := prog_3_method_2_code
def yX1_length : MethodName := ⟨RX1, "length", "()I"⟩
abbrev cX1_get : ByteArray := prog_3_method_3_code
def yX1_get : MethodName := ⟨RX1, "get", "(I)I"⟩
abbrev cX1_clear : ByteArray := prog_3_method_4_code
def yX1_clear : MethodName := ⟨RX1, "clear", "()V"⟩
abbrev cX1_add : ByteArray := prog_3_method_5_code
def yX1_add : MethodName := ⟨RX1, "add", "(I)V"⟩
def RX2 : String := "ZStreams$Log"
def TX2 : u_T := fun k => match k with
  | 0 => ("ZStreams$Log", "kinds", "[I", true)
  | 1 => ("ZStreams$Log", "numbers", "[I", true)
  | _ => ("ZStreams$Log", "size", "I", false)
def tyX2 : Nat → FieldType := fun k => match k with
  | 0 => .array .int
  | 1 => .array .int
  | _ => .int
abbrev wsX20 : List Cond := u_ws RX2 TX2 3
theorem nmX2 : ∀ a, a < 3 → ∀ b, b < 3 → a ≠ b → (TX2 a).2.1 ≠ (TX2 b).2.1 := by decide +kernel
theorem tyX2_ok : ∀ k, k < 3 → parseFieldDescriptor (TX2 k).2.2.1 = some (tyX2 k) := by decide +kernel
abbrev cX2_init : ByteArray := prog_4_method_1_code
def yX2_init : MethodName := ⟨RX2, "<init>", "()V"⟩
abbrev cX2_rows : ByteArray := prog_4_method_2_code
def yX2_rows : MethodName := ⟨RX2, "rows", "()I"⟩
abbrev cX2_has : ByteArray := prog_4_method_3_code
def yX2_has : MethodName := ⟨RX2, "has", "(I)Z"⟩
abbrev cX2_kindOf : ByteArray := prog_4_method_4_code
def yX2_kindOf : MethodName := ⟨RX2, "kindOf", "(I)I"⟩
abbrev cX2_numberOf : ByteArray := prog_4_method_5_code
def yX2_numberOf : MethodName := ⟨RX2, "numberOf", "(I)I"⟩
abbrev cX2_add : ByteArray := prog_4_method_6_code
def yX2_add : MethodName := ⟨RX2, "add", "(II)V"⟩
def RX3 : String := "ZStreams$Memory"
def TX3 : u_T := fun k => match k with
  | _ => ("ZStreams$Memory", "bytes", "[I", true)
def tyX3 : Nat → FieldType := fun k => match k with
  | _ => .array .int
abbrev wsX30 : List Cond := u_ws RX3 TX3 1
theorem nmX3 : ∀ a, a < 1 → ∀ b, b < 1 → a ≠ b → (TX3 a).2.1 ≠ (TX3 b).2.1 := by decide +kernel
theorem tyX3_ok : ∀ k, k < 1 → parseFieldDescriptor (TX3 k).2.2.1 = some (tyX3 k) := by decide +kernel
abbrev cX3_init : ByteArray := prog_5_method_1_code
def yX3_init : MethodName := ⟨RX3, "<init>", "()V"⟩
abbrev cX3_has : ByteArray := prog_5_method_2_code
def yX3_has : MethodName := ⟨RX3, "has", "(I)Z"⟩
abbrev cX3_hasAll : ByteArray := prog_5_method_3_code
def yX3_hasAll : MethodName := ⟨RX3, "hasAll", "(II)Z"⟩
abbrev cX3_get : ByteArray := prog_5_method_4_code
def yX3_get : MethodName := ⟨RX3, "get", "(I)I"⟩
abbrev cX3_set : ByteArray := prog_5_method_5_code
def yX3_set : MethodName := ⟨RX3, "set", "(II)V"⟩
abbrev cX3_setTwo : ByteArray := prog_5_method_6_code
def yX3_setTwo : MethodName := ⟨RX3, "setTwo", "(II)V"⟩
abbrev cX3_bit : ByteArray := prog_5_method_7_code
def yX3_bit : MethodName := ⟨RX3, "bit", "()I"⟩
abbrev cX3_setBit : ByteArray := prog_5_method_8_code
def yX3_setBit : MethodName := ⟨RX3, "setBit", "(Z)V"⟩
def RX4 : String := "ZStreams$Player"
def TX4 : u_T := fun k => match k with
  | 0 => ("ZStreams$Player", "ready", "[Z", true)
  | 1 => ("ZStreams$Player", "current", "I", false)
  | 2 => ("ZStreams$Player", "turns", "I", false)
  | _ => ("ZStreams$Player", "routine", "I", false)
def tyX4 : Nat → FieldType := fun k => match k with
  | 0 => .array .boolean
  | 1 => .int
  | 2 => .int
  | _ => .int
abbrev wsX40 : List Cond := u_ws RX4 TX4 4
theorem nmX4 : ∀ a, a < 4 → ∀ b, b < 4 → a ≠ b → (TX4 a).2.1 ≠ (TX4 b).2.1 := by decide +kernel
theorem tyX4_ok : ∀ k, k < 4 → parseFieldDescriptor (TX4 k).2.2.1 = some (tyX4 k) := by decide +kernel
abbrev cX4_init : ByteArray := prog_6_method_1_code
def yX4_init : MethodName := ⟨RX4, "<init>", "()V"⟩
abbrev cX4_canBeReady : ByteArray := prog_6_method_2_code
def yX4_canBeReady : MethodName := ⟨RX4, "canBeReady", "(I)Z"⟩
abbrev cX4_playing : ByteArray := prog_6_method_3_code
def yX4_playing : MethodName := ⟨RX4, "playing", "()I"⟩
abbrev cX4_turnsLeft : ByteArray := prog_6_method_4_code
def yX4_turnsLeft : MethodName := ⟨RX4, "turnsLeft", "()I"⟩
abbrev cX4_routineCalled : ByteArray := prog_6_method_5_code
def yX4_routineCalled : MethodName := ⟨RX4, "routineCalled", "()I"⟩
abbrev cX4_readiness : ByteArray := prog_6_method_6_code
def yX4_readiness : MethodName := ⟨RX4, "readiness", "(I)I"⟩
abbrev cX4_prepare : ByteArray := prog_6_method_7_code
def yX4_prepare : MethodName := ⟨RX4, "prepare", "(I)I"⟩
abbrev cX4_begin : ByteArray := prog_6_method_8_code
def yX4_begin : MethodName := ⟨RX4, "begin", "(LZStreams$Log;III)I"⟩
abbrev cX4_stop : ByteArray := prog_6_method_9_code
def yX4_stop : MethodName := ⟨RX4, "stop", "(LZStreams$Log;I)I"⟩
abbrev cX4_release : ByteArray := prog_6_method_10_code
def yX4_release : MethodName := ⟨RX4, "release", "(LZStreams$Log;I)I"⟩
abbrev cX4_endTurn : ByteArray := prog_6_method_11_code
def yX4_endTurn : MethodName := ⟨RX4, "endTurn", "(LZStreams$Log;)I"⟩
abbrev cX4_makeReady : ByteArray := prog_6_method_12_code
def yX4_makeReady : MethodName := ⟨RX4, "makeReady", "(IZ)V"⟩
def RX5 : String := "ZStreams$Queue"
def TX5 : u_T := fun k => match k with
  | 0 => ("ZStreams$Queue", "items", "[I", true)
  | _ => ("ZStreams$Queue", "size", "I", false)
def tyX5 : Nat → FieldType := fun k => match k with
  | 0 => .array .int
  | _ => .int
abbrev wsX50 : List Cond := u_ws RX5 TX5 2
theorem nmX5 : ∀ a, a < 2 → ∀ b, b < 2 → a ≠ b → (TX5 a).2.1 ≠ (TX5 b).2.1 := by decide +kernel
theorem tyX5_ok : ∀ k, k < 2 → parseFieldDescriptor (TX5 k).2.2.1 = some (tyX5 k) := by decide +kernel
abbrev cX5_init : ByteArray := prog_7_method_1_code
def yX5_init : MethodName := ⟨RX5, "<init>", "(I)V"⟩
abbrev cX5_waiting : ByteArray := prog_7_method_2_code
def yX5_waiting : MethodName := ⟨RX5, "waiting", "()I"⟩
abbrev cX5_isFull : ByteArray := prog_7_method_3_code
def yX5_isFull : MethodName := ⟨RX5, "isFull", "()Z"⟩
abbrev cX5_contains : ByteArray := prog_7_method_4_code
def yX5_contains : MethodName := ⟨RX5, "contains", "(I)Z"⟩
abbrev cX5_add : ByteArray := prog_7_method_5_code
def yX5_add : MethodName := ⟨RX5, "add", "(I)V"⟩
abbrev cX5_take : ByteArray := prog_7_method_6_code
def yX5_take : MethodName := ⟨RX5, "take", "()I"⟩
def RX6 : String := "ZStreams$Screen"
def TX6 : u_T := fun k => match k with
  | 0 => ("ZStreams$Screen", "ring", "[I", true)
  | 1 => ("ZStreams$Screen", "signs", "I", false)
  | _ => ("ZStreams$Screen", "on", "Z", false)
def tyX6 : Nat → FieldType := fun k => match k with
  | 0 => .array .int
  | 1 => .int
  | _ => .boolean
abbrev wsX60 : List Cond := u_ws RX6 TX6 3
theorem nmX6 : ∀ a, a < 3 → ∀ b, b < 3 → a ≠ b → (TX6 a).2.1 ≠ (TX6 b).2.1 := by decide +kernel
theorem tyX6_ok : ∀ k, k < 3 → parseFieldDescriptor (TX6 k).2.2.1 = some (tyX6 k) := by decide +kernel
abbrev cX6_init : ByteArray := prog_8_method_1_code
def yX6_init : MethodName := ⟨RX6, "<init>", "()V"⟩
abbrev cX6_isOn : ByteArray := prog_8_method_2_code
def yX6_isOn : MethodName := ⟨RX6, "isOn", "()Z"⟩
abbrev cX6_turn : ByteArray := prog_8_method_3_code
def yX6_turn : MethodName := ⟨RX6, "turn", "(Z)V"⟩
abbrev cX6_came : ByteArray := prog_8_method_4_code
def yX6_came : MethodName := ⟨RX6, "came", "()I"⟩
abbrev cX6_add : ByteArray := prog_8_method_5_code
def yX6_add : MethodName := ⟨RX6, "add", "(I)V"⟩
abbrev cX6_before : ByteArray := prog_8_method_6_code
def yX6_before : MethodName := ⟨RX6, "before", "(I)I"⟩
def RX7 : String := "ZStreams$Tables"
def TX7 : u_T := fun k => match k with
  | 0 => ("ZStreams$Tables", "most", "I", true)
  | 1 => ("ZStreams$Tables", "addresses", "[I", true)
  | 2 => ("ZStreams$Tables", "counts", "[I", true)
  | _ => ("ZStreams$Tables", "size", "I", false)
def tyX7 : Nat → FieldType := fun k => match k with
  | 0 => .int
  | 1 => .array .int
  | 2 => .array .int
  | _ => .int
abbrev wsX70 : List Cond := u_ws RX7 TX7 4
theorem nmX7 : ∀ a, a < 4 → ∀ b, b < 4 → a ≠ b → (TX7 a).2.1 ≠ (TX7 b).2.1 := by decide +kernel
theorem tyX7_ok : ∀ k, k < 4 → parseFieldDescriptor (TX7 k).2.2.1 = some (tyX7 k) := by decide +kernel
abbrev cX7_init : ByteArray := prog_9_method_1_code
def yX7_init : MethodName := ⟨RX7, "<init>", "(I)V"⟩
abbrev cX7_open : ByteArray := prog_9_method_2_code
def yX7_open : MethodName := ⟨RX7, "open", "()I"⟩
abbrev cX7_isFull : ByteArray := prog_9_method_3_code
def yX7_isFull : MethodName := ⟨RX7, "isFull", "()Z"⟩
abbrev cX7_has : ByteArray := prog_9_method_4_code
def yX7_has : MethodName := ⟨RX7, "has", "(I)Z"⟩
abbrev cX7_addressOf : ByteArray := prog_9_method_5_code
def yX7_addressOf : MethodName := ⟨RX7, "addressOf", "(I)I"⟩
abbrev cX7_countOf : ByteArray := prog_9_method_6_code
def yX7_countOf : MethodName := ⟨RX7, "countOf", "(I)I"⟩
abbrev cX7_push : ByteArray := prog_9_method_7_code
def yX7_push : MethodName := ⟨RX7, "push", "(I)V"⟩
abbrev cX7_pop : ByteArray := prog_9_method_8_code
def yX7_pop : MethodName := ⟨RX7, "pop", "()V"⟩
abbrev cX7_countOneMore : ByteArray := prog_9_method_9_code
def yX7_countOneMore : MethodName := ⟨RX7, "countOneMore", "()V"⟩
def RX8 : String := "ZStreams"
def TX8 : u_T := fun k => match k with
  | 0 => ("ZStreams", "version", "I", true)
  | 1 => ("ZStreams", "memory", "LZStreams$Memory;", true)
  | 2 => ("ZStreams", "files", "LZStreams$Files;", true)
  | 3 => ("ZStreams", "answers", "LZStreams$Queue;", true)
  | 4 => ("ZStreams", "typed", "LZStreams$Queue;", true)
  | 5 => ("ZStreams", "tables", "LZStreams$Tables;", true)
  | 6 => ("ZStreams", "screen", "LZStreams$Screen;", true)
  | 7 => ("ZStreams", "latest", "LZStreams$Line;", true)
  | 8 => ("ZStreams", "log", "LZStreams$Log;", true)
  | 9 => ("ZStreams", "player", "LZStreams$Player;", true)
  | 10 => ("ZStreams", "transcriptFile", "I", false)
  | 11 => ("ZStreams", "commandsFile", "I", false)
  | 12 => ("ZStreams", "sourceFile", "I", false)
  | 13 => ("ZStreams", "sourceAt", "I", false)
  | 14 => ("ZStreams", "toTranscript", "I", false)
  | 15 => ("ZStreams", "intoTables", "I", false)
  | 16 => ("ZStreams", "toCommands", "I", false)
  | _ => ("ZStreams", "lost", "I", false)
def tyX8 : Nat → FieldType := fun k => match k with
  | 0 => .int
  | 1 => .object "ZStreams$Memory"
  | 2 => .object "ZStreams$Files"
  | 3 => .object "ZStreams$Queue"
  | 4 => .object "ZStreams$Queue"
  | 5 => .object "ZStreams$Tables"
  | 6 => .object "ZStreams$Screen"
  | 7 => .object "ZStreams$Line"
  | 8 => .object "ZStreams$Log"
  | 9 => .object "ZStreams$Player"
  | 10 => .int
  | 11 => .int
  | 12 => .int
  | 13 => .int
  | 14 => .int
  | 15 => .int
  | 16 => .int
  | _ => .int
abbrev wsX80 : List Cond := u_ws RX8 TX8 18
theorem nmX8 : ∀ a, a < 18 → ∀ b, b < 18 → a ≠ b → (TX8 a).2.1 ≠ (TX8 b).2.1 := by decide +kernel
theorem tyX8_ok : ∀ k, k < 18 → parseFieldDescriptor (TX8 k).2.2.1 = some (tyX8 k) := by decide +kernel
abbrev cX8_init : ByteArray := prog_1_method_1_code
def yX8_init : MethodName := ⟨RX8, "<init>", "(I)V"⟩
abbrev cX8_choose : ByteArray := prog_1_method_2_code
def yX8_choose : MethodName := ⟨RX8, "choose", "(IZI)I"⟩
abbrev cX8_sign : ByteArray := prog_1_method_3_code
def yX8_sign : MethodName := ⟨RX8, "sign", "(I)I"⟩
abbrev cX8_depth : ByteArray := prog_1_method_4_code
def yX8_depth : MethodName := ⟨RX8, "depth", "()I"⟩
abbrev cX8_table : ByteArray := prog_1_method_5_code
def yX8_table : MethodName := ⟨RX8, "table", "(II)I"⟩
abbrev cX8_shown : ByteArray := prog_1_method_6_code
def yX8_shown : MethodName := ⟨RX8, "shown", "(I)I"⟩
abbrev cX8_transcript : ByteArray := prog_1_method_7_code
def yX8_transcript : MethodName := ⟨RX8, "transcript", "(Z)I"⟩
abbrev cX8_peek : ByteArray := prog_1_method_8_code
def yX8_peek : MethodName := ⟨RX8, "peek", "(I)I"⟩
abbrev cX8_poke : ByteArray := prog_1_method_9_code
def yX8_poke : MethodName := ⟨RX8, "poke", "(II)I"⟩
abbrev cX8_answer : ByteArray := prog_1_method_10_code
def yX8_answer : MethodName := ⟨RX8, "answer", "(I)I"⟩
abbrev cX8_fileOf : ByteArray := prog_1_method_11_code
def yX8_fileOf : MethodName := ⟨RX8, "fileOf", "(II)I"⟩
abbrev cX8_byteOf : ByteArray := prog_1_method_12_code
def yX8_byteOf : MethodName := ⟨RX8, "byteOf", "(II)I"⟩
abbrev cX8_drop : ByteArray := prog_1_method_13_code
def yX8_drop : MethodName := ⟨RX8, "drop", "(I)I"⟩
abbrev cX8_save : ByteArray := prog_1_method_14_code
def yX8_save : MethodName := ⟨RX8, "save", "(II)I"⟩
abbrev cX8_load : ByteArray := prog_1_method_15_code
def yX8_load : MethodName := ⟨RX8, "load", "(II)I"⟩
abbrev cX8_type : ByteArray := prog_1_method_16_code
def yX8_type : MethodName := ⟨RX8, "type", "(I)I"⟩
abbrev cX8_source : ByteArray := prog_1_method_17_code
def yX8_source : MethodName := ⟨RX8, "source", "(Z)I"⟩
abbrev cX8_line : ByteArray := prog_1_method_18_code
def yX8_line : MethodName := ⟨RX8, "line", "(I)I"⟩
abbrev cX8_lineAt : ByteArray := prog_1_method_19_code
def yX8_lineAt : MethodName := ⟨RX8, "lineAt", "(I)I"⟩
abbrev cX8_sound : ByteArray := prog_1_method_20_code
def yX8_sound : MethodName := ⟨RX8, "sound", "(IIII)I"⟩
abbrev cX8_ended : ByteArray := prog_1_method_21_code
def yX8_ended : MethodName := ⟨RX8, "ended", "()I"⟩
abbrev cX8_sounds : ByteArray := prog_1_method_22_code
def yX8_sounds : MethodName := ⟨RX8, "sounds", "(I)I"⟩
abbrev cX8_order : ByteArray := prog_1_method_23_code
def yX8_order : MethodName := ⟨RX8, "order", "(II)I"⟩
abbrev cX8_told : ByteArray := prog_1_method_24_code
def yX8_told : MethodName := ⟨RX8, "told", "(I)I"⟩
abbrev cX8_hasStream : ByteArray := prog_1_method_25_code
def yX8_hasStream : MethodName := ⟨RX8, "hasStream", "(I)Z"⟩
abbrev cX8_turnTranscriptOn : ByteArray := prog_1_method_26_code
def yX8_turnTranscriptOn : MethodName := ⟨RX8, "turnTranscriptOn", "()I"⟩
abbrev cX8_turnTranscriptOff : ByteArray := prog_1_method_27_code
def yX8_turnTranscriptOff : MethodName := ⟨RX8, "turnTranscriptOff", "()I"⟩
abbrev cX8_openTable : ByteArray := prog_1_method_28_code
def yX8_openTable : MethodName := ⟨RX8, "openTable", "(I)I"⟩
abbrev cX8_closeTable : ByteArray := prog_1_method_29_code
def yX8_closeTable : MethodName := ⟨RX8, "closeTable", "()I"⟩
abbrev cX8_turnCommandsOn : ByteArray := prog_1_method_30_code
def yX8_turnCommandsOn : MethodName := ⟨RX8, "turnCommandsOn", "()I"⟩
abbrev cX8_turnCommandsOff : ByteArray := prog_1_method_31_code
def yX8_turnCommandsOff : MethodName := ⟨RX8, "turnCommandsOff", "()I"⟩
abbrev cX8_ask : ByteArray := prog_1_method_32_code
def yX8_ask : MethodName := ⟨RX8, "ask", "()I"⟩
abbrev cX8_giveTranscriptFile : ByteArray := prog_1_method_33_code
def yX8_giveTranscriptFile : MethodName := ⟨RX8, "giveTranscriptFile", "()I"⟩
abbrev cX8_faultOfLoad : ByteArray := prog_1_method_34_code
def yX8_faultOfLoad : MethodName := ⟨RX8, "faultOfLoad", "(III)I"⟩
abbrev cX8_isSign : ByteArray := prog_1_method_35_code
def yX8_isSign : MethodName := ⟨RX8, "isSign", "(I)Z"⟩
abbrev cX8_writeIntoTable : ByteArray := prog_1_method_36_code
def yX8_writeIntoTable : MethodName := ⟨RX8, "writeIntoTable", "(I)I"⟩
abbrev cX8_show : ByteArray := prog_1_method_37_code
def yX8_show : MethodName := ⟨RX8, "show", "(I)I"⟩
abbrev cX8_writeToTranscript : ByteArray := prog_1_method_38_code
def yX8_writeToTranscript : MethodName := ⟨RX8, "writeToTranscript", "(I)Z"⟩
abbrev cX8_writeToCommands : ByteArray := prog_1_method_39_code
def yX8_writeToCommands : MethodName := ⟨RX8, "writeToCommands", "(I)V"⟩
abbrev cX8_writeBehind : ByteArray := prog_1_method_40_code
def yX8_writeBehind : MethodName := ⟨RX8, "writeBehind", "(II)Z"⟩
abbrev cX8_endSpentSource : ByteArray := prog_1_method_41_code
def yX8_endSpentSource : MethodName := ⟨RX8, "endSpentSource", "()V"⟩
abbrev cX8_readTyped : ByteArray := prog_1_method_42_code
def yX8_readTyped : MethodName := ⟨RX8, "readTyped", "(I)V"⟩
abbrev cX8_readFile : ByteArray := prog_1_method_43_code
def yX8_readFile : MethodName := ⟨RX8, "readFile", "(I)V"⟩
abbrev cX8_echoLine : ByteArray := prog_1_method_44_code
def yX8_echoLine : MethodName := ⟨RX8, "echoLine", "(Z)V"⟩
def RX9 : String := "ZStreamsModel"
def TX9 : u_T := fun k => match k with
  | 0 => ("ZStreamsModel", "version", "I", true)
  | 1 => ("ZStreamsModel", "memory", "[I", true)
  | 2 => ("ZStreamsModel", "kind", "[I", true)
  | 3 => ("ZStreamsModel", "size", "[I", true)
  | 4 => ("ZStreamsModel", "bytes", "[I", true)
  | 5 => ("ZStreamsModel", "answers", "[I", true)
  | 6 => ("ZStreamsModel", "answerMany", "I", false)
  | 7 => ("ZStreamsModel", "screen", "Z", false)
  | 8 => ("ZStreamsModel", "transcript", "I", false)
  | 9 => ("ZStreamsModel", "commands", "I", false)
  | 10 => ("ZStreamsModel", "address", "[I", true)
  | 11 => ("ZStreamsModel", "count", "[I", true)
  | 12 => ("ZStreamsModel", "deep", "I", false)
  | 13 => ("ZStreamsModel", "shown", "[I", true)
  | 14 => ("ZStreamsModel", "came", "I", false)
  | 15 => ("ZStreamsModel", "written", "I", false)
  | 16 => ("ZStreamsModel", "tabled", "I", false)
  | 17 => ("ZStreamsModel", "commanded", "I", false)
  | 18 => ("ZStreamsModel", "lost", "I", false)
  | 19 => ("ZStreamsModel", "typed", "[I", true)
  | 20 => ("ZStreamsModel", "typedMany", "I", false)
  | 21 => ("ZStreamsModel", "source", "I", false)
  | 22 => ("ZStreamsModel", "place", "I", false)
  | 23 => ("ZStreamsModel", "line", "[I", true)
  | 24 => ("ZStreamsModel", "lineSize", "I", false)
  | 25 => ("ZStreamsModel", "ready", "[Z", true)
  | 26 => ("ZStreamsModel", "playing", "I", false)
  | 27 => ("ZStreamsModel", "turns", "I", false)
  | 28 => ("ZStreamsModel", "routine", "I", false)
  | 29 => ("ZStreamsModel", "rowKind", "[I", true)
  | 30 => ("ZStreamsModel", "rowNumber", "[I", true)
  | _ => ("ZStreamsModel", "rows", "I", false)
def tyX9 : Nat → FieldType := fun k => match k with
  | 0 => .int
  | 1 => .array .int
  | 2 => .array .int
  | 3 => .array .int
  | 4 => .array .int
  | 5 => .array .int
  | 6 => .int
  | 7 => .boolean
  | 8 => .int
  | 9 => .int
  | 10 => .array .int
  | 11 => .array .int
  | 12 => .int
  | 13 => .array .int
  | 14 => .int
  | 15 => .int
  | 16 => .int
  | 17 => .int
  | 18 => .int
  | 19 => .array .int
  | 20 => .int
  | 21 => .int
  | 22 => .int
  | 23 => .array .int
  | 24 => .int
  | 25 => .array .boolean
  | 26 => .int
  | 27 => .int
  | 28 => .int
  | 29 => .array .int
  | 30 => .array .int
  | _ => .int
abbrev wsX90 : List Cond := u_ws RX9 TX9 32
theorem nmX9 : ∀ a, a < 32 → ∀ b, b < 32 → a ≠ b → (TX9 a).2.1 ≠ (TX9 b).2.1 := by decide +kernel
theorem tyX9_ok : ∀ k, k < 32 → parseFieldDescriptor (TX9 k).2.2.1 = some (tyX9 k) := by decide +kernel
abbrev cX9_init : ByteArray := prog_11_method_1_code
def yX9_init : MethodName := ⟨RX9, "<init>", "(I)V"⟩
abbrev cX9_out : ByteArray := prog_11_method_2_code
def yX9_out : MethodName := ⟨RX9, "out", "(III)Z"⟩
abbrev cX9_isSign : ByteArray := prog_11_method_3_code
def yX9_isSign : MethodName := ⟨RX9, "isSign", "(I)Z"⟩
abbrev cX9_row : ByteArray := prog_11_method_4_code
def yX9_row : MethodName := ⟨RX9, "row", "(II)V"⟩
abbrev cX9_ask : ByteArray := prog_11_method_5_code
def yX9_ask : MethodName := ⟨RX9, "ask", "()I"⟩
abbrev cX9_fresh : ByteArray := prog_11_method_6_code
def yX9_fresh : MethodName := ⟨RX9, "fresh", "(I)V"⟩
abbrev cX9_append : ByteArray := prog_11_method_7_code
def yX9_append : MethodName := ⟨RX9, "append", "(II)Z"⟩
abbrev cX9_getFile : ByteArray := prog_11_method_8_code
def yX9_getFile : MethodName := ⟨RX9, "getFile", "()I"⟩
abbrev cX9_choose : ByteArray := prog_11_method_9_code
def yX9_choose : MethodName := ⟨RX9, "choose", "(IZI)I"⟩
abbrev cX9_open : ByteArray := prog_11_method_10_code
def yX9_open : MethodName := ⟨RX9, "open", "(I)I"⟩
abbrev cX9_close : ByteArray := prog_11_method_11_code
def yX9_close : MethodName := ⟨RX9, "close", "()I"⟩
abbrev cX9_plain : ByteArray := prog_11_method_12_code
def yX9_plain : MethodName := ⟨RX9, "plain", "(I)I"⟩
abbrev cX9_sign : ByteArray := prog_11_method_13_code
def yX9_sign : MethodName := ⟨RX9, "sign", "(I)I"⟩
abbrev cX9_depth : ByteArray := prog_11_method_14_code
def yX9_depth : MethodName := ⟨RX9, "depth", "()I"⟩
abbrev cX9_table : ByteArray := prog_11_method_15_code
def yX9_table : MethodName := ⟨RX9, "table", "(II)I"⟩
abbrev cX9_shown : ByteArray := prog_11_method_16_code
def yX9_shown : MethodName := ⟨RX9, "shown", "(I)I"⟩
abbrev cX9_transcript : ByteArray := prog_11_method_17_code
def yX9_transcript : MethodName := ⟨RX9, "transcript", "(Z)I"⟩
abbrev cX9_peek : ByteArray := prog_11_method_18_code
def yX9_peek : MethodName := ⟨RX9, "peek", "(I)I"⟩
abbrev cX9_poke : ByteArray := prog_11_method_19_code
def yX9_poke : MethodName := ⟨RX9, "poke", "(II)I"⟩
abbrev cX9_answer : ByteArray := prog_11_method_20_code
def yX9_answer : MethodName := ⟨RX9, "answer", "(I)I"⟩
abbrev cX9_fileOf : ByteArray := prog_11_method_21_code
def yX9_fileOf : MethodName := ⟨RX9, "fileOf", "(II)I"⟩
abbrev cX9_byteOf : ByteArray := prog_11_method_22_code
def yX9_byteOf : MethodName := ⟨RX9, "byteOf", "(II)I"⟩
abbrev cX9_drop : ByteArray := prog_11_method_23_code
def yX9_drop : MethodName := ⟨RX9, "drop", "(I)I"⟩
abbrev cX9_beyond : ByteArray := prog_11_method_24_code
def yX9_beyond : MethodName := ⟨RX9, "beyond", "(II)Z"⟩
abbrev cX9_save : ByteArray := prog_11_method_25_code
def yX9_save : MethodName := ⟨RX9, "save", "(II)I"⟩
abbrev cX9_load : ByteArray := prog_11_method_26_code
def yX9_load : MethodName := ⟨RX9, "load", "(II)I"⟩
abbrev cX9_type : ByteArray := prog_11_method_27_code
def yX9_type : MethodName := ⟨RX9, "type", "(I)I"⟩
abbrev cX9_source : ByteArray := prog_11_method_28_code
def yX9_source : MethodName := ⟨RX9, "source", "(Z)I"⟩
abbrev cX9_line : ByteArray := prog_11_method_29_code
def yX9_line : MethodName := ⟨RX9, "line", "(I)I"⟩
abbrev cX9_lineAt : ByteArray := prog_11_method_30_code
def yX9_lineAt : MethodName := ⟨RX9, "lineAt", "(I)I"⟩
abbrev cX9_stop : ByteArray := prog_11_method_31_code
def yX9_stop : MethodName := ⟨RX9, "stop", "()V"⟩
abbrev cX9_sound : ByteArray := prog_11_method_32_code
def yX9_sound : MethodName := ⟨RX9, "sound", "(IIII)I"⟩
abbrev cX9_ended : ByteArray := prog_11_method_33_code
def yX9_ended : MethodName := ⟨RX9, "ended", "()I"⟩
abbrev cX9_sounds : ByteArray := prog_11_method_34_code
def yX9_sounds : MethodName := ⟨RX9, "sounds", "(I)I"⟩
abbrev cX9_order : ByteArray := prog_11_method_35_code
def yX9_order : MethodName := ⟨RX9, "order", "(II)I"⟩
abbrev cX9_told : ByteArray := prog_11_method_36_code
def yX9_told : MethodName := ⟨RX9, "told", "(I)I"⟩
def RJ9 : String := "java/lang/Math"
def TJ9 : u_T := fun k => match k with
  | _ => ("", "", "", false)
def tyJ9 : Nat → FieldType := fun k => match k with
  | _ => .int
abbrev wsJ90 : List Cond := u_ws RJ9 TJ9 0
theorem nmJ9 : ∀ a, a < 0 → ∀ b, b < 0 → a ≠ b → (TJ9 a).2.1 ≠ (TJ9 b).2.1 := by decide +kernel
theorem tyJ9_ok : ∀ k, k < 0 → parseFieldDescriptor (TJ9 k).2.2.1 = some (tyJ9 k) := by decide +kernel
abbrev cJ9_floorMod_7cf53 : ByteArray := prog_12_method_50_code
def yJ9_floorMod_7cf53 : MethodName := ⟨RJ9, "floorMod", "(II)I"⟩
abbrev cJ9_max_7cf53 : ByteArray := prog_12_method_65_code
def yJ9_max_7cf53 : MethodName := ⟨RJ9, "max", "(II)I"⟩
abbrev cJ9_min_7cf53 : ByteArray := prog_12_method_69_code
def yJ9_min_7cf53 : MethodName := ⟨RJ9, "min", "(II)I"⟩
def RL : String := "ZStreamsLaw"
abbrev cL_cell : ByteArray := method_2_code
def yL_cell : MethodName := ⟨RL, "cell", "([II)I"⟩
abbrev cL_law : ByteArray := code
def yL_law : MethodName := ⟨RL, "law", "([I)Z"⟩
abbrev vwCl : List vw_C := [(RX0, TX0, 3), (RX1, TX1, 2), (RX2, TX2, 3), (RX3, TX3, 1), (RX4, TX4, 4), (RX5, TX5, 2), (RX6, TX6, 3), (RX7, TX7, 4), (RX8, TX8, 18), (RX9, TX9, 32)]
end
section
/-! the tables of the machine of positions: methods, and what a place of a constant pool means (by program, out of the Statement's words) -/
def rx_tab : List (ByteArray × MethodName × Nat × Option FieldType) := [
  (cX0_init, yX0_init, 2, none),
  (cX0_has, yX0_has, 2, (some .boolean)),
  (cX0_isThere, yX0_isThere, 2, (some .boolean)),
  (cX0_is, yX0_is, 3, (some .boolean)),
  (cX0_kindOf, yX0_kindOf, 2, (some .int)),
  (cX0_lengthOf, yX0_lengthOf, 2, (some .int)),
  (cX0_hasByte, yX0_hasByte, 3, (some .boolean)),
  (cX0_get, yX0_get, 3, (some .int)),
  (cX0_remove, yX0_remove, 2, none),
  (cX0_makeEmpty, yX0_makeEmpty, 3, none),
  (cX0_append, yX0_append, 4, (some .boolean)),
  (cX1_init, yX1_init, 1, none),
  (cX1_length, yX1_length, 1, (some .int)),
  (cX1_get, yX1_get, 2, (some .int)),
  (cX1_clear, yX1_clear, 1, none),
  (cX1_add, yX1_add, 2, none),
  (cX2_init, yX2_init, 1, none),
  (cX2_rows, yX2_rows, 1, (some .int)),
  (cX2_has, yX2_has, 2, (some .boolean)),
  (cX2_kindOf, yX2_kindOf, 2, (some .int)),
  (cX2_numberOf, yX2_numberOf, 2, (some .int)),
  (cX2_add, yX2_add, 3, none),
  (cX3_init, yX3_init, 1, none),
  (cX3_has, yX3_has, 2, (some .boolean)),
  (cX3_hasAll, yX3_hasAll, 3, (some .boolean)),
  (cX3_get, yX3_get, 2, (some .int)),
  (cX3_set, yX3_set, 3, none),
  (cX3_setTwo, yX3_setTwo, 3, none),
  (cX3_bit, yX3_bit, 1, (some .int)),
  (cX3_setBit, yX3_setBit, 2, none),
  (cX4_init, yX4_init, 1, none),
  (cX4_canBeReady, yX4_canBeReady, 1, (some .boolean)),
  (cX4_playing, yX4_playing, 1, (some .int)),
  (cX4_turnsLeft, yX4_turnsLeft, 1, (some .int)),
  (cX4_routineCalled, yX4_routineCalled, 1, (some .int)),
  (cX4_readiness, yX4_readiness, 2, (some .int)),
  (cX4_prepare, yX4_prepare, 2, (some .int)),
  (cX4_begin, yX4_begin, 5, (some .int)),
  (cX4_stop, yX4_stop, 3, (some .int)),
  (cX4_release, yX4_release, 4, (some .int)),
  (cX4_endTurn, yX4_endTurn, 3, (some .int)),
  (cX4_makeReady, yX4_makeReady, 3, none),
  (cX5_init, yX5_init, 2, none),
  (cX5_waiting, yX5_waiting, 1, (some .int)),
  (cX5_isFull, yX5_isFull, 1, (some .boolean)),
  (cX5_contains, yX5_contains, 3, (some .boolean)),
  (cX5_add, yX5_add, 2, none),
  (cX5_take, yX5_take, 3, (some .int)),
  (cX6_init, yX6_init, 1, none),
  (cX6_isOn, yX6_isOn, 1, (some .boolean)),
  (cX6_turn, yX6_turn, 2, none),
  (cX6_came, yX6_came, 1, (some .int)),
  (cX6_add, yX6_add, 2, none),
  (cX6_before, yX6_before, 2, (some .int)),
  (cX7_init, yX7_init, 2, none),
  (cX7_open, yX7_open, 1, (some .int)),
  (cX7_isFull, yX7_isFull, 1, (some .boolean)),
  (cX7_has, yX7_has, 2, (some .boolean)),
  (cX7_addressOf, yX7_addressOf, 2, (some .int)),
  (cX7_countOf, yX7_countOf, 2, (some .int)),
  (cX7_push, yX7_push, 2, none),
  (cX7_pop, yX7_pop, 1, none),
  (cX7_countOneMore, yX7_countOneMore, 1, none),
  (cX8_init, yX8_init, 2, none),
  (cX8_choose, yX8_choose, 4, (some .int)),
  (cX8_sign, yX8_sign, 2, (some .int)),
  (cX8_depth, yX8_depth, 1, (some .int)),
  (cX8_table, yX8_table, 3, (some .int)),
  (cX8_shown, yX8_shown, 2, (some .int)),
  (cX8_transcript, yX8_transcript, 3, (some .int)),
  (cX8_peek, yX8_peek, 2, (some .int)),
  (cX8_poke, yX8_poke, 4, (some .int)),
  (cX8_answer, yX8_answer, 2, (some .int)),
  (cX8_fileOf, yX8_fileOf, 3, (some .int)),
  (cX8_byteOf, yX8_byteOf, 3, (some .int)),
  (cX8_drop, yX8_drop, 2, (some .int)),
  (cX8_save, yX8_save, 5, (some .int)),
  (cX8_load, yX8_load, 6, (some .int)),
  (cX8_type, yX8_type, 2, (some .int)),
  (cX8_source, yX8_source, 3, (some .int)),
  (cX8_line, yX8_line, 3, (some .int)),
  (cX8_lineAt, yX8_lineAt, 2, (some .int)),
  (cX8_sound, yX8_sound, 5, (some .int)),
  (cX8_ended, yX8_ended, 1, (some .int)),
  (cX8_sounds, yX8_sounds, 2, (some .int)),
  (cX8_order, yX8_order, 3, (some .int)),
  (cX8_told, yX8_told, 2, (some .int)),
  (cX8_hasStream, yX8_hasStream, 3, (some .boolean)),
  (cX8_turnTranscriptOn, yX8_turnTranscriptOn, 2, (some .int)),
  (cX8_turnTranscriptOff, yX8_turnTranscriptOff, 1, (some .int)),
  (cX8_openTable, yX8_openTable, 2, (some .int)),
  (cX8_closeTable, yX8_closeTable, 3, (some .int)),
  (cX8_turnCommandsOn, yX8_turnCommandsOn, 2, (some .int)),
  (cX8_turnCommandsOff, yX8_turnCommandsOff, 1, (some .int)),
  (cX8_ask, yX8_ask, 2, (some .int)),
  (cX8_giveTranscriptFile, yX8_giveTranscriptFile, 2, (some .int)),
  (cX8_faultOfLoad, yX8_faultOfLoad, 4, (some .int)),
  (cX8_isSign, yX8_isSign, 1, (some .boolean)),
  (cX8_writeIntoTable, yX8_writeIntoTable, 4, (some .int)),
  (cX8_show, yX8_show, 3, (some .int)),
  (cX8_writeToTranscript, yX8_writeToTranscript, 3, (some .boolean)),
  (cX8_writeToCommands, yX8_writeToCommands, 2, none),
  (cX8_writeBehind, yX8_writeBehind, 4, (some .boolean)),
  (cX8_endSpentSource, yX8_endSpentSource, 1, none),
  (cX8_readTyped, yX8_readTyped, 4, none),
  (cX8_readFile, yX8_readFile, 5, none),
  (cX8_echoLine, yX8_echoLine, 5, none),
  (cX9_init, yX9_init, 3, none),
  (cX9_out, yX9_out, 3, (some .boolean)),
  (cX9_isSign, yX9_isSign, 1, (some .boolean)),
  (cX9_row, yX9_row, 3, none),
  (cX9_ask, yX9_ask, 3, (some .int)),
  (cX9_fresh, yX9_fresh, 2, none),
  (cX9_append, yX9_append, 3, (some .boolean)),
  (cX9_getFile, yX9_getFile, 2, (some .int)),
  (cX9_choose, yX9_choose, 6, (some .int)),
  (cX9_open, yX9_open, 2, (some .int)),
  (cX9_close, yX9_close, 1, (some .int)),
  (cX9_plain, yX9_plain, 4, (some .int)),
  (cX9_sign, yX9_sign, 3, (some .int)),
  (cX9_depth, yX9_depth, 1, (some .int)),
  (cX9_table, yX9_table, 3, (some .int)),
  (cX9_shown, yX9_shown, 2, (some .int)),
  (cX9_transcript, yX9_transcript, 3, (some .int)),
  (cX9_peek, yX9_peek, 2, (some .int)),
  (cX9_poke, yX9_poke, 4, (some .int)),
  (cX9_answer, yX9_answer, 2, (some .int)),
  (cX9_fileOf, yX9_fileOf, 3, (some .int)),
  (cX9_byteOf, yX9_byteOf, 3, (some .int)),
  (cX9_drop, yX9_drop, 3, (some .int)),
  (cX9_beyond, yX9_beyond, 2, (some .boolean)),
  (cX9_save, yX9_save, 5, (some .int)),
  (cX9_load, yX9_load, 5, (some .int)),
  (cX9_type, yX9_type, 2, (some .int)),
  (cX9_source, yX9_source, 3, (some .int)),
  (cX9_line, yX9_line, 8, (some .int)),
  (cX9_lineAt, yX9_lineAt, 2, (some .int)),
  (cX9_stop, yX9_stop, 1, none),
  (cX9_sound, yX9_sound, 7, (some .int)),
  (cX9_ended, yX9_ended, 2, (some .int)),
  (cX9_sounds, yX9_sounds, 2, (some .int)),
  (cX9_order, yX9_order, 3, (some .int)),
  (cX9_told, yX9_told, 2, (some .int)),
  (cJ9_floorMod_7cf53, yJ9_floorMod_7cf53, 3, (some .int)),
  (cJ9_max_7cf53, yJ9_max_7cf53, 2, (some .int)),
  (cJ9_min_7cf53, yJ9_min_7cf53, 2, (some .int)),
  (cL_cell, yL_cell, 2, (some .int)),
  (cL_law, yL_law, 4, (some .boolean))]
/-- owner, arguments, frames, locals, cells, slots, 1 for a constructor -/
def rx_num : List (Nat × Nat × Nat × Nat × Nat × Nat × Nat) := [
  (0, 1, 1, 20, 9, 2418, 1),
  (0, 2, 0, 0, 0, 0, 0),
  (0, 2, 1, 21, 0, 0, 0),
  (0, 3, 1, 21, 0, 0, 0),
  (0, 2, 1, 21, 0, 0, 0),
  (0, 2, 1, 21, 0, 0, 0),
  (0, 3, 2, 42, 0, 0, 0),
  (0, 3, 3, 64, 0, 0, 0),
  (0, 2, 2, 43, 0, 0, 0),
  (0, 3, 1, 21, 0, 0, 0),
  (0, 4, 1, 21, 0, 0, 0),
  (1, 1, 1, 20, 1, 40, 1),
  (1, 1, 0, 0, 0, 0, 0),
  (1, 2, 0, 0, 0, 0, 0),
  (1, 1, 0, 0, 0, 0, 0),
  (1, 2, 0, 0, 0, 0, 0),
  (2, 1, 1, 20, 2, 400, 1),
  (2, 1, 0, 0, 0, 0, 0),
  (2, 2, 0, 0, 0, 0, 0),
  (2, 2, 1, 21, 0, 0, 0),
  (2, 2, 1, 21, 0, 0, 0),
  (2, 3, 0, 0, 0, 0, 0),
  (3, 1, 1, 20, 1, 2000, 1),
  (3, 2, 0, 0, 0, 0, 0),
  (3, 3, 0, 0, 0, 0, 0),
  (3, 2, 1, 21, 0, 0, 0),
  (3, 3, 1, 21, 0, 0, 0),
  (3, 3, 2, 43, 0, 0, 0),
  (3, 1, 0, 0, 0, 0, 0),
  (3, 2, 0, 0, 0, 0, 0),
  (4, 1, 1, 20, 1, 10, 1),
  (4, 1, 0, 0, 0, 0, 0),
  (4, 1, 0, 0, 0, 0, 0),
  (4, 1, 0, 0, 0, 0, 0),
  (4, 1, 0, 0, 0, 0, 0),
  (4, 2, 1, 20, 0, 0, 0),
  (4, 2, 2, 42, 0, 0, 0),
  (4, 5, 2, 44, 0, 0, 0),
  (4, 3, 1, 22, 0, 0, 0),
  (4, 3, 2, 44, 0, 0, 0),
  (4, 2, 2, 44, 0, 0, 0),
  (4, 3, 1, 20, 0, 0, 0),
  (5, 2, 1, 21, 1, 60, 1),
  (5, 1, 0, 0, 0, 0, 0),
  (5, 1, 0, 0, 0, 0, 0),
  (5, 2, 0, 0, 0, 0, 0),
  (5, 2, 1, 20, 0, 0, 0),
  (5, 1, 0, 0, 0, 0, 0),
  (6, 1, 1, 20, 1, 100, 1),
  (6, 1, 0, 0, 0, 0, 0),
  (6, 2, 0, 0, 0, 0, 0),
  (6, 1, 0, 0, 0, 0, 0),
  (6, 2, 1, 22, 0, 0, 0),
  (6, 2, 1, 22, 0, 0, 0),
  (7, 2, 1, 21, 2, 32, 1),
  (7, 1, 0, 0, 0, 0, 0),
  (7, 1, 0, 0, 0, 0, 0),
  (7, 2, 0, 0, 0, 0, 0),
  (7, 2, 1, 21, 0, 0, 0),
  (7, 2, 1, 21, 0, 0, 0),
  (7, 2, 1, 20, 0, 0, 0),
  (7, 1, 0, 0, 0, 0, 0),
  (7, 1, 0, 0, 0, 0, 0),
  (8, 2, 2, 42, 28, 5144, 1),
  (8, 4, 4, 87, 0, 0, 0),
  (8, 2, 5, 111, 0, 0, 0),
  (8, 1, 1, 20, 0, 0, 0),
  (8, 3, 2, 42, 0, 0, 0),
  (8, 2, 2, 43, 0, 0, 0),
  (8, 2, 1, 21, 0, 0, 0),
  (8, 2, 2, 42, 0, 0, 0),
  (8, 3, 2, 43, 0, 0, 0),
  (8, 2, 2, 41, 0, 0, 0),
  (8, 3, 2, 42, 0, 0, 0),
  (8, 3, 4, 86, 0, 0, 0),
  (8, 2, 3, 64, 0, 0, 0),
  (8, 3, 2, 44, 0, 0, 0),
  (8, 3, 4, 86, 0, 0, 0),
  (8, 2, 2, 41, 0, 0, 0),
  (8, 2, 2, 43, 0, 0, 0),
  (8, 2, 6, 135, 0, 0, 0),
  (8, 2, 1, 21, 0, 0, 0),
  (8, 5, 3, 68, 0, 0, 0),
  (8, 1, 3, 66, 0, 0, 0),
  (8, 2, 2, 41, 0, 0, 0),
  (8, 3, 2, 42, 0, 0, 0),
  (8, 2, 1, 20, 0, 0, 0),
  (8, 2, 0, 0, 0, 0, 0),
  (8, 1, 3, 64, 0, 0, 0),
  (8, 1, 1, 21, 0, 0, 0),
  (8, 2, 2, 41, 0, 0, 0),
  (8, 1, 3, 65, 0, 0, 0),
  (8, 1, 2, 43, 0, 0, 0),
  (8, 1, 0, 0, 0, 0, 0),
  (8, 1, 1, 22, 0, 0, 0),
  (8, 1, 2, 43, 0, 0, 0),
  (8, 4, 2, 43, 0, 0, 0),
  (8, 1, 0, 0, 0, 0, 0),
  (8, 2, 2, 43, 0, 0, 0),
  (8, 2, 4, 89, 0, 0, 0),
  (8, 2, 3, 67, 0, 0, 0),
  (8, 2, 3, 67, 0, 0, 0),
  (8, 3, 2, 44, 0, 0, 0),
  (8, 1, 2, 43, 0, 0, 0),
  (8, 2, 1, 22, 0, 0, 0),
  (8, 2, 4, 86, 0, 0, 0),
  (8, 2, 5, 111, 0, 0, 0),
  (9, 2, 1, 20, 13, 5062, 1),
  (9, 3, 0, 0, 0, 0, 0),
  (9, 1, 1, 22, 0, 0, 0),
  (9, 3, 0, 0, 0, 0, 0),
  (9, 1, 1, 22, 0, 0, 0),
  (9, 2, 1, 22, 0, 0, 0),
  (9, 3, 0, 0, 0, 0, 0),
  (9, 1, 2, 44, 0, 0, 0),
  (9, 4, 3, 65, 0, 0, 0),
  (9, 2, 1, 22, 0, 0, 0),
  (9, 1, 1, 22, 0, 0, 0),
  (9, 2, 3, 65, 0, 0, 0),
  (9, 2, 4, 88, 0, 0, 0),
  (9, 1, 0, 0, 0, 0, 0),
  (9, 3, 1, 22, 0, 0, 0),
  (9, 2, 1, 22, 0, 0, 0),
  (9, 2, 0, 0, 0, 0, 0),
  (9, 2, 1, 22, 0, 0, 0),
  (9, 3, 1, 22, 0, 0, 0),
  (9, 2, 1, 22, 0, 0, 0),
  (9, 3, 1, 22, 0, 0, 0),
  (9, 3, 1, 22, 0, 0, 0),
  (9, 2, 1, 22, 0, 0, 0),
  (9, 2, 0, 0, 0, 0, 0),
  (9, 3, 2, 44, 0, 0, 0),
  (9, 3, 2, 44, 0, 0, 0),
  (9, 2, 2, 42, 0, 0, 0),
  (9, 2, 2, 44, 0, 0, 0),
  (9, 2, 4, 88, 0, 0, 0),
  (9, 2, 1, 22, 0, 0, 0),
  (9, 1, 1, 22, 0, 0, 0),
  (9, 5, 2, 42, 0, 0, 0),
  (9, 1, 2, 42, 0, 0, 0),
  (9, 2, 1, 22, 0, 0, 0),
  (9, 3, 1, 22, 0, 0, 0),
  (9, 2, 0, 0, 0, 0, 0),
  (10, 2, 0, 0, 0, 0, 0),
  (10, 2, 0, 0, 0, 0, 0),
  (10, 2, 0, 0, 0, 0, 0),
  (11, 2, 0, 0, 0, 0, 0),
  (11, 1, 7, 157, 600000, 7302250, 0)]
def rx_ons : List String := ["ZStreams$Files", "ZStreams$Line", "ZStreams$Log", "ZStreams$Memory", "ZStreams$Player", "ZStreams$Queue", "ZStreams$Screen", "ZStreams$Tables", "ZStreams", "ZStreamsModel", "java/lang/Math", "ZStreamsLaw"]
def rx_row (i : Nat) : ByteArray × MethodName × Nat × Option FieldType := rx_tab.getD i (⟨#[]⟩, ⟨"", "", ""⟩, 0, none)
def rx_nrw (i : Nat) : Nat × Nat × Nat × Nat × Nat × Nat × Nat := rx_num.getD i (0, 0, 0, 0, 0, 0, 0)
abbrev rx_cd (i : Nat) : ByteArray := (rx_row i).1
abbrev rx_y (i : Nat) : MethodName := (rx_row i).2.1
abbrev rx_ml (i : Nat) : Nat := (rx_row i).2.2.1
abbrev rx_rt (i : Nat) : Option FieldType := (rx_row i).2.2.2
abbrev rx_ow (i : Nat) : Nat := (rx_nrw i).1
abbrev rx_na (i : Nat) : Nat := (rx_nrw i).2.1
abbrev rx_fr (i : Nat) : Nat := (rx_nrw i).2.2.1
abbrev rx_lo (i : Nat) : Nat := (rx_nrw i).2.2.2.1
abbrev rx_mc (i : Nat) : Nat := (rx_nrw i).2.2.2.2.1
abbrev rx_ms (i : Nat) : Nat := (rx_nrw i).2.2.2.2.2.1
abbrev rx_ini (i : Nat) : Nat := (rx_nrw i).2.2.2.2.2.2
def rx_on (o : Nat) : String := rx_ons.getD o ""
/-- (owner, place): class, slot, kind (0 int, 1 boolean, 2 a reference), 1 for a final one -/
def rx_fl : List ((Nat × Nat) × (Nat × Nat × Nat × Nat)) := [
  ((0, 11), (0, 0, 2, 1)),
  ((0, 15), (0, 1, 2, 1)),
  ((0, 20), (0, 2, 2, 1)),
  ((1, 11), (1, 0, 2, 1)),
  ((1, 15), (1, 1, 0, 0)),
  ((2, 11), (2, 0, 2, 1)),
  ((2, 15), (2, 1, 2, 1)),
  ((2, 18), (2, 2, 0, 0)),
  ((3, 9), (3, 0, 2, 1)),
  ((4, 11), (4, 0, 2, 1)),
  ((4, 15), (4, 1, 0, 0)),
  ((4, 19), (4, 2, 0, 0)),
  ((4, 22), (4, 3, 0, 0)),
  ((5, 15), (5, 0, 2, 1)),
  ((5, 21), (5, 1, 0, 0)),
  ((6, 11), (6, 0, 2, 1)),
  ((6, 15), (6, 2, 1, 0)),
  ((6, 19), (6, 1, 0, 0)),
  ((7, 9), (7, 1, 2, 1)),
  ((7, 13), (7, 2, 2, 1)),
  ((7, 22), (7, 0, 0, 1)),
  ((7, 26), (7, 3, 0, 0)),
  ((8, 18), (8, 0, 0, 1)),
  ((8, 25), (8, 1, 2, 1)),
  ((8, 32), (8, 2, 2, 1)),
  ((8, 41), (8, 3, 2, 1)),
  ((8, 45), (8, 4, 2, 1)),
  ((8, 51), (8, 5, 2, 1)),
  ((8, 58), (8, 6, 2, 1)),
  ((8, 65), (8, 7, 2, 1)),
  ((8, 72), (8, 8, 2, 1)),
  ((8, 79), (8, 9, 2, 1)),
  ((8, 83), (8, 10, 0, 0)),
  ((8, 86), (8, 11, 0, 0)),
  ((8, 89), (8, 12, 0, 0)),
  ((8, 207), (8, 13, 0, 0)),
  ((8, 273), (8, 14, 0, 0)),
  ((8, 276), (8, 15, 0, 0)),
  ((8, 279), (8, 16, 0, 0)),
  ((8, 282), (8, 17, 0, 0)),
  ((9, 7), (9, 1, 2, 1)),
  ((9, 13), (9, 2, 2, 1)),
  ((9, 16), (9, 3, 2, 1)),
  ((9, 19), (9, 4, 2, 1)),
  ((9, 22), (9, 5, 2, 1)),
  ((9, 25), (9, 7, 1, 0)),
  ((9, 29), (9, 8, 0, 0)),
  ((9, 33), (9, 9, 0, 0)),
  ((9, 36), (9, 10, 2, 1)),
  ((9, 39), (9, 11, 2, 1)),
  ((9, 42), (9, 13, 2, 1)),
  ((9, 45), (9, 19, 2, 1)),
  ((9, 48), (9, 21, 0, 0)),
  ((9, 51), (9, 23, 2, 1)),
  ((9, 54), (9, 25, 2, 1)),
  ((9, 58), (9, 26, 0, 0)),
  ((9, 61), (9, 29, 2, 1)),
  ((9, 64), (9, 30, 2, 1)),
  ((9, 67), (9, 0, 0, 1)),
  ((9, 74), (9, 31, 0, 0)),
  ((9, 77), (9, 6, 0, 0)),
  ((9, 84), (9, 18, 0, 0)),
  ((9, 105), (9, 12, 0, 0)),
  ((9, 108), (9, 14, 0, 0)),
  ((9, 115), (9, 15, 0, 0)),
  ((9, 125), (9, 16, 0, 0)),
  ((9, 133), (9, 20, 0, 0)),
  ((9, 136), (9, 22, 0, 0)),
  ((9, 139), (9, 24, 0, 0)),
  ((9, 142), (9, 17, 0, 0)),
  ((9, 145), (9, 27, 0, 0)),
  ((9, 148), (9, 28, 0, 0))]
def rx_fwd (q : (Nat × Nat) × (Nat × Nat × Nat × Nat)) : Cond := .fieldLink (rx_on q.1.1) q.1.2 (rx_on q.2.1) (((vwCl.getD q.2.1 ("", fun _ => ("", "", "", false), 0)).2.1 q.2.2.1).2.1) (((vwCl.getD q.2.1 ("", fun _ => ("", "", "", false), 0)).2.1 q.2.2.1).2.2.1)
def rx_fps : List Nat := [74, 75, 76, 140, 141, 153, 154, 155, 61, 169, 170, 171, 172, 91, 92, 124, 126, 125, 106, 107, 105, 108, 183, 184, 185, 186, 187, 188, 189, 190, 191, 192, 193, 194, 195, 196, 197, 198, 199, 200, 657, 658, 659, 660, 661, 663, 664, 665, 666, 667, 669, 675, 677, 679, 681, 682, 685, 686, 656, 687, 662, 674, 668, 670, 671, 672, 676, 678, 680, 673, 683, 684]
/-- (owner, place): method, kind (0 virtual, 1 static, 2 constructor, 3 a nest mate's constructor, 4 Object's) -/
def rx_mll : List ((Nat × Nat) × (Nat × Nat)) := [
  ((0, 3), (0, 4)),
  ((0, 23), (1, 0)),
  ((0, 27), (5, 0)),
  ((0, 31), (6, 0)),
  ((0, 35), (9, 0)),
  ((1, 3), (0, 4)),
  ((2, 3), (0, 4)),
  ((2, 22), (18, 0)),
  ((3, 1), (0, 4)),
  ((3, 13), (23, 0)),
  ((3, 17), (26, 0)),
  ((4, 3), (0, 4)),
  ((4, 25), (31, 1)),
  ((4, 29), (41, 0)),
  ((4, 33), (38, 0)),
  ((4, 37), (144, 1)),
  ((4, 43), (21, 0)),
  ((4, 49), (35, 0)),
  ((5, 3), (0, 4)),
  ((5, 9), (144, 1)),
  ((5, 25), (44, 0)),
  ((6, 3), (0, 4)),
  ((6, 23), (143, 1)),
  ((7, 1), (0, 4)),
  ((7, 16), (145, 1)),
  ((7, 29), (57, 0)),
  ((7, 33), (56, 0)),
  ((8, 1), (0, 4)),
  ((8, 9), (145, 1)),
  ((8, 15), (144, 1)),
  ((8, 24), (22, 3)),
  ((8, 31), (0, 2)),
  ((8, 38), (42, 2)),
  ((8, 50), (54, 2)),
  ((8, 57), (48, 3)),
  ((8, 64), (11, 3)),
  ((8, 71), (16, 3)),
  ((8, 78), (30, 3)),
  ((8, 92), (87, 0)),
  ((8, 96), (50, 0)),
  ((8, 100), (88, 0)),
  ((8, 104), (89, 0)),
  ((8, 107), (90, 0)),
  ((8, 111), (91, 0)),
  ((8, 114), (92, 0)),
  ((8, 117), (93, 0)),
  ((8, 120), (97, 1)),
  ((8, 123), (55, 0)),
  ((8, 126), (98, 0)),
  ((8, 129), (99, 0)),
  ((8, 132), (57, 0)),
  ((8, 135), (58, 0)),
  ((8, 138), (59, 0)),
  ((8, 141), (53, 0)),
  ((8, 144), (28, 0)),
  ((8, 147), (29, 0)),
  ((8, 150), (23, 0)),
  ((8, 151), (25, 0)),
  ((8, 154), (26, 0)),
  ((8, 158), (1, 0)),
  ((8, 159), (44, 0)),
  ((8, 163), (46, 0)),
  ((8, 166), (43, 0)),
  ((8, 169), (4, 0)),
  ((8, 172), (5, 0)),
  ((8, 175), (6, 0)),
  ((8, 179), (7, 0)),
  ((8, 181), (2, 0)),
  ((8, 184), (8, 0)),
  ((8, 187), (24, 0)),
  ((8, 190), (94, 0)),
  ((8, 193), (9, 0)),
  ((8, 196), (10, 0)),
  ((8, 200), (96, 0)),
  ((8, 204), (3, 0)),
  ((8, 210), (103, 0)),
  ((8, 213), (45, 0)),
  ((8, 216), (104, 0)),
  ((8, 219), (105, 0)),
  ((8, 222), (106, 0)),
  ((8, 225), (12, 0)),
  ((8, 228), (13, 0)),
  ((8, 230), (21, 0)),
  ((8, 232), (36, 0)),
  ((8, 235), (37, 0)),
  ((8, 239), (38, 0)),
  ((8, 243), (39, 0)),
  ((8, 246), (40, 0)),
  ((8, 250), (32, 0)),
  ((8, 253), (33, 0)),
  ((8, 256), (34, 0)),
  ((8, 259), (31, 1)),
  ((8, 262), (35, 0)),
  ((8, 265), (18, 0)),
  ((8, 266), (19, 0)),
  ((8, 267), (20, 0)),
  ((8, 270), (51, 0)),
  ((8, 285), (17, 0)),
  ((8, 288), (95, 0)),
  ((8, 291), (56, 0)),
  ((8, 292), (60, 0)),
  ((8, 295), (27, 0)),
  ((8, 298), (61, 0)),
  ((8, 301), (47, 0)),
  ((8, 304), (62, 0)),
  ((8, 307), (49, 0)),
  ((8, 310), (52, 0)),
  ((8, 311), (100, 0)),
  ((8, 314), (102, 0)),
  ((8, 317), (14, 0)),
  ((8, 320), (15, 0)),
  ((8, 321), (101, 0)),
  ((9, 1), (0, 4)),
  ((9, 70), (108, 1)),
  ((9, 80), (110, 0)),
  ((9, 87), (111, 0)),
  ((9, 91), (112, 0)),
  ((9, 95), (114, 0)),
  ((9, 98), (116, 0)),
  ((9, 102), (117, 0)),
  ((9, 111), (113, 0)),
  ((9, 118), (109, 1)),
  ((9, 122), (118, 0)),
  ((9, 130), (130, 1)),
  ((9, 152), (137, 0)),
  ((11, 9), (146, 1)),
  ((11, 15), (63, 2)),
  ((11, 20), (107, 2)),
  ((11, 21), (64, 0)),
  ((11, 25), (115, 0)),
  ((11, 26), (65, 0)),
  ((11, 30), (119, 0)),
  ((11, 31), (66, 0)),
  ((11, 35), (120, 0)),
  ((11, 36), (67, 0)),
  ((11, 40), (121, 0)),
  ((11, 41), (68, 0)),
  ((11, 44), (122, 0)),
  ((11, 45), (69, 0)),
  ((11, 49), (123, 0)),
  ((11, 50), (70, 0)),
  ((11, 53), (124, 0)),
  ((11, 54), (71, 0)),
  ((11, 57), (125, 0)),
  ((11, 58), (72, 0)),
  ((11, 61), (126, 0)),
  ((11, 62), (73, 0)),
  ((11, 65), (127, 0)),
  ((11, 66), (74, 0)),
  ((11, 69), (128, 0)),
  ((11, 70), (75, 0)),
  ((11, 73), (129, 0)),
  ((11, 74), (76, 0)),
  ((11, 77), (131, 0)),
  ((11, 78), (77, 0)),
  ((11, 81), (132, 0)),
  ((11, 82), (78, 0)),
  ((11, 85), (133, 0)),
  ((11, 86), (79, 0)),
  ((11, 89), (134, 0)),
  ((11, 90), (80, 0)),
  ((11, 93), (135, 0)),
  ((11, 94), (81, 0)),
  ((11, 97), (136, 0)),
  ((11, 98), (82, 0)),
  ((11, 102), (138, 0)),
  ((11, 103), (83, 0)),
  ((11, 106), (139, 0)),
  ((11, 107), (84, 0)),
  ((11, 110), (140, 0)),
  ((11, 111), (85, 0)),
  ((11, 114), (141, 0)),
  ((11, 115), (86, 0)),
  ((11, 118), (142, 0))]
def rx_mwd (q : (Nat × Nat) × (Nat × Nat)) : Cond := if q.2.2 = 4 then .methodLink (rx_on q.1.1) q.1.2 objectInit else if q.2.2 = 3 then .methodLinkNest (rx_on q.1.1) q.1.2 (rx_y q.2.1) "ZStreams" else .methodLink (rx_on q.1.1) q.1.2 (rx_y q.2.1)
def rx_mps : List Nat := [71, 274, 474, 479, 488, 139, 152, 630, 60, 339, 335, 168, 570, 566, 577, 582, 581, 588, 89, 90, 449, 123, 384, 103, 104, 323, 310, 46, 49, 52, 57, 68, 86, 100, 120, 136, 149, 165, 242, 246, 250, 290, 294, 311, 347, 351, 359, 315, 362, 372, 411, 327, 319, 416, 387, 286, 366, 428, 367, 440, 441, 445, 450, 458, 462, 470, 475, 278, 484, 302, 258, 282, 399, 497, 270, 513, 517, 521, 533, 537, 541, 545, 266, 562, 573, 583, 584, 596, 604, 608, 612, 616, 617, 622, 626, 631, 639, 643, 254, 298, 306, 331, 343, 262, 368, 376, 380, 391, 395, 525, 529, 549, 655, 757, 768, 764, 772, 760, 776, 780, 795, 788, 791, 843, 872, 647, 43, 652, 238, 753, 355, 784, 403, 799, 407, 803, 412, 807, 420, 811, 424, 815, 432, 819, 436, 823, 454, 827, 466, 831, 480, 835, 489, 839, 493, 847, 501, 851, 505, 855, 509, 859, 553, 863, 557, 867, 592, 876, 600, 880, 618, 884, 635, 888]
/-- (owner, place): the class that new makes -/
def rx_nl : List ((Nat × Nat) × Nat) := [((8, 22), 3), ((8, 29), 0), ((8, 36), 5), ((8, 48), 7), ((8, 55), 6), ((8, 62), 1), ((8, 69), 2), ((8, 76), 4), ((11, 7), 8), ((11, 18), 9)]
def rx_nps : List Nat := [55, 66, 84, 98, 118, 134, 147, 163, 41, 650]
def rx_nwd (q : (Nat × Nat) × Nat) : Cond := .classLink (rx_on q.1.1) q.1.2 (rx_on q.2)
/-- a new object's fields -/
def rx_df : List (List Value) := [[.null, .null, .null], [.null, .int 0], [.null, .null, .int 0], [.null], [.null, .int 0, .int 0, .int 0], [.null, .int 0], [.null, .int 0, .int 0], [.int 0, .null, .null, .int 0], [.int 0, .null, .null, .null, .null, .null, .null, .null, .null, .null, .int 0, .int 0, .int 0, .int 0, .int 0, .int 0, .int 0, .int 0], [.int 0, .null, .null, .null, .null, .null, .int 0, .int 0, .int 0, .int 0, .null, .null, .int 0, .null, .int 0, .int 0, .int 0, .int 0, .int 0, .null, .int 0, .int 0, .int 0, .null, .int 0, .null, .int 0, .int 0, .int 0, .null, .null, .int 0]]
def rx_kl : List ((Nat × Nat) × Int32) := [((8, 229), 65535), ((9, 151), 65535)]
def rx_kps : List Nat := [561, 871]
def rx_kwd (q : (Nat × Nat) × Int32) : Cond := .constant (rx_on q.1.1) q.1.2 q.2
def rx_k2 : List ((Nat × Nat) × Int64) := [((9, 128), 2000)]
def rx_k2ps : List Nat := [846]
def rx_k2wd (q : (Nat × Nat) × Int64) : Cond := .constantLong (rx_on q.1.1) q.1.2 q.2
def rx_cwd (i : Nat) : Cond := .code (rx_y i) (rx_cd i) (rx_ml i) (rx_rt i)
def rx_cps : List Nat := [70, 277, 281, 273, 461, 465, 473, 478, 487, 285, 402, 138, 544, 548, 528, 532, 151, 646, 625, 629, 634, 269, 59, 342, 305, 431, 338, 334, 390, 289, 167, 572, 607, 611, 615, 591, 565, 576, 580, 587, 599, 569, 88, 453, 444, 520, 448, 265, 122, 379, 249, 642, 383, 419, 102, 318, 301, 326, 330, 322, 309, 346, 371, 45, 241, 358, 406, 410, 415, 423, 427, 435, 439, 457, 469, 483, 492, 496, 504, 508, 512, 556, 560, 595, 603, 621, 638, 245, 253, 293, 297, 314, 350, 354, 261, 257, 500, 361, 365, 375, 394, 552, 398, 516, 524, 536, 540, 654, 759, 790, 771, 767, 775, 798, 763, 756, 779, 783, 794, 787, 802, 806, 810, 814, 818, 822, 826, 830, 834, 838, 845, 842, 850, 854, 858, 862, 866, 875, 870, 879, 883, 887, 891, 386, 54, 51, 649]
theorem rx_c0 : rx_cwd 0 ∈ lw_tbl := List.mem_append_right _ (List.mem_append_left _ (List.mem_of_getElem? (i := 41) rfl))
theorem rx_c1 : rx_cwd 1 ∈ lw_tbl := List.mem_append_right _ (List.mem_append_right _ (List.mem_append_left _ (List.mem_of_getElem? (i := 8) rfl)))
theorem rx_c2 : rx_cwd 2 ∈ lw_tbl := List.mem_append_right _ (List.mem_append_right _ (List.mem_append_left _ (List.mem_of_getElem? (i := 12) rfl)))
theorem rx_c3 : rx_cwd 3 ∈ lw_tbl := List.mem_append_right _ (List.mem_append_right _ (List.mem_append_left _ (List.mem_of_getElem? (i := 4) rfl)))
theorem rx_c4 : rx_cwd 4 ∈ lw_tbl := List.mem_append_right _ (List.mem_append_right _ (List.mem_append_left _ (List.mem_of_getElem? (i := 192) rfl)))
theorem rx_c5 : rx_cwd 5 ∈ lw_tbl := List.mem_append_right _ (List.mem_append_right _ (List.mem_append_left _ (List.mem_of_getElem? (i := 196) rfl)))
theorem rx_c6 : rx_cwd 6 ∈ lw_tbl := List.mem_append_right _ (List.mem_append_right _ (List.mem_append_left _ (List.mem_of_getElem? (i := 204) rfl)))
theorem rx_c7 : rx_cwd 7 ∈ lw_tbl := List.mem_append_right _ (List.mem_append_right _ (List.mem_append_left _ (List.mem_of_getElem? (i := 209) rfl)))
theorem rx_c8 : rx_cwd 8 ∈ lw_tbl := List.mem_append_right _ (List.mem_append_right _ (List.mem_append_left _ (List.mem_of_getElem? (i := 218) rfl)))
theorem rx_c9 : rx_cwd 9 ∈ lw_tbl := List.mem_append_right _ (List.mem_append_right _ (List.mem_append_left _ (List.mem_of_getElem? (i := 16) rfl)))
theorem rx_c10 : rx_cwd 10 ∈ lw_tbl := List.mem_append_right _ (List.mem_append_right _ (List.mem_append_left _ (List.mem_of_getElem? (i := 133) rfl)))
theorem rx_c11 : rx_cwd 11 ∈ lw_tbl := List.mem_append_right _ (List.mem_append_left _ (List.mem_of_getElem? (i := 109) rfl))
theorem rx_c12 : rx_cwd 12 ∈ lw_tbl := List.mem_append_right _ (List.mem_append_right _ (List.mem_append_right _ (List.mem_append_left _ (List.mem_of_getElem? (i := 35) rfl))))
theorem rx_c13 : rx_cwd 13 ∈ lw_tbl := List.mem_append_right _ (List.mem_append_right _ (List.mem_append_right _ (List.mem_append_left _ (List.mem_of_getElem? (i := 39) rfl))))
theorem rx_c14 : rx_cwd 14 ∈ lw_tbl := List.mem_append_right _ (List.mem_append_right _ (List.mem_append_right _ (List.mem_append_left _ (List.mem_of_getElem? (i := 19) rfl))))
theorem rx_c15 : rx_cwd 15 ∈ lw_tbl := List.mem_append_right _ (List.mem_append_right _ (List.mem_append_right _ (List.mem_append_left _ (List.mem_of_getElem? (i := 23) rfl))))
theorem rx_c16 : rx_cwd 16 ∈ lw_tbl := List.mem_append_right _ (List.mem_append_left _ (List.mem_of_getElem? (i := 122) rfl))
theorem rx_c17 : rx_cwd 17 ∈ lw_tbl := List.mem_append_right _ (List.mem_append_right _ (List.mem_append_right _ (List.mem_append_left _ (List.mem_of_getElem? (i := 137) rfl))))
theorem rx_c18 : rx_cwd 18 ∈ lw_tbl := List.mem_append_right _ (List.mem_append_right _ (List.mem_append_right _ (List.mem_append_left _ (List.mem_of_getElem? (i := 116) rfl))))
theorem rx_c19 : rx_cwd 19 ∈ lw_tbl := List.mem_append_right _ (List.mem_append_right _ (List.mem_append_right _ (List.mem_append_left _ (List.mem_of_getElem? (i := 120) rfl))))
theorem rx_c20 : rx_cwd 20 ∈ lw_tbl := List.mem_append_right _ (List.mem_append_right _ (List.mem_append_right _ (List.mem_append_left _ (List.mem_of_getElem? (i := 125) rfl))))
theorem rx_c21 : rx_cwd 21 ∈ lw_tbl := List.mem_append_right _ (List.mem_append_right _ (List.mem_append_left _ (List.mem_of_getElem? (i := 0) rfl)))
theorem rx_c22 : rx_cwd 22 ∈ lw_tbl := List.mem_append_right _ (List.mem_append_left _ (List.mem_of_getElem? (i := 30) rfl))
theorem rx_c23 : rx_cwd 23 ∈ lw_tbl := List.mem_append_right _ (List.mem_append_right _ (List.mem_append_left _ (List.mem_of_getElem? (i := 73) rfl)))
theorem rx_c24 : rx_cwd 24 ∈ lw_tbl := List.mem_append_right _ (List.mem_append_right _ (List.mem_append_left _ (List.mem_of_getElem? (i := 36) rfl)))
theorem rx_c25 : rx_cwd 25 ∈ lw_tbl := List.mem_append_right _ (List.mem_append_right _ (List.mem_append_left _ (List.mem_of_getElem? (i := 162) rfl)))
theorem rx_c26 : rx_cwd 26 ∈ lw_tbl := List.mem_append_right _ (List.mem_append_right _ (List.mem_append_left _ (List.mem_of_getElem? (i := 69) rfl)))
theorem rx_c27 : rx_cwd 27 ∈ lw_tbl := List.mem_append_right _ (List.mem_append_right _ (List.mem_append_left _ (List.mem_of_getElem? (i := 65) rfl)))
theorem rx_c28 : rx_cwd 28 ∈ lw_tbl := List.mem_append_right _ (List.mem_append_right _ (List.mem_append_left _ (List.mem_of_getElem? (i := 121) rfl)))
theorem rx_c29 : rx_cwd 29 ∈ lw_tbl := List.mem_append_right _ (List.mem_append_right _ (List.mem_append_left _ (List.mem_of_getElem? (i := 20) rfl)))
theorem rx_c30 : rx_cwd 30 ∈ lw_tbl := List.mem_append_right _ (List.mem_append_left _ (List.mem_of_getElem? (i := 138) rfl))
theorem rx_c31 : rx_cwd 31 ∈ lw_tbl := List.mem_append_right _ (List.mem_append_right _ (List.mem_append_right _ (List.mem_append_left _ (List.mem_of_getElem? (i := 63) rfl))))
theorem rx_c32 : rx_cwd 32 ∈ lw_tbl := List.mem_append_right _ (List.mem_append_right _ (List.mem_append_right _ (List.mem_append_left _ (List.mem_of_getElem? (i := 98) rfl))))
theorem rx_c33 : rx_cwd 33 ∈ lw_tbl := List.mem_append_right _ (List.mem_append_right _ (List.mem_append_right _ (List.mem_append_left _ (List.mem_of_getElem? (i := 102) rfl))))
theorem rx_c34 : rx_cwd 34 ∈ lw_tbl := List.mem_append_right _ (List.mem_append_right _ (List.mem_append_right _ (List.mem_append_left _ (List.mem_of_getElem? (i := 106) rfl))))
theorem rx_c35 : rx_cwd 35 ∈ lw_tbl := List.mem_append_right _ (List.mem_append_right _ (List.mem_append_right _ (List.mem_append_left _ (List.mem_of_getElem? (i := 82) rfl))))
theorem rx_c36 : rx_cwd 36 ∈ lw_tbl := List.mem_append_right _ (List.mem_append_right _ (List.mem_append_right _ (List.mem_append_left _ (List.mem_of_getElem? (i := 56) rfl))))
theorem rx_c37 : rx_cwd 37 ∈ lw_tbl := List.mem_append_right _ (List.mem_append_right _ (List.mem_append_right _ (List.mem_append_left _ (List.mem_of_getElem? (i := 67) rfl))))
theorem rx_c38 : rx_cwd 38 ∈ lw_tbl := List.mem_append_right _ (List.mem_append_right _ (List.mem_append_right _ (List.mem_append_left _ (List.mem_of_getElem? (i := 71) rfl))))
theorem rx_c39 : rx_cwd 39 ∈ lw_tbl := List.mem_append_right _ (List.mem_append_right _ (List.mem_append_right _ (List.mem_append_left _ (List.mem_of_getElem? (i := 78) rfl))))
theorem rx_c40 : rx_cwd 40 ∈ lw_tbl := List.mem_append_right _ (List.mem_append_right _ (List.mem_append_right _ (List.mem_append_left _ (List.mem_of_getElem? (i := 90) rfl))))
theorem rx_c41 : rx_cwd 41 ∈ lw_tbl := List.mem_append_right _ (List.mem_append_right _ (List.mem_append_right _ (List.mem_append_left _ (List.mem_of_getElem? (i := 60) rfl))))
theorem rx_c42 : rx_cwd 42 ∈ lw_tbl := List.mem_append_right _ (List.mem_append_left _ (List.mem_of_getElem? (i := 59) rfl))
theorem rx_c43 : rx_cwd 43 ∈ lw_tbl := List.mem_append_right _ (List.mem_append_right _ (List.mem_append_left _ (List.mem_of_getElem? (i := 184) rfl)))
theorem rx_c44 : rx_cwd 44 ∈ lw_tbl := List.mem_append_right _ (List.mem_append_right _ (List.mem_append_left _ (List.mem_of_getElem? (i := 175) rfl)))
theorem rx_c45 : rx_cwd 45 ∈ lw_tbl := List.mem_append_right _ (List.mem_append_right _ (List.mem_append_right _ (List.mem_append_left _ (List.mem_of_getElem? (i := 11) rfl))))
theorem rx_c46 : rx_cwd 46 ∈ lw_tbl := List.mem_append_right _ (List.mem_append_right _ (List.mem_append_left _ (List.mem_of_getElem? (i := 179) rfl)))
theorem rx_c47 : rx_cwd 47 ∈ lw_tbl := List.mem_append_right _ (List.mem_append_left _ (List.mem_of_getElem? (i := 236) rfl))
theorem rx_c48 : rx_cwd 48 ∈ lw_tbl := List.mem_append_right _ (List.mem_append_left _ (List.mem_of_getElem? (i := 93) rfl))
theorem rx_c49 : rx_cwd 49 ∈ lw_tbl := List.mem_append_right _ (List.mem_append_right _ (List.mem_append_left _ (List.mem_of_getElem? (i := 110) rfl)))
theorem rx_c50 : rx_cwd 50 ∈ lw_tbl := List.mem_append_right _ (List.mem_append_left _ (List.mem_of_getElem? (i := 220) rfl))
theorem rx_c51 : rx_cwd 51 ∈ lw_tbl := List.mem_append_right _ (List.mem_append_right _ (List.mem_append_right _ (List.mem_append_left _ (List.mem_of_getElem? (i := 133) rfl))))
theorem rx_c52 : rx_cwd 52 ∈ lw_tbl := List.mem_append_right _ (List.mem_append_right _ (List.mem_append_left _ (List.mem_of_getElem? (i := 114) rfl)))
theorem rx_c53 : rx_cwd 53 ∈ lw_tbl := List.mem_append_right _ (List.mem_append_right _ (List.mem_append_left _ (List.mem_of_getElem? (i := 150) rfl)))
theorem rx_c54 : rx_cwd 54 ∈ lw_tbl := List.mem_append_right _ (List.mem_append_left _ (List.mem_of_getElem? (i := 73) rfl))
theorem rx_c55 : rx_cwd 55 ∈ lw_tbl := List.mem_append_right _ (List.mem_append_right _ (List.mem_append_left _ (List.mem_of_getElem? (i := 49) rfl)))
theorem rx_c56 : rx_cwd 56 ∈ lw_tbl := List.mem_append_right _ (List.mem_append_right _ (List.mem_append_left _ (List.mem_of_getElem? (i := 32) rfl)))
theorem rx_c57 : rx_cwd 57 ∈ lw_tbl := List.mem_append_right _ (List.mem_append_right _ (List.mem_append_left _ (List.mem_of_getElem? (i := 57) rfl)))
theorem rx_c58 : rx_cwd 58 ∈ lw_tbl := List.mem_append_right _ (List.mem_append_right _ (List.mem_append_left _ (List.mem_of_getElem? (i := 61) rfl)))
theorem rx_c59 : rx_cwd 59 ∈ lw_tbl := List.mem_append_right _ (List.mem_append_right _ (List.mem_append_left _ (List.mem_of_getElem? (i := 53) rfl)))
theorem rx_c60 : rx_cwd 60 ∈ lw_tbl := List.mem_append_right _ (List.mem_append_right _ (List.mem_append_left _ (List.mem_of_getElem? (i := 40) rfl)))
theorem rx_c61 : rx_cwd 61 ∈ lw_tbl := List.mem_append_right _ (List.mem_append_right _ (List.mem_append_left _ (List.mem_of_getElem? (i := 77) rfl)))
theorem rx_c62 : rx_cwd 62 ∈ lw_tbl := List.mem_append_right _ (List.mem_append_right _ (List.mem_append_left _ (List.mem_of_getElem? (i := 102) rfl)))
theorem rx_c63 : rx_cwd 63 ∈ lw_tbl := List.mem_append_right _ (List.mem_append_left _ (List.mem_of_getElem? (i := 16) rfl))
theorem rx_c64 : rx_cwd 64 ∈ lw_tbl := List.mem_append_right _ (List.mem_append_left _ (List.mem_of_getElem? (i := 212) rfl))
theorem rx_c65 : rx_cwd 65 ∈ lw_tbl := List.mem_append_right _ (List.mem_append_right _ (List.mem_append_left _ (List.mem_of_getElem? (i := 89) rfl)))
theorem rx_c66 : rx_cwd 66 ∈ lw_tbl := List.mem_append_right _ (List.mem_append_right _ (List.mem_append_left _ (List.mem_of_getElem? (i := 137) rfl)))
theorem rx_c67 : rx_cwd 67 ∈ lw_tbl := List.mem_append_right _ (List.mem_append_right _ (List.mem_append_left _ (List.mem_of_getElem? (i := 141) rfl)))
theorem rx_c68 : rx_cwd 68 ∈ lw_tbl := List.mem_append_right _ (List.mem_append_right _ (List.mem_append_left _ (List.mem_of_getElem? (i := 146) rfl)))
theorem rx_c69 : rx_cwd 69 ∈ lw_tbl := List.mem_append_right _ (List.mem_append_right _ (List.mem_append_left _ (List.mem_of_getElem? (i := 154) rfl)))
theorem rx_c70 : rx_cwd 70 ∈ lw_tbl := List.mem_append_right _ (List.mem_append_right _ (List.mem_append_left _ (List.mem_of_getElem? (i := 158) rfl)))
theorem rx_c71 : rx_cwd 71 ∈ lw_tbl := List.mem_append_right _ (List.mem_append_right _ (List.mem_append_left _ (List.mem_of_getElem? (i := 166) rfl)))
theorem rx_c72 : rx_cwd 72 ∈ lw_tbl := List.mem_append_right _ (List.mem_append_right _ (List.mem_append_left _ (List.mem_of_getElem? (i := 170) rfl)))
theorem rx_c73 : rx_cwd 73 ∈ lw_tbl := List.mem_append_right _ (List.mem_append_right _ (List.mem_append_left _ (List.mem_of_getElem? (i := 188) rfl)))
theorem rx_c74 : rx_cwd 74 ∈ lw_tbl := List.mem_append_right _ (List.mem_append_right _ (List.mem_append_left _ (List.mem_of_getElem? (i := 200) rfl)))
theorem rx_c75 : rx_cwd 75 ∈ lw_tbl := List.mem_append_right _ (List.mem_append_right _ (List.mem_append_left _ (List.mem_of_getElem? (i := 214) rfl)))
theorem rx_c76 : rx_cwd 76 ∈ lw_tbl := List.mem_append_right _ (List.mem_append_right _ (List.mem_append_left _ (List.mem_of_getElem? (i := 223) rfl)))
theorem rx_c77 : rx_cwd 77 ∈ lw_tbl := List.mem_append_right _ (List.mem_append_right _ (List.mem_append_left _ (List.mem_of_getElem? (i := 227) rfl)))
theorem rx_c78 : rx_cwd 78 ∈ lw_tbl := List.mem_append_right _ (List.mem_append_right _ (List.mem_append_left _ (List.mem_of_getElem? (i := 235) rfl)))
theorem rx_c79 : rx_cwd 79 ∈ lw_tbl := List.mem_append_right _ (List.mem_append_right _ (List.mem_append_left _ (List.mem_of_getElem? (i := 239) rfl)))
theorem rx_c80 : rx_cwd 80 ∈ lw_tbl := List.mem_append_right _ (List.mem_append_right _ (List.mem_append_right _ (List.mem_append_left _ (List.mem_of_getElem? (i := 3) rfl))))
theorem rx_c81 : rx_cwd 81 ∈ lw_tbl := List.mem_append_right _ (List.mem_append_right _ (List.mem_append_right _ (List.mem_append_left _ (List.mem_of_getElem? (i := 47) rfl))))
theorem rx_c82 : rx_cwd 82 ∈ lw_tbl := List.mem_append_right _ (List.mem_append_right _ (List.mem_append_right _ (List.mem_append_left _ (List.mem_of_getElem? (i := 51) rfl))))
theorem rx_c83 : rx_cwd 83 ∈ lw_tbl := List.mem_append_right _ (List.mem_append_right _ (List.mem_append_right _ (List.mem_append_left _ (List.mem_of_getElem? (i := 86) rfl))))
theorem rx_c84 : rx_cwd 84 ∈ lw_tbl := List.mem_append_right _ (List.mem_append_right _ (List.mem_append_right _ (List.mem_append_left _ (List.mem_of_getElem? (i := 94) rfl))))
theorem rx_c85 : rx_cwd 85 ∈ lw_tbl := List.mem_append_right _ (List.mem_append_right _ (List.mem_append_right _ (List.mem_append_left _ (List.mem_of_getElem? (i := 112) rfl))))
theorem rx_c86 : rx_cwd 86 ∈ lw_tbl := List.mem_append_right _ (List.mem_append_right _ (List.mem_append_right _ (List.mem_append_left _ (List.mem_of_getElem? (i := 129) rfl))))
theorem rx_c87 : rx_cwd 87 ∈ lw_tbl := List.mem_append_right _ (List.mem_append_left _ (List.mem_of_getElem? (i := 216) rfl))
theorem rx_c88 : rx_cwd 88 ∈ lw_tbl := List.mem_append_right _ (List.mem_append_left _ (List.mem_of_getElem? (i := 224) rfl))
theorem rx_c89 : rx_cwd 89 ∈ lw_tbl := List.mem_append_right _ (List.mem_append_right _ (List.mem_append_left _ (List.mem_of_getElem? (i := 24) rfl)))
theorem rx_c90 : rx_cwd 90 ∈ lw_tbl := List.mem_append_right _ (List.mem_append_right _ (List.mem_append_left _ (List.mem_of_getElem? (i := 28) rfl)))
theorem rx_c91 : rx_cwd 91 ∈ lw_tbl := List.mem_append_right _ (List.mem_append_right _ (List.mem_append_left _ (List.mem_of_getElem? (i := 45) rfl)))
theorem rx_c92 : rx_cwd 92 ∈ lw_tbl := List.mem_append_right _ (List.mem_append_right _ (List.mem_append_left _ (List.mem_of_getElem? (i := 81) rfl)))
theorem rx_c93 : rx_cwd 93 ∈ lw_tbl := List.mem_append_right _ (List.mem_append_right _ (List.mem_append_left _ (List.mem_of_getElem? (i := 85) rfl)))
theorem rx_c94 : rx_cwd 94 ∈ lw_tbl := List.mem_append_right _ (List.mem_append_left _ (List.mem_of_getElem? (i := 232) rfl))
theorem rx_c95 : rx_cwd 95 ∈ lw_tbl := List.mem_append_right _ (List.mem_append_left _ (List.mem_of_getElem? (i := 228) rfl))
theorem rx_c96 : rx_cwd 96 ∈ lw_tbl := List.mem_append_right _ (List.mem_append_right _ (List.mem_append_left _ (List.mem_of_getElem? (i := 231) rfl)))
theorem rx_c97 : rx_cwd 97 ∈ lw_tbl := List.mem_append_right _ (List.mem_append_right _ (List.mem_append_left _ (List.mem_of_getElem? (i := 92) rfl)))
theorem rx_c98 : rx_cwd 98 ∈ lw_tbl := List.mem_append_right _ (List.mem_append_right _ (List.mem_append_left _ (List.mem_of_getElem? (i := 96) rfl)))
theorem rx_c99 : rx_cwd 99 ∈ lw_tbl := List.mem_append_right _ (List.mem_append_right _ (List.mem_append_left _ (List.mem_of_getElem? (i := 106) rfl)))
theorem rx_c100 : rx_cwd 100 ∈ lw_tbl := List.mem_append_right _ (List.mem_append_right _ (List.mem_append_left _ (List.mem_of_getElem? (i := 125) rfl)))
theorem rx_c101 : rx_cwd 101 ∈ lw_tbl := List.mem_append_right _ (List.mem_append_right _ (List.mem_append_right _ (List.mem_append_left _ (List.mem_of_getElem? (i := 43) rfl))))
theorem rx_c102 : rx_cwd 102 ∈ lw_tbl := List.mem_append_right _ (List.mem_append_right _ (List.mem_append_left _ (List.mem_of_getElem? (i := 129) rfl)))
theorem rx_c103 : rx_cwd 103 ∈ lw_tbl := List.mem_append_right _ (List.mem_append_right _ (List.mem_append_right _ (List.mem_append_left _ (List.mem_of_getElem? (i := 7) rfl))))
theorem rx_c104 : rx_cwd 104 ∈ lw_tbl := List.mem_append_right _ (List.mem_append_right _ (List.mem_append_right _ (List.mem_append_left _ (List.mem_of_getElem? (i := 15) rfl))))
theorem rx_c105 : rx_cwd 105 ∈ lw_tbl := List.mem_append_right _ (List.mem_append_right _ (List.mem_append_right _ (List.mem_append_left _ (List.mem_of_getElem? (i := 27) rfl))))
theorem rx_c106 : rx_cwd 106 ∈ lw_tbl := List.mem_append_right _ (List.mem_append_right _ (List.mem_append_right _ (List.mem_append_left _ (List.mem_of_getElem? (i := 31) rfl))))
theorem rx_c107 : rx_cwd 107 ∈ lw_tbl := List.mem_append_right _ (List.mem_append_right _ (List.mem_append_right _ (List.mem_append_left _ (List.mem_of_getElem? (i := 145) rfl))))
theorem rx_c108 : rx_cwd 108 ∈ lw_tbl := List.mem_append_right _ (List.mem_append_right _ (List.mem_append_right _ (List.mem_append_right _ (List.mem_of_getElem? (i := 10) rfl))))
theorem rx_c109 : rx_cwd 109 ∈ lw_tbl := List.mem_append_right _ (List.mem_append_right _ (List.mem_append_right _ (List.mem_append_right _ (List.mem_of_getElem? (i := 41) rfl))))
theorem rx_c110 : rx_cwd 110 ∈ lw_tbl := List.mem_append_right _ (List.mem_append_right _ (List.mem_append_right _ (List.mem_append_right _ (List.mem_of_getElem? (i := 22) rfl))))
theorem rx_c111 : rx_cwd 111 ∈ lw_tbl := List.mem_append_right _ (List.mem_append_right _ (List.mem_append_right _ (List.mem_append_right _ (List.mem_of_getElem? (i := 18) rfl))))
theorem rx_c112 : rx_cwd 112 ∈ lw_tbl := List.mem_append_right _ (List.mem_append_right _ (List.mem_append_right _ (List.mem_append_right _ (List.mem_of_getElem? (i := 26) rfl))))
theorem rx_c113 : rx_cwd 113 ∈ lw_tbl := List.mem_append_right _ (List.mem_append_right _ (List.mem_append_right _ (List.mem_append_right _ (List.mem_of_getElem? (i := 49) rfl))))
theorem rx_c114 : rx_cwd 114 ∈ lw_tbl := List.mem_append_right _ (List.mem_append_right _ (List.mem_append_right _ (List.mem_append_right _ (List.mem_of_getElem? (i := 14) rfl))))
theorem rx_c115 : rx_cwd 115 ∈ lw_tbl := List.mem_append_right _ (List.mem_append_right _ (List.mem_append_right _ (List.mem_append_right _ (List.mem_of_getElem? (i := 7) rfl))))
theorem rx_c116 : rx_cwd 116 ∈ lw_tbl := List.mem_append_right _ (List.mem_append_right _ (List.mem_append_right _ (List.mem_append_right _ (List.mem_of_getElem? (i := 30) rfl))))
theorem rx_c117 : rx_cwd 117 ∈ lw_tbl := List.mem_append_right _ (List.mem_append_right _ (List.mem_append_right _ (List.mem_append_right _ (List.mem_of_getElem? (i := 34) rfl))))
theorem rx_c118 : rx_cwd 118 ∈ lw_tbl := List.mem_append_right _ (List.mem_append_right _ (List.mem_append_right _ (List.mem_append_right _ (List.mem_of_getElem? (i := 45) rfl))))
theorem rx_c119 : rx_cwd 119 ∈ lw_tbl := List.mem_append_right _ (List.mem_append_right _ (List.mem_append_right _ (List.mem_append_right _ (List.mem_of_getElem? (i := 38) rfl))))
theorem rx_c120 : rx_cwd 120 ∈ lw_tbl := List.mem_append_right _ (List.mem_append_right _ (List.mem_append_right _ (List.mem_append_right _ (List.mem_of_getElem? (i := 53) rfl))))
theorem rx_c121 : rx_cwd 121 ∈ lw_tbl := List.mem_append_right _ (List.mem_append_right _ (List.mem_append_right _ (List.mem_append_right _ (List.mem_of_getElem? (i := 57) rfl))))
theorem rx_c122 : rx_cwd 122 ∈ lw_tbl := List.mem_append_right _ (List.mem_append_right _ (List.mem_append_right _ (List.mem_append_right _ (List.mem_of_getElem? (i := 61) rfl))))
theorem rx_c123 : rx_cwd 123 ∈ lw_tbl := List.mem_append_right _ (List.mem_append_right _ (List.mem_append_right _ (List.mem_append_right _ (List.mem_of_getElem? (i := 65) rfl))))
theorem rx_c124 : rx_cwd 124 ∈ lw_tbl := List.mem_append_right _ (List.mem_append_right _ (List.mem_append_right _ (List.mem_append_right _ (List.mem_of_getElem? (i := 69) rfl))))
theorem rx_c125 : rx_cwd 125 ∈ lw_tbl := List.mem_append_right _ (List.mem_append_right _ (List.mem_append_right _ (List.mem_append_right _ (List.mem_of_getElem? (i := 73) rfl))))
theorem rx_c126 : rx_cwd 126 ∈ lw_tbl := List.mem_append_right _ (List.mem_append_right _ (List.mem_append_right _ (List.mem_append_right _ (List.mem_of_getElem? (i := 77) rfl))))
theorem rx_c127 : rx_cwd 127 ∈ lw_tbl := List.mem_append_right _ (List.mem_append_right _ (List.mem_append_right _ (List.mem_append_right _ (List.mem_of_getElem? (i := 81) rfl))))
theorem rx_c128 : rx_cwd 128 ∈ lw_tbl := List.mem_append_right _ (List.mem_append_right _ (List.mem_append_right _ (List.mem_append_right _ (List.mem_of_getElem? (i := 85) rfl))))
theorem rx_c129 : rx_cwd 129 ∈ lw_tbl := List.mem_append_right _ (List.mem_append_right _ (List.mem_append_right _ (List.mem_append_right _ (List.mem_of_getElem? (i := 89) rfl))))
theorem rx_c130 : rx_cwd 130 ∈ lw_tbl := List.mem_append_right _ (List.mem_append_right _ (List.mem_append_right _ (List.mem_append_right _ (List.mem_of_getElem? (i := 96) rfl))))
theorem rx_c131 : rx_cwd 131 ∈ lw_tbl := List.mem_append_right _ (List.mem_append_right _ (List.mem_append_right _ (List.mem_append_right _ (List.mem_of_getElem? (i := 93) rfl))))
theorem rx_c132 : rx_cwd 132 ∈ lw_tbl := List.mem_append_right _ (List.mem_append_right _ (List.mem_append_right _ (List.mem_append_right _ (List.mem_of_getElem? (i := 101) rfl))))
theorem rx_c133 : rx_cwd 133 ∈ lw_tbl := List.mem_append_right _ (List.mem_append_right _ (List.mem_append_right _ (List.mem_append_right _ (List.mem_of_getElem? (i := 105) rfl))))
theorem rx_c134 : rx_cwd 134 ∈ lw_tbl := List.mem_append_right _ (List.mem_append_right _ (List.mem_append_right _ (List.mem_append_right _ (List.mem_of_getElem? (i := 109) rfl))))
theorem rx_c135 : rx_cwd 135 ∈ lw_tbl := List.mem_append_right _ (List.mem_append_right _ (List.mem_append_right _ (List.mem_append_right _ (List.mem_of_getElem? (i := 113) rfl))))
theorem rx_c136 : rx_cwd 136 ∈ lw_tbl := List.mem_append_right _ (List.mem_append_right _ (List.mem_append_right _ (List.mem_append_right _ (List.mem_of_getElem? (i := 117) rfl))))
theorem rx_c137 : rx_cwd 137 ∈ lw_tbl := List.mem_append_right _ (List.mem_append_right _ (List.mem_append_right _ (List.mem_append_right _ (List.mem_of_getElem? (i := 126) rfl))))
theorem rx_c138 : rx_cwd 138 ∈ lw_tbl := List.mem_append_right _ (List.mem_append_right _ (List.mem_append_right _ (List.mem_append_right _ (List.mem_of_getElem? (i := 121) rfl))))
theorem rx_c139 : rx_cwd 139 ∈ lw_tbl := List.mem_append_right _ (List.mem_append_right _ (List.mem_append_right _ (List.mem_append_right _ (List.mem_of_getElem? (i := 130) rfl))))
theorem rx_c140 : rx_cwd 140 ∈ lw_tbl := List.mem_append_right _ (List.mem_append_right _ (List.mem_append_right _ (List.mem_append_right _ (List.mem_of_getElem? (i := 134) rfl))))
theorem rx_c141 : rx_cwd 141 ∈ lw_tbl := List.mem_append_right _ (List.mem_append_right _ (List.mem_append_right _ (List.mem_append_right _ (List.mem_of_getElem? (i := 138) rfl))))
theorem rx_c142 : rx_cwd 142 ∈ lw_tbl := List.mem_append_right _ (List.mem_append_right _ (List.mem_append_right _ (List.mem_append_right _ (List.mem_of_getElem? (i := 142) rfl))))
theorem rx_c143 : rx_cwd 143 ∈ lw_tbl := List.mem_append_right _ (List.mem_append_right _ (List.mem_append_left _ (List.mem_of_getElem? (i := 117) rfl)))
theorem rx_c144 : rx_cwd 144 ∈ lw_tbl := List.mem_append_right _ (List.mem_append_left _ (List.mem_of_getElem? (i := 25) rfl))
theorem rx_c145 : rx_cwd 145 ∈ lw_tbl := List.mem_append_right _ (List.mem_append_left _ (List.mem_of_getElem? (i := 22) rfl))
theorem rx_c146 : rx_cwd 146 ∈ lw_tbl := List.mem_append_right _ (List.mem_append_right _ (List.mem_append_right _ (List.mem_append_left _ (List.mem_of_getElem? (i := 140) rfl))))
theorem rx_call : ∀ i, i < 147 → rx_cwd i ∈ lw_tbl := by
  intro i hi
  match i, hi with
  | 0, _ => exact rx_c0
  | 1, _ => exact rx_c1
  | 2, _ => exact rx_c2
  | 3, _ => exact rx_c3
  | 4, _ => exact rx_c4
  | 5, _ => exact rx_c5
  | 6, _ => exact rx_c6
  | 7, _ => exact rx_c7
  | 8, _ => exact rx_c8
  | 9, _ => exact rx_c9
  | 10, _ => exact rx_c10
  | 11, _ => exact rx_c11
  | 12, _ => exact rx_c12
  | 13, _ => exact rx_c13
  | 14, _ => exact rx_c14
  | 15, _ => exact rx_c15
  | 16, _ => exact rx_c16
  | 17, _ => exact rx_c17
  | 18, _ => exact rx_c18
  | 19, _ => exact rx_c19
  | 20, _ => exact rx_c20
  | 21, _ => exact rx_c21
  | 22, _ => exact rx_c22
  | 23, _ => exact rx_c23
  | 24, _ => exact rx_c24
  | 25, _ => exact rx_c25
  | 26, _ => exact rx_c26
  | 27, _ => exact rx_c27
  | 28, _ => exact rx_c28
  | 29, _ => exact rx_c29
  | 30, _ => exact rx_c30
  | 31, _ => exact rx_c31
  | 32, _ => exact rx_c32
  | 33, _ => exact rx_c33
  | 34, _ => exact rx_c34
  | 35, _ => exact rx_c35
  | 36, _ => exact rx_c36
  | 37, _ => exact rx_c37
  | 38, _ => exact rx_c38
  | 39, _ => exact rx_c39
  | 40, _ => exact rx_c40
  | 41, _ => exact rx_c41
  | 42, _ => exact rx_c42
  | 43, _ => exact rx_c43
  | 44, _ => exact rx_c44
  | 45, _ => exact rx_c45
  | 46, _ => exact rx_c46
  | 47, _ => exact rx_c47
  | 48, _ => exact rx_c48
  | 49, _ => exact rx_c49
  | 50, _ => exact rx_c50
  | 51, _ => exact rx_c51
  | 52, _ => exact rx_c52
  | 53, _ => exact rx_c53
  | 54, _ => exact rx_c54
  | 55, _ => exact rx_c55
  | 56, _ => exact rx_c56
  | 57, _ => exact rx_c57
  | 58, _ => exact rx_c58
  | 59, _ => exact rx_c59
  | 60, _ => exact rx_c60
  | 61, _ => exact rx_c61
  | 62, _ => exact rx_c62
  | 63, _ => exact rx_c63
  | 64, _ => exact rx_c64
  | 65, _ => exact rx_c65
  | 66, _ => exact rx_c66
  | 67, _ => exact rx_c67
  | 68, _ => exact rx_c68
  | 69, _ => exact rx_c69
  | 70, _ => exact rx_c70
  | 71, _ => exact rx_c71
  | 72, _ => exact rx_c72
  | 73, _ => exact rx_c73
  | 74, _ => exact rx_c74
  | 75, _ => exact rx_c75
  | 76, _ => exact rx_c76
  | 77, _ => exact rx_c77
  | 78, _ => exact rx_c78
  | 79, _ => exact rx_c79
  | 80, _ => exact rx_c80
  | 81, _ => exact rx_c81
  | 82, _ => exact rx_c82
  | 83, _ => exact rx_c83
  | 84, _ => exact rx_c84
  | 85, _ => exact rx_c85
  | 86, _ => exact rx_c86
  | 87, _ => exact rx_c87
  | 88, _ => exact rx_c88
  | 89, _ => exact rx_c89
  | 90, _ => exact rx_c90
  | 91, _ => exact rx_c91
  | 92, _ => exact rx_c92
  | 93, _ => exact rx_c93
  | 94, _ => exact rx_c94
  | 95, _ => exact rx_c95
  | 96, _ => exact rx_c96
  | 97, _ => exact rx_c97
  | 98, _ => exact rx_c98
  | 99, _ => exact rx_c99
  | 100, _ => exact rx_c100
  | 101, _ => exact rx_c101
  | 102, _ => exact rx_c102
  | 103, _ => exact rx_c103
  | 104, _ => exact rx_c104
  | 105, _ => exact rx_c105
  | 106, _ => exact rx_c106
  | 107, _ => exact rx_c107
  | 108, _ => exact rx_c108
  | 109, _ => exact rx_c109
  | 110, _ => exact rx_c110
  | 111, _ => exact rx_c111
  | 112, _ => exact rx_c112
  | 113, _ => exact rx_c113
  | 114, _ => exact rx_c114
  | 115, _ => exact rx_c115
  | 116, _ => exact rx_c116
  | 117, _ => exact rx_c117
  | 118, _ => exact rx_c118
  | 119, _ => exact rx_c119
  | 120, _ => exact rx_c120
  | 121, _ => exact rx_c121
  | 122, _ => exact rx_c122
  | 123, _ => exact rx_c123
  | 124, _ => exact rx_c124
  | 125, _ => exact rx_c125
  | 126, _ => exact rx_c126
  | 127, _ => exact rx_c127
  | 128, _ => exact rx_c128
  | 129, _ => exact rx_c129
  | 130, _ => exact rx_c130
  | 131, _ => exact rx_c131
  | 132, _ => exact rx_c132
  | 133, _ => exact rx_c133
  | 134, _ => exact rx_c134
  | 135, _ => exact rx_c135
  | 136, _ => exact rx_c136
  | 137, _ => exact rx_c137
  | 138, _ => exact rx_c138
  | 139, _ => exact rx_c139
  | 140, _ => exact rx_c140
  | 141, _ => exact rx_c141
  | 142, _ => exact rx_c142
  | 143, _ => exact rx_c143
  | 144, _ => exact rx_c144
  | 145, _ => exact rx_c145
  | 146, _ => exact rx_c146
  | k + 147, h => exact absurd h (by omega)
set_option maxRecDepth 100000 in
theorem rx_fok : rx_fl.map rx_fwd = rx_fps.filterMap (fun k => lw_tbl[k]?) := by decide +kernel
set_option maxRecDepth 100000 in
theorem rx_mok : rx_mll.map rx_mwd = rx_mps.filterMap (fun k => lw_tbl[k]?) := by decide +kernel
set_option maxRecDepth 100000 in
theorem rx_nok : rx_nl.map rx_nwd = rx_nps.filterMap (fun k => lw_tbl[k]?) := by decide +kernel
set_option maxRecDepth 100000 in
theorem rx_kok : rx_kl.map rx_kwd = rx_kps.filterMap (fun k => lw_tbl[k]?) := by decide +kernel
set_option maxRecDepth 100000 in
theorem rx_k2ok : rx_k2.map rx_k2wd = rx_k2ps.filterMap (fun k => lw_tbl[k]?) := by decide +kernel
theorem rx_mem {ws : List Cond} {ps : List Nat} (h : ws = ps.filterMap (fun k => lw_tbl[k]?)) : ∀ w ∈ ws, w ∈ lw_tbl := by
  intro w hw
  rw [h] at hw
  obtain ⟨i, -, hi⟩ := List.mem_filterMap.mp hw
  exact List.mem_of_getElem? hi
end
section
/-! THE MACHINE OF POSITIONS: the methods' own bytecode over a list of cells (a reference is a place in the list; the script is .retAddr), as a function: no state, no tables of the machine. Its soundness over the machine stands in the next part. -/
abbrev rx_H : Type := List va_E
abbrev rx_L : Type := List (Option Value)
abbrev rx_C : Type := Nat × Nat × rx_L × List Value × rx_H × Nat × Nat
abbrev rx_O : Type := Option Value × rx_H
abbrev rx_S : Type := Nat × (Nat → Int32)
abbrev rx_R : Type := Option (rx_C ⊕ (rx_O ⊕ (rx_C × (rx_O → Option rx_C))))
/-- the fuelled run of a one-step function -/
def rx_run (stp : rx_C → rx_R) : Nat → rx_C → Option rx_O
  | 0, _ => none
  | n + 1, c => match stp c with
    | none => none
    | some (.inl c2) => rx_run stp n c2
    | some (.inr (.inl r)) => some r
    | some (.inr (.inr (cj, k))) => match rx_run stp n cj with
      | none => none
      | some r => match k r with
        | none => none
        | some c2 => rx_run stp n c2
theorem rx_mono1 {stp : rx_C → rx_R} : ∀ (n : Nat) (c : rx_C) (r : rx_O), rx_run stp n c = some r → rx_run stp (n + 1) c = some r
  | 0, _, _, h => by cases h
  | n + 1, c, r, h => by
    unfold rx_run at h ⊢
    cases hs : stp c with
    | none => rw [hs] at h; cases h
    | some q =>
      rw [hs] at h
      rcases q with c2 | r2 | ⟨cj, k⟩
      · exact rx_mono1 n c2 r h
      · exact h
      · dsimp only at h ⊢
        cases hj : rx_run stp n cj with
        | none => rw [hj] at h; cases h
        | some rj =>
          rw [hj] at h
          rw [rx_mono1 n cj rj hj]
          dsimp only at h ⊢
          cases hk : k rj with
          | none => rw [hk] at h; cases h
          | some c2 => rw [hk] at h; exact rx_mono1 n c2 r h
theorem rx_mono {stp : rx_C → rx_R} {n m : Nat} {c : rx_C} {r : rx_O} (hnm : n ≤ m) (h : rx_run stp n c = some r) : rx_run stp m c = some r := by
  induction hnm with
  | refl => exact h
  | step _ ih => exact rx_mono1 _ _ _ ih
theorem rx_det {stp : rx_C → rx_R} {n m : Nat} {c : rx_C} {r q : rx_O} (h : rx_run stp n c = some r) (h2 : rx_run stp m c = some q) : r = q := by
  have a := rx_mono (Nat.le_max_left n m) h
  have b := rx_mono (Nat.le_max_right n m) h2
  exact Option.some.inj (a.symm.trans b)
/-- the value of a point: what its run answers, if it ends -/
noncomputable def rx_lim (stp : rx_C → rx_R) (c : rx_C) : Option rx_O := by
  classical
  exact if h : ∃ (r : rx_O) (n : Nat), rx_run stp n c = some r then some h.choose else none
theorem rx_lim_of {stp : rx_C → rx_R} {n : Nat} {c : rx_C} {r : rx_O} (h : rx_run stp n c = some r) : rx_lim stp c = some r := by
  have hx : ∃ (r : rx_O) (n : Nat), rx_run stp n c = some r := ⟨r, n, h⟩
  unfold rx_lim
  rw [dif_pos hx]
  obtain ⟨m, hm⟩ := hx.choose_spec
  rw [rx_det hm h]
theorem rx_lim_to {stp : rx_C → rx_R} {c : rx_C} {r : rx_O} (h : rx_lim stp c = some r) : ∃ n, rx_run stp n c = some r := by
  unfold rx_lim at h
  by_cases hx : ∃ (r : rx_O) (n : Nat), rx_run stp n c = some r
  · rw [dif_pos hx] at h
    obtain ⟨m, hm⟩ := hx.choose_spec
    exact ⟨m, by rw [hm, ← h]⟩
  · rw [dif_neg hx] at h
    cases h
theorem rx_lim_ext {stp : rx_C → rx_R} {c : rx_C} {o : Option rx_O} (h : ∀ r, (∃ n, rx_run stp n c = some r) ↔ o = some r) : rx_lim stp c = o := by
  cases o with
  | some r => exact rx_lim_of ((h r).mpr rfl).choose_spec
  | none =>
    cases hl : rx_lim stp c with
    | none => rfl
    | some r => exact absurd ((h r).mp (rx_lim_to hl)) (by simp)
theorem rx_lim_next {stp : rx_C → rx_R} {c c2 : rx_C} (h : stp c = some (.inl c2)) : rx_lim stp c = rx_lim stp c2 := by
  refine rx_lim_ext fun r => ⟨fun ⟨n, hn⟩ => ?_, fun hr => ?_⟩
  · cases n with
    | zero => cases hn
    | succ n =>
      unfold rx_run at hn
      rw [h] at hn
      exact rx_lim_of hn
  · obtain ⟨n, hn⟩ := rx_lim_to hr
    refine ⟨n + 1, ?_⟩
    unfold rx_run
    rw [h]
    exact hn
theorem rx_lim_ret {stp : rx_C → rx_R} {c : rx_C} {r : rx_O} (h : stp c = some (.inr (.inl r))) : rx_lim stp c = some r := by
  refine rx_lim_of (n := 1) ?_
  unfold rx_run
  rw [h]
theorem rx_lim_stuck {stp : rx_C → rx_R} {c : rx_C} (h : stp c = none) : rx_lim stp c = none := by
  refine rx_lim_ext fun r => ⟨fun ⟨n, hn⟩ => ?_, fun hr => by cases hr⟩
  cases n with
  | zero => cases hn
  | succ n =>
    unfold rx_run at hn
    rw [h] at hn
    cases hn
theorem rx_lim_call {stp : rx_C → rx_R} {c cj : rx_C} {k : rx_O → Option rx_C} (h : stp c = some (.inr (.inr (cj, k)))) : rx_lim stp c = (rx_lim stp cj).bind (fun r => (k r).bind (rx_lim stp)) := by
  refine rx_lim_ext fun r => ⟨fun ⟨n, hn⟩ => ?_, fun hr => ?_⟩
  · cases n with
    | zero => cases hn
    | succ n =>
      unfold rx_run at hn
      rw [h] at hn
      dsimp only at hn
      cases hj : rx_run stp n cj with
      | none => rw [hj] at hn; cases hn
      | some rj =>
        rw [hj] at hn
        dsimp only at hn
        rw [rx_lim_of hj, Option.bind_some]
        cases hk : k rj with
        | none => rw [hk] at hn; cases hn
        | some c2 =>
          rw [hk] at hn
          rw [Option.bind_some]
          exact rx_lim_of hn
  · obtain ⟨rj, hj, h2⟩ := Option.bind_eq_some_iff.mp hr
    obtain ⟨c2, hk, h3⟩ := Option.bind_eq_some_iff.mp h2
    obtain ⟨n, hn⟩ := rx_lim_to hj
    obtain ⟨m, hm⟩ := rx_lim_to h3
    refine ⟨max n m + 1, ?_⟩
    unfold rx_run
    rw [h]
    dsimp only
    rw [rx_mono (Nat.le_max_left n m) hn]
    dsimp only
    rw [hk]
    exact rx_mono (Nat.le_max_right n m) hm
end
section
/-! one instruction of the machine of positions -/
def rx_p1 : List Value → Option (Int32 × List Value)
  | .int x :: r => some (x, r)
  | _ => none
def rx_p2 : List Value → Option (Int32 × Int32 × List Value)
  | .int y :: .int x :: r => some (x, y, r)
  | _ => none
def rx_pl : List Value → Option (Int64 × Int64 × List Value)
  | .long y :: .long x :: r => some (x, y, r)
  | _ => none
def rx_pr : List Value → Option (Nat × List Value)
  | .ref k :: r => some (k, r)
  | _ => none
/-- a value over a reference (putfield) -/
def rx_pv : List Value → Option (Value × Nat × List Value)
  | v :: .ref k :: r => some (v, k, r)
  | _ => none
/-- an index over an array; none: over the script -/
def rx_pa : List Value → Option (Int32 × Option Nat × List Value)
  | .int i :: .ref k :: r => some (i, some k, r)
  | .int i :: .retAddr _ :: r => some (i, none, r)
  | _ => none
/-- a value to store, its index, the array -/
def rx_ps : List Value → Option (Int32 × Int32 × Nat × List Value)
  | .int x :: .int i :: .ref k :: r => some (x, i, k, r)
  | _ => none
/-- an array's reference; none: the script's -/
def rx_pq : List Value → Option (Option Nat × List Value)
  | .ref k :: r => some (some k, r)
  | .retAddr _ :: r => some (none, r)
  | _ => none
/-- a value of one word -/
def rx_pw : List Value → Option (Value × List Value)
  | v :: r => if v.category = 1 then some (v, r) else none
  | _ => none
def rx_pw2 : List Value → Option (Value × Value × List Value)
  | v :: w :: r => if v.category = 1 ∧ w.category = 1 then some (v, w, r) else none
  | _ => none
/-- a reference to load or to store in a local -/
def rx_isr : Value → Bool
  | .ref _ => true
  | .retAddr _ => true
  | _ => false
def rx_tgt (pc : Nat) (off : Int) : Option Nat := if 0 ≤ (pc : Int) + off then some ((pc : Int) + off).toNat else none
def rx_gf (h : rx_H) (q ci k : Nat) : Option Value := match h[q]? with
  | some (.inr (c, fs)) => if c = ci then fs[k]? else none
  | _ => none
def rx_pf (h : rx_H) (q ci k : Nat) (v : Value) : Option rx_H := match h[q]? with
  | some (.inr (c, fs)) => if c = ci then (if k < fs.length then some (h.set q (.inr (c, fs.set k v))) else none) else none
  | _ => none
/-- may a value stand in a field of a kind -/
def rx_okf : Nat → Value → Bool
  | 0, .int _ => true
  | 1, .int x => x == 0 || x == 1
  | 2, .ref _ => true
  | _, _ => false
def rx_ga (h : rx_H) (q t : Nat) : Option (Nat × (Nat → Int32)) := match h[q]? with
  | some (.inl (c, n, .inl f)) => if c = t then some (n, f) else none
  | _ => none
def rx_gq (h : rx_H) (q : Nat) : Option (Nat × (Nat → Option Nat)) := match h[q]? with
  | some (.inl (c, n, .inr (.inr (.inr (.inr f))))) => if c = 2 then some (n, f) else none
  | _ => none
def rx_gl (h : rx_H) (q : Nat) : Option Nat := match h[q]? with
  | some (.inl (c, n, .inl _)) => if c = 0 ∨ c = 1 then some n else none
  | _ => none
/-- int arrays: type 0 int, 1 boolean -/
def rx_nar (t : Nat) (x : Int32) : Int32 := if t = 1 then vp_nar .boolean x else x
def rx_ald (h : rx_H) (q t : Nat) (i : Int32) : Option Int32 := match rx_ga h q t with
  | some (n, f) => if 0 ≤ i.toInt ∧ i.toInt < (n : Int) then some (f i.toNatClampNeg) else none
  | none => none
def rx_ast (h : rx_H) (q t : Nat) (i x : Int32) : Option rx_H := match rx_ga h q t with
  | some (n, f) => if 0 ≤ i.toInt ∧ i.toInt < (n : Int) then some (h.set q (.inl (t, n, .inl (upd f i.toNatClampNeg (rx_nar t x))))) else none
  | none => none
def rx_qld (h : rx_H) (q : Nat) (i : Int32) : Option Nat := match rx_gq h q with
  | some (n, f) => if 0 ≤ i.toInt ∧ i.toInt < (n : Int) then f i.toNatClampNeg else none
  | none => none
def rx_sld (sc : rx_S) (i : Int32) : Option Int32 := if 0 ≤ i.toInt ∧ i.toInt < (sc.1 : Int) then some (sc.2 i.toNatClampNeg) else none
/-- a switch by table: an offset -/
def rx_tsw : List Int → Int → Int → Int → Int
  | [], _, d, _ => d
  | o :: os, lo, d, x => if x = lo then o else rx_tsw os (lo + 1) d x
/-- the arguments of a call, and what stays on the stack -/
def rx_pop (n : Nat) (st : List Value) : Option (List Value × List Value) := if n ≤ st.length then some ((st.take n).reverse, st.drop n) else none
/-- is the receiver an object of the class -/
def rx_rcv (h : rx_H) (ci : Nat) : List Value → Bool
  | .ref q :: _ => match h[q]? with
    | some (.inr (c, _)) => c == ci
    | _ => false
  | _ => false
def rx_isref : List Value → Bool
  | .ref _ :: _ => true
  | _ => false
def rx_chk (i : Nat) (h : rx_H) (j kd : Nat) (As rest : List Value) (bc bs : Nat) : Bool :=
  decide (rx_fr j + 1 ≤ rx_fr i) && decide (8 + (rx_ml j + 11) + rx_lo j ≤ rx_lo i) && As.all (fun v => v.category == 1) && decide ((rest.map fun v => v.category).sum ≤ 8) && decide (rx_mc j ≤ bc) && decide (rx_ms j ≤ bs) && (if kd = 0 then rx_rcv h (rx_ow j) As else if kd = 1 then true else rx_isref As)
def rx_do (i pc : Nat) (lv : rx_L) (rest : List Value) (bc bs j : Nat) (As : List Value) (h : rx_H) : rx_R :=
  some (.inr (.inr ((j, 0, As.map some ++ List.replicate (rx_ml j - rx_na j) none, [], h, rx_mc j, rx_ms j), fun r => some (i, pc + 3, lv, r.1.toList ++ rest, r.2, bc - rx_mc j, bs - rx_ms j))))
def rx_cal (kd0 : Nat → Bool) (i pc : Nat) (lv : rx_L) (st : List Value) (h : rx_H) (bc bs idx : Nat) : rx_R :=
  match rx_mll.lookup (rx_ow i, idx) with
  | none => none
  | some (j, kd) => if kd0 kd = true then
      (if kd = 4 then (match st with
        | .ref _ :: r => if 1 ≤ rx_fr i ∧ 20 ≤ rx_lo i ∧ (r.map fun v => v.category).sum ≤ 8 then some (.inl (i, pc + 3, lv, r, h, bc, bs)) else none
        | _ => none)
      else match rx_pop (rx_na j) st with
        | none => none
        | some (As, rest) => if rx_chk i h j kd As rest bc bs = true then rx_do i pc lv rest bc bs j As h else none)
    else none
/-- the value that a method answers -/
def rx_rets (i : Nat) (st : List Value) : Option (Option Value) := match st, rx_rt i with
  | [], none => some none
  | [.int x], some .int => some (some (.int x))
  | [.int x], some .boolean => if x = 0 ∨ x = 1 then some (some (.int x)) else none
  | _, _ => none
def rx_len : Instr → Nat → Nat
  | .bipush _, _ => 2
  | .iload _, _ => 2
  | .istore _, _ => 2
  | .aload _, _ => 2
  | .astore _, _ => 2
  | .ldc _, _ => 2
  | .newarray _, _ => 2
  | .sipush _, _ => 3
  | .ldc2_w _, _ => 3
  | .iinc _ _, _ => 3
  | .getfield _, _ => 3
  | .putfield _, _ => 3
  | .new _, _ => 3
  | .goto _, _ => 3
  | .ifCond _ _, _ => 3
  | .if_icmp _ _, _ => 3
  | .invokevirtual _, _ => 3
  | .invokespecial _, _ => 3
  | .invokestatic _, _ => 3
  | .multianewarray _ _, _ => 4
  | .tableswitch _ _ _ _, n => n
  | .lookupswitch _ _, n => n
  | _, _ => 1
def rx_cz (c : Jvm.ClassFile.Cond) (x : Int32) : Bool := match c with
  | .eq => decide (x = 0)
  | .ne => decide (¬ x = 0)
  | .lt => decide (x < 0)
  | .ge => decide (0 ≤ x)
  | .gt => decide (0 < x)
  | .le => decide (x ≤ 0)
def rx_cc (c : Jvm.ClassFile.Cond) (x y : Int32) : Bool := match c with
  | .eq => decide (x = y)
  | .ne => decide (¬ x = y)
  | .lt => decide (x < y)
  | .ge => decide (y ≤ x)
  | .gt => decide (y < x)
  | .le => decide (x ≤ y)
abbrev rx_nx (i pc : Nat) (lv : rx_L) (st : List Value) (h : rx_H) (bc bs : Nat) : rx_R := some (.inl (i, pc, lv, st, h, bc, bs))
def rx_aty : ArrayType → Option Nat
  | .int => some 0
  | .boolean => some 1
  | _ => none
def rx_ins (sc : rx_S) (ins : Instr) (i pc : Nat) (lv : rx_L) (st : List Value) (h : rx_H) (bc bs : Nat) : rx_R := match ins with
  | .iconst n => rx_nx i (pc + 1) lv (.int (Int32.ofInt n) :: st) h bc bs
  | .bipush n => rx_nx i (pc + 2) lv (.int (Int8.ofInt n).toInt32 :: st) h bc bs
  | .sipush n => rx_nx i (pc + 3) lv (.int (Int16.ofInt n).toInt32 :: st) h bc bs
  | .ldc idx => (rx_kl.lookup (rx_ow i, idx)).bind fun v => rx_nx i (pc + 2) lv (.int v :: st) h bc bs
  | .ldc2_w idx => (rx_k2.lookup (rx_ow i, idx)).bind fun v => rx_nx i (pc + 3) lv (.long v :: st) h bc bs
  | .iload_n k => match lv[(k : Nat)]? with
    | some (some (.int x)) => rx_nx i (pc + 1) lv (.int x :: st) h bc bs
    | _ => none
  | .iload k => match lv[k]? with
    | some (some (.int x)) => rx_nx i (pc + 2) lv (.int x :: st) h bc bs
    | _ => none
  | .aload_n k => match lv[(k : Nat)]? with
    | some (some v) => if rx_isr v = true then rx_nx i (pc + 1) lv (v :: st) h bc bs else none
    | _ => none
  | .aload k => match lv[k]? with
    | some (some v) => if rx_isr v = true then rx_nx i (pc + 2) lv (v :: st) h bc bs else none
    | _ => none
  | .istore_n k => (rx_p1 st).bind fun q => if (k : Nat) < rx_ml i then rx_nx i (pc + 1) (lv.set k (some (.int q.1))) q.2 h bc bs else none
  | .istore k => (rx_p1 st).bind fun q => if k < rx_ml i then rx_nx i (pc + 2) (lv.set k (some (.int q.1))) q.2 h bc bs else none
  | .astore_n k => (rx_pr st).bind fun q => if (k : Nat) < rx_ml i then rx_nx i (pc + 1) (lv.set k (some (.ref q.1))) q.2 h bc bs else none
  | .astore k => (rx_pr st).bind fun q => if k < rx_ml i then rx_nx i (pc + 2) (lv.set k (some (.ref q.1))) q.2 h bc bs else none
  | .iinc k n => match lv[k]? with
    | some (some (.int x)) => if k < rx_ml i then rx_nx i (pc + 3) (lv.set k (some (.int (x + Int32.ofInt n)))) st h bc bs else none
    | _ => none
  | .iadd => (rx_p2 st).bind fun q => rx_nx i (pc + 1) lv (.int (q.1 + q.2.1) :: q.2.2) h bc bs
  | .isub => (rx_p2 st).bind fun q => rx_nx i (pc + 1) lv (.int (q.1 - q.2.1) :: q.2.2) h bc bs
  | .imul => (rx_p2 st).bind fun q => rx_nx i (pc + 1) lv (.int (q.1 * q.2.1) :: q.2.2) h bc bs
  | .iand => (rx_p2 st).bind fun q => rx_nx i (pc + 1) lv (.int (q.1 &&& q.2.1) :: q.2.2) h bc bs
  | .ior => (rx_p2 st).bind fun q => rx_nx i (pc + 1) lv (.int (q.1 ||| q.2.1) :: q.2.2) h bc bs
  | .ixor => (rx_p2 st).bind fun q => rx_nx i (pc + 1) lv (.int (q.1 ^^^ q.2.1) :: q.2.2) h bc bs
  | .irem => (rx_p2 st).bind fun q => if q.2.1 = 0 then none else rx_nx i (pc + 1) lv (.int (q.1 - q.1 / q.2.1 * q.2.1) :: q.2.2) h bc bs
  | .ishr => (rx_p2 st).bind fun q => rx_nx i (pc + 1) lv (.int (q.1 >>> (q.2.1 &&& 31)) :: q.2.2) h bc bs
  | .i2l => (rx_p1 st).bind fun q => rx_nx i (pc + 1) lv (.long q.1.toInt64 :: q.2) h bc bs
  | .ladd => (rx_pl st).bind fun q => rx_nx i (pc + 1) lv (.long (q.1 + q.2.1) :: q.2.2) h bc bs
  | .lcmp => (rx_pl st).bind fun q => rx_nx i (pc + 1) lv (.int (lg_cmp q.1 q.2.1) :: q.2.2) h bc bs
  | .dup => (rx_pw st).bind fun q => rx_nx i (pc + 1) lv (q.1 :: q.1 :: q.2) h bc bs
  | .pop => (rx_pw st).bind fun q => rx_nx i (pc + 1) lv q.2 h bc bs
  | .dup2 => (rx_pw2 st).bind fun q => rx_nx i (pc + 1) lv (q.1 :: q.2.1 :: q.1 :: q.2.1 :: q.2.2) h bc bs
  | .goto off => (rx_tgt pc off).bind fun t => rx_nx i t lv st h bc bs
  | .ifCond c off => (rx_tgt pc off).bind fun t => (rx_p1 st).bind fun q => if rx_cz c q.1 = true then rx_nx i t lv q.2 h bc bs else rx_nx i (pc + 3) lv q.2 h bc bs
  | .if_icmp c off => (rx_tgt pc off).bind fun t => (rx_p2 st).bind fun q => if rx_cc c q.1 q.2.1 = true then rx_nx i t lv q.2.2 h bc bs else rx_nx i (pc + 3) lv q.2.2 h bc bs
  | .tableswitch d lo hi offs => (rx_p1 st).bind fun q => if hi = lo + (offs.toList.length : Int) - 1 then ((rx_tgt pc (rx_tsw offs.toList lo d q.1.toInt)).bind fun t => rx_nx i t lv q.2 h bc bs) else none
  | .lookupswitch d ps => (rx_p1 st).bind fun q => if (ps.toList.zip (ps.toList.drop 1)).all (fun (a, next) => a.1 < next.1) = true then ((rx_tgt pc (Op.lookupswitch.offset ps.toList d q.1.toInt)).bind fun t => rx_nx i t lv q.2 h bc bs) else none
  | .getfield idx => (rx_fl.lookup (rx_ow i, idx)).bind fun f => (rx_pr st).bind fun q => (rx_gf h q.1 f.1 f.2.1).bind fun v => rx_nx i (pc + 3) lv (v :: q.2) h bc bs
  | .putfield idx => (rx_fl.lookup (rx_ow i, idx)).bind fun f => (rx_pv st).bind fun q => if rx_okf f.2.2.1 q.1 = true ∧ (f.2.2.2 = 0 ∨ (rx_ini i = 1 ∧ f.1 = rx_ow i)) then ((rx_pf h q.2.1 f.1 f.2.1 q.1).bind fun h2 => rx_nx i (pc + 3) lv q.2.2 h2 bc bs) else none
  | .iaload => (rx_pa st).bind fun q => match q.2.1 with
    | some k => (rx_ald h k 0 q.1).bind fun x => rx_nx i (pc + 1) lv (.int x :: q.2.2) h bc bs
    | none => (rx_sld sc q.1).bind fun x => rx_nx i (pc + 1) lv (.int x :: q.2.2) h bc bs
  | .baload => (rx_pa st).bind fun q => match q.2.1 with
    | some k => (rx_ald h k 1 q.1).bind fun x => rx_nx i (pc + 1) lv (.int x :: q.2.2) h bc bs
    | none => none
  | .iastore => (rx_ps st).bind fun q => (rx_ast h q.2.2.1 0 q.2.1 q.1).bind fun h2 => rx_nx i (pc + 1) lv q.2.2.2 h2 bc bs
  | .bastore => (rx_ps st).bind fun q => (rx_ast h q.2.2.1 1 q.2.1 q.1).bind fun h2 => rx_nx i (pc + 1) lv q.2.2.2 h2 bc bs
  | .aaload => (rx_pa st).bind fun q => match q.2.1 with
    | some k => (rx_qld h k q.1).bind fun x => rx_nx i (pc + 1) lv (.ref x :: q.2.2) h bc bs
    | none => none
  | .arraylength => (rx_pq st).bind fun q => match q.1 with
    | some k => (rx_gl h k).bind fun n => rx_nx i (pc + 1) lv (.int (Int32.ofNat n) :: q.2) h bc bs
    | none => rx_nx i (pc + 1) lv (.int (Int32.ofNat sc.1) :: q.2) h bc bs
  | .invokevirtual idx => rx_cal (fun kd => kd == 0) i pc lv st h bc bs idx
  | .invokestatic idx => rx_cal (fun kd => kd == 1) i pc lv st h bc bs idx
  | .invokespecial idx => rx_cal (fun kd => kd == 2 || kd == 3 || kd == 4) i pc lv st h bc bs idx
  | .new idx => (rx_nl.lookup (rx_ow i, idx)).bind fun ci => if 1 ≤ bc ∧ (rx_df.getD ci []).length ≤ bs then rx_nx i (pc + 3) lv (.ref h.length :: st) (h ++ [.inr (ci, rx_df.getD ci [])]) (bc - 1) (bs - (rx_df.getD ci []).length) else none
  | .newarray at_ => (rx_aty at_).bind fun t => (rx_p1 st).bind fun q => if 0 ≤ q.1.toInt ∧ q.1.toInt ≤ 10000 ∧ 1 ≤ bc ∧ q.1.toNatClampNeg ≤ bs then rx_nx i (pc + 2) lv (.ref h.length :: q.2) (h ++ [.inl (t, q.1.toNatClampNeg, .inl (fun _ => 0))]) (bc - 1) (bs - q.1.toNatClampNeg) else none
  | .multianewarray idx dim => (rx_p2 st).bind fun q => if rx_ow i = 0 ∧ idx = 18 ∧ dim = 2 ∧ 0 ≤ q.1.toInt ∧ q.1.toInt ≤ 10000 ∧ 0 ≤ q.2.1.toInt ∧ q.2.1.toInt ≤ 10000 ∧ 1 + q.1.toNatClampNeg ≤ bc ∧ q.1.toNatClampNeg + q.1.toNatClampNeg * q.2.1.toNatClampNeg ≤ bs then
      rx_nx i (pc + 4) lv (.ref h.length :: q.2.2) (h ++ [.inl (2, q.1.toNatClampNeg, .inr (.inr (.inr (.inr (fun j => if j < q.1.toNatClampNeg then some (h.length + 1 + j) else none)))))] ++ List.replicate q.1.toNatClampNeg (.inl (0, q.2.1.toNatClampNeg, .inl (fun _ => 0)))) (bc - (1 + q.1.toNatClampNeg)) (bs - (q.1.toNatClampNeg + q.1.toNatClampNeg * q.2.1.toNatClampNeg)) else none
  | .ireturn => (rx_rets i st).bind fun v => if v.isSome = true ∧ (bc = 0 ∨ i = 147) then some (.inr (.inl (v, h))) else none
  | .return_ => (rx_rets i st).bind fun v => if v.isSome = false ∧ (bc = 0 ∨ i = 147) then some (.inr (.inl (v, h))) else none
  | _ => none
def rx_sel (i : Nat) (o : rx_R) : rx_R := match o with
  | some (.inl c2) => if c2.1 = i then some (.inl c2) else none
  | r => r
def rx_stp (sc : rx_S) (c : rx_C) : rx_R := match decode (rx_cd c.1) c.2.1 with
  | .error _ => none
  | .ok q => if q.2 = rx_len q.1 q.2 then rx_sel c.1 (rx_ins sc q.1 c.1 c.2.1 c.2.2.1 c.2.2.2.1 c.2.2.2.2.1 c.2.2.2.2.2.1 c.2.2.2.2.2.2) else none
/-- the value of a point -/
noncomputable def rx_V (sc : rx_S) (i pc : Nat) (lv : rx_L) (st : List Value) (h : rx_H) (bc bs : Nat) : Option rx_O := rx_lim (rx_stp sc) (i, pc, lv, st, h, bc, bs)
end
section
/-! places and cells: what a value, a cell, the locals of the machine of positions are on the machine -/
def rx_v (b z : Nat) : Value → Value
  | .ref k => .ref (z + k)
  | .retAddr _ => .ref b
  | v => v
theorem rx_v_cat (b z : Nat) (v : Value) : (rx_v b z v).category = v.category := by cases v <;> rfl
def rx_e (b z : Nat) (ca : Nat → ClassId) : va_E → va_E
  | .inl (t, n, .inr (.inr (.inr (.inr f)))) => .inl (ca t, n, .inr (.inr (.inr (.inr (fun j => (f j).map (fun q => z + q))))))
  | .inl (t, n, .inl f) => .inl (ca t, n, .inl f)
  | .inl (t, n, .inr (.inl f)) => .inl (ca t, n, .inr (.inl f))
  | .inl (t, n, .inr (.inr (.inl f))) => .inl (ca t, n, .inr (.inr (.inl f)))
  | .inl (t, n, .inr (.inr (.inr (.inl f)))) => .inl (ca t, n, .inr (.inr (.inr (.inl f))))
  | .inr (ci, fs) => .inr (ci, fs.map (rx_v b z))
def rx_w (b z : Nat) (ca : Nat → ClassId) (h : rx_H) : va_W := h.mapIdx (fun k e => (z + k, rx_e b z ca e))
theorem rx_w_len (b z : Nat) (ca : Nat → ClassId) (h : rx_H) : (rx_w b z ca h).length = h.length := by simp [rx_w]
theorem rx_w_get {b z : Nat} {ca : Nat → ClassId} {h : rx_H} {k : Nat} {e : va_E} (hk : h[k]? = some e) : (rx_w b z ca h)[k]? = some (z + k, rx_e b z ca e) := by
  simp [rx_w, hk]
theorem rx_w_of {b z : Nat} {ca : Nat → ClassId} {h : rx_H} {k : Nat} {q : Nat × va_E} (hk : (rx_w b z ca h)[k]? = some q) : ∃ e, h[k]? = some e ∧ q = (z + k, rx_e b z ca e) := by
  unfold rx_w at hk
  rw [List.getElem?_mapIdx] at hk
  cases he : h[k]? with
  | none => rw [he] at hk; cases hk
  | some e => rw [he] at hk; exact ⟨e, rfl, (Option.some.inj hk).symm⟩
theorem rx_w_set {b z : Nat} {ca : Nat → ClassId} {h : rx_H} {k : Nat} {e : va_E} : (rx_w b z ca h).set k (z + k, rx_e b z ca e) = rx_w b z ca (h.set k e) := by
  refine List.ext_getElem? fun j => ?_
  simp only [rx_w, List.getElem?_set, List.getElem?_mapIdx, List.length_mapIdx]
  by_cases hj : k = j
  · subst hj
    by_cases hl : k < h.length <;> simp [hl]
  · simp [hj]
theorem rx_w_app {b z : Nat} {ca : Nat → ClassId} {h : rx_H} {e : va_E} : rx_w b z ca (h ++ [e]) = rx_w b z ca h ++ [(z + h.length, rx_e b z ca e)] := by
  simp [rx_w, List.mapIdx_append]
theorem rx_w_D (b z : Nat) (ca : Nat → ClassId) (h : rx_H) : va_D (fun q : Nat => z ≤ q) (rx_w b z ca h) := by
  refine ⟨fun i j p q hp hq hpq => ?_, fun k q hk => ?_⟩
  · obtain ⟨e1, -, rfl⟩ := rx_w_of hp
    obtain ⟨e2, -, rfl⟩ := rx_w_of hq
    have h9 : z + i = z + j := hpq
    omega
  · obtain ⟨e1, -, rfl⟩ := rx_w_of hk
    exact Nat.le_add_right z k
/-- the locals -/
def rx_has (b z : Nat) (ls : Array Slot) (nL : Nat) (lv : rx_L) : Prop := ls.size = nL ∧ lv_wf ls ∧ ∀ (i : Nat) (v : Value), lv[i]? = some (some v) → v.category = 1 ∧ ls[i]? = some (.val (rx_v b z v))
def rx_al (b z : Nat) (lv : rx_L) : List (Nat × Value) := (List.range lv.length).filterMap (fun j => match lv[j]? with | some (some w) => some (j, rx_v b z w) | _ => none)
theorem rx_al_in {b z : Nat} {lv : rx_L} {q : Nat × Value} : q ∈ rx_al b z lv ↔ ∃ w, lv[q.1]? = some (some w) ∧ q.2 = rx_v b z w := by
  obtain ⟨j, x⟩ := q
  unfold rx_al
  rw [List.mem_filterMap]
  constructor
  · rintro ⟨i, -, hi⟩
    cases hl : lv[i]? with
    | none => rw [hl] at hi; cases hi
    | some o =>
      cases o with
      | none => rw [hl] at hi; cases hi
      | some w =>
        rw [hl] at hi
        cases hi
        exact ⟨w, hl, rfl⟩
  · rintro ⟨w, h1, h2⟩
    dsimp only at h1 h2
    refine ⟨j, List.mem_range.mpr (List.getElem?_eq_some_iff.mp h1).1, ?_⟩
    rw [h1]
    subst h2
    rfl
theorem rx_has.lv {b z : Nat} {ls : Array Slot} {nL : Nat} {lv : rx_L} (h : rx_has b z ls nL lv) : lv_has ls nL (rx_al b z lv) := by
  refine ⟨h.1, h.2.1, fun q hq => ?_⟩
  obtain ⟨w, h1, h2⟩ := rx_al_in.mp hq
  rw [h2]
  exact (h.2.2 _ _ h1).2
theorem rx_has.put {b z : Nat} {ls ls' : Array Slot} {nL : Nat} {lv : rx_L} (h : rx_has b z ls nL lv) {i : Nat} {v : Value} (hc : v.category = 1)
    (h' : lv_has ls' nL ((i, rx_v b z v) :: (rx_al b z lv).filter (fun q => !(q.1 == i) && !(q.1 + 1 == i && q.2.category == 2)))) : rx_has b z ls' nL (lv.set i (some v)) := by
  refine ⟨h'.1, h'.2.1, fun j w hj => ?_⟩
  rw [List.getElem?_set] at hj
  by_cases hij : i = j
  · subst hij
    rw [if_pos rfl] at hj
    by_cases hl : i < lv.length
    · rw [if_pos hl] at hj
      cases hj
      exact ⟨hc, h'.2.2 _ List.mem_cons_self⟩
    · rw [if_neg hl] at hj
      cases hj
  · rw [if_neg hij] at hj
    obtain ⟨hw, -⟩ := h.2.2 j w hj
    refine ⟨hw, h'.2.2 (j, rx_v b z w) (List.mem_cons_of_mem _ (List.mem_filter.mpr ⟨rx_al_in.mpr ⟨w, hj, rfl⟩, ?_⟩))⟩
    have h1 : (rx_v b z w).category = 1 := by rw [rx_v_cat]; exact hw
    have h2 : ¬ j = i := fun q => hij q.symm
    simp [h1, h2]
theorem rx_sl {vs : List Value} (h : ∀ v ∈ vs, v.category = 1) : lg_sl vs = vs.map Slot.val := by
  induction vs with
  | nil => rfl
  | cons v t ih =>
    have h1 := h v List.mem_cons_self
    have h2 := ih fun w hw => h w (List.mem_cons_of_mem _ hw)
    unfold lg_sl at h2 ⊢
    rw [List.flatMap_cons, h2]
    simp [h1]
/-- a method's entry -/
theorem rx_has_entry (b z : Nat) {av : List Value} {n : Nat} (hc : ∀ v ∈ av, v.category = 1) (hn : av.length ≤ n) : rx_has b z ((lg_sl (av.map (rx_v b z)) ++ List.replicate (n - (lg_sl (av.map (rx_v b z))).length) Slot.unset).toArray) n (av.map some ++ List.replicate (n - av.length) none) := by
  have hs : lg_sl (av.map (rx_v b z)) = (av.map (rx_v b z)).map Slot.val := rx_sl fun v hv => by
    obtain ⟨w, hw, rfl⟩ := List.mem_map.mp hv
    rw [rx_v_cat]
    exact hc w hw
  have h0 := lv_entry (av.map (rx_v b z)) (n := n) (by rw [hs]; simpa using hn)
  refine ⟨h0.1, h0.2.1, fun i v hi => ?_⟩
  rw [List.getElem?_append] at hi
  by_cases hl : i < av.length
  · rw [if_pos (by simpa using hl), List.getElem?_map] at hi
    have hv : av[i]? = some v := by
      cases ha : av[i]? with
      | none => rw [ha] at hi; cases hi
      | some w => rw [ha] at hi; cases hi; rfl
    refine ⟨hc v (List.mem_of_getElem? hv), ?_⟩
    obtain ⟨h9, he⟩ := List.getElem?_eq_some_iff.mp hv
    rw [hs]
    simp [List.getElem?_append, hl, he]
  · rw [if_neg (by simpa using hl)] at hi
    rw [List.getElem?_replicate] at hi
    split at hi <;> cases hi
end
section
/-! what the words of the tables give: every row of the tables of positions is backed by the Statement's words -/
theorem rx_look {β : Type} {l : List ((Nat × Nat) × β)} {k : Nat × Nat} {v : β} (h : l.lookup k = some v) : (k, v) ∈ l := by
  induction l with
  | nil => cases h
  | cons q t ih =>
    obtain ⟨a, w⟩ := q
    unfold List.lookup at h
    split at h
    · rename_i hk
      cases h
      have hk : k = a := by simpa using hk
      subst hk
      exact List.mem_cons_self
    · exact List.mem_cons_of_mem _ (ih h)
def rx_ws : List Cond := lw_tbl.filter goodWord
theorem rx_in {ws : List Cond} {ps : List Nat} (h : ws = ps.filterMap (fun k => lw_tbl[k]?)) (hg : ws.all goodWord = true) : ∀ w ∈ ws, w ∈ rx_ws := fun w hw => List.mem_filter.mpr ⟨rx_mem h w hw, List.all_eq_true.mp hg w hw⟩
theorem rx_good : ∀ w ∈ rx_ws, (w.onTables && w.keeps) = true ∨ ∃ ty, w = .arrayClass ty := fun _ hw => good_of_word (List.mem_filter.mp hw).2
theorem rx_GI {ws : List Cond} (h : ∀ w ∈ ws, w ∈ rx_ws) : GoodIn rx_ws ws := fun w hw => ⟨h w hw, rx_good w (h w hw)⟩
theorem rx_cws : ∀ i, i < 147 → rx_cwd i ∈ rx_ws := fun i hi => List.mem_filter.mpr ⟨rx_call i hi, rfl⟩
theorem rx_fws : ∀ q ∈ rx_fl, rx_fwd q ∈ rx_ws := fun q hq => rx_in rx_fok (by decide +kernel) _ (List.mem_map.mpr ⟨q, hq, rfl⟩)
theorem rx_nlws : ∀ q ∈ rx_nl, rx_nwd q ∈ rx_ws := fun q hq => rx_in rx_nok (by decide +kernel) _ (List.mem_map.mpr ⟨q, hq, rfl⟩)
theorem rx_kws : ∀ q ∈ rx_kl, rx_kwd q ∈ rx_ws := fun q hq => rx_in rx_kok (by decide +kernel) _ (List.mem_map.mpr ⟨q, hq, rfl⟩)
theorem rx_k2ws : ∀ q ∈ rx_k2, rx_k2wd q ∈ rx_ws := fun q hq => rx_in rx_k2ok (by decide +kernel) _ (List.mem_map.mpr ⟨q, hq, rfl⟩)
theorem rx_mlt : ∀ q ∈ rx_mll, rx_mwd q ∈ lw_tbl := fun q hq => rx_mem rx_mok _ (List.mem_map.mpr ⟨q, hq, rfl⟩)
theorem rx_mgw : rx_mll.all (fun q => q.2.2 == 3 || goodWord (rx_mwd q)) = true := by decide +kernel
theorem rx_mws : ∀ q ∈ rx_mll, ¬ q.2.2 = 3 → rx_mwd q ∈ rx_ws := fun q hq hn => by
  have h := List.all_eq_true.mp rx_mgw q hq
  simp only [Bool.or_eq_true, beq_iff_eq] at h
  exact List.mem_filter.mpr ⟨rx_mlt q hq, h.resolve_left hn⟩
def rx_vj : List Nat := [1, 2, 3, 4, 5, 6, 7, 8, 9, 10, 12, 13, 14, 15, 17, 18, 19, 20, 21, 23, 24, 25, 26, 27, 28, 29, 32, 33, 34, 35, 36, 37, 38, 39, 40, 41, 43, 44, 45, 46, 47, 49, 50, 51, 52, 53, 55, 56, 57, 58, 59, 60, 61, 62, 64, 65, 66, 67, 68, 69, 70, 71, 72, 73, 74, 75, 76, 77, 78, 79, 80, 81, 82, 83, 84, 85, 86, 87, 88, 89, 90, 91, 92, 93, 94, 95, 96, 98, 99, 100, 101, 102, 103, 104, 105, 106, 110, 111, 112, 113, 114, 115, 116, 117, 118, 119, 120, 121, 122, 123, 124, 125, 126, 127, 128, 129, 131, 132, 133, 134, 135, 136, 137, 138, 139, 140, 141, 142]
def rx_ij : List Nat := [0, 11, 16, 22, 30, 42, 48, 54, 63, 107]
def rx_sj : List Nat := [31, 97, 108, 109, 130, 143, 144, 145, 146]
def rx_vps1 : List Nat := [275, 279, 271, 459, 463, 471, 476, 485, 283, 400, 542, 546, 526, 530, 644, 623, 627, 632, 267, 340, 303, 429, 336, 332, 388, 287, 605, 609, 613, 589, 563, 574, 578, 585, 597, 568, 451, 442, 518, 446, 263, 377, 247, 640, 381, 417, 316, 299, 324, 328, 320, 307, 344, 369, 239, 356, 404, 408, 413, 421, 425, 433, 437, 455, 467, 481, 490, 494, 502, 506, 510, 554, 558, 593, 601, 619, 636, 244, 252, 292, 296, 313, 349, 353, 260, 256, 499, 364, 374, 393, 551, 397, 515, 523, 535, 539, 770, 766, 774, 797, 762, 754, 778, 782, 793, 785, 800, 804, 808, 812, 816, 820, 824, 828, 832, 836, 840, 848, 852, 856, 860, 864, 874, 868, 877, 881, 885, 889]
def rx_vps2 : List Nat := [276, 280, 272, 460, 464, 472, 477, 486, 284, 401, 543, 547, 527, 531, 645, 624, 628, 633, 268, 341, 304, 430, 337, 333, 389, 288, 606, 610, 614, 590, 564, 575, 579, 586, 598, 19, 452, 443, 519, 447, 264, 378, 248, 641, 382, 418, 317, 300, 325, 329, 321, 308, 345, 370, 240, 357, 405, 409, 414, 422, 426, 434, 438, 456, 468, 482, 491, 495, 503, 507, 511, 555, 559, 594, 602, 620, 637, 0, 1, 4, 5, 6, 7, 8, 3, 2, 13, 9, 10, 11, 18, 12, 14, 15, 16, 17, 22, 21, 23, 27, 20, 755, 24, 25, 26, 786, 801, 805, 809, 813, 817, 821, 825, 829, 833, 837, 841, 849, 853, 857, 861, 865, 28, 869, 878, 882, 886, 890]
def rx_ips : List Nat := [69, 137, 150, 58, 166, 87, 121, 101, 44, 653]
def rx_sps : List Nat := [571, 360, 758, 789, 844, 385, 53, 50, 648]
def rx_ops : List Nat := [33, 37, 38, 32, 39, 34, 36, 35, 30, 40, 31, 29]
set_option maxRecDepth 100000 in
theorem rx_vok1 : rx_vj.map (fun j => Cond.instanceMethod (rx_y j)) = rx_vps1.filterMap (fun k => lw_tbl[k]?) := by decide +kernel
set_option maxRecDepth 100000 in
theorem rx_vok2 : rx_vj.map (fun j => Cond.selects (rx_y j).cls (rx_y j) (rx_y j)) = rx_vps2.filterMap (fun k => lw_tbl[k]?) := by decide +kernel
set_option maxRecDepth 100000 in
theorem rx_iok : rx_ij.map (fun j => Cond.instanceMethod (rx_y j)) = rx_ips.filterMap (fun k => lw_tbl[k]?) := by decide +kernel
set_option maxRecDepth 100000 in
theorem rx_sok : rx_sj.map (fun j => Cond.static (rx_y j)) = rx_sps.filterMap (fun k => lw_tbl[k]?) := by decide +kernel
set_option maxRecDepth 100000 in
theorem rx_ook : (List.range 12).map (fun o => Cond.initialized (rx_on o)) = rx_ops.filterMap (fun k => lw_tbl[k]?) := by decide +kernel
theorem rx_vw1 : ∀ j ∈ rx_vj, Cond.instanceMethod (rx_y j) ∈ rx_ws := fun j hj => rx_in rx_vok1 (by decide +kernel) _ (List.mem_map.mpr ⟨j, hj, rfl⟩)
theorem rx_vw2 : ∀ j ∈ rx_vj, Cond.selects (rx_y j).cls (rx_y j) (rx_y j) ∈ rx_ws := fun j hj => rx_in rx_vok2 (by decide +kernel) _ (List.mem_map.mpr ⟨j, hj, rfl⟩)
theorem rx_iw : ∀ j ∈ rx_ij, Cond.instanceMethod (rx_y j) ∈ rx_ws := fun j hj => rx_in rx_iok (by decide +kernel) _ (List.mem_map.mpr ⟨j, hj, rfl⟩)
theorem rx_sw : ∀ j ∈ rx_sj, Cond.static (rx_y j) ∈ rx_ws := fun j hj => rx_in rx_sok (by decide +kernel) _ (List.mem_map.mpr ⟨j, hj, rfl⟩)
theorem rx_ow_w : ∀ o, o < 12 → Cond.initialized (rx_on o) ∈ rx_ws := fun o ho => rx_in rx_ook (by decide +kernel) _ (List.mem_map.mpr ⟨o, List.mem_range.mpr ho, rfl⟩)
/-- every method's row: its class's name, its arguments, plain names -/
def rx_jok (j : Nat) : Bool := ((rx_y j).cls == rx_on (rx_ow j)) && decide (rx_ow j < 12) && ((rx_y j).cls != "java/lang/invoke/MethodHandle") && ((rx_y j).cls != "java/lang/invoke/VarHandle") && plainFor (rx_y j) && decide (rx_na j ≤ rx_ml j)
set_option maxRecDepth 100000 in
theorem rx_jall : (List.range 147).all rx_jok = true := by decide +kernel
/-- every call's row: its target, by the call's kind -/
def rx_kok2 (q : (Nat × Nat) × (Nat × Nat)) : Bool := if q.2.2 = 4 then true else decide (q.2.1 < 147) && (if q.2.2 = 0 then decide (q.2.1 ∈ rx_vj) && ((parseMethodDescriptor (rx_y q.2.1).desc).map (fun d => d.parameters.length + 1) == some (rx_na q.2.1))
  else if q.2.2 = 1 then decide (q.2.1 ∈ rx_sj) && ((parseMethodDescriptor (rx_y q.2.1).desc).map (fun d => d.parameters.length) == some (rx_na q.2.1))
  else decide (q.2.1 ∈ rx_ij) && ((parseMethodDescriptor (rx_y q.2.1).desc).map (fun d => d.parameters.length + 1) == some (rx_na q.2.1)) && ((rx_y q.2.1).name == "<init>") && (rx_rt q.2.1 == none))
set_option maxRecDepth 100000 in
theorem rx_kall : rx_mll.all rx_kok2 = true := by decide +kernel
def rx_nws : List Cond := (rx_mll.filter (fun q => q.2.2 == 3)).map rx_mwd
theorem rx_nws_tb : ∀ w ∈ rx_nws, w ∈ lw_tbl := fun w hw => by
  obtain ⟨q, hq, rfl⟩ := List.mem_map.mp hw
  exact rx_mlt q (List.mem_filter.mp hq).1
theorem rx_ao_tb : Cond.arrayOver (.array .int) ∈ lw_tbl := List.mem_of_getElem? (i := 73) (by decide +kernel)
theorem rx_acI : Cond.arrayClass .int ∈ rx_ws := List.mem_filter.mpr ⟨List.mem_of_getElem? (i := 65) (by decide +kernel), rfl⟩
theorem rx_acZ : Cond.arrayClass .boolean ∈ rx_ws := List.mem_filter.mpr ⟨List.mem_of_getElem? (i := 182) (by decide +kernel), rfl⟩
theorem rx_clA : Cond.classLink "ZStreams$Files" 18 "[[I" ∈ rx_ws := List.mem_filter.mpr ⟨List.mem_of_getElem? (i := 72) (by decide +kernel), by decide +kernel⟩
theorem rx_ob1 : Cond.instanceMethod objectInit ∈ rx_ws := List.mem_filter.mpr ⟨List.mem_of_getElem? (i := 47) (by decide +kernel), by decide +kernel⟩
theorem rx_ob2 : Cond.code objectInit ⟨#[0xb1]⟩ 1 none ∈ rx_ws := List.mem_filter.mpr ⟨List.mem_append_right _ (List.mem_append_left _ (List.mem_of_getElem? (i := 19) rfl)), rfl⟩
/-- what is known of a class of objects: its number, name, fields -/
def rx_CF (ci : Nat) (C : String) (T : u_T) (N : Nat) (ty : Nat → FieldType) : Prop := vwCl[ci]? = some (C, T, N) ∧ C = rx_on ci ∧ (∀ w ∈ u_ws C T N, w ∈ rx_ws) ∧ (∀ k, k < N → parseFieldDescriptor (T k).2.2.1 = some (ty k)) ∧ (∀ a, a < N → ∀ b, b < N → a ≠ b → (T a).2.1 ≠ (T b).2.1) ∧ Cond.instantiable C N ∈ rx_ws ∧ (rx_df.getD ci []).length = N ∧ (∀ j, j < N → defaultValue (ty j) = vp_V (rx_df.getD ci []) j) ∧ (∀ k, k < N → (T k).1 = C)
set_option maxRecDepth 100000 in
theorem rx_lw0 : wsX00 = [77, 79, 81].filterMap (fun k => lw_tbl[k]?) := by decide +kernel
set_option maxRecDepth 100000 in
theorem rx_cf0 : rx_CF 0 RX0 TX0 3 tyX0 := ⟨rfl, rfl, rx_in rx_lw0 (by decide +kernel), tyX0_ok, nmX0, List.mem_filter.mpr ⟨List.mem_of_getElem? (i := 67) (by decide +kernel), by decide +kernel⟩, by decide +kernel, by decide +kernel, by decide +kernel⟩
set_option maxRecDepth 100000 in
theorem rx_lw1 : wsX10 = [142, 144].filterMap (fun k => lw_tbl[k]?) := by decide +kernel
set_option maxRecDepth 100000 in
theorem rx_cf1 : rx_CF 1 RX1 TX1 2 tyX1 := ⟨rfl, rfl, rx_in rx_lw1 (by decide +kernel), tyX1_ok, nmX1, List.mem_filter.mpr ⟨List.mem_of_getElem? (i := 135) (by decide +kernel), by decide +kernel⟩, by decide +kernel, by decide +kernel, by decide +kernel⟩
set_option maxRecDepth 100000 in
theorem rx_lw2 : wsX20 = [156, 158, 160].filterMap (fun k => lw_tbl[k]?) := by decide +kernel
set_option maxRecDepth 100000 in
theorem rx_cf2 : rx_CF 2 RX2 TX2 3 tyX2 := ⟨rfl, rfl, rx_in rx_lw2 (by decide +kernel), tyX2_ok, nmX2, List.mem_filter.mpr ⟨List.mem_of_getElem? (i := 148) (by decide +kernel), by decide +kernel⟩, by decide +kernel, by decide +kernel, by decide +kernel⟩
set_option maxRecDepth 100000 in
theorem rx_lw3 : wsX30 = [62].filterMap (fun k => lw_tbl[k]?) := by decide +kernel
set_option maxRecDepth 100000 in
theorem rx_cf3 : rx_CF 3 RX3 TX3 1 tyX3 := ⟨rfl, rfl, rx_in rx_lw3 (by decide +kernel), tyX3_ok, nmX3, List.mem_filter.mpr ⟨List.mem_of_getElem? (i := 56) (by decide +kernel), by decide +kernel⟩, by decide +kernel, by decide +kernel, by decide +kernel⟩
set_option maxRecDepth 100000 in
theorem rx_lw4 : wsX40 = [173, 175, 177, 179].filterMap (fun k => lw_tbl[k]?) := by decide +kernel
set_option maxRecDepth 100000 in
theorem rx_cf4 : rx_CF 4 RX4 TX4 4 tyX4 := ⟨rfl, rfl, rx_in rx_lw4 (by decide +kernel), tyX4_ok, nmX4, List.mem_filter.mpr ⟨List.mem_of_getElem? (i := 164) (by decide +kernel), by decide +kernel⟩, by decide +kernel, by decide +kernel, by decide +kernel⟩
set_option maxRecDepth 100000 in
theorem rx_lw5 : wsX50 = [93, 95].filterMap (fun k => lw_tbl[k]?) := by decide +kernel
set_option maxRecDepth 100000 in
theorem rx_cf5 : rx_CF 5 RX5 TX5 2 tyX5 := ⟨rfl, rfl, rx_in rx_lw5 (by decide +kernel), tyX5_ok, nmX5, List.mem_filter.mpr ⟨List.mem_of_getElem? (i := 85) (by decide +kernel), by decide +kernel⟩, by decide +kernel, by decide +kernel, by decide +kernel⟩
set_option maxRecDepth 100000 in
theorem rx_lw6 : wsX60 = [127, 129, 131].filterMap (fun k => lw_tbl[k]?) := by decide +kernel
set_option maxRecDepth 100000 in
theorem rx_cf6 : rx_CF 6 RX6 TX6 3 tyX6 := ⟨rfl, rfl, rx_in rx_lw6 (by decide +kernel), tyX6_ok, nmX6, List.mem_filter.mpr ⟨List.mem_of_getElem? (i := 119) (by decide +kernel), by decide +kernel⟩, by decide +kernel, by decide +kernel, by decide +kernel⟩
set_option maxRecDepth 100000 in
theorem rx_lw7 : wsX70 = [109, 111, 113, 115].filterMap (fun k => lw_tbl[k]?) := by decide +kernel
set_option maxRecDepth 100000 in
theorem rx_cf7 : rx_CF 7 RX7 TX7 4 tyX7 := ⟨rfl, rfl, rx_in rx_lw7 (by decide +kernel), tyX7_ok, nmX7, List.mem_filter.mpr ⟨List.mem_of_getElem? (i := 99) (by decide +kernel), by decide +kernel⟩, by decide +kernel, by decide +kernel, by decide +kernel⟩
set_option maxRecDepth 100000 in
theorem rx_lw8 : wsX80 = [201, 203, 205, 207, 209, 211, 213, 215, 217, 219, 221, 223, 225, 227, 229, 231, 233, 235].filterMap (fun k => lw_tbl[k]?) := by decide +kernel
set_option maxRecDepth 100000 in
theorem rx_cf8 : rx_CF 8 RX8 TX8 18 tyX8 := ⟨rfl, rfl, rx_in rx_lw8 (by decide +kernel), tyX8_ok, nmX8, List.mem_filter.mpr ⟨List.mem_of_getElem? (i := 42) (by decide +kernel), by decide +kernel⟩, by decide +kernel, by decide +kernel, by decide +kernel⟩
set_option maxRecDepth 100000 in
theorem rx_lw9 : wsX90 = [688, 690, 692, 694, 696, 698, 700, 702, 704, 706, 708, 710, 712, 714, 716, 718, 720, 722, 724, 726, 728, 730, 732, 734, 736, 738, 740, 742, 744, 746, 748, 750].filterMap (fun k => lw_tbl[k]?) := by decide +kernel
set_option maxRecDepth 100000 in
theorem rx_cf9 : rx_CF 9 RX9 TX9 32 tyX9 := ⟨rfl, rfl, rx_in rx_lw9 (by decide +kernel), tyX9_ok, nmX9, List.mem_filter.mpr ⟨List.mem_of_getElem? (i := 651) (by decide +kernel), by decide +kernel⟩, by decide +kernel, by decide +kernel, by decide +kernel⟩
theorem rx_cf : ∀ ci, ci < 10 → ∃ C T N ty, rx_CF ci C T N ty := by
  intro ci h
  match ci, h with
  | 0, _ => exact ⟨_, _, _, _, rx_cf0⟩
  | 1, _ => exact ⟨_, _, _, _, rx_cf1⟩
  | 2, _ => exact ⟨_, _, _, _, rx_cf2⟩
  | 3, _ => exact ⟨_, _, _, _, rx_cf3⟩
  | 4, _ => exact ⟨_, _, _, _, rx_cf4⟩
  | 5, _ => exact ⟨_, _, _, _, rx_cf5⟩
  | 6, _ => exact ⟨_, _, _, _, rx_cf6⟩
  | 7, _ => exact ⟨_, _, _, _, rx_cf7⟩
  | 8, _ => exact ⟨_, _, _, _, rx_cf8⟩
  | 9, _ => exact ⟨_, _, _, _, rx_cf9⟩
  | k + 10, h => exact absurd h (by omega)
/-- every field's row: its slot, type, finality -/
def rx_fok2 (q : (Nat × Nat) × (Nat × Nat × Nat × Nat)) : Bool := match vwCl[q.2.1]? with
  | some (_, T, N) => decide (q.2.1 < 10) && decide (q.2.2.1 < N) && ((T q.2.2.1).2.2.2 == (q.2.2.2.2 == 1)) && (match parseFieldDescriptor (T q.2.2.1).2.2.1 with
    | some .int => q.2.2.2.1 == 0
    | some .boolean => q.2.2.2.1 == 1
    | some (.object _) => q.2.2.2.1 == 2
    | some (.array _) => q.2.2.2.1 == 2
    | _ => false)
  | none => false
set_option maxRecDepth 100000 in
theorem rx_fall : rx_fl.all rx_fok2 = true := by decide +kernel
theorem rx_nlall : rx_nl.all (fun q => decide (q.2 < 10)) = true := by decide +kernel
end
section
/-! a point of the machine of positions on the machine -/
def rx_tys (ca : Nat → ClassId) : List (ClassId × FieldType) := [(ca 0, .int), (ca 1, .boolean), (ca 2, .array .int)]
def rx_N (U : State) : Prop := (∀ w ∈ rx_nws, va_Nw w U) ∧ (Cond.arrayOver (.array .int)).before #[] U = true
def rx_Cx (D : va_G) (ca : Nat → ClassId) (b z : Nat) (sc : rx_S) (U : State) : Prop := va_K D vwCl (rx_tys ca) U ∧ rx_N U ∧ va_X b sc.1 sc.2 U U.heap ∧ b < z
def rx_En (D : va_G) (ca : Nat → ClassId) (b z : Nat) (sc : rx_S) (i : Nat) (p : Program) (s : State) (m : MethodId) (args : Array Value) (meth : Method) (cod : Code) (R : Room) (C0 S0 : Nat) : Prop :=
  p.tables.exec = Jvm.exec ∧ cod.code = rx_cd i ∧ cod.maxLocals = rx_ml i ∧ meth.sig.returnType = rx_rt i ∧ meth.locks = false ∧ s.vm.findClass (rx_on (rx_ow i)) = some m.cls ∧ (∀ w ∈ rx_ws, w.before args s = true) ∧ (rx_ini i = 1 → meth.name = "<init>") ∧ rx_Cx D ca b z sc s ∧ z ≤ s.heap.size ∧ rx_fr i ≤ R.frames ∧ rx_lo i ≤ R.locals ∧ C0 ≤ R.cells ∧ S0 ≤ R.slots
def rx_Pt (D : va_G) (ca : Nat → ClassId) (b z : Nat) (s : State) (i : Nat) (lv : rx_L) (h : rx_H) (bc bs C0 S0 : Nat) (H : Heap) (locs : List Loc) (ls : Array Slot) (cells slots : Nat) : Prop :=
  s.heap.size + cells = z + h.length ∧ va_P D vwCl (rx_w b z ca h) H ∧ va_S (fun q : Nat => z ≤ q) s.heap H locs ∧ rx_has b z ls (rx_ml i) lv ∧ cells + bc = C0 ∧ slots + bs ≤ S0
def rx_Go (D : va_G) (ca : Nat → ClassId) (b z : Nat) (p : Program) (l : Launch) (e : Env) (R : Room) (s : State) (m : MethodId) (args : Array Value) (below : List Frame) (meth : Method) (cod : Code) (C0 S0 : Nat) (Q : State → Prop) (c : rx_C) : Prop :=
  ∀ (H : Heap) (locs : List Loc) (ls : Array Slot) (cells slots : Nat), rx_Pt D ca b z s c.1 c.2.2.1 c.2.2.2.2.1 c.2.2.2.2.2.1 c.2.2.2.2.2.2 C0 S0 H locs ls cells slots → W p l e R s m args below meth cod H locs cells slots Q (F0 m c.2.1 ls (c.2.2.2.1.map (rx_v b z)))
theorem rx_p1_eq {st : List Value} {q : Int32 × List Value} (h : rx_p1 st = some q) : st = .int q.1 :: q.2 := by
  unfold rx_p1 at h
  split at h <;> cases h
  rfl
theorem rx_p2_eq {st : List Value} {q : Int32 × Int32 × List Value} (h : rx_p2 st = some q) : st = .int q.2.1 :: .int q.1 :: q.2.2 := by
  unfold rx_p2 at h
  split at h <;> cases h
  rfl
theorem rx_pl_eq {st : List Value} {q : Int64 × Int64 × List Value} (h : rx_pl st = some q) : st = .long q.2.1 :: .long q.1 :: q.2.2 := by
  unfold rx_pl at h
  split at h <;> cases h
  rfl
theorem rx_pr_eq {st : List Value} {q : Nat × List Value} (h : rx_pr st = some q) : st = .ref q.1 :: q.2 := by
  unfold rx_pr at h
  split at h <;> cases h
  rfl
theorem rx_pv_eq {st : List Value} {q : Value × Nat × List Value} (h : rx_pv st = some q) : st = q.1 :: .ref q.2.1 :: q.2.2 := by
  unfold rx_pv at h
  split at h <;> cases h
  rfl
theorem rx_pa_eq {st : List Value} {q : Int32 × Option Nat × List Value} (h : rx_pa st = some q) : (∃ k, q.2.1 = some k ∧ st = .int q.1 :: .ref k :: q.2.2) ∨ (∃ k, q.2.1 = none ∧ st = .int q.1 :: .retAddr k :: q.2.2) := by
  unfold rx_pa at h
  split at h <;> cases h
  · exact Or.inl ⟨_, rfl, rfl⟩
  · exact Or.inr ⟨_, rfl, rfl⟩
theorem rx_ps_eq {st : List Value} {q : Int32 × Int32 × Nat × List Value} (h : rx_ps st = some q) : st = .int q.1 :: .int q.2.1 :: .ref q.2.2.1 :: q.2.2.2 := by
  unfold rx_ps at h
  split at h <;> cases h
  rfl
theorem rx_pq_eq {st : List Value} {q : Option Nat × List Value} (h : rx_pq st = some q) : (∃ k, q.1 = some k ∧ st = .ref k :: q.2) ∨ (∃ k, q.1 = none ∧ st = .retAddr k :: q.2) := by
  unfold rx_pq at h
  split at h <;> cases h
  · exact Or.inl ⟨_, rfl, rfl⟩
  · exact Or.inr ⟨_, rfl, rfl⟩
theorem rx_pw_eq {st : List Value} {q : Value × List Value} (h : rx_pw st = some q) : st = q.1 :: q.2 ∧ q.1.category = 1 := by
  unfold rx_pw at h
  split at h
  · split at h
    · rename_i hc
      cases h
      exact ⟨rfl, hc⟩
    · cases h
  · cases h
theorem rx_pw2_eq {st : List Value} {q : Value × Value × List Value} (h : rx_pw2 st = some q) : st = q.1 :: q.2.1 :: q.2.2 ∧ q.1.category = 1 ∧ q.2.1.category = 1 := by
  unfold rx_pw2 at h
  split at h
  · split at h
    · rename_i hc
      cases h
      exact ⟨rfl, hc.1, hc.2⟩
    · cases h
  · cases h
theorem rx_tgt_eq {pc : Nat} {off : Int} {t : Nat} (h : rx_tgt pc off = some t) : (pc : Int) + off = (t : Int) := by
  unfold rx_tgt at h
  split at h
  · cases h
    omega
  · cases h
theorem rx_gf_eq {h : rx_H} {q ci k : Nat} {v : Value} (e : rx_gf h q ci k = some v) : ∃ fs, h[q]? = some (.inr (ci, fs)) ∧ fs[k]? = some v := by
  unfold rx_gf at e
  split at e
  · split at e
    · rename_i hq hc
      subst hc
      exact ⟨_, hq, e⟩
    · cases e
  · cases e
theorem rx_pf_eq {h h2 : rx_H} {q ci k : Nat} {v : Value} (e : rx_pf h q ci k v = some h2) : ∃ fs, h[q]? = some (.inr (ci, fs)) ∧ k < fs.length ∧ h2 = h.set q (.inr (ci, fs.set k v)) := by
  unfold rx_pf at e
  split at e
  · split at e
    · rename_i hq hc
      subst hc
      split at e
      · rename_i hk
        cases e
        exact ⟨_, hq, hk, rfl⟩
      · cases e
    · cases e
  · cases e
theorem rx_ga_eq {h : rx_H} {q t : Nat} {r : Nat × (Nat → Int32)} (e : rx_ga h q t = some r) : h[q]? = some (.inl (t, r.1, .inl r.2)) := by
  unfold rx_ga at e
  split at e
  · split at e
    · rename_i hq hc
      subst hc
      cases e
      exact hq
    · cases e
  · cases e
theorem rx_gq_eq {h : rx_H} {q : Nat} {r : Nat × (Nat → Option Nat)} (e : rx_gq h q = some r) : h[q]? = some (.inl (2, r.1, .inr (.inr (.inr (.inr r.2))))) := by
  unfold rx_gq at e
  split at e
  · split at e
    · rename_i hq hc
      subst hc
      cases e
      exact hq
    · cases e
  · cases e
theorem rx_gl_eq {h : rx_H} {q n : Nat} (e : rx_gl h q = some n) : ∃ t f, (t = 0 ∨ t = 1) ∧ h[q]? = some (.inl (t, n, .inl f)) := by
  unfold rx_gl at e
  split at e
  · split at e
    · rename_i hq hc
      cases e
      exact ⟨_, _, hc, hq⟩
    · cases e
  · cases e
theorem rx_ald_eq {h : rx_H} {q t : Nat} {i x : Int32} (e : rx_ald h q t i = some x) : ∃ n f, h[q]? = some (.inl (t, n, .inl f)) ∧ vp_in i n ∧ x = f i.toNatClampNeg := by
  unfold rx_ald at e
  split at e
  · rename_i n f hg
    split at e
    · rename_i hi
      cases e
      exact ⟨n, f, rx_ga_eq hg, vp_in_iff.mpr hi, rfl⟩
    · cases e
  · cases e
theorem rx_ast_eq {h h2 : rx_H} {q t : Nat} {i x : Int32} (e : rx_ast h q t i x = some h2) : ∃ n f, h[q]? = some (.inl (t, n, .inl f)) ∧ vp_in i n ∧ h2 = h.set q (.inl (t, n, .inl (upd f i.toNatClampNeg (rx_nar t x)))) := by
  unfold rx_ast at e
  split at e
  · rename_i n f hg
    split at e
    · rename_i hi
      cases e
      exact ⟨n, f, rx_ga_eq hg, vp_in_iff.mpr hi, rfl⟩
    · cases e
  · cases e
theorem rx_qld_eq {h : rx_H} {q : Nat} {i : Int32} {x : Nat} (e : rx_qld h q i = some x) : ∃ n f, h[q]? = some (.inl (2, n, .inr (.inr (.inr (.inr f))))) ∧ vp_in i n ∧ f i.toNatClampNeg = some x := by
  unfold rx_qld at e
  split at e
  · rename_i n f hg
    split at e
    · rename_i hi
      exact ⟨n, f, rx_gq_eq hg, vp_in_iff.mpr hi, e⟩
    · cases e
  · cases e
theorem rx_sld_eq {sc : rx_S} {i x : Int32} (e : rx_sld sc i = some x) : vp_in i sc.1 ∧ x = sc.2 i.toNatClampNeg := by
  unfold rx_sld at e
  split at e
  · rename_i hi
    cases e
    exact ⟨vp_in_iff.mpr hi, rfl⟩
  · cases e
theorem rx_tsw_eq : ∀ (offs : List Int) (lo d x : Int), ((x < lo ∨ lo + (offs.length : Int) ≤ x) ∧ rx_tsw offs lo d x = d) ∨ (lo ≤ x ∧ x < lo + (offs.length : Int) ∧ offs[(x - lo).toNat]? = some (rx_tsw offs lo d x))
  | [], lo, d, x => Or.inl ⟨by simp only [List.length_nil]; omega, rfl⟩
  | o :: os, lo, d, x => by
    unfold rx_tsw
    by_cases h : x = lo
    · rw [if_pos h]
      subst h
      refine Or.inr ⟨Int.le_refl _, by simp only [List.length_cons]; omega, ?_⟩
      rw [show (x - x).toNat = 0 by omega]
      rfl
    · rw [if_neg h]
      rcases rx_tsw_eq os (lo + 1) d x with ⟨h1, h2⟩ | ⟨h1, h2, h3⟩
      · refine Or.inl ⟨?_, h2⟩
        simp only [List.length_cons]
        omega
      · refine Or.inr ⟨by omega, by simp only [List.length_cons]; omega, ?_⟩
        rw [show (x - lo).toNat = (x - (lo + 1)).toNat + 1 by omega, List.getElem?_cons_succ]
        exact h3
theorem rx_look_f {i idx : Nat} {f : Nat × Nat × Nat × Nat} (h : rx_fl.lookup (rx_ow i, idx) = some f) : ∃ C T N ty, rx_CF f.1 C T N ty ∧ f.2.1 < N ∧ Cond.fieldLink (rx_on (rx_ow i)) idx C (T f.2.1).2.1 (T f.2.1).2.2.1 ∈ rx_ws ∧ ((T f.2.1).2.2.2 = true ↔ f.2.2.2 = 1) ∧ ((ty f.2.1 = .int ∧ f.2.2.1 = 0) ∨ (ty f.2.1 = .boolean ∧ f.2.2.1 = 1) ∨ ((ty f.2.1).isReference = true ∧ f.2.2.1 = 2)) := by
  have hm := rx_look h
  have hw := rx_fws _ hm
  have hk := List.all_eq_true.mp rx_fall _ hm
  obtain ⟨ci, k, kd, fin⟩ := f
  unfold rx_fok2 at hk
  split at hk
  · rename_i C0 T N hc
    simp only [Bool.and_eq_true, decide_eq_true_eq, beq_iff_eq] at hk
    obtain ⟨⟨⟨h1, h2⟩, h3⟩, h4⟩ := hk
    obtain ⟨C, T', N', ty, hcf⟩ := rx_cf ci h1
    have he := hcf.1
    dsimp only at hc
    rw [hc] at he
    cases he
    refine ⟨C0, T, N, ty, hcf, h2, ?_, ?_, ?_⟩
    · have hn := hcf.2.1
      unfold rx_fwd at hw
      dsimp only at hw
      rw [← hn] at hw
      have hgd : vwCl.getD ci ("", fun _ => ("", "", "", false), 0) = (C0, T, N) := by
        rw [List.getD_eq_getElem?_getD, hc]
        rfl
      rw [hgd] at hw
      exact hw
    · dsimp only at h3 ⊢
      rw [h3]
      simp
    · have hp := hcf.2.2.2.1 k h2
      dsimp only at h4 ⊢
      rw [hp] at h4
      cases ht : ty k <;> rw [ht] at h4 <;> simp_all [FieldType.isReference]
  · cases hk
/-- the heap has just the cells that are counted -/
theorem rx_size {D : va_G} {ca : Nat → ClassId} {b z : Nat} {p : Program} {l : Launch} {e : Env} {R : Room} {s : State} {m : MethodId} {args : Array Value} {below : List Frame} {meth : Method} {cod : Code} {i : Nat} {lv : rx_L} {h : rx_H} {bc bs C0 S0 : Nat} {H : Heap} {locs : List Loc} {ls : Array Slot} {cells slots : Nat} {T : State} (hz : z ≤ s.heap.size) (hp : rx_Pt D ca b z s i lv h bc bs C0 S0 H locs ls cells slots) (hT : T.heap = H) (X : Stand p l e R s m args below meth cod T locs cells slots) : H.size = z + h.length := by
  obtain ⟨h1, h2, h3, -⟩ := hp
  have hu := X.heapSize
  rw [hT] at hu
  have hl : z + h.length ≤ H.size := by
    by_cases h0 : h.length = 0
    · rw [h0]
      exact Nat.le_trans hz h3.1
    · have hk : (h.length - 1) < h.length := by omega
      obtain ⟨e9, he⟩ : ∃ e9, h[h.length - 1]? = some e9 := ⟨_, List.getElem?_eq_getElem hk⟩
      have hlt : z + (h.length - 1) < H.size := (h2 _ _ (rx_w_get he)).lt
      omega
  omega
end
section
/-! each instruction of the machine of positions is the machine's -/
section RXN
variable {D : va_G} {ca : Nat → ClassId} {b z : Nat} {sc : rx_S} {i pc : Nat} {p : Program} {l : Launch} {e : Env} {R : Room} {s : State} {m : MethodId} {args : Array Value} {below : List Frame} {meth : Method} {cod : Code} {C0 S0 : Nat} {Q : State → Prop} {lv : rx_L} {st : List Value} {h : rx_H} {bc bs : Nat} {c2 : rx_C}
theorem rx_n_iconst {n : Int} (E : rx_En D ca b z sc i p s m args meth cod R C0 S0) (hd : decode (rx_cd i) pc = .ok (.iconst n, 1)) (hs : rx_ins sc (.iconst n) i pc lv st h bc bs = some (.inl c2)) (k : rx_Go D ca b z p l e R s m args below meth cod C0 S0 Q c2) : rx_Go D ca b z p l e R s m args below meth cod C0 S0 Q (i, pc, lv, st, h, bc, bs) := by
  obtain ⟨hx, hb, hml, hr, hlk, hown, hts, hin, hCx, hz, hf, hlo, hc0, hs0⟩ := E
  cases hs
  intro H locs ls cells slots hp
  exact lv_iconst hx hb hd rfl (k H locs ls cells slots hp)
theorem rx_n_bipush {n : Int} (E : rx_En D ca b z sc i p s m args meth cod R C0 S0) (hd : decode (rx_cd i) pc = .ok (.bipush n, 2)) (hs : rx_ins sc (.bipush n) i pc lv st h bc bs = some (.inl c2)) (k : rx_Go D ca b z p l e R s m args below meth cod C0 S0 Q c2) : rx_Go D ca b z p l e R s m args below meth cod C0 S0 Q (i, pc, lv, st, h, bc, bs) := by
  obtain ⟨hx, hb, hml, hr, hlk, hown, hts, hin, hCx, hz, hf, hlo, hc0, hs0⟩ := E
  cases hs
  intro H locs ls cells slots hp
  exact lv_bipush hx hb hd rfl (k H locs ls cells slots hp)
theorem rx_n_sipush {n : Int} (E : rx_En D ca b z sc i p s m args meth cod R C0 S0) (hd : decode (rx_cd i) pc = .ok (.sipush n, 3)) (hs : rx_ins sc (.sipush n) i pc lv st h bc bs = some (.inl c2)) (k : rx_Go D ca b z p l e R s m args below meth cod C0 S0 Q c2) : rx_Go D ca b z p l e R s m args below meth cod C0 S0 Q (i, pc, lv, st, h, bc, bs) := by
  obtain ⟨hx, hb, hml, hr, hlk, hown, hts, hin, hCx, hz, hf, hlo, hc0, hs0⟩ := E
  cases hs
  intro H locs ls cells slots hp
  exact lv_sipush hx hb hd rfl (k H locs ls cells slots hp)
theorem rx_n_ldc {idx : Nat} (E : rx_En D ca b z sc i p s m args meth cod R C0 S0) (hd : decode (rx_cd i) pc = .ok (.ldc idx, 2)) (hs : rx_ins sc (.ldc idx) i pc lv st h bc bs = some (.inl c2)) (k : rx_Go D ca b z p l e R s m args below meth cod C0 S0 Q c2) : rx_Go D ca b z p l e R s m args below meth cod C0 S0 Q (i, pc, lv, st, h, bc, bs) := by
  obtain ⟨hx, hb, hml, hr, hlk, hown, hts, hin, hCx, hz, hf, hlo, hc0, hs0⟩ := E
  obtain ⟨v, hv, hs⟩ := Option.bind_eq_some_iff.mp hs
  cases hs
  intro H locs ls cells slots hp
  exact lv_ldc hx hb hown (hts _ (rx_kws _ (rx_look hv))) hd (k H locs ls cells slots hp)
theorem rx_n_ldc2_w {idx : Nat} (E : rx_En D ca b z sc i p s m args meth cod R C0 S0) (hd : decode (rx_cd i) pc = .ok (.ldc2_w idx, 3)) (hs : rx_ins sc (.ldc2_w idx) i pc lv st h bc bs = some (.inl c2)) (k : rx_Go D ca b z p l e R s m args below meth cod C0 S0 Q c2) : rx_Go D ca b z p l e R s m args below meth cod C0 S0 Q (i, pc, lv, st, h, bc, bs) := by
  obtain ⟨hx, hb, hml, hr, hlk, hown, hts, hin, hCx, hz, hf, hlo, hc0, hs0⟩ := E
  obtain ⟨v, hv, hs⟩ := Option.bind_eq_some_iff.mp hs
  cases hs
  intro H locs ls cells slots hp
  exact lv_ldc2 hx hb hown (hts _ (rx_k2ws _ (rx_look hv))) hd (k H locs ls cells slots hp)
theorem rx_n_iload_n {n : Fin 4} (E : rx_En D ca b z sc i p s m args meth cod R C0 S0) (hd : decode (rx_cd i) pc = .ok (.iload_n n, 1)) (hs : rx_ins sc (.iload_n n) i pc lv st h bc bs = some (.inl c2)) (k : rx_Go D ca b z p l e R s m args below meth cod C0 S0 Q c2) : rx_Go D ca b z p l e R s m args below meth cod C0 S0 Q (i, pc, lv, st, h, bc, bs) := by
  obtain ⟨hx, hb, hml, hr, hlk, hown, hts, hin, hCx, hz, hf, hlo, hc0, hs0⟩ := E
  have hs : (match lv[(n : Nat)]? with
    | some (some (.int x)) => rx_nx i (pc + 1) lv (.int x :: st) h bc bs
    | _ => none) = some (.inl c2) := hs
  split at hs
  · rename_i x hl
    cases hs
    intro H locs ls cells slots hp
    exact lv_iload_n hx hb hd rfl (hp.2.2.2.1.2.2 _ _ hl).2 (k H locs ls cells slots hp)
  · cases hs
theorem rx_n_iload {n : Nat} (E : rx_En D ca b z sc i p s m args meth cod R C0 S0) (hd : decode (rx_cd i) pc = .ok (.iload n, 2)) (hs : rx_ins sc (.iload n) i pc lv st h bc bs = some (.inl c2)) (k : rx_Go D ca b z p l e R s m args below meth cod C0 S0 Q c2) : rx_Go D ca b z p l e R s m args below meth cod C0 S0 Q (i, pc, lv, st, h, bc, bs) := by
  obtain ⟨hx, hb, hml, hr, hlk, hown, hts, hin, hCx, hz, hf, hlo, hc0, hs0⟩ := E
  have hs : (match lv[n]? with
    | some (some (.int x)) => rx_nx i (pc + 2) lv (.int x :: st) h bc bs
    | _ => none) = some (.inl c2) := hs
  split at hs
  · rename_i x hl
    cases hs
    intro H locs ls cells slots hp
    exact lv_iload hx hb hd (hp.2.2.2.1.2.2 _ _ hl).2 (k H locs ls cells slots hp)
  · cases hs
theorem rx_n_aload_n {n : Fin 4} (E : rx_En D ca b z sc i p s m args meth cod R C0 S0) (hd : decode (rx_cd i) pc = .ok (.aload_n n, 1)) (hs : rx_ins sc (.aload_n n) i pc lv st h bc bs = some (.inl c2)) (k : rx_Go D ca b z p l e R s m args below meth cod C0 S0 Q c2) : rx_Go D ca b z p l e R s m args below meth cod C0 S0 Q (i, pc, lv, st, h, bc, bs) := by
  obtain ⟨hx, hb, hml, hr, hlk, hown, hts, hin, hCx, hz, hf, hlo, hc0, hs0⟩ := E
  have hs : (match lv[(n : Nat)]? with
    | some (some v) => if rx_isr v = true then rx_nx i (pc + 1) lv (v :: st) h bc bs else none
    | _ => none) = some (.inl c2) := hs
  split at hs
  · rename_i v hl
    split at hs
    · rename_i hv
      cases hs
      intro H locs ls cells slots hp
      have hg := (hp.2.2.2.1.2.2 _ _ hl).2
      have kk := k H locs ls cells slots hp
      cases v with
      | ref q => exact lv_aload_n hx hb hd rfl hg kk
      | retAddr q => exact lv_aload_n hx hb hd rfl hg kk
      | _ => cases hv
    · cases hs
  · cases hs
theorem rx_n_aload {n : Nat} (E : rx_En D ca b z sc i p s m args meth cod R C0 S0) (hd : decode (rx_cd i) pc = .ok (.aload n, 2)) (hs : rx_ins sc (.aload n) i pc lv st h bc bs = some (.inl c2)) (k : rx_Go D ca b z p l e R s m args below meth cod C0 S0 Q c2) : rx_Go D ca b z p l e R s m args below meth cod C0 S0 Q (i, pc, lv, st, h, bc, bs) := by
  obtain ⟨hx, hb, hml, hr, hlk, hown, hts, hin, hCx, hz, hf, hlo, hc0, hs0⟩ := E
  have hs : (match lv[n]? with
    | some (some v) => if rx_isr v = true then rx_nx i (pc + 2) lv (v :: st) h bc bs else none
    | _ => none) = some (.inl c2) := hs
  split at hs
  · rename_i v hl
    split at hs
    · rename_i hv
      cases hs
      intro H locs ls cells slots hp
      have hg := (hp.2.2.2.1.2.2 _ _ hl).2
      have kk := k H locs ls cells slots hp
      cases v with
      | ref q => exact lv_aload hx hb hd hg kk
      | retAddr q => exact lv_aload hx hb hd hg kk
      | _ => cases hv
    · cases hs
  · cases hs
theorem rx_n_istore_n {n : Fin 4} (E : rx_En D ca b z sc i p s m args meth cod R C0 S0) (hd : decode (rx_cd i) pc = .ok (.istore_n n, 1)) (hs : rx_ins sc (.istore_n n) i pc lv st h bc bs = some (.inl c2)) (k : rx_Go D ca b z p l e R s m args below meth cod C0 S0 Q c2) : rx_Go D ca b z p l e R s m args below meth cod C0 S0 Q (i, pc, lv, st, h, bc, bs) := by
  obtain ⟨hx, hb, hml, hr, hlk, hown, hts, hin, hCx, hz, hf, hlo, hc0, hs0⟩ := E
  obtain ⟨q, hq, hs9⟩ := Option.bind_eq_some_iff.mp hs
  clear hs
  have hs := hs9; clear hs9
  obtain rfl := rx_p1_eq hq
  split at hs
  · rename_i hn
    cases hs
    intro H locs ls cells slots hp
    obtain ⟨h1, h2, h3, h4, h5⟩ := hp
    exact lv_istore_n hx hb hd rfl h4.lv hn rfl (fun ls' h' => k H locs ls' cells slots ⟨h1, h2, h3, h4.put (v := .int q.1) rfl h', h5⟩)
  · cases hs
theorem rx_n_istore {n : Nat} (E : rx_En D ca b z sc i p s m args meth cod R C0 S0) (hd : decode (rx_cd i) pc = .ok (.istore n, 2)) (hs : rx_ins sc (.istore n) i pc lv st h bc bs = some (.inl c2)) (k : rx_Go D ca b z p l e R s m args below meth cod C0 S0 Q c2) : rx_Go D ca b z p l e R s m args below meth cod C0 S0 Q (i, pc, lv, st, h, bc, bs) := by
  obtain ⟨hx, hb, hml, hr, hlk, hown, hts, hin, hCx, hz, hf, hlo, hc0, hs0⟩ := E
  obtain ⟨q, hq, hs9⟩ := Option.bind_eq_some_iff.mp hs
  clear hs
  have hs := hs9; clear hs9
  obtain rfl := rx_p1_eq hq
  split at hs
  · rename_i hn
    cases hs
    intro H locs ls cells slots hp
    obtain ⟨h1, h2, h3, h4, h5⟩ := hp
    exact lv_istore hx hb hd h4.lv hn rfl (fun ls' h' => k H locs ls' cells slots ⟨h1, h2, h3, h4.put (v := .int q.1) rfl h', h5⟩)
  · cases hs
theorem rx_n_astore_n {n : Fin 4} (E : rx_En D ca b z sc i p s m args meth cod R C0 S0) (hd : decode (rx_cd i) pc = .ok (.astore_n n, 1)) (hs : rx_ins sc (.astore_n n) i pc lv st h bc bs = some (.inl c2)) (k : rx_Go D ca b z p l e R s m args below meth cod C0 S0 Q c2) : rx_Go D ca b z p l e R s m args below meth cod C0 S0 Q (i, pc, lv, st, h, bc, bs) := by
  obtain ⟨hx, hb, hml, hr, hlk, hown, hts, hin, hCx, hz, hf, hlo, hc0, hs0⟩ := E
  obtain ⟨q, hq, hs9⟩ := Option.bind_eq_some_iff.mp hs
  clear hs
  have hs := hs9; clear hs9
  obtain rfl := rx_pr_eq hq
  split at hs
  · rename_i hn
    cases hs
    intro H locs ls cells slots hp
    obtain ⟨h1, h2, h3, h4, h5⟩ := hp
    exact lv_astore_n hx hb hd rfl h4.lv hn rfl (fun ls' h' => k H locs ls' cells slots ⟨h1, h2, h3, h4.put (v := .ref q.1) rfl h', h5⟩)
  · cases hs
theorem rx_n_astore {n : Nat} (E : rx_En D ca b z sc i p s m args meth cod R C0 S0) (hd : decode (rx_cd i) pc = .ok (.astore n, 2)) (hs : rx_ins sc (.astore n) i pc lv st h bc bs = some (.inl c2)) (k : rx_Go D ca b z p l e R s m args below meth cod C0 S0 Q c2) : rx_Go D ca b z p l e R s m args below meth cod C0 S0 Q (i, pc, lv, st, h, bc, bs) := by
  obtain ⟨hx, hb, hml, hr, hlk, hown, hts, hin, hCx, hz, hf, hlo, hc0, hs0⟩ := E
  obtain ⟨q, hq, hs9⟩ := Option.bind_eq_some_iff.mp hs
  clear hs
  have hs := hs9; clear hs9
  obtain rfl := rx_pr_eq hq
  split at hs
  · rename_i hn
    cases hs
    intro H locs ls cells slots hp
    obtain ⟨h1, h2, h3, h4, h5⟩ := hp
    exact lv_astore hx hb hd h4.lv hn rfl (fun ls' h' => k H locs ls' cells slots ⟨h1, h2, h3, h4.put (v := .ref q.1) rfl h', h5⟩)
  · cases hs
theorem rx_n_iinc {n : Nat} {d : Int} (E : rx_En D ca b z sc i p s m args meth cod R C0 S0) (hd : decode (rx_cd i) pc = .ok (.iinc n d, 3)) (hs : rx_ins sc (.iinc n d) i pc lv st h bc bs = some (.inl c2)) (k : rx_Go D ca b z p l e R s m args below meth cod C0 S0 Q c2) : rx_Go D ca b z p l e R s m args below meth cod C0 S0 Q (i, pc, lv, st, h, bc, bs) := by
  obtain ⟨hx, hb, hml, hr, hlk, hown, hts, hin, hCx, hz, hf, hlo, hc0, hs0⟩ := E
  have hs : (match lv[n]? with
    | some (some (.int x)) => if n < rx_ml i then rx_nx i (pc + 3) (lv.set n (some (.int (x + Int32.ofInt d)))) st h bc bs else none
    | _ => none) = some (.inl c2) := hs
  split at hs
  · rename_i x hl
    split at hs
    · rename_i hn
      cases hs
      intro H locs ls cells slots hp
      obtain ⟨h1, h2, h3, h4, h5⟩ := hp
      have hm : (n, Value.int x) ∈ rx_al b z lv := rx_al_in.mpr ⟨.int x, hl, rfl⟩
      obtain ⟨j, hj⟩ := List.getElem?_of_mem hm
      exact lv_iinc hx hb hd h4.lv hj rfl hn rfl (fun ls' h' => k H locs ls' cells slots ⟨h1, h2, h3, h4.put (v := .int (x + Int32.ofInt d)) rfl h', h5⟩)
    · cases hs
  · cases hs
theorem rx_n_iadd  (E : rx_En D ca b z sc i p s m args meth cod R C0 S0) (hd : decode (rx_cd i) pc = .ok (.iadd, 1)) (hs : rx_ins sc (.iadd) i pc lv st h bc bs = some (.inl c2)) (k : rx_Go D ca b z p l e R s m args below meth cod C0 S0 Q c2) : rx_Go D ca b z p l e R s m args below meth cod C0 S0 Q (i, pc, lv, st, h, bc, bs) := by
  obtain ⟨hx, hb, hml, hr, hlk, hown, hts, hin, hCx, hz, hf, hlo, hc0, hs0⟩ := E
  obtain ⟨q, hq, hs9⟩ := Option.bind_eq_some_iff.mp hs
  clear hs
  have hs := hs9; clear hs9
  obtain rfl := rx_p2_eq hq
  cases hs
  intro H locs ls cells slots hp
  exact lv_iadd hx hb hd (k H locs ls cells slots hp)
theorem rx_n_isub  (E : rx_En D ca b z sc i p s m args meth cod R C0 S0) (hd : decode (rx_cd i) pc = .ok (.isub, 1)) (hs : rx_ins sc (.isub) i pc lv st h bc bs = some (.inl c2)) (k : rx_Go D ca b z p l e R s m args below meth cod C0 S0 Q c2) : rx_Go D ca b z p l e R s m args below meth cod C0 S0 Q (i, pc, lv, st, h, bc, bs) := by
  obtain ⟨hx, hb, hml, hr, hlk, hown, hts, hin, hCx, hz, hf, hlo, hc0, hs0⟩ := E
  obtain ⟨q, hq, hs9⟩ := Option.bind_eq_some_iff.mp hs
  clear hs
  have hs := hs9; clear hs9
  obtain rfl := rx_p2_eq hq
  cases hs
  intro H locs ls cells slots hp
  exact lv_isub hx hb hd (k H locs ls cells slots hp)
theorem rx_n_imul  (E : rx_En D ca b z sc i p s m args meth cod R C0 S0) (hd : decode (rx_cd i) pc = .ok (.imul, 1)) (hs : rx_ins sc (.imul) i pc lv st h bc bs = some (.inl c2)) (k : rx_Go D ca b z p l e R s m args below meth cod C0 S0 Q c2) : rx_Go D ca b z p l e R s m args below meth cod C0 S0 Q (i, pc, lv, st, h, bc, bs) := by
  obtain ⟨hx, hb, hml, hr, hlk, hown, hts, hin, hCx, hz, hf, hlo, hc0, hs0⟩ := E
  obtain ⟨q, hq, hs9⟩ := Option.bind_eq_some_iff.mp hs
  clear hs
  have hs := hs9; clear hs9
  obtain rfl := rx_p2_eq hq
  cases hs
  intro H locs ls cells slots hp
  exact lv_imul hx hb hd (k H locs ls cells slots hp)
theorem rx_n_iand  (E : rx_En D ca b z sc i p s m args meth cod R C0 S0) (hd : decode (rx_cd i) pc = .ok (.iand, 1)) (hs : rx_ins sc (.iand) i pc lv st h bc bs = some (.inl c2)) (k : rx_Go D ca b z p l e R s m args below meth cod C0 S0 Q c2) : rx_Go D ca b z p l e R s m args below meth cod C0 S0 Q (i, pc, lv, st, h, bc, bs) := by
  obtain ⟨hx, hb, hml, hr, hlk, hown, hts, hin, hCx, hz, hf, hlo, hc0, hs0⟩ := E
  obtain ⟨q, hq, hs9⟩ := Option.bind_eq_some_iff.mp hs
  clear hs
  have hs := hs9; clear hs9
  obtain rfl := rx_p2_eq hq
  cases hs
  intro H locs ls cells slots hp
  exact lv_iand hx hb hd (k H locs ls cells slots hp)
theorem rx_n_ior  (E : rx_En D ca b z sc i p s m args meth cod R C0 S0) (hd : decode (rx_cd i) pc = .ok (.ior, 1)) (hs : rx_ins sc (.ior) i pc lv st h bc bs = some (.inl c2)) (k : rx_Go D ca b z p l e R s m args below meth cod C0 S0 Q c2) : rx_Go D ca b z p l e R s m args below meth cod C0 S0 Q (i, pc, lv, st, h, bc, bs) := by
  obtain ⟨hx, hb, hml, hr, hlk, hown, hts, hin, hCx, hz, hf, hlo, hc0, hs0⟩ := E
  obtain ⟨q, hq, hs9⟩ := Option.bind_eq_some_iff.mp hs
  clear hs
  have hs := hs9; clear hs9
  obtain rfl := rx_p2_eq hq
  cases hs
  intro H locs ls cells slots hp
  exact lv_ior hx hb hd (k H locs ls cells slots hp)
theorem rx_n_ixor  (E : rx_En D ca b z sc i p s m args meth cod R C0 S0) (hd : decode (rx_cd i) pc = .ok (.ixor, 1)) (hs : rx_ins sc (.ixor) i pc lv st h bc bs = some (.inl c2)) (k : rx_Go D ca b z p l e R s m args below meth cod C0 S0 Q c2) : rx_Go D ca b z p l e R s m args below meth cod C0 S0 Q (i, pc, lv, st, h, bc, bs) := by
  obtain ⟨hx, hb, hml, hr, hlk, hown, hts, hin, hCx, hz, hf, hlo, hc0, hs0⟩ := E
  obtain ⟨q, hq, hs9⟩ := Option.bind_eq_some_iff.mp hs
  clear hs
  have hs := hs9; clear hs9
  obtain rfl := rx_p2_eq hq
  cases hs
  intro H locs ls cells slots hp
  exact lv_ixor hx hb hd (k H locs ls cells slots hp)
theorem rx_n_ishr  (E : rx_En D ca b z sc i p s m args meth cod R C0 S0) (hd : decode (rx_cd i) pc = .ok (.ishr, 1)) (hs : rx_ins sc (.ishr) i pc lv st h bc bs = some (.inl c2)) (k : rx_Go D ca b z p l e R s m args below meth cod C0 S0 Q c2) : rx_Go D ca b z p l e R s m args below meth cod C0 S0 Q (i, pc, lv, st, h, bc, bs) := by
  obtain ⟨hx, hb, hml, hr, hlk, hown, hts, hin, hCx, hz, hf, hlo, hc0, hs0⟩ := E
  obtain ⟨q, hq, hs9⟩ := Option.bind_eq_some_iff.mp hs
  clear hs
  have hs := hs9; clear hs9
  obtain rfl := rx_p2_eq hq
  cases hs
  intro H locs ls cells slots hp
  exact lv_ishr hx hb hd (k H locs ls cells slots hp)
theorem rx_n_irem  (E : rx_En D ca b z sc i p s m args meth cod R C0 S0) (hd : decode (rx_cd i) pc = .ok (.irem, 1)) (hs : rx_ins sc (.irem) i pc lv st h bc bs = some (.inl c2)) (k : rx_Go D ca b z p l e R s m args below meth cod C0 S0 Q c2) : rx_Go D ca b z p l e R s m args below meth cod C0 S0 Q (i, pc, lv, st, h, bc, bs) := by
  obtain ⟨hx, hb, hml, hr, hlk, hown, hts, hin, hCx, hz, hf, hlo, hc0, hs0⟩ := E
  obtain ⟨q, hq, hs9⟩ := Option.bind_eq_some_iff.mp hs
  clear hs
  have hs := hs9; clear hs9
  obtain rfl := rx_p2_eq hq
  split at hs
  · cases hs
  · rename_i hne
    cases hs
    intro H locs ls cells slots hp
    exact lv_irem hx hb hd hne (k H locs ls cells slots hp)
theorem rx_n_i2l  (E : rx_En D ca b z sc i p s m args meth cod R C0 S0) (hd : decode (rx_cd i) pc = .ok (.i2l, 1)) (hs : rx_ins sc (.i2l) i pc lv st h bc bs = some (.inl c2)) (k : rx_Go D ca b z p l e R s m args below meth cod C0 S0 Q c2) : rx_Go D ca b z p l e R s m args below meth cod C0 S0 Q (i, pc, lv, st, h, bc, bs) := by
  obtain ⟨hx, hb, hml, hr, hlk, hown, hts, hin, hCx, hz, hf, hlo, hc0, hs0⟩ := E
  obtain ⟨q, hq, hs9⟩ := Option.bind_eq_some_iff.mp hs
  clear hs
  have hs := hs9; clear hs9
  obtain rfl := rx_p1_eq hq
  cases hs
  intro H locs ls cells slots hp
  exact lv_i2l hx hb hd rfl (k H locs ls cells slots hp)
theorem rx_n_ladd  (E : rx_En D ca b z sc i p s m args meth cod R C0 S0) (hd : decode (rx_cd i) pc = .ok (.ladd, 1)) (hs : rx_ins sc (.ladd) i pc lv st h bc bs = some (.inl c2)) (k : rx_Go D ca b z p l e R s m args below meth cod C0 S0 Q c2) : rx_Go D ca b z p l e R s m args below meth cod C0 S0 Q (i, pc, lv, st, h, bc, bs) := by
  obtain ⟨hx, hb, hml, hr, hlk, hown, hts, hin, hCx, hz, hf, hlo, hc0, hs0⟩ := E
  obtain ⟨q, hq, hs9⟩ := Option.bind_eq_some_iff.mp hs
  clear hs
  have hs := hs9; clear hs9
  obtain rfl := rx_pl_eq hq
  cases hs
  intro H locs ls cells slots hp
  exact lv_ladd hx hb hd (k H locs ls cells slots hp)
theorem rx_n_lcmp  (E : rx_En D ca b z sc i p s m args meth cod R C0 S0) (hd : decode (rx_cd i) pc = .ok (.lcmp, 1)) (hs : rx_ins sc (.lcmp) i pc lv st h bc bs = some (.inl c2)) (k : rx_Go D ca b z p l e R s m args below meth cod C0 S0 Q c2) : rx_Go D ca b z p l e R s m args below meth cod C0 S0 Q (i, pc, lv, st, h, bc, bs) := by
  obtain ⟨hx, hb, hml, hr, hlk, hown, hts, hin, hCx, hz, hf, hlo, hc0, hs0⟩ := E
  obtain ⟨q, hq, hs9⟩ := Option.bind_eq_some_iff.mp hs
  clear hs
  have hs := hs9; clear hs9
  obtain rfl := rx_pl_eq hq
  cases hs
  intro H locs ls cells slots hp
  exact W.lcmp hx hb hd (k H locs ls cells slots hp)
theorem rx_n_dup  (E : rx_En D ca b z sc i p s m args meth cod R C0 S0) (hd : decode (rx_cd i) pc = .ok (.dup, 1)) (hs : rx_ins sc (.dup) i pc lv st h bc bs = some (.inl c2)) (k : rx_Go D ca b z p l e R s m args below meth cod C0 S0 Q c2) : rx_Go D ca b z p l e R s m args below meth cod C0 S0 Q (i, pc, lv, st, h, bc, bs) := by
  obtain ⟨hx, hb, hml, hr, hlk, hown, hts, hin, hCx, hz, hf, hlo, hc0, hs0⟩ := E
  obtain ⟨q, hq, hs9⟩ := Option.bind_eq_some_iff.mp hs
  clear hs
  have hs := hs9; clear hs9
  obtain ⟨rfl, hc⟩ := rx_pw_eq hq
  cases hs
  intro H locs ls cells slots hp
  exact lv_dup hx hb hd (by rw [rx_v_cat]; exact hc) (k H locs ls cells slots hp)
theorem rx_n_pop  (E : rx_En D ca b z sc i p s m args meth cod R C0 S0) (hd : decode (rx_cd i) pc = .ok (.pop, 1)) (hs : rx_ins sc (.pop) i pc lv st h bc bs = some (.inl c2)) (k : rx_Go D ca b z p l e R s m args below meth cod C0 S0 Q c2) : rx_Go D ca b z p l e R s m args below meth cod C0 S0 Q (i, pc, lv, st, h, bc, bs) := by
  obtain ⟨hx, hb, hml, hr, hlk, hown, hts, hin, hCx, hz, hf, hlo, hc0, hs0⟩ := E
  obtain ⟨q, hq, hs9⟩ := Option.bind_eq_some_iff.mp hs
  clear hs
  have hs := hs9; clear hs9
  obtain ⟨rfl, hc⟩ := rx_pw_eq hq
  cases hs
  intro H locs ls cells slots hp
  exact lv_pop hx hb hd (by rw [rx_v_cat]; exact hc) (k H locs ls cells slots hp)
theorem rx_n_dup2  (E : rx_En D ca b z sc i p s m args meth cod R C0 S0) (hd : decode (rx_cd i) pc = .ok (.dup2, 1)) (hs : rx_ins sc (.dup2) i pc lv st h bc bs = some (.inl c2)) (k : rx_Go D ca b z p l e R s m args below meth cod C0 S0 Q c2) : rx_Go D ca b z p l e R s m args below meth cod C0 S0 Q (i, pc, lv, st, h, bc, bs) := by
  obtain ⟨hx, hb, hml, hr, hlk, hown, hts, hin, hCx, hz, hf, hlo, hc0, hs0⟩ := E
  obtain ⟨q, hq, hs9⟩ := Option.bind_eq_some_iff.mp hs
  clear hs
  have hs := hs9; clear hs9
  obtain ⟨rfl, hc, hc2⟩ := rx_pw2_eq hq
  cases hs
  intro H locs ls cells slots hp
  exact lv_dup2_11 hx hb hd (by rw [rx_v_cat]; exact hc) (by rw [rx_v_cat]; exact hc2) (k H locs ls cells slots hp)
theorem rx_n_goto {off : Int} (E : rx_En D ca b z sc i p s m args meth cod R C0 S0) (hd : decode (rx_cd i) pc = .ok (.goto off, 3)) (hs : rx_ins sc (.goto off) i pc lv st h bc bs = some (.inl c2)) (k : rx_Go D ca b z p l e R s m args below meth cod C0 S0 Q c2) : rx_Go D ca b z p l e R s m args below meth cod C0 S0 Q (i, pc, lv, st, h, bc, bs) := by
  obtain ⟨hx, hb, hml, hr, hlk, hown, hts, hin, hCx, hz, hf, hlo, hc0, hs0⟩ := E
  obtain ⟨t, ht, hs9⟩ := Option.bind_eq_some_iff.mp hs
  clear hs
  have hs := hs9; clear hs9
  cases hs
  intro H locs ls cells slots hp
  exact lv_goto hx hb hd (rx_tgt_eq ht) (k H locs ls cells slots hp)
theorem rx_n_ifCond {c : Jvm.ClassFile.Cond} {off : Int} (E : rx_En D ca b z sc i p s m args meth cod R C0 S0) (hd : decode (rx_cd i) pc = .ok (.ifCond c off, 3)) (hs : rx_ins sc (.ifCond c off) i pc lv st h bc bs = some (.inl c2)) (k : rx_Go D ca b z p l e R s m args below meth cod C0 S0 Q c2) : rx_Go D ca b z p l e R s m args below meth cod C0 S0 Q (i, pc, lv, st, h, bc, bs) := by
  obtain ⟨hx, hb, hml, hr, hlk, hown, hts, hin, hCx, hz, hf, hlo, hc0, hs0⟩ := E
  obtain ⟨t, ht, hs9⟩ := Option.bind_eq_some_iff.mp hs
  clear hs
  have hs := hs9; clear hs9
  obtain ⟨q, hq, hs9⟩ := Option.bind_eq_some_iff.mp hs
  clear hs
  have hs := hs9; clear hs9
  obtain rfl := rx_p1_eq hq
  have ht := rx_tgt_eq ht
  split at hs
  · rename_i hc
    cases hs
    intro H locs ls cells slots hp
    have kk := k H locs ls cells slots hp
    cases c
    · exact lv_if_eq hx hb hd ht (fun _ => kk) (fun n => absurd (of_decide_eq_true hc) n)
    · exact lv_if_ne hx hb hd ht (fun _ => kk) (fun n => absurd n (of_decide_eq_true hc))
    · exact lv_if_lt hx hb hd ht (fun _ => kk) (fun n => absurd (of_decide_eq_true hc) n)
    · exact lv_if_ge hx hb hd ht (fun _ => kk) (fun n => absurd (of_decide_eq_true hc) n)
    · exact lv_if_gt hx hb hd ht (fun _ => kk) (fun n => absurd (of_decide_eq_true hc) n)
    · exact lv_if_le hx hb hd ht (fun _ => kk) (fun n => absurd (of_decide_eq_true hc) n)
  · rename_i hc
    cases hs
    intro H locs ls cells slots hp
    have kk := k H locs ls cells slots hp
    cases c
    · exact lv_if_eq hx hb hd ht (fun y => absurd (decide_eq_true y) hc) (fun _ => kk)
    · exact lv_if_ne hx hb hd ht (fun y => absurd (decide_eq_true y) hc) (fun _ => kk)
    · exact lv_if_lt hx hb hd ht (fun y => absurd (decide_eq_true y) hc) (fun _ => kk)
    · exact lv_if_ge hx hb hd ht (fun y => absurd (decide_eq_true y) hc) (fun _ => kk)
    · exact lv_if_gt hx hb hd ht (fun y => absurd (decide_eq_true y) hc) (fun _ => kk)
    · exact lv_if_le hx hb hd ht (fun y => absurd (decide_eq_true y) hc) (fun _ => kk)
theorem rx_n_if_icmp {c : Jvm.ClassFile.Cond} {off : Int} (E : rx_En D ca b z sc i p s m args meth cod R C0 S0) (hd : decode (rx_cd i) pc = .ok (.if_icmp c off, 3)) (hs : rx_ins sc (.if_icmp c off) i pc lv st h bc bs = some (.inl c2)) (k : rx_Go D ca b z p l e R s m args below meth cod C0 S0 Q c2) : rx_Go D ca b z p l e R s m args below meth cod C0 S0 Q (i, pc, lv, st, h, bc, bs) := by
  obtain ⟨hx, hb, hml, hr, hlk, hown, hts, hin, hCx, hz, hf, hlo, hc0, hs0⟩ := E
  obtain ⟨t, ht, hs9⟩ := Option.bind_eq_some_iff.mp hs
  clear hs
  have hs := hs9; clear hs9
  obtain ⟨q, hq, hs9⟩ := Option.bind_eq_some_iff.mp hs
  clear hs
  have hs := hs9; clear hs9
  obtain rfl := rx_p2_eq hq
  have ht := rx_tgt_eq ht
  split at hs
  · rename_i hc
    cases hs
    intro H locs ls cells slots hp
    have kk := k H locs ls cells slots hp
    cases c
    · exact lv_icmp_eq hx hb hd ht (fun _ => kk) (fun n => absurd (of_decide_eq_true hc) n)
    · exact lv_icmp_ne hx hb hd ht (fun _ => kk) (fun n => absurd n (of_decide_eq_true hc))
    · exact lv_icmp_lt hx hb hd ht (fun _ => kk) (fun n => absurd (of_decide_eq_true hc) n)
    · exact lv_icmp_ge hx hb hd ht (fun _ => kk) (fun n => absurd (of_decide_eq_true hc) n)
    · exact lv_icmp_gt hx hb hd ht (fun _ => kk) (fun n => absurd (of_decide_eq_true hc) n)
    · exact lv_icmp_le hx hb hd ht (fun _ => kk) (fun n => absurd (of_decide_eq_true hc) n)
  · rename_i hc
    cases hs
    intro H locs ls cells slots hp
    have kk := k H locs ls cells slots hp
    cases c
    · exact lv_icmp_eq hx hb hd ht (fun y => absurd (decide_eq_true y) hc) (fun _ => kk)
    · exact lv_icmp_ne hx hb hd ht (fun y => absurd (decide_eq_true y) hc) (fun _ => kk)
    · exact lv_icmp_lt hx hb hd ht (fun y => absurd (decide_eq_true y) hc) (fun _ => kk)
    · exact lv_icmp_ge hx hb hd ht (fun y => absurd (decide_eq_true y) hc) (fun _ => kk)
    · exact lv_icmp_gt hx hb hd ht (fun y => absurd (decide_eq_true y) hc) (fun _ => kk)
    · exact lv_icmp_le hx hb hd ht (fun y => absurd (decide_eq_true y) hc) (fun _ => kk)
theorem rx_n_tableswitch {d lo hi : Int} {offs : Array Int} {ln : Nat} (E : rx_En D ca b z sc i p s m args meth cod R C0 S0) (hd : decode (rx_cd i) pc = .ok (.tableswitch d lo hi offs, ln)) (hs : rx_ins sc (.tableswitch d lo hi offs) i pc lv st h bc bs = some (.inl c2)) (k : rx_Go D ca b z p l e R s m args below meth cod C0 S0 Q c2) : rx_Go D ca b z p l e R s m args below meth cod C0 S0 Q (i, pc, lv, st, h, bc, bs) := by
  obtain ⟨hx, hb, hml, hr, hlk, hown, hts, hin, hCx, hz, hf, hlo, hc0, hs0⟩ := E
  obtain ⟨q, hq, hs9⟩ := Option.bind_eq_some_iff.mp hs
  clear hs
  have hs := hs9; clear hs9
  obtain rfl := rx_p1_eq hq
  split at hs
  · rename_i hh
    obtain ⟨t, ht, hs9⟩ := Option.bind_eq_some_iff.mp hs
    clear hs
    have hs := hs9; clear hs9
    cases hs
    intro H locs ls cells slots hp
    have kk := k H locs ls cells slots hp
    have ht := rx_tgt_eq ht
    rcases rx_tsw_eq offs.toList lo d q.1.toInt with ⟨h1, h2⟩ | ⟨h1, h2, h3⟩
    · rw [h2] at ht
      exact lv_tableOut hx hb hd (by omega) ht kk
    · exact lv_tableIn hx hb hd (by omega) (by omega) (by rw [← Array.getElem?_toList]; exact h3) ht kk
  · cases hs
theorem rx_n_lookupswitch {d : Int} {ps : Array (Int × Int)} {ln : Nat} (E : rx_En D ca b z sc i p s m args meth cod R C0 S0) (hd : decode (rx_cd i) pc = .ok (.lookupswitch d ps, ln)) (hs : rx_ins sc (.lookupswitch d ps) i pc lv st h bc bs = some (.inl c2)) (k : rx_Go D ca b z p l e R s m args below meth cod C0 S0 Q c2) : rx_Go D ca b z p l e R s m args below meth cod C0 S0 Q (i, pc, lv, st, h, bc, bs) := by
  obtain ⟨hx, hb, hml, hr, hlk, hown, hts, hin, hCx, hz, hf, hlo, hc0, hs0⟩ := E
  obtain ⟨q, hq, hs9⟩ := Option.bind_eq_some_iff.mp hs
  clear hs
  have hs := hs9; clear hs9
  obtain rfl := rx_p1_eq hq
  split at hs
  · rename_i hh
    obtain ⟨t, ht, hs9⟩ := Option.bind_eq_some_iff.mp hs
    clear hs
    have hs := hs9; clear hs9
    cases hs
    intro H locs ls cells slots hp
    exact lv_lookup hx hb hd hh rfl (rx_tgt_eq ht) (k H locs ls cells slots hp)
  · cases hs
end RXN
end
section
/-! the instructions that read and write cells -/
theorem rx_df_plain : ∀ ci, ci < 10 → ∀ (b z : Nat), ∀ v ∈ rx_df.getD ci [], rx_v b z v = v := by
  intro ci h b z v hv
  have h2 : (List.range 10).all (fun c => (rx_df.getD c []).all (fun v => v == .int 0 || v == .null)) = true := by decide +kernel
  have h3 := List.all_eq_true.mp (List.all_eq_true.mp h2 ci (List.mem_range.mpr h)) v hv
  simp only [Bool.or_eq_true, beq_iff_eq] at h3
  rcases h3 with rfl | rfl <;> rfl
section RXH
variable {D : va_G} {ca : Nat → ClassId} {b z : Nat} {sc : rx_S} {i pc : Nat} {p : Program} {l : Launch} {e : Env} {R : Room} {s : State} {m : MethodId} {args : Array Value} {below : List Frame} {meth : Method} {cod : Code} {C0 S0 : Nat} {Q : State → Prop} {lv : rx_L} {st : List Value} {h : rx_H} {bc bs : Nat} {c2 : rx_C}
theorem rx_n_getfield {idx : Nat} (E : rx_En D ca b z sc i p s m args meth cod R C0 S0) (hd : decode (rx_cd i) pc = .ok (.getfield idx, 3)) (hs : rx_ins sc (.getfield idx) i pc lv st h bc bs = some (.inl c2)) (k : rx_Go D ca b z p l e R s m args below meth cod C0 S0 Q c2) : rx_Go D ca b z p l e R s m args below meth cod C0 S0 Q (i, pc, lv, st, h, bc, bs) := by
  obtain ⟨hx, hb, hml, hr, hlk, hown, hts, hin, hCx, hz, hf, hlo, hc0, hs0⟩ := E
  obtain ⟨f, hff, hs9⟩ := Option.bind_eq_some_iff.mp hs
  clear hs; have hs := hs9; clear hs9
  obtain ⟨q, hq, hs9⟩ := Option.bind_eq_some_iff.mp hs
  clear hs; have hs := hs9; clear hs9
  obtain ⟨v, hv, hs9⟩ := Option.bind_eq_some_iff.mp hs
  clear hs; have hs := hs9; clear hs9
  obtain rfl := rx_pr_eq hq
  cases hs
  intro H locs ls cells slots hp
  obtain ⟨C, T, N, ty, hcf, hk, hlw, -, -⟩ := rx_look_f hff
  obtain ⟨fs, hg, hfv⟩ := rx_gf_eq hv
  have hin2 := hcf.2.2.1
  have hcl := hcf.1
  have hC := hcf.2.2.2.2.2.2.2.2 f.2.1 hk
  exact va_get (D := D) (ci := f.1) (C := C) (T := T) (N := N) hx hb hts hin2 hown hCx.1 hp.2.1 q.1 (rx_w_get hg) hcl f.2.1 hk (hts _ hlw) (fun x9 h9 => by rw [hC] at h9; exact h9) (v := rx_v b z v) (by rw [List.getElem?_map, hfv]; rfl) hd (k H locs ls cells slots hp)
theorem rx_n_putfield {idx : Nat} (E : rx_En D ca b z sc i p s m args meth cod R C0 S0) (hd : decode (rx_cd i) pc = .ok (.putfield idx, 3)) (hs : rx_ins sc (.putfield idx) i pc lv st h bc bs = some (.inl c2)) (k : rx_Go D ca b z p l e R s m args below meth cod C0 S0 Q c2) : rx_Go D ca b z p l e R s m args below meth cod C0 S0 Q (i, pc, lv, st, h, bc, bs) := by
  obtain ⟨hx, hb, hml, hr, hlk, hown, hts, hin, hCx, hz, hf, hlo, hc0, hs0⟩ := E
  obtain ⟨f, hff, hs9⟩ := Option.bind_eq_some_iff.mp hs
  clear hs; have hs := hs9; clear hs9
  obtain ⟨q, hq, hs9⟩ := Option.bind_eq_some_iff.mp hs
  clear hs; have hs := hs9; clear hs9
  obtain rfl := rx_pv_eq hq
  split at hs
  · rename_i hok
    obtain ⟨h2, hh2, hs9⟩ := Option.bind_eq_some_iff.mp hs
    cases hs9
    intro H locs ls cells slots hp
    obtain ⟨C, T, N, ty, hcf, hk, hlw, hfi, hty⟩ := rx_look_f hff
    obtain ⟨fs, hg, hkl, rfl⟩ := rx_pf_eq hh2
    have hin2 := hcf.2.2.1
    have hcl := hcf.1
    have hpd := hcf.2.2.2.1
    have hnm := hcf.2.2.2.2.1
    have hC := hcf.2.2.2.2.2.2.2.2 f.2.1 hk
    obtain ⟨h1, hP, hS, h4, h5, h6⟩ := hp
    have hnf : narrow (ty f.2.1) (rx_v b z q.1) = rx_v b z q.1 ∧ fits (ty f.2.1) (rx_v b z q.1) = true := by
      have hokv := hok.1
      rcases hty with ⟨ht, hkd⟩ | ⟨ht, hkd⟩ | ⟨ht, hkd⟩
      · rw [hkd] at hokv
        rw [ht]
        cases hq1 : q.1 with
        | int x => exact ⟨rfl, rfl⟩
        | _ => rw [hq1] at hokv; cases hokv
      · rw [hkd] at hokv
        rw [ht]
        cases hq1 : q.1 with
        | int x =>
          rw [hq1] at hokv
          have hx01 : x = 0 ∨ x = 1 := by simpa [rx_okf] using hokv
          rcases hx01 with rfl | rfl
          · exact ⟨(by decide +kernel : narrow FieldType.boolean (.int 0) = .int 0), (by decide +kernel : fits FieldType.boolean (.int 0) = true)⟩
          · exact ⟨(by decide +kernel : narrow FieldType.boolean (.int 1) = .int 1), (by decide +kernel : fits FieldType.boolean (.int 1) = true)⟩
        | _ => rw [hq1] at hokv; cases hokv
      · rw [hkd] at hokv
        cases hq1 : q.1 with
        | ref x =>
          cases hty2 : ty f.2.1 <;> rw [hty2] at ht <;> first | (cases ht; done) | exact ⟨rfl, rfl⟩
        | _ => rw [hq1] at hokv; cases hokv
    have hset : ∀ (H1 : Heap) (locs1 : List Loc), va_P D vwCl ((rx_w b z ca h).set q.2.1 (z + q.2.1, .inr (f.1, (fs.map (rx_v b z)).set f.2.1 (rx_v b z q.1)))) H1 → va_S (fun q : Nat => z ≤ q) s.heap H1 locs1 → W p l e R s m args below meth cod H1 locs1 cells slots Q (F0 m (pc + 3) ls (q.2.2.map (rx_v b z))) := by
      intro H1 locs1 hP1 hS1
      refine k H1 locs1 ls cells slots ⟨?_, ?_, hS1, h4, h5, h6⟩
      · rw [h1]; simp
      · have e9 : (fs.map (rx_v b z)).set f.2.1 (rx_v b z q.1) = (fs.set f.2.1 q.1).map (rx_v b z) := by rw [List.map_set]
        rw [e9] at hP1
        have e8 := rx_w_set (b := b) (z := z) (ca := ca) (h := h) (k := q.2.1) (e := .inr (f.1, fs.set f.2.1 q.1))
        rw [← e8]
        exact hP1
    have hsame : ∀ x9, s.fieldFound? (T f.2.1).1 (T f.2.1).2.1 (T f.2.1).2.2.1 = some x9 → s.fieldFound? C (T f.2.1).2.1 (T f.2.1).2.2.1 = some x9 := fun x9 h9 => by rw [hC] at h9; exact h9
    by_cases hfin : (T f.2.1).2.2.2 = true
    · have hf1 := hfi.mp hfin
      have hini : rx_ini i = 1 ∧ f.1 = rx_ow i := by
        rcases hok.2 with h0 | h0
        · rw [hf1] at h0; cases h0
        · exact h0
      have hCown : C = rx_on (rx_ow i) := by rw [hcf.2.1, hini.2]
      exact va_putF (D := D) (ci := f.1) (C := C) (T := T) (N := N) hx hb hts hin2 ty hpd hnm hown hCx.1 hP (rx_w_D b z ca h) hS q.2.1 (rx_w_get hg) hcl f.2.1 hk (hts _ hlw) hsame hfin (hin hini.1) (by rw [hC]; exact hCown) (hpd _ hk) hnf.1 hnf.2 (by rw [List.length_map]; exact hkl) hd (fun H1 locs1 hP1 _ hS1 => hset H1 locs1 hP1 hS1)
    · exact va_put (D := D) (ci := f.1) (C := C) (T := T) (N := N) hx hb hts hin2 ty hpd hnm hown hCx.1 hP (rx_w_D b z ca h) hS q.2.1 (rx_w_get hg) hcl f.2.1 hk (hts _ hlw) hsame (by simpa using hfin) (hpd _ hk) hnf.1 hnf.2 (by rw [List.length_map]; exact hkl) hd (fun H1 locs1 hP1 _ hS1 => hset H1 locs1 hP1 hS1)
  · cases hs
theorem rx_n_iaload  (E : rx_En D ca b z sc i p s m args meth cod R C0 S0) (hd : decode (rx_cd i) pc = .ok (.iaload, 1)) (hs : rx_ins sc (.iaload) i pc lv st h bc bs = some (.inl c2)) (k : rx_Go D ca b z p l e R s m args below meth cod C0 S0 Q c2) : rx_Go D ca b z p l e R s m args below meth cod C0 S0 Q (i, pc, lv, st, h, bc, bs) := by
  obtain ⟨hx, hb, hml, hr, hlk, hown, hts, hin, hCx, hz, hf, hlo, hc0, hs0⟩ := E
  obtain ⟨q, hq, hs9⟩ := Option.bind_eq_some_iff.mp hs
  clear hs; have hs := hs9; clear hs9
  rcases rx_pa_eq hq with ⟨k9, hk9, rfl⟩ | ⟨k9, hk9, rfl⟩
  · rw [hk9] at hs
    obtain ⟨x, hxx, hs9⟩ := Option.bind_eq_some_iff.mp hs
    cases hs9
    intro H locs ls cells slots hp
    obtain ⟨n, f, hg, hi, rfl⟩ := rx_ald_eq hxx
    exact va_iald (D := D) hx hb hCx.1 hp.2.1 k9 0 (rx_w_get hg) rfl hi hd (k H locs ls cells slots hp)
  · rw [hk9] at hs
    obtain ⟨x, hxx, hs9⟩ := Option.bind_eq_some_iff.mp hs
    cases hs9
    intro H locs ls cells slots hp
    obtain ⟨hi, rfl⟩ := rx_sld_eq hxx
    have hX := hCx.2.2.1
    have hbz := hCx.2.2.2
    exact va_sld hx hb hX (Nat.lt_of_lt_of_le hbz hz) (Nat.not_le.mpr hbz) hp.2.2.1 hi hd (k H locs ls cells slots hp)
theorem rx_n_baload  (E : rx_En D ca b z sc i p s m args meth cod R C0 S0) (hd : decode (rx_cd i) pc = .ok (.baload, 1)) (hs : rx_ins sc (.baload) i pc lv st h bc bs = some (.inl c2)) (k : rx_Go D ca b z p l e R s m args below meth cod C0 S0 Q c2) : rx_Go D ca b z p l e R s m args below meth cod C0 S0 Q (i, pc, lv, st, h, bc, bs) := by
  obtain ⟨hx, hb, hml, hr, hlk, hown, hts, hin, hCx, hz, hf, hlo, hc0, hs0⟩ := E
  obtain ⟨q, hq, hs9⟩ := Option.bind_eq_some_iff.mp hs
  clear hs; have hs := hs9; clear hs9
  rcases rx_pa_eq hq with ⟨k9, hk9, rfl⟩ | ⟨k9, hk9, rfl⟩
  · rw [hk9] at hs
    obtain ⟨x, hxx, hs9⟩ := Option.bind_eq_some_iff.mp hs
    cases hs9
    intro H locs ls cells slots hp
    obtain ⟨n, f, hg, hi, rfl⟩ := rx_ald_eq hxx
    exact va_zald (D := D) hx hb hCx.1 hp.2.1 k9 1 (rx_w_get hg) rfl hi hd (k H locs ls cells slots hp)
  · rw [hk9] at hs
    cases hs
theorem rx_n_iastore  (E : rx_En D ca b z sc i p s m args meth cod R C0 S0) (hd : decode (rx_cd i) pc = .ok (.iastore, 1)) (hs : rx_ins sc (.iastore) i pc lv st h bc bs = some (.inl c2)) (k : rx_Go D ca b z p l e R s m args below meth cod C0 S0 Q c2) : rx_Go D ca b z p l e R s m args below meth cod C0 S0 Q (i, pc, lv, st, h, bc, bs) := by
  obtain ⟨hx, hb, hml, hr, hlk, hown, hts, hin, hCx, hz, hf, hlo, hc0, hs0⟩ := E
  obtain ⟨q, hq, hs9⟩ := Option.bind_eq_some_iff.mp hs
  clear hs; have hs := hs9; clear hs9
  obtain ⟨h2, hh2, hs9⟩ := Option.bind_eq_some_iff.mp hs
  clear hs; have hs := hs9; clear hs9
  obtain rfl := rx_ps_eq hq
  cases hs
  intro H locs ls cells slots hp
  obtain ⟨n, f, hg, hi, rfl⟩ := rx_ast_eq hh2
  obtain ⟨h1, hP, hS, h4, h5, h6⟩ := hp
  refine va_iast (D := D) hx hb hCx.1 hP (rx_w_D b z ca h) hS q.2.2.1 0 (rx_w_get hg) rfl hi hd (fun H1 locs1 hP1 _ hS1 => ?_)
  refine k H1 locs1 ls cells slots ⟨by rw [h1]; simp, ?_, hS1, h4, h5, h6⟩
  have e8 := rx_w_set (b := b) (z := z) (ca := ca) (h := h) (k := q.2.2.1) (e := .inl (0, n, .inl (upd f q.2.1.toNatClampNeg (rx_nar 0 q.1))))
  rw [← e8]
  exact hP1
theorem rx_n_bastore  (E : rx_En D ca b z sc i p s m args meth cod R C0 S0) (hd : decode (rx_cd i) pc = .ok (.bastore, 1)) (hs : rx_ins sc (.bastore) i pc lv st h bc bs = some (.inl c2)) (k : rx_Go D ca b z p l e R s m args below meth cod C0 S0 Q c2) : rx_Go D ca b z p l e R s m args below meth cod C0 S0 Q (i, pc, lv, st, h, bc, bs) := by
  obtain ⟨hx, hb, hml, hr, hlk, hown, hts, hin, hCx, hz, hf, hlo, hc0, hs0⟩ := E
  obtain ⟨q, hq, hs9⟩ := Option.bind_eq_some_iff.mp hs
  clear hs; have hs := hs9; clear hs9
  obtain ⟨h2, hh2, hs9⟩ := Option.bind_eq_some_iff.mp hs
  clear hs; have hs := hs9; clear hs9
  obtain rfl := rx_ps_eq hq
  cases hs
  intro H locs ls cells slots hp
  obtain ⟨n, f, hg, hi, rfl⟩ := rx_ast_eq hh2
  obtain ⟨h1, hP, hS, h4, h5, h6⟩ := hp
  refine va_zast (D := D) hx hb hCx.1 hP (rx_w_D b z ca h) hS q.2.2.1 1 (rx_w_get hg) rfl hi hd (fun H1 locs1 hP1 _ hS1 => ?_)
  refine k H1 locs1 ls cells slots ⟨by rw [h1]; simp, ?_, hS1, h4, h5, h6⟩
  have e8 := rx_w_set (b := b) (z := z) (ca := ca) (h := h) (k := q.2.2.1) (e := .inl (1, n, .inl (upd f q.2.1.toNatClampNeg (rx_nar 1 q.1))))
  rw [← e8]
  exact hP1
theorem rx_n_aaload  (E : rx_En D ca b z sc i p s m args meth cod R C0 S0) (hd : decode (rx_cd i) pc = .ok (.aaload, 1)) (hs : rx_ins sc (.aaload) i pc lv st h bc bs = some (.inl c2)) (k : rx_Go D ca b z p l e R s m args below meth cod C0 S0 Q c2) : rx_Go D ca b z p l e R s m args below meth cod C0 S0 Q (i, pc, lv, st, h, bc, bs) := by
  obtain ⟨hx, hb, hml, hr, hlk, hown, hts, hin, hCx, hz, hf, hlo, hc0, hs0⟩ := E
  obtain ⟨q, hq, hs9⟩ := Option.bind_eq_some_iff.mp hs
  clear hs; have hs := hs9; clear hs9
  rcases rx_pa_eq hq with ⟨k9, hk9, rfl⟩ | ⟨k9, hk9, rfl⟩
  · rw [hk9] at hs
    obtain ⟨x, hxx, hs9⟩ := Option.bind_eq_some_iff.mp hs
    cases hs9
    intro H locs ls cells slots hp
    obtain ⟨n, f, hg, hi, hfx⟩ := rx_qld_eq hxx
    have hlt : q.1.toNatClampNeg < n := Nat.not_le.mp fun q9 => hi (Or.inr q9)
    have hcell := hp.2.1 _ _ (rx_w_get hg)
    have harr := (hCx.1.2 2 _ (show (rx_tys ca)[2]? = some (ca 2, .array .int) from rfl)).1 n (fun j => va_rf ((f j).map (fun q => z + q)))
    refine W.aald (v := .ref (z + x)) (ty := .array .int) hx hb hcell harr rfl (fun q9 => by cases q9) (by show ¬ (q.1 < 0 ∨ (arrV _ _ _).slots.size ≤ _); rw [arrV_size]; exact hi) ?_ rfl rfl hd (k H locs ls cells slots hp)
    show (arrV _ _ _).slots[_]? = _
    rw [arrV_read _ _ hlt]
    show some (va_rf ((f q.1.toNatClampNeg).map (fun q => z + q))) = _
    rw [hfx]
    rfl
  · rw [hk9] at hs
    cases hs
theorem rx_n_arraylength  (E : rx_En D ca b z sc i p s m args meth cod R C0 S0) (hd : decode (rx_cd i) pc = .ok (.arraylength, 1)) (hs : rx_ins sc (.arraylength) i pc lv st h bc bs = some (.inl c2)) (k : rx_Go D ca b z p l e R s m args below meth cod C0 S0 Q c2) : rx_Go D ca b z p l e R s m args below meth cod C0 S0 Q (i, pc, lv, st, h, bc, bs) := by
  obtain ⟨hx, hb, hml, hr, hlk, hown, hts, hin, hCx, hz, hf, hlo, hc0, hs0⟩ := E
  obtain ⟨q, hq, hs9⟩ := Option.bind_eq_some_iff.mp hs
  clear hs; have hs := hs9; clear hs9
  rcases rx_pq_eq hq with ⟨k9, hk9, rfl⟩ | ⟨k9, hk9, rfl⟩
  · rw [hk9] at hs
    obtain ⟨n, hn, hs9⟩ := Option.bind_eq_some_iff.mp hs
    cases hs9
    intro H locs ls cells slots hp
    obtain ⟨t, f, ht, hg⟩ := rx_gl_eq hn
    rcases ht with rfl | rfl
    · exact va_alen (D := D) hx hb hCx.1 hp.2.1 k9 0 (rx_w_get hg) rfl rfl hd (k H locs ls cells slots hp)
    · exact va_alen (D := D) hx hb hCx.1 hp.2.1 k9 1 (rx_w_get hg) rfl rfl hd (k H locs ls cells slots hp)
  · rw [hk9] at hs
    cases hs
    intro H locs ls cells slots hp
    have hX := hCx.2.2.1
    have hbz := hCx.2.2.2
    exact va_slen hx hb hX (Nat.lt_of_lt_of_le hbz hz) (Nat.not_le.mpr hbz) hp.2.2.1 hd (k H locs ls cells slots hp)
theorem rx_n_new {idx : Nat} (E : rx_En D ca b z sc i p s m args meth cod R C0 S0) (hd : decode (rx_cd i) pc = .ok (.new idx, 3)) (hs : rx_ins sc (.new idx) i pc lv st h bc bs = some (.inl c2)) (k : rx_Go D ca b z p l e R s m args below meth cod C0 S0 Q c2) : rx_Go D ca b z p l e R s m args below meth cod C0 S0 Q (i, pc, lv, st, h, bc, bs) := by
  obtain ⟨hx, hb, hml, hr, hlk, hown, hts, hin, hCx, hz, hf, hlo, hc0, hs0⟩ := E
  obtain ⟨ci, hci, hs9⟩ := Option.bind_eq_some_iff.mp hs
  clear hs; have hs := hs9; clear hs9
  split at hs
  · rename_i hbud
    cases hs
    intro H locs ls cells slots hp T hT X
    have hp : rx_Pt D ca b z s i lv h bc bs C0 S0 H locs ls cells slots := hp
    have hsz : H.size = z + h.length := rx_size hz hp hT X
    have hm := rx_look hci
    have hlt : ci < 10 := of_decide_eq_true (List.all_eq_true.mp rx_nlall _ hm)
    obtain ⟨C, T9, N, ty, hcl, hC, hin2, hpd, hnm, hinst, hlen, hdf, -⟩ := rx_cf ci hlt
    have hcw := hts _ (rx_nlws _ hm)
    have hini := hts _ (rx_ow_w ci (by omega))
    unfold rx_nwd at hcw
    rw [← hC] at hcw hini
    have hKn : u_Kn s C T9 N (D.1 ci) (D.2 ci) := hCx.1.1 ci _ hcl
    have hfc : s.vm.findClass C = some (D.1 ci) := hKn.2.1
    obtain ⟨h1, hP, hS, h4, h5, h6⟩ := hp
    have hdl : ∀ v ∈ rx_df.getD ci [], rx_v b z v = v := rx_df_plain ci hlt b z
    generalize rx_df.getD ci [] = df at *
    rw [hlen] at hbud
    have hc9 : cells + 1 ≤ R.cells := by omega
    have hs9 : slots + N ≤ R.slots := by omega
    have key : W p l e R s m args below meth cod H locs cells slots Q (F0 m pc ls (st.map (rx_v b z))) := by
     refine W.newcK (g := F0 m pc ls (st.map (rx_v b z))) hx hb hown hcw (hts _ hinst) hini rfl hd hc9 hs9 hfc hsz (fun H1 kC hkC e1 z1 o1 => ?_)
     have hres : rx_Pt D ca b z s i lv (h ++ [.inr (ci, df)]) (bc - 1) (bs - df.length) C0 S0 H1 locs ls (cells + 1) (slots + N) := by
      refine ⟨?_, ?_, ?_, h4, by omega, by rw [hlen]; omega⟩
      · rw [List.length_append]
        simp only [List.length_singleton]
        omega
      · have hk9 : ∀ (k : Nat) (x : Nat × va_E), (rx_w b z ca h)[k]? = some x → H1[x.1]? = H[x.1]? := fun k x hx9 => o1 x.1 (by rw [← hsz]; exact (hP k x hx9).lt)
        rw [rx_w_app]
        refine (hP.kept hk9).app (fun k x hx9 => ?_)
        have hz9 : k < 1 := (List.getElem?_eq_some_iff.mp hx9).1
        rw [show k = 0 by omega] at hx9
        cases hx9
        refine ⟨_, hcl, ?_⟩
        have hbn := u_born ty hts hin2 hKn hkC e1 hpd
        refine hbn.to (fun j hj => ?_)
        rw [hdf j hj, List.map_congr_left hdl, List.map_id']
      · exact ⟨Nat.le_trans hS.1 (by omega), fun x h9 h10 => (o1 x (by have := hS.1; omega)).trans (hS.2.1 x h9 h10), hS.2.2⟩
     exact k H1 locs ls (cells + 1) (slots + N) hres
    exact key T hT X
  · cases hs
theorem rx_n_newarray {at_ : ArrayType} (E : rx_En D ca b z sc i p s m args meth cod R C0 S0) (hd : decode (rx_cd i) pc = .ok (.newarray at_, 2)) (hs : rx_ins sc (.newarray at_) i pc lv st h bc bs = some (.inl c2)) (k : rx_Go D ca b z p l e R s m args below meth cod C0 S0 Q c2) : rx_Go D ca b z p l e R s m args below meth cod C0 S0 Q (i, pc, lv, st, h, bc, bs) := by
  obtain ⟨hx, hb, hml, hr, hlk, hown, hts, hin, hCx, hz, hf, hlo, hc0, hs0⟩ := E
  obtain ⟨t, ht, hs9⟩ := Option.bind_eq_some_iff.mp hs
  clear hs; have hs := hs9; clear hs9
  obtain ⟨q, hq, hs9⟩ := Option.bind_eq_some_iff.mp hs
  clear hs; have hs := hs9; clear hs9
  obtain rfl := rx_p1_eq hq
  split at hs
  · rename_i hbud
    cases hs
    intro H locs ls cells slots hp T hT X
    have hp : rx_Pt D ca b z s i lv h bc bs C0 S0 H locs ls cells slots := hp
    have hsz : H.size = z + h.length := rx_size hz hp hT X
    obtain ⟨h1, hP, hS, h4, h5, h6⟩ := hp
    have hn0 : ¬ q.1 < 0 := by
      rw [Int32.lt_iff_toInt_lt]
      have := hbud.1
      simp only [Int32.toInt_zero]
      omega
    have hle : q.1.toNatClampNeg ≤ 10000 := by
      have h9 := hbud.2.1
      show q.1.toInt.toNat ≤ 10000
      omega
    obtain ⟨ty, hty, htt, hdv, hac, hcb, hra⟩ : ∃ ty, newarray.typeOf at_ = ty ∧ (rx_tys ca)[t]? = some (ca t, ty) ∧ defaultValue ty = .int 0 ∧ Cond.arrayClass ty ∈ rx_ws ∧ componentBytes ty ≤ 4 ∧ (va_RA s (ca t) ty → s.vm.findClass ("[" ++ ty.toString) = some (ca t)) := by
      cases at_ <;> first | (cases ht; done) | skip
      · cases ht; exact ⟨_, rfl, rfl, rfl, rx_acZ, by decide, fun h => h⟩
      · cases ht; exact ⟨_, rfl, rfl, rfl, rx_acI, by decide, fun h => h⟩
    have hra := hra (hCx.1.2 t _ htt).2
    subst hty
    have hby : q.1.toNatClampNeg * componentBytes (newarray.typeOf at_) ≤ 536870912 := Nat.le_trans (Nat.mul_le_mul hle hcb) (by decide)
    have hc9 : cells + 1 ≤ R.cells := by omega
    have hs9 : slots + q.1.toNatClampNeg ≤ R.slots := by omega
    have key : W p l e R s m args below meth cod H locs cells slots Q (F0 m pc ls (.int q.1 :: q.2.map (rx_v b z))) := by
     refine va_newaK (g := F0 m pc ls (.int q.1 :: q.2.map (rx_v b z))) hx hb (hts _ hac) rfl hd rfl hn0 rfl hby hc9 hs9 hsz (fun H1 cA e1 z1 o1 hAr hNm => ?_)
     have hcA : cA = ca t := Option.some.inj (hNm.symm.trans hra)
     subst hcA
     have hres : rx_Pt D ca b z s i lv (h ++ [.inl (t, q.1.toNatClampNeg, .inl (fun _ => 0))]) (bc - 1) (bs - q.1.toNatClampNeg) C0 S0 H1 locs ls (cells + 1) (slots + q.1.toNatClampNeg) := by
      refine ⟨?_, ?_, ?_, h4, by omega, by omega⟩
      · rw [List.length_append]
        simp only [List.length_singleton]
        omega
      · have hk9 : ∀ (k : Nat) (x : Nat × va_E), (rx_w b z ca h)[k]? = some x → H1[x.1]? = H[x.1]? := fun k x hx9 => o1 x.1 (by rw [← hsz]; exact (hP k x hx9).lt)
        rw [rx_w_app]
        refine (hP.kept hk9).app (fun k x hx9 => ?_)
        have hz9 : k < 1 := (List.getElem?_eq_some_iff.mp hx9).1
        rw [show k = 0 by omega] at hx9
        cases hx9
        show H1[z + h.length]? = some (vp_cell _ _)
        rw [e1, hdv]
        rfl
      · exact ⟨Nat.le_trans hS.1 (by omega), fun x h9 h10 => (o1 x (by have := hS.1; omega)).trans (hS.2.1 x h9 h10), hS.2.2⟩
     exact k H1 locs ls (cells + 1) (slots + q.1.toNatClampNeg) hres
    exact key T hT X
  · cases hs
end RXH
end
section
/-! new int[n][m]: the outer array, and its rows behind it -/
theorem rx_outer (c : ClassId) (N h0 : Nat) : ∀ i : Nat, Jvm.Free.Multi.outerC c N h0 i = arrV c N (fun j => va_rf (if j < i then some (h0 + 1 + j) else none))
  | 0 => by
    show ({ cls := c, slots := Array.replicate N .null, vm := .none } : Cell) = _
    rw [arrV_new]
    refine congrArg (arrV c N) (funext fun j => ?_)
    simp [va_rf]
  | i + 1 => by
    show (Jvm.Free.Multi.outerC c N h0 i).setSlot i (.ref (h0 + 1 + i)) = _
    rw [rx_outer c N h0 i, arrV_store]
    refine congrArg (arrV c N) (funext fun j => ?_)
    by_cases e : j = i
    · subst e
      simp [updV, va_rf]
    · by_cases h : j < i
      · simp [updV, e, h, Nat.lt_succ_of_lt h]
      · simp [updV, e, h, show ¬ j < i + 1 by omega]
theorem rx_w_rep {b z : Nat} {ca : Nat → ClassId} {e : va_E} : ∀ (n : Nat) (h : rx_H), rx_w b z ca (h ++ List.replicate n e) = rx_w b z ca h ++ (List.range n).map (fun j => (z + h.length + j, rx_e b z ca e)) := by
  intro n h
  refine List.ext_getElem? fun j => ?_
  rw [List.getElem?_append, rx_w_len]
  simp only [rx_w, List.getElem?_mapIdx]
  by_cases hj : j < h.length
  · simp [hj, List.getElem?_append]
  · rw [if_neg hj, List.getElem?_append_right (by omega)]
    by_cases hk : j - h.length < n
    · simp [List.getElem?_replicate, hk, List.getElem?_map, List.getElem?_range hk]
      omega
    · simp [List.getElem?_replicate, hk, List.getElem?_map]
theorem rx_n_mna {D : va_G} {ca : Nat → ClassId} {b z : Nat} {sc : rx_S} {i pc : Nat} {p : Program} {l : Launch} {e : Env} {R : Room} {s : State} {m : MethodId} {args : Array Value} {below : List Frame} {meth : Method} {cod : Code} {C0 S0 : Nat} {Q : State → Prop} {lv : rx_L} {st : List Value} {h : rx_H} {bc bs : Nat} {c2 : rx_C} {idx dim : Nat} (E : rx_En D ca b z sc i p s m args meth cod R C0 S0) (hd : decode (rx_cd i) pc = .ok (.multianewarray idx dim, 4)) (hs : rx_ins sc (.multianewarray idx dim) i pc lv st h bc bs = some (.inl c2)) (k : rx_Go D ca b z p l e R s m args below meth cod C0 S0 Q c2) : rx_Go D ca b z p l e R s m args below meth cod C0 S0 Q (i, pc, lv, st, h, bc, bs) := by
  obtain ⟨hx, hb, hml, hr, hlk, hown, hts, hin, hCx, hz, hf, hlo, hc0, hs0⟩ := E
  obtain ⟨q, hq, hs9⟩ := Option.bind_eq_some_iff.mp hs
  clear hs
  obtain rfl := rx_p2_eq hq
  obtain ⟨x, y, st2⟩ := q
  dsimp only at hs9
  split at hs9
  · rename_i hbud
    obtain ⟨ho, rfl, rfl, b1, b2, b3, b4, b5, b6⟩ := hbud
    cases hs9
    intro H locs ls cells slots hp T hT X
    have hp : rx_Pt D ca b z s i lv h bc bs C0 S0 H locs ls cells slots := hp
    have hsz : H.size = z + h.length := rx_size hz hp hT X
    obtain ⟨h1, hP, hS, h4, h5, h6⟩ := hp
    have hn0 : ¬ x < 0 := by rw [Int32.lt_iff_toInt_lt]; simp only [Int32.toInt_zero]; omega
    have hk0 : ¬ y < 0 := by rw [Int32.lt_iff_toInt_lt]; simp only [Int32.toInt_zero]; omega
    have hxl : x.toNatClampNeg ≤ 10000 := by show x.toInt.toNat ≤ 10000; omega
    have hyl : y.toNatClampNeg ≤ 10000 := by show y.toInt.toNat ≤ 10000; omega
    have hclink : (Cond.classLink (rx_on (rx_ow i)) 18 ("[" ++ (FieldType.array .int).toString)).before args s = true := by
      rw [ho]
      exact hts _ rx_clA
    have hover : (Cond.arrayOver (.array .int)).before args s = true := hCx.2.1.2
    have hd2 : decode cod.code pc = .ok (.multianewarray 18 2, 4) := by rw [hb]; exact hd
    obtain ⟨vm₁, cA, comp, -, fA, fC, hO, -, X', step⟩ := X.multianewarray2F (ty := .int) hx hown hclink hover (hts _ rx_acI) (g := F0 m pc ls (.int y :: .int x :: st2.map (rx_v b z))) rfl hd2 rfl hn0 hk0 (by omega) (by show y.toNatClampNeg * 4 ≤ _; omega) (by omega) rfl rfl (by omega) (by omega)
    have e0 : comp = ca 0 := by
      have h8 : s.vm.findClass ("[" ++ FieldType.int.toString) = some (ca 0) := (hCx.1.2 0 _ (show (rx_tys ca)[0]? = some (ca 0, .int) from rfl)).2
      exact Option.some.inj (fC.symm.trans h8)
    have e2 : cA = ca 2 := by
      have h8 : s.vm.findClass ("[" ++ (FieldType.array .int).toString) = some (ca 2) := (hCx.1.2 2 _ (show (rx_tys ca)[2]? = some (ca 2, .array .int) from rfl)).2
      exact Option.some.inj (fA.symm.trans h8)
    subst e0
    subst e2
    have hTh : (T.setVm vm₁).heap = H := hT
    obtain ⟨f1, f2, -, -⟩ := Jvm.Free.Multi.fill_facts (T.setVm vm₁) (ca 2) (ca 0) x.toNatClampNeg y.toNatClampNeg (defaultValue .int) x.toNatClampNeg
    have hold : ∀ a : Nat, a < H.size → (Jvm.Free.Multi.fill (T.setVm vm₁) (ca 2) (ca 0) x.toNatClampNeg y.toNatClampNeg (defaultValue .int) x.toNatClampNeg).heap[a]? = H[a]? := fun a ha => by
      rw [← hTh]
      exact Jvm.Free.Multi.fill_old (T.setVm vm₁) (ca 2) (ca 0) x.toNatClampNeg y.toNatClampNeg (defaultValue .int) (a := a) (by rw [hTh]; exact ha) x.toNatClampNeg
    have hrow : ∀ j : Nat, j < x.toNatClampNeg → (Jvm.Free.Multi.fill (T.setVm vm₁) (ca 2) (ca 0) x.toNatClampNeg y.toNatClampNeg (defaultValue .int) x.toNatClampNeg).heap[H.size + 1 + j]? = some (Jvm.Free.Multi.innerC (ca 0) y.toNatClampNeg (defaultValue .int)) := fun j hj => by
      have := Jvm.Free.Multi.fill_inner (T.setVm vm₁) (ca 2) (ca 0) x.toNatClampNeg y.toNatClampNeg (defaultValue .int) x.toNatClampNeg j hj
      rw [hTh] at this
      exact this
    rw [hTh] at f1 f2
    generalize Jvm.Free.Multi.fill (T.setVm vm₁) (ca 2) (ca 0) x.toNatClampNeg y.toNatClampNeg (defaultValue .int) x.toNatClampNeg = F at X' step f1 f2 hold hrow
    generalize hN : x.toNatClampNeg = N at *
    generalize hM : y.toNatClampNeg = M at *
    have hres : rx_Pt D ca b z s i lv (h ++ [.inl (2, N, .inr (.inr (.inr (.inr (fun j => if j < N then some (h.length + 1 + j) else none)))))] ++ List.replicate N (.inl (0, M, .inl (fun _ => 0)))) (bc - (1 + N)) (bs - (N + N * M)) C0 S0 F.heap locs ls (cells + 1 + N) (slots + N + N * M) := by
      refine ⟨?_, ?_, ?_, h4, by omega, by omega⟩
      · simp only [List.length_append, List.length_singleton, List.length_replicate]
        omega
      · rw [rx_w_rep, rx_w_app]
        refine ((hP.kept (fun k9 x9 hx9 => hold x9.1 ((hP k9 x9 hx9).lt))).app (fun k9 x9 hx9 => ?_)).app (fun k9 x9 hx9 => ?_)
        · have hz9 : k9 < 1 := (List.getElem?_eq_some_iff.mp hx9).1
          rw [show k9 = 0 by omega] at hx9
          cases hx9
          show F.heap[z + h.length]? = some (vp_cell _ _)
          rw [← hsz, f2, rx_outer, vp_cell_q]
          refine congrArg some (congrArg (arrV (ca 2) N) (funext fun j => ?_))
          by_cases hj : j < N
          · rw [if_pos hj]
            show va_rf (some _) = va_rf ((if j < N then some (h.length + 1 + j) else none).map (fun q => z + q))
            rw [if_pos hj, hsz]
            exact congrArg Value.ref (by omega : z + h.length + 1 + j = z + (h.length + 1 + j))
          · rw [if_neg hj]
            show va_rf none = va_rf ((if j < N then some (h.length + 1 + j) else none).map (fun q => z + q))
            rw [if_neg hj]
            rfl
        · obtain ⟨j, hj, rfl⟩ := List.mem_map.mp (List.mem_of_getElem? hx9)
          have hj := List.mem_range.mp hj
          show F.heap[z + (h ++ [_]).length + j]? = some (vp_cell _ _)
          rw [List.length_append, List.length_singleton, show z + (h.length + 1) + j = H.size + 1 + j by omega, hrow j hj]
          show some (Jvm.Free.Multi.innerC (ca 0) M (.int 0)) = _
          unfold Jvm.Free.Multi.innerC
          rw [arrV_new]
          rfl
      · exact ⟨Nat.le_trans hS.1 (by omega), fun a h9 h10 => (hold a (by have := hS.1; omega)).trans (hS.2.1 a h9 h10), hS.2.2⟩
    obtain ⟨t, a1, b9⟩ := k F.heap locs ls (cells + 1 + N) (slots + N + N * M) hres F rfl X'
    refine ⟨t, step t ?_, b9⟩
    have e9 : T.heap.size = z + h.length := by rw [hT]; exact hsz
    rw [e9]
    exact a1
  · cases hs9
end
