-- the tables' words (the skeleton's part A), then names: taken from the printed papers
-- ===== PART A: goes FIRST, ahead of the names: the tables' words, and 'selects' of the private methods out of them =====
/-- a private method of a class that the tables say can be made, by its rows of tables_1 -/
def lw_okq (q : MethodName × Nat) : Prop := (q.1.cls ≠ "java/lang/invoke/MethodHandle" ∧ q.1.cls ≠ "java/lang/invoke/VarHandle") ∧ Cond.instantiable q.1.cls q.2 ∈ tables_1 ∧ Cond.privateMethod q.1 ∈ tables_1 ∧ Cond.instanceMethod q.1 ∈ tables_1
theorem lw_p0 : lw_okq (⟨"ZStreams", "hasStream", "(I)Z"⟩, 18) := ⟨⟨by decide +kernel, by decide +kernel⟩, List.mem_of_getElem? (i := 13) (by decide +kernel), List.mem_of_getElem? (i := 214) (by decide +kernel), List.mem_of_getElem? (i := 215) (by decide +kernel)⟩
theorem lw_p1 : lw_okq (⟨"ZStreams", "turnTranscriptOn", "()I"⟩, 18) := ⟨⟨by decide +kernel, by decide +kernel⟩, List.mem_of_getElem? (i := 13) (by decide +kernel), List.mem_of_getElem? (i := 222) (by decide +kernel), List.mem_of_getElem? (i := 223) (by decide +kernel)⟩
theorem lw_p2 : lw_okq (⟨"ZStreams", "giveTranscriptFile", "()I"⟩, 18) := ⟨⟨by decide +kernel, by decide +kernel⟩, List.mem_of_getElem? (i := 13) (by decide +kernel), List.mem_of_getElem? (i := 226) (by decide +kernel), List.mem_of_getElem? (i := 227) (by decide +kernel)⟩
theorem lw_p3 : lw_okq (⟨"ZStreams", "ask", "()I"⟩, 18) := ⟨⟨by decide +kernel, by decide +kernel⟩, List.mem_of_getElem? (i := 13) (by decide +kernel), List.mem_of_getElem? (i := 230) (by decide +kernel), List.mem_of_getElem? (i := 231) (by decide +kernel)⟩
theorem lw_p4 : lw_okq (⟨"ZStreams", "turnTranscriptOff", "()I"⟩, 18) := ⟨⟨by decide +kernel, by decide +kernel⟩, List.mem_of_getElem? (i := 13) (by decide +kernel), List.mem_of_getElem? (i := 262) (by decide +kernel), List.mem_of_getElem? (i := 263) (by decide +kernel)⟩
theorem lw_p5 : lw_okq (⟨"ZStreams", "openTable", "(I)I"⟩, 18) := ⟨⟨by decide +kernel, by decide +kernel⟩, List.mem_of_getElem? (i := 13) (by decide +kernel), List.mem_of_getElem? (i := 266) (by decide +kernel), List.mem_of_getElem? (i := 267) (by decide +kernel)⟩
theorem lw_p6 : lw_okq (⟨"ZStreams", "closeTable", "()I"⟩, 18) := ⟨⟨by decide +kernel, by decide +kernel⟩, List.mem_of_getElem? (i := 13) (by decide +kernel), List.mem_of_getElem? (i := 283) (by decide +kernel), List.mem_of_getElem? (i := 284) (by decide +kernel)⟩
theorem lw_p7 : lw_okq (⟨"ZStreams", "turnCommandsOn", "()I"⟩, 18) := ⟨⟨by decide +kernel, by decide +kernel⟩, List.mem_of_getElem? (i := 13) (by decide +kernel), List.mem_of_getElem? (i := 319) (by decide +kernel), List.mem_of_getElem? (i := 320) (by decide +kernel)⟩
theorem lw_p8 : lw_okq (⟨"ZStreams", "turnCommandsOff", "()I"⟩, 18) := ⟨⟨by decide +kernel, by decide +kernel⟩, List.mem_of_getElem? (i := 13) (by decide +kernel), List.mem_of_getElem? (i := 323) (by decide +kernel), List.mem_of_getElem? (i := 324) (by decide +kernel)⟩
theorem lw_p9 : lw_okq (⟨"ZStreams", "writeIntoTable", "(I)I"⟩, 18) := ⟨⟨by decide +kernel, by decide +kernel⟩, List.mem_of_getElem? (i := 13) (by decide +kernel), List.mem_of_getElem? (i := 334) (by decide +kernel), List.mem_of_getElem? (i := 335) (by decide +kernel)⟩
theorem lw_p10 : lw_okq (⟨"ZStreams", "show", "(I)I"⟩, 18) := ⟨⟨by decide +kernel, by decide +kernel⟩, List.mem_of_getElem? (i := 13) (by decide +kernel), List.mem_of_getElem? (i := 344) (by decide +kernel), List.mem_of_getElem? (i := 345) (by decide +kernel)⟩
theorem lw_p11 : lw_okq (⟨"ZStreams", "writeToTranscript", "(I)Z"⟩, 18) := ⟨⟨by decide +kernel, by decide +kernel⟩, List.mem_of_getElem? (i := 13) (by decide +kernel), List.mem_of_getElem? (i := 363) (by decide +kernel), List.mem_of_getElem? (i := 364) (by decide +kernel)⟩
theorem lw_p12 : lw_okq (⟨"ZStreams", "writeBehind", "(II)Z"⟩, 18) := ⟨⟨by decide +kernel, by decide +kernel⟩, List.mem_of_getElem? (i := 13) (by decide +kernel), List.mem_of_getElem? (i := 367) (by decide +kernel), List.mem_of_getElem? (i := 368) (by decide +kernel)⟩
theorem lw_p13 : lw_okq (⟨"ZStreams", "faultOfLoad", "(III)I"⟩, 18) := ⟨⟨by decide +kernel, by decide +kernel⟩, List.mem_of_getElem? (i := 13) (by decide +kernel), List.mem_of_getElem? (i := 469) (by decide +kernel), List.mem_of_getElem? (i := 470) (by decide +kernel)⟩
theorem lw_p14 : lw_okq (⟨"ZStreams", "endSpentSource", "()V"⟩, 18) := ⟨⟨by decide +kernel, by decide +kernel⟩, List.mem_of_getElem? (i := 13) (by decide +kernel), List.mem_of_getElem? (i := 485) (by decide +kernel), List.mem_of_getElem? (i := 486) (by decide +kernel)⟩
theorem lw_p15 : lw_okq (⟨"ZStreams", "readTyped", "(I)V"⟩, 18) := ⟨⟨by decide +kernel, by decide +kernel⟩, List.mem_of_getElem? (i := 13) (by decide +kernel), List.mem_of_getElem? (i := 493) (by decide +kernel), List.mem_of_getElem? (i := 494) (by decide +kernel)⟩
def lw_privs_1 : List (MethodName × Nat) := [(⟨"ZStreams", "hasStream", "(I)Z"⟩, 18), (⟨"ZStreams", "turnTranscriptOn", "()I"⟩, 18), (⟨"ZStreams", "giveTranscriptFile", "()I"⟩, 18), (⟨"ZStreams", "ask", "()I"⟩, 18), (⟨"ZStreams", "turnTranscriptOff", "()I"⟩, 18), (⟨"ZStreams", "openTable", "(I)I"⟩, 18), (⟨"ZStreams", "closeTable", "()I"⟩, 18), (⟨"ZStreams", "turnCommandsOn", "()I"⟩, 18), (⟨"ZStreams", "turnCommandsOff", "()I"⟩, 18), (⟨"ZStreams", "writeIntoTable", "(I)I"⟩, 18), (⟨"ZStreams", "show", "(I)I"⟩, 18), (⟨"ZStreams", "writeToTranscript", "(I)Z"⟩, 18), (⟨"ZStreams", "writeBehind", "(II)Z"⟩, 18), (⟨"ZStreams", "faultOfLoad", "(III)I"⟩, 18), (⟨"ZStreams", "endSpentSource", "()V"⟩, 18), (⟨"ZStreams", "readTyped", "(I)V"⟩, 18)]
theorem lw_r1 : ∀ q ∈ lw_privs_1, lw_okq q := List.forall_mem_cons.mpr ⟨lw_p0, List.forall_mem_cons.mpr ⟨lw_p1, List.forall_mem_cons.mpr ⟨lw_p2, List.forall_mem_cons.mpr ⟨lw_p3, List.forall_mem_cons.mpr ⟨lw_p4, List.forall_mem_cons.mpr ⟨lw_p5, List.forall_mem_cons.mpr ⟨lw_p6, List.forall_mem_cons.mpr ⟨lw_p7, List.forall_mem_cons.mpr ⟨lw_p8, List.forall_mem_cons.mpr ⟨lw_p9, List.forall_mem_cons.mpr ⟨lw_p10, List.forall_mem_cons.mpr ⟨lw_p11, List.forall_mem_cons.mpr ⟨lw_p12, List.forall_mem_cons.mpr ⟨lw_p13, List.forall_mem_cons.mpr ⟨lw_p14, List.forall_mem_cons.mpr ⟨lw_p15, fun _ h => absurd h List.not_mem_nil⟩⟩⟩⟩⟩⟩⟩⟩⟩⟩⟩⟩⟩⟩⟩⟩
theorem lw_p16 : lw_okq (⟨"ZStreams", "readFile", "(I)V"⟩, 18) := ⟨⟨by decide +kernel, by decide +kernel⟩, List.mem_of_getElem? (i := 13) (by decide +kernel), List.mem_of_getElem? (i := 505) (by decide +kernel), List.mem_of_getElem? (i := 506) (by decide +kernel)⟩
theorem lw_p17 : lw_okq (⟨"ZStreams", "echoLine", "(Z)V"⟩, 18) := ⟨⟨by decide +kernel, by decide +kernel⟩, List.mem_of_getElem? (i := 13) (by decide +kernel), List.mem_of_getElem? (i := 509) (by decide +kernel), List.mem_of_getElem? (i := 510) (by decide +kernel)⟩
theorem lw_p18 : lw_okq (⟨"ZStreams", "writeToCommands", "(I)V"⟩, 18) := ⟨⟨by decide +kernel, by decide +kernel⟩, List.mem_of_getElem? (i := 13) (by decide +kernel), List.mem_of_getElem? (i := 521) (by decide +kernel), List.mem_of_getElem? (i := 522) (by decide +kernel)⟩
theorem lw_p19 : lw_okq (⟨"ZStreams$Player", "makeReady", "(IZ)V"⟩, 4) := ⟨⟨by decide +kernel, by decide +kernel⟩, List.mem_of_getElem? (i := 135) (by decide +kernel), List.mem_of_getElem? (i := 538) (by decide +kernel), List.mem_of_getElem? (i := 539) (by decide +kernel)⟩
theorem lw_p20 : lw_okq (⟨"ZStreamsModel", "getFile", "()I"⟩, 32) := ⟨⟨by decide +kernel, by decide +kernel⟩, List.mem_of_getElem? (i := 622) (by decide +kernel), List.mem_of_getElem? (i := 732) (by decide +kernel), List.mem_of_getElem? (i := 733) (by decide +kernel)⟩
theorem lw_p21 : lw_okq (⟨"ZStreamsModel", "ask", "()I"⟩, 32) := ⟨⟨by decide +kernel, by decide +kernel⟩, List.mem_of_getElem? (i := 622) (by decide +kernel), List.mem_of_getElem? (i := 736) (by decide +kernel), List.mem_of_getElem? (i := 737) (by decide +kernel)⟩
theorem lw_p22 : lw_okq (⟨"ZStreamsModel", "row", "(II)V"⟩, 32) := ⟨⟨by decide +kernel, by decide +kernel⟩, List.mem_of_getElem? (i := 622) (by decide +kernel), List.mem_of_getElem? (i := 740) (by decide +kernel), List.mem_of_getElem? (i := 741) (by decide +kernel)⟩
theorem lw_p23 : lw_okq (⟨"ZStreamsModel", "fresh", "(I)V"⟩, 32) := ⟨⟨by decide +kernel, by decide +kernel⟩, List.mem_of_getElem? (i := 622) (by decide +kernel), List.mem_of_getElem? (i := 744) (by decide +kernel), List.mem_of_getElem? (i := 745) (by decide +kernel)⟩
theorem lw_p24 : lw_okq (⟨"ZStreamsModel", "open", "(I)I"⟩, 32) := ⟨⟨by decide +kernel, by decide +kernel⟩, List.mem_of_getElem? (i := 622) (by decide +kernel), List.mem_of_getElem? (i := 748) (by decide +kernel), List.mem_of_getElem? (i := 749) (by decide +kernel)⟩
theorem lw_p25 : lw_okq (⟨"ZStreamsModel", "close", "()I"⟩, 32) := ⟨⟨by decide +kernel, by decide +kernel⟩, List.mem_of_getElem? (i := 622) (by decide +kernel), List.mem_of_getElem? (i := 752) (by decide +kernel), List.mem_of_getElem? (i := 753) (by decide +kernel)⟩
theorem lw_p26 : lw_okq (⟨"ZStreamsModel", "plain", "(I)I"⟩, 32) := ⟨⟨by decide +kernel, by decide +kernel⟩, List.mem_of_getElem? (i := 622) (by decide +kernel), List.mem_of_getElem? (i := 763) (by decide +kernel), List.mem_of_getElem? (i := 764) (by decide +kernel)⟩
theorem lw_p27 : lw_okq (⟨"ZStreamsModel", "append", "(II)Z"⟩, 32) := ⟨⟨by decide +kernel, by decide +kernel⟩, List.mem_of_getElem? (i := 622) (by decide +kernel), List.mem_of_getElem? (i := 767) (by decide +kernel), List.mem_of_getElem? (i := 768) (by decide +kernel)⟩
theorem lw_p28 : lw_okq (⟨"ZStreamsModel", "stop", "()V"⟩, 32) := ⟨⟨by decide +kernel, by decide +kernel⟩, List.mem_of_getElem? (i := 622) (by decide +kernel), List.mem_of_getElem? (i := 844) (by decide +kernel), List.mem_of_getElem? (i := 845) (by decide +kernel)⟩
def lw_privs_2 : List (MethodName × Nat) := [(⟨"ZStreams", "readFile", "(I)V"⟩, 18), (⟨"ZStreams", "echoLine", "(Z)V"⟩, 18), (⟨"ZStreams", "writeToCommands", "(I)V"⟩, 18), (⟨"ZStreams$Player", "makeReady", "(IZ)V"⟩, 4), (⟨"ZStreamsModel", "getFile", "()I"⟩, 32), (⟨"ZStreamsModel", "ask", "()I"⟩, 32), (⟨"ZStreamsModel", "row", "(II)V"⟩, 32), (⟨"ZStreamsModel", "fresh", "(I)V"⟩, 32), (⟨"ZStreamsModel", "open", "(I)I"⟩, 32), (⟨"ZStreamsModel", "close", "()I"⟩, 32), (⟨"ZStreamsModel", "plain", "(I)I"⟩, 32), (⟨"ZStreamsModel", "append", "(II)Z"⟩, 32), (⟨"ZStreamsModel", "stop", "()V"⟩, 32)]
theorem lw_r2 : ∀ q ∈ lw_privs_2, lw_okq q := List.forall_mem_cons.mpr ⟨lw_p16, List.forall_mem_cons.mpr ⟨lw_p17, List.forall_mem_cons.mpr ⟨lw_p18, List.forall_mem_cons.mpr ⟨lw_p19, List.forall_mem_cons.mpr ⟨lw_p20, List.forall_mem_cons.mpr ⟨lw_p21, List.forall_mem_cons.mpr ⟨lw_p22, List.forall_mem_cons.mpr ⟨lw_p23, List.forall_mem_cons.mpr ⟨lw_p24, List.forall_mem_cons.mpr ⟨lw_p25, List.forall_mem_cons.mpr ⟨lw_p26, List.forall_mem_cons.mpr ⟨lw_p27, List.forall_mem_cons.mpr ⟨lw_p28, fun _ h => absurd h List.not_mem_nil⟩⟩⟩⟩⟩⟩⟩⟩⟩⟩⟩⟩⟩
def lw_privs : List (MethodName × Nat) := lw_privs_1 ++ (lw_privs_2)
def lw_tbl : List Cond := k2_sels lw_privs ++ tables_1
theorem lw_privs_ok : ∀ q ∈ lw_privs, lw_okq q := by
  show ∀ q ∈ lw_privs_1 ++ (lw_privs_2), lw_okq q
  exact List.forall_mem_append.mpr ⟨lw_r1, lw_r2⟩
def RX0 : String := "ZStreams$Files"
def TX0 : u_T := fun k => match k with
  | 0 => ("ZStreams$Files", "kinds", "[I", true)
  | 1 => ("ZStreams$Files", "lengths", "[I", true)
  | _ => ("ZStreams$Files", "bytes", "[[I", true)
def tyX0 : Nat → FieldType := fun k => match k with
  | 0 => .array .int
  | 1 => .array .int
  | _ => .array (.array .int)
abbrev wsX00 : List Cond := u_ws RX0 TX0 3
theorem nmX0 : ∀ a, a < 3 → ∀ b, b < 3 → a ≠ b → (TX0 a).2.1 ≠ (TX0 b).2.1 := by decide +kernel
theorem tyX0_ok : ∀ k, k < 3 → parseFieldDescriptor (TX0 k).2.2.1 = some (tyX0 k) := by decide +kernel
abbrev cX0_init : ByteArray := prog_2_method_1_code
def yX0_init : MethodName := ⟨RX0, "<init>", "()V"⟩
abbrev cX0_has : ByteArray := prog_2_method_2_code
def yX0_has : MethodName := ⟨RX0, "has", "(I)Z"⟩
abbrev cX0_isThere : ByteArray := prog_2_method_3_code
def yX0_isThere : MethodName := ⟨RX0, "isThere", "(I)Z"⟩
abbrev cX0_is : ByteArray := prog_2_method_4_code
def yX0_is : MethodName := ⟨RX0, "is", "(II)Z"⟩
abbrev cX0_kindOf : ByteArray := prog_2_method_5_code
def yX0_kindOf : MethodName := ⟨RX0, "kindOf", "(I)I"⟩
abbrev cX0_lengthOf : ByteArray := prog_2_method_6_code
def yX0_lengthOf : MethodName := ⟨RX0, "lengthOf", "(I)I"⟩
abbrev cX0_hasByte : ByteArray := prog_2_method_7_code
def yX0_hasByte : MethodName := ⟨RX0, "hasByte", "(II)Z"⟩
abbrev cX0_get : ByteArray := prog_2_method_8_code
def yX0_get : MethodName := ⟨RX0, "get", "(II)I"⟩
abbrev cX0_remove : ByteArray := prog_2_method_9_code
def yX0_remove : MethodName := ⟨RX0, "remove", "(I)V"⟩
abbrev cX0_makeEmpty : ByteArray := prog_2_method_10_code
def yX0_makeEmpty : MethodName := ⟨RX0, "makeEmpty", "(II)V"⟩
abbrev cX0_append : ByteArray := prog_2_method_11_code
def yX0_append : MethodName := ⟨RX0, "append", "(III)Z"⟩
def RX1 : String := "ZStreams$Line"
def TX1 : u_T := fun k => match k with
  | 0 => ("ZStreams$Line", "signs", "[I", true)
  | _ => ("ZStreams$Line", "size", "I", false)
def tyX1 : Nat → FieldType := fun k => match k with
  | 0 => .array .int
  | _ => .int
abbrev wsX10 : List Cond := u_ws RX1 TX1 2
theorem nmX1 : ∀ a, a < 2 → ∀ b, b < 2 → a ≠ b → (TX1 a).2.1 ≠ (TX1 b).2.1 := by decide +kernel
theorem tyX1_ok : ∀ k, k < 2 → parseFieldDescriptor (TX1 k).2.2.1 = some (tyX1 k) := by decide +kernel
abbrev cX1_init : ByteArray := prog_3_method_1_code
def yX1_init : MethodName := ⟨RX1, "<init>", "()V"⟩
abbrev cX1_length : ByteArray := prog_3_method_2_code
def yX1_length : MethodName := ⟨RX1, "length", "()I"⟩
abbrev cX1_get : ByteArray := prog_3_method_3_code
def yX1_get : MethodName := ⟨RX1, "get", "(I)I"⟩
abbrev cX1_clear : ByteArray := prog_3_method_4_code
def yX1_clear : MethodName := ⟨RX1, "clear", "()V"⟩
abbrev cX1_add : ByteArray := prog_3_method_5_code
def yX1_add : MethodName := ⟨RX1, "add", "(I)V"⟩
def RX2 : String := "ZStreams$Log"
def TX2 : u_T := fun k => match k with
  | 0 => ("ZStreams$Log", "kinds", "[I", true)
  | 1 => ("ZStreams$Log", "numbers", "[I", true)
  | _ => ("ZStreams$Log", "size", "I", false)
def tyX2 : Nat → FieldType := fun k => match k with
  | 0 => .array .int
  | 1 => .array .int
  | _ => .int
abbrev wsX20 : List Cond := u_ws RX2 TX2 3
theorem nmX2 : ∀ a, a < 3 → ∀ b, b < 3 → a ≠ b → (TX2 a).2.1 ≠ (TX2 b).2.1 := by decide +kernel
theorem tyX2_ok : ∀ k, k < 3 → parseFieldDescriptor (TX2 k).2.2.1 = some (tyX2 k) := by decide +kernel
abbrev cX2_init : ByteArray := prog_4_method_1_code
def yX2_init : MethodName := ⟨RX2, "<init>", "()V"⟩
abbrev cX2_rows : ByteArray := prog_4_method_2_code
def yX2_rows : MethodName := ⟨RX2, "rows", "()I"⟩
abbrev cX2_has : ByteArray := prog_4_method_3_code
def yX2_has : MethodName := ⟨RX2, "has", "(I)Z"⟩
abbrev cX2_kindOf : ByteArray := prog_4_method_4_code
def yX2_kindOf : MethodName := ⟨RX2, "kindOf", "(I)I"⟩
abbrev cX2_numberOf : ByteArray := prog_4_method_5_code
def yX2_numberOf : MethodName := ⟨RX2, "numberOf", "(I)I"⟩
abbrev cX2_add : ByteArray := prog_4_method_6_code
def yX2_add : MethodName := ⟨RX2, "add", "(II)V"⟩
def RX3 : String := "ZStreams$Memory"
def TX3 : u_T := fun k => match k with
  | _ => ("ZStreams$Memory", "bytes", "[I", true)
def tyX3 : Nat → FieldType := fun k => match k with
  | _ => .array .int
abbrev wsX30 : List Cond := u_ws RX3 TX3 1
theorem nmX3 : ∀ a, a < 1 → ∀ b, b < 1 → a ≠ b → (TX3 a).2.1 ≠ (TX3 b).2.1 := by decide +kernel
theorem tyX3_ok : ∀ k, k < 1 → parseFieldDescriptor (TX3 k).2.2.1 = some (tyX3 k) := by decide +kernel
abbrev cX3_init : ByteArray := prog_5_method_1_code
def yX3_init : MethodName := ⟨RX3, "<init>", "()V"⟩
abbrev cX3_has : ByteArray := prog_5_method_2_code
def yX3_has : MethodName := ⟨RX3, "has", "(I)Z"⟩
abbrev cX3_hasAll : ByteArray := prog_5_method_3_code
def yX3_hasAll : MethodName := ⟨RX3, "hasAll", "(II)Z"⟩
abbrev cX3_get : ByteArray := prog_5_method_4_code
def yX3_get : MethodName := ⟨RX3, "get", "(I)I"⟩
abbrev cX3_set : ByteArray := prog_5_method_5_code
def yX3_set : MethodName := ⟨RX3, "set", "(II)V"⟩
abbrev cX3_setTwo : ByteArray := prog_5_method_6_code
def yX3_setTwo : MethodName := ⟨RX3, "setTwo", "(II)V"⟩
abbrev cX3_bit : ByteArray := prog_5_method_7_code
def yX3_bit : MethodName := ⟨RX3, "bit", "()I"⟩
abbrev cX3_setBit : ByteArray := prog_5_method_8_code
def yX3_setBit : MethodName := ⟨RX3, "setBit", "(Z)V"⟩
def RX4 : String := "ZStreams$Player"
def TX4 : u_T := fun k => match k with
  | 0 => ("ZStreams$Player", "ready", "[Z", true)
  | 1 => ("ZStreams$Player", "current", "I", false)
  | 2 => ("ZStreams$Player", "turns", "I", false)
  | _ => ("ZStreams$Player", "routine", "I", false)
def tyX4 : Nat → FieldType := fun k => match k with
  | 0 => .array .boolean
  | 1 => .int
  | 2 => .int
  | _ => .int
abbrev wsX40 : List Cond := u_ws RX4 TX4 4
theorem nmX4 : ∀ a, a < 4 → ∀ b, b < 4 → a ≠ b → (TX4 a).2.1 ≠ (TX4 b).2.1 := by decide +kernel
theorem tyX4_ok : ∀ k, k < 4 → parseFieldDescriptor (TX4 k).2.2.1 = some (tyX4 k) := by decide +kernel
abbrev cX4_init : ByteArray := prog_6_method_1_code
def yX4_init : MethodName := ⟨RX4, "<init>", "()V"⟩
abbrev cX4_canBeReady : ByteArray := prog_6_method_2_code
def yX4_canBeReady : MethodName := ⟨RX4, "canBeReady", "(I)Z"⟩
abbrev cX4_playing : ByteArray := prog_6_method_3_code
def yX4_playing : MethodName := ⟨RX4, "playing", "()I"⟩
abbrev cX4_turnsLeft : ByteArray := prog_6_method_4_code
def yX4_turnsLeft : MethodName := ⟨RX4, "turnsLeft", "()I"⟩
abbrev cX4_routineCalled : ByteArray := prog_6_method_5_code
def yX4_routineCalled : MethodName := ⟨RX4, "routineCalled", "()I"⟩
abbrev cX4_readiness : ByteArray := prog_6_method_6_code
def yX4_readiness : MethodName := ⟨RX4, "readiness", "(I)I"⟩
abbrev cX4_prepare : ByteArray := prog_6_method_7_code
def yX4_prepare : MethodName := ⟨RX4, "prepare", "(I)I"⟩
abbrev cX4_begin : ByteArray := prog_6_method_8_code
def yX4_begin : MethodName := ⟨RX4, "begin", "(LZStreams$Log;III)I"⟩
abbrev cX4_stop : ByteArray := prog_6_method_9_code
def yX4_stop : MethodName := ⟨RX4, "stop", "(LZStreams$Log;I)I"⟩
abbrev cX4_release : ByteArray := prog_6_method_10_code
def yX4_release : MethodName := ⟨RX4, "release", "(LZStreams$Log;I)I"⟩
abbrev cX4_endTurn : ByteArray := prog_6_method_11_code
def yX4_endTurn : MethodName := ⟨RX4, "endTurn", "(LZStreams$Log;)I"⟩
abbrev cX4_makeReady : ByteArray := prog_6_method_12_code
def yX4_makeReady : MethodName := ⟨RX4, "makeReady", "(IZ)V"⟩
def RX5 : String := "ZStreams$Queue"
def TX5 : u_T := fun k => match k with
  | 0 => ("ZStreams$Queue", "items", "[I", true)
  | _ => ("ZStreams$Queue", "size", "I", false)
def tyX5 : Nat → FieldType := fun k => match k with
  | 0 => .array .int
  | _ => .int
abbrev wsX50 : List Cond := u_ws RX5 TX5 2
theorem nmX5 : ∀ a, a < 2 → ∀ b, b < 2 → a ≠ b → (TX5 a).2.1 ≠ (TX5 b).2.1 := by decide +kernel
theorem tyX5_ok : ∀ k, k < 2 → parseFieldDescriptor (TX5 k).2.2.1 = some (tyX5 k) := by decide +kernel
abbrev cX5_init : ByteArray := prog_7_method_1_code
def yX5_init : MethodName := ⟨RX5, "<init>", "(I)V"⟩
abbrev cX5_waiting : ByteArray := prog_7_method_2_code
def yX5_waiting : MethodName := ⟨RX5, "waiting", "()I"⟩
abbrev cX5_isFull : ByteArray := prog_7_method_3_code
def yX5_isFull : MethodName := ⟨RX5, "isFull", "()Z"⟩
abbrev cX5_contains : ByteArray := prog_7_method_4_code
def yX5_contains : MethodName := ⟨RX5, "contains", "(I)Z"⟩
abbrev cX5_add : ByteArray := prog_7_method_5_code
def yX5_add : MethodName := ⟨RX5, "add", "(I)V"⟩
abbrev cX5_take : ByteArray := prog_7_method_6_code
def yX5_take : MethodName := ⟨RX5, "take", "()I"⟩
def RX6 : String := "ZStreams$Screen"
def TX6 : u_T := fun k => match k with
  | 0 => ("ZStreams$Screen", "ring", "[I", true)
  | 1 => ("ZStreams$Screen", "signs", "I", false)
  | _ => ("ZStreams$Screen", "on", "Z", false)
def tyX6 : Nat → FieldType := fun k => match k with
  | 0 => .array .int
  | 1 => .int
  | _ => .boolean
abbrev wsX60 : List Cond := u_ws RX6 TX6 3
theorem nmX6 : ∀ a, a < 3 → ∀ b, b < 3 → a ≠ b → (TX6 a).2.1 ≠ (TX6 b).2.1 := by decide +kernel
theorem tyX6_ok : ∀ k, k < 3 → parseFieldDescriptor (TX6 k).2.2.1 = some (tyX6 k) := by decide +kernel
abbrev cX6_init : ByteArray := prog_8_method_1_code
def yX6_init : MethodName := ⟨RX6, "<init>", "()V"⟩
abbrev cX6_isOn : ByteArray := prog_8_method_2_code
def yX6_isOn : MethodName := ⟨RX6, "isOn", "()Z"⟩
abbrev cX6_turn : ByteArray := prog_8_method_3_code
def yX6_turn : MethodName := ⟨RX6, "turn", "(Z)V"⟩
abbrev cX6_came : ByteArray := prog_8_method_4_code
def yX6_came : MethodName := ⟨RX6, "came", "()I"⟩
abbrev cX6_add : ByteArray := prog_8_method_5_code
def yX6_add : MethodName := ⟨RX6, "add", "(I)V"⟩
abbrev cX6_before : ByteArray := prog_8_method_6_code
def yX6_before : MethodName := ⟨RX6, "before", "(I)I"⟩
def RX7 : String := "ZStreams$Tables"
def TX7 : u_T := fun k => match k with
  | 0 => ("ZStreams$Tables", "most", "I", true)
  | 1 => ("ZStreams$Tables", "addresses", "[I", true)
  | 2 => ("ZStreams$Tables", "counts", "[I", true)
  | _ => ("ZStreams$Tables", "size", "I", false)
def tyX7 : Nat → FieldType := fun k => match k with
  | 0 => .int
  | 1 => .array .int
  | 2 => .array .int
  | _ => .int
abbrev wsX70 : List Cond := u_ws RX7 TX7 4
theorem nmX7 : ∀ a, a < 4 → ∀ b, b < 4 → a ≠ b → (TX7 a).2.1 ≠ (TX7 b).2.1 := by decide +kernel
theorem tyX7_ok : ∀ k, k < 4 → parseFieldDescriptor (TX7 k).2.2.1 = some (tyX7 k) := by decide +kernel
abbrev cX7_init : ByteArray := prog_9_method_1_code
def yX7_init : MethodName := ⟨RX7, "<init>", "(I)V"⟩
abbrev cX7_open : ByteArray := prog_9_method_2_code
def yX7_open : MethodName := ⟨RX7, "open", "()I"⟩
abbrev cX7_isFull : ByteArray := prog_9_method_3_code
def yX7_isFull : MethodName := ⟨RX7, "isFull", "()Z"⟩
abbrev cX7_has : ByteArray := prog_9_method_4_code
def yX7_has : MethodName := ⟨RX7, "has", "(I)Z"⟩
abbrev cX7_addressOf : ByteArray := prog_9_method_5_code
def yX7_addressOf : MethodName := ⟨RX7, "addressOf", "(I)I"⟩
abbrev cX7_countOf : ByteArray := prog_9_method_6_code
def yX7_countOf : MethodName := ⟨RX7, "countOf", "(I)I"⟩
abbrev cX7_push : ByteArray := prog_9_method_7_code
def yX7_push : MethodName := ⟨RX7, "push", "(I)V"⟩
abbrev cX7_pop : ByteArray := prog_9_method_8_code
def yX7_pop : MethodName := ⟨RX7, "pop", "()V"⟩
abbrev cX7_countOneMore : ByteArray := prog_9_method_9_code
def yX7_countOneMore : MethodName := ⟨RX7, "countOneMore", "()V"⟩
def RX8 : String := "ZStreams"
def TX8 : u_T := fun k => match k with
  | 0 => ("ZStreams", "version", "I", true)
  | 1 => ("ZStreams", "memory", "LZStreams$Memory;", true)
  | 2 => ("ZStreams", "files", "LZStreams$Files;", true)
  | 3 => ("ZStreams", "answers", "LZStreams$Queue;", true)
  | 4 => ("ZStreams", "typed", "LZStreams$Queue;", true)
  | 5 => ("ZStreams", "tables", "LZStreams$Tables;", true)
  | 6 => ("ZStreams", "screen", "LZStreams$Screen;", true)
  | 7 => ("ZStreams", "latest", "LZStreams$Line;", true)
  | 8 => ("ZStreams", "log", "LZStreams$Log;", true)
  | 9 => ("ZStreams", "player", "LZStreams$Player;", true)
  | 10 => ("ZStreams", "transcriptFile", "I", false)
  | 11 => ("ZStreams", "commandsFile", "I", false)
  | 12 => ("ZStreams", "sourceFile", "I", false)
  | 13 => ("ZStreams", "sourceAt", "I", false)
  | 14 => ("ZStreams", "toTranscript", "I", false)
  | 15 => ("ZStreams", "intoTables", "I", false)
  | 16 => ("ZStreams", "toCommands", "I", false)
  | _ => ("ZStreams", "lost", "I", false)
def tyX8 : Nat → FieldType := fun k => match k with
  | 0 => .int
  | 1 => .object "ZStreams$Memory"
  | 2 => .object "ZStreams$Files"
  | 3 => .object "ZStreams$Queue"
  | 4 => .object "ZStreams$Queue"
  | 5 => .object "ZStreams$Tables"
  | 6 => .object "ZStreams$Screen"
  | 7 => .object "ZStreams$Line"
  | 8 => .object "ZStreams$Log"
  | 9 => .object "ZStreams$Player"
  | 10 => .int
  | 11 => .int
  | 12 => .int
  | 13 => .int
  | 14 => .int
  | 15 => .int
  | 16 => .int
  | _ => .int
abbrev wsX80 : List Cond := u_ws RX8 TX8 18
theorem nmX8 : ∀ a, a < 18 → ∀ b, b < 18 → a ≠ b → (TX8 a).2.1 ≠ (TX8 b).2.1 := by decide +kernel
theorem tyX8_ok : ∀ k, k < 18 → parseFieldDescriptor (TX8 k).2.2.1 = some (tyX8 k) := by decide +kernel
abbrev cX8_init : ByteArray := prog_1_method_1_code
def yX8_init : MethodName := ⟨RX8, "<init>", "(I)V"⟩
abbrev cX8_choose : ByteArray := prog_1_method_2_code
def yX8_choose : MethodName := ⟨RX8, "choose", "(IZI)I"⟩
abbrev cX8_sign : ByteArray := prog_1_method_3_code
def yX8_sign : MethodName := ⟨RX8, "sign", "(I)I"⟩
abbrev cX8_depth : ByteArray := prog_1_method_4_code
def yX8_depth : MethodName := ⟨RX8, "depth", "()I"⟩
abbrev cX8_table : ByteArray := prog_1_method_5_code
def yX8_table : MethodName := ⟨RX8, "table", "(II)I"⟩
abbrev cX8_shown : ByteArray := prog_1_method_6_code
def yX8_shown : MethodName := ⟨RX8, "shown", "(I)I"⟩
abbrev cX8_transcript : ByteArray := prog_1_method_7_code
def yX8_transcript : MethodName := ⟨RX8, "transcript", "(Z)I"⟩
abbrev cX8_peek : ByteArray := prog_1_method_8_code
def yX8_peek : MethodName := ⟨RX8, "peek", "(I)I"⟩
abbrev cX8_poke : ByteArray := prog_1_method_9_code
def yX8_poke : MethodName := ⟨RX8, "poke", "(II)I"⟩
abbrev cX8_answer : ByteArray := prog_1_method_10_code
def yX8_answer : MethodName := ⟨RX8, "answer", "(I)I"⟩
abbrev cX8_fileOf : ByteArray := prog_1_method_11_code
def yX8_fileOf : MethodName := ⟨RX8, "fileOf", "(II)I"⟩
abbrev cX8_byteOf : ByteArray := prog_1_method_12_code
def yX8_byteOf : MethodName := ⟨RX8, "byteOf", "(II)I"⟩
abbrev cX8_drop : ByteArray := prog_1_method_13_code
def yX8_drop : MethodName := ⟨RX8, "drop", "(I)I"⟩
abbrev cX8_save : ByteArray := prog_1_method_14_code
def yX8_save : MethodName := ⟨RX8, "save", "(II)I"⟩
abbrev cX8_load : ByteArray := prog_1_method_15_code
def yX8_load : MethodName := ⟨RX8, "load", "(II)I"⟩
abbrev cX8_type : ByteArray := prog_1_method_16_code
def yX8_type : MethodName := ⟨RX8, "type", "(I)I"⟩
abbrev cX8_source : ByteArray := prog_1_method_17_code
def yX8_source : MethodName := ⟨RX8, "source", "(Z)I"⟩
abbrev cX8_line : ByteArray := prog_1_method_18_code
def yX8_line : MethodName := ⟨RX8, "line", "(I)I"⟩
abbrev cX8_lineAt : ByteArray := prog_1_method_19_code
def yX8_lineAt : MethodName := ⟨RX8, "lineAt", "(I)I"⟩
abbrev cX8_sound : ByteArray := prog_1_method_20_code
def yX8_sound : MethodName := ⟨RX8, "sound", "(IIII)I"⟩
abbrev cX8_ended : ByteArray := prog_1_method_21_code
def yX8_ended : MethodName := ⟨RX8, "ended", "()I"⟩
abbrev cX8_sounds : ByteArray := prog_1_method_22_code
def yX8_sounds : MethodName := ⟨RX8, "sounds", "(I)I"⟩
abbrev cX8_order : ByteArray := prog_1_method_23_code
def yX8_order : MethodName := ⟨RX8, "order", "(II)I"⟩
abbrev cX8_told : ByteArray := prog_1_method_24_code
def yX8_told : MethodName := ⟨RX8, "told", "(I)I"⟩
abbrev cX8_hasStream : ByteArray := prog_1_method_25_code
def yX8_hasStream : MethodName := ⟨RX8, "hasStream", "(I)Z"⟩
abbrev cX8_turnTranscriptOn : ByteArray := prog_1_method_26_code
def yX8_turnTranscriptOn : MethodName := ⟨RX8, "turnTranscriptOn", "()I"⟩
abbrev cX8_turnTranscriptOff : ByteArray := prog_1_method_27_code
def yX8_turnTranscriptOff : MethodName := ⟨RX8, "turnTranscriptOff", "()I"⟩
abbrev cX8_openTable : ByteArray := prog_1_method_28_code
def yX8_openTable : MethodName := ⟨RX8, "openTable", "(I)I"⟩
abbrev cX8_closeTable : ByteArray := prog_1_method_29_code
def yX8_closeTable : MethodName := ⟨RX8, "closeTable", "()I"⟩
abbrev cX8_turnCommandsOn : ByteArray := prog_1_method_30_code
def yX8_turnCommandsOn : MethodName := ⟨RX8, "turnCommandsOn", "()I"⟩
abbrev cX8_turnCommandsOff : ByteArray := prog_1_method_31_code
def yX8_turnCommandsOff : MethodName := ⟨RX8, "turnCommandsOff", "()I"⟩
abbrev cX8_ask : ByteArray := prog_1_method_32_code
def yX8_ask : MethodName := ⟨RX8, "ask", "()I"⟩
abbrev cX8_giveTranscriptFile : ByteArray := prog_1_method_33_code
def yX8_giveTranscriptFile : MethodName := ⟨RX8, "giveTranscriptFile", "()I"⟩
abbrev cX8_faultOfLoad : ByteArray := prog_1_method_34_code
def yX8_faultOfLoad : MethodName := ⟨RX8, "faultOfLoad", "(III)I"⟩
abbrev cX8_isSign : ByteArray := prog_1_method_35_code
def yX8_isSign : MethodName := ⟨RX8, "isSign", "(I)Z"⟩
abbrev cX8_writeIntoTable : ByteArray := prog_1_method_36_code
def yX8_writeIntoTable : MethodName := ⟨RX8, "writeIntoTable", "(I)I"⟩
abbrev cX8_show : ByteArray := prog_1_method_37_code
def yX8_show : MethodName := ⟨RX8, "show", "(I)I"⟩
abbrev cX8_writeToTranscript : ByteArray := prog_1_method_38_code
def yX8_writeToTranscript : MethodName := ⟨RX8, "writeToTranscript", "(I)Z"⟩
abbrev cX8_writeToCommands : ByteArray := prog_1_method_39_code
def yX8_writeToCommands : MethodName := ⟨RX8, "writeToCommands", "(I)V"⟩
abbrev cX8_writeBehind : ByteArray := prog_1_method_40_code
def yX8_writeBehind : MethodName := ⟨RX8, "writeBehind", "(II)Z"⟩
abbrev cX8_endSpentSource : ByteArray := prog_1_method_41_code
def yX8_endSpentSource : MethodName := ⟨RX8, "endSpentSource", "()V"⟩
abbrev cX8_readTyped : ByteArray := prog_1_method_42_code
def yX8_readTyped : MethodName := ⟨RX8, "readTyped", "(I)V"⟩
abbrev cX8_readFile : ByteArray := prog_1_method_43_code
def yX8_readFile : MethodName := ⟨RX8, "readFile", "(I)V"⟩
abbrev cX8_echoLine : ByteArray := prog_1_method_44_code
def yX8_echoLine : MethodName := ⟨RX8, "echoLine", "(Z)V"⟩
def RX9 : String := "ZStreamsModel"
def TX9 : u_T := fun k => match k with
  | 0 => ("ZStreamsModel", "version", "I", true)
  | 1 => ("ZStreamsModel", "memory", "[I", true)
  | 2 => ("ZStreamsModel", "kind", "[I", true)
  | 3 => ("ZStreamsModel", "size", "[I", true)
  | 4 => ("ZStreamsModel", "bytes", "[I", true)
  | 5 => ("ZStreamsModel", "answers", "[I", true)
  | 6 => ("ZStreamsModel", "answerMany", "I", false)
  | 7 => ("ZStreamsModel", "screen", "Z", false)
  | 8 => ("ZStreamsModel", "transcript", "I", false)
  | 9 => ("ZStreamsModel", "commands", "I", false)
  | 10 => ("ZStreamsModel", "address", "[I", true)
  | 11 => ("ZStreamsModel", "count", "[I", true)
  | 12 => ("ZStreamsModel", "deep", "I", false)
  | 13 => ("ZStreamsModel", "shown", "[I", true)
  | 14 => ("ZStreamsModel", "came", "I", false)
  | 15 => ("ZStreamsModel", "written", "I", false)
  | 16 => ("ZStreamsModel", "tabled", "I", false)
  | 17 => ("ZStreamsModel", "commanded", "I", false)
  | 18 => ("ZStreamsModel", "lost", "I", false)
  | 19 => ("ZStreamsModel", "typed", "[I", true)
  | 20 => ("ZStreamsModel", "typedMany", "I", false)
  | 21 => ("ZStreamsModel", "source", "I", false)
  | 22 => ("ZStreamsModel", "place", "I", false)
  | 23 => ("ZStreamsModel", "line", "[I", true)
  | 24 => ("ZStreamsModel", "lineSize", "I", false)
  | 25 => ("ZStreamsModel", "ready", "[Z", true)
  | 26 => ("ZStreamsModel", "playing", "I", false)
  | 27 => ("ZStreamsModel", "turns", "I", false)
  | 28 => ("ZStreamsModel", "routine", "I", false)
  | 29 => ("ZStreamsModel", "rowKind", "[I", true)
  | 30 => ("ZStreamsModel", "rowNumber", "[I", true)
  | _ => ("ZStreamsModel", "rows", "I", false)
def tyX9 : Nat → FieldType := fun k => match k with
  | 0 => .int
  | 1 => .array .int
  | 2 => .array .int
  | 3 => .array .int
  | 4 => .array .int
  | 5 => .array .int
  | 6 => .int
  | 7 => .boolean
  | 8 => .int
  | 9 => .int
  | 10 => .array .int
  | 11 => .array .int
  | 12 => .int
  | 13 => .array .int
  | 14 => .int
  | 15 => .int
  | 16 => .int
  | 17 => .int
  | 18 => .int
  | 19 => .array .int
  | 20 => .int
  | 21 => .int
  | 22 => .int
  | 23 => .array .int
  | 24 => .int
  | 25 => .array .boolean
  | 26 => .int
  | 27 => .int
  | 28 => .int
  | 29 => .array .int
  | 30 => .array .int
  | _ => .int
abbrev wsX90 : List Cond := u_ws RX9 TX9 32
theorem nmX9 : ∀ a, a < 32 → ∀ b, b < 32 → a ≠ b → (TX9 a).2.1 ≠ (TX9 b).2.1 := by decide +kernel
theorem tyX9_ok : ∀ k, k < 32 → parseFieldDescriptor (TX9 k).2.2.1 = some (tyX9 k) := by decide +kernel
abbrev cX9_init : ByteArray := prog_11_method_1_code
def yX9_init : MethodName := ⟨RX9, "<init>", "(I)V"⟩
abbrev cX9_out : ByteArray := prog_11_method_2_code
def yX9_out : MethodName := ⟨RX9, "out", "(III)Z"⟩
abbrev cX9_isSign : ByteArray := prog_11_method_3_code
def yX9_isSign : MethodName := ⟨RX9, "isSign", "(I)Z"⟩
abbrev cX9_row : ByteArray := prog_11_method_4_code
def yX9_row : MethodName := ⟨RX9, "row", "(II)V"⟩
abbrev cX9_ask : ByteArray := prog_11_method_5_code
def yX9_ask : MethodName := ⟨RX9, "ask", "()I"⟩
abbrev cX9_fresh : ByteArray := prog_11_method_6_code
def yX9_fresh : MethodName := ⟨RX9, "fresh", "(I)V"⟩
abbrev cX9_append : ByteArray := prog_11_method_7_code
def yX9_append : MethodName := ⟨RX9, "append", "(II)Z"⟩
abbrev cX9_getFile : ByteArray := prog_11_method_8_code
def yX9_getFile : MethodName := ⟨RX9, "getFile", "()I"⟩
abbrev cX9_choose : ByteArray := prog_11_method_9_code
def yX9_choose : MethodName := ⟨RX9, "choose", "(IZI)I"⟩
abbrev cX9_open : ByteArray := prog_11_method_10_code
def yX9_open : MethodName := ⟨RX9, "open", "(I)I"⟩
abbrev cX9_close : ByteArray := prog_11_method_11_code
def yX9_close : MethodName := ⟨RX9, "close", "()I"⟩
abbrev cX9_plain : ByteArray := prog_11_method_12_code
def yX9_plain : MethodName := ⟨RX9, "plain", "(I)I"⟩
abbrev cX9_sign : ByteArray := prog_11_method_13_code
def yX9_sign : MethodName := ⟨RX9, "sign", "(I)I"⟩
abbrev cX9_depth : ByteArray := prog_11_method_14_code
def yX9_depth : MethodName := ⟨RX9, "depth", "()I"⟩
abbrev cX9_table : ByteArray := prog_11_method_15_code
def yX9_table : MethodName := ⟨RX9, "table", "(II)I"⟩
abbrev cX9_shown : ByteArray := prog_11_method_16_code
def yX9_shown : MethodName := ⟨RX9, "shown", "(I)I"⟩
abbrev cX9_transcript : ByteArray := prog_11_method_17_code
def yX9_transcript : MethodName := ⟨RX9, "transcript", "(Z)I"⟩
abbrev cX9_peek : ByteArray := prog_11_method_18_code
def yX9_peek : MethodName := ⟨RX9, "peek", "(I)I"⟩
abbrev cX9_poke : ByteArray := prog_11_method_19_code
def yX9_poke : MethodName := ⟨RX9, "poke", "(II)I"⟩
abbrev cX9_answer : ByteArray := prog_11_method_20_code
def yX9_answer : MethodName := ⟨RX9, "answer", "(I)I"⟩
abbrev cX9_fileOf : ByteArray := prog_11_method_21_code
def yX9_fileOf : MethodName := ⟨RX9, "fileOf", "(II)I"⟩
abbrev cX9_byteOf : ByteArray := prog_11_method_22_code
def yX9_byteOf : MethodName := ⟨RX9, "byteOf", "(II)I"⟩
abbrev cX9_drop : ByteArray := prog_11_method_23_code
def yX9_drop : MethodName := ⟨RX9, "drop", "(I)I"⟩
abbrev cX9_beyond : ByteArray := prog_11_method_24_code
def yX9_beyond : MethodName := ⟨RX9, "beyond", "(II)Z"⟩
abbrev cX9_save : ByteArray := prog_11_method_25_code
def yX9_save : MethodName := ⟨RX9, "save", "(II)I"⟩
abbrev cX9_load : ByteArray := prog_11_method_26_code
def yX9_load : MethodName := ⟨RX9, "load", "(II)I"⟩
abbrev cX9_type : ByteArray := prog_11_method_27_code
def yX9_type : MethodName := ⟨RX9, "type", "(I)I"⟩
abbrev cX9_source : ByteArray := prog_11_method_28_code
def yX9_source : MethodName := ⟨RX9, "source", "(Z)I"⟩
abbrev cX9_line : ByteArray := prog_11_method_29_code
def yX9_line : MethodName := ⟨RX9, "line", "(I)I"⟩
abbrev cX9_lineAt : ByteArray := prog_11_method_30_code
def yX9_lineAt : MethodName := ⟨RX9, "lineAt", "(I)I"⟩
abbrev cX9_stop : ByteArray := prog_11_method_31_code
def yX9_stop : MethodName := ⟨RX9, "stop", "()V"⟩
abbrev cX9_sound : ByteArray := prog_11_method_32_code
def yX9_sound : MethodName := ⟨RX9, "sound", "(IIII)I"⟩
abbrev cX9_ended : ByteArray := prog_11_method_33_code
def yX9_ended : MethodName := ⟨RX9, "ended", "()I"⟩
abbrev cX9_sounds : ByteArray := prog_11_method_34_code
def yX9_sounds : MethodName := ⟨RX9, "sounds", "(I)I"⟩
abbrev cX9_order : ByteArray := prog_11_method_35_code
def yX9_order : MethodName := ⟨RX9, "order", "(II)I"⟩
abbrev cX9_told : ByteArray := prog_11_method_36_code
def yX9_told : MethodName := ⟨RX9, "told", "(I)I"⟩
def RJ9 : String := "java/lang/Math"
def TJ9 : u_T := fun k => match k with
  | _ => ("", "", "", false)
def tyJ9 : Nat → FieldType := fun k => match k with
  | _ => .int
abbrev wsJ90 : List Cond := u_ws RJ9 TJ9 0
theorem nmJ9 : ∀ a, a < 0 → ∀ b, b < 0 → a ≠ b → (TJ9 a).2.1 ≠ (TJ9 b).2.1 := by decide +kernel
theorem tyJ9_ok : ∀ k, k < 0 → parseFieldDescriptor (TJ9 k).2.2.1 = some (tyJ9 k) := by decide +kernel
abbrev cJ9_floorMod_7cf53 : ByteArray := prog_12_method_50_code
def yJ9_floorMod_7cf53 : MethodName := ⟨RJ9, "floorMod", "(II)I"⟩
abbrev cJ9_max_7cf53 : ByteArray := prog_12_method_65_code
def yJ9_max_7cf53 : MethodName := ⟨RJ9, "max", "(II)I"⟩
abbrev cJ9_min_7cf53 : ByteArray := prog_12_method_69_code
def yJ9_min_7cf53 : MethodName := ⟨RJ9, "min", "(II)I"⟩
def RL : String := "ZStreamsLaw"
abbrev cL_cell : ByteArray := method_2_code
def yL_cell : MethodName := ⟨RL, "cell", "([II)I"⟩
abbrev cL_law : ByteArray := code
def yL_law : MethodName := ⟨RL, "law", "([I)Z"⟩
abbrev vwCl : List vw_C := [(RX0, TX0, 3), (RX1, TX1, 2), (RX2, TX2, 3), (RX3, TX3, 1), (RX4, TX4, 4), (RX5, TX5, 2), (RX6, TX6, 3), (RX7, TX7, 4), (RX8, TX8, 18), (RX9, TX9, 32)]
