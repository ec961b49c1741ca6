/-! names (begun from the printed skeleton and names) -/
/-- a private method of a class that the tables say can be made, by its rows of tables_1 -/
def lw_okq (q : MethodName × Nat) : Prop := (q.1.cls ≠ "java/lang/invoke/MethodHandle" ∧ q.1.cls ≠ "java/lang/invoke/VarHandle") ∧ Cond.instantiable q.1.cls q.2 ∈ tables_1 ∧ Cond.privateMethod q.1 ∈ tables_1 ∧ Cond.instanceMethod q.1 ∈ tables_1
theorem lw_p0 : lw_okq (⟨"StagedTables$Packing", "look", "(ILStagedTables$Table;)V"⟩, 11) := ⟨⟨by decide +kernel, by decide +kernel⟩, List.mem_of_getElem? (i := 119) (by decide +kernel), List.mem_of_getElem? (i := 352) (by decide +kernel), List.mem_of_getElem? (i := 353) (by decide +kernel)⟩
theorem lw_p1 : lw_okq (⟨"StagedTables$Packing", "place", "(I[I)Z"⟩, 11) := ⟨⟨by decide +kernel, by decide +kernel⟩, List.mem_of_getElem? (i := 119) (by decide +kernel), List.mem_of_getElem? (i := 386) (by decide +kernel), List.mem_of_getElem? (i := 387) (by decide +kernel)⟩
theorem lw_p2 : lw_okq (⟨"StagedTables$Packing", "leastStage", "(I)I"⟩, 11) := ⟨⟨by decide +kernel, by decide +kernel⟩, List.mem_of_getElem? (i := 119) (by decide +kernel), List.mem_of_getElem? (i := 390) (by decide +kernel), List.mem_of_getElem? (i := 391) (by decide +kernel)⟩
theorem lw_p3 : lw_okq (⟨"StagedTables$Squeeze", "measure", "(LStagedTables$Packing;I)V"⟩, 3) := ⟨⟨by decide +kernel, by decide +kernel⟩, List.mem_of_getElem? (i := 167) (by decide +kernel), List.mem_of_getElem? (i := 436) (by decide +kernel), List.mem_of_getElem? (i := 437) (by decide +kernel)⟩
theorem lw_p4 : lw_okq (⟨"StagedTables$Squeeze", "ready", "(ILStagedTables$Packing;I)I"⟩, 3) := ⟨⟨by decide +kernel, by decide +kernel⟩, List.mem_of_getElem? (i := 167) (by decide +kernel), List.mem_of_getElem? (i := 441) (by decide +kernel), List.mem_of_getElem? (i := 442) (by decide +kernel)⟩
theorem lw_p5 : lw_okq (⟨"StagedTables$Squeeze", "addStage", "(II[I)V"⟩, 3) := ⟨⟨by decide +kernel, by decide +kernel⟩, List.mem_of_getElem? (i := 167) (by decide +kernel), List.mem_of_getElem? (i := 445) (by decide +kernel), List.mem_of_getElem? (i := 446) (by decide +kernel)⟩
theorem lw_p6 : lw_okq (⟨"StagedTables$Packet", "doRound", "(LStagedTables$Program;[I)V"⟩, 6) := ⟨⟨by decide +kernel, by decide +kernel⟩, List.mem_of_getElem? (i := 183) (by decide +kernel), List.mem_of_getElem? (i := 475) (by decide +kernel), List.mem_of_getElem? (i := 476) (by decide +kernel)⟩
theorem lw_p7 : lw_okq (⟨"StagedTables$Packet", "apply", "(LStagedTables$Act;[I)V"⟩, 6) := ⟨⟨by decide +kernel, by decide +kernel⟩, List.mem_of_getElem? (i := 183) (by decide +kernel), List.mem_of_getElem? (i := 480) (by decide +kernel), List.mem_of_getElem? (i := 481) (by decide +kernel)⟩
theorem lw_p8 : lw_okq (⟨"StagedTables$Packet", "keepTop", "(I[II)V"⟩, 6) := ⟨⟨by decide +kernel, by decide +kernel⟩, List.mem_of_getElem? (i := 183) (by decide +kernel), List.mem_of_getElem? (i := 485) (by decide +kernel), List.mem_of_getElem? (i := 486) (by decide +kernel)⟩
theorem lw_p9 : lw_okq (⟨"StagedTables$Packet", "swap", "(I[II)V"⟩, 6) := ⟨⟨by decide +kernel, by decide +kernel⟩, List.mem_of_getElem? (i := 183) (by decide +kernel), List.mem_of_getElem? (i := 489) (by decide +kernel), List.mem_of_getElem? (i := 490) (by decide +kernel)⟩
theorem lw_p10 : lw_okq (⟨"StagedTables", "keptImages", "()I"⟩, 8) := ⟨⟨by decide +kernel, by decide +kernel⟩, List.mem_of_getElem? (i := 14) (by decide +kernel), List.mem_of_getElem? (i := 523) (by decide +kernel), List.mem_of_getElem? (i := 524) (by decide +kernel)⟩
theorem lw_p11 : lw_okq (⟨"StagedTablesModel", "lay", "(IIII)V"⟩, 27) := ⟨⟨by decide +kernel, by decide +kernel⟩, List.mem_of_getElem? (i := 527) (by decide +kernel), List.mem_of_getElem? (i := 626) (by decide +kernel), List.mem_of_getElem? (i := 627) (by decide +kernel)⟩
theorem lw_p12 : lw_okq (⟨"StagedTablesModel", "isTable", "(I)Z"⟩, 27) := ⟨⟨by decide +kernel, by decide +kernel⟩, List.mem_of_getElem? (i := 527) (by decide +kernel), List.mem_of_getElem? (i := 637) (by decide +kernel), List.mem_of_getElem? (i := 638) (by decide +kernel)⟩
theorem lw_p13 : lw_okq (⟨"StagedTablesModel", "entryWith", "(II)I"⟩, 27) := ⟨⟨by decide +kernel, by decide +kernel⟩, List.mem_of_getElem? (i := 527) (by decide +kernel), List.mem_of_getElem? (i := 644) (by decide +kernel), List.mem_of_getElem? (i := 645) (by decide +kernel)⟩
theorem lw_p14 : lw_okq (⟨"StagedTablesModel", "isTaken", "(III)Z"⟩, 27) := ⟨⟨by decide +kernel, by decide +kernel⟩, List.mem_of_getElem? (i := 527) (by decide +kernel), List.mem_of_getElem? (i := 648) (by decide +kernel), List.mem_of_getElem? (i := 649) (by decide +kernel)⟩
theorem lw_p15 : lw_okq (⟨"StagedTablesModel", "registersOf", "(I)I"⟩, 27) := ⟨⟨by decide +kernel, by decide +kernel⟩, List.mem_of_getElem? (i := 527) (by decide +kernel), List.mem_of_getElem? (i := 652) (by decide +kernel), List.mem_of_getElem? (i := 653) (by decide +kernel)⟩
def lw_privs_1 : List (MethodName × Nat) := [(⟨"StagedTables$Packing", "look", "(ILStagedTables$Table;)V"⟩, 11), (⟨"StagedTables$Packing", "place", "(I[I)Z"⟩, 11), (⟨"StagedTables$Packing", "leastStage", "(I)I"⟩, 11), (⟨"StagedTables$Squeeze", "measure", "(LStagedTables$Packing;I)V"⟩, 3), (⟨"StagedTables$Squeeze", "ready", "(ILStagedTables$Packing;I)I"⟩, 3), (⟨"StagedTables$Squeeze", "addStage", "(II[I)V"⟩, 3), (⟨"StagedTables$Packet", "doRound", "(LStagedTables$Program;[I)V"⟩, 6), (⟨"StagedTables$Packet", "apply", "(LStagedTables$Act;[I)V"⟩, 6), (⟨"StagedTables$Packet", "keepTop", "(I[II)V"⟩, 6), (⟨"StagedTables$Packet", "swap", "(I[II)V"⟩, 6), (⟨"StagedTables", "keptImages", "()I"⟩, 8), (⟨"StagedTablesModel", "lay", "(IIII)V"⟩, 27), (⟨"StagedTablesModel", "isTable", "(I)Z"⟩, 27), (⟨"StagedTablesModel", "entryWith", "(II)I"⟩, 27), (⟨"StagedTablesModel", "isTaken", "(III)Z"⟩, 27), (⟨"StagedTablesModel", "registersOf", "(I)I"⟩, 27)]
theorem lw_r1 : ∀ q ∈ lw_privs_1, lw_okq q := List.forall_mem_cons.mpr ⟨lw_p0, List.forall_mem_cons.mpr ⟨lw_p1, List.forall_mem_cons.mpr ⟨lw_p2, List.forall_mem_cons.mpr ⟨lw_p3, List.forall_mem_cons.mpr ⟨lw_p4, List.forall_mem_cons.mpr ⟨lw_p5, List.forall_mem_cons.mpr ⟨lw_p6, List.forall_mem_cons.mpr ⟨lw_p7, List.forall_mem_cons.mpr ⟨lw_p8, List.forall_mem_cons.mpr ⟨lw_p9, List.forall_mem_cons.mpr ⟨lw_p10, List.forall_mem_cons.mpr ⟨lw_p11, List.forall_mem_cons.mpr ⟨lw_p12, List.forall_mem_cons.mpr ⟨lw_p13, List.forall_mem_cons.mpr ⟨lw_p14, List.forall_mem_cons.mpr ⟨lw_p15, fun _ h => absurd h List.not_mem_nil⟩⟩⟩⟩⟩⟩⟩⟩⟩⟩⟩⟩⟩⟩⟩⟩
theorem lw_p16 : lw_okq (⟨"StagedTablesModel", "isThere", "(I)Z"⟩, 27) := ⟨⟨by decide +kernel, by decide +kernel⟩, List.mem_of_getElem? (i := 527) (by decide +kernel), List.mem_of_getElem? (i := 656) (by decide +kernel), List.mem_of_getElem? (i := 657) (by decide +kernel)⟩
theorem lw_p17 : lw_okq (⟨"StagedTablesModel", "copy", "(II)V"⟩, 27) := ⟨⟨by decide +kernel, by decide +kernel⟩, List.mem_of_getElem? (i := 527) (by decide +kernel), List.mem_of_getElem? (i := 671) (by decide +kernel), List.mem_of_getElem? (i := 672) (by decide +kernel)⟩
theorem lw_p18 : lw_okq (⟨"StagedTablesModel", "needOf", "(II)I"⟩, 27) := ⟨⟨by decide +kernel, by decide +kernel⟩, List.mem_of_getElem? (i := 527) (by decide +kernel), List.mem_of_getElem? (i := 687) (by decide +kernel), List.mem_of_getElem? (i := 688) (by decide +kernel)⟩
theorem lw_p19 : lw_okq (⟨"StagedTablesModel", "writes", "(I)I"⟩, 27) := ⟨⟨by decide +kernel, by decide +kernel⟩, List.mem_of_getElem? (i := 527) (by decide +kernel), List.mem_of_getElem? (i := 691) (by decide +kernel), List.mem_of_getElem? (i := 692) (by decide +kernel)⟩
theorem lw_p20 : lw_okq (⟨"StagedTablesModel", "reads", "(I)I"⟩, 27) := ⟨⟨by decide +kernel, by decide +kernel⟩, List.mem_of_getElem? (i := 527) (by decide +kernel), List.mem_of_getElem? (i := 695) (by decide +kernel), List.mem_of_getElem? (i := 696) (by decide +kernel)⟩
theorem lw_p21 : lw_okq (⟨"StagedTablesModel", "part", "(II)I"⟩, 27) := ⟨⟨by decide +kernel, by decide +kernel⟩, List.mem_of_getElem? (i := 527) (by decide +kernel), List.mem_of_getElem? (i := 703) (by decide +kernel), List.mem_of_getElem? (i := 704) (by decide +kernel)⟩
theorem lw_p22 : lw_okq (⟨"StagedTablesModel", "levelOf", "(I)I"⟩, 27) := ⟨⟨by decide +kernel, by decide +kernel⟩, List.mem_of_getElem? (i := 527) (by decide +kernel), List.mem_of_getElem? (i := 707) (by decide +kernel), List.mem_of_getElem? (i := 708) (by decide +kernel)⟩
theorem lw_p23 : lw_okq (⟨"StagedTablesModel", "pack", "()Z"⟩, 27) := ⟨⟨by decide +kernel, by decide +kernel⟩, List.mem_of_getElem? (i := 527) (by decide +kernel), List.mem_of_getElem? (i := 711) (by decide +kernel), List.mem_of_getElem? (i := 712) (by decide +kernel)⟩
theorem lw_p24 : lw_okq (⟨"StagedTablesModel", "sizeOf", "(I)I"⟩, 27) := ⟨⟨by decide +kernel, by decide +kernel⟩, List.mem_of_getElem? (i := 527) (by decide +kernel), List.mem_of_getElem? (i := 715) (by decide +kernel), List.mem_of_getElem? (i := 716) (by decide +kernel)⟩
theorem lw_p25 : lw_okq (⟨"StagedTablesModel", "canFollow", "(II)Z"⟩, 27) := ⟨⟨by decide +kernel, by decide +kernel⟩, List.mem_of_getElem? (i := 527) (by decide +kernel), List.mem_of_getElem? (i := 731) (by decide +kernel), List.mem_of_getElem? (i := 732) (by decide +kernel)⟩
theorem lw_p26 : lw_okq (⟨"StagedTablesModel", "round", "()V"⟩, 27) := ⟨⟨by decide +kernel, by decide +kernel⟩, List.mem_of_getElem? (i := 527) (by decide +kernel), List.mem_of_getElem? (i := 755) (by decide +kernel), List.mem_of_getElem? (i := 756) (by decide +kernel)⟩
theorem lw_p27 : lw_okq (⟨"StagedTablesModel", "act", "(I)V"⟩, 27) := ⟨⟨by decide +kernel, by decide +kernel⟩, List.mem_of_getElem? (i := 527) (by decide +kernel), List.mem_of_getElem? (i := 759) (by decide +kernel), List.mem_of_getElem? (i := 760) (by decide +kernel)⟩
def lw_privs_2 : List (MethodName × Nat) := [(⟨"StagedTablesModel", "isThere", "(I)Z"⟩, 27), (⟨"StagedTablesModel", "copy", "(II)V"⟩, 27), (⟨"StagedTablesModel", "needOf", "(II)I"⟩, 27), (⟨"StagedTablesModel", "writes", "(I)I"⟩, 27), (⟨"StagedTablesModel", "reads", "(I)I"⟩, 27), (⟨"StagedTablesModel", "part", "(II)I"⟩, 27), (⟨"StagedTablesModel", "levelOf", "(I)I"⟩, 27), (⟨"StagedTablesModel", "pack", "()Z"⟩, 27), (⟨"StagedTablesModel", "sizeOf", "(I)I"⟩, 27), (⟨"StagedTablesModel", "canFollow", "(II)Z"⟩, 27), (⟨"StagedTablesModel", "round", "()V"⟩, 27), (⟨"StagedTablesModel", "act", "(I)V"⟩, 27)]
theorem lw_r2 : ∀ q ∈ lw_privs_2, lw_okq q := List.forall_mem_cons.mpr ⟨lw_p16, List.forall_mem_cons.mpr ⟨lw_p17, List.forall_mem_cons.mpr ⟨lw_p18, List.forall_mem_cons.mpr ⟨lw_p19, List.forall_mem_cons.mpr ⟨lw_p20, List.forall_mem_cons.mpr ⟨lw_p21, List.forall_mem_cons.mpr ⟨lw_p22, List.forall_mem_cons.mpr ⟨lw_p23, List.forall_mem_cons.mpr ⟨lw_p24, List.forall_mem_cons.mpr ⟨lw_p25, List.forall_mem_cons.mpr ⟨lw_p26, List.forall_mem_cons.mpr ⟨lw_p27, fun _ h => absurd h List.not_mem_nil⟩⟩⟩⟩⟩⟩⟩⟩⟩⟩⟩⟩
def lw_privs : List (MethodName × Nat) := lw_privs_1 ++ (lw_privs_2)
def lw_tbl : List Cond := k2_sels lw_privs ++ tables_1
theorem lw_privs_ok : ∀ q ∈ lw_privs, lw_okq q := by
  show ∀ q ∈ lw_privs_1 ++ (lw_privs_2), lw_okq q
  exact List.forall_mem_append.mpr ⟨lw_r1, lw_r2⟩
def RX0 : String := "StagedTables$Act"
def TX0 : u_T := fun k => match k with
  | 0 => ("StagedTables$Act", "kind", "I", false)
  | 1 => ("StagedTables$Act", "target", "I", false)
  | _ => ("StagedTables$Act", "x", "I", false)
def tyX0 : Nat → FieldType := fun k => match k with
  | 0 => .int
  | 1 => .int
  | _ => .int
abbrev wsX00 : List Cond := u_ws RX0 TX0 3
theorem nmX0 : ∀ a, a < 3 → ∀ b, b < 3 → a ≠ b → (TX0 a).2.1 ≠ (TX0 b).2.1 := by decide +kernel
theorem tyX0_ok : ∀ k, k < 3 → parseFieldDescriptor (TX0 k).2.2.1 = some (tyX0 k) := by decide +kernel
abbrev cX0_init : ByteArray := prog_2_method_1_code
def yX0_init : MethodName := ⟨RX0, "<init>", "()V"⟩
abbrev cX0_become : ByteArray := prog_2_method_2_code
def yX0_become : MethodName := ⟨RX0, "become", "(III)V"⟩
abbrev cX0_copy : ByteArray := prog_2_method_3_code
def yX0_copy : MethodName := ⟨RX0, "copy", "(LStagedTables$Act;)V"⟩
abbrev cX0_writtenFields : ByteArray := prog_2_method_4_code
def yX0_writtenFields : MethodName := ⟨RX0, "writtenFields", "()I"⟩
abbrev cX0_readFields : ByteArray := prog_2_method_5_code
def yX0_readFields : MethodName := ⟨RX0, "readFields", "()I"⟩
abbrev cX0_ownRegisters : ByteArray := prog_2_method_6_code
def yX0_ownRegisters : MethodName := ⟨RX0, "ownRegisters", "()I"⟩
def RX1 : String := "StagedTables$Packet"
def TX1 : u_T := fun k => match k with
  | 0 => ("StagedTables$Packet", "fields", "[I", true)
  | 1 => ("StagedTables$Packet", "dropped", "Z", false)
  | 2 => ("StagedTables$Packet", "again", "Z", false)
  | 3 => ("StagedTables$Packet", "rounds", "I", false)
  | 4 => ("StagedTables$Packet", "tables", "I", false)
  | _ => ("StagedTables$Packet", "slots", "[[I", true)
def tyX1 : Nat → FieldType := fun k => match k with
  | 0 => .array .int
  | 1 => .boolean
  | 2 => .boolean
  | 3 => .int
  | 4 => .int
  | _ => .array (.array .int)
abbrev wsX10 : List Cond := u_ws RX1 TX1 6
theorem nmX1 : ∀ a, a < 6 → ∀ b, b < 6 → a ≠ b → (TX1 a).2.1 ≠ (TX1 b).2.1 := by decide +kernel
theorem tyX1_ok : ∀ k, k < 6 → parseFieldDescriptor (TX1 k).2.2.1 = some (tyX1 k) := by decide +kernel
abbrev cX1_init : ByteArray := prog_3_method_1_code
def yX1_init : MethodName := ⟨RX1, "<init>", "()V"⟩
abbrev cX1_passThrough : ByteArray := prog_3_method_2_code
def yX1_passThrough : MethodName := ⟨RX1, "passThrough", "(LStagedTables$Program;)V"⟩
abbrev cX1_doRound : ByteArray := prog_3_method_3_code
def yX1_doRound : MethodName := ⟨RX1, "doRound", "(LStagedTables$Program;[I)V"⟩
abbrev cX1_apply : ByteArray := prog_3_method_4_code
def yX1_apply : MethodName := ⟨RX1, "apply", "(LStagedTables$Act;[I)V"⟩
abbrev cX1_keepTop : ByteArray := prog_3_method_5_code
def yX1_keepTop : MethodName := ⟨RX1, "keepTop", "(I[II)V"⟩
abbrev cX1_swap : ByteArray := prog_3_method_6_code
def yX1_swap : MethodName := ⟨RX1, "swap", "(I[II)V"⟩
def RX2 : String := "StagedTables$Packing"
def TX2 : u_T := fun k => match k with
  | 0 => ("StagedTables$Packing", "keys", "[I", true)
  | 1 => ("StagedTables$Packing", "writes", "[I", true)
  | 2 => ("StagedTables$Packing", "reads", "[I", true)
  | 3 => ("StagedTables$Packing", "sizes", "[I", true)
  | 4 => ("StagedTables$Packing", "mustFollow", "[I", true)
  | 5 => ("StagedTables$Packing", "mayJoin", "[I", true)
  | 6 => ("StagedTables$Packing", "levels", "[I", true)
  | 7 => ("StagedTables$Packing", "places", "[I", true)
  | 8 => ("StagedTables$Packing", "stageTables", "[I", true)
  | 9 => ("StagedTables$Packing", "stageSizes", "[I", true)
  | _ => ("StagedTables$Packing", "packed", "Z", false)
def tyX2 : Nat → FieldType := fun k => match k with
  | 0 => .array .int
  | 1 => .array .int
  | 2 => .array .int
  | 3 => .array .int
  | 4 => .array .int
  | 5 => .array .int
  | 6 => .array .int
  | 7 => .array .int
  | 8 => .array .int
  | 9 => .array .int
  | _ => .boolean
abbrev wsX20 : List Cond := u_ws RX2 TX2 11
theorem nmX2 : ∀ a, a < 11 → ∀ b, b < 11 → a ≠ b → (TX2 a).2.1 ≠ (TX2 b).2.1 := by decide +kernel
theorem tyX2_ok : ∀ k, k < 11 → parseFieldDescriptor (TX2 k).2.2.1 = some (tyX2 k) := by decide +kernel
abbrev cX2_init : ByteArray := prog_4_method_1_code
def yX2_init : MethodName := ⟨RX2, "<init>", "()V"⟩
abbrev cX2_arrange : ByteArray := prog_4_method_2_code
def yX2_arrange : MethodName := ⟨RX2, "arrange", "(LStagedTables$Program;)V"⟩
abbrev cX2_look : ByteArray := prog_4_method_3_code
def yX2_look : MethodName := ⟨RX2, "look", "(ILStagedTables$Table;)V"⟩
abbrev cX2_needOf : ByteArray := prog_4_method_4_code
def yX2_needOf : MethodName := ⟨RX2, "needOf", "(II)I"⟩
abbrev cX2_place : ByteArray := prog_4_method_5_code
def yX2_place : MethodName := ⟨RX2, "place", "(I[I)Z"⟩
abbrev cX2_leastStage : ByteArray := prog_4_method_6_code
def yX2_leastStage : MethodName := ⟨RX2, "leastStage", "(I)I"⟩
abbrev cX2_stagesWithTables : ByteArray := prog_4_method_7_code
def yX2_stagesWithTables : MethodName := ⟨RX2, "stagesWithTables", "()I"⟩
def RX3 : String := "StagedTables$Program"
def TX3 : u_T := fun k => match k with
  | 0 => ("StagedTables$Program", "size", "I", false)
  | 1 => ("StagedTables$Program", "tables", "[LStagedTables$Table;", true)
  | 2 => ("StagedTables$Program", "registers", "[I", true)
  | 3 => ("StagedTables$Program", "rules", "[I", true)
  | _ => ("StagedTables$Program", "toldFields", "[I", true)
def tyX3 : Nat → FieldType := fun k => match k with
  | 0 => .int
  | 1 => .array (.object "StagedTables$Table")
  | 2 => .array .int
  | 3 => .array .int
  | _ => .array .int
abbrev wsX30 : List Cond := u_ws RX3 TX3 5
theorem nmX3 : ∀ a, a < 5 → ∀ b, b < 5 → a ≠ b → (TX3 a).2.1 ≠ (TX3 b).2.1 := by decide +kernel
theorem tyX3_ok : ∀ k, k < 5 → parseFieldDescriptor (TX3 k).2.2.1 = some (tyX3 k) := by decide +kernel
abbrev cX3_init : ByteArray := prog_5_method_1_code
def yX3_init : MethodName := ⟨RX3, "<init>", "()V"⟩
abbrev cX3_copy : ByteArray := prog_5_method_2_code
def yX3_copy : MethodName := ⟨RX3, "copy", "(LStagedTables$Program;)V"⟩
abbrev cX3_hasTable : ByteArray := prog_5_method_3_code
def yX3_hasTable : MethodName := ⟨RX3, "hasTable", "(I)Z"⟩
abbrev cX3_addTable : ByteArray := prog_5_method_4_code
def yX3_addTable : MethodName := ⟨RX3, "addTable", "(I)I"⟩
abbrev cX3_removeTable : ByteArray := prog_5_method_5_code
def yX3_removeTable : MethodName := ⟨RX3, "removeTable", "(I)I"⟩
abbrev cX3_isTakenElsewhere : ByteArray := prog_5_method_6_code
def yX3_isTakenElsewhere : MethodName := ⟨RX3, "isTakenElsewhere", "(III)Z"⟩
def RX4 : String := "StagedTables$Squeeze"
def TX4 : u_T := fun k => match k with
  | 0 => ("StagedTables$Squeeze", "stagesOf", "[I", true)
  | 1 => ("StagedTables$Squeeze", "sizes", "[I", true)
  | _ => ("StagedTables$Squeeze", "mayJoin", "[I", true)
def tyX4 : Nat → FieldType := fun k => match k with
  | 0 => .array .int
  | 1 => .array .int
  | _ => .array .int
abbrev wsX40 : List Cond := u_ws RX4 TX4 3
theorem nmX4 : ∀ a, a < 3 → ∀ b, b < 3 → a ≠ b → (TX4 a).2.1 ≠ (TX4 b).2.1 := by decide +kernel
theorem tyX4_ok : ∀ k, k < 3 → parseFieldDescriptor (TX4 k).2.2.1 = some (tyX4 k) := by decide +kernel
abbrev cX4_init : ByteArray := prog_6_method_1_code
def yX4_init : MethodName := ⟨RX4, "<init>", "()V"⟩
abbrev cX4_fewestStages : ByteArray := prog_6_method_2_code
def yX4_fewestStages : MethodName := ⟨RX4, "fewestStages", "(LStagedTables$Packing;LStagedTables$Program;)I"⟩
abbrev cX4_measure : ByteArray := prog_6_method_3_code
def yX4_measure : MethodName := ⟨RX4, "measure", "(LStagedTables$Packing;I)V"⟩
abbrev cX4_ready : ByteArray := prog_6_method_4_code
def yX4_ready : MethodName := ⟨RX4, "ready", "(ILStagedTables$Packing;I)I"⟩
abbrev cX4_addStage : ByteArray := prog_6_method_5_code
def yX4_addStage : MethodName := ⟨RX4, "addStage", "(II[I)V"⟩
def RX5 : String := "StagedTables$Table"
def TX5 : u_T := fun k => match k with
  | 0 => ("StagedTables$Table", "key", "I", false)
  | 1 => ("StagedTables$Table", "entries", "I", false)
  | 2 => ("StagedTables$Table", "values", "[I", true)
  | _ => ("StagedTables$Table", "acts", "[LStagedTables$Act;", true)
def tyX5 : Nat → FieldType := fun k => match k with
  | 0 => .int
  | 1 => .int
  | 2 => .array .int
  | _ => .array (.object "StagedTables$Act")
abbrev wsX50 : List Cond := u_ws RX5 TX5 4
theorem nmX5 : ∀ a, a < 4 → ∀ b, b < 4 → a ≠ b → (TX5 a).2.1 ≠ (TX5 b).2.1 := by decide +kernel
theorem tyX5_ok : ∀ k, k < 4 → parseFieldDescriptor (TX5 k).2.2.1 = some (tyX5 k) := by decide +kernel
abbrev cX5_init : ByteArray := prog_7_method_1_code
def yX5_init : MethodName := ⟨RX5, "<init>", "()V"⟩
abbrev cX5_begin : ByteArray := prog_7_method_2_code
def yX5_begin : MethodName := ⟨RX5, "begin", "(I)V"⟩
abbrev cX5_copy : ByteArray := prog_7_method_3_code
def yX5_copy : MethodName := ⟨RX5, "copy", "(LStagedTables$Table;)V"⟩
abbrev cX5_size : ByteArray := prog_7_method_4_code
def yX5_size : MethodName := ⟨RX5, "size", "()I"⟩
abbrev cX5_slotOf : ByteArray := prog_7_method_5_code
def yX5_slotOf : MethodName := ⟨RX5, "slotOf", "(I)I"⟩
abbrev cX5_addEntry : ByteArray := prog_7_method_6_code
def yX5_addEntry : MethodName := ⟨RX5, "addEntry", "(IIII)I"⟩
abbrev cX5_removeEntry : ByteArray := prog_7_method_7_code
def yX5_removeEntry : MethodName := ⟨RX5, "removeEntry", "(I)I"⟩
abbrev cX5_isUsed : ByteArray := prog_7_method_8_code
def yX5_isUsed : MethodName := ⟨RX5, "isUsed", "(I)Z"⟩
abbrev cX5_writtenFields : ByteArray := prog_7_method_9_code
def yX5_writtenFields : MethodName := ⟨RX5, "writtenFields", "()I"⟩
abbrev cX5_readFields : ByteArray := prog_7_method_10_code
def yX5_readFields : MethodName := ⟨RX5, "readFields", "()I"⟩
abbrev cX5_ownRegisters : ByteArray := prog_7_method_11_code
def yX5_ownRegisters : MethodName := ⟨RX5, "ownRegisters", "()I"⟩
abbrev cX5_partOfAct : ByteArray := prog_7_method_12_code
def yX5_partOfAct : MethodName := ⟨RX5, "partOfAct", "(I)I"⟩
def RX6 : String := "StagedTables"
def TX6 : u_T := fun k => match k with
  | 0 => ("StagedTables", "program", "LStagedTables$Program;", true)
  | 1 => ("StagedTables", "packing", "LStagedTables$Packing;", true)
  | 2 => ("StagedTables", "squeeze", "LStagedTables$Squeeze;", true)
  | 3 => ("StagedTables", "last", "LStagedTables$Packet;", true)
  | 4 => ("StagedTables", "images", "[LStagedTables$Program;", true)
  | 5 => ("StagedTables", "packetsDone", "I", false)
  | 6 => ("StagedTables", "packetsDropped", "I", false)
  | _ => ("StagedTables", "roundsDone", "I", false)
def tyX6 : Nat → FieldType := fun k => match k with
  | 0 => .object "StagedTables$Program"
  | 1 => .object "StagedTables$Packing"
  | 2 => .object "StagedTables$Squeeze"
  | 3 => .object "StagedTables$Packet"
  | 4 => .array (.object "StagedTables$Program")
  | 5 => .int
  | 6 => .int
  | _ => .int
abbrev wsX60 : List Cond := u_ws RX6 TX6 8
theorem nmX6 : ∀ a, a < 8 → ∀ b, b < 8 → a ≠ b → (TX6 a).2.1 ≠ (TX6 b).2.1 := by decide +kernel
theorem tyX6_ok : ∀ k, k < 8 → parseFieldDescriptor (TX6 k).2.2.1 = some (tyX6 k) := by decide +kernel
abbrev cX6_init : ByteArray := prog_1_method_1_code
def yX6_init : MethodName := ⟨RX6, "<init>", "()V"⟩
abbrev cX6_table : ByteArray := prog_1_method_2_code
def yX6_table : MethodName := ⟨RX6, "table", "(I)I"⟩
abbrev cX6_entry : ByteArray := prog_1_method_3_code
def yX6_entry : MethodName := ⟨RX6, "entry", "(IIIII)I"⟩
abbrev cX6_otherwise : ByteArray := prog_1_method_4_code
def yX6_otherwise : MethodName := ⟨RX6, "otherwise", "(IIII)I"⟩
abbrev cX6_forget : ByteArray := prog_1_method_5_code
def yX6_forget : MethodName := ⟨RX6, "forget", "(II)I"⟩
abbrev cX6_drop : ByteArray := prog_1_method_6_code
def yX6_drop : MethodName := ⟨RX6, "drop", "(I)I"⟩
abbrev cX6_rule : ByteArray := prog_1_method_7_code
def yX6_rule : MethodName := ⟨RX6, "rule", "(II)I"⟩
abbrev cX6_told : ByteArray := prog_1_method_8_code
def yX6_told : MethodName := ⟨RX6, "told", "(II)I"⟩
abbrev cX6_needs : ByteArray := prog_1_method_9_code
def yX6_needs : MethodName := ⟨RX6, "needs", "(II)I"⟩
abbrev cX6_stages : ByteArray := prog_1_method_10_code
def yX6_stages : MethodName := ⟨RX6, "stages", "()I"⟩
abbrev cX6_stage : ByteArray := prog_1_method_11_code
def yX6_stage : MethodName := ⟨RX6, "stage", "(II)I"⟩
abbrev cX6_fewest : ByteArray := prog_1_method_12_code
def yX6_fewest : MethodName := ⟨RX6, "fewest", "()I"⟩
abbrev cX6_tell : ByteArray := prog_1_method_13_code
def yX6_tell : MethodName := ⟨RX6, "tell", "(II)I"⟩
abbrev cX6_put : ByteArray := prog_1_method_14_code
def yX6_put : MethodName := ⟨RX6, "put", "(II)I"⟩
abbrev cX6_register : ByteArray := prog_1_method_15_code
def yX6_register : MethodName := ⟨RX6, "register", "(I)I"⟩
abbrev cX6_run : ByteArray := prog_1_method_16_code
def yX6_run : MethodName := ⟨RX6, "run", "()I"⟩
abbrev cX6_out : ByteArray := prog_1_method_17_code
def yX6_out : MethodName := ⟨RX6, "out", "(I)I"⟩
abbrev cX6_took : ByteArray := prog_1_method_18_code
def yX6_took : MethodName := ⟨RX6, "took", "(II)I"⟩
abbrev cX6_image : ByteArray := prog_1_method_19_code
def yX6_image : MethodName := ⟨RX6, "image", "(I)I"⟩
abbrev cX6_restore : ByteArray := prog_1_method_20_code
def yX6_restore : MethodName := ⟨RX6, "restore", "(I)I"⟩
abbrev cX6_count : ByteArray := prog_1_method_21_code
def yX6_count : MethodName := ⟨RX6, "count", "(I)I"⟩
abbrev cX6_keptImages : ByteArray := prog_1_method_22_code
def yX6_keptImages : MethodName := ⟨RX6, "keptImages", "()I"⟩
abbrev cX6_isIn : ByteArray := prog_1_method_23_code
def yX6_isIn : MethodName := ⟨RX6, "isIn", "(II)Z"⟩
abbrev cX6_isUpTo : ByteArray := prog_1_method_24_code
def yX6_isUpTo : MethodName := ⟨RX6, "isUpTo", "(II)Z"⟩
abbrev cX6_hasTarget : ByteArray := prog_1_method_25_code
def yX6_hasTarget : MethodName := ⟨RX6, "hasTarget", "(I)Z"⟩
abbrev cX6_hasRegister : ByteArray := prog_1_method_26_code
def yX6_hasRegister : MethodName := ⟨RX6, "hasRegister", "(I)Z"⟩
abbrev cX6_isAct : ByteArray := prog_1_method_27_code
def yX6_isAct : MethodName := ⟨RX6, "isAct", "(III)Z"⟩
def RX7 : String := "StagedTablesModel"
def TX7 : u_T := fun k => match k with
  | 0 => ("StagedTablesModel", "many", "I", false)
  | 1 => ("StagedTablesModel", "keys", "[I", true)
  | 2 => ("StagedTablesModel", "entries", "[I", true)
  | 3 => ("StagedTablesModel", "values", "[I", true)
  | 4 => ("StagedTablesModel", "kinds", "[I", true)
  | 5 => ("StagedTablesModel", "targets", "[I", true)
  | 6 => ("StagedTablesModel", "numbers", "[I", true)
  | 7 => ("StagedTablesModel", "registers", "[I", true)
  | 8 => ("StagedTablesModel", "packet", "[I", true)
  | 9 => ("StagedTablesModel", "rules", "[I", true)
  | 10 => ("StagedTablesModel", "levels", "[I", true)
  | 11 => ("StagedTablesModel", "stageOf", "[I", true)
  | 12 => ("StagedTablesModel", "packed", "[I", true)
  | 13 => ("StagedTablesModel", "sizes", "[I", true)
  | 14 => ("StagedTablesModel", "after", "[I", true)
  | 15 => ("StagedTablesModel", "needed", "[I", true)
  | 16 => ("StagedTablesModel", "wanted", "[I", true)
  | 17 => ("StagedTablesModel", "now", "[I", true)
  | 18 => ("StagedTablesModel", "isDropped", "Z", false)
  | 19 => ("StagedTablesModel", "isAgain", "Z", false)
  | 20 => ("StagedTablesModel", "rounds", "I", false)
  | 21 => ("StagedTablesModel", "taken", "[I", true)
  | 22 => ("StagedTablesModel", "packets", "I", false)
  | 23 => ("StagedTablesModel", "dropped", "I", false)
  | 24 => ("StagedTablesModel", "allRounds", "I", false)
  | 25 => ("StagedTablesModel", "image", "[I", true)
  | _ => ("StagedTablesModel", "isKept", "[Z", true)
def tyX7 : Nat → FieldType := fun k => match k with
  | 0 => .int
  | 1 => .array .int
  | 2 => .array .int
  | 3 => .array .int
  | 4 => .array .int
  | 5 => .array .int
  | 6 => .array .int
  | 7 => .array .int
  | 8 => .array .int
  | 9 => .array .int
  | 10 => .array .int
  | 11 => .array .int
  | 12 => .array .int
  | 13 => .array .int
  | 14 => .array .int
  | 15 => .array .int
  | 16 => .array .int
  | 17 => .array .int
  | 18 => .boolean
  | 19 => .boolean
  | 20 => .int
  | 21 => .array .int
  | 22 => .int
  | 23 => .int
  | 24 => .int
  | 25 => .array .int
  | _ => .array .boolean
abbrev wsX70 : List Cond := u_ws RX7 TX7 27
theorem nmX7 : ∀ a, a < 27 → ∀ b, b < 27 → a ≠ b → (TX7 a).2.1 ≠ (TX7 b).2.1 := by decide +kernel
theorem tyX7_ok : ∀ k, k < 27 → parseFieldDescriptor (TX7 k).2.2.1 = some (tyX7 k) := by decide +kernel
abbrev cX7_init : ByteArray := prog_9_method_1_code
def yX7_init : MethodName := ⟨RX7, "<init>", "()V"⟩
abbrev cX7_in : ByteArray := prog_9_method_2_code
def yX7_in : MethodName := ⟨RX7, "in", "(III)Z"⟩
abbrev cX7_isTable : ByteArray := prog_9_method_3_code
def yX7_isTable : MethodName := ⟨RX7, "isTable", "(I)Z"⟩
abbrev cX7_isField : ByteArray := prog_9_method_4_code
def yX7_isField : MethodName := ⟨RX7, "isField", "(I)Z"⟩
abbrev cX7_has : ByteArray := prog_9_method_5_code
def yX7_has : MethodName := ⟨RX7, "has", "(II)Z"⟩
abbrev cX7_bits : ByteArray := prog_9_method_6_code
def yX7_bits : MethodName := ⟨RX7, "bits", "(I)I"⟩
abbrev cX7_table : ByteArray := prog_9_method_7_code
def yX7_table : MethodName := ⟨RX7, "table", "(I)I"⟩
abbrev cX7_matters : ByteArray := prog_9_method_8_code
def yX7_matters : MethodName := ⟨RX7, "matters", "(I)Z"⟩
abbrev cX7_lay : ByteArray := prog_9_method_9_code
def yX7_lay : MethodName := ⟨RX7, "lay", "(IIII)V"⟩
abbrev cX7_isAct : ByteArray := prog_9_method_10_code
def yX7_isAct : MethodName := ⟨RX7, "isAct", "(III)Z"⟩
abbrev cX7_isThere : ByteArray := prog_9_method_11_code
def yX7_isThere : MethodName := ⟨RX7, "isThere", "(I)Z"⟩
abbrev cX7_registersOf : ByteArray := prog_9_method_12_code
def yX7_registersOf : MethodName := ⟨RX7, "registersOf", "(I)I"⟩
abbrev cX7_isTaken : ByteArray := prog_9_method_13_code
def yX7_isTaken : MethodName := ⟨RX7, "isTaken", "(III)Z"⟩
abbrev cX7_entryWith : ByteArray := prog_9_method_14_code
def yX7_entryWith : MethodName := ⟨RX7, "entryWith", "(II)I"⟩
abbrev cX7_entry : ByteArray := prog_9_method_15_code
def yX7_entry : MethodName := ⟨RX7, "entry", "(IIIII)I"⟩
abbrev cX7_otherwise : ByteArray := prog_9_method_16_code
def yX7_otherwise : MethodName := ⟨RX7, "otherwise", "(IIII)I"⟩
abbrev cX7_copy : ByteArray := prog_9_method_17_code
def yX7_copy : MethodName := ⟨RX7, "copy", "(II)V"⟩
abbrev cX7_forget : ByteArray := prog_9_method_18_code
def yX7_forget : MethodName := ⟨RX7, "forget", "(II)I"⟩
abbrev cX7_drop : ByteArray := prog_9_method_19_code
def yX7_drop : MethodName := ⟨RX7, "drop", "(I)I"⟩
abbrev cX7_rule : ByteArray := prog_9_method_20_code
def yX7_rule : MethodName := ⟨RX7, "rule", "(II)I"⟩
abbrev cX7_writes : ByteArray := prog_9_method_21_code
def yX7_writes : MethodName := ⟨RX7, "writes", "(I)I"⟩
abbrev cX7_reads : ByteArray := prog_9_method_22_code
def yX7_reads : MethodName := ⟨RX7, "reads", "(I)I"⟩
abbrev cX7_needOf : ByteArray := prog_9_method_23_code
def yX7_needOf : MethodName := ⟨RX7, "needOf", "(II)I"⟩
abbrev cX7_needs : ByteArray := prog_9_method_24_code
def yX7_needs : MethodName := ⟨RX7, "needs", "(II)I"⟩
abbrev cX7_sizeOf : ByteArray := prog_9_method_25_code
def yX7_sizeOf : MethodName := ⟨RX7, "sizeOf", "(I)I"⟩
abbrev cX7_levelOf : ByteArray := prog_9_method_26_code
def yX7_levelOf : MethodName := ⟨RX7, "levelOf", "(I)I"⟩
abbrev cX7_pack : ByteArray := prog_9_method_27_code
def yX7_pack : MethodName := ⟨RX7, "pack", "()Z"⟩
abbrev cX7_part : ByteArray := prog_9_method_28_code
def yX7_part : MethodName := ⟨RX7, "part", "(II)I"⟩
abbrev cX7_told : ByteArray := prog_9_method_29_code
def yX7_told : MethodName := ⟨RX7, "told", "(II)I"⟩
abbrev cX7_stages : ByteArray := prog_9_method_30_code
def yX7_stages : MethodName := ⟨RX7, "stages", "()I"⟩
abbrev cX7_stage : ByteArray := prog_9_method_31_code
def yX7_stage : MethodName := ⟨RX7, "stage", "(II)I"⟩
abbrev cX7_canFollow : ByteArray := prog_9_method_32_code
def yX7_canFollow : MethodName := ⟨RX7, "canFollow", "(II)Z"⟩
abbrev cX7_fewest : ByteArray := prog_9_method_33_code
def yX7_fewest : MethodName := ⟨RX7, "fewest", "()I"⟩
abbrev cX7_tell : ByteArray := prog_9_method_34_code
def yX7_tell : MethodName := ⟨RX7, "tell", "(II)I"⟩
abbrev cX7_put : ByteArray := prog_9_method_35_code
def yX7_put : MethodName := ⟨RX7, "put", "(II)I"⟩
abbrev cX7_register : ByteArray := prog_9_method_36_code
def yX7_register : MethodName := ⟨RX7, "register", "(I)I"⟩
abbrev cX7_act : ByteArray := prog_9_method_37_code
def yX7_act : MethodName := ⟨RX7, "act", "(I)V"⟩
abbrev cX7_round : ByteArray := prog_9_method_38_code
def yX7_round : MethodName := ⟨RX7, "round", "()V"⟩
abbrev cX7_run : ByteArray := prog_9_method_39_code
def yX7_run : MethodName := ⟨RX7, "run", "()I"⟩
abbrev cX7_out : ByteArray := prog_9_method_40_code
def yX7_out : MethodName := ⟨RX7, "out", "(I)I"⟩
abbrev cX7_took : ByteArray := prog_9_method_41_code
def yX7_took : MethodName := ⟨RX7, "took", "(II)I"⟩
abbrev cX7_image : ByteArray := prog_9_method_42_code
def yX7_image : MethodName := ⟨RX7, "image", "(I)I"⟩
abbrev cX7_restore : ByteArray := prog_9_method_43_code
def yX7_restore : MethodName := ⟨RX7, "restore", "(I)I"⟩
abbrev cX7_count : ByteArray := prog_9_method_44_code
def yX7_count : MethodName := ⟨RX7, "count", "(I)I"⟩
def RJx8e188 : String := "java/lang/Cloneable"
def TJx8e188 : u_T := fun k => match k with
  | _ => ("", "", "", false)
def tyJx8e188 : Nat → FieldType := fun k => match k with
  | _ => .int
abbrev wsJx8e1880 : List Cond := u_ws RJx8e188 TJx8e188 0
theorem nmJx8e188 : ∀ a, a < 0 → ∀ b, b < 0 → a ≠ b → (TJx8e188 a).2.1 ≠ (TJx8e188 b).2.1 := by decide +kernel
theorem tyJx8e188_ok : ∀ k, k < 0 → parseFieldDescriptor (TJx8e188 k).2.2.1 = some (tyJx8e188 k) := by decide +kernel
def RJ6 : String := "java/lang/Integer"
def TJ6 : u_T := fun k => match k with
  | _ => ("", "", "", false)
def tyJ6 : Nat → FieldType := fun k => match k with
  | _ => .int
abbrev wsJ60 : List Cond := u_ws RJ6 TJ6 0
theorem nmJ6 : ∀ a, a < 0 → ∀ b, b < 0 → a ≠ b → (TJ6 a).2.1 ≠ (TJ6 b).2.1 := by decide +kernel
theorem tyJ6_ok : ∀ k, k < 0 → parseFieldDescriptor (TJ6 k).2.2.1 = some (tyJ6 k) := by decide +kernel
abbrev cJ6_bitCount_0f7a4 : ByteArray := prog_11_method_49_code
def yJ6_bitCount_0f7a4 : MethodName := ⟨RJ6, "bitCount", "(I)I"⟩
def RJ9 : String := "java/lang/Math"
def TJ9 : u_T := fun k => match k with
  | _ => ("", "", "", false)
def tyJ9 : Nat → FieldType := fun k => match k with
  | _ => .int
abbrev wsJ90 : List Cond := u_ws RJ9 TJ9 0
theorem nmJ9 : ∀ a, a < 0 → ∀ b, b < 0 → a ≠ b → (TJ9 a).2.1 ≠ (TJ9 b).2.1 := by decide +kernel
theorem tyJ9_ok : ∀ k, k < 0 → parseFieldDescriptor (TJ9 k).2.2.1 = some (tyJ9 k) := by decide +kernel
abbrev cJ9_max_7cf53 : ByteArray := prog_12_method_65_code
def yJ9_max_7cf53 : MethodName := ⟨RJ9, "max", "(II)I"⟩
abbrev cJ9_min_7cf53 : ByteArray := prog_12_method_69_code
def yJ9_min_7cf53 : MethodName := ⟨RJ9, "min", "(II)I"⟩
def RJ10 : String := "java/lang/System"
def TJ10 : u_T := fun k => match k with
  | _ => ("", "", "", false)
def tyJ10 : Nat → FieldType := fun k => match k with
  | _ => .int
abbrev wsJ100 : List Cond := u_ws RJ10 TJ10 0
theorem nmJ10 : ∀ a, a < 0 → ∀ b, b < 0 → a ≠ b → (TJ10 a).2.1 ≠ (TJ10 b).2.1 := by decide +kernel
theorem tyJ10_ok : ∀ k, k < 0 → parseFieldDescriptor (TJ10 k).2.2.1 = some (tyJ10 k) := by decide +kernel
def RJ7 : String := "java/util/Arrays"
def TJ7 : u_T := fun k => match k with
  | _ => ("", "", "", false)
def tyJ7 : Nat → FieldType := fun k => match k with
  | _ => .int
abbrev wsJ70 : List Cond := u_ws RJ7 TJ7 0
theorem nmJ7 : ∀ a, a < 0 → ∀ b, b < 0 → a ≠ b → (TJ7 a).2.1 ≠ (TJ7 b).2.1 := by decide +kernel
theorem tyJ7_ok : ∀ k, k < 0 → parseFieldDescriptor (TJ7 k).2.2.1 = some (tyJ7 k) := by decide +kernel
abbrev cJ7_fill_53178 : ByteArray := prog_14_method_103_code
def yJ7_fill_53178 : MethodName := ⟨RJ7, "fill", "([II)V"⟩
def RL : String := "StagedTablesLaw"
abbrev cL_law : ByteArray := code
def yL_law : MethodName := ⟨RL, "law", "([I)Z"⟩
