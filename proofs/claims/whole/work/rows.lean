section
/-! names (begun from the printed skeleton and names) -/
/-- a private method of a class that the tables say can be made, by its rows of tables_1 -/
def lw_okq (q : MethodName × Nat) : Prop := (q.1.cls ≠ "java/lang/invoke/MethodHandle" ∧ q.1.cls ≠ "java/lang/invoke/VarHandle") ∧ Cond.instantiable q.1.cls q.2 ∈ tables_1 ∧ Cond.privateMethod q.1 ∈ tables_1 ∧ Cond.instanceMethod q.1 ∈ tables_1
theorem lw_p0 : lw_okq (⟨"StagedTables$Packing", "look", "(ILStagedTables$Table;)V"⟩, 11) := ⟨⟨by decide +kernel, by decide +kernel⟩, List.mem_of_getElem? (i := 119) (by decide +kernel), List.mem_of_getElem? (i := 352) (by decide +kernel), List.mem_of_getElem? (i := 353) (by decide +kernel)⟩
theorem lw_p1 : lw_okq (⟨"StagedTables$Packing", "place", "(I[I)Z"⟩, 11) := ⟨⟨by decide +kernel, by decide +kernel⟩, List.mem_of_getElem? (i := 119) (by decide +kernel), List.mem_of_getElem? (i := 386) (by decide +kernel), List.mem_of_getElem? (i := 387) (by decide +kernel)⟩
theorem lw_p2 : lw_okq (⟨"StagedTables$Packing", "leastStage", "(I)I"⟩, 11) := ⟨⟨by decide +kernel, by decide +kernel⟩, List.mem_of_getElem? (i := 119) (by decide +kernel), List.mem_of_getElem? (i := 390) (by decide +kernel), List.mem_of_getElem? (i := 391) (by decide +kernel)⟩
theorem lw_p3 : lw_okq (⟨"StagedTables$Squeeze", "measure", "(LStagedTables$Packing;I)V"⟩, 3) := ⟨⟨by decide +kernel, by decide +kernel⟩, List.mem_of_getElem? (i := 167) (by decide +kernel), List.mem_of_getElem? (i := 436) (by decide +kernel), List.mem_of_getElem? (i := 437) (by decide +kernel)⟩
theorem lw_p4 : lw_okq (⟨"StagedTables$Squeeze", "ready", "(ILStagedTables$Packing;I)I"⟩, 3) := ⟨⟨by decide +kernel, by decide +kernel⟩, List.mem_of_getElem? (i := 167) (by decide +kernel), List.mem_of_getElem? (i := 441) (by decide +kernel), List.mem_of_getElem? (i := 442) (by decide +kernel)⟩
theorem lw_p5 : lw_okq (⟨"StagedTables$Squeeze", "addStage", "(II[I)V"⟩, 3) := ⟨⟨by decide +kernel, by decide +kernel⟩, List.mem_of_getElem? (i := 167) (by decide +kernel), List.mem_of_getElem? (i := 445) (by decide +kernel), List.mem_of_getElem? (i := 446) (by decide +kernel)⟩
theorem lw_p6 : lw_okq (⟨"StagedTables$Packet", "doRound", "(LStagedTables$Program;[I)V"⟩, 6) := ⟨⟨by decide +kernel, by decide +kernel⟩, List.mem_of_getElem? (i := 183) (by decide +kernel), List.mem_of_getElem? (i := 475) (by decide +kernel), List.mem_of_getElem? (i := 476) (by decide +kernel)⟩
theorem lw_p7 : lw_okq (⟨"StagedTables$Packet", "apply", "(LStagedTables$Act;[I)V"⟩, 6) := ⟨⟨by decide +kernel, by decide +kernel⟩, List.mem_of_getElem? (i := 183) (by decide +kernel), List.mem_of_getElem? (i := 480) (by decide +kernel), List.mem_of_getElem? (i := 481) (by decide +kernel)⟩
theorem lw_p8 : lw_okq (⟨"StagedTables$Packet", "keepTop", "(I[II)V"⟩, 6) := ⟨⟨by decide +kernel, by decide +kernel⟩, List.mem_of_getElem? (i := 183) (by decide +kernel), List.mem_of_getElem? (i := 485) (by decide +kernel), List.mem_of_getElem? (i := 486) (by decide +kernel)⟩
theorem lw_p9 : lw_okq (⟨"StagedTables$Packet", "swap", "(I[II)V"⟩, 6) := ⟨⟨by decide +kernel, by decide +kernel⟩, List.mem_of_getElem? (i := 183) (by decide +kernel), List.mem_of_getElem? (i := 489) (by decide +kernel), List.mem_of_getElem? (i := 490) (by decide +kernel)⟩
theorem lw_p10 : lw_okq (⟨"StagedTables", "keptImages", "()I"⟩, 8) := ⟨⟨by decide +kernel, by decide +kernel⟩, List.mem_of_getElem? (i := 14) (by decide +kernel), List.mem_of_getElem? (i := 523) (by decide +kernel), List.mem_of_getElem? (i := 524) (by decide +kernel)⟩
theorem lw_p11 : lw_okq (⟨"StagedTablesModel", "lay", "(IIII)V"⟩, 27) := ⟨⟨by decide +kernel, by decide +kernel⟩, List.mem_of_getElem? (i := 527) (by decide +kernel), List.mem_of_getElem? (i := 626) (by decide +kernel), List.mem_of_getElem? (i := 627) (by decide +kernel)⟩
theorem lw_p12 : lw_okq (⟨"StagedTablesModel", "isTable", "(I)Z"⟩, 27) := ⟨⟨by decide +kernel, by decide +kernel⟩, List.mem_of_getElem? (i := 527) (by decide +kernel), List.mem_of_getElem? (i := 637) (by decide +kernel), List.mem_of_getElem? (i := 638) (by decide +kernel)⟩
theorem lw_p13 : lw_okq (⟨"StagedTablesModel", "entryWith", "(II)I"⟩, 27) := ⟨⟨by decide +kernel, by decide +kernel⟩, List.mem_of_getElem? (i := 527) (by decide +kernel), List.mem_of_getElem? (i := 644) (by decide +kernel), List.mem_of_getElem? (i := 645) (by decide +kernel)⟩
theorem lw_p14 : lw_okq (⟨"StagedTablesModel", "isTaken", "(III)Z"⟩, 27) := ⟨⟨by decide +kernel, by decide +kernel⟩, List.mem_of_getElem? (i := 527) (by decide +kernel), List.mem_of_getElem? (i := 648) (by decide +kernel), List.mem_of_getElem? (i := 649) (by decide +kernel)⟩
theorem lw_p15 : lw_okq (⟨"StagedTablesModel", "registersOf", "(I)I"⟩, 27) := ⟨⟨by decide +kernel, by decide +kernel⟩, List.mem_of_getElem? (i := 527) (by decide +kernel), List.mem_of_getElem? (i := 652) (by decide +kernel), List.mem_of_getElem? (i := 653) (by decide +kernel)⟩
def lw_privs_1 : List (MethodName × Nat) := [(⟨"StagedTables$Packing", "look", "(ILStagedTables$Table;)V"⟩, 11), (⟨"StagedTables$Packing", "place", "(I[I)Z"⟩, 11), (⟨"StagedTables$Packing", "leastStage", "(I)I"⟩, 11), (⟨"StagedTables$Squeeze", "measure", "(LStagedTables$Packing;I)V"⟩, 3), (⟨"StagedTables$Squeeze", "ready", "(ILStagedTables$Packing;I)I"⟩, 3), (⟨"StagedTables$Squeeze", "addStage", "(II[I)V"⟩, 3), (⟨"StagedTables$Packet", "doRound", "(LStagedTables$Program;[I)V"⟩, 6), (⟨"StagedTables$Packet", "apply", "(LStagedTables$Act;[I)V"⟩, 6), (⟨"StagedTables$Packet", "keepTop", "(I[II)V"⟩, 6), (⟨"StagedTables$Packet", "swap", "(I[II)V"⟩, 6), (⟨"StagedTables", "keptImages", "()I"⟩, 8), (⟨"StagedTablesModel", "lay", "(IIII)V"⟩, 27), (⟨"StagedTablesModel", "isTable", "(I)Z"⟩, 27), (⟨"StagedTablesModel", "entryWith", "(II)I"⟩, 27), (⟨"StagedTablesModel", "isTaken", "(III)Z"⟩, 27), (⟨"StagedTablesModel", "registersOf", "(I)I"⟩, 27)]
theorem lw_r1 : ∀ q ∈ lw_privs_1, lw_okq q := List.forall_mem_cons.mpr ⟨lw_p0, List.forall_mem_cons.mpr ⟨lw_p1, List.forall_mem_cons.mpr ⟨lw_p2, List.forall_mem_cons.mpr ⟨lw_p3, List.forall_mem_cons.mpr ⟨lw_p4, List.forall_mem_cons.mpr ⟨lw_p5, List.forall_mem_cons.mpr ⟨lw_p6, List.forall_mem_cons.mpr ⟨lw_p7, List.forall_mem_cons.mpr ⟨lw_p8, List.forall_mem_cons.mpr ⟨lw_p9, List.forall_mem_cons.mpr ⟨lw_p10, List.forall_mem_cons.mpr ⟨lw_p11, List.forall_mem_cons.mpr ⟨lw_p12, List.forall_mem_cons.mpr ⟨lw_p13, List.forall_mem_cons.mpr ⟨lw_p14, List.forall_mem_cons.mpr ⟨lw_p15, fun _ h => absurd h List.not_mem_nil⟩⟩⟩⟩⟩⟩⟩⟩⟩⟩⟩⟩⟩⟩⟩⟩
theorem lw_p16 : lw_okq (⟨"StagedTablesModel", "isThere", "(I)Z"⟩, 27) := ⟨⟨by decide +kernel, by decide +kernel⟩, List.mem_of_getElem? (i := 527) (by decide +kernel), List.mem_of_getElem? (i := 656) (by decide +kernel), List.mem_of_getElem? (i := 657) (by decide +kernel)⟩
theorem lw_p17 : lw_okq (⟨"StagedTablesModel", "copy", "(II)V"⟩, 27) := ⟨⟨by decide +kernel, by decide +kernel⟩, List.mem_of_getElem? (i := 527) (by decide +kernel), List.mem_of_getElem? (i := 671) (by decide +kernel), List.mem_of_getElem? (i := 672) (by decide +kernel)⟩
theorem lw_p18 : lw_okq (⟨"StagedTablesModel", "needOf", "(II)I"⟩, 27) := ⟨⟨by decide +kernel, by decide +kernel⟩, List.mem_of_getElem? (i := 527) (by decide +kernel), List.mem_of_getElem? (i := 687) (by decide +kernel), List.mem_of_getElem? (i := 688) (by decide +kernel)⟩
theorem lw_p19 : lw_okq (⟨"StagedTablesModel", "writes", "(I)I"⟩, 27) := ⟨⟨by decide +kernel, by decide +kernel⟩, List.mem_of_getElem? (i := 527) (by decide +kernel), List.mem_of_getElem? (i := 691) (by decide +kernel), List.mem_of_getElem? (i := 692) (by decide +kernel)⟩
theorem lw_p20 : lw_okq (⟨"StagedTablesModel", "reads", "(I)I"⟩, 27) := ⟨⟨by decide +kernel, by decide +kernel⟩, List.mem_of_getElem? (i := 527) (by decide +kernel), List.mem_of_getElem? (i := 695) (by decide +kernel), List.mem_of_getElem? (i := 696) (by decide +kernel)⟩
theorem lw_p21 : lw_okq (⟨"StagedTablesModel", "part", "(II)I"⟩, 27) := ⟨⟨by decide +kernel, by decide +kernel⟩, List.mem_of_getElem? (i := 527) (by decide +kernel), List.mem_of_getElem? (i := 703) (by decide +kernel), List.mem_of_getElem? (i := 704) (by decide +kernel)⟩
theorem lw_p22 : lw_okq (⟨"StagedTablesModel", "levelOf", "(I)I"⟩, 27) := ⟨⟨by decide +kernel, by decide +kernel⟩, List.mem_of_getElem? (i := 527) (by decide +kernel), List.mem_of_getElem? (i := 707) (by decide +kernel), List.mem_of_getElem? (i := 708) (by decide +kernel)⟩
theorem lw_p23 : lw_okq (⟨"StagedTablesModel", "pack", "()Z"⟩, 27) := ⟨⟨by decide +kernel, by decide +kernel⟩, List.mem_of_getElem? (i := 527) (by decide +kernel), List.mem_of_getElem? (i := 711) (by decide +kernel), List.mem_of_getElem? (i := 712) (by decide +kernel)⟩
theorem lw_p24 : lw_okq (⟨"StagedTablesModel", "sizeOf", "(I)I"⟩, 27) := ⟨⟨by decide +kernel, by decide +kernel⟩, List.mem_of_getElem? (i := 527) (by decide +kernel), List.mem_of_getElem? (i := 715) (by decide +kernel), List.mem_of_getElem? (i := 716) (by decide +kernel)⟩
theorem lw_p25 : lw_okq (⟨"StagedTablesModel", "canFollow", "(II)Z"⟩, 27) := ⟨⟨by decide +kernel, by decide +kernel⟩, List.mem_of_getElem? (i := 527) (by decide +kernel), List.mem_of_getElem? (i := 731) (by decide +kernel), List.mem_of_getElem? (i := 732) (by decide +kernel)⟩
theorem lw_p26 : lw_okq (⟨"StagedTablesModel", "round", "()V"⟩, 27) := ⟨⟨by decide +kernel, by decide +kernel⟩, List.mem_of_getElem? (i := 527) (by decide +kernel), List.mem_of_getElem? (i := 755) (by decide +kernel), List.mem_of_getElem? (i := 756) (by decide +kernel)⟩
theorem lw_p27 : lw_okq (⟨"StagedTablesModel", "act", "(I)V"⟩, 27) := ⟨⟨by decide +kernel, by decide +kernel⟩, List.mem_of_getElem? (i := 527) (by decide +kernel), List.mem_of_getElem? (i := 759) (by decide +kernel), List.mem_of_getElem? (i := 760) (by decide +kernel)⟩
def lw_privs_2 : List (MethodName × Nat) := [(⟨"StagedTablesModel", "isThere", "(I)Z"⟩, 27), (⟨"StagedTablesModel", "copy", "(II)V"⟩, 27), (⟨"StagedTablesModel", "needOf", "(II)I"⟩, 27), (⟨"StagedTablesModel", "writes", "(I)I"⟩, 27), (⟨"StagedTablesModel", "reads", "(I)I"⟩, 27), (⟨"StagedTablesModel", "part", "(II)I"⟩, 27), (⟨"StagedTablesModel", "levelOf", "(I)I"⟩, 27), (⟨"StagedTablesModel", "pack", "()Z"⟩, 27), (⟨"StagedTablesModel", "sizeOf", "(I)I"⟩, 27), (⟨"StagedTablesModel", "canFollow", "(II)Z"⟩, 27), (⟨"StagedTablesModel", "round", "()V"⟩, 27), (⟨"StagedTablesModel", "act", "(I)V"⟩, 27)]
theorem lw_r2 : ∀ q ∈ lw_privs_2, lw_okq q := List.forall_mem_cons.mpr ⟨lw_p16, List.forall_mem_cons.mpr ⟨lw_p17, List.forall_mem_cons.mpr ⟨lw_p18, List.forall_mem_cons.mpr ⟨lw_p19, List.forall_mem_cons.mpr ⟨lw_p20, List.forall_mem_cons.mpr ⟨lw_p21, List.forall_mem_cons.mpr ⟨lw_p22, List.forall_mem_cons.mpr ⟨lw_p23, List.forall_mem_cons.mpr ⟨lw_p24, List.forall_mem_cons.mpr ⟨lw_p25, List.forall_mem_cons.mpr ⟨lw_p26, List.forall_mem_cons.mpr ⟨lw_p27, fun _ h => absurd h List.not_mem_nil⟩⟩⟩⟩⟩⟩⟩⟩⟩⟩⟩⟩
def lw_privs : List (MethodName × Nat) := lw_privs_1 ++ (lw_privs_2)
def lw_tbl : List Cond := k2_sels lw_privs ++ tables_1
theorem lw_privs_ok : ∀ q ∈ lw_privs, lw_okq q := by
  show ∀ q ∈ lw_privs_1 ++ (lw_privs_2), lw_okq q
  exact List.forall_mem_append.mpr ⟨lw_r1, lw_r2⟩
def RX0 : String := "StagedTables$Act"
def TX0 : u_T := fun k => match k with
  | 0 => ("StagedTables$Act", "kind", "I", false)
  | 1 => ("StagedTables$Act", "target", "I", false)
  | _ => ("StagedTables$Act", "x", "I", false)
def tyX0 : Nat → FieldType := fun k => match k with
  | 0 => .int
  | 1 => .int
  | _ => .int
abbrev wsX00 : List Cond := u_ws RX0 TX0 3
theorem nmX0 : ∀ a, a < 3 → ∀ b, b < 3 → a ≠ b → (TX0 a).2.1 ≠ (TX0 b).2.1 := by decide +kernel
theorem tyX0_ok : ∀ k, k < 3 → parseFieldDescriptor (TX0 k).2.2.1 = some (tyX0 k) := by decide +kernel
abbrev cX0_init : ByteArray := prog_2_method_1_code
def yX0_init : MethodName := ⟨RX0, "<init>", "()V"⟩
abbrev cX0_become : ByteArray := prog_2_method_2_code
def yX0_become : MethodName := ⟨RX0, "become", "(III)V"⟩
abbrev cX0_copy : ByteArray := prog_2_method_3_code
def yX0_copy : MethodName := ⟨RX0, "copy", "(LStagedTables$Act;)V"⟩
abbrev cX0_writtenFields : ByteArray := prog_2_method_4_code
def yX0_writtenFields : MethodName := ⟨RX0, "writtenFields", "()I"⟩
abbrev cX0_readFields : ByteArray := prog_2_method_5_code
def yX0_readFields : MethodName := ⟨RX0, "readFields", "()I"⟩
abbrev cX0_ownRegisters : ByteArray := prog_2_method_6_code
def yX0_ownRegisters : MethodName := ⟨RX0, "ownRegisters", "()I"⟩
def RX1 : String := "StagedTables$Packet"
def TX1 : u_T := fun k => match k with
  | 0 => ("StagedTables$Packet", "fields", "[I", true)
  | 1 => ("StagedTables$Packet", "dropped", "Z", false)
  | 2 => ("StagedTables$Packet", "again", "Z", false)
  | 3 => ("StagedTables$Packet", "rounds", "I", false)
  | 4 => ("StagedTables$Packet", "tables", "I", false)
  | _ => ("StagedTables$Packet", "slots", "[[I", true)
def tyX1 : Nat → FieldType := fun k => match k with
  | 0 => .array .int
  | 1 => .boolean
  | 2 => .boolean
  | 3 => .int
  | 4 => .int
  | _ => .array (.array .int)
abbrev wsX10 : List Cond := u_ws RX1 TX1 6
theorem nmX1 : ∀ a, a < 6 → ∀ b, b < 6 → a ≠ b → (TX1 a).2.1 ≠ (TX1 b).2.1 := by decide +kernel
theorem tyX1_ok : ∀ k, k < 6 → parseFieldDescriptor (TX1 k).2.2.1 = some (tyX1 k) := by decide +kernel
abbrev cX1_init : ByteArray := prog_3_method_1_code
def yX1_init : MethodName := ⟨RX1, "<init>", "()V"⟩
abbrev cX1_passThrough : ByteArray := prog_3_method_2_code
def yX1_passThrough : MethodName := ⟨RX1, "passThrough", "(LStagedTables$Program;)V"⟩
abbrev cX1_doRound : ByteArray := prog_3_method_3_code
def yX1_doRound : MethodName := ⟨RX1, "doRound", "(LStagedTables$Program;[I)V"⟩
abbrev cX1_apply : ByteArray := prog_3_method_4_code
def yX1_apply : MethodName := ⟨RX1, "apply", "(LStagedTables$Act;[I)V"⟩
abbrev cX1_keepTop : ByteArray := prog_3_method_5_code
def yX1_keepTop : MethodName := ⟨RX1, "keepTop", "(I[II)V"⟩
abbrev cX1_swap : ByteArray := prog_3_method_6_code
def yX1_swap : MethodName := ⟨RX1, "swap", "(I[II)V"⟩
def RX2 : String := "StagedTables$Packing"
def TX2 : u_T := fun k => match k with
  | 0 => ("StagedTables$Packing", "keys", "[I", true)
  | 1 => ("StagedTables$Packing", "writes", "[I", true)
  | 2 => ("StagedTables$Packing", "reads", "[I", true)
  | 3 => ("StagedTables$Packing", "sizes", "[I", true)
  | 4 => ("StagedTables$Packing", "mustFollow", "[I", true)
  | 5 => ("StagedTables$Packing", "mayJoin", "[I", true)
  | 6 => ("StagedTables$Packing", "levels", "[I", true)
  | 7 => ("StagedTables$Packing", "places", "[I", true)
  | 8 => ("StagedTables$Packing", "stageTables", "[I", true)
  | 9 => ("StagedTables$Packing", "stageSizes", "[I", true)
  | _ => ("StagedTables$Packing", "packed", "Z", false)
def tyX2 : Nat → FieldType := fun k => match k with
  | 0 => .array .int
  | 1 => .array .int
  | 2 => .array .int
  | 3 => .array .int
  | 4 => .array .int
  | 5 => .array .int
  | 6 => .array .int
  | 7 => .array .int
  | 8 => .array .int
  | 9 => .array .int
  | _ => .boolean
abbrev wsX20 : List Cond := u_ws RX2 TX2 11
theorem nmX2 : ∀ a, a < 11 → ∀ b, b < 11 → a ≠ b → (TX2 a).2.1 ≠ (TX2 b).2.1 := by decide +kernel
theorem tyX2_ok : ∀ k, k < 11 → parseFieldDescriptor (TX2 k).2.2.1 = some (tyX2 k) := by decide +kernel
abbrev cX2_init : ByteArray := prog_4_method_1_code
def yX2_init : MethodName := ⟨RX2, "<init>", "()V"⟩
abbrev cX2_arrange : ByteArray := prog_4_method_2_code
def yX2_arrange : MethodName := ⟨RX2, "arrange", "(LStagedTables$Program;)V"⟩
abbrev cX2_look : ByteArray := prog_4_method_3_code
def yX2_look : MethodName := ⟨RX2, "look", "(ILStagedTables$Table;)V"⟩
abbrev cX2_needOf : ByteArray := prog_4_method_4_code
def yX2_needOf : MethodName := ⟨RX2, "needOf", "(II)I"⟩
abbrev cX2_place : ByteArray := prog_4_method_5_code
def yX2_place : MethodName := ⟨RX2, "place", "(I[I)Z"⟩
abbrev cX2_leastStage : ByteArray := prog_4_method_6_code
def yX2_leastStage : MethodName := ⟨RX2, "leastStage", "(I)I"⟩
abbrev cX2_stagesWithTables : ByteArray := prog_4_method_7_code
def yX2_stagesWithTables : MethodName := ⟨RX2, "stagesWithTables", "()I"⟩
def RX3 : String := "StagedTables$Program"
def TX3 : u_T := fun k => match k with
  | 0 => ("StagedTables$Program", "size", "I", false)
  | 1 => ("StagedTables$Program", "tables", "[LStagedTables$Table;", true)
  | 2 => ("StagedTables$Program", "registers", "[I", true)
  | 3 => ("StagedTables$Program", "rules", "[I", true)
  | _ => ("StagedTables$Program", "toldFields", "[I", true)
def tyX3 : Nat → FieldType := fun k => match k with
  | 0 => .int
  | 1 => .array (.object "StagedTables$Table")
  | 2 => .array .int
  | 3 => .array .int
  | _ => .array .int
abbrev wsX30 : List Cond := u_ws RX3 TX3 5
theorem nmX3 : ∀ a, a < 5 → ∀ b, b < 5 → a ≠ b → (TX3 a).2.1 ≠ (TX3 b).2.1 := by decide +kernel
theorem tyX3_ok : ∀ k, k < 5 → parseFieldDescriptor (TX3 k).2.2.1 = some (tyX3 k) := by decide +kernel
abbrev cX3_init : ByteArray := prog_5_method_1_code
def yX3_init : MethodName := ⟨RX3, "<init>", "()V"⟩
abbrev cX3_copy : ByteArray := prog_5_method_2_code
def yX3_copy : MethodName := ⟨RX3, "copy", "(LStagedTables$Program;)V"⟩
abbrev cX3_hasTable : ByteArray := prog_5_method_3_code
def yX3_hasTable : MethodName := ⟨RX3, "hasTable", "(I)Z"⟩
abbrev cX3_addTable : ByteArray := prog_5_method_4_code
def yX3_addTable : MethodName := ⟨RX3, "addTable", "(I)I"⟩
abbrev cX3_removeTable : ByteArray := prog_5_method_5_code
def yX3_removeTable : MethodName := ⟨RX3, "removeTable", "(I)I"⟩
abbrev cX3_isTakenElsewhere : ByteArray := prog_5_method_6_code
def yX3_isTakenElsewhere : MethodName := ⟨RX3, "isTakenElsewhere", "(III)Z"⟩
def RX4 : String := "StagedTables$Squeeze"
def TX4 : u_T := fun k => match k with
  | 0 => ("StagedTables$Squeeze", "stagesOf", "[I", true)
  | 1 => ("StagedTables$Squeeze", "sizes", "[I", true)
  | _ => ("StagedTables$Squeeze", "mayJoin", "[I", true)
def tyX4 : Nat → FieldType := fun k => match k with
  | 0 => .array .int
  | 1 => .array .int
  | _ => .array .int
abbrev wsX40 : List Cond := u_ws RX4 TX4 3
theorem nmX4 : ∀ a, a < 3 → ∀ b, b < 3 → a ≠ b → (TX4 a).2.1 ≠ (TX4 b).2.1 := by decide +kernel
theorem tyX4_ok : ∀ k, k < 3 → parseFieldDescriptor (TX4 k).2.2.1 = some (tyX4 k) := by decide +kernel
abbrev cX4_init : ByteArray := prog_6_method_1_code
def yX4_init : MethodName := ⟨RX4, "<init>", "()V"⟩
abbrev cX4_fewestStages : ByteArray := prog_6_method_2_code
def yX4_fewestStages : MethodName := ⟨RX4, "fewestStages", "(LStagedTables$Packing;LStagedTables$Program;)I"⟩
abbrev cX4_measure : ByteArray := prog_6_method_3_code
def yX4_measure : MethodName := ⟨RX4, "measure", "(LStagedTables$Packing;I)V"⟩
abbrev cX4_ready : ByteArray := prog_6_method_4_code
def yX4_ready : MethodName := ⟨RX4, "ready", "(ILStagedTables$Packing;I)I"⟩
abbrev cX4_addStage : ByteArray := prog_6_method_5_code
def yX4_addStage : MethodName := ⟨RX4, "addStage", "(II[I)V"⟩
def RX5 : String := "StagedTables$Table"
def TX5 : u_T := fun k => match k with
  | 0 => ("StagedTables$Table", "key", "I", false)
  | 1 => ("StagedTables$Table", "entries", "I", false)
  | 2 => ("StagedTables$Table", "values", "[I", true)
  | _ => ("StagedTables$Table", "acts", "[LStagedTables$Act;", true)
def tyX5 : Nat → FieldType := fun k => match k with
  | 0 => .int
  | 1 => .int
  | 2 => .array .int
  | _ => .array (.object "StagedTables$Act")
abbrev wsX50 : List Cond := u_ws RX5 TX5 4
theorem nmX5 : ∀ a, a < 4 → ∀ b, b < 4 → a ≠ b → (TX5 a).2.1 ≠ (TX5 b).2.1 := by decide +kernel
theorem tyX5_ok : ∀ k, k < 4 → parseFieldDescriptor (TX5 k).2.2.1 = some (tyX5 k) := by decide +kernel
abbrev cX5_init : ByteArray := prog_7_method_1_code
def yX5_init : MethodName := ⟨RX5, "<init>", "()V"⟩
abbrev cX5_begin : ByteArray := prog_7_method_2_code
def yX5_begin : MethodName := ⟨RX5, "begin", "(I)V"⟩
abbrev cX5_copy : ByteArray := prog_7_method_3_code
def yX5_copy : MethodName := ⟨RX5, "copy", "(LStagedTables$Table;)V"⟩
abbrev cX5_size : ByteArray := prog_7_method_4_code
def yX5_size : MethodName := ⟨RX5, "size", "()I"⟩
abbrev cX5_slotOf : ByteArray := prog_7_method_5_code
def yX5_slotOf : MethodName := ⟨RX5, "slotOf", "(I)I"⟩
abbrev cX5_addEntry : ByteArray := prog_7_method_6_code
def yX5_addEntry : MethodName := ⟨RX5, "addEntry", "(IIII)I"⟩
abbrev cX5_removeEntry : ByteArray := prog_7_method_7_code
def yX5_removeEntry : MethodName := ⟨RX5, "removeEntry", "(I)I"⟩
abbrev cX5_isUsed : ByteArray := prog_7_method_8_code
def yX5_isUsed : MethodName := ⟨RX5, "isUsed", "(I)Z"⟩
abbrev cX5_writtenFields : ByteArray := prog_7_method_9_code
def yX5_writtenFields : MethodName := ⟨RX5, "writtenFields", "()I"⟩
abbrev cX5_readFields : ByteArray := prog_7_method_10_code
def yX5_readFields : MethodName := ⟨RX5, "readFields", "()I"⟩
abbrev cX5_ownRegisters : ByteArray := prog_7_method_11_code
def yX5_ownRegisters : MethodName := ⟨RX5, "ownRegisters", "()I"⟩
abbrev cX5_partOfAct : ByteArray := prog_7_method_12_code
def yX5_partOfAct : MethodName := ⟨RX5, "partOfAct", "(I)I"⟩
def RX6 : String := "StagedTables"
def TX6 : u_T := fun k => match k with
  | 0 => ("StagedTables", "program", "LStagedTables$Program;", true)
  | 1 => ("StagedTables", "packing", "LStagedTables$Packing;", true)
  | 2 => ("StagedTables", "squeeze", "LStagedTables$Squeeze;", true)
  | 3 => ("StagedTables", "last", "LStagedTables$Packet;", true)
  | 4 => ("StagedTables", "images", "[LStagedTables$Program;", true)
  | 5 => ("StagedTables", "packetsDone", "I", false)
  | 6 => ("StagedTables", "packetsDropped", "I", false)
  | _ => ("StagedTables", "roundsDone", "I", false)
def tyX6 : Nat → FieldType := fun k => match k with
  | 0 => .object "StagedTables$Program"
  | 1 => .object "StagedTables$Packing"
  | 2 => .object "StagedTables$Squeeze"
  | 3 => .object "StagedTables$Packet"
  | 4 => .array (.object "StagedTables$Program")
  | 5 => .int
  | 6 => .int
  | _ => .int
abbrev wsX60 : List Cond := u_ws RX6 TX6 8
theorem nmX6 : ∀ a, a < 8 → ∀ b, b < 8 → a ≠ b → (TX6 a).2.1 ≠ (TX6 b).2.1 := by decide +kernel
theorem tyX6_ok : ∀ k, k < 8 → parseFieldDescriptor (TX6 k).2.2.1 = some (tyX6 k) := by decide +kernel
abbrev cX6_init : ByteArray := prog_1_method_1_code
def yX6_init : MethodName := ⟨RX6, "<init>", "()V"⟩
abbrev cX6_table : ByteArray := prog_1_method_2_code
def yX6_table : MethodName := ⟨RX6, "table", "(I)I"⟩
abbrev cX6_entry : ByteArray := prog_1_method_3_code
def yX6_entry : MethodName := ⟨RX6, "entry", "(IIIII)I"⟩
abbrev cX6_otherwise : ByteArray := prog_1_method_4_code
def yX6_otherwise : MethodName := ⟨RX6, "otherwise", "(IIII)I"⟩
abbrev cX6_forget : ByteArray := prog_1_method_5_code
def yX6_forget : MethodName := ⟨RX6, "forget", "(II)I"⟩
abbrev cX6_drop : ByteArray := prog_1_method_6_code
def yX6_drop : MethodName := ⟨RX6, "drop", "(I)I"⟩
abbrev cX6_rule : ByteArray := prog_1_method_7_code
def yX6_rule : MethodName := ⟨RX6, "rule", "(II)I"⟩
abbrev cX6_told : ByteArray := prog_1_method_8_code
def yX6_told : MethodName := ⟨RX6, "told", "(II)I"⟩
abbrev cX6_needs : ByteArray := prog_1_method_9_code
def yX6_needs : MethodName := ⟨RX6, "needs", "(II)I"⟩
abbrev cX6_stages : ByteArray := prog_1_method_10_code
def yX6_stages : MethodName := ⟨RX6, "stages", "()I"⟩
abbrev cX6_stage : ByteArray := prog_1_method_11_code
def yX6_stage : MethodName := ⟨RX6, "stage", "(II)I"⟩
abbrev cX6_fewest : ByteArray := prog_1_method_12_code
def yX6_fewest : MethodName := ⟨RX6, "fewest", "()I"⟩
abbrev cX6_tell : ByteArray := prog_1_method_13_code
def yX6_tell : MethodName := ⟨RX6, "tell", "(II)I"⟩
abbrev cX6_put : ByteArray := prog_1_method_14_code
def yX6_put : MethodName := ⟨RX6, "put", "(II)I"⟩
abbrev cX6_register : ByteArray := prog_1_method_15_code
def yX6_register : MethodName := ⟨RX6, "register", "(I)I"⟩
abbrev cX6_run : ByteArray := prog_1_method_16_code
def yX6_run : MethodName := ⟨RX6, "run", "()I"⟩
abbrev cX6_out : ByteArray := prog_1_method_17_code
def yX6_out : MethodName := ⟨RX6, "out", "(I)I"⟩
abbrev cX6_took : ByteArray := prog_1_method_18_code
def yX6_took : MethodName := ⟨RX6, "took", "(II)I"⟩
abbrev cX6_image : ByteArray := prog_1_method_19_code
def yX6_image : MethodName := ⟨RX6, "image", "(I)I"⟩
abbrev cX6_restore : ByteArray := prog_1_method_20_code
def yX6_restore : MethodName := ⟨RX6, "restore", "(I)I"⟩
abbrev cX6_count : ByteArray := prog_1_method_21_code
def yX6_count : MethodName := ⟨RX6, "count", "(I)I"⟩
abbrev cX6_keptImages : ByteArray := prog_1_method_22_code
def yX6_keptImages : MethodName := ⟨RX6, "keptImages", "()I"⟩
abbrev cX6_isIn : ByteArray := prog_1_method_23_code
def yX6_isIn : MethodName := ⟨RX6, "isIn", "(II)Z"⟩
abbrev cX6_isUpTo : ByteArray := prog_1_method_24_code
def yX6_isUpTo : MethodName := ⟨RX6, "isUpTo", "(II)Z"⟩
abbrev cX6_hasTarget : ByteArray := prog_1_method_25_code
def yX6_hasTarget : MethodName := ⟨RX6, "hasTarget", "(I)Z"⟩
abbrev cX6_hasRegister : ByteArray := prog_1_method_26_code
def yX6_hasRegister : MethodName := ⟨RX6, "hasRegister", "(I)Z"⟩
abbrev cX6_isAct : ByteArray := prog_1_method_27_code
def yX6_isAct : MethodName := ⟨RX6, "isAct", "(III)Z"⟩
def RX7 : String := "StagedTablesModel"
def TX7 : u_T := fun k => match k with
  | 0 => ("StagedTablesModel", "many", "I", false)
  | 1 => ("StagedTablesModel", "keys", "[I", true)
  | 2 => ("StagedTablesModel", "entries", "[I", true)
  | 3 => ("StagedTablesModel", "values", "[I", true)
  | 4 => ("StagedTablesModel", "kinds", "[I", true)
  | 5 => ("StagedTablesModel", "targets", "[I", true)
  | 6 => ("StagedTablesModel", "numbers", "[I", true)
  | 7 => ("StagedTablesModel", "registers", "[I", true)
  | 8 => ("StagedTablesModel", "packet", "[I", true)
  | 9 => ("StagedTablesModel", "rules", "[I", true)
  | 10 => ("StagedTablesModel", "levels", "[I", true)
  | 11 => ("StagedTablesModel", "stageOf", "[I", true)
  | 12 => ("StagedTablesModel", "packed", "[I", true)
  | 13 => ("StagedTablesModel", "sizes", "[I", true)
  | 14 => ("StagedTablesModel", "after", "[I", true)
  | 15 => ("StagedTablesModel", "needed", "[I", true)
  | 16 => ("StagedTablesModel", "wanted", "[I", true)
  | 17 => ("StagedTablesModel", "now", "[I", true)
  | 18 => ("StagedTablesModel", "isDropped", "Z", false)
  | 19 => ("StagedTablesModel", "isAgain", "Z", false)
  | 20 => ("StagedTablesModel", "rounds", "I", false)
  | 21 => ("StagedTablesModel", "taken", "[I", true)
  | 22 => ("StagedTablesModel", "packets", "I", false)
  | 23 => ("StagedTablesModel", "dropped", "I", false)
  | 24 => ("StagedTablesModel", "allRounds", "I", false)
  | 25 => ("StagedTablesModel", "image", "[I", true)
  | _ => ("StagedTablesModel", "isKept", "[Z", true)
def tyX7 : Nat → FieldType := fun k => match k with
  | 0 => .int
  | 1 => .array .int
  | 2 => .array .int
  | 3 => .array .int
  | 4 => .array .int
  | 5 => .array .int
  | 6 => .array .int
  | 7 => .array .int
  | 8 => .array .int
  | 9 => .array .int
  | 10 => .array .int
  | 11 => .array .int
  | 12 => .array .int
  | 13 => .array .int
  | 14 => .array .int
  | 15 => .array .int
  | 16 => .array .int
  | 17 => .array .int
  | 18 => .boolean
  | 19 => .boolean
  | 20 => .int
  | 21 => .array .int
  | 22 => .int
  | 23 => .int
  | 24 => .int
  | 25 => .array .int
  | _ => .array .boolean
abbrev wsX70 : List Cond := u_ws RX7 TX7 27
theorem nmX7 : ∀ a, a < 27 → ∀ b, b < 27 → a ≠ b → (TX7 a).2.1 ≠ (TX7 b).2.1 := by decide +kernel
theorem tyX7_ok : ∀ k, k < 27 → parseFieldDescriptor (TX7 k).2.2.1 = some (tyX7 k) := by decide +kernel
abbrev cX7_init : ByteArray := prog_9_method_1_code
def yX7_init : MethodName := ⟨RX7, "<init>", "()V"⟩
abbrev cX7_in : ByteArray := prog_9_method_2_code
def yX7_in : MethodName := ⟨RX7, "in", "(III)Z"⟩
abbrev cX7_isTable : ByteArray := prog_9_method_3_code
def yX7_isTable : MethodName := ⟨RX7, "isTable", "(I)Z"⟩
abbrev cX7_isField : ByteArray := prog_9_method_4_code
def yX7_isField : MethodName := ⟨RX7, "isField", "(I)Z"⟩
abbrev cX7_has : ByteArray := prog_9_method_5_code
def yX7_has : MethodName := ⟨RX7, "has", "(II)Z"⟩
abbrev cX7_bits : ByteArray := prog_9_method_6_code
def yX7_bits : MethodName := ⟨RX7, "bits", "(I)I"⟩
abbrev cX7_table : ByteArray := prog_9_method_7_code
def yX7_table : MethodName := ⟨RX7, "table", "(I)I"⟩
abbrev cX7_matters : ByteArray := prog_9_method_8_code
def yX7_matters : MethodName := ⟨RX7, "matters", "(I)Z"⟩
abbrev cX7_lay : ByteArray := prog_9_method_9_code
def yX7_lay : MethodName := ⟨RX7, "lay", "(IIII)V"⟩
abbrev cX7_isAct : ByteArray := prog_9_method_10_code
def yX7_isAct : MethodName := ⟨RX7, "isAct", "(III)Z"⟩
abbrev cX7_isThere : ByteArray := prog_9_method_11_code
def yX7_isThere : MethodName := ⟨RX7, "isThere", "(I)Z"⟩
abbrev cX7_registersOf : ByteArray := prog_9_method_12_code
def yX7_registersOf : MethodName := ⟨RX7, "registersOf", "(I)I"⟩
abbrev cX7_isTaken : ByteArray := prog_9_method_13_code
def yX7_isTaken : MethodName := ⟨RX7, "isTaken", "(III)Z"⟩
abbrev cX7_entryWith : ByteArray := prog_9_method_14_code
def yX7_entryWith : MethodName := ⟨RX7, "entryWith", "(II)I"⟩
abbrev cX7_entry : ByteArray := prog_9_method_15_code
def yX7_entry : MethodName := ⟨RX7, "entry", "(IIIII)I"⟩
abbrev cX7_otherwise : ByteArray := prog_9_method_16_code
def yX7_otherwise : MethodName := ⟨RX7, "otherwise", "(IIII)I"⟩
abbrev cX7_copy : ByteArray := prog_9_method_17_code
def yX7_copy : MethodName := ⟨RX7, "copy", "(II)V"⟩
abbrev cX7_forget : ByteArray := prog_9_method_18_code
def yX7_forget : MethodName := ⟨RX7, "forget", "(II)I"⟩
abbrev cX7_drop : ByteArray := prog_9_method_19_code
def yX7_drop : MethodName := ⟨RX7, "drop", "(I)I"⟩
abbrev cX7_rule : ByteArray := prog_9_method_20_code
def yX7_rule : MethodName := ⟨RX7, "rule", "(II)I"⟩
abbrev cX7_writes : ByteArray := prog_9_method_21_code
def yX7_writes : MethodName := ⟨RX7, "writes", "(I)I"⟩
abbrev cX7_reads : ByteArray := prog_9_method_22_code
def yX7_reads : MethodName := ⟨RX7, "reads", "(I)I"⟩
abbrev cX7_needOf : ByteArray := prog_9_method_23_code
def yX7_needOf : MethodName := ⟨RX7, "needOf", "(II)I"⟩
abbrev cX7_needs : ByteArray := prog_9_method_24_code
def yX7_needs : MethodName := ⟨RX7, "needs", "(II)I"⟩
abbrev cX7_sizeOf : ByteArray := prog_9_method_25_code
def yX7_sizeOf : MethodName := ⟨RX7, "sizeOf", "(I)I"⟩
abbrev cX7_levelOf : ByteArray := prog_9_method_26_code
def yX7_levelOf : MethodName := ⟨RX7, "levelOf", "(I)I"⟩
abbrev cX7_pack : ByteArray := prog_9_method_27_code
def yX7_pack : MethodName := ⟨RX7, "pack", "()Z"⟩
abbrev cX7_part : ByteArray := prog_9_method_28_code
def yX7_part : MethodName := ⟨RX7, "part", "(II)I"⟩
abbrev cX7_told : ByteArray := prog_9_method_29_code
def yX7_told : MethodName := ⟨RX7, "told", "(II)I"⟩
abbrev cX7_stages : ByteArray := prog_9_method_30_code
def yX7_stages : MethodName := ⟨RX7, "stages", "()I"⟩
abbrev cX7_stage : ByteArray := prog_9_method_31_code
def yX7_stage : MethodName := ⟨RX7, "stage", "(II)I"⟩
abbrev cX7_canFollow : ByteArray := prog_9_method_32_code
def yX7_canFollow : MethodName := ⟨RX7, "canFollow", "(II)Z"⟩
abbrev cX7_fewest : ByteArray := prog_9_method_33_code
def yX7_fewest : MethodName := ⟨RX7, "fewest", "()I"⟩
abbrev cX7_tell : ByteArray := prog_9_method_34_code
def yX7_tell : MethodName := ⟨RX7, "tell", "(II)I"⟩
abbrev cX7_put : ByteArray := prog_9_method_35_code
def yX7_put : MethodName := ⟨RX7, "put", "(II)I"⟩
abbrev cX7_register : ByteArray := prog_9_method_36_code
def yX7_register : MethodName := ⟨RX7, "register", "(I)I"⟩
abbrev cX7_act : ByteArray := prog_9_method_37_code
def yX7_act : MethodName := ⟨RX7, "act", "(I)V"⟩
abbrev cX7_round : ByteArray := prog_9_method_38_code
def yX7_round : MethodName := ⟨RX7, "round", "()V"⟩
abbrev cX7_run : ByteArray := prog_9_method_39_code
def yX7_run : MethodName := ⟨RX7, "run", "()I"⟩
abbrev cX7_out : ByteArray := prog_9_method_40_code
def yX7_out : MethodName := ⟨RX7, "out", "(I)I"⟩
abbrev cX7_took : ByteArray := prog_9_method_41_code
def yX7_took : MethodName := ⟨RX7, "took", "(II)I"⟩
abbrev cX7_image : ByteArray := prog_9_method_42_code
def yX7_image : MethodName := ⟨RX7, "image", "(I)I"⟩
abbrev cX7_restore : ByteArray := prog_9_method_43_code
def yX7_restore : MethodName := ⟨RX7, "restore", "(I)I"⟩
abbrev cX7_count : ByteArray := prog_9_method_44_code
def yX7_count : MethodName := ⟨RX7, "count", "(I)I"⟩
def RJx8e188 : String := "java/lang/Cloneable"
def TJx8e188 : u_T := fun k => match k with
  | _ => ("", "", "", false)
def tyJx8e188 : Nat → FieldType := fun k => match k with
  | _ => .int
abbrev wsJx8e1880 : List Cond := u_ws RJx8e188 TJx8e188 0
theorem nmJx8e188 : ∀ a, a < 0 → ∀ b, b < 0 → a ≠ b → (TJx8e188 a).2.1 ≠ (TJx8e188 b).2.1 := by decide +kernel
theorem tyJx8e188_ok : ∀ k, k < 0 → parseFieldDescriptor (TJx8e188 k).2.2.1 = some (tyJx8e188 k) := by decide +kernel
def RJ6 : String := "java/lang/Integer"
def TJ6 : u_T := fun k => match k with
  | _ => ("", "", "", false)
def tyJ6 : Nat → FieldType := fun k => match k with
  | _ => .int
abbrev wsJ60 : List Cond := u_ws RJ6 TJ6 0
theorem nmJ6 : ∀ a, a < 0 → ∀ b, b < 0 → a ≠ b → (TJ6 a).2.1 ≠ (TJ6 b).2.1 := by decide +kernel
theorem tyJ6_ok : ∀ k, k < 0 → parseFieldDescriptor (TJ6 k).2.2.1 = some (tyJ6 k) := by decide +kernel
abbrev cJ6_bitCount_0f7a4 : ByteArray := prog_11_method_49_code
def yJ6_bitCount_0f7a4 : MethodName := ⟨RJ6, "bitCount", "(I)I"⟩
def RJ9 : String := "java/lang/Math"
def TJ9 : u_T := fun k => match k with
  | _ => ("", "", "", false)
def tyJ9 : Nat → FieldType := fun k => match k with
  | _ => .int
abbrev wsJ90 : List Cond := u_ws RJ9 TJ9 0
theorem nmJ9 : ∀ a, a < 0 → ∀ b, b < 0 → a ≠ b → (TJ9 a).2.1 ≠ (TJ9 b).2.1 := by decide +kernel
theorem tyJ9_ok : ∀ k, k < 0 → parseFieldDescriptor (TJ9 k).2.2.1 = some (tyJ9 k) := by decide +kernel
abbrev cJ9_max_7cf53 : ByteArray := prog_12_method_65_code
def yJ9_max_7cf53 : MethodName := ⟨RJ9, "max", "(II)I"⟩
abbrev cJ9_min_7cf53 : ByteArray := prog_12_method_69_code
def yJ9_min_7cf53 : MethodName := ⟨RJ9, "min", "(II)I"⟩
def RJ10 : String := "java/lang/System"
def TJ10 : u_T := fun k => match k with
  | _ => ("", "", "", false)
def tyJ10 : Nat → FieldType := fun k => match k with
  | _ => .int
abbrev wsJ100 : List Cond := u_ws RJ10 TJ10 0
theorem nmJ10 : ∀ a, a < 0 → ∀ b, b < 0 → a ≠ b → (TJ10 a).2.1 ≠ (TJ10 b).2.1 := by decide +kernel
theorem tyJ10_ok : ∀ k, k < 0 → parseFieldDescriptor (TJ10 k).2.2.1 = some (tyJ10 k) := by decide +kernel
def RJ7 : String := "java/util/Arrays"
def TJ7 : u_T := fun k => match k with
  | _ => ("", "", "", false)
def tyJ7 : Nat → FieldType := fun k => match k with
  | _ => .int
abbrev wsJ70 : List Cond := u_ws RJ7 TJ7 0
theorem nmJ7 : ∀ a, a < 0 → ∀ b, b < 0 → a ≠ b → (TJ7 a).2.1 ≠ (TJ7 b).2.1 := by decide +kernel
theorem tyJ7_ok : ∀ k, k < 0 → parseFieldDescriptor (TJ7 k).2.2.1 = some (tyJ7 k) := by decide +kernel
abbrev cJ7_fill_53178 : ByteArray := prog_14_method_103_code
def yJ7_fill_53178 : MethodName := ⟨RJ7, "fill", "([II)V"⟩
def RL : String := "StagedTablesLaw"
abbrev cL_law : ByteArray := code
def yL_law : MethodName := ⟨RL, "law", "([I)Z"⟩
end
section
/-! decode rows -/
theorem dX0_init_0 : decode cX0_init 0 = .ok (.aload_n 0, 1) := by decide +kernel
theorem dX0_init_1 : decode cX0_init 1 = .ok (.invokespecial 3, 3) := by decide +kernel
theorem dX0_init_4 : decode cX0_init 4 = .ok (.aload_n 0, 1) := by decide +kernel
theorem dX0_init_5 : decode cX0_init 5 = .ok (.iconst 0, 1) := by decide +kernel
theorem dX0_init_6 : decode cX0_init 6 = .ok (.putfield 9, 3) := by decide +kernel
theorem dX0_init_9 : decode cX0_init 9 = .ok (.aload_n 0, 1) := by decide +kernel
theorem dX0_init_10 : decode cX0_init 10 = .ok (.bipush (-6), 2) := by decide +kernel
theorem dX0_init_12 : decode cX0_init 12 = .ok (.putfield 15, 3) := by decide +kernel
theorem dX0_init_15 : decode cX0_init 15 = .ok (.aload_n 0, 1) := by decide +kernel
theorem dX0_init_16 : decode cX0_init 16 = .ok (.bipush (-6), 2) := by decide +kernel
theorem dX0_init_18 : decode cX0_init 18 = .ok (.putfield 18, 3) := by decide +kernel
theorem dX0_init_21 : decode cX0_init 21 = .ok (.return_, 1) := by decide +kernel
theorem dX0_become_0 : decode cX0_become 0 = .ok (.aload_n 0, 1) := by decide +kernel
theorem dX0_become_1 : decode cX0_become 1 = .ok (.iload_n 1, 1) := by decide +kernel
theorem dX0_become_2 : decode cX0_become 2 = .ok (.putfield 9, 3) := by decide +kernel
theorem dX0_become_5 : decode cX0_become 5 = .ok (.aload_n 0, 1) := by decide +kernel
theorem dX0_become_6 : decode cX0_become 6 = .ok (.iload_n 1, 1) := by decide +kernel
theorem dX0_become_7 : decode cX0_become 7 = .ok (.invokestatic 21, 3) := by decide +kernel
theorem dX0_become_10 : decode cX0_become 10 = .ok (.ifCond .eq 7, 3) := by decide +kernel
theorem dX0_become_13 : decode cX0_become 13 = .ok (.iload_n 2, 1) := by decide +kernel
theorem dX0_become_14 : decode cX0_become 14 = .ok (.goto 5, 3) := by decide +kernel
theorem dX0_become_17 : decode cX0_become 17 = .ok (.bipush (-6), 2) := by decide +kernel
theorem dX0_become_19 : decode cX0_become 19 = .ok (.putfield 15, 3) := by decide +kernel
theorem dX0_become_22 : decode cX0_become 22 = .ok (.aload_n 0, 1) := by decide +kernel
theorem dX0_become_23 : decode cX0_become 23 = .ok (.iload_n 1, 1) := by decide +kernel
theorem dX0_become_24 : decode cX0_become 24 = .ok (.invokestatic 21, 3) := by decide +kernel
theorem dX0_become_27 : decode cX0_become 27 = .ok (.ifCond .eq 7, 3) := by decide +kernel
theorem dX0_become_30 : decode cX0_become 30 = .ok (.iload_n 3, 1) := by decide +kernel
theorem dX0_become_31 : decode cX0_become 31 = .ok (.goto 5, 3) := by decide +kernel
theorem dX0_become_34 : decode cX0_become 34 = .ok (.bipush (-6), 2) := by decide +kernel
theorem dX0_become_36 : decode cX0_become 36 = .ok (.putfield 18, 3) := by decide +kernel
theorem dX0_become_39 : decode cX0_become 39 = .ok (.return_, 1) := by decide +kernel
theorem dX0_copy_0 : decode cX0_copy 0 = .ok (.aload_n 0, 1) := by decide +kernel
theorem dX0_copy_1 : decode cX0_copy 1 = .ok (.aload_n 1, 1) := by decide +kernel
theorem dX0_copy_2 : decode cX0_copy 2 = .ok (.getfield 9, 3) := by decide +kernel
theorem dX0_copy_5 : decode cX0_copy 5 = .ok (.putfield 9, 3) := by decide +kernel
theorem dX0_copy_8 : decode cX0_copy 8 = .ok (.aload_n 0, 1) := by decide +kernel
theorem dX0_copy_9 : decode cX0_copy 9 = .ok (.aload_n 1, 1) := by decide +kernel
theorem dX0_copy_10 : decode cX0_copy 10 = .ok (.getfield 15, 3) := by decide +kernel
theorem dX0_copy_13 : decode cX0_copy 13 = .ok (.putfield 15, 3) := by decide +kernel
theorem dX0_copy_16 : decode cX0_copy 16 = .ok (.aload_n 0, 1) := by decide +kernel
theorem dX0_copy_17 : decode cX0_copy 17 = .ok (.aload_n 1, 1) := by decide +kernel
theorem dX0_copy_18 : decode cX0_copy 18 = .ok (.getfield 18, 3) := by decide +kernel
theorem dX0_copy_21 : decode cX0_copy 21 = .ok (.putfield 18, 3) := by decide +kernel
theorem dX0_copy_24 : decode cX0_copy 24 = .ok (.return_, 1) := by decide +kernel
theorem dX0_writtenFields_0 : decode cX0_writtenFields 0 = .ok (.aload_n 0, 1) := by decide +kernel
theorem dX0_writtenFields_1 : decode cX0_writtenFields 1 = .ok (.getfield 9, 3) := by decide +kernel
theorem dX0_writtenFields_4 : decode cX0_writtenFields 4 = .ok (.invokestatic 21, 3) := by decide +kernel
theorem dX0_writtenFields_7 : decode cX0_writtenFields 7 = .ok (.ifCond .eq 12, 3) := by decide +kernel
theorem dX0_writtenFields_10 : decode cX0_writtenFields 10 = .ok (.iconst 1, 1) := by decide +kernel
theorem dX0_writtenFields_11 : decode cX0_writtenFields 11 = .ok (.aload_n 0, 1) := by decide +kernel
theorem dX0_writtenFields_12 : decode cX0_writtenFields 12 = .ok (.getfield 15, 3) := by decide +kernel
theorem dX0_writtenFields_15 : decode cX0_writtenFields 15 = .ok (.ishl, 1) := by decide +kernel
theorem dX0_writtenFields_16 : decode cX0_writtenFields 16 = .ok (.goto 4, 3) := by decide +kernel
theorem dX0_writtenFields_19 : decode cX0_writtenFields 19 = .ok (.iconst 0, 1) := by decide +kernel
theorem dX0_writtenFields_20 : decode cX0_writtenFields 20 = .ok (.ireturn, 1) := by decide +kernel
theorem dX0_readFields_0 : decode cX0_readFields 0 = .ok (.aload_n 0, 1) := by decide +kernel
theorem dX0_readFields_1 : decode cX0_readFields 1 = .ok (.getfield 9, 3) := by decide +kernel
theorem dX0_readFields_4 : decode cX0_readFields 4 = .ok (.tableswitch 68 2 7 #[40, 47, 54, 68, 47, 47], 40) := by decide +kernel
theorem dX0_readFields_44 : decode cX0_readFields 44 = .ok (.iconst 1, 1) := by decide +kernel
theorem dX0_readFields_45 : decode cX0_readFields 45 = .ok (.aload_n 0, 1) := by decide +kernel
theorem dX0_readFields_46 : decode cX0_readFields 46 = .ok (.getfield 18, 3) := by decide +kernel
theorem dX0_readFields_49 : decode cX0_readFields 49 = .ok (.ishl, 1) := by decide +kernel
theorem dX0_readFields_50 : decode cX0_readFields 50 = .ok (.ireturn, 1) := by decide +kernel
theorem dX0_readFields_51 : decode cX0_readFields 51 = .ok (.iconst 1, 1) := by decide +kernel
theorem dX0_readFields_52 : decode cX0_readFields 52 = .ok (.aload_n 0, 1) := by decide +kernel
theorem dX0_readFields_53 : decode cX0_readFields 53 = .ok (.getfield 15, 3) := by decide +kernel
theorem dX0_readFields_56 : decode cX0_readFields 56 = .ok (.ishl, 1) := by decide +kernel
theorem dX0_readFields_57 : decode cX0_readFields 57 = .ok (.ireturn, 1) := by decide +kernel
theorem dX0_readFields_58 : decode cX0_readFields 58 = .ok (.iconst 1, 1) := by decide +kernel
theorem dX0_readFields_59 : decode cX0_readFields 59 = .ok (.aload_n 0, 1) := by decide +kernel
theorem dX0_readFields_60 : decode cX0_readFields 60 = .ok (.getfield 15, 3) := by decide +kernel
theorem dX0_readFields_63 : decode cX0_readFields 63 = .ok (.ishl, 1) := by decide +kernel
theorem dX0_readFields_64 : decode cX0_readFields 64 = .ok (.iconst 1, 1) := by decide +kernel
theorem dX0_readFields_65 : decode cX0_readFields 65 = .ok (.aload_n 0, 1) := by decide +kernel
theorem dX0_readFields_66 : decode cX0_readFields 66 = .ok (.getfield 18, 3) := by decide +kernel
theorem dX0_readFields_69 : decode cX0_readFields 69 = .ok (.ishl, 1) := by decide +kernel
theorem dX0_readFields_70 : decode cX0_readFields 70 = .ok (.ior, 1) := by decide +kernel
theorem dX0_readFields_71 : decode cX0_readFields 71 = .ok (.ireturn, 1) := by decide +kernel
theorem dX0_readFields_72 : decode cX0_readFields 72 = .ok (.iconst 0, 1) := by decide +kernel
theorem dX0_readFields_73 : decode cX0_readFields 73 = .ok (.ireturn, 1) := by decide +kernel
theorem dX0_ownRegisters_0 : decode cX0_ownRegisters 0 = .ok (.aload_n 0, 1) := by decide +kernel
theorem dX0_ownRegisters_1 : decode cX0_ownRegisters 1 = .ok (.getfield 9, 3) := by decide +kernel
theorem dX0_ownRegisters_4 : decode cX0_ownRegisters 4 = .ok (.invokestatic 25, 3) := by decide +kernel
theorem dX0_ownRegisters_7 : decode cX0_ownRegisters 7 = .ok (.ifCond .eq 12, 3) := by decide +kernel
theorem dX0_ownRegisters_10 : decode cX0_ownRegisters 10 = .ok (.iconst 1, 1) := by decide +kernel
theorem dX0_ownRegisters_11 : decode cX0_ownRegisters 11 = .ok (.aload_n 0, 1) := by decide +kernel
theorem dX0_ownRegisters_12 : decode cX0_ownRegisters 12 = .ok (.getfield 18, 3) := by decide +kernel
theorem dX0_ownRegisters_15 : decode cX0_ownRegisters 15 = .ok (.ishl, 1) := by decide +kernel
theorem dX0_ownRegisters_16 : decode cX0_ownRegisters 16 = .ok (.goto 4, 3) := by decide +kernel
theorem dX0_ownRegisters_19 : decode cX0_ownRegisters 19 = .ok (.iconst 0, 1) := by decide +kernel
theorem dX0_ownRegisters_20 : decode cX0_ownRegisters 20 = .ok (.ireturn, 1) := by decide +kernel
theorem dX1_init_0 : decode cX1_init 0 = .ok (.aload_n 0, 1) := by decide +kernel
theorem dX1_init_1 : decode cX1_init 1 = .ok (.invokespecial 3, 3) := by decide +kernel
theorem dX1_init_4 : decode cX1_init 4 = .ok (.aload_n 0, 1) := by decide +kernel
theorem dX1_init_5 : decode cX1_init 5 = .ok (.bipush 6, 2) := by decide +kernel
theorem dX1_init_7 : decode cX1_init 7 = .ok (.newarray .int, 2) := by decide +kernel
theorem dX1_init_9 : decode cX1_init 9 = .ok (.putfield 9, 3) := by decide +kernel
theorem dX1_init_12 : decode cX1_init 12 = .ok (.aload_n 0, 1) := by decide +kernel
theorem dX1_init_13 : decode cX1_init 13 = .ok (.iconst 4, 1) := by decide +kernel
theorem dX1_init_14 : decode cX1_init 14 = .ok (.bipush 8, 2) := by decide +kernel
theorem dX1_init_16 : decode cX1_init 16 = .ok (.multianewarray 15 2, 4) := by decide +kernel
theorem dX1_init_20 : decode cX1_init 20 = .ok (.putfield 17, 3) := by decide +kernel
theorem dX1_init_23 : decode cX1_init 23 = .ok (.return_, 1) := by decide +kernel
theorem dX1_passThrough_0 : decode cX1_passThrough 0 = .ok (.aload_n 1, 1) := by decide +kernel
theorem dX1_passThrough_1 : decode cX1_passThrough 1 = .ok (.getfield 20, 3) := by decide +kernel
theorem dX1_passThrough_4 : decode cX1_passThrough 4 = .ok (.iconst 0, 1) := by decide +kernel
theorem dX1_passThrough_5 : decode cX1_passThrough 5 = .ok (.aload_n 0, 1) := by decide +kernel
theorem dX1_passThrough_6 : decode cX1_passThrough 6 = .ok (.getfield 9, 3) := by decide +kernel
theorem dX1_passThrough_9 : decode cX1_passThrough 9 = .ok (.iconst 0, 1) := by decide +kernel
theorem dX1_passThrough_10 : decode cX1_passThrough 10 = .ok (.bipush 6, 2) := by decide +kernel
theorem dX1_passThrough_12 : decode cX1_passThrough 12 = .ok (.invokestatic 25, 3) := by decide +kernel
theorem dX1_passThrough_15 : decode cX1_passThrough 15 = .ok (.aload_n 0, 1) := by decide +kernel
theorem dX1_passThrough_16 : decode cX1_passThrough 16 = .ok (.aload_n 1, 1) := by decide +kernel
theorem dX1_passThrough_17 : decode cX1_passThrough 17 = .ok (.getfield 31, 3) := by decide +kernel
theorem dX1_passThrough_20 : decode cX1_passThrough 20 = .ok (.putfield 35, 3) := by decide +kernel
theorem dX1_passThrough_23 : decode cX1_passThrough 23 = .ok (.aload_n 0, 1) := by decide +kernel
theorem dX1_passThrough_24 : decode cX1_passThrough 24 = .ok (.iconst 0, 1) := by decide +kernel
theorem dX1_passThrough_25 : decode cX1_passThrough 25 = .ok (.putfield 38, 3) := by decide +kernel
theorem dX1_passThrough_28 : decode cX1_passThrough 28 = .ok (.iconst 1, 1) := by decide +kernel
theorem dX1_passThrough_29 : decode cX1_passThrough 29 = .ok (.istore_n 2, 1) := by decide +kernel
theorem dX1_passThrough_30 : decode cX1_passThrough 30 = .ok (.iconst 0, 1) := by decide +kernel
theorem dX1_passThrough_31 : decode cX1_passThrough 31 = .ok (.istore_n 3, 1) := by decide +kernel
theorem dX1_passThrough_32 : decode cX1_passThrough 32 = .ok (.iload_n 3, 1) := by decide +kernel
theorem dX1_passThrough_33 : decode cX1_passThrough 33 = .ok (.aload_n 1, 1) := by decide +kernel
theorem dX1_passThrough_34 : decode cX1_passThrough 34 = .ok (.getfield 42, 3) := by decide +kernel
theorem dX1_passThrough_37 : decode cX1_passThrough 37 = .ok (.iconst 3, 1) := by decide +kernel
theorem dX1_passThrough_38 : decode cX1_passThrough 38 = .ok (.iaload, 1) := by decide +kernel
theorem dX1_passThrough_39 : decode cX1_passThrough 39 = .ok (.if_icmp .ge 56, 3) := by decide +kernel
theorem dX1_passThrough_42 : decode cX1_passThrough 42 = .ok (.iload_n 2, 1) := by decide +kernel
theorem dX1_passThrough_43 : decode cX1_passThrough 43 = .ok (.ifCond .eq 52, 3) := by decide +kernel
theorem dX1_passThrough_46 : decode cX1_passThrough 46 = .ok (.aload_n 0, 1) := by decide +kernel
theorem dX1_passThrough_47 : decode cX1_passThrough 47 = .ok (.iconst 0, 1) := by decide +kernel
theorem dX1_passThrough_48 : decode cX1_passThrough 48 = .ok (.putfield 45, 3) := by decide +kernel
theorem dX1_passThrough_51 : decode cX1_passThrough 51 = .ok (.aload_n 0, 1) := by decide +kernel
theorem dX1_passThrough_52 : decode cX1_passThrough 52 = .ok (.aload_n 1, 1) := by decide +kernel
theorem dX1_passThrough_53 : decode cX1_passThrough 53 = .ok (.aload_n 0, 1) := by decide +kernel
theorem dX1_passThrough_54 : decode cX1_passThrough 54 = .ok (.getfield 17, 3) := by decide +kernel
theorem dX1_passThrough_57 : decode cX1_passThrough 57 = .ok (.iload_n 3, 1) := by decide +kernel
theorem dX1_passThrough_58 : decode cX1_passThrough 58 = .ok (.aaload, 1) := by decide +kernel
theorem dX1_passThrough_59 : decode cX1_passThrough 59 = .ok (.invokevirtual 48, 3) := by decide +kernel
theorem dX1_passThrough_62 : decode cX1_passThrough 62 = .ok (.aload_n 0, 1) := by decide +kernel
theorem dX1_passThrough_63 : decode cX1_passThrough 63 = .ok (.iload_n 3, 1) := by decide +kernel
theorem dX1_passThrough_64 : decode cX1_passThrough 64 = .ok (.iconst 1, 1) := by decide +kernel
theorem dX1_passThrough_65 : decode cX1_passThrough 65 = .ok (.iadd, 1) := by decide +kernel
theorem dX1_passThrough_66 : decode cX1_passThrough 66 = .ok (.putfield 52, 3) := by decide +kernel
theorem dX1_passThrough_69 : decode cX1_passThrough 69 = .ok (.aload_n 0, 1) := by decide +kernel
theorem dX1_passThrough_70 : decode cX1_passThrough 70 = .ok (.getfield 45, 3) := by decide +kernel
theorem dX1_passThrough_73 : decode cX1_passThrough 73 = .ok (.ifCond .eq 14, 3) := by decide +kernel
theorem dX1_passThrough_76 : decode cX1_passThrough 76 = .ok (.aload_n 0, 1) := by decide +kernel
theorem dX1_passThrough_77 : decode cX1_passThrough 77 = .ok (.getfield 38, 3) := by decide +kernel
theorem dX1_passThrough_80 : decode cX1_passThrough 80 = .ok (.ifCond .ne 7, 3) := by decide +kernel
theorem dX1_passThrough_83 : decode cX1_passThrough 83 = .ok (.iconst 1, 1) := by decide +kernel
theorem dX1_passThrough_84 : decode cX1_passThrough 84 = .ok (.goto 4, 3) := by decide +kernel
theorem dX1_passThrough_87 : decode cX1_passThrough 87 = .ok (.iconst 0, 1) := by decide +kernel
theorem dX1_passThrough_88 : decode cX1_passThrough 88 = .ok (.istore_n 2, 1) := by decide +kernel
theorem dX1_passThrough_89 : decode cX1_passThrough 89 = .ok (.iinc 3 1, 3) := by decide +kernel
theorem dX1_passThrough_92 : decode cX1_passThrough 92 = .ok (.goto (-60), 3) := by decide +kernel
theorem dX1_passThrough_95 : decode cX1_passThrough 95 = .ok (.return_, 1) := by decide +kernel
theorem dX1_doRound_0 : decode cX1_doRound 0 = .ok (.iconst 0, 1) := by decide +kernel
theorem dX1_doRound_1 : decode cX1_doRound 1 = .ok (.istore_n 3, 1) := by decide +kernel
theorem dX1_doRound_2 : decode cX1_doRound 2 = .ok (.iload_n 3, 1) := by decide +kernel
theorem dX1_doRound_3 : decode cX1_doRound 3 = .ok (.aload_n 1, 1) := by decide +kernel
theorem dX1_doRound_4 : decode cX1_doRound 4 = .ok (.getfield 31, 3) := by decide +kernel
theorem dX1_doRound_7 : decode cX1_doRound 7 = .ok (.if_icmp .ge 52, 3) := by decide +kernel
theorem dX1_doRound_10 : decode cX1_doRound 10 = .ok (.aload_n 1, 1) := by decide +kernel
theorem dX1_doRound_11 : decode cX1_doRound 11 = .ok (.getfield 55, 3) := by decide +kernel
theorem dX1_doRound_14 : decode cX1_doRound 14 = .ok (.iload_n 3, 1) := by decide +kernel
theorem dX1_doRound_15 : decode cX1_doRound 15 = .ok (.aaload, 1) := by decide +kernel
theorem dX1_doRound_16 : decode cX1_doRound 16 = .ok (.astore 4, 2) := by decide +kernel
theorem dX1_doRound_18 : decode cX1_doRound 18 = .ok (.aload_n 2, 1) := by decide +kernel
theorem dX1_doRound_19 : decode cX1_doRound 19 = .ok (.iload_n 3, 1) := by decide +kernel
theorem dX1_doRound_20 : decode cX1_doRound 20 = .ok (.aload 4, 2) := by decide +kernel
theorem dX1_doRound_22 : decode cX1_doRound 22 = .ok (.aload_n 0, 1) := by decide +kernel
theorem dX1_doRound_23 : decode cX1_doRound 23 = .ok (.getfield 9, 3) := by decide +kernel
theorem dX1_doRound_26 : decode cX1_doRound 26 = .ok (.aload 4, 2) := by decide +kernel
theorem dX1_doRound_28 : decode cX1_doRound 28 = .ok (.getfield 58, 3) := by decide +kernel
theorem dX1_doRound_31 : decode cX1_doRound 31 = .ok (.iaload, 1) := by decide +kernel
theorem dX1_doRound_32 : decode cX1_doRound 32 = .ok (.invokevirtual 63, 3) := by decide +kernel
theorem dX1_doRound_35 : decode cX1_doRound 35 = .ok (.iastore, 1) := by decide +kernel
theorem dX1_doRound_36 : decode cX1_doRound 36 = .ok (.aload_n 0, 1) := by decide +kernel
theorem dX1_doRound_37 : decode cX1_doRound 37 = .ok (.aload 4, 2) := by decide +kernel
theorem dX1_doRound_39 : decode cX1_doRound 39 = .ok (.getfield 67, 3) := by decide +kernel
theorem dX1_doRound_42 : decode cX1_doRound 42 = .ok (.aload_n 2, 1) := by decide +kernel
theorem dX1_doRound_43 : decode cX1_doRound 43 = .ok (.iload_n 3, 1) := by decide +kernel
theorem dX1_doRound_44 : decode cX1_doRound 44 = .ok (.iaload, 1) := by decide +kernel
theorem dX1_doRound_45 : decode cX1_doRound 45 = .ok (.aaload, 1) := by decide +kernel
theorem dX1_doRound_46 : decode cX1_doRound 46 = .ok (.aload_n 1, 1) := by decide +kernel
theorem dX1_doRound_47 : decode cX1_doRound 47 = .ok (.getfield 71, 3) := by decide +kernel
theorem dX1_doRound_50 : decode cX1_doRound 50 = .ok (.invokevirtual 74, 3) := by decide +kernel
theorem dX1_doRound_53 : decode cX1_doRound 53 = .ok (.iinc 3 1, 3) := by decide +kernel
theorem dX1_doRound_56 : decode cX1_doRound 56 = .ok (.goto (-54), 3) := by decide +kernel
theorem dX1_doRound_59 : decode cX1_doRound 59 = .ok (.return_, 1) := by decide +kernel
theorem dX1_apply_0 : decode cX1_apply 0 = .ok (.aload_n 1, 1) := by decide +kernel
theorem dX1_apply_1 : decode cX1_apply 1 = .ok (.getfield 78, 3) := by decide +kernel
theorem dX1_apply_4 : decode cX1_apply 4 = .ok (.tableswitch 230 1 9 #[52, 68, 89, 119, 143, 182, 198, 214, 222], 52) := by decide +kernel
theorem dX1_apply_56 : decode cX1_apply 56 = .ok (.aload_n 0, 1) := by decide +kernel
theorem dX1_apply_57 : decode cX1_apply 57 = .ok (.getfield 9, 3) := by decide +kernel
theorem dX1_apply_60 : decode cX1_apply 60 = .ok (.aload_n 1, 1) := by decide +kernel
theorem dX1_apply_61 : decode cX1_apply 61 = .ok (.getfield 83, 3) := by decide +kernel
theorem dX1_apply_64 : decode cX1_apply 64 = .ok (.aload_n 1, 1) := by decide +kernel
theorem dX1_apply_65 : decode cX1_apply 65 = .ok (.getfield 86, 3) := by decide +kernel
theorem dX1_apply_68 : decode cX1_apply 68 = .ok (.iastore, 1) := by decide +kernel
theorem dX1_apply_69 : decode cX1_apply 69 = .ok (.goto 165, 3) := by decide +kernel
theorem dX1_apply_72 : decode cX1_apply 72 = .ok (.aload_n 0, 1) := by decide +kernel
theorem dX1_apply_73 : decode cX1_apply 73 = .ok (.getfield 9, 3) := by decide +kernel
theorem dX1_apply_76 : decode cX1_apply 76 = .ok (.aload_n 1, 1) := by decide +kernel
theorem dX1_apply_77 : decode cX1_apply 77 = .ok (.getfield 83, 3) := by decide +kernel
theorem dX1_apply_80 : decode cX1_apply 80 = .ok (.aload_n 0, 1) := by decide +kernel
theorem dX1_apply_81 : decode cX1_apply 81 = .ok (.getfield 9, 3) := by decide +kernel
theorem dX1_apply_84 : decode cX1_apply 84 = .ok (.aload_n 1, 1) := by decide +kernel
theorem dX1_apply_85 : decode cX1_apply 85 = .ok (.getfield 86, 3) := by decide +kernel
theorem dX1_apply_88 : decode cX1_apply 88 = .ok (.iaload, 1) := by decide +kernel
theorem dX1_apply_89 : decode cX1_apply 89 = .ok (.iastore, 1) := by decide +kernel
theorem dX1_apply_90 : decode cX1_apply 90 = .ok (.goto 144, 3) := by decide +kernel
theorem dX1_apply_93 : decode cX1_apply 93 = .ok (.aload_n 0, 1) := by decide +kernel
theorem dX1_apply_94 : decode cX1_apply 94 = .ok (.getfield 9, 3) := by decide +kernel
theorem dX1_apply_97 : decode cX1_apply 97 = .ok (.aload_n 1, 1) := by decide +kernel
theorem dX1_apply_98 : decode cX1_apply 98 = .ok (.getfield 83, 3) := by decide +kernel
theorem dX1_apply_101 : decode cX1_apply 101 = .ok (.aload_n 0, 1) := by decide +kernel
theorem dX1_apply_102 : decode cX1_apply 102 = .ok (.getfield 9, 3) := by decide +kernel
theorem dX1_apply_105 : decode cX1_apply 105 = .ok (.aload_n 1, 1) := by decide +kernel
theorem dX1_apply_106 : decode cX1_apply 106 = .ok (.getfield 83, 3) := by decide +kernel
theorem dX1_apply_109 : decode cX1_apply 109 = .ok (.iaload, 1) := by decide +kernel
theorem dX1_apply_110 : decode cX1_apply 110 = .ok (.aload_n 1, 1) := by decide +kernel
theorem dX1_apply_111 : decode cX1_apply 111 = .ok (.getfield 86, 3) := by decide +kernel
theorem dX1_apply_114 : decode cX1_apply 114 = .ok (.iadd, 1) := by decide +kernel
theorem dX1_apply_115 : decode cX1_apply 115 = .ok (.sipush 255, 3) := by decide +kernel
theorem dX1_apply_118 : decode cX1_apply 118 = .ok (.iand, 1) := by decide +kernel
theorem dX1_apply_119 : decode cX1_apply 119 = .ok (.iastore, 1) := by decide +kernel
theorem dX1_apply_120 : decode cX1_apply 120 = .ok (.goto 114, 3) := by decide +kernel
theorem dX1_apply_123 : decode cX1_apply 123 = .ok (.aload_n 0, 1) := by decide +kernel
theorem dX1_apply_124 : decode cX1_apply 124 = .ok (.getfield 9, 3) := by decide +kernel
theorem dX1_apply_127 : decode cX1_apply 127 = .ok (.aload_n 1, 1) := by decide +kernel
theorem dX1_apply_128 : decode cX1_apply 128 = .ok (.getfield 83, 3) := by decide +kernel
theorem dX1_apply_131 : decode cX1_apply 131 = .ok (.dup2, 1) := by decide +kernel
theorem dX1_apply_132 : decode cX1_apply 132 = .ok (.iaload, 1) := by decide +kernel
theorem dX1_apply_133 : decode cX1_apply 133 = .ok (.aload_n 0, 1) := by decide +kernel
theorem dX1_apply_134 : decode cX1_apply 134 = .ok (.getfield 9, 3) := by decide +kernel
theorem dX1_apply_137 : decode cX1_apply 137 = .ok (.aload_n 1, 1) := by decide +kernel
theorem dX1_apply_138 : decode cX1_apply 138 = .ok (.getfield 86, 3) := by decide +kernel
theorem dX1_apply_141 : decode cX1_apply 141 = .ok (.iaload, 1) := by decide +kernel
theorem dX1_apply_142 : decode cX1_apply 142 = .ok (.ixor, 1) := by decide +kernel
theorem dX1_apply_143 : decode cX1_apply 143 = .ok (.iastore, 1) := by decide +kernel
theorem dX1_apply_144 : decode cX1_apply 144 = .ok (.goto 90, 3) := by decide +kernel
theorem dX1_apply_147 : decode cX1_apply 147 = .ok (.aload_n 2, 1) := by decide +kernel
theorem dX1_apply_148 : decode cX1_apply 148 = .ok (.aload_n 1, 1) := by decide +kernel
theorem dX1_apply_149 : decode cX1_apply 149 = .ok (.getfield 86, 3) := by decide +kernel
theorem dX1_apply_152 : decode cX1_apply 152 = .ok (.aload_n 2, 1) := by decide +kernel
theorem dX1_apply_153 : decode cX1_apply 153 = .ok (.aload_n 1, 1) := by decide +kernel
theorem dX1_apply_154 : decode cX1_apply 154 = .ok (.getfield 86, 3) := by decide +kernel
theorem dX1_apply_157 : decode cX1_apply 157 = .ok (.iaload, 1) := by decide +kernel
theorem dX1_apply_158 : decode cX1_apply 158 = .ok (.iconst 1, 1) := by decide +kernel
theorem dX1_apply_159 : decode cX1_apply 159 = .ok (.iadd, 1) := by decide +kernel
theorem dX1_apply_160 : decode cX1_apply 160 = .ok (.ldc 89, 2) := by decide +kernel
theorem dX1_apply_162 : decode cX1_apply 162 = .ok (.iand, 1) := by decide +kernel
theorem dX1_apply_163 : decode cX1_apply 163 = .ok (.iastore, 1) := by decide +kernel
theorem dX1_apply_164 : decode cX1_apply 164 = .ok (.aload_n 0, 1) := by decide +kernel
theorem dX1_apply_165 : decode cX1_apply 165 = .ok (.getfield 9, 3) := by decide +kernel
theorem dX1_apply_168 : decode cX1_apply 168 = .ok (.aload_n 1, 1) := by decide +kernel
theorem dX1_apply_169 : decode cX1_apply 169 = .ok (.getfield 83, 3) := by decide +kernel
theorem dX1_apply_172 : decode cX1_apply 172 = .ok (.aload_n 2, 1) := by decide +kernel
theorem dX1_apply_173 : decode cX1_apply 173 = .ok (.aload_n 1, 1) := by decide +kernel
theorem dX1_apply_174 : decode cX1_apply 174 = .ok (.getfield 86, 3) := by decide +kernel
theorem dX1_apply_177 : decode cX1_apply 177 = .ok (.iaload, 1) := by decide +kernel
theorem dX1_apply_178 : decode cX1_apply 178 = .ok (.sipush 255, 3) := by decide +kernel
theorem dX1_apply_181 : decode cX1_apply 181 = .ok (.iand, 1) := by decide +kernel
theorem dX1_apply_182 : decode cX1_apply 182 = .ok (.iastore, 1) := by decide +kernel
theorem dX1_apply_183 : decode cX1_apply 183 = .ok (.goto 51, 3) := by decide +kernel
theorem dX1_apply_186 : decode cX1_apply 186 = .ok (.aload_n 0, 1) := by decide +kernel
theorem dX1_apply_187 : decode cX1_apply 187 = .ok (.aload_n 1, 1) := by decide +kernel
theorem dX1_apply_188 : decode cX1_apply 188 = .ok (.getfield 83, 3) := by decide +kernel
theorem dX1_apply_191 : decode cX1_apply 191 = .ok (.aload_n 2, 1) := by decide +kernel
theorem dX1_apply_192 : decode cX1_apply 192 = .ok (.aload_n 1, 1) := by decide +kernel
theorem dX1_apply_193 : decode cX1_apply 193 = .ok (.getfield 86, 3) := by decide +kernel
theorem dX1_apply_196 : decode cX1_apply 196 = .ok (.invokevirtual 90, 3) := by decide +kernel
theorem dX1_apply_199 : decode cX1_apply 199 = .ok (.goto 35, 3) := by decide +kernel
theorem dX1_apply_202 : decode cX1_apply 202 = .ok (.aload_n 0, 1) := by decide +kernel
theorem dX1_apply_203 : decode cX1_apply 203 = .ok (.aload_n 1, 1) := by decide +kernel
theorem dX1_apply_204 : decode cX1_apply 204 = .ok (.getfield 83, 3) := by decide +kernel
theorem dX1_apply_207 : decode cX1_apply 207 = .ok (.aload_n 2, 1) := by decide +kernel
theorem dX1_apply_208 : decode cX1_apply 208 = .ok (.aload_n 1, 1) := by decide +kernel
theorem dX1_apply_209 : decode cX1_apply 209 = .ok (.getfield 86, 3) := by decide +kernel
theorem dX1_apply_212 : decode cX1_apply 212 = .ok (.invokevirtual 94, 3) := by decide +kernel
theorem dX1_apply_215 : decode cX1_apply 215 = .ok (.goto 19, 3) := by decide +kernel
theorem dX1_apply_218 : decode cX1_apply 218 = .ok (.aload_n 0, 1) := by decide +kernel
theorem dX1_apply_219 : decode cX1_apply 219 = .ok (.iconst 1, 1) := by decide +kernel
theorem dX1_apply_220 : decode cX1_apply 220 = .ok (.putfield 38, 3) := by decide +kernel
theorem dX1_apply_223 : decode cX1_apply 223 = .ok (.goto 11, 3) := by decide +kernel
theorem dX1_apply_226 : decode cX1_apply 226 = .ok (.aload_n 0, 1) := by decide +kernel
theorem dX1_apply_227 : decode cX1_apply 227 = .ok (.iconst 1, 1) := by decide +kernel
theorem dX1_apply_228 : decode cX1_apply 228 = .ok (.putfield 45, 3) := by decide +kernel
theorem dX1_apply_231 : decode cX1_apply 231 = .ok (.goto 3, 3) := by decide +kernel
theorem dX1_apply_234 : decode cX1_apply 234 = .ok (.return_, 1) := by decide +kernel
theorem dX1_keepTop_0 : decode cX1_keepTop 0 = .ok (.aload_n 0, 1) := by decide +kernel
theorem dX1_keepTop_1 : decode cX1_keepTop 1 = .ok (.getfield 9, 3) := by decide +kernel
theorem dX1_keepTop_4 : decode cX1_keepTop 4 = .ok (.iload_n 1, 1) := by decide +kernel
theorem dX1_keepTop_5 : decode cX1_keepTop 5 = .ok (.iaload, 1) := by decide +kernel
theorem dX1_keepTop_6 : decode cX1_keepTop 6 = .ok (.aload_n 2, 1) := by decide +kernel
theorem dX1_keepTop_7 : decode cX1_keepTop 7 = .ok (.iload_n 3, 1) := by decide +kernel
theorem dX1_keepTop_8 : decode cX1_keepTop 8 = .ok (.iaload, 1) := by decide +kernel
theorem dX1_keepTop_9 : decode cX1_keepTop 9 = .ok (.if_icmp .le 7, 3) := by decide +kernel
theorem dX1_keepTop_12 : decode cX1_keepTop 12 = .ok (.iconst 1, 1) := by decide +kernel
theorem dX1_keepTop_13 : decode cX1_keepTop 13 = .ok (.goto 4, 3) := by decide +kernel
theorem dX1_keepTop_16 : decode cX1_keepTop 16 = .ok (.iconst 0, 1) := by decide +kernel
theorem dX1_keepTop_17 : decode cX1_keepTop 17 = .ok (.istore 4, 2) := by decide +kernel
theorem dX1_keepTop_19 : decode cX1_keepTop 19 = .ok (.iload 4, 2) := by decide +kernel
theorem dX1_keepTop_21 : decode cX1_keepTop 21 = .ok (.ifCond .eq 12, 3) := by decide +kernel
theorem dX1_keepTop_24 : decode cX1_keepTop 24 = .ok (.aload_n 2, 1) := by decide +kernel
theorem dX1_keepTop_25 : decode cX1_keepTop 25 = .ok (.iload_n 3, 1) := by decide +kernel
theorem dX1_keepTop_26 : decode cX1_keepTop 26 = .ok (.aload_n 0, 1) := by decide +kernel
theorem dX1_keepTop_27 : decode cX1_keepTop 27 = .ok (.getfield 9, 3) := by decide +kernel
theorem dX1_keepTop_30 : decode cX1_keepTop 30 = .ok (.iload_n 1, 1) := by decide +kernel
theorem dX1_keepTop_31 : decode cX1_keepTop 31 = .ok (.iaload, 1) := by decide +kernel
theorem dX1_keepTop_32 : decode cX1_keepTop 32 = .ok (.iastore, 1) := by decide +kernel
theorem dX1_keepTop_33 : decode cX1_keepTop 33 = .ok (.aload_n 0, 1) := by decide +kernel
theorem dX1_keepTop_34 : decode cX1_keepTop 34 = .ok (.getfield 9, 3) := by decide +kernel
theorem dX1_keepTop_37 : decode cX1_keepTop 37 = .ok (.iload_n 1, 1) := by decide +kernel
theorem dX1_keepTop_38 : decode cX1_keepTop 38 = .ok (.iload 4, 2) := by decide +kernel
theorem dX1_keepTop_40 : decode cX1_keepTop 40 = .ok (.ifCond .eq 7, 3) := by decide +kernel
theorem dX1_keepTop_43 : decode cX1_keepTop 43 = .ok (.iconst 1, 1) := by decide +kernel
theorem dX1_keepTop_44 : decode cX1_keepTop 44 = .ok (.goto 4, 3) := by decide +kernel
theorem dX1_keepTop_47 : decode cX1_keepTop 47 = .ok (.iconst 0, 1) := by decide +kernel
theorem dX1_keepTop_48 : decode cX1_keepTop 48 = .ok (.iastore, 1) := by decide +kernel
theorem dX1_keepTop_49 : decode cX1_keepTop 49 = .ok (.return_, 1) := by decide +kernel
theorem dX1_swap_0 : decode cX1_swap 0 = .ok (.aload_n 2, 1) := by decide +kernel
theorem dX1_swap_1 : decode cX1_swap 1 = .ok (.iload_n 3, 1) := by decide +kernel
theorem dX1_swap_2 : decode cX1_swap 2 = .ok (.iaload, 1) := by decide +kernel
theorem dX1_swap_3 : decode cX1_swap 3 = .ok (.istore 4, 2) := by decide +kernel
theorem dX1_swap_5 : decode cX1_swap 5 = .ok (.aload_n 2, 1) := by decide +kernel
theorem dX1_swap_6 : decode cX1_swap 6 = .ok (.iload_n 3, 1) := by decide +kernel
theorem dX1_swap_7 : decode cX1_swap 7 = .ok (.aload_n 0, 1) := by decide +kernel
theorem dX1_swap_8 : decode cX1_swap 8 = .ok (.getfield 9, 3) := by decide +kernel
theorem dX1_swap_11 : decode cX1_swap 11 = .ok (.iload_n 1, 1) := by decide +kernel
theorem dX1_swap_12 : decode cX1_swap 12 = .ok (.iaload, 1) := by decide +kernel
theorem dX1_swap_13 : decode cX1_swap 13 = .ok (.iastore, 1) := by decide +kernel
theorem dX1_swap_14 : decode cX1_swap 14 = .ok (.aload_n 0, 1) := by decide +kernel
theorem dX1_swap_15 : decode cX1_swap 15 = .ok (.getfield 9, 3) := by decide +kernel
theorem dX1_swap_18 : decode cX1_swap 18 = .ok (.iload_n 1, 1) := by decide +kernel
theorem dX1_swap_19 : decode cX1_swap 19 = .ok (.iload 4, 2) := by decide +kernel
theorem dX1_swap_21 : decode cX1_swap 21 = .ok (.sipush 255, 3) := by decide +kernel
theorem dX1_swap_24 : decode cX1_swap 24 = .ok (.iand, 1) := by decide +kernel
theorem dX1_swap_25 : decode cX1_swap 25 = .ok (.iastore, 1) := by decide +kernel
theorem dX1_swap_26 : decode cX1_swap 26 = .ok (.return_, 1) := by decide +kernel
theorem dX2_init_0 : decode cX2_init 0 = .ok (.aload_n 0, 1) := by decide +kernel
theorem dX2_init_1 : decode cX2_init 1 = .ok (.invokespecial 3, 3) := by decide +kernel
theorem dX2_init_4 : decode cX2_init 4 = .ok (.aload_n 0, 1) := by decide +kernel
theorem dX2_init_5 : decode cX2_init 5 = .ok (.bipush 8, 2) := by decide +kernel
theorem dX2_init_7 : decode cX2_init 7 = .ok (.newarray .int, 2) := by decide +kernel
theorem dX2_init_9 : decode cX2_init 9 = .ok (.putfield 9, 3) := by decide +kernel
theorem dX2_init_12 : decode cX2_init 12 = .ok (.aload_n 0, 1) := by decide +kernel
theorem dX2_init_13 : decode cX2_init 13 = .ok (.bipush 8, 2) := by decide +kernel
theorem dX2_init_15 : decode cX2_init 15 = .ok (.newarray .int, 2) := by decide +kernel
theorem dX2_init_17 : decode cX2_init 17 = .ok (.putfield 15, 3) := by decide +kernel
theorem dX2_init_20 : decode cX2_init 20 = .ok (.aload_n 0, 1) := by decide +kernel
theorem dX2_init_21 : decode cX2_init 21 = .ok (.bipush 8, 2) := by decide +kernel
theorem dX2_init_23 : decode cX2_init 23 = .ok (.newarray .int, 2) := by decide +kernel
theorem dX2_init_25 : decode cX2_init 25 = .ok (.putfield 18, 3) := by decide +kernel
theorem dX2_init_28 : decode cX2_init 28 = .ok (.aload_n 0, 1) := by decide +kernel
theorem dX2_init_29 : decode cX2_init 29 = .ok (.bipush 8, 2) := by decide +kernel
theorem dX2_init_31 : decode cX2_init 31 = .ok (.newarray .int, 2) := by decide +kernel
theorem dX2_init_33 : decode cX2_init 33 = .ok (.putfield 21, 3) := by decide +kernel
theorem dX2_init_36 : decode cX2_init 36 = .ok (.aload_n 0, 1) := by decide +kernel
theorem dX2_init_37 : decode cX2_init 37 = .ok (.bipush 8, 2) := by decide +kernel
theorem dX2_init_39 : decode cX2_init 39 = .ok (.newarray .int, 2) := by decide +kernel
theorem dX2_init_41 : decode cX2_init 41 = .ok (.putfield 24, 3) := by decide +kernel
theorem dX2_init_44 : decode cX2_init 44 = .ok (.aload_n 0, 1) := by decide +kernel
theorem dX2_init_45 : decode cX2_init 45 = .ok (.bipush 8, 2) := by decide +kernel
theorem dX2_init_47 : decode cX2_init 47 = .ok (.newarray .int, 2) := by decide +kernel
theorem dX2_init_49 : decode cX2_init 49 = .ok (.putfield 27, 3) := by decide +kernel
theorem dX2_init_52 : decode cX2_init 52 = .ok (.aload_n 0, 1) := by decide +kernel
theorem dX2_init_53 : decode cX2_init 53 = .ok (.bipush 8, 2) := by decide +kernel
theorem dX2_init_55 : decode cX2_init 55 = .ok (.newarray .int, 2) := by decide +kernel
theorem dX2_init_57 : decode cX2_init 57 = .ok (.putfield 30, 3) := by decide +kernel
theorem dX2_init_60 : decode cX2_init 60 = .ok (.aload_n 0, 1) := by decide +kernel
theorem dX2_init_61 : decode cX2_init 61 = .ok (.bipush 8, 2) := by decide +kernel
theorem dX2_init_63 : decode cX2_init 63 = .ok (.newarray .int, 2) := by decide +kernel
theorem dX2_init_65 : decode cX2_init 65 = .ok (.putfield 33, 3) := by decide +kernel
theorem dX2_init_68 : decode cX2_init 68 = .ok (.aload_n 0, 1) := by decide +kernel
theorem dX2_init_69 : decode cX2_init 69 = .ok (.bipush 8, 2) := by decide +kernel
theorem dX2_init_71 : decode cX2_init 71 = .ok (.newarray .int, 2) := by decide +kernel
theorem dX2_init_73 : decode cX2_init 73 = .ok (.putfield 36, 3) := by decide +kernel
theorem dX2_init_76 : decode cX2_init 76 = .ok (.aload_n 0, 1) := by decide +kernel
theorem dX2_init_77 : decode cX2_init 77 = .ok (.bipush 8, 2) := by decide +kernel
theorem dX2_init_79 : decode cX2_init 79 = .ok (.newarray .int, 2) := by decide +kernel
theorem dX2_init_81 : decode cX2_init 81 = .ok (.putfield 39, 3) := by decide +kernel
theorem dX2_init_84 : decode cX2_init 84 = .ok (.return_, 1) := by decide +kernel
theorem dX2_arrange_0 : decode cX2_arrange 0 = .ok (.iconst 0, 1) := by decide +kernel
theorem dX2_arrange_1 : decode cX2_arrange 1 = .ok (.istore_n 2, 1) := by decide +kernel
theorem dX2_arrange_2 : decode cX2_arrange 2 = .ok (.iload_n 2, 1) := by decide +kernel
theorem dX2_arrange_3 : decode cX2_arrange 3 = .ok (.aload_n 1, 1) := by decide +kernel
theorem dX2_arrange_4 : decode cX2_arrange 4 = .ok (.getfield 42, 3) := by decide +kernel
theorem dX2_arrange_7 : decode cX2_arrange 7 = .ok (.if_icmp .ge 20, 3) := by decide +kernel
theorem dX2_arrange_10 : decode cX2_arrange 10 = .ok (.aload_n 0, 1) := by decide +kernel
theorem dX2_arrange_11 : decode cX2_arrange 11 = .ok (.iload_n 2, 1) := by decide +kernel
theorem dX2_arrange_12 : decode cX2_arrange 12 = .ok (.aload_n 1, 1) := by decide +kernel
theorem dX2_arrange_13 : decode cX2_arrange 13 = .ok (.getfield 48, 3) := by decide +kernel
theorem dX2_arrange_16 : decode cX2_arrange 16 = .ok (.iload_n 2, 1) := by decide +kernel
theorem dX2_arrange_17 : decode cX2_arrange 17 = .ok (.aaload, 1) := by decide +kernel
theorem dX2_arrange_18 : decode cX2_arrange 18 = .ok (.invokevirtual 52, 3) := by decide +kernel
theorem dX2_arrange_21 : decode cX2_arrange 21 = .ok (.iinc 2 1, 3) := by decide +kernel
theorem dX2_arrange_24 : decode cX2_arrange 24 = .ok (.goto (-22), 3) := by decide +kernel
theorem dX2_arrange_27 : decode cX2_arrange 27 = .ok (.aload_n 0, 1) := by decide +kernel
theorem dX2_arrange_28 : decode cX2_arrange 28 = .ok (.getfield 36, 3) := by decide +kernel
theorem dX2_arrange_31 : decode cX2_arrange 31 = .ok (.iconst 0, 1) := by decide +kernel
theorem dX2_arrange_32 : decode cX2_arrange 32 = .ok (.invokestatic 56, 3) := by decide +kernel
theorem dX2_arrange_35 : decode cX2_arrange 35 = .ok (.aload_n 0, 1) := by decide +kernel
theorem dX2_arrange_36 : decode cX2_arrange 36 = .ok (.getfield 39, 3) := by decide +kernel
theorem dX2_arrange_39 : decode cX2_arrange 39 = .ok (.iconst 0, 1) := by decide +kernel
theorem dX2_arrange_40 : decode cX2_arrange 40 = .ok (.invokestatic 56, 3) := by decide +kernel
theorem dX2_arrange_43 : decode cX2_arrange 43 = .ok (.aload_n 0, 1) := by decide +kernel
theorem dX2_arrange_44 : decode cX2_arrange 44 = .ok (.iconst 1, 1) := by decide +kernel
theorem dX2_arrange_45 : decode cX2_arrange 45 = .ok (.putfield 62, 3) := by decide +kernel
theorem dX2_arrange_48 : decode cX2_arrange 48 = .ok (.iconst 0, 1) := by decide +kernel
theorem dX2_arrange_49 : decode cX2_arrange 49 = .ok (.istore_n 2, 1) := by decide +kernel
theorem dX2_arrange_50 : decode cX2_arrange 50 = .ok (.iload_n 2, 1) := by decide +kernel
theorem dX2_arrange_51 : decode cX2_arrange 51 = .ok (.aload_n 1, 1) := by decide +kernel
theorem dX2_arrange_52 : decode cX2_arrange 52 = .ok (.getfield 42, 3) := by decide +kernel
theorem dX2_arrange_55 : decode cX2_arrange 55 = .ok (.if_icmp .ge 29, 3) := by decide +kernel
theorem dX2_arrange_58 : decode cX2_arrange 58 = .ok (.aload_n 0, 1) := by decide +kernel
theorem dX2_arrange_59 : decode cX2_arrange 59 = .ok (.getfield 62, 3) := by decide +kernel
theorem dX2_arrange_62 : decode cX2_arrange 62 = .ok (.ifCond .eq 22, 3) := by decide +kernel
theorem dX2_arrange_65 : decode cX2_arrange 65 = .ok (.aload_n 0, 1) := by decide +kernel
theorem dX2_arrange_66 : decode cX2_arrange 66 = .ok (.aload_n 0, 1) := by decide +kernel
theorem dX2_arrange_67 : decode cX2_arrange 67 = .ok (.iload_n 2, 1) := by decide +kernel
theorem dX2_arrange_68 : decode cX2_arrange 68 = .ok (.aload_n 1, 1) := by decide +kernel
theorem dX2_arrange_69 : decode cX2_arrange 69 = .ok (.getfield 66, 3) := by decide +kernel
theorem dX2_arrange_72 : decode cX2_arrange 72 = .ok (.invokevirtual 69, 3) := by decide +kernel
theorem dX2_arrange_75 : decode cX2_arrange 75 = .ok (.putfield 62, 3) := by decide +kernel
theorem dX2_arrange_78 : decode cX2_arrange 78 = .ok (.iinc 2 1, 3) := by decide +kernel
theorem dX2_arrange_81 : decode cX2_arrange 81 = .ok (.goto (-31), 3) := by decide +kernel
theorem dX2_arrange_84 : decode cX2_arrange 84 = .ok (.return_, 1) := by decide +kernel
theorem dX2_look_0 : decode cX2_look 0 = .ok (.aload_n 0, 1) := by decide +kernel
theorem dX2_look_1 : decode cX2_look 1 = .ok (.getfield 9, 3) := by decide +kernel
theorem dX2_look_4 : decode cX2_look 4 = .ok (.iload_n 1, 1) := by decide +kernel
theorem dX2_look_5 : decode cX2_look 5 = .ok (.aload_n 2, 1) := by decide +kernel
theorem dX2_look_6 : decode cX2_look 6 = .ok (.getfield 73, 3) := by decide +kernel
theorem dX2_look_9 : decode cX2_look 9 = .ok (.iastore, 1) := by decide +kernel
theorem dX2_look_10 : decode cX2_look 10 = .ok (.aload_n 0, 1) := by decide +kernel
theorem dX2_look_11 : decode cX2_look 11 = .ok (.getfield 15, 3) := by decide +kernel
theorem dX2_look_14 : decode cX2_look 14 = .ok (.iload_n 1, 1) := by decide +kernel
theorem dX2_look_15 : decode cX2_look 15 = .ok (.aload_n 2, 1) := by decide +kernel
theorem dX2_look_16 : decode cX2_look 16 = .ok (.invokevirtual 78, 3) := by decide +kernel
theorem dX2_look_19 : decode cX2_look 19 = .ok (.iastore, 1) := by decide +kernel
theorem dX2_look_20 : decode cX2_look 20 = .ok (.aload_n 0, 1) := by decide +kernel
theorem dX2_look_21 : decode cX2_look 21 = .ok (.getfield 18, 3) := by decide +kernel
theorem dX2_look_24 : decode cX2_look 24 = .ok (.iload_n 1, 1) := by decide +kernel
theorem dX2_look_25 : decode cX2_look 25 = .ok (.aload_n 2, 1) := by decide +kernel
theorem dX2_look_26 : decode cX2_look 26 = .ok (.invokevirtual 82, 3) := by decide +kernel
theorem dX2_look_29 : decode cX2_look 29 = .ok (.iastore, 1) := by decide +kernel
theorem dX2_look_30 : decode cX2_look 30 = .ok (.aload_n 0, 1) := by decide +kernel
theorem dX2_look_31 : decode cX2_look 31 = .ok (.getfield 21, 3) := by decide +kernel
theorem dX2_look_34 : decode cX2_look 34 = .ok (.iload_n 1, 1) := by decide +kernel
theorem dX2_look_35 : decode cX2_look 35 = .ok (.aload_n 2, 1) := by decide +kernel
theorem dX2_look_36 : decode cX2_look 36 = .ok (.invokevirtual 85, 3) := by decide +kernel
theorem dX2_look_39 : decode cX2_look 39 = .ok (.iastore, 1) := by decide +kernel
theorem dX2_look_40 : decode cX2_look 40 = .ok (.aload_n 0, 1) := by decide +kernel
theorem dX2_look_41 : decode cX2_look 41 = .ok (.getfield 24, 3) := by decide +kernel
theorem dX2_look_44 : decode cX2_look 44 = .ok (.iload_n 1, 1) := by decide +kernel
theorem dX2_look_45 : decode cX2_look 45 = .ok (.iconst 0, 1) := by decide +kernel
theorem dX2_look_46 : decode cX2_look 46 = .ok (.iastore, 1) := by decide +kernel
theorem dX2_look_47 : decode cX2_look 47 = .ok (.aload_n 0, 1) := by decide +kernel
theorem dX2_look_48 : decode cX2_look 48 = .ok (.getfield 27, 3) := by decide +kernel
theorem dX2_look_51 : decode cX2_look 51 = .ok (.iload_n 1, 1) := by decide +kernel
theorem dX2_look_52 : decode cX2_look 52 = .ok (.iconst 0, 1) := by decide +kernel
theorem dX2_look_53 : decode cX2_look 53 = .ok (.iastore, 1) := by decide +kernel
theorem dX2_look_54 : decode cX2_look 54 = .ok (.aload_n 0, 1) := by decide +kernel
theorem dX2_look_55 : decode cX2_look 55 = .ok (.getfield 30, 3) := by decide +kernel
theorem dX2_look_58 : decode cX2_look 58 = .ok (.iload_n 1, 1) := by decide +kernel
theorem dX2_look_59 : decode cX2_look 59 = .ok (.iconst 0, 1) := by decide +kernel
theorem dX2_look_60 : decode cX2_look 60 = .ok (.iastore, 1) := by decide +kernel
theorem dX2_look_61 : decode cX2_look 61 = .ok (.iconst 0, 1) := by decide +kernel
theorem dX2_look_62 : decode cX2_look 62 = .ok (.istore_n 3, 1) := by decide +kernel
theorem dX2_look_63 : decode cX2_look 63 = .ok (.iload_n 3, 1) := by decide +kernel
theorem dX2_look_64 : decode cX2_look 64 = .ok (.iload_n 1, 1) := by decide +kernel
theorem dX2_look_65 : decode cX2_look 65 = .ok (.if_icmp .ge 79, 3) := by decide +kernel
theorem dX2_look_68 : decode cX2_look 68 = .ok (.aload_n 0, 1) := by decide +kernel
theorem dX2_look_69 : decode cX2_look 69 = .ok (.iload_n 1, 1) := by decide +kernel
theorem dX2_look_70 : decode cX2_look 70 = .ok (.iload_n 3, 1) := by decide +kernel
theorem dX2_look_71 : decode cX2_look 71 = .ok (.invokevirtual 87, 3) := by decide +kernel
theorem dX2_look_74 : decode cX2_look 74 = .ok (.istore 4, 2) := by decide +kernel
theorem dX2_look_76 : decode cX2_look 76 = .ok (.iload 4, 2) := by decide +kernel
theorem dX2_look_78 : decode cX2_look 78 = .ok (.iconst 2, 1) := by decide +kernel
theorem dX2_look_79 : decode cX2_look 79 = .ok (.if_icmp .lt 41, 3) := by decide +kernel
theorem dX2_look_82 : decode cX2_look 82 = .ok (.aload_n 0, 1) := by decide +kernel
theorem dX2_look_83 : decode cX2_look 83 = .ok (.getfield 24, 3) := by decide +kernel
theorem dX2_look_86 : decode cX2_look 86 = .ok (.iload_n 1, 1) := by decide +kernel
theorem dX2_look_87 : decode cX2_look 87 = .ok (.dup2, 1) := by decide +kernel
theorem dX2_look_88 : decode cX2_look 88 = .ok (.iaload, 1) := by decide +kernel
theorem dX2_look_89 : decode cX2_look 89 = .ok (.iconst 1, 1) := by decide +kernel
theorem dX2_look_90 : decode cX2_look 90 = .ok (.iload_n 3, 1) := by decide +kernel
theorem dX2_look_91 : decode cX2_look 91 = .ok (.ishl, 1) := by decide +kernel
theorem dX2_look_92 : decode cX2_look 92 = .ok (.ior, 1) := by decide +kernel
theorem dX2_look_93 : decode cX2_look 93 = .ok (.iastore, 1) := by decide +kernel
theorem dX2_look_94 : decode cX2_look 94 = .ok (.aload_n 0, 1) := by decide +kernel
theorem dX2_look_95 : decode cX2_look 95 = .ok (.getfield 30, 3) := by decide +kernel
theorem dX2_look_98 : decode cX2_look 98 = .ok (.iload_n 1, 1) := by decide +kernel
theorem dX2_look_99 : decode cX2_look 99 = .ok (.aload_n 0, 1) := by decide +kernel
theorem dX2_look_100 : decode cX2_look 100 = .ok (.getfield 30, 3) := by decide +kernel
theorem dX2_look_103 : decode cX2_look 103 = .ok (.iload_n 1, 1) := by decide +kernel
theorem dX2_look_104 : decode cX2_look 104 = .ok (.iaload, 1) := by decide +kernel
theorem dX2_look_105 : decode cX2_look 105 = .ok (.aload_n 0, 1) := by decide +kernel
theorem dX2_look_106 : decode cX2_look 106 = .ok (.getfield 30, 3) := by decide +kernel
theorem dX2_look_109 : decode cX2_look 109 = .ok (.iload_n 3, 1) := by decide +kernel
theorem dX2_look_110 : decode cX2_look 110 = .ok (.iaload, 1) := by decide +kernel
theorem dX2_look_111 : decode cX2_look 111 = .ok (.iconst 1, 1) := by decide +kernel
theorem dX2_look_112 : decode cX2_look 112 = .ok (.iadd, 1) := by decide +kernel
theorem dX2_look_113 : decode cX2_look 113 = .ok (.invokestatic 91, 3) := by decide +kernel
theorem dX2_look_116 : decode cX2_look 116 = .ok (.iastore, 1) := by decide +kernel
theorem dX2_look_117 : decode cX2_look 117 = .ok (.goto 21, 3) := by decide +kernel
theorem dX2_look_120 : decode cX2_look 120 = .ok (.iload 4, 2) := by decide +kernel
theorem dX2_look_122 : decode cX2_look 122 = .ok (.iconst 1, 1) := by decide +kernel
theorem dX2_look_123 : decode cX2_look 123 = .ok (.if_icmp .ne 15, 3) := by decide +kernel
theorem dX2_look_126 : decode cX2_look 126 = .ok (.aload_n 0, 1) := by decide +kernel
theorem dX2_look_127 : decode cX2_look 127 = .ok (.getfield 27, 3) := by decide +kernel
theorem dX2_look_130 : decode cX2_look 130 = .ok (.iload_n 1, 1) := by decide +kernel
theorem dX2_look_131 : decode cX2_look 131 = .ok (.dup2, 1) := by decide +kernel
theorem dX2_look_132 : decode cX2_look 132 = .ok (.iaload, 1) := by decide +kernel
theorem dX2_look_133 : decode cX2_look 133 = .ok (.iconst 1, 1) := by decide +kernel
theorem dX2_look_134 : decode cX2_look 134 = .ok (.iload_n 3, 1) := by decide +kernel
theorem dX2_look_135 : decode cX2_look 135 = .ok (.ishl, 1) := by decide +kernel
theorem dX2_look_136 : decode cX2_look 136 = .ok (.ior, 1) := by decide +kernel
theorem dX2_look_137 : decode cX2_look 137 = .ok (.iastore, 1) := by decide +kernel
theorem dX2_look_138 : decode cX2_look 138 = .ok (.iinc 3 1, 3) := by decide +kernel
theorem dX2_look_141 : decode cX2_look 141 = .ok (.goto (-78), 3) := by decide +kernel
theorem dX2_look_144 : decode cX2_look 144 = .ok (.return_, 1) := by decide +kernel
theorem dX2_needOf_0 : decode cX2_needOf 0 = .ok (.aload_n 0, 1) := by decide +kernel
theorem dX2_needOf_1 : decode cX2_needOf 1 = .ok (.getfield 15, 3) := by decide +kernel
theorem dX2_needOf_4 : decode cX2_needOf 4 = .ok (.iload_n 2, 1) := by decide +kernel
theorem dX2_needOf_5 : decode cX2_needOf 5 = .ok (.iaload, 1) := by decide +kernel
theorem dX2_needOf_6 : decode cX2_needOf 6 = .ok (.iconst 1, 1) := by decide +kernel
theorem dX2_needOf_7 : decode cX2_needOf 7 = .ok (.aload_n 0, 1) := by decide +kernel
theorem dX2_needOf_8 : decode cX2_needOf 8 = .ok (.getfield 9, 3) := by decide +kernel
theorem dX2_needOf_11 : decode cX2_needOf 11 = .ok (.iload_n 1, 1) := by decide +kernel
theorem dX2_needOf_12 : decode cX2_needOf 12 = .ok (.iaload, 1) := by decide +kernel
theorem dX2_needOf_13 : decode cX2_needOf 13 = .ok (.ishl, 1) := by decide +kernel
theorem dX2_needOf_14 : decode cX2_needOf 14 = .ok (.iand, 1) := by decide +kernel
theorem dX2_needOf_15 : decode cX2_needOf 15 = .ok (.ifCond .eq 5, 3) := by decide +kernel
theorem dX2_needOf_18 : decode cX2_needOf 18 = .ok (.iconst 3, 1) := by decide +kernel
theorem dX2_needOf_19 : decode cX2_needOf 19 = .ok (.ireturn, 1) := by decide +kernel
theorem dX2_needOf_20 : decode cX2_needOf 20 = .ok (.aload_n 0, 1) := by decide +kernel
theorem dX2_needOf_21 : decode cX2_needOf 21 = .ok (.getfield 15, 3) := by decide +kernel
theorem dX2_needOf_24 : decode cX2_needOf 24 = .ok (.iload_n 2, 1) := by decide +kernel
theorem dX2_needOf_25 : decode cX2_needOf 25 = .ok (.iaload, 1) := by decide +kernel
theorem dX2_needOf_26 : decode cX2_needOf 26 = .ok (.aload_n 0, 1) := by decide +kernel
theorem dX2_needOf_27 : decode cX2_needOf 27 = .ok (.getfield 18, 3) := by decide +kernel
theorem dX2_needOf_30 : decode cX2_needOf 30 = .ok (.iload_n 1, 1) := by decide +kernel
theorem dX2_needOf_31 : decode cX2_needOf 31 = .ok (.iaload, 1) := by decide +kernel
theorem dX2_needOf_32 : decode cX2_needOf 32 = .ok (.aload_n 0, 1) := by decide +kernel
theorem dX2_needOf_33 : decode cX2_needOf 33 = .ok (.getfield 15, 3) := by decide +kernel
theorem dX2_needOf_36 : decode cX2_needOf 36 = .ok (.iload_n 1, 1) := by decide +kernel
theorem dX2_needOf_37 : decode cX2_needOf 37 = .ok (.iaload, 1) := by decide +kernel
theorem dX2_needOf_38 : decode cX2_needOf 38 = .ok (.ior, 1) := by decide +kernel
theorem dX2_needOf_39 : decode cX2_needOf 39 = .ok (.iand, 1) := by decide +kernel
theorem dX2_needOf_40 : decode cX2_needOf 40 = .ok (.ifCond .eq 5, 3) := by decide +kernel
theorem dX2_needOf_43 : decode cX2_needOf 43 = .ok (.iconst 2, 1) := by decide +kernel
theorem dX2_needOf_44 : decode cX2_needOf 44 = .ok (.ireturn, 1) := by decide +kernel
theorem dX2_needOf_45 : decode cX2_needOf 45 = .ok (.aload_n 0, 1) := by decide +kernel
theorem dX2_needOf_46 : decode cX2_needOf 46 = .ok (.getfield 15, 3) := by decide +kernel
theorem dX2_needOf_49 : decode cX2_needOf 49 = .ok (.iload_n 1, 1) := by decide +kernel
theorem dX2_needOf_50 : decode cX2_needOf 50 = .ok (.iaload, 1) := by decide +kernel
theorem dX2_needOf_51 : decode cX2_needOf 51 = .ok (.aload_n 0, 1) := by decide +kernel
theorem dX2_needOf_52 : decode cX2_needOf 52 = .ok (.getfield 18, 3) := by decide +kernel
theorem dX2_needOf_55 : decode cX2_needOf 55 = .ok (.iload_n 2, 1) := by decide +kernel
theorem dX2_needOf_56 : decode cX2_needOf 56 = .ok (.iaload, 1) := by decide +kernel
theorem dX2_needOf_57 : decode cX2_needOf 57 = .ok (.iand, 1) := by decide +kernel
theorem dX2_needOf_58 : decode cX2_needOf 58 = .ok (.ifCond .eq 7, 3) := by decide +kernel
theorem dX2_needOf_61 : decode cX2_needOf 61 = .ok (.iconst 1, 1) := by decide +kernel
theorem dX2_needOf_62 : decode cX2_needOf 62 = .ok (.goto 4, 3) := by decide +kernel
theorem dX2_needOf_65 : decode cX2_needOf 65 = .ok (.iconst 0, 1) := by decide +kernel
theorem dX2_needOf_66 : decode cX2_needOf 66 = .ok (.ireturn, 1) := by decide +kernel
theorem dX2_place_0 : decode cX2_place 0 = .ok (.aload_n 0, 1) := by decide +kernel
theorem dX2_place_1 : decode cX2_place 1 = .ok (.iload_n 1, 1) := by decide +kernel
theorem dX2_place_2 : decode cX2_place 2 = .ok (.invokevirtual 96, 3) := by decide +kernel
theorem dX2_place_5 : decode cX2_place 5 = .ok (.istore_n 3, 1) := by decide +kernel
theorem dX2_place_6 : decode cX2_place 6 = .ok (.iload_n 3, 1) := by decide +kernel
theorem dX2_place_7 : decode cX2_place 7 = .ok (.aload_n 2, 1) := by decide +kernel
theorem dX2_place_8 : decode cX2_place 8 = .ok (.iconst 2, 1) := by decide +kernel
theorem dX2_place_9 : decode cX2_place 9 = .ok (.iaload, 1) := by decide +kernel
theorem dX2_place_10 : decode cX2_place 10 = .ok (.if_icmp .ge 79, 3) := by decide +kernel
theorem dX2_place_13 : decode cX2_place 13 = .ok (.aload_n 0, 1) := by decide +kernel
theorem dX2_place_14 : decode cX2_place 14 = .ok (.getfield 36, 3) := by decide +kernel
theorem dX2_place_17 : decode cX2_place 17 = .ok (.iload_n 3, 1) := by decide +kernel
theorem dX2_place_18 : decode cX2_place 18 = .ok (.iaload, 1) := by decide +kernel
theorem dX2_place_19 : decode cX2_place 19 = .ok (.invokestatic 100, 3) := by decide +kernel
theorem dX2_place_22 : decode cX2_place 22 = .ok (.aload_n 2, 1) := by decide +kernel
theorem dX2_place_23 : decode cX2_place 23 = .ok (.iconst 1, 1) := by decide +kernel
theorem dX2_place_24 : decode cX2_place 24 = .ok (.iaload, 1) := by decide +kernel
theorem dX2_place_25 : decode cX2_place 25 = .ok (.if_icmp .ge 58, 3) := by decide +kernel
theorem dX2_place_28 : decode cX2_place 28 = .ok (.aload_n 0, 1) := by decide +kernel
theorem dX2_place_29 : decode cX2_place 29 = .ok (.getfield 39, 3) := by decide +kernel
theorem dX2_place_32 : decode cX2_place 32 = .ok (.iload_n 3, 1) := by decide +kernel
theorem dX2_place_33 : decode cX2_place 33 = .ok (.iaload, 1) := by decide +kernel
theorem dX2_place_34 : decode cX2_place 34 = .ok (.aload_n 0, 1) := by decide +kernel
theorem dX2_place_35 : decode cX2_place 35 = .ok (.getfield 21, 3) := by decide +kernel
theorem dX2_place_38 : decode cX2_place 38 = .ok (.iload_n 1, 1) := by decide +kernel
theorem dX2_place_39 : decode cX2_place 39 = .ok (.iaload, 1) := by decide +kernel
theorem dX2_place_40 : decode cX2_place 40 = .ok (.iadd, 1) := by decide +kernel
theorem dX2_place_41 : decode cX2_place 41 = .ok (.aload_n 2, 1) := by decide +kernel
theorem dX2_place_42 : decode cX2_place 42 = .ok (.iconst 0, 1) := by decide +kernel
theorem dX2_place_43 : decode cX2_place 43 = .ok (.iaload, 1) := by decide +kernel
theorem dX2_place_44 : decode cX2_place 44 = .ok (.if_icmp .gt 39, 3) := by decide +kernel
theorem dX2_place_47 : decode cX2_place 47 = .ok (.aload_n 0, 1) := by decide +kernel
theorem dX2_place_48 : decode cX2_place 48 = .ok (.getfield 33, 3) := by decide +kernel
theorem dX2_place_51 : decode cX2_place 51 = .ok (.iload_n 1, 1) := by decide +kernel
theorem dX2_place_52 : decode cX2_place 52 = .ok (.iload_n 3, 1) := by decide +kernel
theorem dX2_place_53 : decode cX2_place 53 = .ok (.iastore, 1) := by decide +kernel
theorem dX2_place_54 : decode cX2_place 54 = .ok (.aload_n 0, 1) := by decide +kernel
theorem dX2_place_55 : decode cX2_place 55 = .ok (.getfield 36, 3) := by decide +kernel
theorem dX2_place_58 : decode cX2_place 58 = .ok (.iload_n 3, 1) := by decide +kernel
theorem dX2_place_59 : decode cX2_place 59 = .ok (.dup2, 1) := by decide +kernel
theorem dX2_place_60 : decode cX2_place 60 = .ok (.iaload, 1) := by decide +kernel
theorem dX2_place_61 : decode cX2_place 61 = .ok (.iconst 1, 1) := by decide +kernel
theorem dX2_place_62 : decode cX2_place 62 = .ok (.iload_n 1, 1) := by decide +kernel
theorem dX2_place_63 : decode cX2_place 63 = .ok (.ishl, 1) := by decide +kernel
theorem dX2_place_64 : decode cX2_place 64 = .ok (.ior, 1) := by decide +kernel
theorem dX2_place_65 : decode cX2_place 65 = .ok (.iastore, 1) := by decide +kernel
theorem dX2_place_66 : decode cX2_place 66 = .ok (.aload_n 0, 1) := by decide +kernel
theorem dX2_place_67 : decode cX2_place 67 = .ok (.getfield 39, 3) := by decide +kernel
theorem dX2_place_70 : decode cX2_place 70 = .ok (.iload_n 3, 1) := by decide +kernel
theorem dX2_place_71 : decode cX2_place 71 = .ok (.dup2, 1) := by decide +kernel
theorem dX2_place_72 : decode cX2_place 72 = .ok (.iaload, 1) := by decide +kernel
theorem dX2_place_73 : decode cX2_place 73 = .ok (.aload_n 0, 1) := by decide +kernel
theorem dX2_place_74 : decode cX2_place 74 = .ok (.getfield 21, 3) := by decide +kernel
theorem dX2_place_77 : decode cX2_place 77 = .ok (.iload_n 1, 1) := by decide +kernel
theorem dX2_place_78 : decode cX2_place 78 = .ok (.iaload, 1) := by decide +kernel
theorem dX2_place_79 : decode cX2_place 79 = .ok (.iadd, 1) := by decide +kernel
theorem dX2_place_80 : decode cX2_place 80 = .ok (.iastore, 1) := by decide +kernel
theorem dX2_place_81 : decode cX2_place 81 = .ok (.iconst 1, 1) := by decide +kernel
theorem dX2_place_82 : decode cX2_place 82 = .ok (.ireturn, 1) := by decide +kernel
theorem dX2_place_83 : decode cX2_place 83 = .ok (.iinc 3 1, 3) := by decide +kernel
theorem dX2_place_86 : decode cX2_place 86 = .ok (.goto (-80), 3) := by decide +kernel
theorem dX2_place_89 : decode cX2_place 89 = .ok (.iconst 0, 1) := by decide +kernel
theorem dX2_place_90 : decode cX2_place 90 = .ok (.ireturn, 1) := by decide +kernel
theorem dX2_leastStage_0 : decode cX2_leastStage 0 = .ok (.iconst 0, 1) := by decide +kernel
theorem dX2_leastStage_1 : decode cX2_leastStage 1 = .ok (.istore_n 2, 1) := by decide +kernel
theorem dX2_leastStage_2 : decode cX2_leastStage 2 = .ok (.iconst 0, 1) := by decide +kernel
theorem dX2_leastStage_3 : decode cX2_leastStage 3 = .ok (.istore_n 3, 1) := by decide +kernel
theorem dX2_leastStage_4 : decode cX2_leastStage 4 = .ok (.iload_n 3, 1) := by decide +kernel
theorem dX2_leastStage_5 : decode cX2_leastStage 5 = .ok (.iload_n 1, 1) := by decide +kernel
theorem dX2_leastStage_6 : decode cX2_leastStage 6 = .ok (.if_icmp .ge 62, 3) := by decide +kernel
theorem dX2_leastStage_9 : decode cX2_leastStage 9 = .ok (.aload_n 0, 1) := by decide +kernel
theorem dX2_leastStage_10 : decode cX2_leastStage 10 = .ok (.getfield 24, 3) := by decide +kernel
theorem dX2_leastStage_13 : decode cX2_leastStage 13 = .ok (.iload_n 1, 1) := by decide +kernel
theorem dX2_leastStage_14 : decode cX2_leastStage 14 = .ok (.iaload, 1) := by decide +kernel
theorem dX2_leastStage_15 : decode cX2_leastStage 15 = .ok (.iconst 1, 1) := by decide +kernel
theorem dX2_leastStage_16 : decode cX2_leastStage 16 = .ok (.iload_n 3, 1) := by decide +kernel
theorem dX2_leastStage_17 : decode cX2_leastStage 17 = .ok (.ishl, 1) := by decide +kernel
theorem dX2_leastStage_18 : decode cX2_leastStage 18 = .ok (.iand, 1) := by decide +kernel
theorem dX2_leastStage_19 : decode cX2_leastStage 19 = .ok (.ifCond .eq 19, 3) := by decide +kernel
theorem dX2_leastStage_22 : decode cX2_leastStage 22 = .ok (.iload_n 2, 1) := by decide +kernel
theorem dX2_leastStage_23 : decode cX2_leastStage 23 = .ok (.aload_n 0, 1) := by decide +kernel
theorem dX2_leastStage_24 : decode cX2_leastStage 24 = .ok (.getfield 33, 3) := by decide +kernel
theorem dX2_leastStage_27 : decode cX2_leastStage 27 = .ok (.iload_n 3, 1) := by decide +kernel
theorem dX2_leastStage_28 : decode cX2_leastStage 28 = .ok (.iaload, 1) := by decide +kernel
theorem dX2_leastStage_29 : decode cX2_leastStage 29 = .ok (.iconst 1, 1) := by decide +kernel
theorem dX2_leastStage_30 : decode cX2_leastStage 30 = .ok (.iadd, 1) := by decide +kernel
theorem dX2_leastStage_31 : decode cX2_leastStage 31 = .ok (.invokestatic 91, 3) := by decide +kernel
theorem dX2_leastStage_34 : decode cX2_leastStage 34 = .ok (.istore_n 2, 1) := by decide +kernel
theorem dX2_leastStage_35 : decode cX2_leastStage 35 = .ok (.goto 27, 3) := by decide +kernel
theorem dX2_leastStage_38 : decode cX2_leastStage 38 = .ok (.aload_n 0, 1) := by decide +kernel
theorem dX2_leastStage_39 : decode cX2_leastStage 39 = .ok (.getfield 27, 3) := by decide +kernel
theorem dX2_leastStage_42 : decode cX2_leastStage 42 = .ok (.iload_n 1, 1) := by decide +kernel
theorem dX2_leastStage_43 : decode cX2_leastStage 43 = .ok (.iaload, 1) := by decide +kernel
theorem dX2_leastStage_44 : decode cX2_leastStage 44 = .ok (.iconst 1, 1) := by decide +kernel
theorem dX2_leastStage_45 : decode cX2_leastStage 45 = .ok (.iload_n 3, 1) := by decide +kernel
theorem dX2_leastStage_46 : decode cX2_leastStage 46 = .ok (.ishl, 1) := by decide +kernel
theorem dX2_leastStage_47 : decode cX2_leastStage 47 = .ok (.iand, 1) := by decide +kernel
theorem dX2_leastStage_48 : decode cX2_leastStage 48 = .ok (.ifCond .eq 14, 3) := by decide +kernel
theorem dX2_leastStage_51 : decode cX2_leastStage 51 = .ok (.iload_n 2, 1) := by decide +kernel
theorem dX2_leastStage_52 : decode cX2_leastStage 52 = .ok (.aload_n 0, 1) := by decide +kernel
theorem dX2_leastStage_53 : decode cX2_leastStage 53 = .ok (.getfield 33, 3) := by decide +kernel
theorem dX2_leastStage_56 : decode cX2_leastStage 56 = .ok (.iload_n 3, 1) := by decide +kernel
theorem dX2_leastStage_57 : decode cX2_leastStage 57 = .ok (.iaload, 1) := by decide +kernel
theorem dX2_leastStage_58 : decode cX2_leastStage 58 = .ok (.invokestatic 91, 3) := by decide +kernel
theorem dX2_leastStage_61 : decode cX2_leastStage 61 = .ok (.istore_n 2, 1) := by decide +kernel
theorem dX2_leastStage_62 : decode cX2_leastStage 62 = .ok (.iinc 3 1, 3) := by decide +kernel
theorem dX2_leastStage_65 : decode cX2_leastStage 65 = .ok (.goto (-61), 3) := by decide +kernel
theorem dX2_leastStage_68 : decode cX2_leastStage 68 = .ok (.iload_n 2, 1) := by decide +kernel
theorem dX2_leastStage_69 : decode cX2_leastStage 69 = .ok (.ireturn, 1) := by decide +kernel
theorem dX2_stagesWithTables_0 : decode cX2_stagesWithTables 0 = .ok (.iconst 0, 1) := by decide +kernel
theorem dX2_stagesWithTables_1 : decode cX2_stagesWithTables 1 = .ok (.istore_n 1, 1) := by decide +kernel
theorem dX2_stagesWithTables_2 : decode cX2_stagesWithTables 2 = .ok (.iconst 0, 1) := by decide +kernel
theorem dX2_stagesWithTables_3 : decode cX2_stagesWithTables 3 = .ok (.istore_n 2, 1) := by decide +kernel
theorem dX2_stagesWithTables_4 : decode cX2_stagesWithTables 4 = .ok (.iload_n 2, 1) := by decide +kernel
theorem dX2_stagesWithTables_5 : decode cX2_stagesWithTables 5 = .ok (.bipush 8, 2) := by decide +kernel
theorem dX2_stagesWithTables_7 : decode cX2_stagesWithTables 7 = .ok (.if_icmp .ge 26, 3) := by decide +kernel
theorem dX2_stagesWithTables_10 : decode cX2_stagesWithTables 10 = .ok (.iload_n 1, 1) := by decide +kernel
theorem dX2_stagesWithTables_11 : decode cX2_stagesWithTables 11 = .ok (.aload_n 0, 1) := by decide +kernel
theorem dX2_stagesWithTables_12 : decode cX2_stagesWithTables 12 = .ok (.getfield 36, 3) := by decide +kernel
theorem dX2_stagesWithTables_15 : decode cX2_stagesWithTables 15 = .ok (.iload_n 2, 1) := by decide +kernel
theorem dX2_stagesWithTables_16 : decode cX2_stagesWithTables 16 = .ok (.iaload, 1) := by decide +kernel
theorem dX2_stagesWithTables_17 : decode cX2_stagesWithTables 17 = .ok (.ifCond .eq 7, 3) := by decide +kernel
theorem dX2_stagesWithTables_20 : decode cX2_stagesWithTables 20 = .ok (.iconst 1, 1) := by decide +kernel
theorem dX2_stagesWithTables_21 : decode cX2_stagesWithTables 21 = .ok (.goto 4, 3) := by decide +kernel
theorem dX2_stagesWithTables_24 : decode cX2_stagesWithTables 24 = .ok (.iconst 0, 1) := by decide +kernel
theorem dX2_stagesWithTables_25 : decode cX2_stagesWithTables 25 = .ok (.iadd, 1) := by decide +kernel
theorem dX2_stagesWithTables_26 : decode cX2_stagesWithTables 26 = .ok (.istore_n 1, 1) := by decide +kernel
theorem dX2_stagesWithTables_27 : decode cX2_stagesWithTables 27 = .ok (.iinc 2 1, 3) := by decide +kernel
theorem dX2_stagesWithTables_30 : decode cX2_stagesWithTables 30 = .ok (.goto (-26), 3) := by decide +kernel
theorem dX2_stagesWithTables_33 : decode cX2_stagesWithTables 33 = .ok (.iload_n 1, 1) := by decide +kernel
theorem dX2_stagesWithTables_34 : decode cX2_stagesWithTables 34 = .ok (.ireturn, 1) := by decide +kernel
end
section
/-! decode rows -/
theorem dX3_init_0 : decode cX3_init 0 = .ok (.aload_n 0, 1) := by decide +kernel
theorem dX3_init_1 : decode cX3_init 1 = .ok (.invokespecial 3, 3) := by decide +kernel
theorem dX3_init_4 : decode cX3_init 4 = .ok (.aload_n 0, 1) := by decide +kernel
theorem dX3_init_5 : decode cX3_init 5 = .ok (.bipush 8, 2) := by decide +kernel
theorem dX3_init_7 : decode cX3_init 7 = .ok (.anewarray 9, 3) := by decide +kernel
theorem dX3_init_10 : decode cX3_init 10 = .ok (.putfield 11, 3) := by decide +kernel
theorem dX3_init_13 : decode cX3_init 13 = .ok (.aload_n 0, 1) := by decide +kernel
theorem dX3_init_14 : decode cX3_init 14 = .ok (.iconst 4, 1) := by decide +kernel
theorem dX3_init_15 : decode cX3_init 15 = .ok (.newarray .int, 2) := by decide +kernel
theorem dX3_init_17 : decode cX3_init 17 = .ok (.putfield 17, 3) := by decide +kernel
theorem dX3_init_20 : decode cX3_init 20 = .ok (.aload_n 0, 1) := by decide +kernel
theorem dX3_init_21 : decode cX3_init 21 = .ok (.getstatic 21, 3) := by decide +kernel
theorem dX3_init_24 : decode cX3_init 24 = .ok (.invokevirtual 24, 3) := by decide +kernel
theorem dX3_init_27 : decode cX3_init 27 = .ok (.checkcast 25, 3) := by decide +kernel
theorem dX3_init_30 : decode cX3_init 30 = .ok (.putfield 29, 3) := by decide +kernel
theorem dX3_init_33 : decode cX3_init 33 = .ok (.aload_n 0, 1) := by decide +kernel
theorem dX3_init_34 : decode cX3_init 34 = .ok (.bipush 6, 2) := by decide +kernel
theorem dX3_init_36 : decode cX3_init 36 = .ok (.newarray .int, 2) := by decide +kernel
theorem dX3_init_38 : decode cX3_init 38 = .ok (.putfield 32, 3) := by decide +kernel
theorem dX3_init_41 : decode cX3_init 41 = .ok (.iconst 0, 1) := by decide +kernel
theorem dX3_init_42 : decode cX3_init 42 = .ok (.istore_n 1, 1) := by decide +kernel
theorem dX3_init_43 : decode cX3_init 43 = .ok (.iload_n 1, 1) := by decide +kernel
theorem dX3_init_44 : decode cX3_init 44 = .ok (.bipush 8, 2) := by decide +kernel
theorem dX3_init_46 : decode cX3_init 46 = .ok (.if_icmp .ge 22, 3) := by decide +kernel
theorem dX3_init_49 : decode cX3_init 49 = .ok (.aload_n 0, 1) := by decide +kernel
theorem dX3_init_50 : decode cX3_init 50 = .ok (.getfield 11, 3) := by decide +kernel
theorem dX3_init_53 : decode cX3_init 53 = .ok (.iload_n 1, 1) := by decide +kernel
theorem dX3_init_54 : decode cX3_init 54 = .ok (.new 9, 3) := by decide +kernel
theorem dX3_init_57 : decode cX3_init 57 = .ok (.dup, 1) := by decide +kernel
theorem dX3_init_58 : decode cX3_init 58 = .ok (.invokespecial 35, 3) := by decide +kernel
theorem dX3_init_61 : decode cX3_init 61 = .ok (.aastore, 1) := by decide +kernel
theorem dX3_init_62 : decode cX3_init 62 = .ok (.iinc 1 1, 3) := by decide +kernel
theorem dX3_init_65 : decode cX3_init 65 = .ok (.goto (-22), 3) := by decide +kernel
theorem dX3_init_68 : decode cX3_init 68 = .ok (.return_, 1) := by decide +kernel
theorem dX3_copy_0 : decode cX3_copy 0 = .ok (.aload_n 0, 1) := by decide +kernel
theorem dX3_copy_1 : decode cX3_copy 1 = .ok (.aload_n 1, 1) := by decide +kernel
theorem dX3_copy_2 : decode cX3_copy 2 = .ok (.getfield 36, 3) := by decide +kernel
theorem dX3_copy_5 : decode cX3_copy 5 = .ok (.putfield 36, 3) := by decide +kernel
theorem dX3_copy_8 : decode cX3_copy 8 = .ok (.iconst 0, 1) := by decide +kernel
theorem dX3_copy_9 : decode cX3_copy 9 = .ok (.istore_n 2, 1) := by decide +kernel
theorem dX3_copy_10 : decode cX3_copy 10 = .ok (.iload_n 2, 1) := by decide +kernel
theorem dX3_copy_11 : decode cX3_copy 11 = .ok (.aload_n 0, 1) := by decide +kernel
theorem dX3_copy_12 : decode cX3_copy 12 = .ok (.getfield 36, 3) := by decide +kernel
theorem dX3_copy_15 : decode cX3_copy 15 = .ok (.if_icmp .ge 24, 3) := by decide +kernel
theorem dX3_copy_18 : decode cX3_copy 18 = .ok (.aload_n 0, 1) := by decide +kernel
theorem dX3_copy_19 : decode cX3_copy 19 = .ok (.getfield 11, 3) := by decide +kernel
theorem dX3_copy_22 : decode cX3_copy 22 = .ok (.iload_n 2, 1) := by decide +kernel
theorem dX3_copy_23 : decode cX3_copy 23 = .ok (.aaload, 1) := by decide +kernel
theorem dX3_copy_24 : decode cX3_copy 24 = .ok (.aload_n 1, 1) := by decide +kernel
theorem dX3_copy_25 : decode cX3_copy 25 = .ok (.getfield 11, 3) := by decide +kernel
theorem dX3_copy_28 : decode cX3_copy 28 = .ok (.iload_n 2, 1) := by decide +kernel
theorem dX3_copy_29 : decode cX3_copy 29 = .ok (.aaload, 1) := by decide +kernel
theorem dX3_copy_30 : decode cX3_copy 30 = .ok (.invokevirtual 40, 3) := by decide +kernel
theorem dX3_copy_33 : decode cX3_copy 33 = .ok (.iinc 2 1, 3) := by decide +kernel
theorem dX3_copy_36 : decode cX3_copy 36 = .ok (.goto (-26), 3) := by decide +kernel
theorem dX3_copy_39 : decode cX3_copy 39 = .ok (.aload_n 1, 1) := by decide +kernel
theorem dX3_copy_40 : decode cX3_copy 40 = .ok (.getfield 17, 3) := by decide +kernel
theorem dX3_copy_43 : decode cX3_copy 43 = .ok (.iconst 0, 1) := by decide +kernel
theorem dX3_copy_44 : decode cX3_copy 44 = .ok (.aload_n 0, 1) := by decide +kernel
theorem dX3_copy_45 : decode cX3_copy 45 = .ok (.getfield 17, 3) := by decide +kernel
theorem dX3_copy_48 : decode cX3_copy 48 = .ok (.iconst 0, 1) := by decide +kernel
theorem dX3_copy_49 : decode cX3_copy 49 = .ok (.iconst 4, 1) := by decide +kernel
theorem dX3_copy_50 : decode cX3_copy 50 = .ok (.invokestatic 44, 3) := by decide +kernel
theorem dX3_copy_53 : decode cX3_copy 53 = .ok (.aload_n 1, 1) := by decide +kernel
theorem dX3_copy_54 : decode cX3_copy 54 = .ok (.getfield 29, 3) := by decide +kernel
theorem dX3_copy_57 : decode cX3_copy 57 = .ok (.iconst 0, 1) := by decide +kernel
theorem dX3_copy_58 : decode cX3_copy 58 = .ok (.aload_n 0, 1) := by decide +kernel
theorem dX3_copy_59 : decode cX3_copy 59 = .ok (.getfield 29, 3) := by decide +kernel
theorem dX3_copy_62 : decode cX3_copy 62 = .ok (.iconst 0, 1) := by decide +kernel
theorem dX3_copy_63 : decode cX3_copy 63 = .ok (.aload_n 0, 1) := by decide +kernel
theorem dX3_copy_64 : decode cX3_copy 64 = .ok (.getfield 29, 3) := by decide +kernel
theorem dX3_copy_67 : decode cX3_copy 67 = .ok (.arraylength, 1) := by decide +kernel
theorem dX3_copy_68 : decode cX3_copy 68 = .ok (.invokestatic 44, 3) := by decide +kernel
theorem dX3_copy_71 : decode cX3_copy 71 = .ok (.aload_n 1, 1) := by decide +kernel
theorem dX3_copy_72 : decode cX3_copy 72 = .ok (.getfield 32, 3) := by decide +kernel
theorem dX3_copy_75 : decode cX3_copy 75 = .ok (.iconst 0, 1) := by decide +kernel
theorem dX3_copy_76 : decode cX3_copy 76 = .ok (.aload_n 0, 1) := by decide +kernel
theorem dX3_copy_77 : decode cX3_copy 77 = .ok (.getfield 32, 3) := by decide +kernel
theorem dX3_copy_80 : decode cX3_copy 80 = .ok (.iconst 0, 1) := by decide +kernel
theorem dX3_copy_81 : decode cX3_copy 81 = .ok (.bipush 6, 2) := by decide +kernel
theorem dX3_copy_83 : decode cX3_copy 83 = .ok (.invokestatic 44, 3) := by decide +kernel
theorem dX3_copy_86 : decode cX3_copy 86 = .ok (.return_, 1) := by decide +kernel
theorem dX3_hasTable_0 : decode cX3_hasTable 0 = .ok (.iload_n 1, 1) := by decide +kernel
theorem dX3_hasTable_1 : decode cX3_hasTable 1 = .ok (.aload_n 0, 1) := by decide +kernel
theorem dX3_hasTable_2 : decode cX3_hasTable 2 = .ok (.getfield 36, 3) := by decide +kernel
theorem dX3_hasTable_5 : decode cX3_hasTable 5 = .ok (.invokestatic 50, 3) := by decide +kernel
theorem dX3_hasTable_8 : decode cX3_hasTable 8 = .ok (.ireturn, 1) := by decide +kernel
theorem dX3_addTable_0 : decode cX3_addTable 0 = .ok (.aload_n 0, 1) := by decide +kernel
theorem dX3_addTable_1 : decode cX3_addTable 1 = .ok (.getfield 11, 3) := by decide +kernel
theorem dX3_addTable_4 : decode cX3_addTable 4 = .ok (.aload_n 0, 1) := by decide +kernel
theorem dX3_addTable_5 : decode cX3_addTable 5 = .ok (.getfield 36, 3) := by decide +kernel
theorem dX3_addTable_8 : decode cX3_addTable 8 = .ok (.aaload, 1) := by decide +kernel
theorem dX3_addTable_9 : decode cX3_addTable 9 = .ok (.iload_n 1, 1) := by decide +kernel
theorem dX3_addTable_10 : decode cX3_addTable 10 = .ok (.invokevirtual 54, 3) := by decide +kernel
theorem dX3_addTable_13 : decode cX3_addTable 13 = .ok (.aload_n 0, 1) := by decide +kernel
theorem dX3_addTable_14 : decode cX3_addTable 14 = .ok (.dup, 1) := by decide +kernel
theorem dX3_addTable_15 : decode cX3_addTable 15 = .ok (.getfield 36, 3) := by decide +kernel
theorem dX3_addTable_18 : decode cX3_addTable 18 = .ok (.iconst 1, 1) := by decide +kernel
theorem dX3_addTable_19 : decode cX3_addTable 19 = .ok (.iadd, 1) := by decide +kernel
theorem dX3_addTable_20 : decode cX3_addTable 20 = .ok (.putfield 36, 3) := by decide +kernel
theorem dX3_addTable_23 : decode cX3_addTable 23 = .ok (.aload_n 0, 1) := by decide +kernel
theorem dX3_addTable_24 : decode cX3_addTable 24 = .ok (.getfield 36, 3) := by decide +kernel
theorem dX3_addTable_27 : decode cX3_addTable 27 = .ok (.iconst 1, 1) := by decide +kernel
theorem dX3_addTable_28 : decode cX3_addTable 28 = .ok (.isub, 1) := by decide +kernel
theorem dX3_addTable_29 : decode cX3_addTable 29 = .ok (.ireturn, 1) := by decide +kernel
theorem dX3_removeTable_0 : decode cX3_removeTable 0 = .ok (.aload_n 0, 1) := by decide +kernel
theorem dX3_removeTable_1 : decode cX3_removeTable 1 = .ok (.getfield 11, 3) := by decide +kernel
theorem dX3_removeTable_4 : decode cX3_removeTable 4 = .ok (.iload_n 1, 1) := by decide +kernel
theorem dX3_removeTable_5 : decode cX3_removeTable 5 = .ok (.aaload, 1) := by decide +kernel
theorem dX3_removeTable_6 : decode cX3_removeTable 6 = .ok (.astore_n 2, 1) := by decide +kernel
theorem dX3_removeTable_7 : decode cX3_removeTable 7 = .ok (.iload_n 1, 1) := by decide +kernel
theorem dX3_removeTable_8 : decode cX3_removeTable 8 = .ok (.istore_n 3, 1) := by decide +kernel
theorem dX3_removeTable_9 : decode cX3_removeTable 9 = .ok (.iload_n 3, 1) := by decide +kernel
theorem dX3_removeTable_10 : decode cX3_removeTable 10 = .ok (.iconst 1, 1) := by decide +kernel
theorem dX3_removeTable_11 : decode cX3_removeTable 11 = .ok (.iadd, 1) := by decide +kernel
theorem dX3_removeTable_12 : decode cX3_removeTable 12 = .ok (.aload_n 0, 1) := by decide +kernel
theorem dX3_removeTable_13 : decode cX3_removeTable 13 = .ok (.getfield 36, 3) := by decide +kernel
theorem dX3_removeTable_16 : decode cX3_removeTable 16 = .ok (.if_icmp .ge 23, 3) := by decide +kernel
theorem dX3_removeTable_19 : decode cX3_removeTable 19 = .ok (.aload_n 0, 1) := by decide +kernel
theorem dX3_removeTable_20 : decode cX3_removeTable 20 = .ok (.getfield 11, 3) := by decide +kernel
theorem dX3_removeTable_23 : decode cX3_removeTable 23 = .ok (.iload_n 3, 1) := by decide +kernel
theorem dX3_removeTable_24 : decode cX3_removeTable 24 = .ok (.aload_n 0, 1) := by decide +kernel
theorem dX3_removeTable_25 : decode cX3_removeTable 25 = .ok (.getfield 11, 3) := by decide +kernel
theorem dX3_removeTable_28 : decode cX3_removeTable 28 = .ok (.iload_n 3, 1) := by decide +kernel
theorem dX3_removeTable_29 : decode cX3_removeTable 29 = .ok (.iconst 1, 1) := by decide +kernel
theorem dX3_removeTable_30 : decode cX3_removeTable 30 = .ok (.iadd, 1) := by decide +kernel
theorem dX3_removeTable_31 : decode cX3_removeTable 31 = .ok (.aaload, 1) := by decide +kernel
theorem dX3_removeTable_32 : decode cX3_removeTable 32 = .ok (.aastore, 1) := by decide +kernel
theorem dX3_removeTable_33 : decode cX3_removeTable 33 = .ok (.iinc 3 1, 3) := by decide +kernel
theorem dX3_removeTable_36 : decode cX3_removeTable 36 = .ok (.goto (-27), 3) := by decide +kernel
theorem dX3_removeTable_39 : decode cX3_removeTable 39 = .ok (.aload_n 0, 1) := by decide +kernel
theorem dX3_removeTable_40 : decode cX3_removeTable 40 = .ok (.dup, 1) := by decide +kernel
theorem dX3_removeTable_41 : decode cX3_removeTable 41 = .ok (.getfield 36, 3) := by decide +kernel
theorem dX3_removeTable_44 : decode cX3_removeTable 44 = .ok (.iconst 1, 1) := by decide +kernel
theorem dX3_removeTable_45 : decode cX3_removeTable 45 = .ok (.isub, 1) := by decide +kernel
theorem dX3_removeTable_46 : decode cX3_removeTable 46 = .ok (.putfield 36, 3) := by decide +kernel
theorem dX3_removeTable_49 : decode cX3_removeTable 49 = .ok (.aload_n 0, 1) := by decide +kernel
theorem dX3_removeTable_50 : decode cX3_removeTable 50 = .ok (.getfield 11, 3) := by decide +kernel
theorem dX3_removeTable_53 : decode cX3_removeTable 53 = .ok (.aload_n 0, 1) := by decide +kernel
theorem dX3_removeTable_54 : decode cX3_removeTable 54 = .ok (.getfield 36, 3) := by decide +kernel
theorem dX3_removeTable_57 : decode cX3_removeTable 57 = .ok (.aload_n 2, 1) := by decide +kernel
theorem dX3_removeTable_58 : decode cX3_removeTable 58 = .ok (.aastore, 1) := by decide +kernel
theorem dX3_removeTable_59 : decode cX3_removeTable 59 = .ok (.aload_n 0, 1) := by decide +kernel
theorem dX3_removeTable_60 : decode cX3_removeTable 60 = .ok (.getfield 36, 3) := by decide +kernel
theorem dX3_removeTable_63 : decode cX3_removeTable 63 = .ok (.ireturn, 1) := by decide +kernel
theorem dX3_isTakenElsewhere_0 : decode cX3_isTakenElsewhere 0 = .ok (.iload_n 2, 1) := by decide +kernel
theorem dX3_isTakenElsewhere_1 : decode cX3_isTakenElsewhere 1 = .ok (.invokestatic 58, 3) := by decide +kernel
theorem dX3_isTakenElsewhere_4 : decode cX3_isTakenElsewhere 4 = .ok (.ifCond .ne 5, 3) := by decide +kernel
theorem dX3_isTakenElsewhere_7 : decode cX3_isTakenElsewhere 7 = .ok (.iconst 0, 1) := by decide +kernel
theorem dX3_isTakenElsewhere_8 : decode cX3_isTakenElsewhere 8 = .ok (.ireturn, 1) := by decide +kernel
theorem dX3_isTakenElsewhere_9 : decode cX3_isTakenElsewhere 9 = .ok (.iconst 0, 1) := by decide +kernel
theorem dX3_isTakenElsewhere_10 : decode cX3_isTakenElsewhere 10 = .ok (.istore 4, 2) := by decide +kernel
theorem dX3_isTakenElsewhere_12 : decode cX3_isTakenElsewhere 12 = .ok (.iconst 0, 1) := by decide +kernel
theorem dX3_isTakenElsewhere_13 : decode cX3_isTakenElsewhere 13 = .ok (.istore 5, 2) := by decide +kernel
theorem dX3_isTakenElsewhere_15 : decode cX3_isTakenElsewhere 15 = .ok (.iload 5, 2) := by decide +kernel
theorem dX3_isTakenElsewhere_17 : decode cX3_isTakenElsewhere 17 = .ok (.aload_n 0, 1) := by decide +kernel
theorem dX3_isTakenElsewhere_18 : decode cX3_isTakenElsewhere 18 = .ok (.getfield 36, 3) := by decide +kernel
theorem dX3_isTakenElsewhere_21 : decode cX3_isTakenElsewhere 21 = .ok (.if_icmp .ge 34, 3) := by decide +kernel
theorem dX3_isTakenElsewhere_24 : decode cX3_isTakenElsewhere 24 = .ok (.iload 4, 2) := by decide +kernel
theorem dX3_isTakenElsewhere_26 : decode cX3_isTakenElsewhere 26 = .ok (.iload 5, 2) := by decide +kernel
theorem dX3_isTakenElsewhere_28 : decode cX3_isTakenElsewhere 28 = .ok (.iload_n 1, 1) := by decide +kernel
theorem dX3_isTakenElsewhere_29 : decode cX3_isTakenElsewhere 29 = .ok (.if_icmp .ne 7, 3) := by decide +kernel
theorem dX3_isTakenElsewhere_32 : decode cX3_isTakenElsewhere 32 = .ok (.iconst 0, 1) := by decide +kernel
theorem dX3_isTakenElsewhere_33 : decode cX3_isTakenElsewhere 33 = .ok (.goto 13, 3) := by decide +kernel
theorem dX3_isTakenElsewhere_36 : decode cX3_isTakenElsewhere 36 = .ok (.aload_n 0, 1) := by decide +kernel
theorem dX3_isTakenElsewhere_37 : decode cX3_isTakenElsewhere 37 = .ok (.getfield 11, 3) := by decide +kernel
theorem dX3_isTakenElsewhere_40 : decode cX3_isTakenElsewhere 40 = .ok (.iload 5, 2) := by decide +kernel
theorem dX3_isTakenElsewhere_42 : decode cX3_isTakenElsewhere 42 = .ok (.aaload, 1) := by decide +kernel
theorem dX3_isTakenElsewhere_43 : decode cX3_isTakenElsewhere 43 = .ok (.invokevirtual 62, 3) := by decide +kernel
theorem dX3_isTakenElsewhere_46 : decode cX3_isTakenElsewhere 46 = .ok (.ior, 1) := by decide +kernel
theorem dX3_isTakenElsewhere_47 : decode cX3_isTakenElsewhere 47 = .ok (.istore 4, 2) := by decide +kernel
theorem dX3_isTakenElsewhere_49 : decode cX3_isTakenElsewhere 49 = .ok (.iinc 5 1, 3) := by decide +kernel
theorem dX3_isTakenElsewhere_52 : decode cX3_isTakenElsewhere 52 = .ok (.goto (-37), 3) := by decide +kernel
theorem dX3_isTakenElsewhere_55 : decode cX3_isTakenElsewhere 55 = .ok (.iload 4, 2) := by decide +kernel
theorem dX3_isTakenElsewhere_57 : decode cX3_isTakenElsewhere 57 = .ok (.iconst 1, 1) := by decide +kernel
theorem dX3_isTakenElsewhere_58 : decode cX3_isTakenElsewhere 58 = .ok (.iload_n 3, 1) := by decide +kernel
theorem dX3_isTakenElsewhere_59 : decode cX3_isTakenElsewhere 59 = .ok (.ishl, 1) := by decide +kernel
theorem dX3_isTakenElsewhere_60 : decode cX3_isTakenElsewhere 60 = .ok (.iand, 1) := by decide +kernel
theorem dX3_isTakenElsewhere_61 : decode cX3_isTakenElsewhere 61 = .ok (.ifCond .eq 7, 3) := by decide +kernel
theorem dX3_isTakenElsewhere_64 : decode cX3_isTakenElsewhere 64 = .ok (.iconst 1, 1) := by decide +kernel
theorem dX3_isTakenElsewhere_65 : decode cX3_isTakenElsewhere 65 = .ok (.goto 4, 3) := by decide +kernel
theorem dX3_isTakenElsewhere_68 : decode cX3_isTakenElsewhere 68 = .ok (.iconst 0, 1) := by decide +kernel
theorem dX3_isTakenElsewhere_69 : decode cX3_isTakenElsewhere 69 = .ok (.ireturn, 1) := by decide +kernel
theorem dX4_init_0 : decode cX4_init 0 = .ok (.aload_n 0, 1) := by decide +kernel
theorem dX4_init_1 : decode cX4_init 1 = .ok (.invokespecial 3, 3) := by decide +kernel
theorem dX4_init_4 : decode cX4_init 4 = .ok (.aload_n 0, 1) := by decide +kernel
theorem dX4_init_5 : decode cX4_init 5 = .ok (.sipush 256, 3) := by decide +kernel
theorem dX4_init_8 : decode cX4_init 8 = .ok (.newarray .int, 2) := by decide +kernel
theorem dX4_init_10 : decode cX4_init 10 = .ok (.putfield 9, 3) := by decide +kernel
theorem dX4_init_13 : decode cX4_init 13 = .ok (.aload_n 0, 1) := by decide +kernel
theorem dX4_init_14 : decode cX4_init 14 = .ok (.sipush 256, 3) := by decide +kernel
theorem dX4_init_17 : decode cX4_init 17 = .ok (.newarray .int, 2) := by decide +kernel
theorem dX4_init_19 : decode cX4_init 19 = .ok (.putfield 15, 3) := by decide +kernel
theorem dX4_init_22 : decode cX4_init 22 = .ok (.aload_n 0, 1) := by decide +kernel
theorem dX4_init_23 : decode cX4_init 23 = .ok (.sipush 256, 3) := by decide +kernel
theorem dX4_init_26 : decode cX4_init 26 = .ok (.newarray .int, 2) := by decide +kernel
theorem dX4_init_28 : decode cX4_init 28 = .ok (.putfield 18, 3) := by decide +kernel
theorem dX4_init_31 : decode cX4_init 31 = .ok (.return_, 1) := by decide +kernel
theorem dX4_fewestStages_0 : decode cX4_fewestStages 0 = .ok (.iconst 1, 1) := by decide +kernel
theorem dX4_fewestStages_1 : decode cX4_fewestStages 1 = .ok (.aload_n 2, 1) := by decide +kernel
theorem dX4_fewestStages_2 : decode cX4_fewestStages 2 = .ok (.getfield 21, 3) := by decide +kernel
theorem dX4_fewestStages_5 : decode cX4_fewestStages 5 = .ok (.ishl, 1) := by decide +kernel
theorem dX4_fewestStages_6 : decode cX4_fewestStages 6 = .ok (.iconst 1, 1) := by decide +kernel
theorem dX4_fewestStages_7 : decode cX4_fewestStages 7 = .ok (.isub, 1) := by decide +kernel
theorem dX4_fewestStages_8 : decode cX4_fewestStages 8 = .ok (.istore_n 3, 1) := by decide +kernel
theorem dX4_fewestStages_9 : decode cX4_fewestStages 9 = .ok (.aload_n 0, 1) := by decide +kernel
theorem dX4_fewestStages_10 : decode cX4_fewestStages 10 = .ok (.aload_n 1, 1) := by decide +kernel
theorem dX4_fewestStages_11 : decode cX4_fewestStages 11 = .ok (.aload_n 2, 1) := by decide +kernel
theorem dX4_fewestStages_12 : decode cX4_fewestStages 12 = .ok (.getfield 21, 3) := by decide +kernel
theorem dX4_fewestStages_15 : decode cX4_fewestStages 15 = .ok (.invokevirtual 27, 3) := by decide +kernel
theorem dX4_fewestStages_18 : decode cX4_fewestStages 18 = .ok (.aload_n 0, 1) := by decide +kernel
theorem dX4_fewestStages_19 : decode cX4_fewestStages 19 = .ok (.getfield 9, 3) := by decide +kernel
theorem dX4_fewestStages_22 : decode cX4_fewestStages 22 = .ok (.bipush 99, 2) := by decide +kernel
theorem dX4_fewestStages_24 : decode cX4_fewestStages 24 = .ok (.invokestatic 31, 3) := by decide +kernel
theorem dX4_fewestStages_27 : decode cX4_fewestStages 27 = .ok (.aload_n 0, 1) := by decide +kernel
theorem dX4_fewestStages_28 : decode cX4_fewestStages 28 = .ok (.getfield 9, 3) := by decide +kernel
theorem dX4_fewestStages_31 : decode cX4_fewestStages 31 = .ok (.iconst 0, 1) := by decide +kernel
theorem dX4_fewestStages_32 : decode cX4_fewestStages 32 = .ok (.iconst 0, 1) := by decide +kernel
theorem dX4_fewestStages_33 : decode cX4_fewestStages 33 = .ok (.iastore, 1) := by decide +kernel
theorem dX4_fewestStages_34 : decode cX4_fewestStages 34 = .ok (.iconst 0, 1) := by decide +kernel
theorem dX4_fewestStages_35 : decode cX4_fewestStages 35 = .ok (.istore 4, 2) := by decide +kernel
theorem dX4_fewestStages_37 : decode cX4_fewestStages 37 = .ok (.iload 4, 2) := by decide +kernel
theorem dX4_fewestStages_39 : decode cX4_fewestStages 39 = .ok (.iload_n 3, 1) := by decide +kernel
theorem dX4_fewestStages_40 : decode cX4_fewestStages 40 = .ok (.if_icmp .ge 42, 3) := by decide +kernel
theorem dX4_fewestStages_43 : decode cX4_fewestStages 43 = .ok (.aload_n 0, 1) := by decide +kernel
theorem dX4_fewestStages_44 : decode cX4_fewestStages 44 = .ok (.getfield 9, 3) := by decide +kernel
theorem dX4_fewestStages_47 : decode cX4_fewestStages 47 = .ok (.iload 4, 2) := by decide +kernel
theorem dX4_fewestStages_49 : decode cX4_fewestStages 49 = .ok (.iaload, 1) := by decide +kernel
theorem dX4_fewestStages_50 : decode cX4_fewestStages 50 = .ok (.bipush 99, 2) := by decide +kernel
theorem dX4_fewestStages_52 : decode cX4_fewestStages 52 = .ok (.if_icmp .eq 24, 3) := by decide +kernel
theorem dX4_fewestStages_55 : decode cX4_fewestStages 55 = .ok (.aload_n 0, 1) := by decide +kernel
theorem dX4_fewestStages_56 : decode cX4_fewestStages 56 = .ok (.iload 4, 2) := by decide +kernel
theorem dX4_fewestStages_58 : decode cX4_fewestStages 58 = .ok (.aload_n 0, 1) := by decide +kernel
theorem dX4_fewestStages_59 : decode cX4_fewestStages 59 = .ok (.iload 4, 2) := by decide +kernel
theorem dX4_fewestStages_61 : decode cX4_fewestStages 61 = .ok (.aload_n 1, 1) := by decide +kernel
theorem dX4_fewestStages_62 : decode cX4_fewestStages 62 = .ok (.aload_n 2, 1) := by decide +kernel
theorem dX4_fewestStages_63 : decode cX4_fewestStages 63 = .ok (.getfield 21, 3) := by decide +kernel
theorem dX4_fewestStages_66 : decode cX4_fewestStages 66 = .ok (.invokevirtual 37, 3) := by decide +kernel
theorem dX4_fewestStages_69 : decode cX4_fewestStages 69 = .ok (.aload_n 2, 1) := by decide +kernel
theorem dX4_fewestStages_70 : decode cX4_fewestStages 70 = .ok (.getfield 41, 3) := by decide +kernel
theorem dX4_fewestStages_73 : decode cX4_fewestStages 73 = .ok (.invokevirtual 44, 3) := by decide +kernel
theorem dX4_fewestStages_76 : decode cX4_fewestStages 76 = .ok (.iinc 4 1, 3) := by decide +kernel
theorem dX4_fewestStages_79 : decode cX4_fewestStages 79 = .ok (.goto (-42), 3) := by decide +kernel
theorem dX4_fewestStages_82 : decode cX4_fewestStages 82 = .ok (.aload_n 0, 1) := by decide +kernel
theorem dX4_fewestStages_83 : decode cX4_fewestStages 83 = .ok (.getfield 9, 3) := by decide +kernel
theorem dX4_fewestStages_86 : decode cX4_fewestStages 86 = .ok (.iload_n 3, 1) := by decide +kernel
theorem dX4_fewestStages_87 : decode cX4_fewestStages 87 = .ok (.iaload, 1) := by decide +kernel
theorem dX4_fewestStages_88 : decode cX4_fewestStages 88 = .ok (.ireturn, 1) := by decide +kernel
theorem dX4_measure_0 : decode cX4_measure 0 = .ok (.iconst 0, 1) := by decide +kernel
theorem dX4_measure_1 : decode cX4_measure 1 = .ok (.istore_n 3, 1) := by decide +kernel
theorem dX4_measure_2 : decode cX4_measure 2 = .ok (.iload_n 3, 1) := by decide +kernel
theorem dX4_measure_3 : decode cX4_measure 3 = .ok (.iload_n 2, 1) := by decide +kernel
theorem dX4_measure_4 : decode cX4_measure 4 = .ok (.if_icmp .ge 78, 3) := by decide +kernel
theorem dX4_measure_7 : decode cX4_measure 7 = .ok (.iconst 1, 1) := by decide +kernel
theorem dX4_measure_8 : decode cX4_measure 8 = .ok (.iload_n 3, 1) := by decide +kernel
theorem dX4_measure_9 : decode cX4_measure 9 = .ok (.ishl, 1) := by decide +kernel
theorem dX4_measure_10 : decode cX4_measure 10 = .ok (.istore 4, 2) := by decide +kernel
theorem dX4_measure_12 : decode cX4_measure 12 = .ok (.iload 4, 2) := by decide +kernel
theorem dX4_measure_14 : decode cX4_measure 14 = .ok (.iconst 2, 1) := by decide +kernel
theorem dX4_measure_15 : decode cX4_measure 15 = .ok (.iload_n 3, 1) := by decide +kernel
theorem dX4_measure_16 : decode cX4_measure 16 = .ok (.ishl, 1) := by decide +kernel
theorem dX4_measure_17 : decode cX4_measure 17 = .ok (.if_icmp .ge 59, 3) := by decide +kernel
theorem dX4_measure_20 : decode cX4_measure 20 = .ok (.iload 4, 2) := by decide +kernel
theorem dX4_measure_22 : decode cX4_measure 22 = .ok (.iconst 1, 1) := by decide +kernel
theorem dX4_measure_23 : decode cX4_measure 23 = .ok (.iload_n 3, 1) := by decide +kernel
theorem dX4_measure_24 : decode cX4_measure 24 = .ok (.ishl, 1) := by decide +kernel
theorem dX4_measure_25 : decode cX4_measure 25 = .ok (.ixor, 1) := by decide +kernel
theorem dX4_measure_26 : decode cX4_measure 26 = .ok (.istore 5, 2) := by decide +kernel
theorem dX4_measure_28 : decode cX4_measure 28 = .ok (.aload_n 0, 1) := by decide +kernel
theorem dX4_measure_29 : decode cX4_measure 29 = .ok (.getfield 15, 3) := by decide +kernel
theorem dX4_measure_32 : decode cX4_measure 32 = .ok (.iload 4, 2) := by decide +kernel
theorem dX4_measure_34 : decode cX4_measure 34 = .ok (.aload_n 0, 1) := by decide +kernel
theorem dX4_measure_35 : decode cX4_measure 35 = .ok (.getfield 15, 3) := by decide +kernel
theorem dX4_measure_38 : decode cX4_measure 38 = .ok (.iload 5, 2) := by decide +kernel
theorem dX4_measure_40 : decode cX4_measure 40 = .ok (.iaload, 1) := by decide +kernel
theorem dX4_measure_41 : decode cX4_measure 41 = .ok (.aload_n 1, 1) := by decide +kernel
theorem dX4_measure_42 : decode cX4_measure 42 = .ok (.getfield 48, 3) := by decide +kernel
theorem dX4_measure_45 : decode cX4_measure 45 = .ok (.iload_n 3, 1) := by decide +kernel
theorem dX4_measure_46 : decode cX4_measure 46 = .ok (.iaload, 1) := by decide +kernel
theorem dX4_measure_47 : decode cX4_measure 47 = .ok (.iadd, 1) := by decide +kernel
theorem dX4_measure_48 : decode cX4_measure 48 = .ok (.iastore, 1) := by decide +kernel
theorem dX4_measure_49 : decode cX4_measure 49 = .ok (.aload_n 0, 1) := by decide +kernel
theorem dX4_measure_50 : decode cX4_measure 50 = .ok (.getfield 18, 3) := by decide +kernel
theorem dX4_measure_53 : decode cX4_measure 53 = .ok (.iload 4, 2) := by decide +kernel
theorem dX4_measure_55 : decode cX4_measure 55 = .ok (.aload_n 0, 1) := by decide +kernel
theorem dX4_measure_56 : decode cX4_measure 56 = .ok (.getfield 18, 3) := by decide +kernel
theorem dX4_measure_59 : decode cX4_measure 59 = .ok (.iload 5, 2) := by decide +kernel
theorem dX4_measure_61 : decode cX4_measure 61 = .ok (.iaload, 1) := by decide +kernel
theorem dX4_measure_62 : decode cX4_measure 62 = .ok (.aload_n 1, 1) := by decide +kernel
theorem dX4_measure_63 : decode cX4_measure 63 = .ok (.getfield 51, 3) := by decide +kernel
theorem dX4_measure_66 : decode cX4_measure 66 = .ok (.iload_n 3, 1) := by decide +kernel
theorem dX4_measure_67 : decode cX4_measure 67 = .ok (.iaload, 1) := by decide +kernel
theorem dX4_measure_68 : decode cX4_measure 68 = .ok (.ior, 1) := by decide +kernel
theorem dX4_measure_69 : decode cX4_measure 69 = .ok (.iastore, 1) := by decide +kernel
theorem dX4_measure_70 : decode cX4_measure 70 = .ok (.iinc 4 1, 3) := by decide +kernel
theorem dX4_measure_73 : decode cX4_measure 73 = .ok (.goto (-61), 3) := by decide +kernel
theorem dX4_measure_76 : decode cX4_measure 76 = .ok (.iinc 3 1, 3) := by decide +kernel
theorem dX4_measure_79 : decode cX4_measure 79 = .ok (.goto (-77), 3) := by decide +kernel
theorem dX4_measure_82 : decode cX4_measure 82 = .ok (.return_, 1) := by decide +kernel
theorem dX4_ready_0 : decode cX4_ready 0 = .ok (.iconst 0, 1) := by decide +kernel
theorem dX4_ready_1 : decode cX4_ready 1 = .ok (.istore 4, 2) := by decide +kernel
theorem dX4_ready_3 : decode cX4_ready 3 = .ok (.iconst 0, 1) := by decide +kernel
theorem dX4_ready_4 : decode cX4_ready 4 = .ok (.istore 5, 2) := by decide +kernel
theorem dX4_ready_6 : decode cX4_ready 6 = .ok (.iload 5, 2) := by decide +kernel
theorem dX4_ready_8 : decode cX4_ready 8 = .ok (.iload_n 3, 1) := by decide +kernel
theorem dX4_ready_9 : decode cX4_ready 9 = .ok (.if_icmp .ge 41, 3) := by decide +kernel
theorem dX4_ready_12 : decode cX4_ready 12 = .ok (.iload_n 1, 1) := by decide +kernel
theorem dX4_ready_13 : decode cX4_ready 13 = .ok (.iconst 1, 1) := by decide +kernel
theorem dX4_ready_14 : decode cX4_ready 14 = .ok (.iload 5, 2) := by decide +kernel
theorem dX4_ready_16 : decode cX4_ready 16 = .ok (.ishl, 1) := by decide +kernel
theorem dX4_ready_17 : decode cX4_ready 17 = .ok (.iand, 1) := by decide +kernel
theorem dX4_ready_18 : decode cX4_ready 18 = .ok (.ifCond .ne 26, 3) := by decide +kernel
theorem dX4_ready_21 : decode cX4_ready 21 = .ok (.aload_n 2, 1) := by decide +kernel
theorem dX4_ready_22 : decode cX4_ready 22 = .ok (.getfield 52, 3) := by decide +kernel
theorem dX4_ready_25 : decode cX4_ready 25 = .ok (.iload 5, 2) := by decide +kernel
theorem dX4_ready_27 : decode cX4_ready 27 = .ok (.iaload, 1) := by decide +kernel
theorem dX4_ready_28 : decode cX4_ready 28 = .ok (.iload_n 1, 1) := by decide +kernel
theorem dX4_ready_29 : decode cX4_ready 29 = .ok (.iconst (-1), 1) := by decide +kernel
theorem dX4_ready_30 : decode cX4_ready 30 = .ok (.ixor, 1) := by decide +kernel
theorem dX4_ready_31 : decode cX4_ready 31 = .ok (.iand, 1) := by decide +kernel
theorem dX4_ready_32 : decode cX4_ready 32 = .ok (.ifCond .ne 12, 3) := by decide +kernel
theorem dX4_ready_35 : decode cX4_ready 35 = .ok (.iload 4, 2) := by decide +kernel
theorem dX4_ready_37 : decode cX4_ready 37 = .ok (.iconst 1, 1) := by decide +kernel
theorem dX4_ready_38 : decode cX4_ready 38 = .ok (.iload 5, 2) := by decide +kernel
theorem dX4_ready_40 : decode cX4_ready 40 = .ok (.ishl, 1) := by decide +kernel
theorem dX4_ready_41 : decode cX4_ready 41 = .ok (.ior, 1) := by decide +kernel
theorem dX4_ready_42 : decode cX4_ready 42 = .ok (.istore 4, 2) := by decide +kernel
theorem dX4_ready_44 : decode cX4_ready 44 = .ok (.iinc 5 1, 3) := by decide +kernel
theorem dX4_ready_47 : decode cX4_ready 47 = .ok (.goto (-41), 3) := by decide +kernel
theorem dX4_ready_50 : decode cX4_ready 50 = .ok (.iload 4, 2) := by decide +kernel
theorem dX4_ready_52 : decode cX4_ready 52 = .ok (.ireturn, 1) := by decide +kernel
theorem dX4_addStage_0 : decode cX4_addStage 0 = .ok (.iload_n 2, 1) := by decide +kernel
theorem dX4_addStage_1 : decode cX4_addStage 1 = .ok (.istore 4, 2) := by decide +kernel
theorem dX4_addStage_3 : decode cX4_addStage 3 = .ok (.iload 4, 2) := by decide +kernel
theorem dX4_addStage_5 : decode cX4_addStage 5 = .ok (.ifCond .le 96, 3) := by decide +kernel
theorem dX4_addStage_8 : decode cX4_addStage 8 = .ok (.iload 4, 2) := by decide +kernel
theorem dX4_addStage_10 : decode cX4_addStage 10 = .ok (.invokestatic 55, 3) := by decide +kernel
theorem dX4_addStage_13 : decode cX4_addStage 13 = .ok (.aload_n 3, 1) := by decide +kernel
theorem dX4_addStage_14 : decode cX4_addStage 14 = .ok (.iconst 1, 1) := by decide +kernel
theorem dX4_addStage_15 : decode cX4_addStage 15 = .ok (.iaload, 1) := by decide +kernel
theorem dX4_addStage_16 : decode cX4_addStage 16 = .ok (.if_icmp .gt 20, 3) := by decide +kernel
theorem dX4_addStage_19 : decode cX4_addStage 19 = .ok (.aload_n 0, 1) := by decide +kernel
theorem dX4_addStage_20 : decode cX4_addStage 20 = .ok (.getfield 15, 3) := by decide +kernel
theorem dX4_addStage_23 : decode cX4_addStage 23 = .ok (.iload 4, 2) := by decide +kernel
theorem dX4_addStage_25 : decode cX4_addStage 25 = .ok (.iaload, 1) := by decide +kernel
theorem dX4_addStage_26 : decode cX4_addStage 26 = .ok (.aload_n 3, 1) := by decide +kernel
theorem dX4_addStage_27 : decode cX4_addStage 27 = .ok (.iconst 0, 1) := by decide +kernel
theorem dX4_addStage_28 : decode cX4_addStage 28 = .ok (.iaload, 1) := by decide +kernel
theorem dX4_addStage_29 : decode cX4_addStage 29 = .ok (.if_icmp .gt 7, 3) := by decide +kernel
theorem dX4_addStage_32 : decode cX4_addStage 32 = .ok (.iconst 1, 1) := by decide +kernel
theorem dX4_addStage_33 : decode cX4_addStage 33 = .ok (.goto 4, 3) := by decide +kernel
theorem dX4_addStage_36 : decode cX4_addStage 36 = .ok (.iconst 0, 1) := by decide +kernel
theorem dX4_addStage_37 : decode cX4_addStage 37 = .ok (.istore 5, 2) := by decide +kernel
theorem dX4_addStage_39 : decode cX4_addStage 39 = .ok (.iload 5, 2) := by decide +kernel
theorem dX4_addStage_41 : decode cX4_addStage 41 = .ok (.ifCond .eq 49, 3) := by decide +kernel
theorem dX4_addStage_44 : decode cX4_addStage 44 = .ok (.aload_n 0, 1) := by decide +kernel
theorem dX4_addStage_45 : decode cX4_addStage 45 = .ok (.getfield 18, 3) := by decide +kernel
theorem dX4_addStage_48 : decode cX4_addStage 48 = .ok (.iload 4, 2) := by decide +kernel
theorem dX4_addStage_50 : decode cX4_addStage 50 = .ok (.iaload, 1) := by decide +kernel
theorem dX4_addStage_51 : decode cX4_addStage 51 = .ok (.iload_n 1, 1) := by decide +kernel
theorem dX4_addStage_52 : decode cX4_addStage 52 = .ok (.iload 4, 2) := by decide +kernel
theorem dX4_addStage_54 : decode cX4_addStage 54 = .ok (.ior, 1) := by decide +kernel
theorem dX4_addStage_55 : decode cX4_addStage 55 = .ok (.iconst (-1), 1) := by decide +kernel
theorem dX4_addStage_56 : decode cX4_addStage 56 = .ok (.ixor, 1) := by decide +kernel
theorem dX4_addStage_57 : decode cX4_addStage 57 = .ok (.iand, 1) := by decide +kernel
theorem dX4_addStage_58 : decode cX4_addStage 58 = .ok (.ifCond .ne 32, 3) := by decide +kernel
theorem dX4_addStage_61 : decode cX4_addStage 61 = .ok (.aload_n 0, 1) := by decide +kernel
theorem dX4_addStage_62 : decode cX4_addStage 62 = .ok (.getfield 9, 3) := by decide +kernel
theorem dX4_addStage_65 : decode cX4_addStage 65 = .ok (.iload_n 1, 1) := by decide +kernel
theorem dX4_addStage_66 : decode cX4_addStage 66 = .ok (.iload 4, 2) := by decide +kernel
theorem dX4_addStage_68 : decode cX4_addStage 68 = .ok (.ior, 1) := by decide +kernel
theorem dX4_addStage_69 : decode cX4_addStage 69 = .ok (.aload_n 0, 1) := by decide +kernel
theorem dX4_addStage_70 : decode cX4_addStage 70 = .ok (.getfield 9, 3) := by decide +kernel
theorem dX4_addStage_73 : decode cX4_addStage 73 = .ok (.iload_n 1, 1) := by decide +kernel
theorem dX4_addStage_74 : decode cX4_addStage 74 = .ok (.iload 4, 2) := by decide +kernel
theorem dX4_addStage_76 : decode cX4_addStage 76 = .ok (.ior, 1) := by decide +kernel
theorem dX4_addStage_77 : decode cX4_addStage 77 = .ok (.iaload, 1) := by decide +kernel
theorem dX4_addStage_78 : decode cX4_addStage 78 = .ok (.aload_n 0, 1) := by decide +kernel
theorem dX4_addStage_79 : decode cX4_addStage 79 = .ok (.getfield 9, 3) := by decide +kernel
theorem dX4_addStage_82 : decode cX4_addStage 82 = .ok (.iload_n 1, 1) := by decide +kernel
theorem dX4_addStage_83 : decode cX4_addStage 83 = .ok (.iaload, 1) := by decide +kernel
theorem dX4_addStage_84 : decode cX4_addStage 84 = .ok (.iconst 1, 1) := by decide +kernel
theorem dX4_addStage_85 : decode cX4_addStage 85 = .ok (.iadd, 1) := by decide +kernel
theorem dX4_addStage_86 : decode cX4_addStage 86 = .ok (.invokestatic 61, 3) := by decide +kernel
theorem dX4_addStage_89 : decode cX4_addStage 89 = .ok (.iastore, 1) := by decide +kernel
theorem dX4_addStage_90 : decode cX4_addStage 90 = .ok (.iload 4, 2) := by decide +kernel
theorem dX4_addStage_92 : decode cX4_addStage 92 = .ok (.iconst 1, 1) := by decide +kernel
theorem dX4_addStage_93 : decode cX4_addStage 93 = .ok (.isub, 1) := by decide +kernel
theorem dX4_addStage_94 : decode cX4_addStage 94 = .ok (.iload_n 2, 1) := by decide +kernel
theorem dX4_addStage_95 : decode cX4_addStage 95 = .ok (.iand, 1) := by decide +kernel
theorem dX4_addStage_96 : decode cX4_addStage 96 = .ok (.istore 4, 2) := by decide +kernel
theorem dX4_addStage_98 : decode cX4_addStage 98 = .ok (.goto (-95), 3) := by decide +kernel
theorem dX4_addStage_101 : decode cX4_addStage 101 = .ok (.return_, 1) := by decide +kernel
theorem dX5_init_0 : decode cX5_init 0 = .ok (.aload_n 0, 1) := by decide +kernel
theorem dX5_init_1 : decode cX5_init 1 = .ok (.invokespecial 3, 3) := by decide +kernel
theorem dX5_init_4 : decode cX5_init 4 = .ok (.aload_n 0, 1) := by decide +kernel
theorem dX5_init_5 : decode cX5_init 5 = .ok (.iconst 4, 1) := by decide +kernel
theorem dX5_init_6 : decode cX5_init 6 = .ok (.newarray .int, 2) := by decide +kernel
theorem dX5_init_8 : decode cX5_init 8 = .ok (.putfield 9, 3) := by decide +kernel
theorem dX5_init_11 : decode cX5_init 11 = .ok (.aload_n 0, 1) := by decide +kernel
theorem dX5_init_12 : decode cX5_init 12 = .ok (.iconst 5, 1) := by decide +kernel
theorem dX5_init_13 : decode cX5_init 13 = .ok (.anewarray 15, 3) := by decide +kernel
theorem dX5_init_16 : decode cX5_init 16 = .ok (.putfield 17, 3) := by decide +kernel
theorem dX5_init_19 : decode cX5_init 19 = .ok (.iconst 0, 1) := by decide +kernel
theorem dX5_init_20 : decode cX5_init 20 = .ok (.istore_n 1, 1) := by decide +kernel
theorem dX5_init_21 : decode cX5_init 21 = .ok (.iload_n 1, 1) := by decide +kernel
theorem dX5_init_22 : decode cX5_init 22 = .ok (.iconst 4, 1) := by decide +kernel
theorem dX5_init_23 : decode cX5_init 23 = .ok (.if_icmp .gt 22, 3) := by decide +kernel
theorem dX5_init_26 : decode cX5_init 26 = .ok (.aload_n 0, 1) := by decide +kernel
theorem dX5_init_27 : decode cX5_init 27 = .ok (.getfield 17, 3) := by decide +kernel
theorem dX5_init_30 : decode cX5_init 30 = .ok (.iload_n 1, 1) := by decide +kernel
theorem dX5_init_31 : decode cX5_init 31 = .ok (.new 15, 3) := by decide +kernel
theorem dX5_init_34 : decode cX5_init 34 = .ok (.dup, 1) := by decide +kernel
theorem dX5_init_35 : decode cX5_init 35 = .ok (.invokespecial 21, 3) := by decide +kernel
theorem dX5_init_38 : decode cX5_init 38 = .ok (.aastore, 1) := by decide +kernel
theorem dX5_init_39 : decode cX5_init 39 = .ok (.iinc 1 1, 3) := by decide +kernel
theorem dX5_init_42 : decode cX5_init 42 = .ok (.goto (-21), 3) := by decide +kernel
theorem dX5_init_45 : decode cX5_init 45 = .ok (.return_, 1) := by decide +kernel
theorem dX5_begin_0 : decode cX5_begin 0 = .ok (.aload_n 0, 1) := by decide +kernel
theorem dX5_begin_1 : decode cX5_begin 1 = .ok (.iload_n 1, 1) := by decide +kernel
theorem dX5_begin_2 : decode cX5_begin 2 = .ok (.putfield 22, 3) := by decide +kernel
theorem dX5_begin_5 : decode cX5_begin 5 = .ok (.aload_n 0, 1) := by decide +kernel
theorem dX5_begin_6 : decode cX5_begin 6 = .ok (.iconst 0, 1) := by decide +kernel
theorem dX5_begin_7 : decode cX5_begin 7 = .ok (.putfield 26, 3) := by decide +kernel
theorem dX5_begin_10 : decode cX5_begin 10 = .ok (.aload_n 0, 1) := by decide +kernel
theorem dX5_begin_11 : decode cX5_begin 11 = .ok (.getfield 17, 3) := by decide +kernel
theorem dX5_begin_14 : decode cX5_begin 14 = .ok (.iconst 4, 1) := by decide +kernel
theorem dX5_begin_15 : decode cX5_begin 15 = .ok (.aaload, 1) := by decide +kernel
theorem dX5_begin_16 : decode cX5_begin 16 = .ok (.iconst 0, 1) := by decide +kernel
theorem dX5_begin_17 : decode cX5_begin 17 = .ok (.bipush (-6), 2) := by decide +kernel
theorem dX5_begin_19 : decode cX5_begin 19 = .ok (.bipush (-6), 2) := by decide +kernel
theorem dX5_begin_21 : decode cX5_begin 21 = .ok (.invokevirtual 29, 3) := by decide +kernel
theorem dX5_begin_24 : decode cX5_begin 24 = .ok (.return_, 1) := by decide +kernel
theorem dX5_copy_0 : decode cX5_copy 0 = .ok (.aload_n 0, 1) := by decide +kernel
theorem dX5_copy_1 : decode cX5_copy 1 = .ok (.aload_n 1, 1) := by decide +kernel
theorem dX5_copy_2 : decode cX5_copy 2 = .ok (.getfield 22, 3) := by decide +kernel
theorem dX5_copy_5 : decode cX5_copy 5 = .ok (.putfield 22, 3) := by decide +kernel
theorem dX5_copy_8 : decode cX5_copy 8 = .ok (.aload_n 0, 1) := by decide +kernel
theorem dX5_copy_9 : decode cX5_copy 9 = .ok (.aload_n 1, 1) := by decide +kernel
theorem dX5_copy_10 : decode cX5_copy 10 = .ok (.getfield 26, 3) := by decide +kernel
theorem dX5_copy_13 : decode cX5_copy 13 = .ok (.putfield 26, 3) := by decide +kernel
theorem dX5_copy_16 : decode cX5_copy 16 = .ok (.aload_n 1, 1) := by decide +kernel
theorem dX5_copy_17 : decode cX5_copy 17 = .ok (.getfield 9, 3) := by decide +kernel
theorem dX5_copy_20 : decode cX5_copy 20 = .ok (.iconst 0, 1) := by decide +kernel
theorem dX5_copy_21 : decode cX5_copy 21 = .ok (.aload_n 0, 1) := by decide +kernel
theorem dX5_copy_22 : decode cX5_copy 22 = .ok (.getfield 9, 3) := by decide +kernel
theorem dX5_copy_25 : decode cX5_copy 25 = .ok (.iconst 0, 1) := by decide +kernel
theorem dX5_copy_26 : decode cX5_copy 26 = .ok (.iconst 4, 1) := by decide +kernel
theorem dX5_copy_27 : decode cX5_copy 27 = .ok (.invokestatic 33, 3) := by decide +kernel
theorem dX5_copy_30 : decode cX5_copy 30 = .ok (.iconst 0, 1) := by decide +kernel
theorem dX5_copy_31 : decode cX5_copy 31 = .ok (.istore_n 2, 1) := by decide +kernel
theorem dX5_copy_32 : decode cX5_copy 32 = .ok (.iload_n 2, 1) := by decide +kernel
theorem dX5_copy_33 : decode cX5_copy 33 = .ok (.iconst 4, 1) := by decide +kernel
theorem dX5_copy_34 : decode cX5_copy 34 = .ok (.if_icmp .gt 24, 3) := by decide +kernel
theorem dX5_copy_37 : decode cX5_copy 37 = .ok (.aload_n 0, 1) := by decide +kernel
theorem dX5_copy_38 : decode cX5_copy 38 = .ok (.getfield 17, 3) := by decide +kernel
theorem dX5_copy_41 : decode cX5_copy 41 = .ok (.iload_n 2, 1) := by decide +kernel
theorem dX5_copy_42 : decode cX5_copy 42 = .ok (.aaload, 1) := by decide +kernel
theorem dX5_copy_43 : decode cX5_copy 43 = .ok (.aload_n 1, 1) := by decide +kernel
theorem dX5_copy_44 : decode cX5_copy 44 = .ok (.getfield 17, 3) := by decide +kernel
theorem dX5_copy_47 : decode cX5_copy 47 = .ok (.iload_n 2, 1) := by decide +kernel
theorem dX5_copy_48 : decode cX5_copy 48 = .ok (.aaload, 1) := by decide +kernel
theorem dX5_copy_49 : decode cX5_copy 49 = .ok (.invokevirtual 39, 3) := by decide +kernel
theorem dX5_copy_52 : decode cX5_copy 52 = .ok (.iinc 2 1, 3) := by decide +kernel
theorem dX5_copy_55 : decode cX5_copy 55 = .ok (.goto (-23), 3) := by decide +kernel
theorem dX5_copy_58 : decode cX5_copy 58 = .ok (.return_, 1) := by decide +kernel
theorem dX5_size_0 : decode cX5_size 0 = .ok (.aload_n 0, 1) := by decide +kernel
theorem dX5_size_1 : decode cX5_size 1 = .ok (.getfield 26, 3) := by decide +kernel
theorem dX5_size_4 : decode cX5_size 4 = .ok (.iconst 1, 1) := by decide +kernel
theorem dX5_size_5 : decode cX5_size 5 = .ok (.iadd, 1) := by decide +kernel
theorem dX5_size_6 : decode cX5_size 6 = .ok (.ireturn, 1) := by decide +kernel
theorem dX5_slotOf_0 : decode cX5_slotOf 0 = .ok (.iconst 0, 1) := by decide +kernel
theorem dX5_slotOf_1 : decode cX5_slotOf 1 = .ok (.istore_n 2, 1) := by decide +kernel
theorem dX5_slotOf_2 : decode cX5_slotOf 2 = .ok (.iload_n 2, 1) := by decide +kernel
theorem dX5_slotOf_3 : decode cX5_slotOf 3 = .ok (.aload_n 0, 1) := by decide +kernel
theorem dX5_slotOf_4 : decode cX5_slotOf 4 = .ok (.getfield 26, 3) := by decide +kernel
theorem dX5_slotOf_7 : decode cX5_slotOf 7 = .ok (.if_icmp .ge 21, 3) := by decide +kernel
theorem dX5_slotOf_10 : decode cX5_slotOf 10 = .ok (.aload_n 0, 1) := by decide +kernel
theorem dX5_slotOf_11 : decode cX5_slotOf 11 = .ok (.getfield 9, 3) := by decide +kernel
theorem dX5_slotOf_14 : decode cX5_slotOf 14 = .ok (.iload_n 2, 1) := by decide +kernel
theorem dX5_slotOf_15 : decode cX5_slotOf 15 = .ok (.iaload, 1) := by decide +kernel
theorem dX5_slotOf_16 : decode cX5_slotOf 16 = .ok (.iload_n 1, 1) := by decide +kernel
theorem dX5_slotOf_17 : decode cX5_slotOf 17 = .ok (.if_icmp .ne 5, 3) := by decide +kernel
theorem dX5_slotOf_20 : decode cX5_slotOf 20 = .ok (.iload_n 2, 1) := by decide +kernel
theorem dX5_slotOf_21 : decode cX5_slotOf 21 = .ok (.ireturn, 1) := by decide +kernel
theorem dX5_slotOf_22 : decode cX5_slotOf 22 = .ok (.iinc 2 1, 3) := by decide +kernel
theorem dX5_slotOf_25 : decode cX5_slotOf 25 = .ok (.goto (-23), 3) := by decide +kernel
theorem dX5_slotOf_28 : decode cX5_slotOf 28 = .ok (.iconst 4, 1) := by decide +kernel
theorem dX5_slotOf_29 : decode cX5_slotOf 29 = .ok (.ireturn, 1) := by decide +kernel
theorem dX5_addEntry_0 : decode cX5_addEntry 0 = .ok (.aload_n 0, 1) := by decide +kernel
theorem dX5_addEntry_1 : decode cX5_addEntry 1 = .ok (.getfield 9, 3) := by decide +kernel
theorem dX5_addEntry_4 : decode cX5_addEntry 4 = .ok (.aload_n 0, 1) := by decide +kernel
theorem dX5_addEntry_5 : decode cX5_addEntry 5 = .ok (.getfield 26, 3) := by decide +kernel
theorem dX5_addEntry_8 : decode cX5_addEntry 8 = .ok (.iload_n 1, 1) := by decide +kernel
theorem dX5_addEntry_9 : decode cX5_addEntry 9 = .ok (.iastore, 1) := by decide +kernel
theorem dX5_addEntry_10 : decode cX5_addEntry 10 = .ok (.aload_n 0, 1) := by decide +kernel
theorem dX5_addEntry_11 : decode cX5_addEntry 11 = .ok (.getfield 17, 3) := by decide +kernel
theorem dX5_addEntry_14 : decode cX5_addEntry 14 = .ok (.aload_n 0, 1) := by decide +kernel
theorem dX5_addEntry_15 : decode cX5_addEntry 15 = .ok (.getfield 26, 3) := by decide +kernel
theorem dX5_addEntry_18 : decode cX5_addEntry 18 = .ok (.aaload, 1) := by decide +kernel
theorem dX5_addEntry_19 : decode cX5_addEntry 19 = .ok (.iload_n 2, 1) := by decide +kernel
theorem dX5_addEntry_20 : decode cX5_addEntry 20 = .ok (.iload_n 3, 1) := by decide +kernel
theorem dX5_addEntry_21 : decode cX5_addEntry 21 = .ok (.iload 4, 2) := by decide +kernel
theorem dX5_addEntry_23 : decode cX5_addEntry 23 = .ok (.invokevirtual 29, 3) := by decide +kernel
theorem dX5_addEntry_26 : decode cX5_addEntry 26 = .ok (.aload_n 0, 1) := by decide +kernel
theorem dX5_addEntry_27 : decode cX5_addEntry 27 = .ok (.dup, 1) := by decide +kernel
theorem dX5_addEntry_28 : decode cX5_addEntry 28 = .ok (.getfield 26, 3) := by decide +kernel
theorem dX5_addEntry_31 : decode cX5_addEntry 31 = .ok (.iconst 1, 1) := by decide +kernel
theorem dX5_addEntry_32 : decode cX5_addEntry 32 = .ok (.iadd, 1) := by decide +kernel
theorem dX5_addEntry_33 : decode cX5_addEntry 33 = .ok (.putfield 26, 3) := by decide +kernel
theorem dX5_addEntry_36 : decode cX5_addEntry 36 = .ok (.aload_n 0, 1) := by decide +kernel
theorem dX5_addEntry_37 : decode cX5_addEntry 37 = .ok (.getfield 26, 3) := by decide +kernel
theorem dX5_addEntry_40 : decode cX5_addEntry 40 = .ok (.ireturn, 1) := by decide +kernel
theorem dX5_removeEntry_0 : decode cX5_removeEntry 0 = .ok (.iload_n 1, 1) := by decide +kernel
theorem dX5_removeEntry_1 : decode cX5_removeEntry 1 = .ok (.istore_n 2, 1) := by decide +kernel
theorem dX5_removeEntry_2 : decode cX5_removeEntry 2 = .ok (.iload_n 2, 1) := by decide +kernel
theorem dX5_removeEntry_3 : decode cX5_removeEntry 3 = .ok (.iconst 1, 1) := by decide +kernel
theorem dX5_removeEntry_4 : decode cX5_removeEntry 4 = .ok (.iadd, 1) := by decide +kernel
theorem dX5_removeEntry_5 : decode cX5_removeEntry 5 = .ok (.aload_n 0, 1) := by decide +kernel
theorem dX5_removeEntry_6 : decode cX5_removeEntry 6 = .ok (.getfield 26, 3) := by decide +kernel
theorem dX5_removeEntry_9 : decode cX5_removeEntry 9 = .ok (.if_icmp .ge 40, 3) := by decide +kernel
theorem dX5_removeEntry_12 : decode cX5_removeEntry 12 = .ok (.aload_n 0, 1) := by decide +kernel
theorem dX5_removeEntry_13 : decode cX5_removeEntry 13 = .ok (.getfield 9, 3) := by decide +kernel
theorem dX5_removeEntry_16 : decode cX5_removeEntry 16 = .ok (.iload_n 2, 1) := by decide +kernel
theorem dX5_removeEntry_17 : decode cX5_removeEntry 17 = .ok (.aload_n 0, 1) := by decide +kernel
theorem dX5_removeEntry_18 : decode cX5_removeEntry 18 = .ok (.getfield 9, 3) := by decide +kernel
theorem dX5_removeEntry_21 : decode cX5_removeEntry 21 = .ok (.iload_n 2, 1) := by decide +kernel
theorem dX5_removeEntry_22 : decode cX5_removeEntry 22 = .ok (.iconst 1, 1) := by decide +kernel
theorem dX5_removeEntry_23 : decode cX5_removeEntry 23 = .ok (.iadd, 1) := by decide +kernel
theorem dX5_removeEntry_24 : decode cX5_removeEntry 24 = .ok (.iaload, 1) := by decide +kernel
theorem dX5_removeEntry_25 : decode cX5_removeEntry 25 = .ok (.iastore, 1) := by decide +kernel
theorem dX5_removeEntry_26 : decode cX5_removeEntry 26 = .ok (.aload_n 0, 1) := by decide +kernel
theorem dX5_removeEntry_27 : decode cX5_removeEntry 27 = .ok (.getfield 17, 3) := by decide +kernel
theorem dX5_removeEntry_30 : decode cX5_removeEntry 30 = .ok (.iload_n 2, 1) := by decide +kernel
theorem dX5_removeEntry_31 : decode cX5_removeEntry 31 = .ok (.aaload, 1) := by decide +kernel
theorem dX5_removeEntry_32 : decode cX5_removeEntry 32 = .ok (.aload_n 0, 1) := by decide +kernel
theorem dX5_removeEntry_33 : decode cX5_removeEntry 33 = .ok (.getfield 17, 3) := by decide +kernel
theorem dX5_removeEntry_36 : decode cX5_removeEntry 36 = .ok (.iload_n 2, 1) := by decide +kernel
theorem dX5_removeEntry_37 : decode cX5_removeEntry 37 = .ok (.iconst 1, 1) := by decide +kernel
theorem dX5_removeEntry_38 : decode cX5_removeEntry 38 = .ok (.iadd, 1) := by decide +kernel
theorem dX5_removeEntry_39 : decode cX5_removeEntry 39 = .ok (.aaload, 1) := by decide +kernel
theorem dX5_removeEntry_40 : decode cX5_removeEntry 40 = .ok (.invokevirtual 39, 3) := by decide +kernel
theorem dX5_removeEntry_43 : decode cX5_removeEntry 43 = .ok (.iinc 2 1, 3) := by decide +kernel
theorem dX5_removeEntry_46 : decode cX5_removeEntry 46 = .ok (.goto (-44), 3) := by decide +kernel
theorem dX5_removeEntry_49 : decode cX5_removeEntry 49 = .ok (.aload_n 0, 1) := by decide +kernel
theorem dX5_removeEntry_50 : decode cX5_removeEntry 50 = .ok (.dup, 1) := by decide +kernel
theorem dX5_removeEntry_51 : decode cX5_removeEntry 51 = .ok (.getfield 26, 3) := by decide +kernel
theorem dX5_removeEntry_54 : decode cX5_removeEntry 54 = .ok (.iconst 1, 1) := by decide +kernel
theorem dX5_removeEntry_55 : decode cX5_removeEntry 55 = .ok (.isub, 1) := by decide +kernel
theorem dX5_removeEntry_56 : decode cX5_removeEntry 56 = .ok (.putfield 26, 3) := by decide +kernel
theorem dX5_removeEntry_59 : decode cX5_removeEntry 59 = .ok (.aload_n 0, 1) := by decide +kernel
theorem dX5_removeEntry_60 : decode cX5_removeEntry 60 = .ok (.getfield 26, 3) := by decide +kernel
theorem dX5_removeEntry_63 : decode cX5_removeEntry 63 = .ok (.ireturn, 1) := by decide +kernel
theorem dX5_isUsed_0 : decode cX5_isUsed 0 = .ok (.iload_n 1, 1) := by decide +kernel
theorem dX5_isUsed_1 : decode cX5_isUsed 1 = .ok (.aload_n 0, 1) := by decide +kernel
theorem dX5_isUsed_2 : decode cX5_isUsed 2 = .ok (.getfield 26, 3) := by decide +kernel
theorem dX5_isUsed_5 : decode cX5_isUsed 5 = .ok (.if_icmp .lt 8, 3) := by decide +kernel
theorem dX5_isUsed_8 : decode cX5_isUsed 8 = .ok (.iload_n 1, 1) := by decide +kernel
theorem dX5_isUsed_9 : decode cX5_isUsed 9 = .ok (.iconst 4, 1) := by decide +kernel
theorem dX5_isUsed_10 : decode cX5_isUsed 10 = .ok (.if_icmp .ne 7, 3) := by decide +kernel
theorem dX5_isUsed_13 : decode cX5_isUsed 13 = .ok (.iconst 1, 1) := by decide +kernel
theorem dX5_isUsed_14 : decode cX5_isUsed 14 = .ok (.goto 4, 3) := by decide +kernel
theorem dX5_isUsed_17 : decode cX5_isUsed 17 = .ok (.iconst 0, 1) := by decide +kernel
theorem dX5_isUsed_18 : decode cX5_isUsed 18 = .ok (.ireturn, 1) := by decide +kernel
theorem dX5_writtenFields_0 : decode cX5_writtenFields 0 = .ok (.iconst 0, 1) := by decide +kernel
theorem dX5_writtenFields_1 : decode cX5_writtenFields 1 = .ok (.istore_n 1, 1) := by decide +kernel
theorem dX5_writtenFields_2 : decode cX5_writtenFields 2 = .ok (.iconst 0, 1) := by decide +kernel
theorem dX5_writtenFields_3 : decode cX5_writtenFields 3 = .ok (.istore_n 2, 1) := by decide +kernel
theorem dX5_writtenFields_4 : decode cX5_writtenFields 4 = .ok (.iload_n 2, 1) := by decide +kernel
theorem dX5_writtenFields_5 : decode cX5_writtenFields 5 = .ok (.iconst 4, 1) := by decide +kernel
theorem dX5_writtenFields_6 : decode cX5_writtenFields 6 = .ok (.if_icmp .gt 33, 3) := by decide +kernel
theorem dX5_writtenFields_9 : decode cX5_writtenFields 9 = .ok (.iload_n 1, 1) := by decide +kernel
theorem dX5_writtenFields_10 : decode cX5_writtenFields 10 = .ok (.aload_n 0, 1) := by decide +kernel
theorem dX5_writtenFields_11 : decode cX5_writtenFields 11 = .ok (.iload_n 2, 1) := by decide +kernel
theorem dX5_writtenFields_12 : decode cX5_writtenFields 12 = .ok (.invokevirtual 43, 3) := by decide +kernel
theorem dX5_writtenFields_15 : decode cX5_writtenFields 15 = .ok (.ifCond .eq 15, 3) := by decide +kernel
theorem dX5_writtenFields_18 : decode cX5_writtenFields 18 = .ok (.aload_n 0, 1) := by decide +kernel
theorem dX5_writtenFields_19 : decode cX5_writtenFields 19 = .ok (.getfield 17, 3) := by decide +kernel
theorem dX5_writtenFields_22 : decode cX5_writtenFields 22 = .ok (.iload_n 2, 1) := by decide +kernel
theorem dX5_writtenFields_23 : decode cX5_writtenFields 23 = .ok (.aaload, 1) := by decide +kernel
theorem dX5_writtenFields_24 : decode cX5_writtenFields 24 = .ok (.invokevirtual 47, 3) := by decide +kernel
theorem dX5_writtenFields_27 : decode cX5_writtenFields 27 = .ok (.goto 4, 3) := by decide +kernel
theorem dX5_writtenFields_30 : decode cX5_writtenFields 30 = .ok (.iconst 0, 1) := by decide +kernel
theorem dX5_writtenFields_31 : decode cX5_writtenFields 31 = .ok (.ior, 1) := by decide +kernel
theorem dX5_writtenFields_32 : decode cX5_writtenFields 32 = .ok (.istore_n 1, 1) := by decide +kernel
theorem dX5_writtenFields_33 : decode cX5_writtenFields 33 = .ok (.iinc 2 1, 3) := by decide +kernel
theorem dX5_writtenFields_36 : decode cX5_writtenFields 36 = .ok (.goto (-32), 3) := by decide +kernel
theorem dX5_writtenFields_39 : decode cX5_writtenFields 39 = .ok (.iload_n 1, 1) := by decide +kernel
theorem dX5_writtenFields_40 : decode cX5_writtenFields 40 = .ok (.ireturn, 1) := by decide +kernel
theorem dX5_readFields_0 : decode cX5_readFields 0 = .ok (.iconst 1, 1) := by decide +kernel
theorem dX5_readFields_1 : decode cX5_readFields 1 = .ok (.aload_n 0, 1) := by decide +kernel
theorem dX5_readFields_2 : decode cX5_readFields 2 = .ok (.getfield 22, 3) := by decide +kernel
theorem dX5_readFields_5 : decode cX5_readFields 5 = .ok (.ishl, 1) := by decide +kernel
theorem dX5_readFields_6 : decode cX5_readFields 6 = .ok (.istore_n 1, 1) := by decide +kernel
theorem dX5_readFields_7 : decode cX5_readFields 7 = .ok (.iconst 0, 1) := by decide +kernel
theorem dX5_readFields_8 : decode cX5_readFields 8 = .ok (.istore_n 2, 1) := by decide +kernel
theorem dX5_readFields_9 : decode cX5_readFields 9 = .ok (.iload_n 2, 1) := by decide +kernel
theorem dX5_readFields_10 : decode cX5_readFields 10 = .ok (.iconst 4, 1) := by decide +kernel
theorem dX5_readFields_11 : decode cX5_readFields 11 = .ok (.if_icmp .gt 33, 3) := by decide +kernel
theorem dX5_readFields_14 : decode cX5_readFields 14 = .ok (.iload_n 1, 1) := by decide +kernel
theorem dX5_readFields_15 : decode cX5_readFields 15 = .ok (.aload_n 0, 1) := by decide +kernel
theorem dX5_readFields_16 : decode cX5_readFields 16 = .ok (.iload_n 2, 1) := by decide +kernel
theorem dX5_readFields_17 : decode cX5_readFields 17 = .ok (.invokevirtual 43, 3) := by decide +kernel
theorem dX5_readFields_20 : decode cX5_readFields 20 = .ok (.ifCond .eq 15, 3) := by decide +kernel
theorem dX5_readFields_23 : decode cX5_readFields 23 = .ok (.aload_n 0, 1) := by decide +kernel
theorem dX5_readFields_24 : decode cX5_readFields 24 = .ok (.getfield 17, 3) := by decide +kernel
theorem dX5_readFields_27 : decode cX5_readFields 27 = .ok (.iload_n 2, 1) := by decide +kernel
theorem dX5_readFields_28 : decode cX5_readFields 28 = .ok (.aaload, 1) := by decide +kernel
theorem dX5_readFields_29 : decode cX5_readFields 29 = .ok (.invokevirtual 51, 3) := by decide +kernel
theorem dX5_readFields_32 : decode cX5_readFields 32 = .ok (.goto 4, 3) := by decide +kernel
theorem dX5_readFields_35 : decode cX5_readFields 35 = .ok (.iconst 0, 1) := by decide +kernel
theorem dX5_readFields_36 : decode cX5_readFields 36 = .ok (.ior, 1) := by decide +kernel
theorem dX5_readFields_37 : decode cX5_readFields 37 = .ok (.istore_n 1, 1) := by decide +kernel
theorem dX5_readFields_38 : decode cX5_readFields 38 = .ok (.iinc 2 1, 3) := by decide +kernel
theorem dX5_readFields_41 : decode cX5_readFields 41 = .ok (.goto (-32), 3) := by decide +kernel
theorem dX5_readFields_44 : decode cX5_readFields 44 = .ok (.iload_n 1, 1) := by decide +kernel
theorem dX5_readFields_45 : decode cX5_readFields 45 = .ok (.ireturn, 1) := by decide +kernel
theorem dX5_ownRegisters_0 : decode cX5_ownRegisters 0 = .ok (.iconst 0, 1) := by decide +kernel
theorem dX5_ownRegisters_1 : decode cX5_ownRegisters 1 = .ok (.istore_n 1, 1) := by decide +kernel
theorem dX5_ownRegisters_2 : decode cX5_ownRegisters 2 = .ok (.iconst 0, 1) := by decide +kernel
theorem dX5_ownRegisters_3 : decode cX5_ownRegisters 3 = .ok (.istore_n 2, 1) := by decide +kernel
theorem dX5_ownRegisters_4 : decode cX5_ownRegisters 4 = .ok (.iload_n 2, 1) := by decide +kernel
theorem dX5_ownRegisters_5 : decode cX5_ownRegisters 5 = .ok (.iconst 4, 1) := by decide +kernel
theorem dX5_ownRegisters_6 : decode cX5_ownRegisters 6 = .ok (.if_icmp .gt 33, 3) := by decide +kernel
theorem dX5_ownRegisters_9 : decode cX5_ownRegisters 9 = .ok (.iload_n 1, 1) := by decide +kernel
theorem dX5_ownRegisters_10 : decode cX5_ownRegisters 10 = .ok (.aload_n 0, 1) := by decide +kernel
theorem dX5_ownRegisters_11 : decode cX5_ownRegisters 11 = .ok (.iload_n 2, 1) := by decide +kernel
theorem dX5_ownRegisters_12 : decode cX5_ownRegisters 12 = .ok (.invokevirtual 43, 3) := by decide +kernel
theorem dX5_ownRegisters_15 : decode cX5_ownRegisters 15 = .ok (.ifCond .eq 15, 3) := by decide +kernel
theorem dX5_ownRegisters_18 : decode cX5_ownRegisters 18 = .ok (.aload_n 0, 1) := by decide +kernel
theorem dX5_ownRegisters_19 : decode cX5_ownRegisters 19 = .ok (.getfield 17, 3) := by decide +kernel
theorem dX5_ownRegisters_22 : decode cX5_ownRegisters 22 = .ok (.iload_n 2, 1) := by decide +kernel
theorem dX5_ownRegisters_23 : decode cX5_ownRegisters 23 = .ok (.aaload, 1) := by decide +kernel
theorem dX5_ownRegisters_24 : decode cX5_ownRegisters 24 = .ok (.invokevirtual 54, 3) := by decide +kernel
theorem dX5_ownRegisters_27 : decode cX5_ownRegisters 27 = .ok (.goto 4, 3) := by decide +kernel
theorem dX5_ownRegisters_30 : decode cX5_ownRegisters 30 = .ok (.iconst 0, 1) := by decide +kernel
theorem dX5_ownRegisters_31 : decode cX5_ownRegisters 31 = .ok (.ior, 1) := by decide +kernel
theorem dX5_ownRegisters_32 : decode cX5_ownRegisters 32 = .ok (.istore_n 1, 1) := by decide +kernel
theorem dX5_ownRegisters_33 : decode cX5_ownRegisters 33 = .ok (.iinc 2 1, 3) := by decide +kernel
theorem dX5_ownRegisters_36 : decode cX5_ownRegisters 36 = .ok (.goto (-32), 3) := by decide +kernel
theorem dX5_ownRegisters_39 : decode cX5_ownRegisters 39 = .ok (.iload_n 1, 1) := by decide +kernel
theorem dX5_ownRegisters_40 : decode cX5_ownRegisters 40 = .ok (.ireturn, 1) := by decide +kernel
theorem dX5_partOfAct_0 : decode cX5_partOfAct 0 = .ok (.iload_n 1, 1) := by decide +kernel
theorem dX5_partOfAct_1 : decode cX5_partOfAct 1 = .ok (.bipush 10, 2) := by decide +kernel
theorem dX5_partOfAct_3 : decode cX5_partOfAct 3 = .ok (.if_icmp .lt 20, 3) := by decide +kernel
theorem dX5_partOfAct_6 : decode cX5_partOfAct 6 = .ok (.iload_n 1, 1) := by decide +kernel
theorem dX5_partOfAct_7 : decode cX5_partOfAct 7 = .ok (.bipush 10, 2) := by decide +kernel
theorem dX5_partOfAct_9 : decode cX5_partOfAct 9 = .ok (.iconst 4, 1) := by decide +kernel
theorem dX5_partOfAct_10 : decode cX5_partOfAct 10 = .ok (.aload_n 0, 1) := by decide +kernel
theorem dX5_partOfAct_11 : decode cX5_partOfAct 11 = .ok (.getfield 26, 3) := by decide +kernel
theorem dX5_partOfAct_14 : decode cX5_partOfAct 14 = .ok (.imul, 1) := by decide +kernel
theorem dX5_partOfAct_15 : decode cX5_partOfAct 15 = .ok (.iadd, 1) := by decide +kernel
theorem dX5_partOfAct_16 : decode cX5_partOfAct 16 = .ok (.if_icmp .ge 7, 3) := by decide +kernel
theorem dX5_partOfAct_19 : decode cX5_partOfAct 19 = .ok (.iconst 1, 1) := by decide +kernel
theorem dX5_partOfAct_20 : decode cX5_partOfAct 20 = .ok (.goto 4, 3) := by decide +kernel
theorem dX5_partOfAct_23 : decode cX5_partOfAct 23 = .ok (.iconst 0, 1) := by decide +kernel
theorem dX5_partOfAct_24 : decode cX5_partOfAct 24 = .ok (.istore_n 2, 1) := by decide +kernel
theorem dX5_partOfAct_25 : decode cX5_partOfAct 25 = .ok (.iload_n 1, 1) := by decide +kernel
theorem dX5_partOfAct_26 : decode cX5_partOfAct 26 = .ok (.bipush 31, 2) := by decide +kernel
theorem dX5_partOfAct_28 : decode cX5_partOfAct 28 = .ok (.if_icmp .lt 13, 3) := by decide +kernel
theorem dX5_partOfAct_31 : decode cX5_partOfAct 31 = .ok (.iload_n 1, 1) := by decide +kernel
theorem dX5_partOfAct_32 : decode cX5_partOfAct 32 = .ok (.bipush 33, 2) := by decide +kernel
theorem dX5_partOfAct_34 : decode cX5_partOfAct 34 = .ok (.if_icmp .gt 7, 3) := by decide +kernel
theorem dX5_partOfAct_37 : decode cX5_partOfAct 37 = .ok (.iconst 1, 1) := by decide +kernel
theorem dX5_partOfAct_38 : decode cX5_partOfAct 38 = .ok (.goto 4, 3) := by decide +kernel
theorem dX5_partOfAct_41 : decode cX5_partOfAct 41 = .ok (.iconst 0, 1) := by decide +kernel
theorem dX5_partOfAct_42 : decode cX5_partOfAct 42 = .ok (.istore_n 3, 1) := by decide +kernel
theorem dX5_partOfAct_43 : decode cX5_partOfAct 43 = .ok (.iload_n 2, 1) := by decide +kernel
theorem dX5_partOfAct_44 : decode cX5_partOfAct 44 = .ok (.ifCond .ne 10, 3) := by decide +kernel
theorem dX5_partOfAct_47 : decode cX5_partOfAct 47 = .ok (.iload_n 3, 1) := by decide +kernel
theorem dX5_partOfAct_48 : decode cX5_partOfAct 48 = .ok (.ifCond .ne 6, 3) := by decide +kernel
theorem dX5_partOfAct_51 : decode cX5_partOfAct 51 = .ok (.bipush (-2), 2) := by decide +kernel
theorem dX5_partOfAct_53 : decode cX5_partOfAct 53 = .ok (.ireturn, 1) := by decide +kernel
theorem dX5_partOfAct_54 : decode cX5_partOfAct 54 = .ok (.iload_n 2, 1) := by decide +kernel
theorem dX5_partOfAct_55 : decode cX5_partOfAct 55 = .ok (.ifCond .eq 12, 3) := by decide +kernel
theorem dX5_partOfAct_58 : decode cX5_partOfAct 58 = .ok (.iload_n 1, 1) := by decide +kernel
theorem dX5_partOfAct_59 : decode cX5_partOfAct 59 = .ok (.bipush 10, 2) := by decide +kernel
theorem dX5_partOfAct_61 : decode cX5_partOfAct 61 = .ok (.isub, 1) := by decide +kernel
theorem dX5_partOfAct_62 : decode cX5_partOfAct 62 = .ok (.iconst 4, 1) := by decide +kernel
theorem dX5_partOfAct_63 : decode cX5_partOfAct 63 = .ok (.idiv, 1) := by decide +kernel
theorem dX5_partOfAct_64 : decode cX5_partOfAct 64 = .ok (.goto 4, 3) := by decide +kernel
theorem dX5_partOfAct_67 : decode cX5_partOfAct 67 = .ok (.iconst 4, 1) := by decide +kernel
theorem dX5_partOfAct_68 : decode cX5_partOfAct 68 = .ok (.istore 4, 2) := by decide +kernel
theorem dX5_partOfAct_70 : decode cX5_partOfAct 70 = .ok (.iload_n 1, 1) := by decide +kernel
theorem dX5_partOfAct_71 : decode cX5_partOfAct 71 = .ok (.bipush 10, 2) := by decide +kernel
theorem dX5_partOfAct_73 : decode cX5_partOfAct 73 = .ok (.isub, 1) := by decide +kernel
theorem dX5_partOfAct_74 : decode cX5_partOfAct 74 = .ok (.iconst 4, 1) := by decide +kernel
theorem dX5_partOfAct_75 : decode cX5_partOfAct 75 = .ok (.irem, 1) := by decide +kernel
theorem dX5_partOfAct_76 : decode cX5_partOfAct 76 = .ok (.tableswitch 58 0 2 #[28, 36, 47], 28) := by decide +kernel
theorem dX5_partOfAct_104 : decode cX5_partOfAct 104 = .ok (.aload_n 0, 1) := by decide +kernel
theorem dX5_partOfAct_105 : decode cX5_partOfAct 105 = .ok (.getfield 9, 3) := by decide +kernel
theorem dX5_partOfAct_108 : decode cX5_partOfAct 108 = .ok (.iload 4, 2) := by decide +kernel
theorem dX5_partOfAct_110 : decode cX5_partOfAct 110 = .ok (.iaload, 1) := by decide +kernel
theorem dX5_partOfAct_111 : decode cX5_partOfAct 111 = .ok (.ireturn, 1) := by decide +kernel
theorem dX5_partOfAct_112 : decode cX5_partOfAct 112 = .ok (.aload_n 0, 1) := by decide +kernel
theorem dX5_partOfAct_113 : decode cX5_partOfAct 113 = .ok (.getfield 17, 3) := by decide +kernel
theorem dX5_partOfAct_116 : decode cX5_partOfAct 116 = .ok (.iload 4, 2) := by decide +kernel
theorem dX5_partOfAct_118 : decode cX5_partOfAct 118 = .ok (.aaload, 1) := by decide +kernel
theorem dX5_partOfAct_119 : decode cX5_partOfAct 119 = .ok (.getfield 57, 3) := by decide +kernel
theorem dX5_partOfAct_122 : decode cX5_partOfAct 122 = .ok (.ireturn, 1) := by decide +kernel
theorem dX5_partOfAct_123 : decode cX5_partOfAct 123 = .ok (.aload_n 0, 1) := by decide +kernel
theorem dX5_partOfAct_124 : decode cX5_partOfAct 124 = .ok (.getfield 17, 3) := by decide +kernel
theorem dX5_partOfAct_127 : decode cX5_partOfAct 127 = .ok (.iload 4, 2) := by decide +kernel
theorem dX5_partOfAct_129 : decode cX5_partOfAct 129 = .ok (.aaload, 1) := by decide +kernel
theorem dX5_partOfAct_130 : decode cX5_partOfAct 130 = .ok (.getfield 60, 3) := by decide +kernel
theorem dX5_partOfAct_133 : decode cX5_partOfAct 133 = .ok (.ireturn, 1) := by decide +kernel
theorem dX5_partOfAct_134 : decode cX5_partOfAct 134 = .ok (.aload_n 0, 1) := by decide +kernel
theorem dX5_partOfAct_135 : decode cX5_partOfAct 135 = .ok (.getfield 17, 3) := by decide +kernel
theorem dX5_partOfAct_138 : decode cX5_partOfAct 138 = .ok (.iload 4, 2) := by decide +kernel
theorem dX5_partOfAct_140 : decode cX5_partOfAct 140 = .ok (.aaload, 1) := by decide +kernel
theorem dX5_partOfAct_141 : decode cX5_partOfAct 141 = .ok (.getfield 63, 3) := by decide +kernel
theorem dX5_partOfAct_144 : decode cX5_partOfAct 144 = .ok (.ireturn, 1) := by decide +kernel
end
section
/-! decode rows -/
theorem dX6_init_0 : decode cX6_init 0 = .ok (.aload_n 0, 1) := by decide +kernel
theorem dX6_init_1 : decode cX6_init 1 = .ok (.invokespecial 3, 3) := by decide +kernel
theorem dX6_init_4 : decode cX6_init 4 = .ok (.aload_n 0, 1) := by decide +kernel
theorem dX6_init_5 : decode cX6_init 5 = .ok (.new 9, 3) := by decide +kernel
theorem dX6_init_8 : decode cX6_init 8 = .ok (.dup, 1) := by decide +kernel
theorem dX6_init_9 : decode cX6_init 9 = .ok (.invokespecial 11, 3) := by decide +kernel
theorem dX6_init_12 : decode cX6_init 12 = .ok (.putfield 12, 3) := by decide +kernel
theorem dX6_init_15 : decode cX6_init 15 = .ok (.aload_n 0, 1) := by decide +kernel
theorem dX6_init_16 : decode cX6_init 16 = .ok (.new 16, 3) := by decide +kernel
theorem dX6_init_19 : decode cX6_init 19 = .ok (.dup, 1) := by decide +kernel
theorem dX6_init_20 : decode cX6_init 20 = .ok (.invokespecial 18, 3) := by decide +kernel
theorem dX6_init_23 : decode cX6_init 23 = .ok (.putfield 19, 3) := by decide +kernel
theorem dX6_init_26 : decode cX6_init 26 = .ok (.aload_n 0, 1) := by decide +kernel
theorem dX6_init_27 : decode cX6_init 27 = .ok (.new 23, 3) := by decide +kernel
theorem dX6_init_30 : decode cX6_init 30 = .ok (.dup, 1) := by decide +kernel
theorem dX6_init_31 : decode cX6_init 31 = .ok (.invokespecial 25, 3) := by decide +kernel
theorem dX6_init_34 : decode cX6_init 34 = .ok (.putfield 26, 3) := by decide +kernel
theorem dX6_init_37 : decode cX6_init 37 = .ok (.aload_n 0, 1) := by decide +kernel
theorem dX6_init_38 : decode cX6_init 38 = .ok (.new 30, 3) := by decide +kernel
theorem dX6_init_41 : decode cX6_init 41 = .ok (.dup, 1) := by decide +kernel
theorem dX6_init_42 : decode cX6_init 42 = .ok (.invokespecial 32, 3) := by decide +kernel
theorem dX6_init_45 : decode cX6_init 45 = .ok (.putfield 33, 3) := by decide +kernel
theorem dX6_init_48 : decode cX6_init 48 = .ok (.aload_n 0, 1) := by decide +kernel
theorem dX6_init_49 : decode cX6_init 49 = .ok (.iconst 2, 1) := by decide +kernel
theorem dX6_init_50 : decode cX6_init 50 = .ok (.anewarray 9, 3) := by decide +kernel
theorem dX6_init_53 : decode cX6_init 53 = .ok (.putfield 37, 3) := by decide +kernel
theorem dX6_init_56 : decode cX6_init 56 = .ok (.return_, 1) := by decide +kernel
theorem dX6_table_0 : decode cX6_table 0 = .ok (.iload_n 1, 1) := by decide +kernel
theorem dX6_table_1 : decode cX6_table 1 = .ok (.bipush 6, 2) := by decide +kernel
theorem dX6_table_3 : decode cX6_table 3 = .ok (.invokestatic 41, 3) := by decide +kernel
theorem dX6_table_6 : decode cX6_table 6 = .ok (.ifCond .ne 5, 3) := by decide +kernel
theorem dX6_table_9 : decode cX6_table 9 = .ok (.iconst (-1), 1) := by decide +kernel
theorem dX6_table_10 : decode cX6_table 10 = .ok (.ireturn, 1) := by decide +kernel
theorem dX6_table_11 : decode cX6_table 11 = .ok (.aload_n 0, 1) := by decide +kernel
theorem dX6_table_12 : decode cX6_table 12 = .ok (.getfield 12, 3) := by decide +kernel
theorem dX6_table_15 : decode cX6_table 15 = .ok (.getfield 45, 3) := by decide +kernel
theorem dX6_table_18 : decode cX6_table 18 = .ok (.bipush 8, 2) := by decide +kernel
theorem dX6_table_20 : decode cX6_table 20 = .ok (.if_icmp .lt 6, 3) := by decide +kernel
theorem dX6_table_23 : decode cX6_table 23 = .ok (.bipush (-4), 2) := by decide +kernel
theorem dX6_table_25 : decode cX6_table 25 = .ok (.ireturn, 1) := by decide +kernel
theorem dX6_table_26 : decode cX6_table 26 = .ok (.aload_n 0, 1) := by decide +kernel
theorem dX6_table_27 : decode cX6_table 27 = .ok (.getfield 12, 3) := by decide +kernel
theorem dX6_table_30 : decode cX6_table 30 = .ok (.iload_n 1, 1) := by decide +kernel
theorem dX6_table_31 : decode cX6_table 31 = .ok (.invokevirtual 49, 3) := by decide +kernel
theorem dX6_table_34 : decode cX6_table 34 = .ok (.ireturn, 1) := by decide +kernel
theorem dX6_entry_0 : decode cX6_entry 0 = .ok (.aload_n 0, 1) := by decide +kernel
theorem dX6_entry_1 : decode cX6_entry 1 = .ok (.getfield 12, 3) := by decide +kernel
theorem dX6_entry_4 : decode cX6_entry 4 = .ok (.iload_n 1, 1) := by decide +kernel
theorem dX6_entry_5 : decode cX6_entry 5 = .ok (.invokevirtual 53, 3) := by decide +kernel
theorem dX6_entry_8 : decode cX6_entry 8 = .ok (.ifCond .ne 5, 3) := by decide +kernel
theorem dX6_entry_11 : decode cX6_entry 11 = .ok (.iconst (-1), 1) := by decide +kernel
theorem dX6_entry_12 : decode cX6_entry 12 = .ok (.ireturn, 1) := by decide +kernel
theorem dX6_entry_13 : decode cX6_entry 13 = .ok (.iload_n 2, 1) := by decide +kernel
theorem dX6_entry_14 : decode cX6_entry 14 = .ok (.sipush 255, 3) := by decide +kernel
theorem dX6_entry_17 : decode cX6_entry 17 = .ok (.invokestatic 57, 3) := by decide +kernel
theorem dX6_entry_20 : decode cX6_entry 20 = .ok (.ifCond .eq 14, 3) := by decide +kernel
theorem dX6_entry_23 : decode cX6_entry 23 = .ok (.iload_n 3, 1) := by decide +kernel
theorem dX6_entry_24 : decode cX6_entry 24 = .ok (.iload 4, 2) := by decide +kernel
theorem dX6_entry_26 : decode cX6_entry 26 = .ok (.iload 5, 2) := by decide +kernel
theorem dX6_entry_28 : decode cX6_entry 28 = .ok (.invokestatic 60, 3) := by decide +kernel
theorem dX6_entry_31 : decode cX6_entry 31 = .ok (.ifCond .ne 6, 3) := by decide +kernel
theorem dX6_entry_34 : decode cX6_entry 34 = .ok (.bipush (-2), 2) := by decide +kernel
theorem dX6_entry_36 : decode cX6_entry 36 = .ok (.ireturn, 1) := by decide +kernel
theorem dX6_entry_37 : decode cX6_entry 37 = .ok (.aload_n 0, 1) := by decide +kernel
theorem dX6_entry_38 : decode cX6_entry 38 = .ok (.getfield 12, 3) := by decide +kernel
theorem dX6_entry_41 : decode cX6_entry 41 = .ok (.getfield 64, 3) := by decide +kernel
theorem dX6_entry_44 : decode cX6_entry 44 = .ok (.iload_n 1, 1) := by decide +kernel
theorem dX6_entry_45 : decode cX6_entry 45 = .ok (.aaload, 1) := by decide +kernel
theorem dX6_entry_46 : decode cX6_entry 46 = .ok (.astore 6, 2) := by decide +kernel
theorem dX6_entry_48 : decode cX6_entry 48 = .ok (.aload 6, 2) := by decide +kernel
theorem dX6_entry_50 : decode cX6_entry 50 = .ok (.iload_n 2, 1) := by decide +kernel
theorem dX6_entry_51 : decode cX6_entry 51 = .ok (.invokevirtual 68, 3) := by decide +kernel
theorem dX6_entry_54 : decode cX6_entry 54 = .ok (.iconst 4, 1) := by decide +kernel
theorem dX6_entry_55 : decode cX6_entry 55 = .ok (.if_icmp .ne 17, 3) := by decide +kernel
theorem dX6_entry_58 : decode cX6_entry 58 = .ok (.aload_n 0, 1) := by decide +kernel
theorem dX6_entry_59 : decode cX6_entry 59 = .ok (.getfield 12, 3) := by decide +kernel
theorem dX6_entry_62 : decode cX6_entry 62 = .ok (.iload_n 1, 1) := by decide +kernel
theorem dX6_entry_63 : decode cX6_entry 63 = .ok (.iload_n 3, 1) := by decide +kernel
theorem dX6_entry_64 : decode cX6_entry 64 = .ok (.iload 5, 2) := by decide +kernel
theorem dX6_entry_66 : decode cX6_entry 66 = .ok (.invokevirtual 73, 3) := by decide +kernel
theorem dX6_entry_69 : decode cX6_entry 69 = .ok (.ifCond .eq 6, 3) := by decide +kernel
theorem dX6_entry_72 : decode cX6_entry 72 = .ok (.bipush (-5), 2) := by decide +kernel
theorem dX6_entry_74 : decode cX6_entry 74 = .ok (.ireturn, 1) := by decide +kernel
theorem dX6_entry_75 : decode cX6_entry 75 = .ok (.aload 6, 2) := by decide +kernel
theorem dX6_entry_77 : decode cX6_entry 77 = .ok (.getfield 76, 3) := by decide +kernel
theorem dX6_entry_80 : decode cX6_entry 80 = .ok (.iconst 4, 1) := by decide +kernel
theorem dX6_entry_81 : decode cX6_entry 81 = .ok (.if_icmp .lt 6, 3) := by decide +kernel
theorem dX6_entry_84 : decode cX6_entry 84 = .ok (.bipush (-4), 2) := by decide +kernel
theorem dX6_entry_86 : decode cX6_entry 86 = .ok (.ireturn, 1) := by decide +kernel
theorem dX6_entry_87 : decode cX6_entry 87 = .ok (.aload 6, 2) := by decide +kernel
theorem dX6_entry_89 : decode cX6_entry 89 = .ok (.iload_n 2, 1) := by decide +kernel
theorem dX6_entry_90 : decode cX6_entry 90 = .ok (.iload_n 3, 1) := by decide +kernel
theorem dX6_entry_91 : decode cX6_entry 91 = .ok (.iload 4, 2) := by decide +kernel
theorem dX6_entry_93 : decode cX6_entry 93 = .ok (.iload 5, 2) := by decide +kernel
theorem dX6_entry_95 : decode cX6_entry 95 = .ok (.invokevirtual 79, 3) := by decide +kernel
theorem dX6_entry_98 : decode cX6_entry 98 = .ok (.ireturn, 1) := by decide +kernel
theorem dX6_otherwise_0 : decode cX6_otherwise 0 = .ok (.aload_n 0, 1) := by decide +kernel
theorem dX6_otherwise_1 : decode cX6_otherwise 1 = .ok (.getfield 12, 3) := by decide +kernel
theorem dX6_otherwise_4 : decode cX6_otherwise 4 = .ok (.iload_n 1, 1) := by decide +kernel
theorem dX6_otherwise_5 : decode cX6_otherwise 5 = .ok (.invokevirtual 53, 3) := by decide +kernel
theorem dX6_otherwise_8 : decode cX6_otherwise 8 = .ok (.ifCond .ne 5, 3) := by decide +kernel
theorem dX6_otherwise_11 : decode cX6_otherwise 11 = .ok (.iconst (-1), 1) := by decide +kernel
theorem dX6_otherwise_12 : decode cX6_otherwise 12 = .ok (.ireturn, 1) := by decide +kernel
theorem dX6_otherwise_13 : decode cX6_otherwise 13 = .ok (.iload_n 2, 1) := by decide +kernel
theorem dX6_otherwise_14 : decode cX6_otherwise 14 = .ok (.iload_n 3, 1) := by decide +kernel
theorem dX6_otherwise_15 : decode cX6_otherwise 15 = .ok (.iload 4, 2) := by decide +kernel
theorem dX6_otherwise_17 : decode cX6_otherwise 17 = .ok (.invokestatic 60, 3) := by decide +kernel
theorem dX6_otherwise_20 : decode cX6_otherwise 20 = .ok (.ifCond .ne 6, 3) := by decide +kernel
theorem dX6_otherwise_23 : decode cX6_otherwise 23 = .ok (.bipush (-2), 2) := by decide +kernel
theorem dX6_otherwise_25 : decode cX6_otherwise 25 = .ok (.ireturn, 1) := by decide +kernel
theorem dX6_otherwise_26 : decode cX6_otherwise 26 = .ok (.aload_n 0, 1) := by decide +kernel
theorem dX6_otherwise_27 : decode cX6_otherwise 27 = .ok (.getfield 12, 3) := by decide +kernel
theorem dX6_otherwise_30 : decode cX6_otherwise 30 = .ok (.iload_n 1, 1) := by decide +kernel
theorem dX6_otherwise_31 : decode cX6_otherwise 31 = .ok (.iload_n 2, 1) := by decide +kernel
theorem dX6_otherwise_32 : decode cX6_otherwise 32 = .ok (.iload 4, 2) := by decide +kernel
theorem dX6_otherwise_34 : decode cX6_otherwise 34 = .ok (.invokevirtual 73, 3) := by decide +kernel
theorem dX6_otherwise_37 : decode cX6_otherwise 37 = .ok (.ifCond .eq 6, 3) := by decide +kernel
theorem dX6_otherwise_40 : decode cX6_otherwise 40 = .ok (.bipush (-5), 2) := by decide +kernel
theorem dX6_otherwise_42 : decode cX6_otherwise 42 = .ok (.ireturn, 1) := by decide +kernel
theorem dX6_otherwise_43 : decode cX6_otherwise 43 = .ok (.aload_n 0, 1) := by decide +kernel
theorem dX6_otherwise_44 : decode cX6_otherwise 44 = .ok (.getfield 12, 3) := by decide +kernel
theorem dX6_otherwise_47 : decode cX6_otherwise 47 = .ok (.getfield 64, 3) := by decide +kernel
theorem dX6_otherwise_50 : decode cX6_otherwise 50 = .ok (.iload_n 1, 1) := by decide +kernel
theorem dX6_otherwise_51 : decode cX6_otherwise 51 = .ok (.aaload, 1) := by decide +kernel
theorem dX6_otherwise_52 : decode cX6_otherwise 52 = .ok (.getfield 83, 3) := by decide +kernel
theorem dX6_otherwise_55 : decode cX6_otherwise 55 = .ok (.iconst 4, 1) := by decide +kernel
theorem dX6_otherwise_56 : decode cX6_otherwise 56 = .ok (.aaload, 1) := by decide +kernel
theorem dX6_otherwise_57 : decode cX6_otherwise 57 = .ok (.astore 5, 2) := by decide +kernel
theorem dX6_otherwise_59 : decode cX6_otherwise 59 = .ok (.aload 5, 2) := by decide +kernel
theorem dX6_otherwise_61 : decode cX6_otherwise 61 = .ok (.getfield 87, 3) := by decide +kernel
theorem dX6_otherwise_64 : decode cX6_otherwise 64 = .ok (.istore 6, 2) := by decide +kernel
theorem dX6_otherwise_66 : decode cX6_otherwise 66 = .ok (.aload 5, 2) := by decide +kernel
theorem dX6_otherwise_68 : decode cX6_otherwise 68 = .ok (.iload_n 2, 1) := by decide +kernel
theorem dX6_otherwise_69 : decode cX6_otherwise 69 = .ok (.iload_n 3, 1) := by decide +kernel
theorem dX6_otherwise_70 : decode cX6_otherwise 70 = .ok (.iload 4, 2) := by decide +kernel
theorem dX6_otherwise_72 : decode cX6_otherwise 72 = .ok (.invokevirtual 92, 3) := by decide +kernel
theorem dX6_otherwise_75 : decode cX6_otherwise 75 = .ok (.iload 6, 2) := by decide +kernel
theorem dX6_otherwise_77 : decode cX6_otherwise 77 = .ok (.ireturn, 1) := by decide +kernel
theorem dX6_forget_0 : decode cX6_forget 0 = .ok (.aload_n 0, 1) := by decide +kernel
theorem dX6_forget_1 : decode cX6_forget 1 = .ok (.getfield 12, 3) := by decide +kernel
theorem dX6_forget_4 : decode cX6_forget 4 = .ok (.iload_n 1, 1) := by decide +kernel
theorem dX6_forget_5 : decode cX6_forget 5 = .ok (.invokevirtual 53, 3) := by decide +kernel
theorem dX6_forget_8 : decode cX6_forget 8 = .ok (.ifCond .ne 5, 3) := by decide +kernel
theorem dX6_forget_11 : decode cX6_forget 11 = .ok (.iconst (-1), 1) := by decide +kernel
theorem dX6_forget_12 : decode cX6_forget 12 = .ok (.ireturn, 1) := by decide +kernel
theorem dX6_forget_13 : decode cX6_forget 13 = .ok (.aload_n 0, 1) := by decide +kernel
theorem dX6_forget_14 : decode cX6_forget 14 = .ok (.getfield 12, 3) := by decide +kernel
theorem dX6_forget_17 : decode cX6_forget 17 = .ok (.getfield 64, 3) := by decide +kernel
theorem dX6_forget_20 : decode cX6_forget 20 = .ok (.iload_n 1, 1) := by decide +kernel
theorem dX6_forget_21 : decode cX6_forget 21 = .ok (.aaload, 1) := by decide +kernel
theorem dX6_forget_22 : decode cX6_forget 22 = .ok (.astore_n 3, 1) := by decide +kernel
theorem dX6_forget_23 : decode cX6_forget 23 = .ok (.iload_n 2, 1) := by decide +kernel
theorem dX6_forget_24 : decode cX6_forget 24 = .ok (.aload_n 3, 1) := by decide +kernel
theorem dX6_forget_25 : decode cX6_forget 25 = .ok (.getfield 76, 3) := by decide +kernel
theorem dX6_forget_28 : decode cX6_forget 28 = .ok (.invokestatic 41, 3) := by decide +kernel
theorem dX6_forget_31 : decode cX6_forget 31 = .ok (.ifCond .ne 6, 3) := by decide +kernel
theorem dX6_forget_34 : decode cX6_forget 34 = .ok (.bipush (-2), 2) := by decide +kernel
theorem dX6_forget_36 : decode cX6_forget 36 = .ok (.ireturn, 1) := by decide +kernel
theorem dX6_forget_37 : decode cX6_forget 37 = .ok (.aload_n 3, 1) := by decide +kernel
theorem dX6_forget_38 : decode cX6_forget 38 = .ok (.iload_n 2, 1) := by decide +kernel
theorem dX6_forget_39 : decode cX6_forget 39 = .ok (.invokevirtual 96, 3) := by decide +kernel
theorem dX6_forget_42 : decode cX6_forget 42 = .ok (.ireturn, 1) := by decide +kernel
theorem dX6_drop_0 : decode cX6_drop 0 = .ok (.aload_n 0, 1) := by decide +kernel
theorem dX6_drop_1 : decode cX6_drop 1 = .ok (.getfield 12, 3) := by decide +kernel
theorem dX6_drop_4 : decode cX6_drop 4 = .ok (.iload_n 1, 1) := by decide +kernel
theorem dX6_drop_5 : decode cX6_drop 5 = .ok (.invokevirtual 53, 3) := by decide +kernel
theorem dX6_drop_8 : decode cX6_drop 8 = .ok (.ifCond .ne 5, 3) := by decide +kernel
theorem dX6_drop_11 : decode cX6_drop 11 = .ok (.iconst (-1), 1) := by decide +kernel
theorem dX6_drop_12 : decode cX6_drop 12 = .ok (.ireturn, 1) := by decide +kernel
theorem dX6_drop_13 : decode cX6_drop 13 = .ok (.aload_n 0, 1) := by decide +kernel
theorem dX6_drop_14 : decode cX6_drop 14 = .ok (.getfield 12, 3) := by decide +kernel
theorem dX6_drop_17 : decode cX6_drop 17 = .ok (.iload_n 1, 1) := by decide +kernel
theorem dX6_drop_18 : decode cX6_drop 18 = .ok (.invokevirtual 99, 3) := by decide +kernel
theorem dX6_drop_21 : decode cX6_drop 21 = .ok (.ireturn, 1) := by decide +kernel
theorem dX6_rule_0 : decode cX6_rule 0 = .ok (.iload_n 1, 1) := by decide +kernel
theorem dX6_rule_1 : decode cX6_rule 1 = .ok (.getstatic 102, 3) := by decide +kernel
theorem dX6_rule_4 : decode cX6_rule 4 = .ok (.arraylength, 1) := by decide +kernel
theorem dX6_rule_5 : decode cX6_rule 5 = .ok (.invokestatic 41, 3) := by decide +kernel
theorem dX6_rule_8 : decode cX6_rule 8 = .ok (.ifCond .eq 21, 3) := by decide +kernel
theorem dX6_rule_11 : decode cX6_rule 11 = .ok (.iload_n 2, 1) := by decide +kernel
theorem dX6_rule_12 : decode cX6_rule 12 = .ok (.getstatic 106, 3) := by decide +kernel
theorem dX6_rule_15 : decode cX6_rule 15 = .ok (.iload_n 1, 1) := by decide +kernel
theorem dX6_rule_16 : decode cX6_rule 16 = .ok (.iaload, 1) := by decide +kernel
theorem dX6_rule_17 : decode cX6_rule 17 = .ok (.if_icmp .lt 12, 3) := by decide +kernel
theorem dX6_rule_20 : decode cX6_rule 20 = .ok (.iload_n 2, 1) := by decide +kernel
theorem dX6_rule_21 : decode cX6_rule 21 = .ok (.getstatic 109, 3) := by decide +kernel
theorem dX6_rule_24 : decode cX6_rule 24 = .ok (.iload_n 1, 1) := by decide +kernel
theorem dX6_rule_25 : decode cX6_rule 25 = .ok (.iaload, 1) := by decide +kernel
theorem dX6_rule_26 : decode cX6_rule 26 = .ok (.if_icmp .le 6, 3) := by decide +kernel
theorem dX6_rule_29 : decode cX6_rule 29 = .ok (.bipush (-2), 2) := by decide +kernel
theorem dX6_rule_31 : decode cX6_rule 31 = .ok (.ireturn, 1) := by decide +kernel
theorem dX6_rule_32 : decode cX6_rule 32 = .ok (.aload_n 0, 1) := by decide +kernel
theorem dX6_rule_33 : decode cX6_rule 33 = .ok (.getfield 12, 3) := by decide +kernel
theorem dX6_rule_36 : decode cX6_rule 36 = .ok (.getfield 112, 3) := by decide +kernel
theorem dX6_rule_39 : decode cX6_rule 39 = .ok (.iload_n 1, 1) := by decide +kernel
theorem dX6_rule_40 : decode cX6_rule 40 = .ok (.iaload, 1) := by decide +kernel
theorem dX6_rule_41 : decode cX6_rule 41 = .ok (.istore_n 3, 1) := by decide +kernel
theorem dX6_rule_42 : decode cX6_rule 42 = .ok (.aload_n 0, 1) := by decide +kernel
theorem dX6_rule_43 : decode cX6_rule 43 = .ok (.getfield 12, 3) := by decide +kernel
theorem dX6_rule_46 : decode cX6_rule 46 = .ok (.getfield 112, 3) := by decide +kernel
theorem dX6_rule_49 : decode cX6_rule 49 = .ok (.iload_n 1, 1) := by decide +kernel
theorem dX6_rule_50 : decode cX6_rule 50 = .ok (.iload_n 2, 1) := by decide +kernel
theorem dX6_rule_51 : decode cX6_rule 51 = .ok (.iastore, 1) := by decide +kernel
theorem dX6_rule_52 : decode cX6_rule 52 = .ok (.iload_n 3, 1) := by decide +kernel
theorem dX6_rule_53 : decode cX6_rule 53 = .ok (.ireturn, 1) := by decide +kernel
theorem dX6_told_0 : decode cX6_told 0 = .ok (.aload_n 0, 1) := by decide +kernel
theorem dX6_told_1 : decode cX6_told 1 = .ok (.getfield 12, 3) := by decide +kernel
theorem dX6_told_4 : decode cX6_told 4 = .ok (.iload_n 1, 1) := by decide +kernel
theorem dX6_told_5 : decode cX6_told 5 = .ok (.invokevirtual 53, 3) := by decide +kernel
theorem dX6_told_8 : decode cX6_told 8 = .ok (.ifCond .ne 5, 3) := by decide +kernel
theorem dX6_told_11 : decode cX6_told 11 = .ok (.iconst (-1), 1) := by decide +kernel
theorem dX6_told_12 : decode cX6_told 12 = .ok (.ireturn, 1) := by decide +kernel
theorem dX6_told_13 : decode cX6_told 13 = .ok (.aload_n 0, 1) := by decide +kernel
theorem dX6_told_14 : decode cX6_told 14 = .ok (.getfield 12, 3) := by decide +kernel
theorem dX6_told_17 : decode cX6_told 17 = .ok (.getfield 64, 3) := by decide +kernel
theorem dX6_told_20 : decode cX6_told 20 = .ok (.iload_n 1, 1) := by decide +kernel
theorem dX6_told_21 : decode cX6_told 21 = .ok (.aaload, 1) := by decide +kernel
theorem dX6_told_22 : decode cX6_told 22 = .ok (.astore_n 3, 1) := by decide +kernel
theorem dX6_told_23 : decode cX6_told 23 = .ok (.iload_n 2, 1) := by decide +kernel
theorem dX6_told_24 : decode cX6_told 24 = .ok (.tableswitch 126 0 6 #[44, 49, 54, 75, 111, 116, 121], 44) := by decide +kernel
theorem dX6_told_68 : decode cX6_told 68 = .ok (.aload_n 3, 1) := by decide +kernel
theorem dX6_told_69 : decode cX6_told 69 = .ok (.getfield 115, 3) := by decide +kernel
theorem dX6_told_72 : decode cX6_told 72 = .ok (.ireturn, 1) := by decide +kernel
theorem dX6_told_73 : decode cX6_told 73 = .ok (.aload_n 3, 1) := by decide +kernel
theorem dX6_told_74 : decode cX6_told 74 = .ok (.getfield 76, 3) := by decide +kernel
theorem dX6_told_77 : decode cX6_told 77 = .ok (.ireturn, 1) := by decide +kernel
theorem dX6_told_78 : decode cX6_told 78 = .ok (.aload_n 0, 1) := by decide +kernel
theorem dX6_told_79 : decode cX6_told 79 = .ok (.getfield 19, 3) := by decide +kernel
theorem dX6_told_82 : decode cX6_told 82 = .ok (.aload_n 0, 1) := by decide +kernel
theorem dX6_told_83 : decode cX6_told 83 = .ok (.getfield 12, 3) := by decide +kernel
theorem dX6_told_86 : decode cX6_told 86 = .ok (.invokevirtual 118, 3) := by decide +kernel
theorem dX6_told_89 : decode cX6_told 89 = .ok (.aload_n 0, 1) := by decide +kernel
theorem dX6_told_90 : decode cX6_told 90 = .ok (.getfield 19, 3) := by decide +kernel
theorem dX6_told_93 : decode cX6_told 93 = .ok (.getfield 122, 3) := by decide +kernel
theorem dX6_told_96 : decode cX6_told 96 = .ok (.iload_n 1, 1) := by decide +kernel
theorem dX6_told_97 : decode cX6_told 97 = .ok (.iaload, 1) := by decide +kernel
theorem dX6_told_98 : decode cX6_told 98 = .ok (.ireturn, 1) := by decide +kernel
theorem dX6_told_99 : decode cX6_told 99 = .ok (.aload_n 0, 1) := by decide +kernel
theorem dX6_told_100 : decode cX6_told 100 = .ok (.getfield 19, 3) := by decide +kernel
theorem dX6_told_103 : decode cX6_told 103 = .ok (.aload_n 0, 1) := by decide +kernel
theorem dX6_told_104 : decode cX6_told 104 = .ok (.getfield 12, 3) := by decide +kernel
theorem dX6_told_107 : decode cX6_told 107 = .ok (.invokevirtual 118, 3) := by decide +kernel
theorem dX6_told_110 : decode cX6_told 110 = .ok (.aload_n 0, 1) := by decide +kernel
theorem dX6_told_111 : decode cX6_told 111 = .ok (.getfield 19, 3) := by decide +kernel
theorem dX6_told_114 : decode cX6_told 114 = .ok (.getfield 125, 3) := by decide +kernel
theorem dX6_told_117 : decode cX6_told 117 = .ok (.ifCond .eq 15, 3) := by decide +kernel
theorem dX6_told_120 : decode cX6_told 120 = .ok (.aload_n 0, 1) := by decide +kernel
theorem dX6_told_121 : decode cX6_told 121 = .ok (.getfield 19, 3) := by decide +kernel
theorem dX6_told_124 : decode cX6_told 124 = .ok (.getfield 129, 3) := by decide +kernel
theorem dX6_told_127 : decode cX6_told 127 = .ok (.iload_n 1, 1) := by decide +kernel
theorem dX6_told_128 : decode cX6_told 128 = .ok (.iaload, 1) := by decide +kernel
theorem dX6_told_129 : decode cX6_told 129 = .ok (.goto 5, 3) := by decide +kernel
theorem dX6_told_132 : decode cX6_told 132 = .ok (.bipush (-3), 2) := by decide +kernel
theorem dX6_told_134 : decode cX6_told 134 = .ok (.ireturn, 1) := by decide +kernel
theorem dX6_told_135 : decode cX6_told 135 = .ok (.aload_n 3, 1) := by decide +kernel
theorem dX6_told_136 : decode cX6_told 136 = .ok (.invokevirtual 132, 3) := by decide +kernel
theorem dX6_told_139 : decode cX6_told 139 = .ok (.ireturn, 1) := by decide +kernel
theorem dX6_told_140 : decode cX6_told 140 = .ok (.aload_n 3, 1) := by decide +kernel
theorem dX6_told_141 : decode cX6_told 141 = .ok (.invokevirtual 136, 3) := by decide +kernel
theorem dX6_told_144 : decode cX6_told 144 = .ok (.ireturn, 1) := by decide +kernel
theorem dX6_told_145 : decode cX6_told 145 = .ok (.aload_n 3, 1) := by decide +kernel
theorem dX6_told_146 : decode cX6_told 146 = .ok (.invokevirtual 139, 3) := by decide +kernel
theorem dX6_told_149 : decode cX6_told 149 = .ok (.ireturn, 1) := by decide +kernel
theorem dX6_told_150 : decode cX6_told 150 = .ok (.aload_n 3, 1) := by decide +kernel
theorem dX6_told_151 : decode cX6_told 151 = .ok (.iload_n 2, 1) := by decide +kernel
theorem dX6_told_152 : decode cX6_told 152 = .ok (.invokevirtual 142, 3) := by decide +kernel
theorem dX6_told_155 : decode cX6_told 155 = .ok (.ireturn, 1) := by decide +kernel
theorem dX6_needs_0 : decode cX6_needs 0 = .ok (.aload_n 0, 1) := by decide +kernel
theorem dX6_needs_1 : decode cX6_needs 1 = .ok (.getfield 12, 3) := by decide +kernel
theorem dX6_needs_4 : decode cX6_needs 4 = .ok (.iload_n 1, 1) := by decide +kernel
theorem dX6_needs_5 : decode cX6_needs 5 = .ok (.invokevirtual 53, 3) := by decide +kernel
theorem dX6_needs_8 : decode cX6_needs 8 = .ok (.ifCond .eq 14, 3) := by decide +kernel
theorem dX6_needs_11 : decode cX6_needs 11 = .ok (.aload_n 0, 1) := by decide +kernel
theorem dX6_needs_12 : decode cX6_needs 12 = .ok (.getfield 12, 3) := by decide +kernel
theorem dX6_needs_15 : decode cX6_needs 15 = .ok (.iload_n 2, 1) := by decide +kernel
theorem dX6_needs_16 : decode cX6_needs 16 = .ok (.invokevirtual 53, 3) := by decide +kernel
theorem dX6_needs_19 : decode cX6_needs 19 = .ok (.ifCond .ne 5, 3) := by decide +kernel
theorem dX6_needs_22 : decode cX6_needs 22 = .ok (.iconst (-1), 1) := by decide +kernel
theorem dX6_needs_23 : decode cX6_needs 23 = .ok (.ireturn, 1) := by decide +kernel
theorem dX6_needs_24 : decode cX6_needs 24 = .ok (.iload_n 1, 1) := by decide +kernel
theorem dX6_needs_25 : decode cX6_needs 25 = .ok (.iload_n 2, 1) := by decide +kernel
theorem dX6_needs_26 : decode cX6_needs 26 = .ok (.if_icmp .ne 6, 3) := by decide +kernel
theorem dX6_needs_29 : decode cX6_needs 29 = .ok (.bipush (-2), 2) := by decide +kernel
theorem dX6_needs_31 : decode cX6_needs 31 = .ok (.ireturn, 1) := by decide +kernel
theorem dX6_needs_32 : decode cX6_needs 32 = .ok (.aload_n 0, 1) := by decide +kernel
theorem dX6_needs_33 : decode cX6_needs 33 = .ok (.getfield 19, 3) := by decide +kernel
theorem dX6_needs_36 : decode cX6_needs 36 = .ok (.aload_n 0, 1) := by decide +kernel
theorem dX6_needs_37 : decode cX6_needs 37 = .ok (.getfield 12, 3) := by decide +kernel
theorem dX6_needs_40 : decode cX6_needs 40 = .ok (.invokevirtual 118, 3) := by decide +kernel
theorem dX6_needs_43 : decode cX6_needs 43 = .ok (.aload_n 0, 1) := by decide +kernel
theorem dX6_needs_44 : decode cX6_needs 44 = .ok (.getfield 19, 3) := by decide +kernel
theorem dX6_needs_47 : decode cX6_needs 47 = .ok (.iload_n 1, 1) := by decide +kernel
theorem dX6_needs_48 : decode cX6_needs 48 = .ok (.iload_n 2, 1) := by decide +kernel
theorem dX6_needs_49 : decode cX6_needs 49 = .ok (.invokestatic 145, 3) := by decide +kernel
theorem dX6_needs_52 : decode cX6_needs 52 = .ok (.iload_n 1, 1) := by decide +kernel
theorem dX6_needs_53 : decode cX6_needs 53 = .ok (.iload_n 2, 1) := by decide +kernel
theorem dX6_needs_54 : decode cX6_needs 54 = .ok (.invokestatic 151, 3) := by decide +kernel
theorem dX6_needs_57 : decode cX6_needs 57 = .ok (.invokevirtual 154, 3) := by decide +kernel
theorem dX6_needs_60 : decode cX6_needs 60 = .ok (.ireturn, 1) := by decide +kernel
theorem dX6_stages_0 : decode cX6_stages 0 = .ok (.aload_n 0, 1) := by decide +kernel
theorem dX6_stages_1 : decode cX6_stages 1 = .ok (.getfield 19, 3) := by decide +kernel
theorem dX6_stages_4 : decode cX6_stages 4 = .ok (.aload_n 0, 1) := by decide +kernel
theorem dX6_stages_5 : decode cX6_stages 5 = .ok (.getfield 12, 3) := by decide +kernel
theorem dX6_stages_8 : decode cX6_stages 8 = .ok (.invokevirtual 118, 3) := by decide +kernel
theorem dX6_stages_11 : decode cX6_stages 11 = .ok (.aload_n 0, 1) := by decide +kernel
theorem dX6_stages_12 : decode cX6_stages 12 = .ok (.getfield 19, 3) := by decide +kernel
theorem dX6_stages_15 : decode cX6_stages 15 = .ok (.getfield 125, 3) := by decide +kernel
theorem dX6_stages_18 : decode cX6_stages 18 = .ok (.ifCond .eq 13, 3) := by decide +kernel
theorem dX6_stages_21 : decode cX6_stages 21 = .ok (.aload_n 0, 1) := by decide +kernel
theorem dX6_stages_22 : decode cX6_stages 22 = .ok (.getfield 19, 3) := by decide +kernel
theorem dX6_stages_25 : decode cX6_stages 25 = .ok (.invokevirtual 157, 3) := by decide +kernel
theorem dX6_stages_28 : decode cX6_stages 28 = .ok (.goto 5, 3) := by decide +kernel
theorem dX6_stages_31 : decode cX6_stages 31 = .ok (.bipush (-3), 2) := by decide +kernel
theorem dX6_stages_33 : decode cX6_stages 33 = .ok (.ireturn, 1) := by decide +kernel
theorem dX6_stage_0 : decode cX6_stage 0 = .ok (.iload_n 1, 1) := by decide +kernel
theorem dX6_stage_1 : decode cX6_stage 1 = .ok (.bipush 8, 2) := by decide +kernel
theorem dX6_stage_3 : decode cX6_stage 3 = .ok (.invokestatic 41, 3) := by decide +kernel
theorem dX6_stage_6 : decode cX6_stage 6 = .ok (.ifCond .eq 11, 3) := by decide +kernel
theorem dX6_stage_9 : decode cX6_stage 9 = .ok (.iload_n 2, 1) := by decide +kernel
theorem dX6_stage_10 : decode cX6_stage 10 = .ok (.iconst 1, 1) := by decide +kernel
theorem dX6_stage_11 : decode cX6_stage 11 = .ok (.invokestatic 57, 3) := by decide +kernel
theorem dX6_stage_14 : decode cX6_stage 14 = .ok (.ifCond .ne 6, 3) := by decide +kernel
theorem dX6_stage_17 : decode cX6_stage 17 = .ok (.bipush (-2), 2) := by decide +kernel
theorem dX6_stage_19 : decode cX6_stage 19 = .ok (.ireturn, 1) := by decide +kernel
theorem dX6_stage_20 : decode cX6_stage 20 = .ok (.aload_n 0, 1) := by decide +kernel
theorem dX6_stage_21 : decode cX6_stage 21 = .ok (.getfield 19, 3) := by decide +kernel
theorem dX6_stage_24 : decode cX6_stage 24 = .ok (.aload_n 0, 1) := by decide +kernel
theorem dX6_stage_25 : decode cX6_stage 25 = .ok (.getfield 12, 3) := by decide +kernel
theorem dX6_stage_28 : decode cX6_stage 28 = .ok (.invokevirtual 118, 3) := by decide +kernel
theorem dX6_stage_31 : decode cX6_stage 31 = .ok (.aload_n 0, 1) := by decide +kernel
theorem dX6_stage_32 : decode cX6_stage 32 = .ok (.getfield 19, 3) := by decide +kernel
theorem dX6_stage_35 : decode cX6_stage 35 = .ok (.getfield 125, 3) := by decide +kernel
theorem dX6_stage_38 : decode cX6_stage 38 = .ok (.ifCond .ne 6, 3) := by decide +kernel
theorem dX6_stage_41 : decode cX6_stage 41 = .ok (.bipush (-3), 2) := by decide +kernel
theorem dX6_stage_43 : decode cX6_stage 43 = .ok (.ireturn, 1) := by decide +kernel
theorem dX6_stage_44 : decode cX6_stage 44 = .ok (.iload_n 2, 1) := by decide +kernel
theorem dX6_stage_45 : decode cX6_stage 45 = .ok (.ifCond .ne 15, 3) := by decide +kernel
theorem dX6_stage_48 : decode cX6_stage 48 = .ok (.aload_n 0, 1) := by decide +kernel
theorem dX6_stage_49 : decode cX6_stage 49 = .ok (.getfield 19, 3) := by decide +kernel
theorem dX6_stage_52 : decode cX6_stage 52 = .ok (.getfield 160, 3) := by decide +kernel
theorem dX6_stage_55 : decode cX6_stage 55 = .ok (.iload_n 1, 1) := by decide +kernel
theorem dX6_stage_56 : decode cX6_stage 56 = .ok (.iaload, 1) := by decide +kernel
theorem dX6_stage_57 : decode cX6_stage 57 = .ok (.goto 12, 3) := by decide +kernel
theorem dX6_stage_60 : decode cX6_stage 60 = .ok (.aload_n 0, 1) := by decide +kernel
theorem dX6_stage_61 : decode cX6_stage 61 = .ok (.getfield 19, 3) := by decide +kernel
theorem dX6_stage_64 : decode cX6_stage 64 = .ok (.getfield 163, 3) := by decide +kernel
theorem dX6_stage_67 : decode cX6_stage 67 = .ok (.iload_n 1, 1) := by decide +kernel
theorem dX6_stage_68 : decode cX6_stage 68 = .ok (.iaload, 1) := by decide +kernel
theorem dX6_stage_69 : decode cX6_stage 69 = .ok (.ireturn, 1) := by decide +kernel
theorem dX6_fewest_0 : decode cX6_fewest 0 = .ok (.aload_n 0, 1) := by decide +kernel
theorem dX6_fewest_1 : decode cX6_fewest 1 = .ok (.getfield 19, 3) := by decide +kernel
theorem dX6_fewest_4 : decode cX6_fewest 4 = .ok (.aload_n 0, 1) := by decide +kernel
theorem dX6_fewest_5 : decode cX6_fewest 5 = .ok (.getfield 12, 3) := by decide +kernel
theorem dX6_fewest_8 : decode cX6_fewest 8 = .ok (.invokevirtual 118, 3) := by decide +kernel
theorem dX6_fewest_11 : decode cX6_fewest 11 = .ok (.aload_n 0, 1) := by decide +kernel
theorem dX6_fewest_12 : decode cX6_fewest 12 = .ok (.getfield 26, 3) := by decide +kernel
theorem dX6_fewest_15 : decode cX6_fewest 15 = .ok (.aload_n 0, 1) := by decide +kernel
theorem dX6_fewest_16 : decode cX6_fewest 16 = .ok (.getfield 19, 3) := by decide +kernel
theorem dX6_fewest_19 : decode cX6_fewest 19 = .ok (.aload_n 0, 1) := by decide +kernel
theorem dX6_fewest_20 : decode cX6_fewest 20 = .ok (.getfield 12, 3) := by decide +kernel
theorem dX6_fewest_23 : decode cX6_fewest 23 = .ok (.invokevirtual 166, 3) := by decide +kernel
theorem dX6_fewest_26 : decode cX6_fewest 26 = .ok (.ireturn, 1) := by decide +kernel
theorem dX6_tell_0 : decode cX6_tell 0 = .ok (.iload_n 1, 1) := by decide +kernel
theorem dX6_tell_1 : decode cX6_tell 1 = .ok (.bipush 6, 2) := by decide +kernel
theorem dX6_tell_3 : decode cX6_tell 3 = .ok (.invokestatic 41, 3) := by decide +kernel
theorem dX6_tell_6 : decode cX6_tell 6 = .ok (.ifCond .ne 5, 3) := by decide +kernel
theorem dX6_tell_9 : decode cX6_tell 9 = .ok (.iconst (-1), 1) := by decide +kernel
theorem dX6_tell_10 : decode cX6_tell 10 = .ok (.ireturn, 1) := by decide +kernel
theorem dX6_tell_11 : decode cX6_tell 11 = .ok (.iload_n 2, 1) := by decide +kernel
theorem dX6_tell_12 : decode cX6_tell 12 = .ok (.sipush 255, 3) := by decide +kernel
theorem dX6_tell_15 : decode cX6_tell 15 = .ok (.invokestatic 57, 3) := by decide +kernel
theorem dX6_tell_18 : decode cX6_tell 18 = .ok (.ifCond .ne 6, 3) := by decide +kernel
theorem dX6_tell_21 : decode cX6_tell 21 = .ok (.bipush (-2), 2) := by decide +kernel
theorem dX6_tell_23 : decode cX6_tell 23 = .ok (.ireturn, 1) := by decide +kernel
theorem dX6_tell_24 : decode cX6_tell 24 = .ok (.aload_n 0, 1) := by decide +kernel
theorem dX6_tell_25 : decode cX6_tell 25 = .ok (.getfield 12, 3) := by decide +kernel
theorem dX6_tell_28 : decode cX6_tell 28 = .ok (.getfield 170, 3) := by decide +kernel
theorem dX6_tell_31 : decode cX6_tell 31 = .ok (.iload_n 1, 1) := by decide +kernel
theorem dX6_tell_32 : decode cX6_tell 32 = .ok (.iaload, 1) := by decide +kernel
theorem dX6_tell_33 : decode cX6_tell 33 = .ok (.istore_n 3, 1) := by decide +kernel
theorem dX6_tell_34 : decode cX6_tell 34 = .ok (.aload_n 0, 1) := by decide +kernel
theorem dX6_tell_35 : decode cX6_tell 35 = .ok (.getfield 12, 3) := by decide +kernel
theorem dX6_tell_38 : decode cX6_tell 38 = .ok (.getfield 170, 3) := by decide +kernel
theorem dX6_tell_41 : decode cX6_tell 41 = .ok (.iload_n 1, 1) := by decide +kernel
theorem dX6_tell_42 : decode cX6_tell 42 = .ok (.iload_n 2, 1) := by decide +kernel
theorem dX6_tell_43 : decode cX6_tell 43 = .ok (.iastore, 1) := by decide +kernel
theorem dX6_tell_44 : decode cX6_tell 44 = .ok (.iload_n 3, 1) := by decide +kernel
theorem dX6_tell_45 : decode cX6_tell 45 = .ok (.ireturn, 1) := by decide +kernel
theorem dX6_put_0 : decode cX6_put 0 = .ok (.iload_n 1, 1) := by decide +kernel
theorem dX6_put_1 : decode cX6_put 1 = .ok (.iconst 4, 1) := by decide +kernel
theorem dX6_put_2 : decode cX6_put 2 = .ok (.invokestatic 41, 3) := by decide +kernel
theorem dX6_put_5 : decode cX6_put 5 = .ok (.ifCond .ne 5, 3) := by decide +kernel
theorem dX6_put_8 : decode cX6_put 8 = .ok (.iconst (-1), 1) := by decide +kernel
theorem dX6_put_9 : decode cX6_put 9 = .ok (.ireturn, 1) := by decide +kernel
theorem dX6_put_10 : decode cX6_put 10 = .ok (.iload_n 2, 1) := by decide +kernel
theorem dX6_put_11 : decode cX6_put 11 = .ok (.ldc 173, 2) := by decide +kernel
theorem dX6_put_13 : decode cX6_put 13 = .ok (.invokestatic 57, 3) := by decide +kernel
theorem dX6_put_16 : decode cX6_put 16 = .ok (.ifCond .ne 6, 3) := by decide +kernel
theorem dX6_put_19 : decode cX6_put 19 = .ok (.bipush (-2), 2) := by decide +kernel
theorem dX6_put_21 : decode cX6_put 21 = .ok (.ireturn, 1) := by decide +kernel
theorem dX6_put_22 : decode cX6_put 22 = .ok (.aload_n 0, 1) := by decide +kernel
theorem dX6_put_23 : decode cX6_put 23 = .ok (.getfield 12, 3) := by decide +kernel
theorem dX6_put_26 : decode cX6_put 26 = .ok (.getfield 174, 3) := by decide +kernel
theorem dX6_put_29 : decode cX6_put 29 = .ok (.iload_n 1, 1) := by decide +kernel
theorem dX6_put_30 : decode cX6_put 30 = .ok (.iaload, 1) := by decide +kernel
theorem dX6_put_31 : decode cX6_put 31 = .ok (.istore_n 3, 1) := by decide +kernel
theorem dX6_put_32 : decode cX6_put 32 = .ok (.aload_n 0, 1) := by decide +kernel
theorem dX6_put_33 : decode cX6_put 33 = .ok (.getfield 12, 3) := by decide +kernel
theorem dX6_put_36 : decode cX6_put 36 = .ok (.getfield 174, 3) := by decide +kernel
theorem dX6_put_39 : decode cX6_put 39 = .ok (.iload_n 1, 1) := by decide +kernel
theorem dX6_put_40 : decode cX6_put 40 = .ok (.iload_n 2, 1) := by decide +kernel
theorem dX6_put_41 : decode cX6_put 41 = .ok (.iastore, 1) := by decide +kernel
theorem dX6_put_42 : decode cX6_put 42 = .ok (.iload_n 3, 1) := by decide +kernel
theorem dX6_put_43 : decode cX6_put 43 = .ok (.ireturn, 1) := by decide +kernel
theorem dX6_register_0 : decode cX6_register 0 = .ok (.iload_n 1, 1) := by decide +kernel
theorem dX6_register_1 : decode cX6_register 1 = .ok (.iconst 4, 1) := by decide +kernel
theorem dX6_register_2 : decode cX6_register 2 = .ok (.invokestatic 41, 3) := by decide +kernel
theorem dX6_register_5 : decode cX6_register 5 = .ok (.ifCond .eq 15, 3) := by decide +kernel
theorem dX6_register_8 : decode cX6_register 8 = .ok (.aload_n 0, 1) := by decide +kernel
theorem dX6_register_9 : decode cX6_register 9 = .ok (.getfield 12, 3) := by decide +kernel
theorem dX6_register_12 : decode cX6_register 12 = .ok (.getfield 174, 3) := by decide +kernel
theorem dX6_register_15 : decode cX6_register 15 = .ok (.iload_n 1, 1) := by decide +kernel
theorem dX6_register_16 : decode cX6_register 16 = .ok (.iaload, 1) := by decide +kernel
theorem dX6_register_17 : decode cX6_register 17 = .ok (.goto 4, 3) := by decide +kernel
theorem dX6_register_20 : decode cX6_register 20 = .ok (.iconst (-1), 1) := by decide +kernel
theorem dX6_register_21 : decode cX6_register 21 = .ok (.ireturn, 1) := by decide +kernel
theorem dX6_run_0 : decode cX6_run 0 = .ok (.aload_n 0, 1) := by decide +kernel
theorem dX6_run_1 : decode cX6_run 1 = .ok (.getfield 19, 3) := by decide +kernel
theorem dX6_run_4 : decode cX6_run 4 = .ok (.aload_n 0, 1) := by decide +kernel
theorem dX6_run_5 : decode cX6_run 5 = .ok (.getfield 12, 3) := by decide +kernel
theorem dX6_run_8 : decode cX6_run 8 = .ok (.invokevirtual 118, 3) := by decide +kernel
theorem dX6_run_11 : decode cX6_run 11 = .ok (.aload_n 0, 1) := by decide +kernel
theorem dX6_run_12 : decode cX6_run 12 = .ok (.getfield 19, 3) := by decide +kernel
theorem dX6_run_15 : decode cX6_run 15 = .ok (.getfield 125, 3) := by decide +kernel
theorem dX6_run_18 : decode cX6_run 18 = .ok (.ifCond .ne 6, 3) := by decide +kernel
theorem dX6_run_21 : decode cX6_run 21 = .ok (.bipush (-3), 2) := by decide +kernel
theorem dX6_run_23 : decode cX6_run 23 = .ok (.ireturn, 1) := by decide +kernel
theorem dX6_run_24 : decode cX6_run 24 = .ok (.aload_n 0, 1) := by decide +kernel
theorem dX6_run_25 : decode cX6_run 25 = .ok (.getfield 33, 3) := by decide +kernel
theorem dX6_run_28 : decode cX6_run 28 = .ok (.aload_n 0, 1) := by decide +kernel
theorem dX6_run_29 : decode cX6_run 29 = .ok (.getfield 12, 3) := by decide +kernel
theorem dX6_run_32 : decode cX6_run 32 = .ok (.invokevirtual 177, 3) := by decide +kernel
theorem dX6_run_35 : decode cX6_run 35 = .ok (.aload_n 0, 1) := by decide +kernel
theorem dX6_run_36 : decode cX6_run 36 = .ok (.dup, 1) := by decide +kernel
theorem dX6_run_37 : decode cX6_run 37 = .ok (.getfield 180, 3) := by decide +kernel
theorem dX6_run_40 : decode cX6_run 40 = .ok (.iconst 1, 1) := by decide +kernel
theorem dX6_run_41 : decode cX6_run 41 = .ok (.iadd, 1) := by decide +kernel
theorem dX6_run_42 : decode cX6_run 42 = .ok (.putfield 180, 3) := by decide +kernel
theorem dX6_run_45 : decode cX6_run 45 = .ok (.aload_n 0, 1) := by decide +kernel
theorem dX6_run_46 : decode cX6_run 46 = .ok (.dup, 1) := by decide +kernel
theorem dX6_run_47 : decode cX6_run 47 = .ok (.getfield 183, 3) := by decide +kernel
theorem dX6_run_50 : decode cX6_run 50 = .ok (.aload_n 0, 1) := by decide +kernel
theorem dX6_run_51 : decode cX6_run 51 = .ok (.getfield 33, 3) := by decide +kernel
theorem dX6_run_54 : decode cX6_run 54 = .ok (.getfield 186, 3) := by decide +kernel
theorem dX6_run_57 : decode cX6_run 57 = .ok (.iadd, 1) := by decide +kernel
theorem dX6_run_58 : decode cX6_run 58 = .ok (.putfield 183, 3) := by decide +kernel
theorem dX6_run_61 : decode cX6_run 61 = .ok (.aload_n 0, 1) := by decide +kernel
theorem dX6_run_62 : decode cX6_run 62 = .ok (.getfield 33, 3) := by decide +kernel
theorem dX6_run_65 : decode cX6_run 65 = .ok (.getfield 189, 3) := by decide +kernel
theorem dX6_run_68 : decode cX6_run 68 = .ok (.ifCond .eq 15, 3) := by decide +kernel
theorem dX6_run_71 : decode cX6_run 71 = .ok (.aload_n 0, 1) := by decide +kernel
theorem dX6_run_72 : decode cX6_run 72 = .ok (.dup, 1) := by decide +kernel
theorem dX6_run_73 : decode cX6_run 73 = .ok (.getfield 192, 3) := by decide +kernel
theorem dX6_run_76 : decode cX6_run 76 = .ok (.iconst 1, 1) := by decide +kernel
theorem dX6_run_77 : decode cX6_run 77 = .ok (.iadd, 1) := by decide +kernel
theorem dX6_run_78 : decode cX6_run 78 = .ok (.putfield 192, 3) := by decide +kernel
theorem dX6_run_81 : decode cX6_run 81 = .ok (.iconst 1, 1) := by decide +kernel
theorem dX6_run_82 : decode cX6_run 82 = .ok (.ireturn, 1) := by decide +kernel
theorem dX6_run_83 : decode cX6_run 83 = .ok (.aload_n 0, 1) := by decide +kernel
theorem dX6_run_84 : decode cX6_run 84 = .ok (.getfield 33, 3) := by decide +kernel
theorem dX6_run_87 : decode cX6_run 87 = .ok (.getfield 195, 3) := by decide +kernel
theorem dX6_run_90 : decode cX6_run 90 = .ok (.ifCond .eq 7, 3) := by decide +kernel
theorem dX6_run_93 : decode cX6_run 93 = .ok (.iconst 2, 1) := by decide +kernel
theorem dX6_run_94 : decode cX6_run 94 = .ok (.goto 4, 3) := by decide +kernel
theorem dX6_run_97 : decode cX6_run 97 = .ok (.iconst 0, 1) := by decide +kernel
theorem dX6_run_98 : decode cX6_run 98 = .ok (.ireturn, 1) := by decide +kernel
theorem dX6_out_0 : decode cX6_out 0 = .ok (.iload_n 1, 1) := by decide +kernel
theorem dX6_out_1 : decode cX6_out 1 = .ok (.bipush 6, 2) := by decide +kernel
theorem dX6_out_3 : decode cX6_out 3 = .ok (.invokestatic 57, 3) := by decide +kernel
theorem dX6_out_6 : decode cX6_out 6 = .ok (.ifCond .ne 6, 3) := by decide +kernel
theorem dX6_out_9 : decode cX6_out 9 = .ok (.bipush (-2), 2) := by decide +kernel
theorem dX6_out_11 : decode cX6_out 11 = .ok (.ireturn, 1) := by decide +kernel
theorem dX6_out_12 : decode cX6_out 12 = .ok (.aload_n 0, 1) := by decide +kernel
theorem dX6_out_13 : decode cX6_out 13 = .ok (.getfield 180, 3) := by decide +kernel
theorem dX6_out_16 : decode cX6_out 16 = .ok (.ifCond .ne 6, 3) := by decide +kernel
theorem dX6_out_19 : decode cX6_out 19 = .ok (.bipush (-6), 2) := by decide +kernel
theorem dX6_out_21 : decode cX6_out 21 = .ok (.ireturn, 1) := by decide +kernel
theorem dX6_out_22 : decode cX6_out 22 = .ok (.iload_n 1, 1) := by decide +kernel
theorem dX6_out_23 : decode cX6_out 23 = .ok (.bipush 6, 2) := by decide +kernel
theorem dX6_out_25 : decode cX6_out 25 = .ok (.if_icmp .ne 13, 3) := by decide +kernel
theorem dX6_out_28 : decode cX6_out 28 = .ok (.aload_n 0, 1) := by decide +kernel
theorem dX6_out_29 : decode cX6_out 29 = .ok (.getfield 33, 3) := by decide +kernel
theorem dX6_out_32 : decode cX6_out 32 = .ok (.getfield 186, 3) := by decide +kernel
theorem dX6_out_35 : decode cX6_out 35 = .ok (.goto 12, 3) := by decide +kernel
theorem dX6_out_38 : decode cX6_out 38 = .ok (.aload_n 0, 1) := by decide +kernel
theorem dX6_out_39 : decode cX6_out 39 = .ok (.getfield 33, 3) := by decide +kernel
theorem dX6_out_42 : decode cX6_out 42 = .ok (.getfield 198, 3) := by decide +kernel
theorem dX6_out_45 : decode cX6_out 45 = .ok (.iload_n 1, 1) := by decide +kernel
theorem dX6_out_46 : decode cX6_out 46 = .ok (.iaload, 1) := by decide +kernel
theorem dX6_out_47 : decode cX6_out 47 = .ok (.ireturn, 1) := by decide +kernel
theorem dX6_took_0 : decode cX6_took 0 = .ok (.iload_n 1, 1) := by decide +kernel
theorem dX6_took_1 : decode cX6_took 1 = .ok (.bipush 8, 2) := by decide +kernel
theorem dX6_took_3 : decode cX6_took 3 = .ok (.invokestatic 41, 3) := by decide +kernel
theorem dX6_took_6 : decode cX6_took 6 = .ok (.ifCond .eq 11, 3) := by decide +kernel
theorem dX6_took_9 : decode cX6_took 9 = .ok (.iload_n 2, 1) := by decide +kernel
theorem dX6_took_10 : decode cX6_took 10 = .ok (.iconst 4, 1) := by decide +kernel
theorem dX6_took_11 : decode cX6_took 11 = .ok (.invokestatic 41, 3) := by decide +kernel
theorem dX6_took_14 : decode cX6_took 14 = .ok (.ifCond .ne 6, 3) := by decide +kernel
theorem dX6_took_17 : decode cX6_took 17 = .ok (.bipush (-2), 2) := by decide +kernel
theorem dX6_took_19 : decode cX6_took 19 = .ok (.ireturn, 1) := by decide +kernel
theorem dX6_took_20 : decode cX6_took 20 = .ok (.iload_n 1, 1) := by decide +kernel
theorem dX6_took_21 : decode cX6_took 21 = .ok (.aload_n 0, 1) := by decide +kernel
theorem dX6_took_22 : decode cX6_took 22 = .ok (.getfield 33, 3) := by decide +kernel
theorem dX6_took_25 : decode cX6_took 25 = .ok (.getfield 201, 3) := by decide +kernel
theorem dX6_took_28 : decode cX6_took 28 = .ok (.if_icmp .ge 14, 3) := by decide +kernel
theorem dX6_took_31 : decode cX6_took 31 = .ok (.iload_n 2, 1) := by decide +kernel
theorem dX6_took_32 : decode cX6_took 32 = .ok (.aload_n 0, 1) := by decide +kernel
theorem dX6_took_33 : decode cX6_took 33 = .ok (.getfield 33, 3) := by decide +kernel
theorem dX6_took_36 : decode cX6_took 36 = .ok (.getfield 186, 3) := by decide +kernel
theorem dX6_took_39 : decode cX6_took 39 = .ok (.if_icmp .lt 6, 3) := by decide +kernel
theorem dX6_took_42 : decode cX6_took 42 = .ok (.bipush (-6), 2) := by decide +kernel
theorem dX6_took_44 : decode cX6_took 44 = .ok (.ireturn, 1) := by decide +kernel
theorem dX6_took_45 : decode cX6_took 45 = .ok (.aload_n 0, 1) := by decide +kernel
theorem dX6_took_46 : decode cX6_took 46 = .ok (.getfield 33, 3) := by decide +kernel
theorem dX6_took_49 : decode cX6_took 49 = .ok (.getfield 203, 3) := by decide +kernel
theorem dX6_took_52 : decode cX6_took 52 = .ok (.iload_n 2, 1) := by decide +kernel
theorem dX6_took_53 : decode cX6_took 53 = .ok (.aaload, 1) := by decide +kernel
theorem dX6_took_54 : decode cX6_took 54 = .ok (.iload_n 1, 1) := by decide +kernel
theorem dX6_took_55 : decode cX6_took 55 = .ok (.iaload, 1) := by decide +kernel
theorem dX6_took_56 : decode cX6_took 56 = .ok (.ireturn, 1) := by decide +kernel
theorem dX6_image_0 : decode cX6_image 0 = .ok (.iload_n 1, 1) := by decide +kernel
theorem dX6_image_1 : decode cX6_image 1 = .ok (.iconst 2, 1) := by decide +kernel
theorem dX6_image_2 : decode cX6_image 2 = .ok (.invokestatic 41, 3) := by decide +kernel
theorem dX6_image_5 : decode cX6_image 5 = .ok (.ifCond .ne 6, 3) := by decide +kernel
theorem dX6_image_8 : decode cX6_image 8 = .ok (.bipush (-2), 2) := by decide +kernel
theorem dX6_image_10 : decode cX6_image 10 = .ok (.ireturn, 1) := by decide +kernel
theorem dX6_image_11 : decode cX6_image 11 = .ok (.aload_n 0, 1) := by decide +kernel
theorem dX6_image_12 : decode cX6_image 12 = .ok (.getfield 37, 3) := by decide +kernel
theorem dX6_image_15 : decode cX6_image 15 = .ok (.iload_n 1, 1) := by decide +kernel
theorem dX6_image_16 : decode cX6_image 16 = .ok (.aaload, 1) := by decide +kernel
theorem dX6_image_17 : decode cX6_image 17 = .ok (.ifnonnull 16, 3) := by decide +kernel
theorem dX6_image_20 : decode cX6_image 20 = .ok (.aload_n 0, 1) := by decide +kernel
theorem dX6_image_21 : decode cX6_image 21 = .ok (.getfield 37, 3) := by decide +kernel
theorem dX6_image_24 : decode cX6_image 24 = .ok (.iload_n 1, 1) := by decide +kernel
theorem dX6_image_25 : decode cX6_image 25 = .ok (.new 9, 3) := by decide +kernel
theorem dX6_image_28 : decode cX6_image 28 = .ok (.dup, 1) := by decide +kernel
theorem dX6_image_29 : decode cX6_image 29 = .ok (.invokespecial 11, 3) := by decide +kernel
theorem dX6_image_32 : decode cX6_image 32 = .ok (.aastore, 1) := by decide +kernel
theorem dX6_image_33 : decode cX6_image 33 = .ok (.aload_n 0, 1) := by decide +kernel
theorem dX6_image_34 : decode cX6_image 34 = .ok (.getfield 37, 3) := by decide +kernel
theorem dX6_image_37 : decode cX6_image 37 = .ok (.iload_n 1, 1) := by decide +kernel
theorem dX6_image_38 : decode cX6_image 38 = .ok (.aaload, 1) := by decide +kernel
theorem dX6_image_39 : decode cX6_image 39 = .ok (.aload_n 0, 1) := by decide +kernel
theorem dX6_image_40 : decode cX6_image 40 = .ok (.getfield 12, 3) := by decide +kernel
theorem dX6_image_43 : decode cX6_image 43 = .ok (.invokevirtual 207, 3) := by decide +kernel
theorem dX6_image_46 : decode cX6_image 46 = .ok (.iconst 1, 1) := by decide +kernel
theorem dX6_image_47 : decode cX6_image 47 = .ok (.ireturn, 1) := by decide +kernel
theorem dX6_restore_0 : decode cX6_restore 0 = .ok (.iload_n 1, 1) := by decide +kernel
theorem dX6_restore_1 : decode cX6_restore 1 = .ok (.iconst 2, 1) := by decide +kernel
theorem dX6_restore_2 : decode cX6_restore 2 = .ok (.invokestatic 41, 3) := by decide +kernel
theorem dX6_restore_5 : decode cX6_restore 5 = .ok (.ifCond .ne 6, 3) := by decide +kernel
theorem dX6_restore_8 : decode cX6_restore 8 = .ok (.bipush (-2), 2) := by decide +kernel
theorem dX6_restore_10 : decode cX6_restore 10 = .ok (.ireturn, 1) := by decide +kernel
theorem dX6_restore_11 : decode cX6_restore 11 = .ok (.aload_n 0, 1) := by decide +kernel
theorem dX6_restore_12 : decode cX6_restore 12 = .ok (.getfield 37, 3) := by decide +kernel
theorem dX6_restore_15 : decode cX6_restore 15 = .ok (.iload_n 1, 1) := by decide +kernel
theorem dX6_restore_16 : decode cX6_restore 16 = .ok (.aaload, 1) := by decide +kernel
theorem dX6_restore_17 : decode cX6_restore 17 = .ok (.ifnonnull 6, 3) := by decide +kernel
theorem dX6_restore_20 : decode cX6_restore 20 = .ok (.bipush (-3), 2) := by decide +kernel
theorem dX6_restore_22 : decode cX6_restore 22 = .ok (.ireturn, 1) := by decide +kernel
theorem dX6_restore_23 : decode cX6_restore 23 = .ok (.aload_n 0, 1) := by decide +kernel
theorem dX6_restore_24 : decode cX6_restore 24 = .ok (.getfield 12, 3) := by decide +kernel
theorem dX6_restore_27 : decode cX6_restore 27 = .ok (.aload_n 0, 1) := by decide +kernel
theorem dX6_restore_28 : decode cX6_restore 28 = .ok (.getfield 37, 3) := by decide +kernel
theorem dX6_restore_31 : decode cX6_restore 31 = .ok (.iload_n 1, 1) := by decide +kernel
theorem dX6_restore_32 : decode cX6_restore 32 = .ok (.aaload, 1) := by decide +kernel
theorem dX6_restore_33 : decode cX6_restore 33 = .ok (.invokevirtual 207, 3) := by decide +kernel
theorem dX6_restore_36 : decode cX6_restore 36 = .ok (.iconst 1, 1) := by decide +kernel
theorem dX6_restore_37 : decode cX6_restore 37 = .ok (.ireturn, 1) := by decide +kernel
theorem dX6_count_0 : decode cX6_count 0 = .ok (.iload_n 1, 1) := by decide +kernel
theorem dX6_count_1 : decode cX6_count 1 = .ok (.tableswitch 150 0 9 #[55, 63, 73, 83, 93, 103, 108, 113, 118, 145], 55) := by decide +kernel
theorem dX6_count_56 : decode cX6_count 56 = .ok (.aload_n 0, 1) := by decide +kernel
theorem dX6_count_57 : decode cX6_count 57 = .ok (.getfield 12, 3) := by decide +kernel
theorem dX6_count_60 : decode cX6_count 60 = .ok (.getfield 45, 3) := by decide +kernel
theorem dX6_count_63 : decode cX6_count 63 = .ok (.ireturn, 1) := by decide +kernel
theorem dX6_count_64 : decode cX6_count 64 = .ok (.aload_n 0, 1) := by decide +kernel
theorem dX6_count_65 : decode cX6_count 65 = .ok (.getfield 12, 3) := by decide +kernel
theorem dX6_count_68 : decode cX6_count 68 = .ok (.getfield 112, 3) := by decide +kernel
theorem dX6_count_71 : decode cX6_count 71 = .ok (.iconst 0, 1) := by decide +kernel
theorem dX6_count_72 : decode cX6_count 72 = .ok (.iaload, 1) := by decide +kernel
theorem dX6_count_73 : decode cX6_count 73 = .ok (.ireturn, 1) := by decide +kernel
theorem dX6_count_74 : decode cX6_count 74 = .ok (.aload_n 0, 1) := by decide +kernel
theorem dX6_count_75 : decode cX6_count 75 = .ok (.getfield 12, 3) := by decide +kernel
theorem dX6_count_78 : decode cX6_count 78 = .ok (.getfield 112, 3) := by decide +kernel
theorem dX6_count_81 : decode cX6_count 81 = .ok (.iconst 1, 1) := by decide +kernel
theorem dX6_count_82 : decode cX6_count 82 = .ok (.iaload, 1) := by decide +kernel
theorem dX6_count_83 : decode cX6_count 83 = .ok (.ireturn, 1) := by decide +kernel
theorem dX6_count_84 : decode cX6_count 84 = .ok (.aload_n 0, 1) := by decide +kernel
theorem dX6_count_85 : decode cX6_count 85 = .ok (.getfield 12, 3) := by decide +kernel
theorem dX6_count_88 : decode cX6_count 88 = .ok (.getfield 112, 3) := by decide +kernel
theorem dX6_count_91 : decode cX6_count 91 = .ok (.iconst 2, 1) := by decide +kernel
theorem dX6_count_92 : decode cX6_count 92 = .ok (.iaload, 1) := by decide +kernel
theorem dX6_count_93 : decode cX6_count 93 = .ok (.ireturn, 1) := by decide +kernel
theorem dX6_count_94 : decode cX6_count 94 = .ok (.aload_n 0, 1) := by decide +kernel
theorem dX6_count_95 : decode cX6_count 95 = .ok (.getfield 12, 3) := by decide +kernel
theorem dX6_count_98 : decode cX6_count 98 = .ok (.getfield 112, 3) := by decide +kernel
theorem dX6_count_101 : decode cX6_count 101 = .ok (.iconst 3, 1) := by decide +kernel
theorem dX6_count_102 : decode cX6_count 102 = .ok (.iaload, 1) := by decide +kernel
theorem dX6_count_103 : decode cX6_count 103 = .ok (.ireturn, 1) := by decide +kernel
theorem dX6_count_104 : decode cX6_count 104 = .ok (.aload_n 0, 1) := by decide +kernel
theorem dX6_count_105 : decode cX6_count 105 = .ok (.getfield 180, 3) := by decide +kernel
theorem dX6_count_108 : decode cX6_count 108 = .ok (.ireturn, 1) := by decide +kernel
theorem dX6_count_109 : decode cX6_count 109 = .ok (.aload_n 0, 1) := by decide +kernel
theorem dX6_count_110 : decode cX6_count 110 = .ok (.getfield 192, 3) := by decide +kernel
theorem dX6_count_113 : decode cX6_count 113 = .ok (.ireturn, 1) := by decide +kernel
theorem dX6_count_114 : decode cX6_count 114 = .ok (.aload_n 0, 1) := by decide +kernel
theorem dX6_count_115 : decode cX6_count 115 = .ok (.getfield 183, 3) := by decide +kernel
theorem dX6_count_118 : decode cX6_count 118 = .ok (.ireturn, 1) := by decide +kernel
theorem dX6_count_119 : decode cX6_count 119 = .ok (.aload_n 0, 1) := by decide +kernel
theorem dX6_count_120 : decode cX6_count 120 = .ok (.getfield 19, 3) := by decide +kernel
theorem dX6_count_123 : decode cX6_count 123 = .ok (.aload_n 0, 1) := by decide +kernel
theorem dX6_count_124 : decode cX6_count 124 = .ok (.getfield 12, 3) := by decide +kernel
theorem dX6_count_127 : decode cX6_count 127 = .ok (.invokevirtual 118, 3) := by decide +kernel
theorem dX6_count_130 : decode cX6_count 130 = .ok (.aload_n 0, 1) := by decide +kernel
theorem dX6_count_131 : decode cX6_count 131 = .ok (.getfield 19, 3) := by decide +kernel
theorem dX6_count_134 : decode cX6_count 134 = .ok (.getfield 125, 3) := by decide +kernel
theorem dX6_count_137 : decode cX6_count 137 = .ok (.ifCond .eq 7, 3) := by decide +kernel
theorem dX6_count_140 : decode cX6_count 140 = .ok (.iconst 1, 1) := by decide +kernel
theorem dX6_count_141 : decode cX6_count 141 = .ok (.goto 4, 3) := by decide +kernel
theorem dX6_count_144 : decode cX6_count 144 = .ok (.iconst 0, 1) := by decide +kernel
theorem dX6_count_145 : decode cX6_count 145 = .ok (.ireturn, 1) := by decide +kernel
theorem dX6_count_146 : decode cX6_count 146 = .ok (.aload_n 0, 1) := by decide +kernel
theorem dX6_count_147 : decode cX6_count 147 = .ok (.invokevirtual 210, 3) := by decide +kernel
theorem dX6_count_150 : decode cX6_count 150 = .ok (.ireturn, 1) := by decide +kernel
theorem dX6_count_151 : decode cX6_count 151 = .ok (.iload_n 1, 1) := by decide +kernel
theorem dX6_count_152 : decode cX6_count 152 = .ok (.bipush 10, 2) := by decide +kernel
theorem dX6_count_154 : decode cX6_count 154 = .ok (.if_icmp .lt 24, 3) := by decide +kernel
theorem dX6_count_157 : decode cX6_count 157 = .ok (.iload_n 1, 1) := by decide +kernel
theorem dX6_count_158 : decode cX6_count 158 = .ok (.bipush 16, 2) := by decide +kernel
theorem dX6_count_160 : decode cX6_count 160 = .ok (.if_icmp .ge 18, 3) := by decide +kernel
theorem dX6_count_163 : decode cX6_count 163 = .ok (.aload_n 0, 1) := by decide +kernel
theorem dX6_count_164 : decode cX6_count 164 = .ok (.getfield 12, 3) := by decide +kernel
theorem dX6_count_167 : decode cX6_count 167 = .ok (.getfield 170, 3) := by decide +kernel
theorem dX6_count_170 : decode cX6_count 170 = .ok (.iload_n 1, 1) := by decide +kernel
theorem dX6_count_171 : decode cX6_count 171 = .ok (.bipush 10, 2) := by decide +kernel
theorem dX6_count_173 : decode cX6_count 173 = .ok (.isub, 1) := by decide +kernel
theorem dX6_count_174 : decode cX6_count 174 = .ok (.iaload, 1) := by decide +kernel
theorem dX6_count_175 : decode cX6_count 175 = .ok (.goto 5, 3) := by decide +kernel
theorem dX6_count_178 : decode cX6_count 178 = .ok (.bipush (-2), 2) := by decide +kernel
theorem dX6_count_180 : decode cX6_count 180 = .ok (.ireturn, 1) := by decide +kernel
theorem dX6_keptImages_0 : decode cX6_keptImages 0 = .ok (.iconst 0, 1) := by decide +kernel
theorem dX6_keptImages_1 : decode cX6_keptImages 1 = .ok (.istore_n 1, 1) := by decide +kernel
theorem dX6_keptImages_2 : decode cX6_keptImages 2 = .ok (.iconst 0, 1) := by decide +kernel
theorem dX6_keptImages_3 : decode cX6_keptImages 3 = .ok (.istore_n 2, 1) := by decide +kernel
theorem dX6_keptImages_4 : decode cX6_keptImages 4 = .ok (.iload_n 2, 1) := by decide +kernel
theorem dX6_keptImages_5 : decode cX6_keptImages 5 = .ok (.iconst 2, 1) := by decide +kernel
theorem dX6_keptImages_6 : decode cX6_keptImages 6 = .ok (.if_icmp .ge 24, 3) := by decide +kernel
theorem dX6_keptImages_9 : decode cX6_keptImages 9 = .ok (.aload_n 0, 1) := by decide +kernel
theorem dX6_keptImages_10 : decode cX6_keptImages 10 = .ok (.getfield 37, 3) := by decide +kernel
theorem dX6_keptImages_13 : decode cX6_keptImages 13 = .ok (.iload_n 2, 1) := by decide +kernel
theorem dX6_keptImages_14 : decode cX6_keptImages 14 = .ok (.aaload, 1) := by decide +kernel
theorem dX6_keptImages_15 : decode cX6_keptImages 15 = .ok (.ifnull 9, 3) := by decide +kernel
theorem dX6_keptImages_18 : decode cX6_keptImages 18 = .ok (.iload_n 1, 1) := by decide +kernel
theorem dX6_keptImages_19 : decode cX6_keptImages 19 = .ok (.iconst 1, 1) := by decide +kernel
theorem dX6_keptImages_20 : decode cX6_keptImages 20 = .ok (.iload_n 2, 1) := by decide +kernel
theorem dX6_keptImages_21 : decode cX6_keptImages 21 = .ok (.ishl, 1) := by decide +kernel
theorem dX6_keptImages_22 : decode cX6_keptImages 22 = .ok (.ior, 1) := by decide +kernel
theorem dX6_keptImages_23 : decode cX6_keptImages 23 = .ok (.istore_n 1, 1) := by decide +kernel
theorem dX6_keptImages_24 : decode cX6_keptImages 24 = .ok (.iinc 2 1, 3) := by decide +kernel
theorem dX6_keptImages_27 : decode cX6_keptImages 27 = .ok (.goto (-23), 3) := by decide +kernel
theorem dX6_keptImages_30 : decode cX6_keptImages 30 = .ok (.iload_n 1, 1) := by decide +kernel
theorem dX6_keptImages_31 : decode cX6_keptImages 31 = .ok (.ireturn, 1) := by decide +kernel
theorem dX6_isIn_0 : decode cX6_isIn 0 = .ok (.iload_n 0, 1) := by decide +kernel
theorem dX6_isIn_1 : decode cX6_isIn 1 = .ok (.ifCond .lt 12, 3) := by decide +kernel
theorem dX6_isIn_4 : decode cX6_isIn 4 = .ok (.iload_n 0, 1) := by decide +kernel
theorem dX6_isIn_5 : decode cX6_isIn 5 = .ok (.iload_n 1, 1) := by decide +kernel
theorem dX6_isIn_6 : decode cX6_isIn 6 = .ok (.if_icmp .ge 7, 3) := by decide +kernel
theorem dX6_isIn_9 : decode cX6_isIn 9 = .ok (.iconst 1, 1) := by decide +kernel
theorem dX6_isIn_10 : decode cX6_isIn 10 = .ok (.goto 4, 3) := by decide +kernel
theorem dX6_isIn_13 : decode cX6_isIn 13 = .ok (.iconst 0, 1) := by decide +kernel
theorem dX6_isIn_14 : decode cX6_isIn 14 = .ok (.ireturn, 1) := by decide +kernel
theorem dX6_isUpTo_0 : decode cX6_isUpTo 0 = .ok (.iload_n 0, 1) := by decide +kernel
theorem dX6_isUpTo_1 : decode cX6_isUpTo 1 = .ok (.ifCond .lt 12, 3) := by decide +kernel
theorem dX6_isUpTo_4 : decode cX6_isUpTo 4 = .ok (.iload_n 0, 1) := by decide +kernel
theorem dX6_isUpTo_5 : decode cX6_isUpTo 5 = .ok (.iload_n 1, 1) := by decide +kernel
theorem dX6_isUpTo_6 : decode cX6_isUpTo 6 = .ok (.if_icmp .gt 7, 3) := by decide +kernel
theorem dX6_isUpTo_9 : decode cX6_isUpTo 9 = .ok (.iconst 1, 1) := by decide +kernel
theorem dX6_isUpTo_10 : decode cX6_isUpTo 10 = .ok (.goto 4, 3) := by decide +kernel
theorem dX6_isUpTo_13 : decode cX6_isUpTo 13 = .ok (.iconst 0, 1) := by decide +kernel
theorem dX6_isUpTo_14 : decode cX6_isUpTo 14 = .ok (.ireturn, 1) := by decide +kernel
theorem dX6_hasTarget_0 : decode cX6_hasTarget 0 = .ok (.iload_n 0, 1) := by decide +kernel
theorem dX6_hasTarget_1 : decode cX6_hasTarget 1 = .ok (.iconst 1, 1) := by decide +kernel
theorem dX6_hasTarget_2 : decode cX6_hasTarget 2 = .ok (.if_icmp .lt 13, 3) := by decide +kernel
theorem dX6_hasTarget_5 : decode cX6_hasTarget 5 = .ok (.iload_n 0, 1) := by decide +kernel
theorem dX6_hasTarget_6 : decode cX6_hasTarget 6 = .ok (.bipush 7, 2) := by decide +kernel
theorem dX6_hasTarget_8 : decode cX6_hasTarget 8 = .ok (.if_icmp .gt 7, 3) := by decide +kernel
theorem dX6_hasTarget_11 : decode cX6_hasTarget 11 = .ok (.iconst 1, 1) := by decide +kernel
theorem dX6_hasTarget_12 : decode cX6_hasTarget 12 = .ok (.goto 4, 3) := by decide +kernel
theorem dX6_hasTarget_15 : decode cX6_hasTarget 15 = .ok (.iconst 0, 1) := by decide +kernel
theorem dX6_hasTarget_16 : decode cX6_hasTarget 16 = .ok (.ireturn, 1) := by decide +kernel
theorem dX6_hasRegister_0 : decode cX6_hasRegister 0 = .ok (.iload_n 0, 1) := by decide +kernel
theorem dX6_hasRegister_1 : decode cX6_hasRegister 1 = .ok (.iconst 5, 1) := by decide +kernel
theorem dX6_hasRegister_2 : decode cX6_hasRegister 2 = .ok (.if_icmp .lt 13, 3) := by decide +kernel
theorem dX6_hasRegister_5 : decode cX6_hasRegister 5 = .ok (.iload_n 0, 1) := by decide +kernel
theorem dX6_hasRegister_6 : decode cX6_hasRegister 6 = .ok (.bipush 7, 2) := by decide +kernel
theorem dX6_hasRegister_8 : decode cX6_hasRegister 8 = .ok (.if_icmp .gt 7, 3) := by decide +kernel
theorem dX6_hasRegister_11 : decode cX6_hasRegister 11 = .ok (.iconst 1, 1) := by decide +kernel
theorem dX6_hasRegister_12 : decode cX6_hasRegister 12 = .ok (.goto 4, 3) := by decide +kernel
theorem dX6_hasRegister_15 : decode cX6_hasRegister 15 = .ok (.iconst 0, 1) := by decide +kernel
theorem dX6_hasRegister_16 : decode cX6_hasRegister 16 = .ok (.ireturn, 1) := by decide +kernel
theorem dX6_isAct_0 : decode cX6_isAct 0 = .ok (.iload_n 0, 1) := by decide +kernel
theorem dX6_isAct_1 : decode cX6_isAct 1 = .ok (.getstatic 213, 3) := by decide +kernel
theorem dX6_isAct_4 : decode cX6_isAct 4 = .ok (.arraylength, 1) := by decide +kernel
theorem dX6_isAct_5 : decode cX6_isAct 5 = .ok (.invokestatic 41, 3) := by decide +kernel
theorem dX6_isAct_8 : decode cX6_isAct 8 = .ok (.ifCond .ne 5, 3) := by decide +kernel
theorem dX6_isAct_11 : decode cX6_isAct 11 = .ok (.iconst 0, 1) := by decide +kernel
theorem dX6_isAct_12 : decode cX6_isAct 12 = .ok (.ireturn, 1) := by decide +kernel
theorem dX6_isAct_13 : decode cX6_isAct 13 = .ok (.iload_n 0, 1) := by decide +kernel
theorem dX6_isAct_14 : decode cX6_isAct 14 = .ok (.invokestatic 216, 3) := by decide +kernel
theorem dX6_isAct_17 : decode cX6_isAct 17 = .ok (.ifCond .eq 24, 3) := by decide +kernel
theorem dX6_isAct_20 : decode cX6_isAct 20 = .ok (.iload_n 1, 1) := by decide +kernel
theorem dX6_isAct_21 : decode cX6_isAct 21 = .ok (.bipush 6, 2) := by decide +kernel
theorem dX6_isAct_23 : decode cX6_isAct 23 = .ok (.invokestatic 41, 3) := by decide +kernel
theorem dX6_isAct_26 : decode cX6_isAct 26 = .ok (.ifCond .eq 19, 3) := by decide +kernel
theorem dX6_isAct_29 : decode cX6_isAct 29 = .ok (.iload_n 2, 1) := by decide +kernel
theorem dX6_isAct_30 : decode cX6_isAct 30 = .ok (.getstatic 213, 3) := by decide +kernel
theorem dX6_isAct_33 : decode cX6_isAct 33 = .ok (.iload_n 0, 1) := by decide +kernel
theorem dX6_isAct_34 : decode cX6_isAct 34 = .ok (.iaload, 1) := by decide +kernel
theorem dX6_isAct_35 : decode cX6_isAct 35 = .ok (.invokestatic 57, 3) := by decide +kernel
theorem dX6_isAct_38 : decode cX6_isAct 38 = .ok (.ifCond .eq 7, 3) := by decide +kernel
theorem dX6_isAct_41 : decode cX6_isAct 41 = .ok (.iconst 1, 1) := by decide +kernel
theorem dX6_isAct_42 : decode cX6_isAct 42 = .ok (.goto 4, 3) := by decide +kernel
theorem dX6_isAct_45 : decode cX6_isAct 45 = .ok (.iconst 0, 1) := by decide +kernel
theorem dX6_isAct_46 : decode cX6_isAct 46 = .ok (.ireturn, 1) := by decide +kernel
theorem dJ6_bitCount_0f7a4_0 : decode cJ6_bitCount_0f7a4 0 = .ok (.iload_n 0, 1) := by decide +kernel
theorem dJ6_bitCount_0f7a4_1 : decode cJ6_bitCount_0f7a4 1 = .ok (.iload_n 0, 1) := by decide +kernel
theorem dJ6_bitCount_0f7a4_2 : decode cJ6_bitCount_0f7a4 2 = .ok (.iconst 1, 1) := by decide +kernel
theorem dJ6_bitCount_0f7a4_3 : decode cJ6_bitCount_0f7a4 3 = .ok (.iushr, 1) := by decide +kernel
theorem dJ6_bitCount_0f7a4_4 : decode cJ6_bitCount_0f7a4 4 = .ok (.ldc_w 265, 3) := by decide +kernel
theorem dJ6_bitCount_0f7a4_7 : decode cJ6_bitCount_0f7a4 7 = .ok (.iand, 1) := by decide +kernel
theorem dJ6_bitCount_0f7a4_8 : decode cJ6_bitCount_0f7a4 8 = .ok (.isub, 1) := by decide +kernel
theorem dJ6_bitCount_0f7a4_9 : decode cJ6_bitCount_0f7a4 9 = .ok (.istore_n 0, 1) := by decide +kernel
theorem dJ6_bitCount_0f7a4_10 : decode cJ6_bitCount_0f7a4 10 = .ok (.iload_n 0, 1) := by decide +kernel
theorem dJ6_bitCount_0f7a4_11 : decode cJ6_bitCount_0f7a4 11 = .ok (.ldc_w 266, 3) := by decide +kernel
theorem dJ6_bitCount_0f7a4_14 : decode cJ6_bitCount_0f7a4 14 = .ok (.iand, 1) := by decide +kernel
theorem dJ6_bitCount_0f7a4_15 : decode cJ6_bitCount_0f7a4 15 = .ok (.iload_n 0, 1) := by decide +kernel
theorem dJ6_bitCount_0f7a4_16 : decode cJ6_bitCount_0f7a4 16 = .ok (.iconst 2, 1) := by decide +kernel
theorem dJ6_bitCount_0f7a4_17 : decode cJ6_bitCount_0f7a4 17 = .ok (.iushr, 1) := by decide +kernel
theorem dJ6_bitCount_0f7a4_18 : decode cJ6_bitCount_0f7a4 18 = .ok (.ldc_w 266, 3) := by decide +kernel
theorem dJ6_bitCount_0f7a4_21 : decode cJ6_bitCount_0f7a4 21 = .ok (.iand, 1) := by decide +kernel
theorem dJ6_bitCount_0f7a4_22 : decode cJ6_bitCount_0f7a4 22 = .ok (.iadd, 1) := by decide +kernel
theorem dJ6_bitCount_0f7a4_23 : decode cJ6_bitCount_0f7a4 23 = .ok (.istore_n 0, 1) := by decide +kernel
theorem dJ6_bitCount_0f7a4_24 : decode cJ6_bitCount_0f7a4 24 = .ok (.iload_n 0, 1) := by decide +kernel
theorem dJ6_bitCount_0f7a4_25 : decode cJ6_bitCount_0f7a4 25 = .ok (.iload_n 0, 1) := by decide +kernel
theorem dJ6_bitCount_0f7a4_26 : decode cJ6_bitCount_0f7a4 26 = .ok (.iconst 4, 1) := by decide +kernel
theorem dJ6_bitCount_0f7a4_27 : decode cJ6_bitCount_0f7a4 27 = .ok (.iushr, 1) := by decide +kernel
theorem dJ6_bitCount_0f7a4_28 : decode cJ6_bitCount_0f7a4 28 = .ok (.iadd, 1) := by decide +kernel
theorem dJ6_bitCount_0f7a4_29 : decode cJ6_bitCount_0f7a4 29 = .ok (.ldc_w 267, 3) := by decide +kernel
theorem dJ6_bitCount_0f7a4_32 : decode cJ6_bitCount_0f7a4 32 = .ok (.iand, 1) := by decide +kernel
theorem dJ6_bitCount_0f7a4_33 : decode cJ6_bitCount_0f7a4 33 = .ok (.istore_n 0, 1) := by decide +kernel
theorem dJ6_bitCount_0f7a4_34 : decode cJ6_bitCount_0f7a4 34 = .ok (.iload_n 0, 1) := by decide +kernel
theorem dJ6_bitCount_0f7a4_35 : decode cJ6_bitCount_0f7a4 35 = .ok (.iload_n 0, 1) := by decide +kernel
theorem dJ6_bitCount_0f7a4_36 : decode cJ6_bitCount_0f7a4 36 = .ok (.bipush 8, 2) := by decide +kernel
theorem dJ6_bitCount_0f7a4_38 : decode cJ6_bitCount_0f7a4 38 = .ok (.iushr, 1) := by decide +kernel
theorem dJ6_bitCount_0f7a4_39 : decode cJ6_bitCount_0f7a4 39 = .ok (.iadd, 1) := by decide +kernel
theorem dJ6_bitCount_0f7a4_40 : decode cJ6_bitCount_0f7a4 40 = .ok (.istore_n 0, 1) := by decide +kernel
theorem dJ6_bitCount_0f7a4_41 : decode cJ6_bitCount_0f7a4 41 = .ok (.iload_n 0, 1) := by decide +kernel
theorem dJ6_bitCount_0f7a4_42 : decode cJ6_bitCount_0f7a4 42 = .ok (.iload_n 0, 1) := by decide +kernel
theorem dJ6_bitCount_0f7a4_43 : decode cJ6_bitCount_0f7a4 43 = .ok (.bipush 16, 2) := by decide +kernel
theorem dJ6_bitCount_0f7a4_45 : decode cJ6_bitCount_0f7a4 45 = .ok (.iushr, 1) := by decide +kernel
theorem dJ6_bitCount_0f7a4_46 : decode cJ6_bitCount_0f7a4 46 = .ok (.iadd, 1) := by decide +kernel
theorem dJ6_bitCount_0f7a4_47 : decode cJ6_bitCount_0f7a4 47 = .ok (.istore_n 0, 1) := by decide +kernel
theorem dJ6_bitCount_0f7a4_48 : decode cJ6_bitCount_0f7a4 48 = .ok (.iload_n 0, 1) := by decide +kernel
theorem dJ6_bitCount_0f7a4_49 : decode cJ6_bitCount_0f7a4 49 = .ok (.bipush 63, 2) := by decide +kernel
theorem dJ6_bitCount_0f7a4_51 : decode cJ6_bitCount_0f7a4 51 = .ok (.iand, 1) := by decide +kernel
theorem dJ6_bitCount_0f7a4_52 : decode cJ6_bitCount_0f7a4 52 = .ok (.ireturn, 1) := by decide +kernel
theorem dJ9_max_7cf53_0 : decode cJ9_max_7cf53 0 = .ok (.iload_n 0, 1) := by decide +kernel
theorem dJ9_max_7cf53_1 : decode cJ9_max_7cf53 1 = .ok (.iload_n 1, 1) := by decide +kernel
theorem dJ9_max_7cf53_2 : decode cJ9_max_7cf53 2 = .ok (.if_icmp .lt 7, 3) := by decide +kernel
theorem dJ9_max_7cf53_5 : decode cJ9_max_7cf53 5 = .ok (.iload_n 0, 1) := by decide +kernel
theorem dJ9_max_7cf53_6 : decode cJ9_max_7cf53 6 = .ok (.goto 4, 3) := by decide +kernel
theorem dJ9_max_7cf53_9 : decode cJ9_max_7cf53 9 = .ok (.iload_n 1, 1) := by decide +kernel
theorem dJ9_max_7cf53_10 : decode cJ9_max_7cf53 10 = .ok (.ireturn, 1) := by decide +kernel
theorem dJ9_min_7cf53_0 : decode cJ9_min_7cf53 0 = .ok (.iload_n 0, 1) := by decide +kernel
theorem dJ9_min_7cf53_1 : decode cJ9_min_7cf53 1 = .ok (.iload_n 1, 1) := by decide +kernel
theorem dJ9_min_7cf53_2 : decode cJ9_min_7cf53 2 = .ok (.if_icmp .gt 7, 3) := by decide +kernel
theorem dJ9_min_7cf53_5 : decode cJ9_min_7cf53 5 = .ok (.iload_n 0, 1) := by decide +kernel
theorem dJ9_min_7cf53_6 : decode cJ9_min_7cf53 6 = .ok (.goto 4, 3) := by decide +kernel
theorem dJ9_min_7cf53_9 : decode cJ9_min_7cf53 9 = .ok (.iload_n 1, 1) := by decide +kernel
theorem dJ9_min_7cf53_10 : decode cJ9_min_7cf53 10 = .ok (.ireturn, 1) := by decide +kernel
theorem dJ7_fill_53178_0 : decode cJ7_fill_53178 0 = .ok (.iconst 0, 1) := by decide +kernel
theorem dJ7_fill_53178_1 : decode cJ7_fill_53178 1 = .ok (.istore_n 2, 1) := by decide +kernel
theorem dJ7_fill_53178_2 : decode cJ7_fill_53178 2 = .ok (.aload_n 0, 1) := by decide +kernel
theorem dJ7_fill_53178_3 : decode cJ7_fill_53178 3 = .ok (.arraylength, 1) := by decide +kernel
theorem dJ7_fill_53178_4 : decode cJ7_fill_53178 4 = .ok (.istore_n 3, 1) := by decide +kernel
theorem dJ7_fill_53178_5 : decode cJ7_fill_53178 5 = .ok (.iload_n 2, 1) := by decide +kernel
theorem dJ7_fill_53178_6 : decode cJ7_fill_53178 6 = .ok (.iload_n 3, 1) := by decide +kernel
theorem dJ7_fill_53178_7 : decode cJ7_fill_53178 7 = .ok (.if_icmp .ge 13, 3) := by decide +kernel
theorem dJ7_fill_53178_10 : decode cJ7_fill_53178 10 = .ok (.aload_n 0, 1) := by decide +kernel
theorem dJ7_fill_53178_11 : decode cJ7_fill_53178 11 = .ok (.iload_n 2, 1) := by decide +kernel
theorem dJ7_fill_53178_12 : decode cJ7_fill_53178 12 = .ok (.iload_n 1, 1) := by decide +kernel
theorem dJ7_fill_53178_13 : decode cJ7_fill_53178 13 = .ok (.iastore, 1) := by decide +kernel
theorem dJ7_fill_53178_14 : decode cJ7_fill_53178 14 = .ok (.iinc 2 1, 3) := by decide +kernel
theorem dJ7_fill_53178_17 : decode cJ7_fill_53178 17 = .ok (.goto (-12), 3) := by decide +kernel
theorem dJ7_fill_53178_20 : decode cJ7_fill_53178 20 = .ok (.return_, 1) := by decide +kernel
end
section
/-! decode rows -/
theorem dX7_init_0 : decode cX7_init 0 = .ok (.aload_n 0, 1) := by decide +kernel
theorem dX7_init_1 : decode cX7_init 1 = .ok (.invokespecial 1, 3) := by decide +kernel
theorem dX7_init_4 : decode cX7_init 4 = .ok (.aload_n 0, 1) := by decide +kernel
theorem dX7_init_5 : decode cX7_init 5 = .ok (.bipush 8, 2) := by decide +kernel
theorem dX7_init_7 : decode cX7_init 7 = .ok (.newarray .int, 2) := by decide +kernel
theorem dX7_init_9 : decode cX7_init 9 = .ok (.putfield 7, 3) := by decide +kernel
theorem dX7_init_12 : decode cX7_init 12 = .ok (.aload_n 0, 1) := by decide +kernel
theorem dX7_init_13 : decode cX7_init 13 = .ok (.bipush 8, 2) := by decide +kernel
theorem dX7_init_15 : decode cX7_init 15 = .ok (.newarray .int, 2) := by decide +kernel
theorem dX7_init_17 : decode cX7_init 17 = .ok (.putfield 13, 3) := by decide +kernel
theorem dX7_init_20 : decode cX7_init 20 = .ok (.aload_n 0, 1) := by decide +kernel
theorem dX7_init_21 : decode cX7_init 21 = .ok (.bipush 40, 2) := by decide +kernel
theorem dX7_init_23 : decode cX7_init 23 = .ok (.newarray .int, 2) := by decide +kernel
theorem dX7_init_25 : decode cX7_init 25 = .ok (.putfield 16, 3) := by decide +kernel
theorem dX7_init_28 : decode cX7_init 28 = .ok (.aload_n 0, 1) := by decide +kernel
theorem dX7_init_29 : decode cX7_init 29 = .ok (.bipush 40, 2) := by decide +kernel
theorem dX7_init_31 : decode cX7_init 31 = .ok (.newarray .int, 2) := by decide +kernel
theorem dX7_init_33 : decode cX7_init 33 = .ok (.putfield 19, 3) := by decide +kernel
theorem dX7_init_36 : decode cX7_init 36 = .ok (.aload_n 0, 1) := by decide +kernel
theorem dX7_init_37 : decode cX7_init 37 = .ok (.bipush 40, 2) := by decide +kernel
theorem dX7_init_39 : decode cX7_init 39 = .ok (.newarray .int, 2) := by decide +kernel
theorem dX7_init_41 : decode cX7_init 41 = .ok (.putfield 22, 3) := by decide +kernel
theorem dX7_init_44 : decode cX7_init 44 = .ok (.aload_n 0, 1) := by decide +kernel
theorem dX7_init_45 : decode cX7_init 45 = .ok (.bipush 40, 2) := by decide +kernel
theorem dX7_init_47 : decode cX7_init 47 = .ok (.newarray .int, 2) := by decide +kernel
theorem dX7_init_49 : decode cX7_init 49 = .ok (.putfield 25, 3) := by decide +kernel
theorem dX7_init_52 : decode cX7_init 52 = .ok (.aload_n 0, 1) := by decide +kernel
theorem dX7_init_53 : decode cX7_init 53 = .ok (.iconst 4, 1) := by decide +kernel
theorem dX7_init_54 : decode cX7_init 54 = .ok (.newarray .int, 2) := by decide +kernel
theorem dX7_init_56 : decode cX7_init 56 = .ok (.putfield 28, 3) := by decide +kernel
theorem dX7_init_59 : decode cX7_init 59 = .ok (.aload_n 0, 1) := by decide +kernel
theorem dX7_init_60 : decode cX7_init 60 = .ok (.bipush 6, 2) := by decide +kernel
theorem dX7_init_62 : decode cX7_init 62 = .ok (.newarray .int, 2) := by decide +kernel
theorem dX7_init_64 : decode cX7_init 64 = .ok (.putfield 31, 3) := by decide +kernel
theorem dX7_init_67 : decode cX7_init 67 = .ok (.aload_n 0, 1) := by decide +kernel
theorem dX7_init_68 : decode cX7_init 68 = .ok (.iconst 4, 1) := by decide +kernel
theorem dX7_init_69 : decode cX7_init 69 = .ok (.newarray .int, 2) := by decide +kernel
theorem dX7_init_71 : decode cX7_init 71 = .ok (.putfield 34, 3) := by decide +kernel
theorem dX7_init_74 : decode cX7_init 74 = .ok (.aload_n 0, 1) := by decide +kernel
theorem dX7_init_75 : decode cX7_init 75 = .ok (.bipush 8, 2) := by decide +kernel
theorem dX7_init_77 : decode cX7_init 77 = .ok (.newarray .int, 2) := by decide +kernel
theorem dX7_init_79 : decode cX7_init 79 = .ok (.putfield 37, 3) := by decide +kernel
theorem dX7_init_82 : decode cX7_init 82 = .ok (.aload_n 0, 1) := by decide +kernel
theorem dX7_init_83 : decode cX7_init 83 = .ok (.bipush 8, 2) := by decide +kernel
theorem dX7_init_85 : decode cX7_init 85 = .ok (.newarray .int, 2) := by decide +kernel
theorem dX7_init_87 : decode cX7_init 87 = .ok (.putfield 40, 3) := by decide +kernel
theorem dX7_init_90 : decode cX7_init 90 = .ok (.aload_n 0, 1) := by decide +kernel
theorem dX7_init_91 : decode cX7_init 91 = .ok (.bipush 8, 2) := by decide +kernel
theorem dX7_init_93 : decode cX7_init 93 = .ok (.newarray .int, 2) := by decide +kernel
theorem dX7_init_95 : decode cX7_init 95 = .ok (.putfield 43, 3) := by decide +kernel
theorem dX7_init_98 : decode cX7_init 98 = .ok (.aload_n 0, 1) := by decide +kernel
theorem dX7_init_99 : decode cX7_init 99 = .ok (.bipush 8, 2) := by decide +kernel
theorem dX7_init_101 : decode cX7_init 101 = .ok (.newarray .int, 2) := by decide +kernel
theorem dX7_init_103 : decode cX7_init 103 = .ok (.putfield 46, 3) := by decide +kernel
theorem dX7_init_106 : decode cX7_init 106 = .ok (.aload_n 0, 1) := by decide +kernel
theorem dX7_init_107 : decode cX7_init 107 = .ok (.sipush 256, 3) := by decide +kernel
theorem dX7_init_110 : decode cX7_init 110 = .ok (.newarray .int, 2) := by decide +kernel
theorem dX7_init_112 : decode cX7_init 112 = .ok (.putfield 49, 3) := by decide +kernel
theorem dX7_init_115 : decode cX7_init 115 = .ok (.aload_n 0, 1) := by decide +kernel
theorem dX7_init_116 : decode cX7_init 116 = .ok (.bipush 8, 2) := by decide +kernel
theorem dX7_init_118 : decode cX7_init 118 = .ok (.newarray .int, 2) := by decide +kernel
theorem dX7_init_120 : decode cX7_init 120 = .ok (.putfield 52, 3) := by decide +kernel
theorem dX7_init_123 : decode cX7_init 123 = .ok (.aload_n 0, 1) := by decide +kernel
theorem dX7_init_124 : decode cX7_init 124 = .ok (.bipush 8, 2) := by decide +kernel
theorem dX7_init_126 : decode cX7_init 126 = .ok (.newarray .int, 2) := by decide +kernel
theorem dX7_init_128 : decode cX7_init 128 = .ok (.putfield 55, 3) := by decide +kernel
theorem dX7_init_131 : decode cX7_init 131 = .ok (.aload_n 0, 1) := by decide +kernel
theorem dX7_init_132 : decode cX7_init 132 = .ok (.bipush 6, 2) := by decide +kernel
theorem dX7_init_134 : decode cX7_init 134 = .ok (.newarray .int, 2) := by decide +kernel
theorem dX7_init_136 : decode cX7_init 136 = .ok (.putfield 58, 3) := by decide +kernel
theorem dX7_init_139 : decode cX7_init 139 = .ok (.aload_n 0, 1) := by decide +kernel
theorem dX7_init_140 : decode cX7_init 140 = .ok (.bipush 32, 2) := by decide +kernel
theorem dX7_init_142 : decode cX7_init 142 = .ok (.newarray .int, 2) := by decide +kernel
theorem dX7_init_144 : decode cX7_init 144 = .ok (.putfield 61, 3) := by decide +kernel
theorem dX7_init_147 : decode cX7_init 147 = .ok (.aload_n 0, 1) := by decide +kernel
theorem dX7_init_148 : decode cX7_init 148 = .ok (.sipush 382, 3) := by decide +kernel
theorem dX7_init_151 : decode cX7_init 151 = .ok (.newarray .int, 2) := by decide +kernel
theorem dX7_init_153 : decode cX7_init 153 = .ok (.putfield 64, 3) := by decide +kernel
theorem dX7_init_156 : decode cX7_init 156 = .ok (.aload_n 0, 1) := by decide +kernel
theorem dX7_init_157 : decode cX7_init 157 = .ok (.iconst 2, 1) := by decide +kernel
theorem dX7_init_158 : decode cX7_init 158 = .ok (.newarray .boolean, 2) := by decide +kernel
theorem dX7_init_160 : decode cX7_init 160 = .ok (.putfield 67, 3) := by decide +kernel
theorem dX7_init_163 : decode cX7_init 163 = .ok (.aload_n 0, 1) := by decide +kernel
theorem dX7_init_164 : decode cX7_init 164 = .ok (.getfield 34, 3) := by decide +kernel
theorem dX7_init_167 : decode cX7_init 167 = .ok (.iconst 0, 1) := by decide +kernel
theorem dX7_init_168 : decode cX7_init 168 = .ok (.bipush 10, 2) := by decide +kernel
theorem dX7_init_170 : decode cX7_init 170 = .ok (.iastore, 1) := by decide +kernel
theorem dX7_init_171 : decode cX7_init 171 = .ok (.aload_n 0, 1) := by decide +kernel
theorem dX7_init_172 : decode cX7_init 172 = .ok (.getfield 34, 3) := by decide +kernel
theorem dX7_init_175 : decode cX7_init 175 = .ok (.iconst 1, 1) := by decide +kernel
theorem dX7_init_176 : decode cX7_init 176 = .ok (.iconst 2, 1) := by decide +kernel
theorem dX7_init_177 : decode cX7_init 177 = .ok (.iastore, 1) := by decide +kernel
theorem dX7_init_178 : decode cX7_init 178 = .ok (.aload_n 0, 1) := by decide +kernel
theorem dX7_init_179 : decode cX7_init 179 = .ok (.getfield 34, 3) := by decide +kernel
theorem dX7_init_182 : decode cX7_init 182 = .ok (.iconst 2, 1) := by decide +kernel
theorem dX7_init_183 : decode cX7_init 183 = .ok (.bipush 8, 2) := by decide +kernel
theorem dX7_init_185 : decode cX7_init 185 = .ok (.iastore, 1) := by decide +kernel
theorem dX7_init_186 : decode cX7_init 186 = .ok (.aload_n 0, 1) := by decide +kernel
theorem dX7_init_187 : decode cX7_init 187 = .ok (.getfield 34, 3) := by decide +kernel
theorem dX7_init_190 : decode cX7_init 190 = .ok (.iconst 3, 1) := by decide +kernel
theorem dX7_init_191 : decode cX7_init 191 = .ok (.iconst 3, 1) := by decide +kernel
theorem dX7_init_192 : decode cX7_init 192 = .ok (.iastore, 1) := by decide +kernel
theorem dX7_init_193 : decode cX7_init 193 = .ok (.return_, 1) := by decide +kernel
theorem dX7_in_0 : decode cX7_in 0 = .ok (.iload_n 0, 1) := by decide +kernel
theorem dX7_in_1 : decode cX7_in 1 = .ok (.iload_n 1, 1) := by decide +kernel
theorem dX7_in_2 : decode cX7_in 2 = .ok (.if_icmp .lt 12, 3) := by decide +kernel
theorem dX7_in_5 : decode cX7_in 5 = .ok (.iload_n 0, 1) := by decide +kernel
theorem dX7_in_6 : decode cX7_in 6 = .ok (.iload_n 2, 1) := by decide +kernel
theorem dX7_in_7 : decode cX7_in 7 = .ok (.if_icmp .gt 7, 3) := by decide +kernel
theorem dX7_in_10 : decode cX7_in 10 = .ok (.iconst 1, 1) := by decide +kernel
theorem dX7_in_11 : decode cX7_in 11 = .ok (.goto 4, 3) := by decide +kernel
theorem dX7_in_14 : decode cX7_in 14 = .ok (.iconst 0, 1) := by decide +kernel
theorem dX7_in_15 : decode cX7_in 15 = .ok (.ireturn, 1) := by decide +kernel
theorem dX7_isTable_0 : decode cX7_isTable 0 = .ok (.iload_n 1, 1) := by decide +kernel
theorem dX7_isTable_1 : decode cX7_isTable 1 = .ok (.iconst 0, 1) := by decide +kernel
theorem dX7_isTable_2 : decode cX7_isTable 2 = .ok (.aload_n 0, 1) := by decide +kernel
theorem dX7_isTable_3 : decode cX7_isTable 3 = .ok (.getfield 71, 3) := by decide +kernel
theorem dX7_isTable_6 : decode cX7_isTable 6 = .ok (.iconst 1, 1) := by decide +kernel
theorem dX7_isTable_7 : decode cX7_isTable 7 = .ok (.isub, 1) := by decide +kernel
theorem dX7_isTable_8 : decode cX7_isTable 8 = .ok (.invokestatic 75, 3) := by decide +kernel
theorem dX7_isTable_11 : decode cX7_isTable 11 = .ok (.ireturn, 1) := by decide +kernel
theorem dX7_isField_0 : decode cX7_isField 0 = .ok (.iload_n 0, 1) := by decide +kernel
theorem dX7_isField_1 : decode cX7_isField 1 = .ok (.iconst 0, 1) := by decide +kernel
theorem dX7_isField_2 : decode cX7_isField 2 = .ok (.iconst 5, 1) := by decide +kernel
theorem dX7_isField_3 : decode cX7_isField 3 = .ok (.invokestatic 75, 3) := by decide +kernel
theorem dX7_isField_6 : decode cX7_isField 6 = .ok (.ireturn, 1) := by decide +kernel
theorem dX7_has_0 : decode cX7_has 0 = .ok (.iload_n 0, 1) := by decide +kernel
theorem dX7_has_1 : decode cX7_has 1 = .ok (.iload_n 1, 1) := by decide +kernel
theorem dX7_has_2 : decode cX7_has 2 = .ok (.ishr, 1) := by decide +kernel
theorem dX7_has_3 : decode cX7_has 3 = .ok (.iconst 1, 1) := by decide +kernel
theorem dX7_has_4 : decode cX7_has 4 = .ok (.iand, 1) := by decide +kernel
theorem dX7_has_5 : decode cX7_has 5 = .ok (.iconst 1, 1) := by decide +kernel
theorem dX7_has_6 : decode cX7_has 6 = .ok (.if_icmp .ne 7, 3) := by decide +kernel
theorem dX7_has_9 : decode cX7_has 9 = .ok (.iconst 1, 1) := by decide +kernel
theorem dX7_has_10 : decode cX7_has 10 = .ok (.goto 4, 3) := by decide +kernel
theorem dX7_has_13 : decode cX7_has 13 = .ok (.iconst 0, 1) := by decide +kernel
theorem dX7_has_14 : decode cX7_has 14 = .ok (.ireturn, 1) := by decide +kernel
theorem dX7_bits_0 : decode cX7_bits 0 = .ok (.iconst 0, 1) := by decide +kernel
theorem dX7_bits_1 : decode cX7_bits 1 = .ok (.istore_n 1, 1) := by decide +kernel
theorem dX7_bits_2 : decode cX7_bits 2 = .ok (.iconst 0, 1) := by decide +kernel
theorem dX7_bits_3 : decode cX7_bits 3 = .ok (.istore_n 2, 1) := by decide +kernel
theorem dX7_bits_4 : decode cX7_bits 4 = .ok (.iload_n 2, 1) := by decide +kernel
theorem dX7_bits_5 : decode cX7_bits 5 = .ok (.bipush 8, 2) := by decide +kernel
theorem dX7_bits_7 : decode cX7_bits 7 = .ok (.if_icmp .ge 17, 3) := by decide +kernel
theorem dX7_bits_10 : decode cX7_bits 10 = .ok (.iload_n 1, 1) := by decide +kernel
theorem dX7_bits_11 : decode cX7_bits 11 = .ok (.iload_n 0, 1) := by decide +kernel
theorem dX7_bits_12 : decode cX7_bits 12 = .ok (.iload_n 2, 1) := by decide +kernel
theorem dX7_bits_13 : decode cX7_bits 13 = .ok (.ishr, 1) := by decide +kernel
theorem dX7_bits_14 : decode cX7_bits 14 = .ok (.iconst 1, 1) := by decide +kernel
theorem dX7_bits_15 : decode cX7_bits 15 = .ok (.iand, 1) := by decide +kernel
theorem dX7_bits_16 : decode cX7_bits 16 = .ok (.iadd, 1) := by decide +kernel
theorem dX7_bits_17 : decode cX7_bits 17 = .ok (.istore_n 1, 1) := by decide +kernel
theorem dX7_bits_18 : decode cX7_bits 18 = .ok (.iinc 2 1, 3) := by decide +kernel
theorem dX7_bits_21 : decode cX7_bits 21 = .ok (.goto (-17), 3) := by decide +kernel
theorem dX7_bits_24 : decode cX7_bits 24 = .ok (.iload_n 1, 1) := by decide +kernel
theorem dX7_bits_25 : decode cX7_bits 25 = .ok (.ireturn, 1) := by decide +kernel
theorem dX7_table_0 : decode cX7_table 0 = .ok (.iload_n 1, 1) := by decide +kernel
theorem dX7_table_1 : decode cX7_table 1 = .ok (.invokestatic 79, 3) := by decide +kernel
theorem dX7_table_4 : decode cX7_table 4 = .ok (.ifCond .ne 5, 3) := by decide +kernel
theorem dX7_table_7 : decode cX7_table 7 = .ok (.iconst (-1), 1) := by decide +kernel
theorem dX7_table_8 : decode cX7_table 8 = .ok (.ireturn, 1) := by decide +kernel
theorem dX7_table_9 : decode cX7_table 9 = .ok (.aload_n 0, 1) := by decide +kernel
theorem dX7_table_10 : decode cX7_table 10 = .ok (.getfield 71, 3) := by decide +kernel
theorem dX7_table_13 : decode cX7_table 13 = .ok (.bipush 8, 2) := by decide +kernel
theorem dX7_table_15 : decode cX7_table 15 = .ok (.if_icmp .ne 6, 3) := by decide +kernel
theorem dX7_table_18 : decode cX7_table 18 = .ok (.bipush (-4), 2) := by decide +kernel
theorem dX7_table_20 : decode cX7_table 20 = .ok (.ireturn, 1) := by decide +kernel
theorem dX7_table_21 : decode cX7_table 21 = .ok (.aload_n 0, 1) := by decide +kernel
theorem dX7_table_22 : decode cX7_table 22 = .ok (.getfield 7, 3) := by decide +kernel
theorem dX7_table_25 : decode cX7_table 25 = .ok (.aload_n 0, 1) := by decide +kernel
theorem dX7_table_26 : decode cX7_table 26 = .ok (.getfield 71, 3) := by decide +kernel
theorem dX7_table_29 : decode cX7_table 29 = .ok (.iload_n 1, 1) := by decide +kernel
theorem dX7_table_30 : decode cX7_table 30 = .ok (.iastore, 1) := by decide +kernel
theorem dX7_table_31 : decode cX7_table 31 = .ok (.aload_n 0, 1) := by decide +kernel
theorem dX7_table_32 : decode cX7_table 32 = .ok (.getfield 13, 3) := by decide +kernel
theorem dX7_table_35 : decode cX7_table 35 = .ok (.aload_n 0, 1) := by decide +kernel
theorem dX7_table_36 : decode cX7_table 36 = .ok (.getfield 71, 3) := by decide +kernel
theorem dX7_table_39 : decode cX7_table 39 = .ok (.iconst 0, 1) := by decide +kernel
theorem dX7_table_40 : decode cX7_table 40 = .ok (.iastore, 1) := by decide +kernel
theorem dX7_table_41 : decode cX7_table 41 = .ok (.aload_n 0, 1) := by decide +kernel
theorem dX7_table_42 : decode cX7_table 42 = .ok (.iconst 5, 1) := by decide +kernel
theorem dX7_table_43 : decode cX7_table 43 = .ok (.aload_n 0, 1) := by decide +kernel
theorem dX7_table_44 : decode cX7_table 44 = .ok (.getfield 71, 3) := by decide +kernel
theorem dX7_table_47 : decode cX7_table 47 = .ok (.imul, 1) := by decide +kernel
theorem dX7_table_48 : decode cX7_table 48 = .ok (.iconst 4, 1) := by decide +kernel
theorem dX7_table_49 : decode cX7_table 49 = .ok (.iadd, 1) := by decide +kernel
theorem dX7_table_50 : decode cX7_table 50 = .ok (.iconst 0, 1) := by decide +kernel
theorem dX7_table_51 : decode cX7_table 51 = .ok (.iconst 0, 1) := by decide +kernel
theorem dX7_table_52 : decode cX7_table 52 = .ok (.iconst 0, 1) := by decide +kernel
theorem dX7_table_53 : decode cX7_table 53 = .ok (.invokevirtual 83, 3) := by decide +kernel
theorem dX7_table_56 : decode cX7_table 56 = .ok (.aload_n 0, 1) := by decide +kernel
theorem dX7_table_57 : decode cX7_table 57 = .ok (.dup, 1) := by decide +kernel
theorem dX7_table_58 : decode cX7_table 58 = .ok (.getfield 71, 3) := by decide +kernel
theorem dX7_table_61 : decode cX7_table 61 = .ok (.iconst 1, 1) := by decide +kernel
theorem dX7_table_62 : decode cX7_table 62 = .ok (.iadd, 1) := by decide +kernel
theorem dX7_table_63 : decode cX7_table 63 = .ok (.putfield 71, 3) := by decide +kernel
theorem dX7_table_66 : decode cX7_table 66 = .ok (.aload_n 0, 1) := by decide +kernel
theorem dX7_table_67 : decode cX7_table 67 = .ok (.getfield 71, 3) := by decide +kernel
theorem dX7_table_70 : decode cX7_table 70 = .ok (.iconst 1, 1) := by decide +kernel
theorem dX7_table_71 : decode cX7_table 71 = .ok (.isub, 1) := by decide +kernel
theorem dX7_table_72 : decode cX7_table 72 = .ok (.ireturn, 1) := by decide +kernel
theorem dX7_matters_0 : decode cX7_matters 0 = .ok (.iload_n 0, 1) := by decide +kernel
theorem dX7_matters_1 : decode cX7_matters 1 = .ok (.iconst 1, 1) := by decide +kernel
theorem dX7_matters_2 : decode cX7_matters 2 = .ok (.bipush 7, 2) := by decide +kernel
theorem dX7_matters_4 : decode cX7_matters 4 = .ok (.invokestatic 75, 3) := by decide +kernel
theorem dX7_matters_7 : decode cX7_matters 7 = .ok (.ireturn, 1) := by decide +kernel
theorem dX7_lay_0 : decode cX7_lay 0 = .ok (.aload_n 0, 1) := by decide +kernel
theorem dX7_lay_1 : decode cX7_lay 1 = .ok (.getfield 19, 3) := by decide +kernel
theorem dX7_lay_4 : decode cX7_lay 4 = .ok (.iload_n 1, 1) := by decide +kernel
theorem dX7_lay_5 : decode cX7_lay 5 = .ok (.iload_n 2, 1) := by decide +kernel
theorem dX7_lay_6 : decode cX7_lay 6 = .ok (.iastore, 1) := by decide +kernel
theorem dX7_lay_7 : decode cX7_lay 7 = .ok (.aload_n 0, 1) := by decide +kernel
theorem dX7_lay_8 : decode cX7_lay 8 = .ok (.getfield 22, 3) := by decide +kernel
theorem dX7_lay_11 : decode cX7_lay 11 = .ok (.iload_n 1, 1) := by decide +kernel
theorem dX7_lay_12 : decode cX7_lay 12 = .ok (.iload_n 2, 1) := by decide +kernel
theorem dX7_lay_13 : decode cX7_lay 13 = .ok (.invokestatic 87, 3) := by decide +kernel
theorem dX7_lay_16 : decode cX7_lay 16 = .ok (.ifCond .eq 7, 3) := by decide +kernel
theorem dX7_lay_19 : decode cX7_lay 19 = .ok (.iload_n 3, 1) := by decide +kernel
theorem dX7_lay_20 : decode cX7_lay 20 = .ok (.goto 5, 3) := by decide +kernel
theorem dX7_lay_23 : decode cX7_lay 23 = .ok (.bipush (-6), 2) := by decide +kernel
theorem dX7_lay_25 : decode cX7_lay 25 = .ok (.iastore, 1) := by decide +kernel
theorem dX7_lay_26 : decode cX7_lay 26 = .ok (.aload_n 0, 1) := by decide +kernel
theorem dX7_lay_27 : decode cX7_lay 27 = .ok (.getfield 25, 3) := by decide +kernel
theorem dX7_lay_30 : decode cX7_lay 30 = .ok (.iload_n 1, 1) := by decide +kernel
theorem dX7_lay_31 : decode cX7_lay 31 = .ok (.iload_n 2, 1) := by decide +kernel
theorem dX7_lay_32 : decode cX7_lay 32 = .ok (.invokestatic 87, 3) := by decide +kernel
theorem dX7_lay_35 : decode cX7_lay 35 = .ok (.ifCond .eq 8, 3) := by decide +kernel
theorem dX7_lay_38 : decode cX7_lay 38 = .ok (.iload 4, 2) := by decide +kernel
theorem dX7_lay_40 : decode cX7_lay 40 = .ok (.goto 5, 3) := by decide +kernel
theorem dX7_lay_43 : decode cX7_lay 43 = .ok (.bipush (-6), 2) := by decide +kernel
theorem dX7_lay_45 : decode cX7_lay 45 = .ok (.iastore, 1) := by decide +kernel
theorem dX7_lay_46 : decode cX7_lay 46 = .ok (.return_, 1) := by decide +kernel
theorem dX7_isAct_0 : decode cX7_isAct 0 = .ok (.iload_n 0, 1) := by decide +kernel
theorem dX7_isAct_1 : decode cX7_isAct 1 = .ok (.iconst 0, 1) := by decide +kernel
theorem dX7_isAct_2 : decode cX7_isAct 2 = .ok (.bipush 9, 2) := by decide +kernel
theorem dX7_isAct_4 : decode cX7_isAct 4 = .ok (.invokestatic 75, 3) := by decide +kernel
theorem dX7_isAct_7 : decode cX7_isAct 7 = .ok (.ifCond .ne 5, 3) := by decide +kernel
theorem dX7_isAct_10 : decode cX7_isAct 10 = .ok (.iconst 0, 1) := by decide +kernel
theorem dX7_isAct_11 : decode cX7_isAct 11 = .ok (.ireturn, 1) := by decide +kernel
theorem dX7_isAct_12 : decode cX7_isAct 12 = .ok (.iload_n 0, 1) := by decide +kernel
theorem dX7_isAct_13 : decode cX7_isAct 13 = .ok (.invokestatic 87, 3) := by decide +kernel
theorem dX7_isAct_16 : decode cX7_isAct 16 = .ok (.ifCond .ne 5, 3) := by decide +kernel
theorem dX7_isAct_19 : decode cX7_isAct 19 = .ok (.iconst 1, 1) := by decide +kernel
theorem dX7_isAct_20 : decode cX7_isAct 20 = .ok (.ireturn, 1) := by decide +kernel
theorem dX7_isAct_21 : decode cX7_isAct 21 = .ok (.iload_n 0, 1) := by decide +kernel
theorem dX7_isAct_22 : decode cX7_isAct 22 = .ok (.iconst 1, 1) := by decide +kernel
theorem dX7_isAct_23 : decode cX7_isAct 23 = .ok (.if_icmp .eq 8, 3) := by decide +kernel
theorem dX7_isAct_26 : decode cX7_isAct 26 = .ok (.iload_n 0, 1) := by decide +kernel
theorem dX7_isAct_27 : decode cX7_isAct 27 = .ok (.iconst 3, 1) := by decide +kernel
theorem dX7_isAct_28 : decode cX7_isAct 28 = .ok (.if_icmp .ne 9, 3) := by decide +kernel
theorem dX7_isAct_31 : decode cX7_isAct 31 = .ok (.sipush 255, 3) := by decide +kernel
theorem dX7_isAct_34 : decode cX7_isAct 34 = .ok (.goto 18, 3) := by decide +kernel
theorem dX7_isAct_37 : decode cX7_isAct 37 = .ok (.iload_n 0, 1) := by decide +kernel
theorem dX7_isAct_38 : decode cX7_isAct 38 = .ok (.iconst 2, 1) := by decide +kernel
theorem dX7_isAct_39 : decode cX7_isAct 39 = .ok (.if_icmp .eq 8, 3) := by decide +kernel
theorem dX7_isAct_42 : decode cX7_isAct 42 = .ok (.iload_n 0, 1) := by decide +kernel
theorem dX7_isAct_43 : decode cX7_isAct 43 = .ok (.iconst 4, 1) := by decide +kernel
theorem dX7_isAct_44 : decode cX7_isAct 44 = .ok (.if_icmp .ne 7, 3) := by decide +kernel
theorem dX7_isAct_47 : decode cX7_isAct 47 = .ok (.iconst 5, 1) := by decide +kernel
theorem dX7_isAct_48 : decode cX7_isAct 48 = .ok (.goto 4, 3) := by decide +kernel
theorem dX7_isAct_51 : decode cX7_isAct 51 = .ok (.iconst 3, 1) := by decide +kernel
theorem dX7_isAct_52 : decode cX7_isAct 52 = .ok (.istore_n 3, 1) := by decide +kernel
theorem dX7_isAct_53 : decode cX7_isAct 53 = .ok (.iload_n 1, 1) := by decide +kernel
theorem dX7_isAct_54 : decode cX7_isAct 54 = .ok (.invokestatic 79, 3) := by decide +kernel
theorem dX7_isAct_57 : decode cX7_isAct 57 = .ok (.ifCond .eq 16, 3) := by decide +kernel
theorem dX7_isAct_60 : decode cX7_isAct 60 = .ok (.iload_n 2, 1) := by decide +kernel
theorem dX7_isAct_61 : decode cX7_isAct 61 = .ok (.iconst 0, 1) := by decide +kernel
theorem dX7_isAct_62 : decode cX7_isAct 62 = .ok (.iload_n 3, 1) := by decide +kernel
theorem dX7_isAct_63 : decode cX7_isAct 63 = .ok (.invokestatic 75, 3) := by decide +kernel
theorem dX7_isAct_66 : decode cX7_isAct 66 = .ok (.ifCond .eq 7, 3) := by decide +kernel
theorem dX7_isAct_69 : decode cX7_isAct 69 = .ok (.iconst 1, 1) := by decide +kernel
theorem dX7_isAct_70 : decode cX7_isAct 70 = .ok (.goto 4, 3) := by decide +kernel
theorem dX7_isAct_73 : decode cX7_isAct 73 = .ok (.iconst 0, 1) := by decide +kernel
theorem dX7_isAct_74 : decode cX7_isAct 74 = .ok (.ireturn, 1) := by decide +kernel
theorem dX7_isThere_0 : decode cX7_isThere 0 = .ok (.iload_n 1, 1) := by decide +kernel
theorem dX7_isThere_1 : decode cX7_isThere 1 = .ok (.iconst 5, 1) := by decide +kernel
theorem dX7_isThere_2 : decode cX7_isThere 2 = .ok (.irem, 1) := by decide +kernel
theorem dX7_isThere_3 : decode cX7_isThere 3 = .ok (.iconst 4, 1) := by decide +kernel
theorem dX7_isThere_4 : decode cX7_isThere 4 = .ok (.if_icmp .eq 17, 3) := by decide +kernel
theorem dX7_isThere_7 : decode cX7_isThere 7 = .ok (.iload_n 1, 1) := by decide +kernel
theorem dX7_isThere_8 : decode cX7_isThere 8 = .ok (.iconst 5, 1) := by decide +kernel
theorem dX7_isThere_9 : decode cX7_isThere 9 = .ok (.irem, 1) := by decide +kernel
theorem dX7_isThere_10 : decode cX7_isThere 10 = .ok (.aload_n 0, 1) := by decide +kernel
theorem dX7_isThere_11 : decode cX7_isThere 11 = .ok (.getfield 13, 3) := by decide +kernel
theorem dX7_isThere_14 : decode cX7_isThere 14 = .ok (.iload_n 1, 1) := by decide +kernel
theorem dX7_isThere_15 : decode cX7_isThere 15 = .ok (.iconst 5, 1) := by decide +kernel
theorem dX7_isThere_16 : decode cX7_isThere 16 = .ok (.idiv, 1) := by decide +kernel
theorem dX7_isThere_17 : decode cX7_isThere 17 = .ok (.iaload, 1) := by decide +kernel
theorem dX7_isThere_18 : decode cX7_isThere 18 = .ok (.if_icmp .ge 7, 3) := by decide +kernel
theorem dX7_isThere_21 : decode cX7_isThere 21 = .ok (.iconst 1, 1) := by decide +kernel
theorem dX7_isThere_22 : decode cX7_isThere 22 = .ok (.goto 4, 3) := by decide +kernel
theorem dX7_isThere_25 : decode cX7_isThere 25 = .ok (.iconst 0, 1) := by decide +kernel
theorem dX7_isThere_26 : decode cX7_isThere 26 = .ok (.ireturn, 1) := by decide +kernel
theorem dX7_registersOf_0 : decode cX7_registersOf 0 = .ok (.iconst 0, 1) := by decide +kernel
theorem dX7_registersOf_1 : decode cX7_registersOf 1 = .ok (.istore_n 2, 1) := by decide +kernel
theorem dX7_registersOf_2 : decode cX7_registersOf 2 = .ok (.iconst 5, 1) := by decide +kernel
theorem dX7_registersOf_3 : decode cX7_registersOf 3 = .ok (.iload_n 1, 1) := by decide +kernel
theorem dX7_registersOf_4 : decode cX7_registersOf 4 = .ok (.imul, 1) := by decide +kernel
theorem dX7_registersOf_5 : decode cX7_registersOf 5 = .ok (.istore_n 3, 1) := by decide +kernel
theorem dX7_registersOf_6 : decode cX7_registersOf 6 = .ok (.iload_n 3, 1) := by decide +kernel
theorem dX7_registersOf_7 : decode cX7_registersOf 7 = .ok (.iconst 5, 1) := by decide +kernel
theorem dX7_registersOf_8 : decode cX7_registersOf 8 = .ok (.iload_n 1, 1) := by decide +kernel
theorem dX7_registersOf_9 : decode cX7_registersOf 9 = .ok (.imul, 1) := by decide +kernel
theorem dX7_registersOf_10 : decode cX7_registersOf 10 = .ok (.iconst 5, 1) := by decide +kernel
theorem dX7_registersOf_11 : decode cX7_registersOf 11 = .ok (.iadd, 1) := by decide +kernel
theorem dX7_registersOf_12 : decode cX7_registersOf 12 = .ok (.if_icmp .ge 47, 3) := by decide +kernel
theorem dX7_registersOf_15 : decode cX7_registersOf 15 = .ok (.iload_n 2, 1) := by decide +kernel
theorem dX7_registersOf_16 : decode cX7_registersOf 16 = .ok (.aload_n 0, 1) := by decide +kernel
theorem dX7_registersOf_17 : decode cX7_registersOf 17 = .ok (.iload_n 3, 1) := by decide +kernel
theorem dX7_registersOf_18 : decode cX7_registersOf 18 = .ok (.invokevirtual 90, 3) := by decide +kernel
theorem dX7_registersOf_21 : decode cX7_registersOf 21 = .ok (.ifCond .eq 29, 3) := by decide +kernel
theorem dX7_registersOf_24 : decode cX7_registersOf 24 = .ok (.aload_n 0, 1) := by decide +kernel
theorem dX7_registersOf_25 : decode cX7_registersOf 25 = .ok (.getfield 19, 3) := by decide +kernel
theorem dX7_registersOf_28 : decode cX7_registersOf 28 = .ok (.iload_n 3, 1) := by decide +kernel
theorem dX7_registersOf_29 : decode cX7_registersOf 29 = .ok (.iaload, 1) := by decide +kernel
theorem dX7_registersOf_30 : decode cX7_registersOf 30 = .ok (.iconst 5, 1) := by decide +kernel
theorem dX7_registersOf_31 : decode cX7_registersOf 31 = .ok (.bipush 7, 2) := by decide +kernel
theorem dX7_registersOf_33 : decode cX7_registersOf 33 = .ok (.invokestatic 75, 3) := by decide +kernel
theorem dX7_registersOf_36 : decode cX7_registersOf 36 = .ok (.ifCond .eq 14, 3) := by decide +kernel
theorem dX7_registersOf_39 : decode cX7_registersOf 39 = .ok (.iconst 1, 1) := by decide +kernel
theorem dX7_registersOf_40 : decode cX7_registersOf 40 = .ok (.aload_n 0, 1) := by decide +kernel
theorem dX7_registersOf_41 : decode cX7_registersOf 41 = .ok (.getfield 25, 3) := by decide +kernel
theorem dX7_registersOf_44 : decode cX7_registersOf 44 = .ok (.iload_n 3, 1) := by decide +kernel
theorem dX7_registersOf_45 : decode cX7_registersOf 45 = .ok (.iaload, 1) := by decide +kernel
theorem dX7_registersOf_46 : decode cX7_registersOf 46 = .ok (.ishl, 1) := by decide +kernel
theorem dX7_registersOf_47 : decode cX7_registersOf 47 = .ok (.goto 4, 3) := by decide +kernel
theorem dX7_registersOf_50 : decode cX7_registersOf 50 = .ok (.iconst 0, 1) := by decide +kernel
theorem dX7_registersOf_51 : decode cX7_registersOf 51 = .ok (.ior, 1) := by decide +kernel
theorem dX7_registersOf_52 : decode cX7_registersOf 52 = .ok (.istore_n 2, 1) := by decide +kernel
theorem dX7_registersOf_53 : decode cX7_registersOf 53 = .ok (.iinc 3 1, 3) := by decide +kernel
theorem dX7_registersOf_56 : decode cX7_registersOf 56 = .ok (.goto (-50), 3) := by decide +kernel
theorem dX7_registersOf_59 : decode cX7_registersOf 59 = .ok (.iload_n 2, 1) := by decide +kernel
theorem dX7_registersOf_60 : decode cX7_registersOf 60 = .ok (.ireturn, 1) := by decide +kernel
theorem dX7_isTaken_0 : decode cX7_isTaken 0 = .ok (.iconst 0, 1) := by decide +kernel
theorem dX7_isTaken_1 : decode cX7_isTaken 1 = .ok (.istore 4, 2) := by decide +kernel
theorem dX7_isTaken_3 : decode cX7_isTaken 3 = .ok (.iconst 0, 1) := by decide +kernel
theorem dX7_isTaken_4 : decode cX7_isTaken 4 = .ok (.istore 5, 2) := by decide +kernel
theorem dX7_isTaken_6 : decode cX7_isTaken 6 = .ok (.iload 5, 2) := by decide +kernel
theorem dX7_isTaken_8 : decode cX7_isTaken 8 = .ok (.aload_n 0, 1) := by decide +kernel
theorem dX7_isTaken_9 : decode cX7_isTaken 9 = .ok (.getfield 71, 3) := by decide +kernel
theorem dX7_isTaken_12 : decode cX7_isTaken 12 = .ok (.if_icmp .ge 50, 3) := by decide +kernel
theorem dX7_isTaken_15 : decode cX7_isTaken 15 = .ok (.iload_n 2, 1) := by decide +kernel
theorem dX7_isTaken_16 : decode cX7_isTaken 16 = .ok (.iconst 5, 1) := by decide +kernel
theorem dX7_isTaken_17 : decode cX7_isTaken 17 = .ok (.bipush 7, 2) := by decide +kernel
theorem dX7_isTaken_19 : decode cX7_isTaken 19 = .ok (.invokestatic 75, 3) := by decide +kernel
theorem dX7_isTaken_22 : decode cX7_isTaken 22 = .ok (.ifCond .eq 40, 3) := by decide +kernel
theorem dX7_isTaken_25 : decode cX7_isTaken 25 = .ok (.iload 4, 2) := by decide +kernel
theorem dX7_isTaken_27 : decode cX7_isTaken 27 = .ok (.ifCond .ne 22, 3) := by decide +kernel
theorem dX7_isTaken_30 : decode cX7_isTaken 30 = .ok (.iload 5, 2) := by decide +kernel
theorem dX7_isTaken_32 : decode cX7_isTaken 32 = .ok (.iload_n 1, 1) := by decide +kernel
theorem dX7_isTaken_33 : decode cX7_isTaken 33 = .ok (.if_icmp .eq 20, 3) := by decide +kernel
theorem dX7_isTaken_36 : decode cX7_isTaken 36 = .ok (.aload_n 0, 1) := by decide +kernel
theorem dX7_isTaken_37 : decode cX7_isTaken 37 = .ok (.iload 5, 2) := by decide +kernel
theorem dX7_isTaken_39 : decode cX7_isTaken 39 = .ok (.invokevirtual 93, 3) := by decide +kernel
theorem dX7_isTaken_42 : decode cX7_isTaken 42 = .ok (.iload_n 3, 1) := by decide +kernel
theorem dX7_isTaken_43 : decode cX7_isTaken 43 = .ok (.invokestatic 97, 3) := by decide +kernel
theorem dX7_isTaken_46 : decode cX7_isTaken 46 = .ok (.ifCond .eq 7, 3) := by decide +kernel
theorem dX7_isTaken_49 : decode cX7_isTaken 49 = .ok (.iconst 1, 1) := by decide +kernel
theorem dX7_isTaken_50 : decode cX7_isTaken 50 = .ok (.goto 4, 3) := by decide +kernel
theorem dX7_isTaken_53 : decode cX7_isTaken 53 = .ok (.iconst 0, 1) := by decide +kernel
theorem dX7_isTaken_54 : decode cX7_isTaken 54 = .ok (.istore 4, 2) := by decide +kernel
theorem dX7_isTaken_56 : decode cX7_isTaken 56 = .ok (.iinc 5 1, 3) := by decide +kernel
theorem dX7_isTaken_59 : decode cX7_isTaken 59 = .ok (.goto (-53), 3) := by decide +kernel
theorem dX7_isTaken_62 : decode cX7_isTaken 62 = .ok (.iload 4, 2) := by decide +kernel
theorem dX7_isTaken_64 : decode cX7_isTaken 64 = .ok (.ireturn, 1) := by decide +kernel
theorem dX7_entryWith_0 : decode cX7_entryWith 0 = .ok (.bipush (-6), 2) := by decide +kernel
theorem dX7_entryWith_2 : decode cX7_entryWith 2 = .ok (.istore_n 3, 1) := by decide +kernel
theorem dX7_entryWith_3 : decode cX7_entryWith 3 = .ok (.iconst 0, 1) := by decide +kernel
theorem dX7_entryWith_4 : decode cX7_entryWith 4 = .ok (.istore 4, 2) := by decide +kernel
theorem dX7_entryWith_6 : decode cX7_entryWith 6 = .ok (.iload 4, 2) := by decide +kernel
theorem dX7_entryWith_8 : decode cX7_entryWith 8 = .ok (.aload_n 0, 1) := by decide +kernel
theorem dX7_entryWith_9 : decode cX7_entryWith 9 = .ok (.getfield 13, 3) := by decide +kernel
theorem dX7_entryWith_12 : decode cX7_entryWith 12 = .ok (.iload_n 1, 1) := by decide +kernel
theorem dX7_entryWith_13 : decode cX7_entryWith 13 = .ok (.iaload, 1) := by decide +kernel
theorem dX7_entryWith_14 : decode cX7_entryWith 14 = .ok (.if_icmp .ge 31, 3) := by decide +kernel
theorem dX7_entryWith_17 : decode cX7_entryWith 17 = .ok (.aload_n 0, 1) := by decide +kernel
theorem dX7_entryWith_18 : decode cX7_entryWith 18 = .ok (.getfield 16, 3) := by decide +kernel
theorem dX7_entryWith_21 : decode cX7_entryWith 21 = .ok (.iconst 5, 1) := by decide +kernel
theorem dX7_entryWith_22 : decode cX7_entryWith 22 = .ok (.iload_n 1, 1) := by decide +kernel
theorem dX7_entryWith_23 : decode cX7_entryWith 23 = .ok (.imul, 1) := by decide +kernel
theorem dX7_entryWith_24 : decode cX7_entryWith 24 = .ok (.iload 4, 2) := by decide +kernel
theorem dX7_entryWith_26 : decode cX7_entryWith 26 = .ok (.iadd, 1) := by decide +kernel
theorem dX7_entryWith_27 : decode cX7_entryWith 27 = .ok (.iaload, 1) := by decide +kernel
theorem dX7_entryWith_28 : decode cX7_entryWith 28 = .ok (.iload_n 2, 1) := by decide +kernel
theorem dX7_entryWith_29 : decode cX7_entryWith 29 = .ok (.if_icmp .ne 8, 3) := by decide +kernel
theorem dX7_entryWith_32 : decode cX7_entryWith 32 = .ok (.iload 4, 2) := by decide +kernel
theorem dX7_entryWith_34 : decode cX7_entryWith 34 = .ok (.goto 4, 3) := by decide +kernel
theorem dX7_entryWith_37 : decode cX7_entryWith 37 = .ok (.iload_n 3, 1) := by decide +kernel
theorem dX7_entryWith_38 : decode cX7_entryWith 38 = .ok (.istore_n 3, 1) := by decide +kernel
theorem dX7_entryWith_39 : decode cX7_entryWith 39 = .ok (.iinc 4 1, 3) := by decide +kernel
theorem dX7_entryWith_42 : decode cX7_entryWith 42 = .ok (.goto (-36), 3) := by decide +kernel
theorem dX7_entryWith_45 : decode cX7_entryWith 45 = .ok (.iload_n 3, 1) := by decide +kernel
theorem dX7_entryWith_46 : decode cX7_entryWith 46 = .ok (.ireturn, 1) := by decide +kernel
theorem dX7_entry_0 : decode cX7_entry 0 = .ok (.aload_n 0, 1) := by decide +kernel
theorem dX7_entry_1 : decode cX7_entry 1 = .ok (.iload_n 1, 1) := by decide +kernel
theorem dX7_entry_2 : decode cX7_entry 2 = .ok (.invokevirtual 101, 3) := by decide +kernel
theorem dX7_entry_5 : decode cX7_entry 5 = .ok (.ifCond .ne 5, 3) := by decide +kernel
theorem dX7_entry_8 : decode cX7_entry 8 = .ok (.iconst (-1), 1) := by decide +kernel
theorem dX7_entry_9 : decode cX7_entry 9 = .ok (.ireturn, 1) := by decide +kernel
theorem dX7_entry_10 : decode cX7_entry 10 = .ok (.iload_n 2, 1) := by decide +kernel
theorem dX7_entry_11 : decode cX7_entry 11 = .ok (.iconst 0, 1) := by decide +kernel
theorem dX7_entry_12 : decode cX7_entry 12 = .ok (.sipush 255, 3) := by decide +kernel
theorem dX7_entry_15 : decode cX7_entry 15 = .ok (.invokestatic 75, 3) := by decide +kernel
theorem dX7_entry_18 : decode cX7_entry 18 = .ok (.ifCond .eq 14, 3) := by decide +kernel
theorem dX7_entry_21 : decode cX7_entry 21 = .ok (.iload_n 3, 1) := by decide +kernel
theorem dX7_entry_22 : decode cX7_entry 22 = .ok (.iload 4, 2) := by decide +kernel
theorem dX7_entry_24 : decode cX7_entry 24 = .ok (.iload 5, 2) := by decide +kernel
theorem dX7_entry_26 : decode cX7_entry 26 = .ok (.invokestatic 104, 3) := by decide +kernel
theorem dX7_entry_29 : decode cX7_entry 29 = .ok (.ifCond .ne 6, 3) := by decide +kernel
theorem dX7_entry_32 : decode cX7_entry 32 = .ok (.bipush (-2), 2) := by decide +kernel
theorem dX7_entry_34 : decode cX7_entry 34 = .ok (.ireturn, 1) := by decide +kernel
theorem dX7_entry_35 : decode cX7_entry 35 = .ok (.aload_n 0, 1) := by decide +kernel
theorem dX7_entry_36 : decode cX7_entry 36 = .ok (.iload_n 1, 1) := by decide +kernel
theorem dX7_entry_37 : decode cX7_entry 37 = .ok (.iload_n 2, 1) := by decide +kernel
theorem dX7_entry_38 : decode cX7_entry 38 = .ok (.invokevirtual 107, 3) := by decide +kernel
theorem dX7_entry_41 : decode cX7_entry 41 = .ok (.ifCond .ge 14, 3) := by decide +kernel
theorem dX7_entry_44 : decode cX7_entry 44 = .ok (.aload_n 0, 1) := by decide +kernel
theorem dX7_entry_45 : decode cX7_entry 45 = .ok (.iload_n 1, 1) := by decide +kernel
theorem dX7_entry_46 : decode cX7_entry 46 = .ok (.iload_n 3, 1) := by decide +kernel
theorem dX7_entry_47 : decode cX7_entry 47 = .ok (.iload 5, 2) := by decide +kernel
theorem dX7_entry_49 : decode cX7_entry 49 = .ok (.invokevirtual 111, 3) := by decide +kernel
theorem dX7_entry_52 : decode cX7_entry 52 = .ok (.ifCond .eq 6, 3) := by decide +kernel
theorem dX7_entry_55 : decode cX7_entry 55 = .ok (.bipush (-5), 2) := by decide +kernel
theorem dX7_entry_57 : decode cX7_entry 57 = .ok (.ireturn, 1) := by decide +kernel
theorem dX7_entry_58 : decode cX7_entry 58 = .ok (.aload_n 0, 1) := by decide +kernel
theorem dX7_entry_59 : decode cX7_entry 59 = .ok (.getfield 13, 3) := by decide +kernel
theorem dX7_entry_62 : decode cX7_entry 62 = .ok (.iload_n 1, 1) := by decide +kernel
theorem dX7_entry_63 : decode cX7_entry 63 = .ok (.iaload, 1) := by decide +kernel
theorem dX7_entry_64 : decode cX7_entry 64 = .ok (.iconst 4, 1) := by decide +kernel
theorem dX7_entry_65 : decode cX7_entry 65 = .ok (.if_icmp .ne 6, 3) := by decide +kernel
theorem dX7_entry_68 : decode cX7_entry 68 = .ok (.bipush (-4), 2) := by decide +kernel
theorem dX7_entry_70 : decode cX7_entry 70 = .ok (.ireturn, 1) := by decide +kernel
theorem dX7_entry_71 : decode cX7_entry 71 = .ok (.aload_n 0, 1) := by decide +kernel
theorem dX7_entry_72 : decode cX7_entry 72 = .ok (.getfield 16, 3) := by decide +kernel
theorem dX7_entry_75 : decode cX7_entry 75 = .ok (.iconst 5, 1) := by decide +kernel
theorem dX7_entry_76 : decode cX7_entry 76 = .ok (.iload_n 1, 1) := by decide +kernel
theorem dX7_entry_77 : decode cX7_entry 77 = .ok (.imul, 1) := by decide +kernel
theorem dX7_entry_78 : decode cX7_entry 78 = .ok (.aload_n 0, 1) := by decide +kernel
theorem dX7_entry_79 : decode cX7_entry 79 = .ok (.getfield 13, 3) := by decide +kernel
theorem dX7_entry_82 : decode cX7_entry 82 = .ok (.iload_n 1, 1) := by decide +kernel
theorem dX7_entry_83 : decode cX7_entry 83 = .ok (.iaload, 1) := by decide +kernel
theorem dX7_entry_84 : decode cX7_entry 84 = .ok (.iadd, 1) := by decide +kernel
theorem dX7_entry_85 : decode cX7_entry 85 = .ok (.iload_n 2, 1) := by decide +kernel
theorem dX7_entry_86 : decode cX7_entry 86 = .ok (.iastore, 1) := by decide +kernel
theorem dX7_entry_87 : decode cX7_entry 87 = .ok (.aload_n 0, 1) := by decide +kernel
theorem dX7_entry_88 : decode cX7_entry 88 = .ok (.iconst 5, 1) := by decide +kernel
theorem dX7_entry_89 : decode cX7_entry 89 = .ok (.iload_n 1, 1) := by decide +kernel
theorem dX7_entry_90 : decode cX7_entry 90 = .ok (.imul, 1) := by decide +kernel
theorem dX7_entry_91 : decode cX7_entry 91 = .ok (.aload_n 0, 1) := by decide +kernel
theorem dX7_entry_92 : decode cX7_entry 92 = .ok (.getfield 13, 3) := by decide +kernel
theorem dX7_entry_95 : decode cX7_entry 95 = .ok (.iload_n 1, 1) := by decide +kernel
theorem dX7_entry_96 : decode cX7_entry 96 = .ok (.iaload, 1) := by decide +kernel
theorem dX7_entry_97 : decode cX7_entry 97 = .ok (.iadd, 1) := by decide +kernel
theorem dX7_entry_98 : decode cX7_entry 98 = .ok (.iload_n 3, 1) := by decide +kernel
theorem dX7_entry_99 : decode cX7_entry 99 = .ok (.iload 4, 2) := by decide +kernel
theorem dX7_entry_101 : decode cX7_entry 101 = .ok (.iload 5, 2) := by decide +kernel
theorem dX7_entry_103 : decode cX7_entry 103 = .ok (.invokevirtual 83, 3) := by decide +kernel
theorem dX7_entry_106 : decode cX7_entry 106 = .ok (.aload_n 0, 1) := by decide +kernel
theorem dX7_entry_107 : decode cX7_entry 107 = .ok (.getfield 13, 3) := by decide +kernel
theorem dX7_entry_110 : decode cX7_entry 110 = .ok (.iload_n 1, 1) := by decide +kernel
theorem dX7_entry_111 : decode cX7_entry 111 = .ok (.dup2, 1) := by decide +kernel
theorem dX7_entry_112 : decode cX7_entry 112 = .ok (.iaload, 1) := by decide +kernel
theorem dX7_entry_113 : decode cX7_entry 113 = .ok (.iconst 1, 1) := by decide +kernel
theorem dX7_entry_114 : decode cX7_entry 114 = .ok (.iadd, 1) := by decide +kernel
theorem dX7_entry_115 : decode cX7_entry 115 = .ok (.iastore, 1) := by decide +kernel
theorem dX7_entry_116 : decode cX7_entry 116 = .ok (.aload_n 0, 1) := by decide +kernel
theorem dX7_entry_117 : decode cX7_entry 117 = .ok (.getfield 13, 3) := by decide +kernel
theorem dX7_entry_120 : decode cX7_entry 120 = .ok (.iload_n 1, 1) := by decide +kernel
theorem dX7_entry_121 : decode cX7_entry 121 = .ok (.iaload, 1) := by decide +kernel
theorem dX7_entry_122 : decode cX7_entry 122 = .ok (.ireturn, 1) := by decide +kernel
theorem dX7_otherwise_0 : decode cX7_otherwise 0 = .ok (.aload_n 0, 1) := by decide +kernel
theorem dX7_otherwise_1 : decode cX7_otherwise 1 = .ok (.iload_n 1, 1) := by decide +kernel
theorem dX7_otherwise_2 : decode cX7_otherwise 2 = .ok (.invokevirtual 101, 3) := by decide +kernel
theorem dX7_otherwise_5 : decode cX7_otherwise 5 = .ok (.ifCond .ne 5, 3) := by decide +kernel
theorem dX7_otherwise_8 : decode cX7_otherwise 8 = .ok (.iconst (-1), 1) := by decide +kernel
theorem dX7_otherwise_9 : decode cX7_otherwise 9 = .ok (.ireturn, 1) := by decide +kernel
theorem dX7_otherwise_10 : decode cX7_otherwise 10 = .ok (.iload_n 2, 1) := by decide +kernel
theorem dX7_otherwise_11 : decode cX7_otherwise 11 = .ok (.iload_n 3, 1) := by decide +kernel
theorem dX7_otherwise_12 : decode cX7_otherwise 12 = .ok (.iload 4, 2) := by decide +kernel
theorem dX7_otherwise_14 : decode cX7_otherwise 14 = .ok (.invokestatic 104, 3) := by decide +kernel
theorem dX7_otherwise_17 : decode cX7_otherwise 17 = .ok (.ifCond .ne 6, 3) := by decide +kernel
theorem dX7_otherwise_20 : decode cX7_otherwise 20 = .ok (.bipush (-2), 2) := by decide +kernel
theorem dX7_otherwise_22 : decode cX7_otherwise 22 = .ok (.ireturn, 1) := by decide +kernel
theorem dX7_otherwise_23 : decode cX7_otherwise 23 = .ok (.aload_n 0, 1) := by decide +kernel
theorem dX7_otherwise_24 : decode cX7_otherwise 24 = .ok (.iload_n 1, 1) := by decide +kernel
theorem dX7_otherwise_25 : decode cX7_otherwise 25 = .ok (.iload_n 2, 1) := by decide +kernel
theorem dX7_otherwise_26 : decode cX7_otherwise 26 = .ok (.iload 4, 2) := by decide +kernel
theorem dX7_otherwise_28 : decode cX7_otherwise 28 = .ok (.invokevirtual 111, 3) := by decide +kernel
theorem dX7_otherwise_31 : decode cX7_otherwise 31 = .ok (.ifCond .eq 6, 3) := by decide +kernel
theorem dX7_otherwise_34 : decode cX7_otherwise 34 = .ok (.bipush (-5), 2) := by decide +kernel
theorem dX7_otherwise_36 : decode cX7_otherwise 36 = .ok (.ireturn, 1) := by decide +kernel
theorem dX7_otherwise_37 : decode cX7_otherwise 37 = .ok (.aload_n 0, 1) := by decide +kernel
theorem dX7_otherwise_38 : decode cX7_otherwise 38 = .ok (.getfield 19, 3) := by decide +kernel
theorem dX7_otherwise_41 : decode cX7_otherwise 41 = .ok (.iconst 5, 1) := by decide +kernel
theorem dX7_otherwise_42 : decode cX7_otherwise 42 = .ok (.iload_n 1, 1) := by decide +kernel
theorem dX7_otherwise_43 : decode cX7_otherwise 43 = .ok (.imul, 1) := by decide +kernel
theorem dX7_otherwise_44 : decode cX7_otherwise 44 = .ok (.iconst 4, 1) := by decide +kernel
theorem dX7_otherwise_45 : decode cX7_otherwise 45 = .ok (.iadd, 1) := by decide +kernel
theorem dX7_otherwise_46 : decode cX7_otherwise 46 = .ok (.iaload, 1) := by decide +kernel
theorem dX7_otherwise_47 : decode cX7_otherwise 47 = .ok (.istore 5, 2) := by decide +kernel
theorem dX7_otherwise_49 : decode cX7_otherwise 49 = .ok (.aload_n 0, 1) := by decide +kernel
theorem dX7_otherwise_50 : decode cX7_otherwise 50 = .ok (.iconst 5, 1) := by decide +kernel
theorem dX7_otherwise_51 : decode cX7_otherwise 51 = .ok (.iload_n 1, 1) := by decide +kernel
theorem dX7_otherwise_52 : decode cX7_otherwise 52 = .ok (.imul, 1) := by decide +kernel
theorem dX7_otherwise_53 : decode cX7_otherwise 53 = .ok (.iconst 4, 1) := by decide +kernel
theorem dX7_otherwise_54 : decode cX7_otherwise 54 = .ok (.iadd, 1) := by decide +kernel
theorem dX7_otherwise_55 : decode cX7_otherwise 55 = .ok (.iload_n 2, 1) := by decide +kernel
theorem dX7_otherwise_56 : decode cX7_otherwise 56 = .ok (.iload_n 3, 1) := by decide +kernel
theorem dX7_otherwise_57 : decode cX7_otherwise 57 = .ok (.iload 4, 2) := by decide +kernel
theorem dX7_otherwise_59 : decode cX7_otherwise 59 = .ok (.invokevirtual 83, 3) := by decide +kernel
theorem dX7_otherwise_62 : decode cX7_otherwise 62 = .ok (.iload 5, 2) := by decide +kernel
theorem dX7_otherwise_64 : decode cX7_otherwise 64 = .ok (.ireturn, 1) := by decide +kernel
theorem dX7_copy_0 : decode cX7_copy 0 = .ok (.aload_n 0, 1) := by decide +kernel
theorem dX7_copy_1 : decode cX7_copy 1 = .ok (.getfield 16, 3) := by decide +kernel
theorem dX7_copy_4 : decode cX7_copy 4 = .ok (.iload_n 2, 1) := by decide +kernel
theorem dX7_copy_5 : decode cX7_copy 5 = .ok (.aload_n 0, 1) := by decide +kernel
theorem dX7_copy_6 : decode cX7_copy 6 = .ok (.getfield 16, 3) := by decide +kernel
theorem dX7_copy_9 : decode cX7_copy 9 = .ok (.iload_n 1, 1) := by decide +kernel
theorem dX7_copy_10 : decode cX7_copy 10 = .ok (.iaload, 1) := by decide +kernel
theorem dX7_copy_11 : decode cX7_copy 11 = .ok (.iastore, 1) := by decide +kernel
theorem dX7_copy_12 : decode cX7_copy 12 = .ok (.aload_n 0, 1) := by decide +kernel
theorem dX7_copy_13 : decode cX7_copy 13 = .ok (.getfield 19, 3) := by decide +kernel
theorem dX7_copy_16 : decode cX7_copy 16 = .ok (.iload_n 2, 1) := by decide +kernel
theorem dX7_copy_17 : decode cX7_copy 17 = .ok (.aload_n 0, 1) := by decide +kernel
theorem dX7_copy_18 : decode cX7_copy 18 = .ok (.getfield 19, 3) := by decide +kernel
theorem dX7_copy_21 : decode cX7_copy 21 = .ok (.iload_n 1, 1) := by decide +kernel
theorem dX7_copy_22 : decode cX7_copy 22 = .ok (.iaload, 1) := by decide +kernel
theorem dX7_copy_23 : decode cX7_copy 23 = .ok (.iastore, 1) := by decide +kernel
theorem dX7_copy_24 : decode cX7_copy 24 = .ok (.aload_n 0, 1) := by decide +kernel
theorem dX7_copy_25 : decode cX7_copy 25 = .ok (.getfield 22, 3) := by decide +kernel
theorem dX7_copy_28 : decode cX7_copy 28 = .ok (.iload_n 2, 1) := by decide +kernel
theorem dX7_copy_29 : decode cX7_copy 29 = .ok (.aload_n 0, 1) := by decide +kernel
theorem dX7_copy_30 : decode cX7_copy 30 = .ok (.getfield 22, 3) := by decide +kernel
theorem dX7_copy_33 : decode cX7_copy 33 = .ok (.iload_n 1, 1) := by decide +kernel
theorem dX7_copy_34 : decode cX7_copy 34 = .ok (.iaload, 1) := by decide +kernel
theorem dX7_copy_35 : decode cX7_copy 35 = .ok (.iastore, 1) := by decide +kernel
theorem dX7_copy_36 : decode cX7_copy 36 = .ok (.aload_n 0, 1) := by decide +kernel
theorem dX7_copy_37 : decode cX7_copy 37 = .ok (.getfield 25, 3) := by decide +kernel
theorem dX7_copy_40 : decode cX7_copy 40 = .ok (.iload_n 2, 1) := by decide +kernel
theorem dX7_copy_41 : decode cX7_copy 41 = .ok (.aload_n 0, 1) := by decide +kernel
theorem dX7_copy_42 : decode cX7_copy 42 = .ok (.getfield 25, 3) := by decide +kernel
theorem dX7_copy_45 : decode cX7_copy 45 = .ok (.iload_n 1, 1) := by decide +kernel
theorem dX7_copy_46 : decode cX7_copy 46 = .ok (.iaload, 1) := by decide +kernel
theorem dX7_copy_47 : decode cX7_copy 47 = .ok (.iastore, 1) := by decide +kernel
theorem dX7_copy_48 : decode cX7_copy 48 = .ok (.return_, 1) := by decide +kernel
theorem dX7_forget_0 : decode cX7_forget 0 = .ok (.aload_n 0, 1) := by decide +kernel
theorem dX7_forget_1 : decode cX7_forget 1 = .ok (.iload_n 1, 1) := by decide +kernel
theorem dX7_forget_2 : decode cX7_forget 2 = .ok (.invokevirtual 101, 3) := by decide +kernel
theorem dX7_forget_5 : decode cX7_forget 5 = .ok (.ifCond .ne 5, 3) := by decide +kernel
theorem dX7_forget_8 : decode cX7_forget 8 = .ok (.iconst (-1), 1) := by decide +kernel
theorem dX7_forget_9 : decode cX7_forget 9 = .ok (.ireturn, 1) := by decide +kernel
theorem dX7_forget_10 : decode cX7_forget 10 = .ok (.iload_n 2, 1) := by decide +kernel
theorem dX7_forget_11 : decode cX7_forget 11 = .ok (.iconst 0, 1) := by decide +kernel
theorem dX7_forget_12 : decode cX7_forget 12 = .ok (.aload_n 0, 1) := by decide +kernel
theorem dX7_forget_13 : decode cX7_forget 13 = .ok (.getfield 13, 3) := by decide +kernel
theorem dX7_forget_16 : decode cX7_forget 16 = .ok (.iload_n 1, 1) := by decide +kernel
theorem dX7_forget_17 : decode cX7_forget 17 = .ok (.iaload, 1) := by decide +kernel
theorem dX7_forget_18 : decode cX7_forget 18 = .ok (.iconst 1, 1) := by decide +kernel
theorem dX7_forget_19 : decode cX7_forget 19 = .ok (.isub, 1) := by decide +kernel
theorem dX7_forget_20 : decode cX7_forget 20 = .ok (.invokestatic 75, 3) := by decide +kernel
theorem dX7_forget_23 : decode cX7_forget 23 = .ok (.ifCond .ne 6, 3) := by decide +kernel
theorem dX7_forget_26 : decode cX7_forget 26 = .ok (.bipush (-2), 2) := by decide +kernel
theorem dX7_forget_28 : decode cX7_forget 28 = .ok (.ireturn, 1) := by decide +kernel
theorem dX7_forget_29 : decode cX7_forget 29 = .ok (.aload_n 0, 1) := by decide +kernel
theorem dX7_forget_30 : decode cX7_forget 30 = .ok (.getfield 13, 3) := by decide +kernel
theorem dX7_forget_33 : decode cX7_forget 33 = .ok (.iload_n 1, 1) := by decide +kernel
theorem dX7_forget_34 : decode cX7_forget 34 = .ok (.dup2, 1) := by decide +kernel
theorem dX7_forget_35 : decode cX7_forget 35 = .ok (.iaload, 1) := by decide +kernel
theorem dX7_forget_36 : decode cX7_forget 36 = .ok (.iconst 1, 1) := by decide +kernel
theorem dX7_forget_37 : decode cX7_forget 37 = .ok (.isub, 1) := by decide +kernel
theorem dX7_forget_38 : decode cX7_forget 38 = .ok (.iastore, 1) := by decide +kernel
theorem dX7_forget_39 : decode cX7_forget 39 = .ok (.iload_n 2, 1) := by decide +kernel
theorem dX7_forget_40 : decode cX7_forget 40 = .ok (.istore_n 3, 1) := by decide +kernel
theorem dX7_forget_41 : decode cX7_forget 41 = .ok (.iload_n 3, 1) := by decide +kernel
theorem dX7_forget_42 : decode cX7_forget 42 = .ok (.aload_n 0, 1) := by decide +kernel
theorem dX7_forget_43 : decode cX7_forget 43 = .ok (.getfield 13, 3) := by decide +kernel
theorem dX7_forget_46 : decode cX7_forget 46 = .ok (.iload_n 1, 1) := by decide +kernel
theorem dX7_forget_47 : decode cX7_forget 47 = .ok (.iaload, 1) := by decide +kernel
theorem dX7_forget_48 : decode cX7_forget 48 = .ok (.if_icmp .ge 25, 3) := by decide +kernel
theorem dX7_forget_51 : decode cX7_forget 51 = .ok (.aload_n 0, 1) := by decide +kernel
theorem dX7_forget_52 : decode cX7_forget 52 = .ok (.iconst 5, 1) := by decide +kernel
theorem dX7_forget_53 : decode cX7_forget 53 = .ok (.iload_n 1, 1) := by decide +kernel
theorem dX7_forget_54 : decode cX7_forget 54 = .ok (.imul, 1) := by decide +kernel
theorem dX7_forget_55 : decode cX7_forget 55 = .ok (.iload_n 3, 1) := by decide +kernel
theorem dX7_forget_56 : decode cX7_forget 56 = .ok (.iadd, 1) := by decide +kernel
theorem dX7_forget_57 : decode cX7_forget 57 = .ok (.iconst 1, 1) := by decide +kernel
theorem dX7_forget_58 : decode cX7_forget 58 = .ok (.iadd, 1) := by decide +kernel
theorem dX7_forget_59 : decode cX7_forget 59 = .ok (.iconst 5, 1) := by decide +kernel
theorem dX7_forget_60 : decode cX7_forget 60 = .ok (.iload_n 1, 1) := by decide +kernel
theorem dX7_forget_61 : decode cX7_forget 61 = .ok (.imul, 1) := by decide +kernel
theorem dX7_forget_62 : decode cX7_forget 62 = .ok (.iload_n 3, 1) := by decide +kernel
theorem dX7_forget_63 : decode cX7_forget 63 = .ok (.iadd, 1) := by decide +kernel
theorem dX7_forget_64 : decode cX7_forget 64 = .ok (.invokevirtual 114, 3) := by decide +kernel
theorem dX7_forget_67 : decode cX7_forget 67 = .ok (.iinc 3 1, 3) := by decide +kernel
theorem dX7_forget_70 : decode cX7_forget 70 = .ok (.goto (-29), 3) := by decide +kernel
theorem dX7_forget_73 : decode cX7_forget 73 = .ok (.aload_n 0, 1) := by decide +kernel
theorem dX7_forget_74 : decode cX7_forget 74 = .ok (.getfield 13, 3) := by decide +kernel
theorem dX7_forget_77 : decode cX7_forget 77 = .ok (.iload_n 1, 1) := by decide +kernel
theorem dX7_forget_78 : decode cX7_forget 78 = .ok (.iaload, 1) := by decide +kernel
theorem dX7_forget_79 : decode cX7_forget 79 = .ok (.ireturn, 1) := by decide +kernel
theorem dX7_drop_0 : decode cX7_drop 0 = .ok (.aload_n 0, 1) := by decide +kernel
theorem dX7_drop_1 : decode cX7_drop 1 = .ok (.iload_n 1, 1) := by decide +kernel
theorem dX7_drop_2 : decode cX7_drop 2 = .ok (.invokevirtual 101, 3) := by decide +kernel
theorem dX7_drop_5 : decode cX7_drop 5 = .ok (.ifCond .ne 5, 3) := by decide +kernel
theorem dX7_drop_8 : decode cX7_drop 8 = .ok (.iconst (-1), 1) := by decide +kernel
theorem dX7_drop_9 : decode cX7_drop 9 = .ok (.ireturn, 1) := by decide +kernel
theorem dX7_drop_10 : decode cX7_drop 10 = .ok (.aload_n 0, 1) := by decide +kernel
theorem dX7_drop_11 : decode cX7_drop 11 = .ok (.dup, 1) := by decide +kernel
theorem dX7_drop_12 : decode cX7_drop 12 = .ok (.getfield 71, 3) := by decide +kernel
theorem dX7_drop_15 : decode cX7_drop 15 = .ok (.iconst 1, 1) := by decide +kernel
theorem dX7_drop_16 : decode cX7_drop 16 = .ok (.isub, 1) := by decide +kernel
theorem dX7_drop_17 : decode cX7_drop 17 = .ok (.putfield 71, 3) := by decide +kernel
theorem dX7_drop_20 : decode cX7_drop 20 = .ok (.iload_n 1, 1) := by decide +kernel
theorem dX7_drop_21 : decode cX7_drop 21 = .ok (.istore_n 2, 1) := by decide +kernel
theorem dX7_drop_22 : decode cX7_drop 22 = .ok (.iload_n 2, 1) := by decide +kernel
theorem dX7_drop_23 : decode cX7_drop 23 = .ok (.aload_n 0, 1) := by decide +kernel
theorem dX7_drop_24 : decode cX7_drop 24 = .ok (.getfield 71, 3) := by decide +kernel
theorem dX7_drop_27 : decode cX7_drop 27 = .ok (.if_icmp .ge 66, 3) := by decide +kernel
theorem dX7_drop_30 : decode cX7_drop 30 = .ok (.aload_n 0, 1) := by decide +kernel
theorem dX7_drop_31 : decode cX7_drop 31 = .ok (.getfield 7, 3) := by decide +kernel
theorem dX7_drop_34 : decode cX7_drop 34 = .ok (.iload_n 2, 1) := by decide +kernel
theorem dX7_drop_35 : decode cX7_drop 35 = .ok (.aload_n 0, 1) := by decide +kernel
theorem dX7_drop_36 : decode cX7_drop 36 = .ok (.getfield 7, 3) := by decide +kernel
theorem dX7_drop_39 : decode cX7_drop 39 = .ok (.iload_n 2, 1) := by decide +kernel
theorem dX7_drop_40 : decode cX7_drop 40 = .ok (.iconst 1, 1) := by decide +kernel
theorem dX7_drop_41 : decode cX7_drop 41 = .ok (.iadd, 1) := by decide +kernel
theorem dX7_drop_42 : decode cX7_drop 42 = .ok (.iaload, 1) := by decide +kernel
theorem dX7_drop_43 : decode cX7_drop 43 = .ok (.iastore, 1) := by decide +kernel
theorem dX7_drop_44 : decode cX7_drop 44 = .ok (.aload_n 0, 1) := by decide +kernel
theorem dX7_drop_45 : decode cX7_drop 45 = .ok (.getfield 13, 3) := by decide +kernel
theorem dX7_drop_48 : decode cX7_drop 48 = .ok (.iload_n 2, 1) := by decide +kernel
theorem dX7_drop_49 : decode cX7_drop 49 = .ok (.aload_n 0, 1) := by decide +kernel
theorem dX7_drop_50 : decode cX7_drop 50 = .ok (.getfield 13, 3) := by decide +kernel
theorem dX7_drop_53 : decode cX7_drop 53 = .ok (.iload_n 2, 1) := by decide +kernel
theorem dX7_drop_54 : decode cX7_drop 54 = .ok (.iconst 1, 1) := by decide +kernel
theorem dX7_drop_55 : decode cX7_drop 55 = .ok (.iadd, 1) := by decide +kernel
theorem dX7_drop_56 : decode cX7_drop 56 = .ok (.iaload, 1) := by decide +kernel
theorem dX7_drop_57 : decode cX7_drop 57 = .ok (.iastore, 1) := by decide +kernel
theorem dX7_drop_58 : decode cX7_drop 58 = .ok (.iconst 0, 1) := by decide +kernel
theorem dX7_drop_59 : decode cX7_drop 59 = .ok (.istore_n 3, 1) := by decide +kernel
theorem dX7_drop_60 : decode cX7_drop 60 = .ok (.iload_n 3, 1) := by decide +kernel
theorem dX7_drop_61 : decode cX7_drop 61 = .ok (.iconst 5, 1) := by decide +kernel
theorem dX7_drop_62 : decode cX7_drop 62 = .ok (.if_icmp .ge 25, 3) := by decide +kernel
theorem dX7_drop_65 : decode cX7_drop 65 = .ok (.aload_n 0, 1) := by decide +kernel
theorem dX7_drop_66 : decode cX7_drop 66 = .ok (.iconst 5, 1) := by decide +kernel
theorem dX7_drop_67 : decode cX7_drop 67 = .ok (.iload_n 2, 1) := by decide +kernel
theorem dX7_drop_68 : decode cX7_drop 68 = .ok (.imul, 1) := by decide +kernel
theorem dX7_drop_69 : decode cX7_drop 69 = .ok (.iconst 5, 1) := by decide +kernel
theorem dX7_drop_70 : decode cX7_drop 70 = .ok (.iadd, 1) := by decide +kernel
theorem dX7_drop_71 : decode cX7_drop 71 = .ok (.iload_n 3, 1) := by decide +kernel
theorem dX7_drop_72 : decode cX7_drop 72 = .ok (.iadd, 1) := by decide +kernel
theorem dX7_drop_73 : decode cX7_drop 73 = .ok (.iconst 5, 1) := by decide +kernel
theorem dX7_drop_74 : decode cX7_drop 74 = .ok (.iload_n 2, 1) := by decide +kernel
theorem dX7_drop_75 : decode cX7_drop 75 = .ok (.imul, 1) := by decide +kernel
theorem dX7_drop_76 : decode cX7_drop 76 = .ok (.iload_n 3, 1) := by decide +kernel
theorem dX7_drop_77 : decode cX7_drop 77 = .ok (.iadd, 1) := by decide +kernel
theorem dX7_drop_78 : decode cX7_drop 78 = .ok (.invokevirtual 114, 3) := by decide +kernel
theorem dX7_drop_81 : decode cX7_drop 81 = .ok (.iinc 3 1, 3) := by decide +kernel
theorem dX7_drop_84 : decode cX7_drop 84 = .ok (.goto (-24), 3) := by decide +kernel
theorem dX7_drop_87 : decode cX7_drop 87 = .ok (.iinc 2 1, 3) := by decide +kernel
theorem dX7_drop_90 : decode cX7_drop 90 = .ok (.goto (-68), 3) := by decide +kernel
theorem dX7_drop_93 : decode cX7_drop 93 = .ok (.aload_n 0, 1) := by decide +kernel
theorem dX7_drop_94 : decode cX7_drop 94 = .ok (.getfield 71, 3) := by decide +kernel
theorem dX7_drop_97 : decode cX7_drop 97 = .ok (.ireturn, 1) := by decide +kernel
theorem dX7_rule_0 : decode cX7_rule 0 = .ok (.iload_n 1, 1) := by decide +kernel
theorem dX7_rule_1 : decode cX7_rule 1 = .ok (.iconst 0, 1) := by decide +kernel
theorem dX7_rule_2 : decode cX7_rule 2 = .ok (.iconst 3, 1) := by decide +kernel
theorem dX7_rule_3 : decode cX7_rule 3 = .ok (.invokestatic 75, 3) := by decide +kernel
theorem dX7_rule_6 : decode cX7_rule 6 = .ok (.ifCond .eq 39, 3) := by decide +kernel
theorem dX7_rule_9 : decode cX7_rule 9 = .ok (.iload_n 2, 1) := by decide +kernel
theorem dX7_rule_10 : decode cX7_rule 10 = .ok (.iload_n 1, 1) := by decide +kernel
theorem dX7_rule_11 : decode cX7_rule 11 = .ok (.ifCond .ne 7, 3) := by decide +kernel
theorem dX7_rule_14 : decode cX7_rule 14 = .ok (.iconst 5, 1) := by decide +kernel
theorem dX7_rule_15 : decode cX7_rule 15 = .ok (.goto 4, 3) := by decide +kernel
theorem dX7_rule_18 : decode cX7_rule 18 = .ok (.iconst 1, 1) := by decide +kernel
theorem dX7_rule_19 : decode cX7_rule 19 = .ok (.iload_n 1, 1) := by decide +kernel
theorem dX7_rule_20 : decode cX7_rule 20 = .ok (.ifCond .ne 8, 3) := by decide +kernel
theorem dX7_rule_23 : decode cX7_rule 23 = .ok (.bipush 20, 2) := by decide +kernel
theorem dX7_rule_25 : decode cX7_rule 25 = .ok (.goto 14, 3) := by decide +kernel
theorem dX7_rule_28 : decode cX7_rule 28 = .ok (.iload_n 1, 1) := by decide +kernel
theorem dX7_rule_29 : decode cX7_rule 29 = .ok (.iconst 2, 1) := by decide +kernel
theorem dX7_rule_30 : decode cX7_rule 30 = .ok (.if_icmp .ne 8, 3) := by decide +kernel
theorem dX7_rule_33 : decode cX7_rule 33 = .ok (.bipush 8, 2) := by decide +kernel
theorem dX7_rule_35 : decode cX7_rule 35 = .ok (.goto 4, 3) := by decide +kernel
theorem dX7_rule_38 : decode cX7_rule 38 = .ok (.iconst 4, 1) := by decide +kernel
theorem dX7_rule_39 : decode cX7_rule 39 = .ok (.invokestatic 75, 3) := by decide +kernel
theorem dX7_rule_42 : decode cX7_rule 42 = .ok (.ifCond .ne 6, 3) := by decide +kernel
theorem dX7_rule_45 : decode cX7_rule 45 = .ok (.bipush (-2), 2) := by decide +kernel
theorem dX7_rule_47 : decode cX7_rule 47 = .ok (.ireturn, 1) := by decide +kernel
theorem dX7_rule_48 : decode cX7_rule 48 = .ok (.aload_n 0, 1) := by decide +kernel
theorem dX7_rule_49 : decode cX7_rule 49 = .ok (.getfield 34, 3) := by decide +kernel
theorem dX7_rule_52 : decode cX7_rule 52 = .ok (.iload_n 1, 1) := by decide +kernel
theorem dX7_rule_53 : decode cX7_rule 53 = .ok (.iaload, 1) := by decide +kernel
theorem dX7_rule_54 : decode cX7_rule 54 = .ok (.istore_n 3, 1) := by decide +kernel
theorem dX7_rule_55 : decode cX7_rule 55 = .ok (.aload_n 0, 1) := by decide +kernel
theorem dX7_rule_56 : decode cX7_rule 56 = .ok (.getfield 34, 3) := by decide +kernel
theorem dX7_rule_59 : decode cX7_rule 59 = .ok (.iload_n 1, 1) := by decide +kernel
theorem dX7_rule_60 : decode cX7_rule 60 = .ok (.iload_n 2, 1) := by decide +kernel
theorem dX7_rule_61 : decode cX7_rule 61 = .ok (.iastore, 1) := by decide +kernel
theorem dX7_rule_62 : decode cX7_rule 62 = .ok (.iload_n 3, 1) := by decide +kernel
theorem dX7_rule_63 : decode cX7_rule 63 = .ok (.ireturn, 1) := by decide +kernel
theorem dX7_writes_0 : decode cX7_writes 0 = .ok (.iconst 0, 1) := by decide +kernel
theorem dX7_writes_1 : decode cX7_writes 1 = .ok (.istore_n 2, 1) := by decide +kernel
theorem dX7_writes_2 : decode cX7_writes 2 = .ok (.iconst 5, 1) := by decide +kernel
theorem dX7_writes_3 : decode cX7_writes 3 = .ok (.iload_n 1, 1) := by decide +kernel
theorem dX7_writes_4 : decode cX7_writes 4 = .ok (.imul, 1) := by decide +kernel
theorem dX7_writes_5 : decode cX7_writes 5 = .ok (.istore_n 3, 1) := by decide +kernel
theorem dX7_writes_6 : decode cX7_writes 6 = .ok (.iload_n 3, 1) := by decide +kernel
theorem dX7_writes_7 : decode cX7_writes 7 = .ok (.iconst 5, 1) := by decide +kernel
theorem dX7_writes_8 : decode cX7_writes 8 = .ok (.iload_n 1, 1) := by decide +kernel
theorem dX7_writes_9 : decode cX7_writes 9 = .ok (.imul, 1) := by decide +kernel
theorem dX7_writes_10 : decode cX7_writes 10 = .ok (.iconst 5, 1) := by decide +kernel
theorem dX7_writes_11 : decode cX7_writes 11 = .ok (.iadd, 1) := by decide +kernel
theorem dX7_writes_12 : decode cX7_writes 12 = .ok (.if_icmp .ge 44, 3) := by decide +kernel
theorem dX7_writes_15 : decode cX7_writes 15 = .ok (.iload_n 2, 1) := by decide +kernel
theorem dX7_writes_16 : decode cX7_writes 16 = .ok (.aload_n 0, 1) := by decide +kernel
theorem dX7_writes_17 : decode cX7_writes 17 = .ok (.iload_n 3, 1) := by decide +kernel
theorem dX7_writes_18 : decode cX7_writes 18 = .ok (.invokevirtual 90, 3) := by decide +kernel
theorem dX7_writes_21 : decode cX7_writes 21 = .ok (.ifCond .eq 26, 3) := by decide +kernel
theorem dX7_writes_24 : decode cX7_writes 24 = .ok (.aload_n 0, 1) := by decide +kernel
theorem dX7_writes_25 : decode cX7_writes 25 = .ok (.getfield 19, 3) := by decide +kernel
theorem dX7_writes_28 : decode cX7_writes 28 = .ok (.iload_n 3, 1) := by decide +kernel
theorem dX7_writes_29 : decode cX7_writes 29 = .ok (.iaload, 1) := by decide +kernel
theorem dX7_writes_30 : decode cX7_writes 30 = .ok (.invokestatic 87, 3) := by decide +kernel
theorem dX7_writes_33 : decode cX7_writes 33 = .ok (.ifCond .eq 14, 3) := by decide +kernel
theorem dX7_writes_36 : decode cX7_writes 36 = .ok (.iconst 1, 1) := by decide +kernel
theorem dX7_writes_37 : decode cX7_writes 37 = .ok (.aload_n 0, 1) := by decide +kernel
theorem dX7_writes_38 : decode cX7_writes 38 = .ok (.getfield 22, 3) := by decide +kernel
theorem dX7_writes_41 : decode cX7_writes 41 = .ok (.iload_n 3, 1) := by decide +kernel
theorem dX7_writes_42 : decode cX7_writes 42 = .ok (.iaload, 1) := by decide +kernel
theorem dX7_writes_43 : decode cX7_writes 43 = .ok (.ishl, 1) := by decide +kernel
theorem dX7_writes_44 : decode cX7_writes 44 = .ok (.goto 4, 3) := by decide +kernel
theorem dX7_writes_47 : decode cX7_writes 47 = .ok (.iconst 0, 1) := by decide +kernel
theorem dX7_writes_48 : decode cX7_writes 48 = .ok (.ior, 1) := by decide +kernel
theorem dX7_writes_49 : decode cX7_writes 49 = .ok (.istore_n 2, 1) := by decide +kernel
theorem dX7_writes_50 : decode cX7_writes 50 = .ok (.iinc 3 1, 3) := by decide +kernel
theorem dX7_writes_53 : decode cX7_writes 53 = .ok (.goto (-47), 3) := by decide +kernel
theorem dX7_writes_56 : decode cX7_writes 56 = .ok (.iload_n 2, 1) := by decide +kernel
theorem dX7_writes_57 : decode cX7_writes 57 = .ok (.ireturn, 1) := by decide +kernel
theorem dX7_reads_0 : decode cX7_reads 0 = .ok (.iconst 1, 1) := by decide +kernel
theorem dX7_reads_1 : decode cX7_reads 1 = .ok (.aload_n 0, 1) := by decide +kernel
theorem dX7_reads_2 : decode cX7_reads 2 = .ok (.getfield 7, 3) := by decide +kernel
theorem dX7_reads_5 : decode cX7_reads 5 = .ok (.iload_n 1, 1) := by decide +kernel
theorem dX7_reads_6 : decode cX7_reads 6 = .ok (.iaload, 1) := by decide +kernel
theorem dX7_reads_7 : decode cX7_reads 7 = .ok (.ishl, 1) := by decide +kernel
theorem dX7_reads_8 : decode cX7_reads 8 = .ok (.istore_n 2, 1) := by decide +kernel
theorem dX7_reads_9 : decode cX7_reads 9 = .ok (.iconst 5, 1) := by decide +kernel
theorem dX7_reads_10 : decode cX7_reads 10 = .ok (.iload_n 1, 1) := by decide +kernel
theorem dX7_reads_11 : decode cX7_reads 11 = .ok (.imul, 1) := by decide +kernel
theorem dX7_reads_12 : decode cX7_reads 12 = .ok (.istore_n 3, 1) := by decide +kernel
theorem dX7_reads_13 : decode cX7_reads 13 = .ok (.iload_n 3, 1) := by decide +kernel
theorem dX7_reads_14 : decode cX7_reads 14 = .ok (.iconst 5, 1) := by decide +kernel
theorem dX7_reads_15 : decode cX7_reads 15 = .ok (.iload_n 1, 1) := by decide +kernel
theorem dX7_reads_16 : decode cX7_reads 16 = .ok (.imul, 1) := by decide +kernel
theorem dX7_reads_17 : decode cX7_reads 17 = .ok (.iconst 5, 1) := by decide +kernel
theorem dX7_reads_18 : decode cX7_reads 18 = .ok (.iadd, 1) := by decide +kernel
theorem dX7_reads_19 : decode cX7_reads 19 = .ok (.if_icmp .ge 93, 3) := by decide +kernel
theorem dX7_reads_22 : decode cX7_reads 22 = .ok (.aload_n 0, 1) := by decide +kernel
end
section
/-! decode rows -/
theorem dX7_reads_23 : decode cX7_reads 23 = .ok (.getfield 19, 3) := by decide +kernel
theorem dX7_reads_26 : decode cX7_reads 26 = .ok (.iload_n 3, 1) := by decide +kernel
theorem dX7_reads_27 : decode cX7_reads 27 = .ok (.iaload, 1) := by decide +kernel
theorem dX7_reads_28 : decode cX7_reads 28 = .ok (.istore 4, 2) := by decide +kernel
theorem dX7_reads_30 : decode cX7_reads 30 = .ok (.aload_n 0, 1) := by decide +kernel
theorem dX7_reads_31 : decode cX7_reads 31 = .ok (.iload_n 3, 1) := by decide +kernel
theorem dX7_reads_32 : decode cX7_reads 32 = .ok (.invokevirtual 90, 3) := by decide +kernel
theorem dX7_reads_35 : decode cX7_reads 35 = .ok (.ifCond .eq 71, 3) := by decide +kernel
theorem dX7_reads_38 : decode cX7_reads 38 = .ok (.iload_n 2, 1) := by decide +kernel
theorem dX7_reads_39 : decode cX7_reads 39 = .ok (.iload 4, 2) := by decide +kernel
theorem dX7_reads_41 : decode cX7_reads 41 = .ok (.iconst 2, 1) := by decide +kernel
theorem dX7_reads_42 : decode cX7_reads 42 = .ok (.if_icmp .eq 9, 3) := by decide +kernel
theorem dX7_reads_45 : decode cX7_reads 45 = .ok (.iload 4, 2) := by decide +kernel
theorem dX7_reads_47 : decode cX7_reads 47 = .ok (.iconst 4, 1) := by decide +kernel
theorem dX7_reads_48 : decode cX7_reads 48 = .ok (.if_icmp .ne 14, 3) := by decide +kernel
theorem dX7_reads_51 : decode cX7_reads 51 = .ok (.iconst 1, 1) := by decide +kernel
theorem dX7_reads_52 : decode cX7_reads 52 = .ok (.aload_n 0, 1) := by decide +kernel
theorem dX7_reads_53 : decode cX7_reads 53 = .ok (.getfield 25, 3) := by decide +kernel
theorem dX7_reads_56 : decode cX7_reads 56 = .ok (.iload_n 3, 1) := by decide +kernel
theorem dX7_reads_57 : decode cX7_reads 57 = .ok (.iaload, 1) := by decide +kernel
theorem dX7_reads_58 : decode cX7_reads 58 = .ok (.ishl, 1) := by decide +kernel
theorem dX7_reads_59 : decode cX7_reads 59 = .ok (.goto 4, 3) := by decide +kernel
theorem dX7_reads_62 : decode cX7_reads 62 = .ok (.iconst 0, 1) := by decide +kernel
theorem dX7_reads_63 : decode cX7_reads 63 = .ok (.ior, 1) := by decide +kernel
theorem dX7_reads_64 : decode cX7_reads 64 = .ok (.istore_n 2, 1) := by decide +kernel
theorem dX7_reads_65 : decode cX7_reads 65 = .ok (.iload_n 2, 1) := by decide +kernel
theorem dX7_reads_66 : decode cX7_reads 66 = .ok (.iload 4, 2) := by decide +kernel
theorem dX7_reads_68 : decode cX7_reads 68 = .ok (.iconst 3, 1) := by decide +kernel
theorem dX7_reads_69 : decode cX7_reads 69 = .ok (.if_icmp .eq 23, 3) := by decide +kernel
theorem dX7_reads_72 : decode cX7_reads 72 = .ok (.iload 4, 2) := by decide +kernel
theorem dX7_reads_74 : decode cX7_reads 74 = .ok (.iconst 4, 1) := by decide +kernel
theorem dX7_reads_75 : decode cX7_reads 75 = .ok (.if_icmp .eq 17, 3) := by decide +kernel
theorem dX7_reads_78 : decode cX7_reads 78 = .ok (.iload 4, 2) := by decide +kernel
theorem dX7_reads_80 : decode cX7_reads 80 = .ok (.bipush 6, 2) := by decide +kernel
theorem dX7_reads_82 : decode cX7_reads 82 = .ok (.if_icmp .eq 10, 3) := by decide +kernel
theorem dX7_reads_85 : decode cX7_reads 85 = .ok (.iload 4, 2) := by decide +kernel
theorem dX7_reads_87 : decode cX7_reads 87 = .ok (.bipush 7, 2) := by decide +kernel
theorem dX7_reads_89 : decode cX7_reads 89 = .ok (.if_icmp .ne 14, 3) := by decide +kernel
theorem dX7_reads_92 : decode cX7_reads 92 = .ok (.iconst 1, 1) := by decide +kernel
theorem dX7_reads_93 : decode cX7_reads 93 = .ok (.aload_n 0, 1) := by decide +kernel
theorem dX7_reads_94 : decode cX7_reads 94 = .ok (.getfield 22, 3) := by decide +kernel
theorem dX7_reads_97 : decode cX7_reads 97 = .ok (.iload_n 3, 1) := by decide +kernel
theorem dX7_reads_98 : decode cX7_reads 98 = .ok (.iaload, 1) := by decide +kernel
theorem dX7_reads_99 : decode cX7_reads 99 = .ok (.ishl, 1) := by decide +kernel
theorem dX7_reads_100 : decode cX7_reads 100 = .ok (.goto 4, 3) := by decide +kernel
theorem dX7_reads_103 : decode cX7_reads 103 = .ok (.iconst 0, 1) := by decide +kernel
theorem dX7_reads_104 : decode cX7_reads 104 = .ok (.ior, 1) := by decide +kernel
theorem dX7_reads_105 : decode cX7_reads 105 = .ok (.istore_n 2, 1) := by decide +kernel
theorem dX7_reads_106 : decode cX7_reads 106 = .ok (.iinc 3 1, 3) := by decide +kernel
theorem dX7_reads_109 : decode cX7_reads 109 = .ok (.goto (-96), 3) := by decide +kernel
theorem dX7_reads_112 : decode cX7_reads 112 = .ok (.iload_n 2, 1) := by decide +kernel
theorem dX7_reads_113 : decode cX7_reads 113 = .ok (.ireturn, 1) := by decide +kernel
theorem dX7_needOf_0 : decode cX7_needOf 0 = .ok (.aload_n 0, 1) := by decide +kernel
theorem dX7_needOf_1 : decode cX7_needOf 1 = .ok (.iload_n 1, 1) := by decide +kernel
theorem dX7_needOf_2 : decode cX7_needOf 2 = .ok (.invokevirtual 118, 3) := by decide +kernel
theorem dX7_needOf_5 : decode cX7_needOf 5 = .ok (.aload_n 0, 1) := by decide +kernel
theorem dX7_needOf_6 : decode cX7_needOf 6 = .ok (.getfield 7, 3) := by decide +kernel
theorem dX7_needOf_9 : decode cX7_needOf 9 = .ok (.iload_n 2, 1) := by decide +kernel
theorem dX7_needOf_10 : decode cX7_needOf 10 = .ok (.iaload, 1) := by decide +kernel
theorem dX7_needOf_11 : decode cX7_needOf 11 = .ok (.invokestatic 97, 3) := by decide +kernel
theorem dX7_needOf_14 : decode cX7_needOf 14 = .ok (.ifCond .eq 5, 3) := by decide +kernel
theorem dX7_needOf_17 : decode cX7_needOf 17 = .ok (.iconst 3, 1) := by decide +kernel
theorem dX7_needOf_18 : decode cX7_needOf 18 = .ok (.ireturn, 1) := by decide +kernel
theorem dX7_needOf_19 : decode cX7_needOf 19 = .ok (.aload_n 0, 1) := by decide +kernel
theorem dX7_needOf_20 : decode cX7_needOf 20 = .ok (.iload_n 1, 1) := by decide +kernel
theorem dX7_needOf_21 : decode cX7_needOf 21 = .ok (.invokevirtual 118, 3) := by decide +kernel
theorem dX7_needOf_24 : decode cX7_needOf 24 = .ok (.aload_n 0, 1) := by decide +kernel
theorem dX7_needOf_25 : decode cX7_needOf 25 = .ok (.iload_n 2, 1) := by decide +kernel
theorem dX7_needOf_26 : decode cX7_needOf 26 = .ok (.invokevirtual 121, 3) := by decide +kernel
theorem dX7_needOf_29 : decode cX7_needOf 29 = .ok (.aload_n 0, 1) := by decide +kernel
theorem dX7_needOf_30 : decode cX7_needOf 30 = .ok (.iload_n 2, 1) := by decide +kernel
theorem dX7_needOf_31 : decode cX7_needOf 31 = .ok (.invokevirtual 118, 3) := by decide +kernel
theorem dX7_needOf_34 : decode cX7_needOf 34 = .ok (.ior, 1) := by decide +kernel
theorem dX7_needOf_35 : decode cX7_needOf 35 = .ok (.iand, 1) := by decide +kernel
theorem dX7_needOf_36 : decode cX7_needOf 36 = .ok (.ifCond .eq 5, 3) := by decide +kernel
theorem dX7_needOf_39 : decode cX7_needOf 39 = .ok (.iconst 2, 1) := by decide +kernel
theorem dX7_needOf_40 : decode cX7_needOf 40 = .ok (.ireturn, 1) := by decide +kernel
theorem dX7_needOf_41 : decode cX7_needOf 41 = .ok (.aload_n 0, 1) := by decide +kernel
theorem dX7_needOf_42 : decode cX7_needOf 42 = .ok (.iload_n 2, 1) := by decide +kernel
theorem dX7_needOf_43 : decode cX7_needOf 43 = .ok (.invokevirtual 118, 3) := by decide +kernel
theorem dX7_needOf_46 : decode cX7_needOf 46 = .ok (.aload_n 0, 1) := by decide +kernel
theorem dX7_needOf_47 : decode cX7_needOf 47 = .ok (.iload_n 1, 1) := by decide +kernel
theorem dX7_needOf_48 : decode cX7_needOf 48 = .ok (.invokevirtual 121, 3) := by decide +kernel
theorem dX7_needOf_51 : decode cX7_needOf 51 = .ok (.iand, 1) := by decide +kernel
theorem dX7_needOf_52 : decode cX7_needOf 52 = .ok (.ifCond .eq 7, 3) := by decide +kernel
theorem dX7_needOf_55 : decode cX7_needOf 55 = .ok (.iconst 1, 1) := by decide +kernel
theorem dX7_needOf_56 : decode cX7_needOf 56 = .ok (.goto 4, 3) := by decide +kernel
theorem dX7_needOf_59 : decode cX7_needOf 59 = .ok (.iconst 0, 1) := by decide +kernel
theorem dX7_needOf_60 : decode cX7_needOf 60 = .ok (.ireturn, 1) := by decide +kernel
theorem dX7_needs_0 : decode cX7_needs 0 = .ok (.aload_n 0, 1) := by decide +kernel
theorem dX7_needs_1 : decode cX7_needs 1 = .ok (.iload_n 1, 1) := by decide +kernel
theorem dX7_needs_2 : decode cX7_needs 2 = .ok (.invokevirtual 101, 3) := by decide +kernel
theorem dX7_needs_5 : decode cX7_needs 5 = .ok (.ifCond .eq 11, 3) := by decide +kernel
theorem dX7_needs_8 : decode cX7_needs 8 = .ok (.aload_n 0, 1) := by decide +kernel
theorem dX7_needs_9 : decode cX7_needs 9 = .ok (.iload_n 2, 1) := by decide +kernel
theorem dX7_needs_10 : decode cX7_needs 10 = .ok (.invokevirtual 101, 3) := by decide +kernel
theorem dX7_needs_13 : decode cX7_needs 13 = .ok (.ifCond .ne 5, 3) := by decide +kernel
theorem dX7_needs_16 : decode cX7_needs 16 = .ok (.iconst (-1), 1) := by decide +kernel
theorem dX7_needs_17 : decode cX7_needs 17 = .ok (.ireturn, 1) := by decide +kernel
theorem dX7_needs_18 : decode cX7_needs 18 = .ok (.iload_n 1, 1) := by decide +kernel
theorem dX7_needs_19 : decode cX7_needs 19 = .ok (.iload_n 2, 1) := by decide +kernel
theorem dX7_needs_20 : decode cX7_needs 20 = .ok (.if_icmp .ne 6, 3) := by decide +kernel
theorem dX7_needs_23 : decode cX7_needs 23 = .ok (.bipush (-2), 2) := by decide +kernel
theorem dX7_needs_25 : decode cX7_needs 25 = .ok (.ireturn, 1) := by decide +kernel
theorem dX7_needs_26 : decode cX7_needs 26 = .ok (.iload_n 1, 1) := by decide +kernel
theorem dX7_needs_27 : decode cX7_needs 27 = .ok (.iload_n 2, 1) := by decide +kernel
theorem dX7_needs_28 : decode cX7_needs 28 = .ok (.if_icmp .ge 12, 3) := by decide +kernel
theorem dX7_needs_31 : decode cX7_needs 31 = .ok (.aload_n 0, 1) := by decide +kernel
theorem dX7_needs_32 : decode cX7_needs 32 = .ok (.iload_n 1, 1) := by decide +kernel
theorem dX7_needs_33 : decode cX7_needs 33 = .ok (.iload_n 2, 1) := by decide +kernel
theorem dX7_needs_34 : decode cX7_needs 34 = .ok (.invokevirtual 124, 3) := by decide +kernel
theorem dX7_needs_37 : decode cX7_needs 37 = .ok (.goto 9, 3) := by decide +kernel
theorem dX7_needs_40 : decode cX7_needs 40 = .ok (.aload_n 0, 1) := by decide +kernel
theorem dX7_needs_41 : decode cX7_needs 41 = .ok (.iload_n 2, 1) := by decide +kernel
theorem dX7_needs_42 : decode cX7_needs 42 = .ok (.iload_n 1, 1) := by decide +kernel
theorem dX7_needs_43 : decode cX7_needs 43 = .ok (.invokevirtual 124, 3) := by decide +kernel
theorem dX7_needs_46 : decode cX7_needs 46 = .ok (.ireturn, 1) := by decide +kernel
theorem dX7_sizeOf_0 : decode cX7_sizeOf 0 = .ok (.aload_n 0, 1) := by decide +kernel
theorem dX7_sizeOf_1 : decode cX7_sizeOf 1 = .ok (.getfield 13, 3) := by decide +kernel
theorem dX7_sizeOf_4 : decode cX7_sizeOf 4 = .ok (.iload_n 1, 1) := by decide +kernel
theorem dX7_sizeOf_5 : decode cX7_sizeOf 5 = .ok (.iaload, 1) := by decide +kernel
theorem dX7_sizeOf_6 : decode cX7_sizeOf 6 = .ok (.iconst 1, 1) := by decide +kernel
theorem dX7_sizeOf_7 : decode cX7_sizeOf 7 = .ok (.iadd, 1) := by decide +kernel
theorem dX7_sizeOf_8 : decode cX7_sizeOf 8 = .ok (.ireturn, 1) := by decide +kernel
theorem dX7_levelOf_0 : decode cX7_levelOf 0 = .ok (.iconst 0, 1) := by decide +kernel
theorem dX7_levelOf_1 : decode cX7_levelOf 1 = .ok (.istore_n 2, 1) := by decide +kernel
theorem dX7_levelOf_2 : decode cX7_levelOf 2 = .ok (.iload_n 2, 1) := by decide +kernel
theorem dX7_levelOf_3 : decode cX7_levelOf 3 = .ok (.iload_n 1, 1) := by decide +kernel
theorem dX7_levelOf_4 : decode cX7_levelOf 4 = .ok (.if_icmp .gt 77, 3) := by decide +kernel
theorem dX7_levelOf_7 : decode cX7_levelOf 7 = .ok (.aload_n 0, 1) := by decide +kernel
theorem dX7_levelOf_8 : decode cX7_levelOf 8 = .ok (.getfield 37, 3) := by decide +kernel
theorem dX7_levelOf_11 : decode cX7_levelOf 11 = .ok (.iload_n 2, 1) := by decide +kernel
theorem dX7_levelOf_12 : decode cX7_levelOf 12 = .ok (.iconst 0, 1) := by decide +kernel
theorem dX7_levelOf_13 : decode cX7_levelOf 13 = .ok (.iastore, 1) := by decide +kernel
theorem dX7_levelOf_14 : decode cX7_levelOf 14 = .ok (.iconst 0, 1) := by decide +kernel
theorem dX7_levelOf_15 : decode cX7_levelOf 15 = .ok (.istore_n 3, 1) := by decide +kernel
theorem dX7_levelOf_16 : decode cX7_levelOf 16 = .ok (.iload_n 3, 1) := by decide +kernel
theorem dX7_levelOf_17 : decode cX7_levelOf 17 = .ok (.iload_n 2, 1) := by decide +kernel
theorem dX7_levelOf_18 : decode cX7_levelOf 18 = .ok (.if_icmp .ge 57, 3) := by decide +kernel
theorem dX7_levelOf_21 : decode cX7_levelOf 21 = .ok (.aload_n 0, 1) := by decide +kernel
theorem dX7_levelOf_22 : decode cX7_levelOf 22 = .ok (.getfield 37, 3) := by decide +kernel
theorem dX7_levelOf_25 : decode cX7_levelOf 25 = .ok (.iload_n 2, 1) := by decide +kernel
theorem dX7_levelOf_26 : decode cX7_levelOf 26 = .ok (.aload_n 0, 1) := by decide +kernel
theorem dX7_levelOf_27 : decode cX7_levelOf 27 = .ok (.iload_n 3, 1) := by decide +kernel
theorem dX7_levelOf_28 : decode cX7_levelOf 28 = .ok (.iload_n 2, 1) := by decide +kernel
theorem dX7_levelOf_29 : decode cX7_levelOf 29 = .ok (.invokevirtual 124, 3) := by decide +kernel
theorem dX7_levelOf_32 : decode cX7_levelOf 32 = .ok (.iconst 1, 1) := by decide +kernel
theorem dX7_levelOf_33 : decode cX7_levelOf 33 = .ok (.if_icmp .le 29, 3) := by decide +kernel
theorem dX7_levelOf_36 : decode cX7_levelOf 36 = .ok (.aload_n 0, 1) := by decide +kernel
theorem dX7_levelOf_37 : decode cX7_levelOf 37 = .ok (.getfield 37, 3) := by decide +kernel
theorem dX7_levelOf_40 : decode cX7_levelOf 40 = .ok (.iload_n 3, 1) := by decide +kernel
theorem dX7_levelOf_41 : decode cX7_levelOf 41 = .ok (.iaload, 1) := by decide +kernel
theorem dX7_levelOf_42 : decode cX7_levelOf 42 = .ok (.aload_n 0, 1) := by decide +kernel
theorem dX7_levelOf_43 : decode cX7_levelOf 43 = .ok (.getfield 37, 3) := by decide +kernel
theorem dX7_levelOf_46 : decode cX7_levelOf 46 = .ok (.iload_n 2, 1) := by decide +kernel
theorem dX7_levelOf_47 : decode cX7_levelOf 47 = .ok (.iaload, 1) := by decide +kernel
theorem dX7_levelOf_48 : decode cX7_levelOf 48 = .ok (.if_icmp .lt 14, 3) := by decide +kernel
theorem dX7_levelOf_51 : decode cX7_levelOf 51 = .ok (.aload_n 0, 1) := by decide +kernel
theorem dX7_levelOf_52 : decode cX7_levelOf 52 = .ok (.getfield 37, 3) := by decide +kernel
theorem dX7_levelOf_55 : decode cX7_levelOf 55 = .ok (.iload_n 3, 1) := by decide +kernel
theorem dX7_levelOf_56 : decode cX7_levelOf 56 = .ok (.iaload, 1) := by decide +kernel
theorem dX7_levelOf_57 : decode cX7_levelOf 57 = .ok (.iconst 1, 1) := by decide +kernel
theorem dX7_levelOf_58 : decode cX7_levelOf 58 = .ok (.iadd, 1) := by decide +kernel
theorem dX7_levelOf_59 : decode cX7_levelOf 59 = .ok (.goto 9, 3) := by decide +kernel
theorem dX7_levelOf_62 : decode cX7_levelOf 62 = .ok (.aload_n 0, 1) := by decide +kernel
theorem dX7_levelOf_63 : decode cX7_levelOf 63 = .ok (.getfield 37, 3) := by decide +kernel
theorem dX7_levelOf_66 : decode cX7_levelOf 66 = .ok (.iload_n 2, 1) := by decide +kernel
theorem dX7_levelOf_67 : decode cX7_levelOf 67 = .ok (.iaload, 1) := by decide +kernel
theorem dX7_levelOf_68 : decode cX7_levelOf 68 = .ok (.iastore, 1) := by decide +kernel
theorem dX7_levelOf_69 : decode cX7_levelOf 69 = .ok (.iinc 3 1, 3) := by decide +kernel
theorem dX7_levelOf_72 : decode cX7_levelOf 72 = .ok (.goto (-56), 3) := by decide +kernel
theorem dX7_levelOf_75 : decode cX7_levelOf 75 = .ok (.iinc 2 1, 3) := by decide +kernel
theorem dX7_levelOf_78 : decode cX7_levelOf 78 = .ok (.goto (-76), 3) := by decide +kernel
theorem dX7_levelOf_81 : decode cX7_levelOf 81 = .ok (.aload_n 0, 1) := by decide +kernel
theorem dX7_levelOf_82 : decode cX7_levelOf 82 = .ok (.getfield 37, 3) := by decide +kernel
theorem dX7_levelOf_85 : decode cX7_levelOf 85 = .ok (.iload_n 1, 1) := by decide +kernel
theorem dX7_levelOf_86 : decode cX7_levelOf 86 = .ok (.iaload, 1) := by decide +kernel
theorem dX7_levelOf_87 : decode cX7_levelOf 87 = .ok (.ireturn, 1) := by decide +kernel
theorem dX7_pack_0 : decode cX7_pack 0 = .ok (.iconst 0, 1) := by decide +kernel
theorem dX7_pack_1 : decode cX7_pack 1 = .ok (.istore_n 1, 1) := by decide +kernel
theorem dX7_pack_2 : decode cX7_pack 2 = .ok (.iload_n 1, 1) := by decide +kernel
theorem dX7_pack_3 : decode cX7_pack 3 = .ok (.bipush 8, 2) := by decide +kernel
theorem dX7_pack_5 : decode cX7_pack 5 = .ok (.if_icmp .ge 23, 3) := by decide +kernel
theorem dX7_pack_8 : decode cX7_pack 8 = .ok (.aload_n 0, 1) := by decide +kernel
theorem dX7_pack_9 : decode cX7_pack 9 = .ok (.getfield 43, 3) := by decide +kernel
theorem dX7_pack_12 : decode cX7_pack 12 = .ok (.iload_n 1, 1) := by decide +kernel
theorem dX7_pack_13 : decode cX7_pack 13 = .ok (.iconst 0, 1) := by decide +kernel
theorem dX7_pack_14 : decode cX7_pack 14 = .ok (.iastore, 1) := by decide +kernel
theorem dX7_pack_15 : decode cX7_pack 15 = .ok (.aload_n 0, 1) := by decide +kernel
theorem dX7_pack_16 : decode cX7_pack 16 = .ok (.getfield 46, 3) := by decide +kernel
theorem dX7_pack_19 : decode cX7_pack 19 = .ok (.iload_n 1, 1) := by decide +kernel
theorem dX7_pack_20 : decode cX7_pack 20 = .ok (.iconst 0, 1) := by decide +kernel
theorem dX7_pack_21 : decode cX7_pack 21 = .ok (.iastore, 1) := by decide +kernel
theorem dX7_pack_22 : decode cX7_pack 22 = .ok (.iinc 1 1, 3) := by decide +kernel
theorem dX7_pack_25 : decode cX7_pack 25 = .ok (.goto (-23), 3) := by decide +kernel
theorem dX7_pack_28 : decode cX7_pack 28 = .ok (.iconst 0, 1) := by decide +kernel
theorem dX7_pack_29 : decode cX7_pack 29 = .ok (.istore_n 1, 1) := by decide +kernel
theorem dX7_pack_30 : decode cX7_pack 30 = .ok (.iload_n 1, 1) := by decide +kernel
theorem dX7_pack_31 : decode cX7_pack 31 = .ok (.aload_n 0, 1) := by decide +kernel
theorem dX7_pack_32 : decode cX7_pack 32 = .ok (.getfield 71, 3) := by decide +kernel
theorem dX7_pack_35 : decode cX7_pack 35 = .ok (.if_icmp .ge 175, 3) := by decide +kernel
theorem dX7_pack_38 : decode cX7_pack 38 = .ok (.iconst 0, 1) := by decide +kernel
theorem dX7_pack_39 : decode cX7_pack 39 = .ok (.istore_n 2, 1) := by decide +kernel
theorem dX7_pack_40 : decode cX7_pack 40 = .ok (.iconst 0, 1) := by decide +kernel
theorem dX7_pack_41 : decode cX7_pack 41 = .ok (.istore_n 3, 1) := by decide +kernel
theorem dX7_pack_42 : decode cX7_pack 42 = .ok (.iload_n 3, 1) := by decide +kernel
theorem dX7_pack_43 : decode cX7_pack 43 = .ok (.iload_n 1, 1) := by decide +kernel
theorem dX7_pack_44 : decode cX7_pack 44 = .ok (.if_icmp .ge 65, 3) := by decide +kernel
theorem dX7_pack_47 : decode cX7_pack 47 = .ok (.aload_n 0, 1) := by decide +kernel
theorem dX7_pack_48 : decode cX7_pack 48 = .ok (.iload_n 3, 1) := by decide +kernel
theorem dX7_pack_49 : decode cX7_pack 49 = .ok (.iload_n 1, 1) := by decide +kernel
theorem dX7_pack_50 : decode cX7_pack 50 = .ok (.invokevirtual 124, 3) := by decide +kernel
theorem dX7_pack_53 : decode cX7_pack 53 = .ok (.istore 4, 2) := by decide +kernel
theorem dX7_pack_55 : decode cX7_pack 55 = .ok (.iload 4, 2) := by decide +kernel
theorem dX7_pack_57 : decode cX7_pack 57 = .ok (.iconst 1, 1) := by decide +kernel
theorem dX7_pack_58 : decode cX7_pack 58 = .ok (.if_icmp .le 14, 3) := by decide +kernel
theorem dX7_pack_61 : decode cX7_pack 61 = .ok (.aload_n 0, 1) := by decide +kernel
theorem dX7_pack_62 : decode cX7_pack 62 = .ok (.getfield 40, 3) := by decide +kernel
theorem dX7_pack_65 : decode cX7_pack 65 = .ok (.iload_n 3, 1) := by decide +kernel
theorem dX7_pack_66 : decode cX7_pack 66 = .ok (.iaload, 1) := by decide +kernel
theorem dX7_pack_67 : decode cX7_pack 67 = .ok (.iconst 1, 1) := by decide +kernel
theorem dX7_pack_68 : decode cX7_pack 68 = .ok (.iadd, 1) := by decide +kernel
theorem dX7_pack_69 : decode cX7_pack 69 = .ok (.goto 19, 3) := by decide +kernel
theorem dX7_pack_72 : decode cX7_pack 72 = .ok (.iload 4, 2) := by decide +kernel
theorem dX7_pack_74 : decode cX7_pack 74 = .ok (.iconst 1, 1) := by decide +kernel
theorem dX7_pack_75 : decode cX7_pack 75 = .ok (.if_icmp .ne 12, 3) := by decide +kernel
theorem dX7_pack_78 : decode cX7_pack 78 = .ok (.aload_n 0, 1) := by decide +kernel
theorem dX7_pack_79 : decode cX7_pack 79 = .ok (.getfield 40, 3) := by decide +kernel
theorem dX7_pack_82 : decode cX7_pack 82 = .ok (.iload_n 3, 1) := by decide +kernel
theorem dX7_pack_83 : decode cX7_pack 83 = .ok (.iaload, 1) := by decide +kernel
theorem dX7_pack_84 : decode cX7_pack 84 = .ok (.goto 4, 3) := by decide +kernel
theorem dX7_pack_87 : decode cX7_pack 87 = .ok (.iconst 0, 1) := by decide +kernel
theorem dX7_pack_88 : decode cX7_pack 88 = .ok (.istore 5, 2) := by decide +kernel
theorem dX7_pack_90 : decode cX7_pack 90 = .ok (.iload 5, 2) := by decide +kernel
theorem dX7_pack_92 : decode cX7_pack 92 = .ok (.iload_n 2, 1) := by decide +kernel
theorem dX7_pack_93 : decode cX7_pack 93 = .ok (.if_icmp .le 8, 3) := by decide +kernel
theorem dX7_pack_96 : decode cX7_pack 96 = .ok (.iload 5, 2) := by decide +kernel
theorem dX7_pack_98 : decode cX7_pack 98 = .ok (.goto 4, 3) := by decide +kernel
theorem dX7_pack_101 : decode cX7_pack 101 = .ok (.iload_n 2, 1) := by decide +kernel
theorem dX7_pack_102 : decode cX7_pack 102 = .ok (.istore_n 2, 1) := by decide +kernel
theorem dX7_pack_103 : decode cX7_pack 103 = .ok (.iinc 3 1, 3) := by decide +kernel
theorem dX7_pack_106 : decode cX7_pack 106 = .ok (.goto (-64), 3) := by decide +kernel
theorem dX7_pack_109 : decode cX7_pack 109 = .ok (.iload_n 2, 1) := by decide +kernel
theorem dX7_pack_110 : decode cX7_pack 110 = .ok (.aload_n 0, 1) := by decide +kernel
theorem dX7_pack_111 : decode cX7_pack 111 = .ok (.getfield 34, 3) := by decide +kernel
theorem dX7_pack_114 : decode cX7_pack 114 = .ok (.iconst 2, 1) := by decide +kernel
theorem dX7_pack_115 : decode cX7_pack 115 = .ok (.iaload, 1) := by decide +kernel
theorem dX7_pack_116 : decode cX7_pack 116 = .ok (.if_icmp .ge 45, 3) := by decide +kernel
theorem dX7_pack_119 : decode cX7_pack 119 = .ok (.aload_n 0, 1) := by decide +kernel
theorem dX7_pack_120 : decode cX7_pack 120 = .ok (.getfield 43, 3) := by decide +kernel
theorem dX7_pack_123 : decode cX7_pack 123 = .ok (.iload_n 2, 1) := by decide +kernel
theorem dX7_pack_124 : decode cX7_pack 124 = .ok (.iaload, 1) := by decide +kernel
theorem dX7_pack_125 : decode cX7_pack 125 = .ok (.aload_n 0, 1) := by decide +kernel
theorem dX7_pack_126 : decode cX7_pack 126 = .ok (.getfield 34, 3) := by decide +kernel
theorem dX7_pack_129 : decode cX7_pack 129 = .ok (.iconst 1, 1) := by decide +kernel
theorem dX7_pack_130 : decode cX7_pack 130 = .ok (.iaload, 1) := by decide +kernel
theorem dX7_pack_131 : decode cX7_pack 131 = .ok (.if_icmp .eq 24, 3) := by decide +kernel
theorem dX7_pack_134 : decode cX7_pack 134 = .ok (.aload_n 0, 1) := by decide +kernel
theorem dX7_pack_135 : decode cX7_pack 135 = .ok (.getfield 46, 3) := by decide +kernel
theorem dX7_pack_138 : decode cX7_pack 138 = .ok (.iload_n 2, 1) := by decide +kernel
theorem dX7_pack_139 : decode cX7_pack 139 = .ok (.iaload, 1) := by decide +kernel
theorem dX7_pack_140 : decode cX7_pack 140 = .ok (.aload_n 0, 1) := by decide +kernel
theorem dX7_pack_141 : decode cX7_pack 141 = .ok (.iload_n 1, 1) := by decide +kernel
theorem dX7_pack_142 : decode cX7_pack 142 = .ok (.invokevirtual 127, 3) := by decide +kernel
theorem dX7_pack_145 : decode cX7_pack 145 = .ok (.iadd, 1) := by decide +kernel
theorem dX7_pack_146 : decode cX7_pack 146 = .ok (.aload_n 0, 1) := by decide +kernel
theorem dX7_pack_147 : decode cX7_pack 147 = .ok (.getfield 34, 3) := by decide +kernel
theorem dX7_pack_150 : decode cX7_pack 150 = .ok (.iconst 0, 1) := by decide +kernel
theorem dX7_pack_151 : decode cX7_pack 151 = .ok (.iaload, 1) := by decide +kernel
theorem dX7_pack_152 : decode cX7_pack 152 = .ok (.if_icmp .le 9, 3) := by decide +kernel
theorem dX7_pack_155 : decode cX7_pack 155 = .ok (.iinc 2 1, 3) := by decide +kernel
theorem dX7_pack_158 : decode cX7_pack 158 = .ok (.goto (-49), 3) := by decide +kernel
theorem dX7_pack_161 : decode cX7_pack 161 = .ok (.iload_n 2, 1) := by decide +kernel
theorem dX7_pack_162 : decode cX7_pack 162 = .ok (.aload_n 0, 1) := by decide +kernel
theorem dX7_pack_163 : decode cX7_pack 163 = .ok (.getfield 34, 3) := by decide +kernel
theorem dX7_pack_166 : decode cX7_pack 166 = .ok (.iconst 2, 1) := by decide +kernel
theorem dX7_pack_167 : decode cX7_pack 167 = .ok (.iaload, 1) := by decide +kernel
theorem dX7_pack_168 : decode cX7_pack 168 = .ok (.if_icmp .lt 5, 3) := by decide +kernel
theorem dX7_pack_171 : decode cX7_pack 171 = .ok (.iconst 0, 1) := by decide +kernel
theorem dX7_pack_172 : decode cX7_pack 172 = .ok (.ireturn, 1) := by decide +kernel
theorem dX7_pack_173 : decode cX7_pack 173 = .ok (.aload_n 0, 1) := by decide +kernel
theorem dX7_pack_174 : decode cX7_pack 174 = .ok (.getfield 40, 3) := by decide +kernel
theorem dX7_pack_177 : decode cX7_pack 177 = .ok (.iload_n 1, 1) := by decide +kernel
theorem dX7_pack_178 : decode cX7_pack 178 = .ok (.iload_n 2, 1) := by decide +kernel
theorem dX7_pack_179 : decode cX7_pack 179 = .ok (.iastore, 1) := by decide +kernel
theorem dX7_pack_180 : decode cX7_pack 180 = .ok (.aload_n 0, 1) := by decide +kernel
theorem dX7_pack_181 : decode cX7_pack 181 = .ok (.getfield 43, 3) := by decide +kernel
theorem dX7_pack_184 : decode cX7_pack 184 = .ok (.iload_n 2, 1) := by decide +kernel
theorem dX7_pack_185 : decode cX7_pack 185 = .ok (.dup2, 1) := by decide +kernel
theorem dX7_pack_186 : decode cX7_pack 186 = .ok (.iaload, 1) := by decide +kernel
theorem dX7_pack_187 : decode cX7_pack 187 = .ok (.iconst 1, 1) := by decide +kernel
theorem dX7_pack_188 : decode cX7_pack 188 = .ok (.iadd, 1) := by decide +kernel
theorem dX7_pack_189 : decode cX7_pack 189 = .ok (.iastore, 1) := by decide +kernel
theorem dX7_pack_190 : decode cX7_pack 190 = .ok (.aload_n 0, 1) := by decide +kernel
theorem dX7_pack_191 : decode cX7_pack 191 = .ok (.getfield 46, 3) := by decide +kernel
theorem dX7_pack_194 : decode cX7_pack 194 = .ok (.iload_n 2, 1) := by decide +kernel
theorem dX7_pack_195 : decode cX7_pack 195 = .ok (.dup2, 1) := by decide +kernel
theorem dX7_pack_196 : decode cX7_pack 196 = .ok (.iaload, 1) := by decide +kernel
theorem dX7_pack_197 : decode cX7_pack 197 = .ok (.aload_n 0, 1) := by decide +kernel
theorem dX7_pack_198 : decode cX7_pack 198 = .ok (.iload_n 1, 1) := by decide +kernel
theorem dX7_pack_199 : decode cX7_pack 199 = .ok (.invokevirtual 127, 3) := by decide +kernel
theorem dX7_pack_202 : decode cX7_pack 202 = .ok (.iadd, 1) := by decide +kernel
theorem dX7_pack_203 : decode cX7_pack 203 = .ok (.iastore, 1) := by decide +kernel
theorem dX7_pack_204 : decode cX7_pack 204 = .ok (.iinc 1 1, 3) := by decide +kernel
theorem dX7_pack_207 : decode cX7_pack 207 = .ok (.goto (-177), 3) := by decide +kernel
theorem dX7_pack_210 : decode cX7_pack 210 = .ok (.iconst 1, 1) := by decide +kernel
theorem dX7_pack_211 : decode cX7_pack 211 = .ok (.ireturn, 1) := by decide +kernel
theorem dX7_part_0 : decode cX7_part 0 = .ok (.iload_n 2, 1) := by decide +kernel
theorem dX7_part_1 : decode cX7_part 1 = .ok (.bipush 30, 2) := by decide +kernel
theorem dX7_part_3 : decode cX7_part 3 = .ok (.if_icmp .le 7, 3) := by decide +kernel
theorem dX7_part_6 : decode cX7_part 6 = .ok (.iconst 4, 1) := by decide +kernel
theorem dX7_part_7 : decode cX7_part 7 = .ok (.goto 9, 3) := by decide +kernel
theorem dX7_part_10 : decode cX7_part 10 = .ok (.iload_n 2, 1) := by decide +kernel
theorem dX7_part_11 : decode cX7_part 11 = .ok (.bipush 10, 2) := by decide +kernel
theorem dX7_part_13 : decode cX7_part 13 = .ok (.isub, 1) := by decide +kernel
theorem dX7_part_14 : decode cX7_part 14 = .ok (.iconst 4, 1) := by decide +kernel
theorem dX7_part_15 : decode cX7_part 15 = .ok (.idiv, 1) := by decide +kernel
theorem dX7_part_16 : decode cX7_part 16 = .ok (.istore_n 3, 1) := by decide +kernel
theorem dX7_part_17 : decode cX7_part 17 = .ok (.iconst 5, 1) := by decide +kernel
theorem dX7_part_18 : decode cX7_part 18 = .ok (.iload_n 1, 1) := by decide +kernel
theorem dX7_part_19 : decode cX7_part 19 = .ok (.imul, 1) := by decide +kernel
theorem dX7_part_20 : decode cX7_part 20 = .ok (.iload_n 3, 1) := by decide +kernel
theorem dX7_part_21 : decode cX7_part 21 = .ok (.iadd, 1) := by decide +kernel
theorem dX7_part_22 : decode cX7_part 22 = .ok (.istore 4, 2) := by decide +kernel
theorem dX7_part_24 : decode cX7_part 24 = .ok (.iload_n 2, 1) := by decide +kernel
theorem dX7_part_25 : decode cX7_part 25 = .ok (.bipush 30, 2) := by decide +kernel
theorem dX7_part_27 : decode cX7_part 27 = .ok (.if_icmp .le 10, 3) := by decide +kernel
theorem dX7_part_30 : decode cX7_part 30 = .ok (.iload_n 2, 1) := by decide +kernel
theorem dX7_part_31 : decode cX7_part 31 = .ok (.bipush 30, 2) := by decide +kernel
theorem dX7_part_33 : decode cX7_part 33 = .ok (.isub, 1) := by decide +kernel
theorem dX7_part_34 : decode cX7_part 34 = .ok (.goto 9, 3) := by decide +kernel
theorem dX7_part_37 : decode cX7_part 37 = .ok (.iload_n 2, 1) := by decide +kernel
theorem dX7_part_38 : decode cX7_part 38 = .ok (.bipush 10, 2) := by decide +kernel
theorem dX7_part_40 : decode cX7_part 40 = .ok (.isub, 1) := by decide +kernel
theorem dX7_part_41 : decode cX7_part 41 = .ok (.iconst 4, 1) := by decide +kernel
theorem dX7_part_42 : decode cX7_part 42 = .ok (.irem, 1) := by decide +kernel
theorem dX7_part_43 : decode cX7_part 43 = .ok (.istore 5, 2) := by decide +kernel
theorem dX7_part_45 : decode cX7_part 45 = .ok (.iload_n 2, 1) := by decide +kernel
theorem dX7_part_46 : decode cX7_part 46 = .ok (.bipush 31, 2) := by decide +kernel
theorem dX7_part_48 : decode cX7_part 48 = .ok (.if_icmp .ge 16, 3) := by decide +kernel
theorem dX7_part_51 : decode cX7_part 51 = .ok (.iload_n 3, 1) := by decide +kernel
theorem dX7_part_52 : decode cX7_part 52 = .ok (.aload_n 0, 1) := by decide +kernel
theorem dX7_part_53 : decode cX7_part 53 = .ok (.getfield 13, 3) := by decide +kernel
theorem dX7_part_56 : decode cX7_part 56 = .ok (.iload_n 1, 1) := by decide +kernel
theorem dX7_part_57 : decode cX7_part 57 = .ok (.iaload, 1) := by decide +kernel
theorem dX7_part_58 : decode cX7_part 58 = .ok (.if_icmp .lt 6, 3) := by decide +kernel
theorem dX7_part_61 : decode cX7_part 61 = .ok (.bipush (-2), 2) := by decide +kernel
theorem dX7_part_63 : decode cX7_part 63 = .ok (.ireturn, 1) := by decide +kernel
theorem dX7_part_64 : decode cX7_part 64 = .ok (.iload 5, 2) := by decide +kernel
theorem dX7_part_66 : decode cX7_part 66 = .ok (.ifCond .ne 13, 3) := by decide +kernel
theorem dX7_part_69 : decode cX7_part 69 = .ok (.aload_n 0, 1) := by decide +kernel
theorem dX7_part_70 : decode cX7_part 70 = .ok (.getfield 16, 3) := by decide +kernel
theorem dX7_part_73 : decode cX7_part 73 = .ok (.iload 4, 2) := by decide +kernel
theorem dX7_part_75 : decode cX7_part 75 = .ok (.iaload, 1) := by decide +kernel
theorem dX7_part_76 : decode cX7_part 76 = .ok (.goto 42, 3) := by decide +kernel
theorem dX7_part_79 : decode cX7_part 79 = .ok (.iload 5, 2) := by decide +kernel
theorem dX7_part_81 : decode cX7_part 81 = .ok (.iconst 1, 1) := by decide +kernel
theorem dX7_part_82 : decode cX7_part 82 = .ok (.if_icmp .ne 13, 3) := by decide +kernel
theorem dX7_part_85 : decode cX7_part 85 = .ok (.aload_n 0, 1) := by decide +kernel
theorem dX7_part_86 : decode cX7_part 86 = .ok (.getfield 19, 3) := by decide +kernel
theorem dX7_part_89 : decode cX7_part 89 = .ok (.iload 4, 2) := by decide +kernel
theorem dX7_part_91 : decode cX7_part 91 = .ok (.iaload, 1) := by decide +kernel
theorem dX7_part_92 : decode cX7_part 92 = .ok (.goto 26, 3) := by decide +kernel
theorem dX7_part_95 : decode cX7_part 95 = .ok (.iload 5, 2) := by decide +kernel
theorem dX7_part_97 : decode cX7_part 97 = .ok (.iconst 2, 1) := by decide +kernel
theorem dX7_part_98 : decode cX7_part 98 = .ok (.if_icmp .ne 13, 3) := by decide +kernel
theorem dX7_part_101 : decode cX7_part 101 = .ok (.aload_n 0, 1) := by decide +kernel
theorem dX7_part_102 : decode cX7_part 102 = .ok (.getfield 22, 3) := by decide +kernel
theorem dX7_part_105 : decode cX7_part 105 = .ok (.iload 4, 2) := by decide +kernel
theorem dX7_part_107 : decode cX7_part 107 = .ok (.iaload, 1) := by decide +kernel
theorem dX7_part_108 : decode cX7_part 108 = .ok (.goto 10, 3) := by decide +kernel
theorem dX7_part_111 : decode cX7_part 111 = .ok (.aload_n 0, 1) := by decide +kernel
theorem dX7_part_112 : decode cX7_part 112 = .ok (.getfield 25, 3) := by decide +kernel
theorem dX7_part_115 : decode cX7_part 115 = .ok (.iload 4, 2) := by decide +kernel
theorem dX7_part_117 : decode cX7_part 117 = .ok (.iaload, 1) := by decide +kernel
theorem dX7_part_118 : decode cX7_part 118 = .ok (.ireturn, 1) := by decide +kernel
theorem dX7_told_0 : decode cX7_told 0 = .ok (.aload_n 0, 1) := by decide +kernel
theorem dX7_told_1 : decode cX7_told 1 = .ok (.iload_n 1, 1) := by decide +kernel
theorem dX7_told_2 : decode cX7_told 2 = .ok (.invokevirtual 101, 3) := by decide +kernel
theorem dX7_told_5 : decode cX7_told 5 = .ok (.ifCond .ne 5, 3) := by decide +kernel
theorem dX7_told_8 : decode cX7_told 8 = .ok (.iconst (-1), 1) := by decide +kernel
theorem dX7_told_9 : decode cX7_told 9 = .ok (.ireturn, 1) := by decide +kernel
theorem dX7_told_10 : decode cX7_told 10 = .ok (.iload_n 2, 1) := by decide +kernel
theorem dX7_told_11 : decode cX7_told 11 = .ok (.bipush 10, 2) := by decide +kernel
theorem dX7_told_13 : decode cX7_told 13 = .ok (.bipush 25, 2) := by decide +kernel
theorem dX7_told_15 : decode cX7_told 15 = .ok (.invokestatic 75, 3) := by decide +kernel
theorem dX7_told_18 : decode cX7_told 18 = .ok (.ifCond .ne 14, 3) := by decide +kernel
theorem dX7_told_21 : decode cX7_told 21 = .ok (.iload_n 2, 1) := by decide +kernel
theorem dX7_told_22 : decode cX7_told 22 = .ok (.bipush 31, 2) := by decide +kernel
theorem dX7_told_24 : decode cX7_told 24 = .ok (.bipush 33, 2) := by decide +kernel
theorem dX7_told_26 : decode cX7_told 26 = .ok (.invokestatic 75, 3) := by decide +kernel
theorem dX7_told_29 : decode cX7_told 29 = .ok (.ifCond .eq 10, 3) := by decide +kernel
theorem dX7_told_32 : decode cX7_told 32 = .ok (.aload_n 0, 1) := by decide +kernel
theorem dX7_told_33 : decode cX7_told 33 = .ok (.iload_n 1, 1) := by decide +kernel
theorem dX7_told_34 : decode cX7_told 34 = .ok (.iload_n 2, 1) := by decide +kernel
theorem dX7_told_35 : decode cX7_told 35 = .ok (.invokevirtual 130, 3) := by decide +kernel
theorem dX7_told_38 : decode cX7_told 38 = .ok (.ireturn, 1) := by decide +kernel
theorem dX7_told_39 : decode cX7_told 39 = .ok (.iload_n 2, 1) := by decide +kernel
theorem dX7_told_40 : decode cX7_told 40 = .ok (.tableswitch 101 0 6 #[44, 51, 58, 64, 83, 89, 95], 44) := by decide +kernel
theorem dX7_told_84 : decode cX7_told 84 = .ok (.aload_n 0, 1) := by decide +kernel
theorem dX7_told_85 : decode cX7_told 85 = .ok (.getfield 7, 3) := by decide +kernel
theorem dX7_told_88 : decode cX7_told 88 = .ok (.iload_n 1, 1) := by decide +kernel
theorem dX7_told_89 : decode cX7_told 89 = .ok (.iaload, 1) := by decide +kernel
theorem dX7_told_90 : decode cX7_told 90 = .ok (.ireturn, 1) := by decide +kernel
theorem dX7_told_91 : decode cX7_told 91 = .ok (.aload_n 0, 1) := by decide +kernel
theorem dX7_told_92 : decode cX7_told 92 = .ok (.getfield 13, 3) := by decide +kernel
theorem dX7_told_95 : decode cX7_told 95 = .ok (.iload_n 1, 1) := by decide +kernel
theorem dX7_told_96 : decode cX7_told 96 = .ok (.iaload, 1) := by decide +kernel
theorem dX7_told_97 : decode cX7_told 97 = .ok (.ireturn, 1) := by decide +kernel
theorem dX7_told_98 : decode cX7_told 98 = .ok (.aload_n 0, 1) := by decide +kernel
theorem dX7_told_99 : decode cX7_told 99 = .ok (.iload_n 1, 1) := by decide +kernel
theorem dX7_told_100 : decode cX7_told 100 = .ok (.invokevirtual 133, 3) := by decide +kernel
theorem dX7_told_103 : decode cX7_told 103 = .ok (.ireturn, 1) := by decide +kernel
theorem dX7_told_104 : decode cX7_told 104 = .ok (.aload_n 0, 1) := by decide +kernel
theorem dX7_told_105 : decode cX7_told 105 = .ok (.invokevirtual 136, 3) := by decide +kernel
theorem dX7_told_108 : decode cX7_told 108 = .ok (.ifCond .eq 12, 3) := by decide +kernel
theorem dX7_told_111 : decode cX7_told 111 = .ok (.aload_n 0, 1) := by decide +kernel
theorem dX7_told_112 : decode cX7_told 112 = .ok (.getfield 40, 3) := by decide +kernel
theorem dX7_told_115 : decode cX7_told 115 = .ok (.iload_n 1, 1) := by decide +kernel
theorem dX7_told_116 : decode cX7_told 116 = .ok (.iaload, 1) := by decide +kernel
theorem dX7_told_117 : decode cX7_told 117 = .ok (.goto 5, 3) := by decide +kernel
theorem dX7_told_120 : decode cX7_told 120 = .ok (.bipush (-3), 2) := by decide +kernel
theorem dX7_told_122 : decode cX7_told 122 = .ok (.ireturn, 1) := by decide +kernel
theorem dX7_told_123 : decode cX7_told 123 = .ok (.aload_n 0, 1) := by decide +kernel
theorem dX7_told_124 : decode cX7_told 124 = .ok (.iload_n 1, 1) := by decide +kernel
theorem dX7_told_125 : decode cX7_told 125 = .ok (.invokevirtual 118, 3) := by decide +kernel
theorem dX7_told_128 : decode cX7_told 128 = .ok (.ireturn, 1) := by decide +kernel
theorem dX7_told_129 : decode cX7_told 129 = .ok (.aload_n 0, 1) := by decide +kernel
theorem dX7_told_130 : decode cX7_told 130 = .ok (.iload_n 1, 1) := by decide +kernel
theorem dX7_told_131 : decode cX7_told 131 = .ok (.invokevirtual 121, 3) := by decide +kernel
theorem dX7_told_134 : decode cX7_told 134 = .ok (.ireturn, 1) := by decide +kernel
theorem dX7_told_135 : decode cX7_told 135 = .ok (.aload_n 0, 1) := by decide +kernel
theorem dX7_told_136 : decode cX7_told 136 = .ok (.iload_n 1, 1) := by decide +kernel
theorem dX7_told_137 : decode cX7_told 137 = .ok (.invokevirtual 93, 3) := by decide +kernel
theorem dX7_told_140 : decode cX7_told 140 = .ok (.ireturn, 1) := by decide +kernel
theorem dX7_told_141 : decode cX7_told 141 = .ok (.bipush (-2), 2) := by decide +kernel
theorem dX7_told_143 : decode cX7_told 143 = .ok (.ireturn, 1) := by decide +kernel
theorem dX7_stages_0 : decode cX7_stages 0 = .ok (.aload_n 0, 1) := by decide +kernel
theorem dX7_stages_1 : decode cX7_stages 1 = .ok (.invokevirtual 136, 3) := by decide +kernel
theorem dX7_stages_4 : decode cX7_stages 4 = .ok (.ifCond .ne 6, 3) := by decide +kernel
theorem dX7_stages_7 : decode cX7_stages 7 = .ok (.bipush (-3), 2) := by decide +kernel
theorem dX7_stages_9 : decode cX7_stages 9 = .ok (.ireturn, 1) := by decide +kernel
theorem dX7_stages_10 : decode cX7_stages 10 = .ok (.iconst 0, 1) := by decide +kernel
theorem dX7_stages_11 : decode cX7_stages 11 = .ok (.istore_n 1, 1) := by decide +kernel
theorem dX7_stages_12 : decode cX7_stages 12 = .ok (.iconst 0, 1) := by decide +kernel
theorem dX7_stages_13 : decode cX7_stages 13 = .ok (.istore_n 2, 1) := by decide +kernel
theorem dX7_stages_14 : decode cX7_stages 14 = .ok (.iload_n 2, 1) := by decide +kernel
theorem dX7_stages_15 : decode cX7_stages 15 = .ok (.bipush 8, 2) := by decide +kernel
theorem dX7_stages_17 : decode cX7_stages 17 = .ok (.if_icmp .ge 26, 3) := by decide +kernel
theorem dX7_stages_20 : decode cX7_stages 20 = .ok (.iload_n 1, 1) := by decide +kernel
theorem dX7_stages_21 : decode cX7_stages 21 = .ok (.aload_n 0, 1) := by decide +kernel
theorem dX7_stages_22 : decode cX7_stages 22 = .ok (.getfield 43, 3) := by decide +kernel
theorem dX7_stages_25 : decode cX7_stages 25 = .ok (.iload_n 2, 1) := by decide +kernel
theorem dX7_stages_26 : decode cX7_stages 26 = .ok (.iaload, 1) := by decide +kernel
theorem dX7_stages_27 : decode cX7_stages 27 = .ok (.ifCond .le 7, 3) := by decide +kernel
theorem dX7_stages_30 : decode cX7_stages 30 = .ok (.iconst 1, 1) := by decide +kernel
theorem dX7_stages_31 : decode cX7_stages 31 = .ok (.goto 4, 3) := by decide +kernel
theorem dX7_stages_34 : decode cX7_stages 34 = .ok (.iconst 0, 1) := by decide +kernel
theorem dX7_stages_35 : decode cX7_stages 35 = .ok (.iadd, 1) := by decide +kernel
theorem dX7_stages_36 : decode cX7_stages 36 = .ok (.istore_n 1, 1) := by decide +kernel
theorem dX7_stages_37 : decode cX7_stages 37 = .ok (.iinc 2 1, 3) := by decide +kernel
theorem dX7_stages_40 : decode cX7_stages 40 = .ok (.goto (-26), 3) := by decide +kernel
theorem dX7_stages_43 : decode cX7_stages 43 = .ok (.iload_n 1, 1) := by decide +kernel
theorem dX7_stages_44 : decode cX7_stages 44 = .ok (.ireturn, 1) := by decide +kernel
theorem dX7_stage_0 : decode cX7_stage 0 = .ok (.iload_n 1, 1) := by decide +kernel
theorem dX7_stage_1 : decode cX7_stage 1 = .ok (.iconst 0, 1) := by decide +kernel
theorem dX7_stage_2 : decode cX7_stage 2 = .ok (.bipush 7, 2) := by decide +kernel
theorem dX7_stage_4 : decode cX7_stage 4 = .ok (.invokestatic 75, 3) := by decide +kernel
theorem dX7_stage_7 : decode cX7_stage 7 = .ok (.ifCond .eq 12, 3) := by decide +kernel
theorem dX7_stage_10 : decode cX7_stage 10 = .ok (.iload_n 2, 1) := by decide +kernel
theorem dX7_stage_11 : decode cX7_stage 11 = .ok (.iconst 0, 1) := by decide +kernel
theorem dX7_stage_12 : decode cX7_stage 12 = .ok (.iconst 1, 1) := by decide +kernel
theorem dX7_stage_13 : decode cX7_stage 13 = .ok (.invokestatic 75, 3) := by decide +kernel
theorem dX7_stage_16 : decode cX7_stage 16 = .ok (.ifCond .ne 6, 3) := by decide +kernel
theorem dX7_stage_19 : decode cX7_stage 19 = .ok (.bipush (-2), 2) := by decide +kernel
theorem dX7_stage_21 : decode cX7_stage 21 = .ok (.ireturn, 1) := by decide +kernel
theorem dX7_stage_22 : decode cX7_stage 22 = .ok (.aload_n 0, 1) := by decide +kernel
theorem dX7_stage_23 : decode cX7_stage 23 = .ok (.invokevirtual 136, 3) := by decide +kernel
theorem dX7_stage_26 : decode cX7_stage 26 = .ok (.ifCond .ne 6, 3) := by decide +kernel
theorem dX7_stage_29 : decode cX7_stage 29 = .ok (.bipush (-3), 2) := by decide +kernel
theorem dX7_stage_31 : decode cX7_stage 31 = .ok (.ireturn, 1) := by decide +kernel
theorem dX7_stage_32 : decode cX7_stage 32 = .ok (.iconst 0, 1) := by decide +kernel
theorem dX7_stage_33 : decode cX7_stage 33 = .ok (.istore_n 3, 1) := by decide +kernel
theorem dX7_stage_34 : decode cX7_stage 34 = .ok (.iconst 0, 1) := by decide +kernel
theorem dX7_stage_35 : decode cX7_stage 35 = .ok (.istore 4, 2) := by decide +kernel
theorem dX7_stage_37 : decode cX7_stage 37 = .ok (.iload 4, 2) := by decide +kernel
theorem dX7_stage_39 : decode cX7_stage 39 = .ok (.aload_n 0, 1) := by decide +kernel
theorem dX7_stage_40 : decode cX7_stage 40 = .ok (.getfield 71, 3) := by decide +kernel
theorem dX7_stage_43 : decode cX7_stage 43 = .ok (.if_icmp .ge 31, 3) := by decide +kernel
theorem dX7_stage_46 : decode cX7_stage 46 = .ok (.iload_n 3, 1) := by decide +kernel
theorem dX7_stage_47 : decode cX7_stage 47 = .ok (.aload_n 0, 1) := by decide +kernel
theorem dX7_stage_48 : decode cX7_stage 48 = .ok (.getfield 40, 3) := by decide +kernel
theorem dX7_stage_51 : decode cX7_stage 51 = .ok (.iload 4, 2) := by decide +kernel
theorem dX7_stage_53 : decode cX7_stage 53 = .ok (.iaload, 1) := by decide +kernel
theorem dX7_stage_54 : decode cX7_stage 54 = .ok (.iload_n 1, 1) := by decide +kernel
theorem dX7_stage_55 : decode cX7_stage 55 = .ok (.if_icmp .ne 10, 3) := by decide +kernel
theorem dX7_stage_58 : decode cX7_stage 58 = .ok (.iconst 1, 1) := by decide +kernel
theorem dX7_stage_59 : decode cX7_stage 59 = .ok (.iload 4, 2) := by decide +kernel
theorem dX7_stage_61 : decode cX7_stage 61 = .ok (.ishl, 1) := by decide +kernel
theorem dX7_stage_62 : decode cX7_stage 62 = .ok (.goto 4, 3) := by decide +kernel
theorem dX7_stage_65 : decode cX7_stage 65 = .ok (.iconst 0, 1) := by decide +kernel
theorem dX7_stage_66 : decode cX7_stage 66 = .ok (.ior, 1) := by decide +kernel
theorem dX7_stage_67 : decode cX7_stage 67 = .ok (.istore_n 3, 1) := by decide +kernel
theorem dX7_stage_68 : decode cX7_stage 68 = .ok (.iinc 4 1, 3) := by decide +kernel
theorem dX7_stage_71 : decode cX7_stage 71 = .ok (.goto (-34), 3) := by decide +kernel
theorem dX7_stage_74 : decode cX7_stage 74 = .ok (.iload_n 2, 1) := by decide +kernel
theorem dX7_stage_75 : decode cX7_stage 75 = .ok (.ifCond .ne 7, 3) := by decide +kernel
theorem dX7_stage_78 : decode cX7_stage 78 = .ok (.iload_n 3, 1) := by decide +kernel
theorem dX7_stage_79 : decode cX7_stage 79 = .ok (.goto 9, 3) := by decide +kernel
theorem dX7_stage_82 : decode cX7_stage 82 = .ok (.aload_n 0, 1) := by decide +kernel
theorem dX7_stage_83 : decode cX7_stage 83 = .ok (.getfield 46, 3) := by decide +kernel
theorem dX7_stage_86 : decode cX7_stage 86 = .ok (.iload_n 1, 1) := by decide +kernel
theorem dX7_stage_87 : decode cX7_stage 87 = .ok (.iaload, 1) := by decide +kernel
theorem dX7_stage_88 : decode cX7_stage 88 = .ok (.ireturn, 1) := by decide +kernel
theorem dX7_canFollow_0 : decode cX7_canFollow 0 = .ok (.iconst 0, 1) := by decide +kernel
theorem dX7_canFollow_1 : decode cX7_canFollow 1 = .ok (.istore_n 3, 1) := by decide +kernel
theorem dX7_canFollow_2 : decode cX7_canFollow 2 = .ok (.iload_n 2, 1) := by decide +kernel
theorem dX7_canFollow_3 : decode cX7_canFollow 3 = .ok (.invokestatic 140, 3) := by decide +kernel
theorem dX7_canFollow_6 : decode cX7_canFollow 6 = .ok (.aload_n 0, 1) := by decide +kernel
theorem dX7_canFollow_7 : decode cX7_canFollow 7 = .ok (.getfield 34, 3) := by decide +kernel
theorem dX7_canFollow_10 : decode cX7_canFollow 10 = .ok (.iconst 1, 1) := by decide +kernel
theorem dX7_canFollow_11 : decode cX7_canFollow 11 = .ok (.iaload, 1) := by decide +kernel
theorem dX7_canFollow_12 : decode cX7_canFollow 12 = .ok (.if_icmp .gt 7, 3) := by decide +kernel
theorem dX7_canFollow_15 : decode cX7_canFollow 15 = .ok (.iconst 1, 1) := by decide +kernel
theorem dX7_canFollow_16 : decode cX7_canFollow 16 = .ok (.goto 4, 3) := by decide +kernel
theorem dX7_canFollow_19 : decode cX7_canFollow 19 = .ok (.iconst 0, 1) := by decide +kernel
theorem dX7_canFollow_20 : decode cX7_canFollow 20 = .ok (.istore 4, 2) := by decide +kernel
theorem dX7_canFollow_22 : decode cX7_canFollow 22 = .ok (.iconst 0, 1) := by decide +kernel
theorem dX7_canFollow_23 : decode cX7_canFollow 23 = .ok (.istore 5, 2) := by decide +kernel
theorem dX7_canFollow_25 : decode cX7_canFollow 25 = .ok (.iload 5, 2) := by decide +kernel
theorem dX7_canFollow_27 : decode cX7_canFollow 27 = .ok (.aload_n 0, 1) := by decide +kernel
theorem dX7_canFollow_28 : decode cX7_canFollow 28 = .ok (.getfield 71, 3) := by decide +kernel
theorem dX7_canFollow_31 : decode cX7_canFollow 31 = .ok (.if_icmp .ge 69, 3) := by decide +kernel
theorem dX7_canFollow_34 : decode cX7_canFollow 34 = .ok (.iload_n 2, 1) := by decide +kernel
theorem dX7_canFollow_35 : decode cX7_canFollow 35 = .ok (.iload 5, 2) := by decide +kernel
theorem dX7_canFollow_37 : decode cX7_canFollow 37 = .ok (.invokestatic 97, 3) := by decide +kernel
theorem dX7_canFollow_40 : decode cX7_canFollow 40 = .ok (.ifCond .eq 54, 3) := by decide +kernel
theorem dX7_canFollow_43 : decode cX7_canFollow 43 = .ok (.iload_n 3, 1) := by decide +kernel
theorem dX7_canFollow_44 : decode cX7_canFollow 44 = .ok (.aload_n 0, 1) := by decide +kernel
theorem dX7_canFollow_45 : decode cX7_canFollow 45 = .ok (.iload 5, 2) := by decide +kernel
theorem dX7_canFollow_47 : decode cX7_canFollow 47 = .ok (.invokevirtual 127, 3) := by decide +kernel
theorem dX7_canFollow_50 : decode cX7_canFollow 50 = .ok (.iadd, 1) := by decide +kernel
theorem dX7_canFollow_51 : decode cX7_canFollow 51 = .ok (.istore_n 3, 1) := by decide +kernel
theorem dX7_canFollow_52 : decode cX7_canFollow 52 = .ok (.iload 4, 2) := by decide +kernel
theorem dX7_canFollow_54 : decode cX7_canFollow 54 = .ok (.ifCond .eq 37, 3) := by decide +kernel
theorem dX7_canFollow_57 : decode cX7_canFollow 57 = .ok (.aload_n 0, 1) := by decide +kernel
theorem dX7_canFollow_58 : decode cX7_canFollow 58 = .ok (.getfield 52, 3) := by decide +kernel
theorem dX7_canFollow_61 : decode cX7_canFollow 61 = .ok (.iload 5, 2) := by decide +kernel
theorem dX7_canFollow_63 : decode cX7_canFollow 63 = .ok (.iaload, 1) := by decide +kernel
theorem dX7_canFollow_64 : decode cX7_canFollow 64 = .ok (.iload_n 1, 1) := by decide +kernel
theorem dX7_canFollow_65 : decode cX7_canFollow 65 = .ok (.iconst (-1), 1) := by decide +kernel
theorem dX7_canFollow_66 : decode cX7_canFollow 66 = .ok (.ixor, 1) := by decide +kernel
theorem dX7_canFollow_67 : decode cX7_canFollow 67 = .ok (.iand, 1) := by decide +kernel
theorem dX7_canFollow_68 : decode cX7_canFollow 68 = .ok (.ifCond .ne 23, 3) := by decide +kernel
theorem dX7_canFollow_71 : decode cX7_canFollow 71 = .ok (.aload_n 0, 1) := by decide +kernel
theorem dX7_canFollow_72 : decode cX7_canFollow 72 = .ok (.getfield 55, 3) := by decide +kernel
theorem dX7_canFollow_75 : decode cX7_canFollow 75 = .ok (.iload 5, 2) := by decide +kernel
theorem dX7_canFollow_77 : decode cX7_canFollow 77 = .ok (.iaload, 1) := by decide +kernel
theorem dX7_canFollow_78 : decode cX7_canFollow 78 = .ok (.iload_n 1, 1) := by decide +kernel
theorem dX7_canFollow_79 : decode cX7_canFollow 79 = .ok (.iload_n 2, 1) := by decide +kernel
theorem dX7_canFollow_80 : decode cX7_canFollow 80 = .ok (.ior, 1) := by decide +kernel
theorem dX7_canFollow_81 : decode cX7_canFollow 81 = .ok (.iconst (-1), 1) := by decide +kernel
theorem dX7_canFollow_82 : decode cX7_canFollow 82 = .ok (.ixor, 1) := by decide +kernel
theorem dX7_canFollow_83 : decode cX7_canFollow 83 = .ok (.iand, 1) := by decide +kernel
theorem dX7_canFollow_84 : decode cX7_canFollow 84 = .ok (.ifCond .ne 7, 3) := by decide +kernel
theorem dX7_canFollow_87 : decode cX7_canFollow 87 = .ok (.iconst 1, 1) := by decide +kernel
theorem dX7_canFollow_88 : decode cX7_canFollow 88 = .ok (.goto 4, 3) := by decide +kernel
theorem dX7_canFollow_91 : decode cX7_canFollow 91 = .ok (.iconst 0, 1) := by decide +kernel
theorem dX7_canFollow_92 : decode cX7_canFollow 92 = .ok (.istore 4, 2) := by decide +kernel
theorem dX7_canFollow_94 : decode cX7_canFollow 94 = .ok (.iinc 5 1, 3) := by decide +kernel
theorem dX7_canFollow_97 : decode cX7_canFollow 97 = .ok (.goto (-72), 3) := by decide +kernel
theorem dX7_canFollow_100 : decode cX7_canFollow 100 = .ok (.iload 4, 2) := by decide +kernel
theorem dX7_canFollow_102 : decode cX7_canFollow 102 = .ok (.ifCond .eq 17, 3) := by decide +kernel
theorem dX7_canFollow_105 : decode cX7_canFollow 105 = .ok (.iload_n 3, 1) := by decide +kernel
theorem dX7_canFollow_106 : decode cX7_canFollow 106 = .ok (.aload_n 0, 1) := by decide +kernel
theorem dX7_canFollow_107 : decode cX7_canFollow 107 = .ok (.getfield 34, 3) := by decide +kernel
theorem dX7_canFollow_110 : decode cX7_canFollow 110 = .ok (.iconst 0, 1) := by decide +kernel
theorem dX7_canFollow_111 : decode cX7_canFollow 111 = .ok (.iaload, 1) := by decide +kernel
theorem dX7_canFollow_112 : decode cX7_canFollow 112 = .ok (.if_icmp .gt 7, 3) := by decide +kernel
theorem dX7_canFollow_115 : decode cX7_canFollow 115 = .ok (.iconst 1, 1) := by decide +kernel
theorem dX7_canFollow_116 : decode cX7_canFollow 116 = .ok (.goto 4, 3) := by decide +kernel
theorem dX7_canFollow_119 : decode cX7_canFollow 119 = .ok (.iconst 0, 1) := by decide +kernel
theorem dX7_canFollow_120 : decode cX7_canFollow 120 = .ok (.ireturn, 1) := by decide +kernel
theorem dX7_fewest_0 : decode cX7_fewest 0 = .ok (.iconst 0, 1) := by decide +kernel
theorem dX7_fewest_1 : decode cX7_fewest 1 = .ok (.istore_n 1, 1) := by decide +kernel
theorem dX7_fewest_2 : decode cX7_fewest 2 = .ok (.iload_n 1, 1) := by decide +kernel
theorem dX7_fewest_3 : decode cX7_fewest 3 = .ok (.aload_n 0, 1) := by decide +kernel
theorem dX7_fewest_4 : decode cX7_fewest 4 = .ok (.getfield 71, 3) := by decide +kernel
theorem dX7_fewest_7 : decode cX7_fewest 7 = .ok (.if_icmp .ge 85, 3) := by decide +kernel
theorem dX7_fewest_10 : decode cX7_fewest 10 = .ok (.aload_n 0, 1) := by decide +kernel
theorem dX7_fewest_11 : decode cX7_fewest 11 = .ok (.getfield 52, 3) := by decide +kernel
theorem dX7_fewest_14 : decode cX7_fewest 14 = .ok (.iload_n 1, 1) := by decide +kernel
theorem dX7_fewest_15 : decode cX7_fewest 15 = .ok (.iconst 0, 1) := by decide +kernel
theorem dX7_fewest_16 : decode cX7_fewest 16 = .ok (.iastore, 1) := by decide +kernel
theorem dX7_fewest_17 : decode cX7_fewest 17 = .ok (.aload_n 0, 1) := by decide +kernel
theorem dX7_fewest_18 : decode cX7_fewest 18 = .ok (.getfield 55, 3) := by decide +kernel
theorem dX7_fewest_21 : decode cX7_fewest 21 = .ok (.iload_n 1, 1) := by decide +kernel
theorem dX7_fewest_22 : decode cX7_fewest 22 = .ok (.iconst 0, 1) := by decide +kernel
theorem dX7_fewest_23 : decode cX7_fewest 23 = .ok (.iastore, 1) := by decide +kernel
theorem dX7_fewest_24 : decode cX7_fewest 24 = .ok (.iconst 0, 1) := by decide +kernel
theorem dX7_fewest_25 : decode cX7_fewest 25 = .ok (.istore_n 2, 1) := by decide +kernel
theorem dX7_fewest_26 : decode cX7_fewest 26 = .ok (.iload_n 2, 1) := by decide +kernel
theorem dX7_fewest_27 : decode cX7_fewest 27 = .ok (.iload_n 1, 1) := by decide +kernel
theorem dX7_fewest_28 : decode cX7_fewest 28 = .ok (.if_icmp .ge 58, 3) := by decide +kernel
theorem dX7_fewest_31 : decode cX7_fewest 31 = .ok (.aload_n 0, 1) := by decide +kernel
theorem dX7_fewest_32 : decode cX7_fewest 32 = .ok (.iload_n 2, 1) := by decide +kernel
theorem dX7_fewest_33 : decode cX7_fewest 33 = .ok (.iload_n 1, 1) := by decide +kernel
theorem dX7_fewest_34 : decode cX7_fewest 34 = .ok (.invokevirtual 124, 3) := by decide +kernel
theorem dX7_fewest_37 : decode cX7_fewest 37 = .ok (.istore_n 3, 1) := by decide +kernel
theorem dX7_fewest_38 : decode cX7_fewest 38 = .ok (.aload_n 0, 1) := by decide +kernel
theorem dX7_fewest_39 : decode cX7_fewest 39 = .ok (.getfield 52, 3) := by decide +kernel
theorem dX7_fewest_42 : decode cX7_fewest 42 = .ok (.iload_n 1, 1) := by decide +kernel
theorem dX7_fewest_43 : decode cX7_fewest 43 = .ok (.dup2, 1) := by decide +kernel
theorem dX7_fewest_44 : decode cX7_fewest 44 = .ok (.iaload, 1) := by decide +kernel
theorem dX7_fewest_45 : decode cX7_fewest 45 = .ok (.iload_n 3, 1) := by decide +kernel
theorem dX7_fewest_46 : decode cX7_fewest 46 = .ok (.iconst 1, 1) := by decide +kernel
theorem dX7_fewest_47 : decode cX7_fewest 47 = .ok (.if_icmp .le 9, 3) := by decide +kernel
theorem dX7_fewest_50 : decode cX7_fewest 50 = .ok (.iconst 1, 1) := by decide +kernel
theorem dX7_fewest_51 : decode cX7_fewest 51 = .ok (.iload_n 2, 1) := by decide +kernel
theorem dX7_fewest_52 : decode cX7_fewest 52 = .ok (.ishl, 1) := by decide +kernel
theorem dX7_fewest_53 : decode cX7_fewest 53 = .ok (.goto 4, 3) := by decide +kernel
theorem dX7_fewest_56 : decode cX7_fewest 56 = .ok (.iconst 0, 1) := by decide +kernel
theorem dX7_fewest_57 : decode cX7_fewest 57 = .ok (.ior, 1) := by decide +kernel
theorem dX7_fewest_58 : decode cX7_fewest 58 = .ok (.iastore, 1) := by decide +kernel
theorem dX7_fewest_59 : decode cX7_fewest 59 = .ok (.aload_n 0, 1) := by decide +kernel
theorem dX7_fewest_60 : decode cX7_fewest 60 = .ok (.getfield 55, 3) := by decide +kernel
theorem dX7_fewest_63 : decode cX7_fewest 63 = .ok (.iload_n 1, 1) := by decide +kernel
theorem dX7_fewest_64 : decode cX7_fewest 64 = .ok (.dup2, 1) := by decide +kernel
theorem dX7_fewest_65 : decode cX7_fewest 65 = .ok (.iaload, 1) := by decide +kernel
theorem dX7_fewest_66 : decode cX7_fewest 66 = .ok (.iload_n 3, 1) := by decide +kernel
theorem dX7_fewest_67 : decode cX7_fewest 67 = .ok (.iconst 1, 1) := by decide +kernel
theorem dX7_fewest_68 : decode cX7_fewest 68 = .ok (.if_icmp .ne 9, 3) := by decide +kernel
theorem dX7_fewest_71 : decode cX7_fewest 71 = .ok (.iconst 1, 1) := by decide +kernel
theorem dX7_fewest_72 : decode cX7_fewest 72 = .ok (.iload_n 2, 1) := by decide +kernel
theorem dX7_fewest_73 : decode cX7_fewest 73 = .ok (.ishl, 1) := by decide +kernel
theorem dX7_fewest_74 : decode cX7_fewest 74 = .ok (.goto 4, 3) := by decide +kernel
theorem dX7_fewest_77 : decode cX7_fewest 77 = .ok (.iconst 0, 1) := by decide +kernel
theorem dX7_fewest_78 : decode cX7_fewest 78 = .ok (.ior, 1) := by decide +kernel
theorem dX7_fewest_79 : decode cX7_fewest 79 = .ok (.iastore, 1) := by decide +kernel
theorem dX7_fewest_80 : decode cX7_fewest 80 = .ok (.iinc 2 1, 3) := by decide +kernel
theorem dX7_fewest_83 : decode cX7_fewest 83 = .ok (.goto (-57), 3) := by decide +kernel
theorem dX7_fewest_86 : decode cX7_fewest 86 = .ok (.iinc 1 1, 3) := by decide +kernel
theorem dX7_fewest_89 : decode cX7_fewest 89 = .ok (.goto (-87), 3) := by decide +kernel
theorem dX7_fewest_92 : decode cX7_fewest 92 = .ok (.iconst 1, 1) := by decide +kernel
theorem dX7_fewest_93 : decode cX7_fewest 93 = .ok (.aload_n 0, 1) := by decide +kernel
theorem dX7_fewest_94 : decode cX7_fewest 94 = .ok (.getfield 71, 3) := by decide +kernel
theorem dX7_fewest_97 : decode cX7_fewest 97 = .ok (.ishl, 1) := by decide +kernel
theorem dX7_fewest_98 : decode cX7_fewest 98 = .ok (.iconst 1, 1) := by decide +kernel
theorem dX7_fewest_99 : decode cX7_fewest 99 = .ok (.isub, 1) := by decide +kernel
theorem dX7_fewest_100 : decode cX7_fewest 100 = .ok (.istore_n 1, 1) := by decide +kernel
theorem dX7_fewest_101 : decode cX7_fewest 101 = .ok (.aload_n 0, 1) := by decide +kernel
theorem dX7_fewest_102 : decode cX7_fewest 102 = .ok (.getfield 49, 3) := by decide +kernel
theorem dX7_fewest_105 : decode cX7_fewest 105 = .ok (.iconst 0, 1) := by decide +kernel
theorem dX7_fewest_106 : decode cX7_fewest 106 = .ok (.iconst 0, 1) := by decide +kernel
theorem dX7_fewest_107 : decode cX7_fewest 107 = .ok (.iastore, 1) := by decide +kernel
theorem dX7_fewest_108 : decode cX7_fewest 108 = .ok (.iconst 1, 1) := by decide +kernel
theorem dX7_fewest_109 : decode cX7_fewest 109 = .ok (.istore_n 2, 1) := by decide +kernel
theorem dX7_fewest_110 : decode cX7_fewest 110 = .ok (.iload_n 2, 1) := by decide +kernel
theorem dX7_fewest_111 : decode cX7_fewest 111 = .ok (.iload_n 1, 1) := by decide +kernel
theorem dX7_fewest_112 : decode cX7_fewest 112 = .ok (.if_icmp .gt 101, 3) := by decide +kernel
theorem dX7_fewest_115 : decode cX7_fewest 115 = .ok (.aload_n 0, 1) := by decide +kernel
theorem dX7_fewest_116 : decode cX7_fewest 116 = .ok (.getfield 49, 3) := by decide +kernel
theorem dX7_fewest_119 : decode cX7_fewest 119 = .ok (.iload_n 2, 1) := by decide +kernel
theorem dX7_fewest_120 : decode cX7_fewest 120 = .ok (.bipush (-6), 2) := by decide +kernel
theorem dX7_fewest_122 : decode cX7_fewest 122 = .ok (.iastore, 1) := by decide +kernel
theorem dX7_fewest_123 : decode cX7_fewest 123 = .ok (.iload_n 2, 1) := by decide +kernel
theorem dX7_fewest_124 : decode cX7_fewest 124 = .ok (.istore_n 3, 1) := by decide +kernel
theorem dX7_fewest_125 : decode cX7_fewest 125 = .ok (.iload_n 3, 1) := by decide +kernel
theorem dX7_fewest_126 : decode cX7_fewest 126 = .ok (.ifCond .le 81, 3) := by decide +kernel
theorem dX7_fewest_129 : decode cX7_fewest 129 = .ok (.iload_n 2, 1) := by decide +kernel
theorem dX7_fewest_130 : decode cX7_fewest 130 = .ok (.iload_n 3, 1) := by decide +kernel
theorem dX7_fewest_131 : decode cX7_fewest 131 = .ok (.iconst (-1), 1) := by decide +kernel
theorem dX7_fewest_132 : decode cX7_fewest 132 = .ok (.ixor, 1) := by decide +kernel
theorem dX7_fewest_133 : decode cX7_fewest 133 = .ok (.iand, 1) := by decide +kernel
theorem dX7_fewest_134 : decode cX7_fewest 134 = .ok (.istore 4, 2) := by decide +kernel
theorem dX7_fewest_136 : decode cX7_fewest 136 = .ok (.aload_n 0, 1) := by decide +kernel
theorem dX7_fewest_137 : decode cX7_fewest 137 = .ok (.getfield 49, 3) := by decide +kernel
theorem dX7_fewest_140 : decode cX7_fewest 140 = .ok (.iload 4, 2) := by decide +kernel
theorem dX7_fewest_142 : decode cX7_fewest 142 = .ok (.iaload, 1) := by decide +kernel
theorem dX7_fewest_143 : decode cX7_fewest 143 = .ok (.ifCond .lt 55, 3) := by decide +kernel
theorem dX7_fewest_146 : decode cX7_fewest 146 = .ok (.aload_n 0, 1) := by decide +kernel
theorem dX7_fewest_147 : decode cX7_fewest 147 = .ok (.iload 4, 2) := by decide +kernel
theorem dX7_fewest_149 : decode cX7_fewest 149 = .ok (.iload_n 3, 1) := by decide +kernel
theorem dX7_fewest_150 : decode cX7_fewest 150 = .ok (.invokevirtual 143, 3) := by decide +kernel
theorem dX7_fewest_153 : decode cX7_fewest 153 = .ok (.ifCond .eq 45, 3) := by decide +kernel
theorem dX7_fewest_156 : decode cX7_fewest 156 = .ok (.aload_n 0, 1) := by decide +kernel
theorem dX7_fewest_157 : decode cX7_fewest 157 = .ok (.getfield 49, 3) := by decide +kernel
theorem dX7_fewest_160 : decode cX7_fewest 160 = .ok (.iload_n 2, 1) := by decide +kernel
theorem dX7_fewest_161 : decode cX7_fewest 161 = .ok (.iaload, 1) := by decide +kernel
theorem dX7_fewest_162 : decode cX7_fewest 162 = .ok (.ifCond .lt 21, 3) := by decide +kernel
theorem dX7_fewest_165 : decode cX7_fewest 165 = .ok (.aload_n 0, 1) := by decide +kernel
theorem dX7_fewest_166 : decode cX7_fewest 166 = .ok (.getfield 49, 3) := by decide +kernel
theorem dX7_fewest_169 : decode cX7_fewest 169 = .ok (.iload 4, 2) := by decide +kernel
theorem dX7_fewest_171 : decode cX7_fewest 171 = .ok (.iaload, 1) := by decide +kernel
theorem dX7_fewest_172 : decode cX7_fewest 172 = .ok (.iconst 1, 1) := by decide +kernel
theorem dX7_fewest_173 : decode cX7_fewest 173 = .ok (.iadd, 1) := by decide +kernel
theorem dX7_fewest_174 : decode cX7_fewest 174 = .ok (.aload_n 0, 1) := by decide +kernel
theorem dX7_fewest_175 : decode cX7_fewest 175 = .ok (.getfield 49, 3) := by decide +kernel
theorem dX7_fewest_178 : decode cX7_fewest 178 = .ok (.iload_n 2, 1) := by decide +kernel
theorem dX7_fewest_179 : decode cX7_fewest 179 = .ok (.iaload, 1) := by decide +kernel
theorem dX7_fewest_180 : decode cX7_fewest 180 = .ok (.if_icmp .ge 18, 3) := by decide +kernel
theorem dX7_fewest_183 : decode cX7_fewest 183 = .ok (.aload_n 0, 1) := by decide +kernel
theorem dX7_fewest_184 : decode cX7_fewest 184 = .ok (.getfield 49, 3) := by decide +kernel
theorem dX7_fewest_187 : decode cX7_fewest 187 = .ok (.iload_n 2, 1) := by decide +kernel
theorem dX7_fewest_188 : decode cX7_fewest 188 = .ok (.aload_n 0, 1) := by decide +kernel
theorem dX7_fewest_189 : decode cX7_fewest 189 = .ok (.getfield 49, 3) := by decide +kernel
theorem dX7_fewest_192 : decode cX7_fewest 192 = .ok (.iload 4, 2) := by decide +kernel
theorem dX7_fewest_194 : decode cX7_fewest 194 = .ok (.iaload, 1) := by decide +kernel
theorem dX7_fewest_195 : decode cX7_fewest 195 = .ok (.iconst 1, 1) := by decide +kernel
theorem dX7_fewest_196 : decode cX7_fewest 196 = .ok (.iadd, 1) := by decide +kernel
theorem dX7_fewest_197 : decode cX7_fewest 197 = .ok (.iastore, 1) := by decide +kernel
theorem dX7_fewest_198 : decode cX7_fewest 198 = .ok (.iload_n 3, 1) := by decide +kernel
theorem dX7_fewest_199 : decode cX7_fewest 199 = .ok (.iconst 1, 1) := by decide +kernel
theorem dX7_fewest_200 : decode cX7_fewest 200 = .ok (.isub, 1) := by decide +kernel
theorem dX7_fewest_201 : decode cX7_fewest 201 = .ok (.iload_n 2, 1) := by decide +kernel
theorem dX7_fewest_202 : decode cX7_fewest 202 = .ok (.iand, 1) := by decide +kernel
theorem dX7_fewest_203 : decode cX7_fewest 203 = .ok (.istore_n 3, 1) := by decide +kernel
theorem dX7_fewest_204 : decode cX7_fewest 204 = .ok (.goto (-79), 3) := by decide +kernel
theorem dX7_fewest_207 : decode cX7_fewest 207 = .ok (.iinc 2 1, 3) := by decide +kernel
theorem dX7_fewest_210 : decode cX7_fewest 210 = .ok (.goto (-100), 3) := by decide +kernel
theorem dX7_fewest_213 : decode cX7_fewest 213 = .ok (.aload_n 0, 1) := by decide +kernel
theorem dX7_fewest_214 : decode cX7_fewest 214 = .ok (.getfield 49, 3) := by decide +kernel
theorem dX7_fewest_217 : decode cX7_fewest 217 = .ok (.iload_n 1, 1) := by decide +kernel
theorem dX7_fewest_218 : decode cX7_fewest 218 = .ok (.iaload, 1) := by decide +kernel
theorem dX7_fewest_219 : decode cX7_fewest 219 = .ok (.ireturn, 1) := by decide +kernel
theorem dX7_tell_0 : decode cX7_tell 0 = .ok (.iload_n 1, 1) := by decide +kernel
theorem dX7_tell_1 : decode cX7_tell 1 = .ok (.invokestatic 79, 3) := by decide +kernel
theorem dX7_tell_4 : decode cX7_tell 4 = .ok (.ifCond .ne 5, 3) := by decide +kernel
theorem dX7_tell_7 : decode cX7_tell 7 = .ok (.iconst (-1), 1) := by decide +kernel
theorem dX7_tell_8 : decode cX7_tell 8 = .ok (.ireturn, 1) := by decide +kernel
theorem dX7_tell_9 : decode cX7_tell 9 = .ok (.iload_n 2, 1) := by decide +kernel
theorem dX7_tell_10 : decode cX7_tell 10 = .ok (.iconst 0, 1) := by decide +kernel
theorem dX7_tell_11 : decode cX7_tell 11 = .ok (.sipush 255, 3) := by decide +kernel
theorem dX7_tell_14 : decode cX7_tell 14 = .ok (.invokestatic 75, 3) := by decide +kernel
theorem dX7_tell_17 : decode cX7_tell 17 = .ok (.ifCond .ne 6, 3) := by decide +kernel
theorem dX7_tell_20 : decode cX7_tell 20 = .ok (.bipush (-2), 2) := by decide +kernel
theorem dX7_tell_22 : decode cX7_tell 22 = .ok (.ireturn, 1) := by decide +kernel
theorem dX7_tell_23 : decode cX7_tell 23 = .ok (.aload_n 0, 1) := by decide +kernel
theorem dX7_tell_24 : decode cX7_tell 24 = .ok (.getfield 31, 3) := by decide +kernel
theorem dX7_tell_27 : decode cX7_tell 27 = .ok (.iload_n 1, 1) := by decide +kernel
theorem dX7_tell_28 : decode cX7_tell 28 = .ok (.iaload, 1) := by decide +kernel
theorem dX7_tell_29 : decode cX7_tell 29 = .ok (.istore_n 3, 1) := by decide +kernel
theorem dX7_tell_30 : decode cX7_tell 30 = .ok (.aload_n 0, 1) := by decide +kernel
theorem dX7_tell_31 : decode cX7_tell 31 = .ok (.getfield 31, 3) := by decide +kernel
theorem dX7_tell_34 : decode cX7_tell 34 = .ok (.iload_n 1, 1) := by decide +kernel
theorem dX7_tell_35 : decode cX7_tell 35 = .ok (.iload_n 2, 1) := by decide +kernel
theorem dX7_tell_36 : decode cX7_tell 36 = .ok (.iastore, 1) := by decide +kernel
theorem dX7_tell_37 : decode cX7_tell 37 = .ok (.iload_n 3, 1) := by decide +kernel
theorem dX7_tell_38 : decode cX7_tell 38 = .ok (.ireturn, 1) := by decide +kernel
theorem dX7_put_0 : decode cX7_put 0 = .ok (.iload_n 1, 1) := by decide +kernel
theorem dX7_put_1 : decode cX7_put 1 = .ok (.iconst 0, 1) := by decide +kernel
theorem dX7_put_2 : decode cX7_put 2 = .ok (.iconst 3, 1) := by decide +kernel
theorem dX7_put_3 : decode cX7_put 3 = .ok (.invokestatic 75, 3) := by decide +kernel
theorem dX7_put_6 : decode cX7_put 6 = .ok (.ifCond .ne 5, 3) := by decide +kernel
theorem dX7_put_9 : decode cX7_put 9 = .ok (.iconst (-1), 1) := by decide +kernel
theorem dX7_put_10 : decode cX7_put 10 = .ok (.ireturn, 1) := by decide +kernel
theorem dX7_put_11 : decode cX7_put 11 = .ok (.iload_n 2, 1) := by decide +kernel
theorem dX7_put_12 : decode cX7_put 12 = .ok (.iconst 0, 1) := by decide +kernel
end
section
/-! decode rows -/
theorem dX7_put_13 : decode cX7_put 13 = .ok (.ldc 146, 2) := by decide +kernel
theorem dX7_put_15 : decode cX7_put 15 = .ok (.invokestatic 75, 3) := by decide +kernel
theorem dX7_put_18 : decode cX7_put 18 = .ok (.ifCond .ne 6, 3) := by decide +kernel
theorem dX7_put_21 : decode cX7_put 21 = .ok (.bipush (-2), 2) := by decide +kernel
theorem dX7_put_23 : decode cX7_put 23 = .ok (.ireturn, 1) := by decide +kernel
theorem dX7_put_24 : decode cX7_put 24 = .ok (.aload_n 0, 1) := by decide +kernel
theorem dX7_put_25 : decode cX7_put 25 = .ok (.getfield 28, 3) := by decide +kernel
theorem dX7_put_28 : decode cX7_put 28 = .ok (.iload_n 1, 1) := by decide +kernel
theorem dX7_put_29 : decode cX7_put 29 = .ok (.iaload, 1) := by decide +kernel
theorem dX7_put_30 : decode cX7_put 30 = .ok (.istore_n 3, 1) := by decide +kernel
theorem dX7_put_31 : decode cX7_put 31 = .ok (.aload_n 0, 1) := by decide +kernel
theorem dX7_put_32 : decode cX7_put 32 = .ok (.getfield 28, 3) := by decide +kernel
theorem dX7_put_35 : decode cX7_put 35 = .ok (.iload_n 1, 1) := by decide +kernel
theorem dX7_put_36 : decode cX7_put 36 = .ok (.iload_n 2, 1) := by decide +kernel
theorem dX7_put_37 : decode cX7_put 37 = .ok (.iastore, 1) := by decide +kernel
theorem dX7_put_38 : decode cX7_put 38 = .ok (.iload_n 3, 1) := by decide +kernel
theorem dX7_put_39 : decode cX7_put 39 = .ok (.ireturn, 1) := by decide +kernel
theorem dX7_register_0 : decode cX7_register 0 = .ok (.iload_n 1, 1) := by decide +kernel
theorem dX7_register_1 : decode cX7_register 1 = .ok (.iconst 0, 1) := by decide +kernel
theorem dX7_register_2 : decode cX7_register 2 = .ok (.iconst 3, 1) := by decide +kernel
theorem dX7_register_3 : decode cX7_register 3 = .ok (.invokestatic 75, 3) := by decide +kernel
theorem dX7_register_6 : decode cX7_register 6 = .ok (.ifCond .eq 12, 3) := by decide +kernel
theorem dX7_register_9 : decode cX7_register 9 = .ok (.aload_n 0, 1) := by decide +kernel
theorem dX7_register_10 : decode cX7_register 10 = .ok (.getfield 28, 3) := by decide +kernel
theorem dX7_register_13 : decode cX7_register 13 = .ok (.iload_n 1, 1) := by decide +kernel
theorem dX7_register_14 : decode cX7_register 14 = .ok (.iaload, 1) := by decide +kernel
theorem dX7_register_15 : decode cX7_register 15 = .ok (.goto 4, 3) := by decide +kernel
theorem dX7_register_18 : decode cX7_register 18 = .ok (.iconst (-1), 1) := by decide +kernel
theorem dX7_register_19 : decode cX7_register 19 = .ok (.ireturn, 1) := by decide +kernel
theorem dX7_act_0 : decode cX7_act 0 = .ok (.aload_n 0, 1) := by decide +kernel
theorem dX7_act_1 : decode cX7_act 1 = .ok (.getfield 22, 3) := by decide +kernel
theorem dX7_act_4 : decode cX7_act 4 = .ok (.iload_n 1, 1) := by decide +kernel
theorem dX7_act_5 : decode cX7_act 5 = .ok (.iaload, 1) := by decide +kernel
theorem dX7_act_6 : decode cX7_act 6 = .ok (.istore_n 2, 1) := by decide +kernel
theorem dX7_act_7 : decode cX7_act 7 = .ok (.aload_n 0, 1) := by decide +kernel
theorem dX7_act_8 : decode cX7_act 8 = .ok (.getfield 25, 3) := by decide +kernel
theorem dX7_act_11 : decode cX7_act 11 = .ok (.iload_n 1, 1) := by decide +kernel
theorem dX7_act_12 : decode cX7_act 12 = .ok (.iaload, 1) := by decide +kernel
theorem dX7_act_13 : decode cX7_act 13 = .ok (.istore_n 3, 1) := by decide +kernel
theorem dX7_act_14 : decode cX7_act 14 = .ok (.aload_n 0, 1) := by decide +kernel
theorem dX7_act_15 : decode cX7_act 15 = .ok (.getfield 19, 3) := by decide +kernel
theorem dX7_act_18 : decode cX7_act 18 = .ok (.iload_n 1, 1) := by decide +kernel
theorem dX7_act_19 : decode cX7_act 19 = .ok (.iaload, 1) := by decide +kernel
theorem dX7_act_20 : decode cX7_act 20 = .ok (.tableswitch 274 1 9 #[52, 62, 77, 98, 120, 156, 223, 258, 266], 52) := by decide +kernel
theorem dX7_act_72 : decode cX7_act 72 = .ok (.aload_n 0, 1) := by decide +kernel
theorem dX7_act_73 : decode cX7_act 73 = .ok (.getfield 58, 3) := by decide +kernel
theorem dX7_act_76 : decode cX7_act 76 = .ok (.iload_n 2, 1) := by decide +kernel
theorem dX7_act_77 : decode cX7_act 77 = .ok (.iload_n 3, 1) := by decide +kernel
theorem dX7_act_78 : decode cX7_act 78 = .ok (.iastore, 1) := by decide +kernel
theorem dX7_act_79 : decode cX7_act 79 = .ok (.goto 215, 3) := by decide +kernel
theorem dX7_act_82 : decode cX7_act 82 = .ok (.aload_n 0, 1) := by decide +kernel
theorem dX7_act_83 : decode cX7_act 83 = .ok (.getfield 58, 3) := by decide +kernel
theorem dX7_act_86 : decode cX7_act 86 = .ok (.iload_n 2, 1) := by decide +kernel
theorem dX7_act_87 : decode cX7_act 87 = .ok (.aload_n 0, 1) := by decide +kernel
theorem dX7_act_88 : decode cX7_act 88 = .ok (.getfield 58, 3) := by decide +kernel
theorem dX7_act_91 : decode cX7_act 91 = .ok (.iload_n 3, 1) := by decide +kernel
theorem dX7_act_92 : decode cX7_act 92 = .ok (.iaload, 1) := by decide +kernel
theorem dX7_act_93 : decode cX7_act 93 = .ok (.iastore, 1) := by decide +kernel
theorem dX7_act_94 : decode cX7_act 94 = .ok (.goto 200, 3) := by decide +kernel
theorem dX7_act_97 : decode cX7_act 97 = .ok (.aload_n 0, 1) := by decide +kernel
theorem dX7_act_98 : decode cX7_act 98 = .ok (.getfield 58, 3) := by decide +kernel
theorem dX7_act_101 : decode cX7_act 101 = .ok (.iload_n 2, 1) := by decide +kernel
theorem dX7_act_102 : decode cX7_act 102 = .ok (.aload_n 0, 1) := by decide +kernel
theorem dX7_act_103 : decode cX7_act 103 = .ok (.getfield 58, 3) := by decide +kernel
theorem dX7_act_106 : decode cX7_act 106 = .ok (.iload_n 2, 1) := by decide +kernel
theorem dX7_act_107 : decode cX7_act 107 = .ok (.iaload, 1) := by decide +kernel
theorem dX7_act_108 : decode cX7_act 108 = .ok (.iload_n 3, 1) := by decide +kernel
theorem dX7_act_109 : decode cX7_act 109 = .ok (.iadd, 1) := by decide +kernel
theorem dX7_act_110 : decode cX7_act 110 = .ok (.sipush 256, 3) := by decide +kernel
theorem dX7_act_113 : decode cX7_act 113 = .ok (.irem, 1) := by decide +kernel
theorem dX7_act_114 : decode cX7_act 114 = .ok (.iastore, 1) := by decide +kernel
theorem dX7_act_115 : decode cX7_act 115 = .ok (.goto 179, 3) := by decide +kernel
theorem dX7_act_118 : decode cX7_act 118 = .ok (.aload_n 0, 1) := by decide +kernel
theorem dX7_act_119 : decode cX7_act 119 = .ok (.getfield 58, 3) := by decide +kernel
theorem dX7_act_122 : decode cX7_act 122 = .ok (.iload_n 2, 1) := by decide +kernel
theorem dX7_act_123 : decode cX7_act 123 = .ok (.aload_n 0, 1) := by decide +kernel
theorem dX7_act_124 : decode cX7_act 124 = .ok (.getfield 58, 3) := by decide +kernel
theorem dX7_act_127 : decode cX7_act 127 = .ok (.iload_n 2, 1) := by decide +kernel
theorem dX7_act_128 : decode cX7_act 128 = .ok (.iaload, 1) := by decide +kernel
theorem dX7_act_129 : decode cX7_act 129 = .ok (.aload_n 0, 1) := by decide +kernel
theorem dX7_act_130 : decode cX7_act 130 = .ok (.getfield 58, 3) := by decide +kernel
theorem dX7_act_133 : decode cX7_act 133 = .ok (.iload_n 3, 1) := by decide +kernel
theorem dX7_act_134 : decode cX7_act 134 = .ok (.iaload, 1) := by decide +kernel
theorem dX7_act_135 : decode cX7_act 135 = .ok (.ixor, 1) := by decide +kernel
theorem dX7_act_136 : decode cX7_act 136 = .ok (.iastore, 1) := by decide +kernel
theorem dX7_act_137 : decode cX7_act 137 = .ok (.goto 157, 3) := by decide +kernel
theorem dX7_act_140 : decode cX7_act 140 = .ok (.aload_n 0, 1) := by decide +kernel
theorem dX7_act_141 : decode cX7_act 141 = .ok (.getfield 28, 3) := by decide +kernel
theorem dX7_act_144 : decode cX7_act 144 = .ok (.iload_n 3, 1) := by decide +kernel
theorem dX7_act_145 : decode cX7_act 145 = .ok (.aload_n 0, 1) := by decide +kernel
theorem dX7_act_146 : decode cX7_act 146 = .ok (.getfield 28, 3) := by decide +kernel
theorem dX7_act_149 : decode cX7_act 149 = .ok (.iload_n 3, 1) := by decide +kernel
theorem dX7_act_150 : decode cX7_act 150 = .ok (.iaload, 1) := by decide +kernel
theorem dX7_act_151 : decode cX7_act 151 = .ok (.iconst 1, 1) := by decide +kernel
theorem dX7_act_152 : decode cX7_act 152 = .ok (.iadd, 1) := by decide +kernel
theorem dX7_act_153 : decode cX7_act 153 = .ok (.ldc 147, 2) := by decide +kernel
theorem dX7_act_155 : decode cX7_act 155 = .ok (.irem, 1) := by decide +kernel
theorem dX7_act_156 : decode cX7_act 156 = .ok (.iastore, 1) := by decide +kernel
theorem dX7_act_157 : decode cX7_act 157 = .ok (.aload_n 0, 1) := by decide +kernel
theorem dX7_act_158 : decode cX7_act 158 = .ok (.getfield 58, 3) := by decide +kernel
theorem dX7_act_161 : decode cX7_act 161 = .ok (.iload_n 2, 1) := by decide +kernel
theorem dX7_act_162 : decode cX7_act 162 = .ok (.aload_n 0, 1) := by decide +kernel
theorem dX7_act_163 : decode cX7_act 163 = .ok (.getfield 28, 3) := by decide +kernel
theorem dX7_act_166 : decode cX7_act 166 = .ok (.iload_n 3, 1) := by decide +kernel
theorem dX7_act_167 : decode cX7_act 167 = .ok (.iaload, 1) := by decide +kernel
theorem dX7_act_168 : decode cX7_act 168 = .ok (.sipush 256, 3) := by decide +kernel
theorem dX7_act_171 : decode cX7_act 171 = .ok (.irem, 1) := by decide +kernel
theorem dX7_act_172 : decode cX7_act 172 = .ok (.iastore, 1) := by decide +kernel
theorem dX7_act_173 : decode cX7_act 173 = .ok (.goto 121, 3) := by decide +kernel
theorem dX7_act_176 : decode cX7_act 176 = .ok (.aload_n 0, 1) := by decide +kernel
theorem dX7_act_177 : decode cX7_act 177 = .ok (.getfield 58, 3) := by decide +kernel
theorem dX7_act_180 : decode cX7_act 180 = .ok (.iload_n 2, 1) := by decide +kernel
theorem dX7_act_181 : decode cX7_act 181 = .ok (.iaload, 1) := by decide +kernel
theorem dX7_act_182 : decode cX7_act 182 = .ok (.aload_n 0, 1) := by decide +kernel
theorem dX7_act_183 : decode cX7_act 183 = .ok (.getfield 28, 3) := by decide +kernel
theorem dX7_act_186 : decode cX7_act 186 = .ok (.iload_n 3, 1) := by decide +kernel
theorem dX7_act_187 : decode cX7_act 187 = .ok (.iaload, 1) := by decide +kernel
theorem dX7_act_188 : decode cX7_act 188 = .ok (.if_icmp .le 7, 3) := by decide +kernel
theorem dX7_act_191 : decode cX7_act 191 = .ok (.iconst 1, 1) := by decide +kernel
theorem dX7_act_192 : decode cX7_act 192 = .ok (.goto 4, 3) := by decide +kernel
theorem dX7_act_195 : decode cX7_act 195 = .ok (.iconst 0, 1) := by decide +kernel
theorem dX7_act_196 : decode cX7_act 196 = .ok (.istore 4, 2) := by decide +kernel
theorem dX7_act_198 : decode cX7_act 198 = .ok (.aload_n 0, 1) := by decide +kernel
theorem dX7_act_199 : decode cX7_act 199 = .ok (.getfield 28, 3) := by decide +kernel
theorem dX7_act_202 : decode cX7_act 202 = .ok (.iload_n 3, 1) := by decide +kernel
theorem dX7_act_203 : decode cX7_act 203 = .ok (.iload 4, 2) := by decide +kernel
theorem dX7_act_205 : decode cX7_act 205 = .ok (.ifCond .eq 12, 3) := by decide +kernel
theorem dX7_act_208 : decode cX7_act 208 = .ok (.aload_n 0, 1) := by decide +kernel
theorem dX7_act_209 : decode cX7_act 209 = .ok (.getfield 58, 3) := by decide +kernel
theorem dX7_act_212 : decode cX7_act 212 = .ok (.iload_n 2, 1) := by decide +kernel
theorem dX7_act_213 : decode cX7_act 213 = .ok (.iaload, 1) := by decide +kernel
theorem dX7_act_214 : decode cX7_act 214 = .ok (.goto 9, 3) := by decide +kernel
theorem dX7_act_217 : decode cX7_act 217 = .ok (.aload_n 0, 1) := by decide +kernel
theorem dX7_act_218 : decode cX7_act 218 = .ok (.getfield 28, 3) := by decide +kernel
theorem dX7_act_221 : decode cX7_act 221 = .ok (.iload_n 3, 1) := by decide +kernel
theorem dX7_act_222 : decode cX7_act 222 = .ok (.iaload, 1) := by decide +kernel
theorem dX7_act_223 : decode cX7_act 223 = .ok (.iastore, 1) := by decide +kernel
theorem dX7_act_224 : decode cX7_act 224 = .ok (.aload_n 0, 1) := by decide +kernel
theorem dX7_act_225 : decode cX7_act 225 = .ok (.getfield 58, 3) := by decide +kernel
theorem dX7_act_228 : decode cX7_act 228 = .ok (.iload_n 2, 1) := by decide +kernel
theorem dX7_act_229 : decode cX7_act 229 = .ok (.iload 4, 2) := by decide +kernel
theorem dX7_act_231 : decode cX7_act 231 = .ok (.ifCond .eq 7, 3) := by decide +kernel
theorem dX7_act_234 : decode cX7_act 234 = .ok (.iconst 1, 1) := by decide +kernel
theorem dX7_act_235 : decode cX7_act 235 = .ok (.goto 4, 3) := by decide +kernel
theorem dX7_act_238 : decode cX7_act 238 = .ok (.iconst 0, 1) := by decide +kernel
theorem dX7_act_239 : decode cX7_act 239 = .ok (.iastore, 1) := by decide +kernel
theorem dX7_act_240 : decode cX7_act 240 = .ok (.goto 54, 3) := by decide +kernel
theorem dX7_act_243 : decode cX7_act 243 = .ok (.aload_n 0, 1) := by decide +kernel
theorem dX7_act_244 : decode cX7_act 244 = .ok (.getfield 28, 3) := by decide +kernel
theorem dX7_act_247 : decode cX7_act 247 = .ok (.iload_n 3, 1) := by decide +kernel
theorem dX7_act_248 : decode cX7_act 248 = .ok (.iaload, 1) := by decide +kernel
theorem dX7_act_249 : decode cX7_act 249 = .ok (.istore 5, 2) := by decide +kernel
theorem dX7_act_251 : decode cX7_act 251 = .ok (.aload_n 0, 1) := by decide +kernel
theorem dX7_act_252 : decode cX7_act 252 = .ok (.getfield 28, 3) := by decide +kernel
theorem dX7_act_255 : decode cX7_act 255 = .ok (.iload_n 3, 1) := by decide +kernel
theorem dX7_act_256 : decode cX7_act 256 = .ok (.aload_n 0, 1) := by decide +kernel
theorem dX7_act_257 : decode cX7_act 257 = .ok (.getfield 58, 3) := by decide +kernel
theorem dX7_act_260 : decode cX7_act 260 = .ok (.iload_n 2, 1) := by decide +kernel
theorem dX7_act_261 : decode cX7_act 261 = .ok (.iaload, 1) := by decide +kernel
theorem dX7_act_262 : decode cX7_act 262 = .ok (.iastore, 1) := by decide +kernel
theorem dX7_act_263 : decode cX7_act 263 = .ok (.aload_n 0, 1) := by decide +kernel
theorem dX7_act_264 : decode cX7_act 264 = .ok (.getfield 58, 3) := by decide +kernel
theorem dX7_act_267 : decode cX7_act 267 = .ok (.iload_n 2, 1) := by decide +kernel
theorem dX7_act_268 : decode cX7_act 268 = .ok (.iload 5, 2) := by decide +kernel
theorem dX7_act_270 : decode cX7_act 270 = .ok (.sipush 256, 3) := by decide +kernel
theorem dX7_act_273 : decode cX7_act 273 = .ok (.irem, 1) := by decide +kernel
theorem dX7_act_274 : decode cX7_act 274 = .ok (.iastore, 1) := by decide +kernel
theorem dX7_act_275 : decode cX7_act 275 = .ok (.goto 19, 3) := by decide +kernel
theorem dX7_act_278 : decode cX7_act 278 = .ok (.aload_n 0, 1) := by decide +kernel
theorem dX7_act_279 : decode cX7_act 279 = .ok (.iconst 1, 1) := by decide +kernel
theorem dX7_act_280 : decode cX7_act 280 = .ok (.putfield 148, 3) := by decide +kernel
theorem dX7_act_283 : decode cX7_act 283 = .ok (.goto 11, 3) := by decide +kernel
theorem dX7_act_286 : decode cX7_act 286 = .ok (.aload_n 0, 1) := by decide +kernel
theorem dX7_act_287 : decode cX7_act 287 = .ok (.iconst 1, 1) := by decide +kernel
theorem dX7_act_288 : decode cX7_act 288 = .ok (.putfield 152, 3) := by decide +kernel
theorem dX7_act_291 : decode cX7_act 291 = .ok (.goto 3, 3) := by decide +kernel
theorem dX7_act_294 : decode cX7_act 294 = .ok (.return_, 1) := by decide +kernel
theorem dX7_round_0 : decode cX7_round 0 = .ok (.iconst 0, 1) := by decide +kernel
theorem dX7_round_1 : decode cX7_round 1 = .ok (.istore_n 1, 1) := by decide +kernel
theorem dX7_round_2 : decode cX7_round 2 = .ok (.iload_n 1, 1) := by decide +kernel
theorem dX7_round_3 : decode cX7_round 3 = .ok (.bipush 8, 2) := by decide +kernel
theorem dX7_round_5 : decode cX7_round 5 = .ok (.if_icmp .ge 25, 3) := by decide +kernel
theorem dX7_round_8 : decode cX7_round 8 = .ok (.aload_n 0, 1) := by decide +kernel
theorem dX7_round_9 : decode cX7_round 9 = .ok (.getfield 61, 3) := by decide +kernel
theorem dX7_round_12 : decode cX7_round 12 = .ok (.bipush 8, 2) := by decide +kernel
theorem dX7_round_14 : decode cX7_round 14 = .ok (.aload_n 0, 1) := by decide +kernel
theorem dX7_round_15 : decode cX7_round 15 = .ok (.getfield 155, 3) := by decide +kernel
theorem dX7_round_18 : decode cX7_round 18 = .ok (.imul, 1) := by decide +kernel
theorem dX7_round_19 : decode cX7_round 19 = .ok (.iload_n 1, 1) := by decide +kernel
theorem dX7_round_20 : decode cX7_round 20 = .ok (.iadd, 1) := by decide +kernel
theorem dX7_round_21 : decode cX7_round 21 = .ok (.bipush (-6), 2) := by decide +kernel
theorem dX7_round_23 : decode cX7_round 23 = .ok (.iastore, 1) := by decide +kernel
theorem dX7_round_24 : decode cX7_round 24 = .ok (.iinc 1 1, 3) := by decide +kernel
theorem dX7_round_27 : decode cX7_round 27 = .ok (.goto (-25), 3) := by decide +kernel
theorem dX7_round_30 : decode cX7_round 30 = .ok (.iconst 0, 1) := by decide +kernel
theorem dX7_round_31 : decode cX7_round 31 = .ok (.istore_n 1, 1) := by decide +kernel
theorem dX7_round_32 : decode cX7_round 32 = .ok (.iload_n 1, 1) := by decide +kernel
theorem dX7_round_33 : decode cX7_round 33 = .ok (.aload_n 0, 1) := by decide +kernel
theorem dX7_round_34 : decode cX7_round 34 = .ok (.getfield 71, 3) := by decide +kernel
theorem dX7_round_37 : decode cX7_round 37 = .ok (.if_icmp .ge 66, 3) := by decide +kernel
theorem dX7_round_40 : decode cX7_round 40 = .ok (.aload_n 0, 1) := by decide +kernel
theorem dX7_round_41 : decode cX7_round 41 = .ok (.iload_n 1, 1) := by decide +kernel
theorem dX7_round_42 : decode cX7_round 42 = .ok (.aload_n 0, 1) := by decide +kernel
theorem dX7_round_43 : decode cX7_round 43 = .ok (.getfield 58, 3) := by decide +kernel
theorem dX7_round_46 : decode cX7_round 46 = .ok (.aload_n 0, 1) := by decide +kernel
theorem dX7_round_47 : decode cX7_round 47 = .ok (.getfield 7, 3) := by decide +kernel
theorem dX7_round_50 : decode cX7_round 50 = .ok (.iload_n 1, 1) := by decide +kernel
theorem dX7_round_51 : decode cX7_round 51 = .ok (.iaload, 1) := by decide +kernel
theorem dX7_round_52 : decode cX7_round 52 = .ok (.iaload, 1) := by decide +kernel
theorem dX7_round_53 : decode cX7_round 53 = .ok (.invokevirtual 107, 3) := by decide +kernel
theorem dX7_round_56 : decode cX7_round 56 = .ok (.istore_n 2, 1) := by decide +kernel
theorem dX7_round_57 : decode cX7_round 57 = .ok (.aload_n 0, 1) := by decide +kernel
theorem dX7_round_58 : decode cX7_round 58 = .ok (.getfield 61, 3) := by decide +kernel
theorem dX7_round_61 : decode cX7_round 61 = .ok (.bipush 8, 2) := by decide +kernel
theorem dX7_round_63 : decode cX7_round 63 = .ok (.aload_n 0, 1) := by decide +kernel
theorem dX7_round_64 : decode cX7_round 64 = .ok (.getfield 155, 3) := by decide +kernel
theorem dX7_round_67 : decode cX7_round 67 = .ok (.imul, 1) := by decide +kernel
theorem dX7_round_68 : decode cX7_round 68 = .ok (.iload_n 1, 1) := by decide +kernel
theorem dX7_round_69 : decode cX7_round 69 = .ok (.iadd, 1) := by decide +kernel
theorem dX7_round_70 : decode cX7_round 70 = .ok (.iload_n 2, 1) := by decide +kernel
theorem dX7_round_71 : decode cX7_round 71 = .ok (.ifCond .ge 7, 3) := by decide +kernel
theorem dX7_round_74 : decode cX7_round 74 = .ok (.iconst 4, 1) := by decide +kernel
theorem dX7_round_75 : decode cX7_round 75 = .ok (.goto 4, 3) := by decide +kernel
theorem dX7_round_78 : decode cX7_round 78 = .ok (.iload_n 2, 1) := by decide +kernel
theorem dX7_round_79 : decode cX7_round 79 = .ok (.iastore, 1) := by decide +kernel
theorem dX7_round_80 : decode cX7_round 80 = .ok (.aload_n 0, 1) := by decide +kernel
theorem dX7_round_81 : decode cX7_round 81 = .ok (.iconst 5, 1) := by decide +kernel
theorem dX7_round_82 : decode cX7_round 82 = .ok (.iload_n 1, 1) := by decide +kernel
theorem dX7_round_83 : decode cX7_round 83 = .ok (.imul, 1) := by decide +kernel
theorem dX7_round_84 : decode cX7_round 84 = .ok (.iload_n 2, 1) := by decide +kernel
theorem dX7_round_85 : decode cX7_round 85 = .ok (.ifCond .ge 7, 3) := by decide +kernel
theorem dX7_round_88 : decode cX7_round 88 = .ok (.iconst 4, 1) := by decide +kernel
theorem dX7_round_89 : decode cX7_round 89 = .ok (.goto 4, 3) := by decide +kernel
theorem dX7_round_92 : decode cX7_round 92 = .ok (.iload_n 2, 1) := by decide +kernel
theorem dX7_round_93 : decode cX7_round 93 = .ok (.iadd, 1) := by decide +kernel
theorem dX7_round_94 : decode cX7_round 94 = .ok (.invokevirtual 158, 3) := by decide +kernel
theorem dX7_round_97 : decode cX7_round 97 = .ok (.iinc 1 1, 3) := by decide +kernel
theorem dX7_round_100 : decode cX7_round 100 = .ok (.goto (-68), 3) := by decide +kernel
theorem dX7_round_103 : decode cX7_round 103 = .ok (.aload_n 0, 1) := by decide +kernel
theorem dX7_round_104 : decode cX7_round 104 = .ok (.dup, 1) := by decide +kernel
theorem dX7_round_105 : decode cX7_round 105 = .ok (.getfield 155, 3) := by decide +kernel
theorem dX7_round_108 : decode cX7_round 108 = .ok (.iconst 1, 1) := by decide +kernel
theorem dX7_round_109 : decode cX7_round 109 = .ok (.iadd, 1) := by decide +kernel
theorem dX7_round_110 : decode cX7_round 110 = .ok (.putfield 155, 3) := by decide +kernel
theorem dX7_round_113 : decode cX7_round 113 = .ok (.aload_n 0, 1) := by decide +kernel
theorem dX7_round_114 : decode cX7_round 114 = .ok (.dup, 1) := by decide +kernel
theorem dX7_round_115 : decode cX7_round 115 = .ok (.getfield 162, 3) := by decide +kernel
theorem dX7_round_118 : decode cX7_round 118 = .ok (.iconst 1, 1) := by decide +kernel
theorem dX7_round_119 : decode cX7_round 119 = .ok (.iadd, 1) := by decide +kernel
theorem dX7_round_120 : decode cX7_round 120 = .ok (.putfield 162, 3) := by decide +kernel
theorem dX7_round_123 : decode cX7_round 123 = .ok (.return_, 1) := by decide +kernel
theorem dX7_run_0 : decode cX7_run 0 = .ok (.aload_n 0, 1) := by decide +kernel
theorem dX7_run_1 : decode cX7_run 1 = .ok (.invokevirtual 136, 3) := by decide +kernel
theorem dX7_run_4 : decode cX7_run 4 = .ok (.ifCond .ne 6, 3) := by decide +kernel
theorem dX7_run_7 : decode cX7_run 7 = .ok (.bipush (-3), 2) := by decide +kernel
theorem dX7_run_9 : decode cX7_run 9 = .ok (.ireturn, 1) := by decide +kernel
theorem dX7_run_10 : decode cX7_run 10 = .ok (.iconst 0, 1) := by decide +kernel
theorem dX7_run_11 : decode cX7_run 11 = .ok (.istore_n 1, 1) := by decide +kernel
theorem dX7_run_12 : decode cX7_run 12 = .ok (.iload_n 1, 1) := by decide +kernel
theorem dX7_run_13 : decode cX7_run 13 = .ok (.bipush 6, 2) := by decide +kernel
theorem dX7_run_15 : decode cX7_run 15 = .ok (.if_icmp .ge 21, 3) := by decide +kernel
theorem dX7_run_18 : decode cX7_run 18 = .ok (.aload_n 0, 1) := by decide +kernel
theorem dX7_run_19 : decode cX7_run 19 = .ok (.getfield 58, 3) := by decide +kernel
theorem dX7_run_22 : decode cX7_run 22 = .ok (.iload_n 1, 1) := by decide +kernel
theorem dX7_run_23 : decode cX7_run 23 = .ok (.aload_n 0, 1) := by decide +kernel
theorem dX7_run_24 : decode cX7_run 24 = .ok (.getfield 31, 3) := by decide +kernel
theorem dX7_run_27 : decode cX7_run 27 = .ok (.iload_n 1, 1) := by decide +kernel
theorem dX7_run_28 : decode cX7_run 28 = .ok (.iaload, 1) := by decide +kernel
theorem dX7_run_29 : decode cX7_run 29 = .ok (.iastore, 1) := by decide +kernel
theorem dX7_run_30 : decode cX7_run 30 = .ok (.iinc 1 1, 3) := by decide +kernel
theorem dX7_run_33 : decode cX7_run 33 = .ok (.goto (-21), 3) := by decide +kernel
theorem dX7_run_36 : decode cX7_run 36 = .ok (.aload_n 0, 1) := by decide +kernel
theorem dX7_run_37 : decode cX7_run 37 = .ok (.iconst 0, 1) := by decide +kernel
theorem dX7_run_38 : decode cX7_run 38 = .ok (.putfield 148, 3) := by decide +kernel
theorem dX7_run_41 : decode cX7_run 41 = .ok (.aload_n 0, 1) := by decide +kernel
theorem dX7_run_42 : decode cX7_run 42 = .ok (.iconst 1, 1) := by decide +kernel
theorem dX7_run_43 : decode cX7_run 43 = .ok (.putfield 152, 3) := by decide +kernel
theorem dX7_run_46 : decode cX7_run 46 = .ok (.aload_n 0, 1) := by decide +kernel
theorem dX7_run_47 : decode cX7_run 47 = .ok (.iconst 0, 1) := by decide +kernel
theorem dX7_run_48 : decode cX7_run 48 = .ok (.putfield 155, 3) := by decide +kernel
theorem dX7_run_51 : decode cX7_run 51 = .ok (.aload_n 0, 1) := by decide +kernel
theorem dX7_run_52 : decode cX7_run 52 = .ok (.getfield 152, 3) := by decide +kernel
theorem dX7_run_55 : decode cX7_run 55 = .ok (.ifCond .eq 35, 3) := by decide +kernel
theorem dX7_run_58 : decode cX7_run 58 = .ok (.aload_n 0, 1) := by decide +kernel
theorem dX7_run_59 : decode cX7_run 59 = .ok (.getfield 148, 3) := by decide +kernel
theorem dX7_run_62 : decode cX7_run 62 = .ok (.ifCond .ne 28, 3) := by decide +kernel
theorem dX7_run_65 : decode cX7_run 65 = .ok (.aload_n 0, 1) := by decide +kernel
theorem dX7_run_66 : decode cX7_run 66 = .ok (.getfield 155, 3) := by decide +kernel
theorem dX7_run_69 : decode cX7_run 69 = .ok (.aload_n 0, 1) := by decide +kernel
theorem dX7_run_70 : decode cX7_run 70 = .ok (.getfield 34, 3) := by decide +kernel
theorem dX7_run_73 : decode cX7_run 73 = .ok (.iconst 3, 1) := by decide +kernel
theorem dX7_run_74 : decode cX7_run 74 = .ok (.iaload, 1) := by decide +kernel
theorem dX7_run_75 : decode cX7_run 75 = .ok (.if_icmp .ge 15, 3) := by decide +kernel
theorem dX7_run_78 : decode cX7_run 78 = .ok (.aload_n 0, 1) := by decide +kernel
theorem dX7_run_79 : decode cX7_run 79 = .ok (.iconst 0, 1) := by decide +kernel
theorem dX7_run_80 : decode cX7_run 80 = .ok (.putfield 152, 3) := by decide +kernel
theorem dX7_run_83 : decode cX7_run 83 = .ok (.aload_n 0, 1) := by decide +kernel
theorem dX7_run_84 : decode cX7_run 84 = .ok (.invokevirtual 165, 3) := by decide +kernel
theorem dX7_run_87 : decode cX7_run 87 = .ok (.goto (-36), 3) := by decide +kernel
theorem dX7_run_90 : decode cX7_run 90 = .ok (.aload_n 0, 1) := by decide +kernel
theorem dX7_run_91 : decode cX7_run 91 = .ok (.dup, 1) := by decide +kernel
theorem dX7_run_92 : decode cX7_run 92 = .ok (.getfield 168, 3) := by decide +kernel
theorem dX7_run_95 : decode cX7_run 95 = .ok (.iconst 1, 1) := by decide +kernel
theorem dX7_run_96 : decode cX7_run 96 = .ok (.iadd, 1) := by decide +kernel
theorem dX7_run_97 : decode cX7_run 97 = .ok (.putfield 168, 3) := by decide +kernel
theorem dX7_run_100 : decode cX7_run 100 = .ok (.aload_n 0, 1) := by decide +kernel
theorem dX7_run_101 : decode cX7_run 101 = .ok (.dup, 1) := by decide +kernel
theorem dX7_run_102 : decode cX7_run 102 = .ok (.getfield 171, 3) := by decide +kernel
theorem dX7_run_105 : decode cX7_run 105 = .ok (.aload_n 0, 1) := by decide +kernel
theorem dX7_run_106 : decode cX7_run 106 = .ok (.getfield 148, 3) := by decide +kernel
theorem dX7_run_109 : decode cX7_run 109 = .ok (.ifCond .eq 7, 3) := by decide +kernel
theorem dX7_run_112 : decode cX7_run 112 = .ok (.iconst 1, 1) := by decide +kernel
theorem dX7_run_113 : decode cX7_run 113 = .ok (.goto 4, 3) := by decide +kernel
theorem dX7_run_116 : decode cX7_run 116 = .ok (.iconst 0, 1) := by decide +kernel
theorem dX7_run_117 : decode cX7_run 117 = .ok (.iadd, 1) := by decide +kernel
theorem dX7_run_118 : decode cX7_run 118 = .ok (.putfield 171, 3) := by decide +kernel
theorem dX7_run_121 : decode cX7_run 121 = .ok (.aload_n 0, 1) := by decide +kernel
theorem dX7_run_122 : decode cX7_run 122 = .ok (.getfield 148, 3) := by decide +kernel
theorem dX7_run_125 : decode cX7_run 125 = .ok (.ifCond .eq 7, 3) := by decide +kernel
theorem dX7_run_128 : decode cX7_run 128 = .ok (.iconst 1, 1) := by decide +kernel
theorem dX7_run_129 : decode cX7_run 129 = .ok (.goto 15, 3) := by decide +kernel
theorem dX7_run_132 : decode cX7_run 132 = .ok (.aload_n 0, 1) := by decide +kernel
theorem dX7_run_133 : decode cX7_run 133 = .ok (.getfield 152, 3) := by decide +kernel
theorem dX7_run_136 : decode cX7_run 136 = .ok (.ifCond .eq 7, 3) := by decide +kernel
theorem dX7_run_139 : decode cX7_run 139 = .ok (.iconst 2, 1) := by decide +kernel
theorem dX7_run_140 : decode cX7_run 140 = .ok (.goto 4, 3) := by decide +kernel
theorem dX7_run_143 : decode cX7_run 143 = .ok (.iconst 0, 1) := by decide +kernel
theorem dX7_run_144 : decode cX7_run 144 = .ok (.ireturn, 1) := by decide +kernel
theorem dX7_out_0 : decode cX7_out 0 = .ok (.iload_n 1, 1) := by decide +kernel
theorem dX7_out_1 : decode cX7_out 1 = .ok (.iconst 0, 1) := by decide +kernel
theorem dX7_out_2 : decode cX7_out 2 = .ok (.bipush 6, 2) := by decide +kernel
theorem dX7_out_4 : decode cX7_out 4 = .ok (.invokestatic 75, 3) := by decide +kernel
theorem dX7_out_7 : decode cX7_out 7 = .ok (.ifCond .ne 6, 3) := by decide +kernel
theorem dX7_out_10 : decode cX7_out 10 = .ok (.bipush (-2), 2) := by decide +kernel
theorem dX7_out_12 : decode cX7_out 12 = .ok (.ireturn, 1) := by decide +kernel
theorem dX7_out_13 : decode cX7_out 13 = .ok (.aload_n 0, 1) := by decide +kernel
theorem dX7_out_14 : decode cX7_out 14 = .ok (.getfield 168, 3) := by decide +kernel
theorem dX7_out_17 : decode cX7_out 17 = .ok (.ifCond .ne 8, 3) := by decide +kernel
theorem dX7_out_20 : decode cX7_out 20 = .ok (.bipush (-6), 2) := by decide +kernel
theorem dX7_out_22 : decode cX7_out 22 = .ok (.goto 22, 3) := by decide +kernel
theorem dX7_out_25 : decode cX7_out 25 = .ok (.iload_n 1, 1) := by decide +kernel
theorem dX7_out_26 : decode cX7_out 26 = .ok (.bipush 6, 2) := by decide +kernel
theorem dX7_out_28 : decode cX7_out 28 = .ok (.if_icmp .ne 10, 3) := by decide +kernel
theorem dX7_out_31 : decode cX7_out 31 = .ok (.aload_n 0, 1) := by decide +kernel
theorem dX7_out_32 : decode cX7_out 32 = .ok (.getfield 155, 3) := by decide +kernel
theorem dX7_out_35 : decode cX7_out 35 = .ok (.goto 9, 3) := by decide +kernel
theorem dX7_out_38 : decode cX7_out 38 = .ok (.aload_n 0, 1) := by decide +kernel
theorem dX7_out_39 : decode cX7_out 39 = .ok (.getfield 58, 3) := by decide +kernel
theorem dX7_out_42 : decode cX7_out 42 = .ok (.iload_n 1, 1) := by decide +kernel
theorem dX7_out_43 : decode cX7_out 43 = .ok (.iaload, 1) := by decide +kernel
theorem dX7_out_44 : decode cX7_out 44 = .ok (.ireturn, 1) := by decide +kernel
theorem dX7_took_0 : decode cX7_took 0 = .ok (.iload_n 1, 1) := by decide +kernel
theorem dX7_took_1 : decode cX7_took 1 = .ok (.iconst 0, 1) := by decide +kernel
theorem dX7_took_2 : decode cX7_took 2 = .ok (.bipush 7, 2) := by decide +kernel
theorem dX7_took_4 : decode cX7_took 4 = .ok (.invokestatic 75, 3) := by decide +kernel
theorem dX7_took_7 : decode cX7_took 7 = .ok (.ifCond .eq 12, 3) := by decide +kernel
theorem dX7_took_10 : decode cX7_took 10 = .ok (.iload_n 2, 1) := by decide +kernel
theorem dX7_took_11 : decode cX7_took 11 = .ok (.iconst 0, 1) := by decide +kernel
theorem dX7_took_12 : decode cX7_took 12 = .ok (.iconst 3, 1) := by decide +kernel
theorem dX7_took_13 : decode cX7_took 13 = .ok (.invokestatic 75, 3) := by decide +kernel
theorem dX7_took_16 : decode cX7_took 16 = .ok (.ifCond .ne 6, 3) := by decide +kernel
theorem dX7_took_19 : decode cX7_took 19 = .ok (.bipush (-2), 2) := by decide +kernel
theorem dX7_took_21 : decode cX7_took 21 = .ok (.ireturn, 1) := by decide +kernel
theorem dX7_took_22 : decode cX7_took 22 = .ok (.iload_n 2, 1) := by decide +kernel
theorem dX7_took_23 : decode cX7_took 23 = .ok (.aload_n 0, 1) := by decide +kernel
theorem dX7_took_24 : decode cX7_took 24 = .ok (.getfield 155, 3) := by decide +kernel
theorem dX7_took_27 : decode cX7_took 27 = .ok (.if_icmp .ge 17, 3) := by decide +kernel
theorem dX7_took_30 : decode cX7_took 30 = .ok (.aload_n 0, 1) := by decide +kernel
theorem dX7_took_31 : decode cX7_took 31 = .ok (.getfield 61, 3) := by decide +kernel
theorem dX7_took_34 : decode cX7_took 34 = .ok (.bipush 8, 2) := by decide +kernel
theorem dX7_took_36 : decode cX7_took 36 = .ok (.iload_n 2, 1) := by decide +kernel
theorem dX7_took_37 : decode cX7_took 37 = .ok (.imul, 1) := by decide +kernel
theorem dX7_took_38 : decode cX7_took 38 = .ok (.iload_n 1, 1) := by decide +kernel
theorem dX7_took_39 : decode cX7_took 39 = .ok (.iadd, 1) := by decide +kernel
theorem dX7_took_40 : decode cX7_took 40 = .ok (.iaload, 1) := by decide +kernel
theorem dX7_took_41 : decode cX7_took 41 = .ok (.goto 5, 3) := by decide +kernel
theorem dX7_took_44 : decode cX7_took 44 = .ok (.bipush (-6), 2) := by decide +kernel
theorem dX7_took_46 : decode cX7_took 46 = .ok (.ireturn, 1) := by decide +kernel
theorem dX7_image_0 : decode cX7_image 0 = .ok (.iload_n 1, 1) := by decide +kernel
theorem dX7_image_1 : decode cX7_image 1 = .ok (.iconst 0, 1) := by decide +kernel
theorem dX7_image_2 : decode cX7_image 2 = .ok (.iconst 1, 1) := by decide +kernel
theorem dX7_image_3 : decode cX7_image 3 = .ok (.invokestatic 75, 3) := by decide +kernel
theorem dX7_image_6 : decode cX7_image 6 = .ok (.ifCond .ne 6, 3) := by decide +kernel
theorem dX7_image_9 : decode cX7_image 9 = .ok (.bipush (-2), 2) := by decide +kernel
theorem dX7_image_11 : decode cX7_image 11 = .ok (.ireturn, 1) := by decide +kernel
theorem dX7_image_12 : decode cX7_image 12 = .ok (.sipush 191, 3) := by decide +kernel
theorem dX7_image_15 : decode cX7_image 15 = .ok (.iload_n 1, 1) := by decide +kernel
theorem dX7_image_16 : decode cX7_image 16 = .ok (.imul, 1) := by decide +kernel
theorem dX7_image_17 : decode cX7_image 17 = .ok (.istore_n 2, 1) := by decide +kernel
theorem dX7_image_18 : decode cX7_image 18 = .ok (.iconst 0, 1) := by decide +kernel
theorem dX7_image_19 : decode cX7_image 19 = .ok (.istore_n 3, 1) := by decide +kernel
theorem dX7_image_20 : decode cX7_image 20 = .ok (.iload_n 3, 1) := by decide +kernel
theorem dX7_image_21 : decode cX7_image 21 = .ok (.bipush 8, 2) := by decide +kernel
theorem dX7_image_23 : decode cX7_image 23 = .ok (.if_icmp .ge 40, 3) := by decide +kernel
theorem dX7_image_26 : decode cX7_image 26 = .ok (.aload_n 0, 1) := by decide +kernel
theorem dX7_image_27 : decode cX7_image 27 = .ok (.getfield 64, 3) := by decide +kernel
theorem dX7_image_30 : decode cX7_image 30 = .ok (.iload_n 2, 1) := by decide +kernel
theorem dX7_image_31 : decode cX7_image 31 = .ok (.iload_n 3, 1) := by decide +kernel
theorem dX7_image_32 : decode cX7_image 32 = .ok (.iadd, 1) := by decide +kernel
theorem dX7_image_33 : decode cX7_image 33 = .ok (.aload_n 0, 1) := by decide +kernel
theorem dX7_image_34 : decode cX7_image 34 = .ok (.getfield 7, 3) := by decide +kernel
theorem dX7_image_37 : decode cX7_image 37 = .ok (.iload_n 3, 1) := by decide +kernel
theorem dX7_image_38 : decode cX7_image 38 = .ok (.iaload, 1) := by decide +kernel
theorem dX7_image_39 : decode cX7_image 39 = .ok (.iastore, 1) := by decide +kernel
theorem dX7_image_40 : decode cX7_image 40 = .ok (.aload_n 0, 1) := by decide +kernel
theorem dX7_image_41 : decode cX7_image 41 = .ok (.getfield 64, 3) := by decide +kernel
theorem dX7_image_44 : decode cX7_image 44 = .ok (.iload_n 2, 1) := by decide +kernel
theorem dX7_image_45 : decode cX7_image 45 = .ok (.bipush 8, 2) := by decide +kernel
theorem dX7_image_47 : decode cX7_image 47 = .ok (.iadd, 1) := by decide +kernel
theorem dX7_image_48 : decode cX7_image 48 = .ok (.iload_n 3, 1) := by decide +kernel
theorem dX7_image_49 : decode cX7_image 49 = .ok (.iadd, 1) := by decide +kernel
theorem dX7_image_50 : decode cX7_image 50 = .ok (.aload_n 0, 1) := by decide +kernel
theorem dX7_image_51 : decode cX7_image 51 = .ok (.getfield 13, 3) := by decide +kernel
theorem dX7_image_54 : decode cX7_image 54 = .ok (.iload_n 3, 1) := by decide +kernel
theorem dX7_image_55 : decode cX7_image 55 = .ok (.iaload, 1) := by decide +kernel
theorem dX7_image_56 : decode cX7_image 56 = .ok (.iastore, 1) := by decide +kernel
theorem dX7_image_57 : decode cX7_image 57 = .ok (.iinc 3 1, 3) := by decide +kernel
theorem dX7_image_60 : decode cX7_image 60 = .ok (.goto (-40), 3) := by decide +kernel
theorem dX7_image_63 : decode cX7_image 63 = .ok (.iconst 0, 1) := by decide +kernel
theorem dX7_image_64 : decode cX7_image 64 = .ok (.istore_n 3, 1) := by decide +kernel
theorem dX7_image_65 : decode cX7_image 65 = .ok (.iload_n 3, 1) := by decide +kernel
theorem dX7_image_66 : decode cX7_image 66 = .ok (.bipush 40, 2) := by decide +kernel
theorem dX7_image_68 : decode cX7_image 68 = .ok (.if_icmp .ge 78, 3) := by decide +kernel
theorem dX7_image_71 : decode cX7_image 71 = .ok (.aload_n 0, 1) := by decide +kernel
theorem dX7_image_72 : decode cX7_image 72 = .ok (.getfield 64, 3) := by decide +kernel
theorem dX7_image_75 : decode cX7_image 75 = .ok (.iload_n 2, 1) := by decide +kernel
theorem dX7_image_76 : decode cX7_image 76 = .ok (.bipush 16, 2) := by decide +kernel
theorem dX7_image_78 : decode cX7_image 78 = .ok (.iadd, 1) := by decide +kernel
theorem dX7_image_79 : decode cX7_image 79 = .ok (.iload_n 3, 1) := by decide +kernel
theorem dX7_image_80 : decode cX7_image 80 = .ok (.iadd, 1) := by decide +kernel
theorem dX7_image_81 : decode cX7_image 81 = .ok (.aload_n 0, 1) := by decide +kernel
theorem dX7_image_82 : decode cX7_image 82 = .ok (.getfield 16, 3) := by decide +kernel
theorem dX7_image_85 : decode cX7_image 85 = .ok (.iload_n 3, 1) := by decide +kernel
theorem dX7_image_86 : decode cX7_image 86 = .ok (.iaload, 1) := by decide +kernel
theorem dX7_image_87 : decode cX7_image 87 = .ok (.iastore, 1) := by decide +kernel
theorem dX7_image_88 : decode cX7_image 88 = .ok (.aload_n 0, 1) := by decide +kernel
theorem dX7_image_89 : decode cX7_image 89 = .ok (.getfield 64, 3) := by decide +kernel
theorem dX7_image_92 : decode cX7_image 92 = .ok (.iload_n 2, 1) := by decide +kernel
theorem dX7_image_93 : decode cX7_image 93 = .ok (.bipush 56, 2) := by decide +kernel
theorem dX7_image_95 : decode cX7_image 95 = .ok (.iadd, 1) := by decide +kernel
theorem dX7_image_96 : decode cX7_image 96 = .ok (.iload_n 3, 1) := by decide +kernel
theorem dX7_image_97 : decode cX7_image 97 = .ok (.iadd, 1) := by decide +kernel
theorem dX7_image_98 : decode cX7_image 98 = .ok (.aload_n 0, 1) := by decide +kernel
theorem dX7_image_99 : decode cX7_image 99 = .ok (.getfield 19, 3) := by decide +kernel
theorem dX7_image_102 : decode cX7_image 102 = .ok (.iload_n 3, 1) := by decide +kernel
theorem dX7_image_103 : decode cX7_image 103 = .ok (.iaload, 1) := by decide +kernel
theorem dX7_image_104 : decode cX7_image 104 = .ok (.iastore, 1) := by decide +kernel
theorem dX7_image_105 : decode cX7_image 105 = .ok (.aload_n 0, 1) := by decide +kernel
theorem dX7_image_106 : decode cX7_image 106 = .ok (.getfield 64, 3) := by decide +kernel
theorem dX7_image_109 : decode cX7_image 109 = .ok (.iload_n 2, 1) := by decide +kernel
theorem dX7_image_110 : decode cX7_image 110 = .ok (.bipush 96, 2) := by decide +kernel
theorem dX7_image_112 : decode cX7_image 112 = .ok (.iadd, 1) := by decide +kernel
theorem dX7_image_113 : decode cX7_image 113 = .ok (.iload_n 3, 1) := by decide +kernel
theorem dX7_image_114 : decode cX7_image 114 = .ok (.iadd, 1) := by decide +kernel
theorem dX7_image_115 : decode cX7_image 115 = .ok (.aload_n 0, 1) := by decide +kernel
theorem dX7_image_116 : decode cX7_image 116 = .ok (.getfield 22, 3) := by decide +kernel
theorem dX7_image_119 : decode cX7_image 119 = .ok (.iload_n 3, 1) := by decide +kernel
theorem dX7_image_120 : decode cX7_image 120 = .ok (.iaload, 1) := by decide +kernel
theorem dX7_image_121 : decode cX7_image 121 = .ok (.iastore, 1) := by decide +kernel
theorem dX7_image_122 : decode cX7_image 122 = .ok (.aload_n 0, 1) := by decide +kernel
theorem dX7_image_123 : decode cX7_image 123 = .ok (.getfield 64, 3) := by decide +kernel
theorem dX7_image_126 : decode cX7_image 126 = .ok (.iload_n 2, 1) := by decide +kernel
theorem dX7_image_127 : decode cX7_image 127 = .ok (.sipush 136, 3) := by decide +kernel
theorem dX7_image_130 : decode cX7_image 130 = .ok (.iadd, 1) := by decide +kernel
theorem dX7_image_131 : decode cX7_image 131 = .ok (.iload_n 3, 1) := by decide +kernel
theorem dX7_image_132 : decode cX7_image 132 = .ok (.iadd, 1) := by decide +kernel
theorem dX7_image_133 : decode cX7_image 133 = .ok (.aload_n 0, 1) := by decide +kernel
theorem dX7_image_134 : decode cX7_image 134 = .ok (.getfield 25, 3) := by decide +kernel
theorem dX7_image_137 : decode cX7_image 137 = .ok (.iload_n 3, 1) := by decide +kernel
theorem dX7_image_138 : decode cX7_image 138 = .ok (.iaload, 1) := by decide +kernel
theorem dX7_image_139 : decode cX7_image 139 = .ok (.iastore, 1) := by decide +kernel
theorem dX7_image_140 : decode cX7_image 140 = .ok (.iinc 3 1, 3) := by decide +kernel
theorem dX7_image_143 : decode cX7_image 143 = .ok (.goto (-78), 3) := by decide +kernel
theorem dX7_image_146 : decode cX7_image 146 = .ok (.iconst 0, 1) := by decide +kernel
theorem dX7_image_147 : decode cX7_image 147 = .ok (.istore_n 3, 1) := by decide +kernel
theorem dX7_image_148 : decode cX7_image 148 = .ok (.iload_n 3, 1) := by decide +kernel
theorem dX7_image_149 : decode cX7_image 149 = .ok (.iconst 4, 1) := by decide +kernel
theorem dX7_image_150 : decode cX7_image 150 = .ok (.if_icmp .ge 45, 3) := by decide +kernel
theorem dX7_image_153 : decode cX7_image 153 = .ok (.aload_n 0, 1) := by decide +kernel
theorem dX7_image_154 : decode cX7_image 154 = .ok (.getfield 64, 3) := by decide +kernel
theorem dX7_image_157 : decode cX7_image 157 = .ok (.iload_n 2, 1) := by decide +kernel
theorem dX7_image_158 : decode cX7_image 158 = .ok (.sipush 176, 3) := by decide +kernel
theorem dX7_image_161 : decode cX7_image 161 = .ok (.iadd, 1) := by decide +kernel
theorem dX7_image_162 : decode cX7_image 162 = .ok (.iload_n 3, 1) := by decide +kernel
theorem dX7_image_163 : decode cX7_image 163 = .ok (.iadd, 1) := by decide +kernel
theorem dX7_image_164 : decode cX7_image 164 = .ok (.aload_n 0, 1) := by decide +kernel
theorem dX7_image_165 : decode cX7_image 165 = .ok (.getfield 28, 3) := by decide +kernel
theorem dX7_image_168 : decode cX7_image 168 = .ok (.iload_n 3, 1) := by decide +kernel
theorem dX7_image_169 : decode cX7_image 169 = .ok (.iaload, 1) := by decide +kernel
theorem dX7_image_170 : decode cX7_image 170 = .ok (.iastore, 1) := by decide +kernel
theorem dX7_image_171 : decode cX7_image 171 = .ok (.aload_n 0, 1) := by decide +kernel
theorem dX7_image_172 : decode cX7_image 172 = .ok (.getfield 64, 3) := by decide +kernel
theorem dX7_image_175 : decode cX7_image 175 = .ok (.iload_n 2, 1) := by decide +kernel
theorem dX7_image_176 : decode cX7_image 176 = .ok (.sipush 180, 3) := by decide +kernel
theorem dX7_image_179 : decode cX7_image 179 = .ok (.iadd, 1) := by decide +kernel
theorem dX7_image_180 : decode cX7_image 180 = .ok (.iload_n 3, 1) := by decide +kernel
theorem dX7_image_181 : decode cX7_image 181 = .ok (.iadd, 1) := by decide +kernel
theorem dX7_image_182 : decode cX7_image 182 = .ok (.aload_n 0, 1) := by decide +kernel
theorem dX7_image_183 : decode cX7_image 183 = .ok (.getfield 34, 3) := by decide +kernel
theorem dX7_image_186 : decode cX7_image 186 = .ok (.iload_n 3, 1) := by decide +kernel
theorem dX7_image_187 : decode cX7_image 187 = .ok (.iaload, 1) := by decide +kernel
theorem dX7_image_188 : decode cX7_image 188 = .ok (.iastore, 1) := by decide +kernel
theorem dX7_image_189 : decode cX7_image 189 = .ok (.iinc 3 1, 3) := by decide +kernel
theorem dX7_image_192 : decode cX7_image 192 = .ok (.goto (-44), 3) := by decide +kernel
theorem dX7_image_195 : decode cX7_image 195 = .ok (.iconst 0, 1) := by decide +kernel
theorem dX7_image_196 : decode cX7_image 196 = .ok (.istore_n 3, 1) := by decide +kernel
theorem dX7_image_197 : decode cX7_image 197 = .ok (.iload_n 3, 1) := by decide +kernel
theorem dX7_image_198 : decode cX7_image 198 = .ok (.bipush 6, 2) := by decide +kernel
theorem dX7_image_200 : decode cX7_image 200 = .ok (.if_icmp .ge 27, 3) := by decide +kernel
theorem dX7_image_203 : decode cX7_image 203 = .ok (.aload_n 0, 1) := by decide +kernel
theorem dX7_image_204 : decode cX7_image 204 = .ok (.getfield 64, 3) := by decide +kernel
theorem dX7_image_207 : decode cX7_image 207 = .ok (.iload_n 2, 1) := by decide +kernel
theorem dX7_image_208 : decode cX7_image 208 = .ok (.sipush 184, 3) := by decide +kernel
theorem dX7_image_211 : decode cX7_image 211 = .ok (.iadd, 1) := by decide +kernel
theorem dX7_image_212 : decode cX7_image 212 = .ok (.iload_n 3, 1) := by decide +kernel
theorem dX7_image_213 : decode cX7_image 213 = .ok (.iadd, 1) := by decide +kernel
theorem dX7_image_214 : decode cX7_image 214 = .ok (.aload_n 0, 1) := by decide +kernel
theorem dX7_image_215 : decode cX7_image 215 = .ok (.getfield 31, 3) := by decide +kernel
theorem dX7_image_218 : decode cX7_image 218 = .ok (.iload_n 3, 1) := by decide +kernel
theorem dX7_image_219 : decode cX7_image 219 = .ok (.iaload, 1) := by decide +kernel
theorem dX7_image_220 : decode cX7_image 220 = .ok (.iastore, 1) := by decide +kernel
theorem dX7_image_221 : decode cX7_image 221 = .ok (.iinc 3 1, 3) := by decide +kernel
theorem dX7_image_224 : decode cX7_image 224 = .ok (.goto (-27), 3) := by decide +kernel
theorem dX7_image_227 : decode cX7_image 227 = .ok (.aload_n 0, 1) := by decide +kernel
theorem dX7_image_228 : decode cX7_image 228 = .ok (.getfield 64, 3) := by decide +kernel
theorem dX7_image_231 : decode cX7_image 231 = .ok (.iload_n 2, 1) := by decide +kernel
theorem dX7_image_232 : decode cX7_image 232 = .ok (.sipush 190, 3) := by decide +kernel
theorem dX7_image_235 : decode cX7_image 235 = .ok (.iadd, 1) := by decide +kernel
theorem dX7_image_236 : decode cX7_image 236 = .ok (.aload_n 0, 1) := by decide +kernel
theorem dX7_image_237 : decode cX7_image 237 = .ok (.getfield 71, 3) := by decide +kernel
theorem dX7_image_240 : decode cX7_image 240 = .ok (.iastore, 1) := by decide +kernel
theorem dX7_image_241 : decode cX7_image 241 = .ok (.aload_n 0, 1) := by decide +kernel
theorem dX7_image_242 : decode cX7_image 242 = .ok (.getfield 67, 3) := by decide +kernel
theorem dX7_image_245 : decode cX7_image 245 = .ok (.iload_n 1, 1) := by decide +kernel
theorem dX7_image_246 : decode cX7_image 246 = .ok (.iconst 1, 1) := by decide +kernel
theorem dX7_image_247 : decode cX7_image 247 = .ok (.bastore, 1) := by decide +kernel
theorem dX7_image_248 : decode cX7_image 248 = .ok (.iconst 1, 1) := by decide +kernel
theorem dX7_image_249 : decode cX7_image 249 = .ok (.ireturn, 1) := by decide +kernel
theorem dX7_restore_0 : decode cX7_restore 0 = .ok (.iload_n 1, 1) := by decide +kernel
theorem dX7_restore_1 : decode cX7_restore 1 = .ok (.iconst 0, 1) := by decide +kernel
theorem dX7_restore_2 : decode cX7_restore 2 = .ok (.iconst 1, 1) := by decide +kernel
theorem dX7_restore_3 : decode cX7_restore 3 = .ok (.invokestatic 75, 3) := by decide +kernel
theorem dX7_restore_6 : decode cX7_restore 6 = .ok (.ifCond .ne 6, 3) := by decide +kernel
theorem dX7_restore_9 : decode cX7_restore 9 = .ok (.bipush (-2), 2) := by decide +kernel
theorem dX7_restore_11 : decode cX7_restore 11 = .ok (.ireturn, 1) := by decide +kernel
theorem dX7_restore_12 : decode cX7_restore 12 = .ok (.aload_n 0, 1) := by decide +kernel
theorem dX7_restore_13 : decode cX7_restore 13 = .ok (.getfield 67, 3) := by decide +kernel
theorem dX7_restore_16 : decode cX7_restore 16 = .ok (.iload_n 1, 1) := by decide +kernel
theorem dX7_restore_17 : decode cX7_restore 17 = .ok (.baload, 1) := by decide +kernel
theorem dX7_restore_18 : decode cX7_restore 18 = .ok (.ifCond .ne 6, 3) := by decide +kernel
theorem dX7_restore_21 : decode cX7_restore 21 = .ok (.bipush (-3), 2) := by decide +kernel
theorem dX7_restore_23 : decode cX7_restore 23 = .ok (.ireturn, 1) := by decide +kernel
theorem dX7_restore_24 : decode cX7_restore 24 = .ok (.sipush 191, 3) := by decide +kernel
theorem dX7_restore_27 : decode cX7_restore 27 = .ok (.iload_n 1, 1) := by decide +kernel
theorem dX7_restore_28 : decode cX7_restore 28 = .ok (.imul, 1) := by decide +kernel
theorem dX7_restore_29 : decode cX7_restore 29 = .ok (.istore_n 2, 1) := by decide +kernel
theorem dX7_restore_30 : decode cX7_restore 30 = .ok (.iconst 0, 1) := by decide +kernel
theorem dX7_restore_31 : decode cX7_restore 31 = .ok (.istore_n 3, 1) := by decide +kernel
theorem dX7_restore_32 : decode cX7_restore 32 = .ok (.iload_n 3, 1) := by decide +kernel
theorem dX7_restore_33 : decode cX7_restore 33 = .ok (.bipush 8, 2) := by decide +kernel
theorem dX7_restore_35 : decode cX7_restore 35 = .ok (.if_icmp .ge 40, 3) := by decide +kernel
theorem dX7_restore_38 : decode cX7_restore 38 = .ok (.aload_n 0, 1) := by decide +kernel
theorem dX7_restore_39 : decode cX7_restore 39 = .ok (.getfield 7, 3) := by decide +kernel
theorem dX7_restore_42 : decode cX7_restore 42 = .ok (.iload_n 3, 1) := by decide +kernel
theorem dX7_restore_43 : decode cX7_restore 43 = .ok (.aload_n 0, 1) := by decide +kernel
theorem dX7_restore_44 : decode cX7_restore 44 = .ok (.getfield 64, 3) := by decide +kernel
theorem dX7_restore_47 : decode cX7_restore 47 = .ok (.iload_n 2, 1) := by decide +kernel
theorem dX7_restore_48 : decode cX7_restore 48 = .ok (.iload_n 3, 1) := by decide +kernel
theorem dX7_restore_49 : decode cX7_restore 49 = .ok (.iadd, 1) := by decide +kernel
theorem dX7_restore_50 : decode cX7_restore 50 = .ok (.iaload, 1) := by decide +kernel
theorem dX7_restore_51 : decode cX7_restore 51 = .ok (.iastore, 1) := by decide +kernel
theorem dX7_restore_52 : decode cX7_restore 52 = .ok (.aload_n 0, 1) := by decide +kernel
theorem dX7_restore_53 : decode cX7_restore 53 = .ok (.getfield 13, 3) := by decide +kernel
theorem dX7_restore_56 : decode cX7_restore 56 = .ok (.iload_n 3, 1) := by decide +kernel
theorem dX7_restore_57 : decode cX7_restore 57 = .ok (.aload_n 0, 1) := by decide +kernel
theorem dX7_restore_58 : decode cX7_restore 58 = .ok (.getfield 64, 3) := by decide +kernel
theorem dX7_restore_61 : decode cX7_restore 61 = .ok (.iload_n 2, 1) := by decide +kernel
theorem dX7_restore_62 : decode cX7_restore 62 = .ok (.bipush 8, 2) := by decide +kernel
theorem dX7_restore_64 : decode cX7_restore 64 = .ok (.iadd, 1) := by decide +kernel
theorem dX7_restore_65 : decode cX7_restore 65 = .ok (.iload_n 3, 1) := by decide +kernel
theorem dX7_restore_66 : decode cX7_restore 66 = .ok (.iadd, 1) := by decide +kernel
theorem dX7_restore_67 : decode cX7_restore 67 = .ok (.iaload, 1) := by decide +kernel
theorem dX7_restore_68 : decode cX7_restore 68 = .ok (.iastore, 1) := by decide +kernel
theorem dX7_restore_69 : decode cX7_restore 69 = .ok (.iinc 3 1, 3) := by decide +kernel
theorem dX7_restore_72 : decode cX7_restore 72 = .ok (.goto (-40), 3) := by decide +kernel
theorem dX7_restore_75 : decode cX7_restore 75 = .ok (.iconst 0, 1) := by decide +kernel
theorem dX7_restore_76 : decode cX7_restore 76 = .ok (.istore_n 3, 1) := by decide +kernel
theorem dX7_restore_77 : decode cX7_restore 77 = .ok (.iload_n 3, 1) := by decide +kernel
theorem dX7_restore_78 : decode cX7_restore 78 = .ok (.bipush 40, 2) := by decide +kernel
theorem dX7_restore_80 : decode cX7_restore 80 = .ok (.if_icmp .ge 78, 3) := by decide +kernel
theorem dX7_restore_83 : decode cX7_restore 83 = .ok (.aload_n 0, 1) := by decide +kernel
theorem dX7_restore_84 : decode cX7_restore 84 = .ok (.getfield 16, 3) := by decide +kernel
theorem dX7_restore_87 : decode cX7_restore 87 = .ok (.iload_n 3, 1) := by decide +kernel
theorem dX7_restore_88 : decode cX7_restore 88 = .ok (.aload_n 0, 1) := by decide +kernel
theorem dX7_restore_89 : decode cX7_restore 89 = .ok (.getfield 64, 3) := by decide +kernel
theorem dX7_restore_92 : decode cX7_restore 92 = .ok (.iload_n 2, 1) := by decide +kernel
theorem dX7_restore_93 : decode cX7_restore 93 = .ok (.bipush 16, 2) := by decide +kernel
theorem dX7_restore_95 : decode cX7_restore 95 = .ok (.iadd, 1) := by decide +kernel
theorem dX7_restore_96 : decode cX7_restore 96 = .ok (.iload_n 3, 1) := by decide +kernel
theorem dX7_restore_97 : decode cX7_restore 97 = .ok (.iadd, 1) := by decide +kernel
theorem dX7_restore_98 : decode cX7_restore 98 = .ok (.iaload, 1) := by decide +kernel
theorem dX7_restore_99 : decode cX7_restore 99 = .ok (.iastore, 1) := by decide +kernel
theorem dX7_restore_100 : decode cX7_restore 100 = .ok (.aload_n 0, 1) := by decide +kernel
theorem dX7_restore_101 : decode cX7_restore 101 = .ok (.getfield 19, 3) := by decide +kernel
theorem dX7_restore_104 : decode cX7_restore 104 = .ok (.iload_n 3, 1) := by decide +kernel
theorem dX7_restore_105 : decode cX7_restore 105 = .ok (.aload_n 0, 1) := by decide +kernel
theorem dX7_restore_106 : decode cX7_restore 106 = .ok (.getfield 64, 3) := by decide +kernel
theorem dX7_restore_109 : decode cX7_restore 109 = .ok (.iload_n 2, 1) := by decide +kernel
theorem dX7_restore_110 : decode cX7_restore 110 = .ok (.bipush 56, 2) := by decide +kernel
theorem dX7_restore_112 : decode cX7_restore 112 = .ok (.iadd, 1) := by decide +kernel
theorem dX7_restore_113 : decode cX7_restore 113 = .ok (.iload_n 3, 1) := by decide +kernel
theorem dX7_restore_114 : decode cX7_restore 114 = .ok (.iadd, 1) := by decide +kernel
theorem dX7_restore_115 : decode cX7_restore 115 = .ok (.iaload, 1) := by decide +kernel
theorem dX7_restore_116 : decode cX7_restore 116 = .ok (.iastore, 1) := by decide +kernel
theorem dX7_restore_117 : decode cX7_restore 117 = .ok (.aload_n 0, 1) := by decide +kernel
theorem dX7_restore_118 : decode cX7_restore 118 = .ok (.getfield 22, 3) := by decide +kernel
theorem dX7_restore_121 : decode cX7_restore 121 = .ok (.iload_n 3, 1) := by decide +kernel
theorem dX7_restore_122 : decode cX7_restore 122 = .ok (.aload_n 0, 1) := by decide +kernel
theorem dX7_restore_123 : decode cX7_restore 123 = .ok (.getfield 64, 3) := by decide +kernel
theorem dX7_restore_126 : decode cX7_restore 126 = .ok (.iload_n 2, 1) := by decide +kernel
theorem dX7_restore_127 : decode cX7_restore 127 = .ok (.bipush 96, 2) := by decide +kernel
theorem dX7_restore_129 : decode cX7_restore 129 = .ok (.iadd, 1) := by decide +kernel
theorem dX7_restore_130 : decode cX7_restore 130 = .ok (.iload_n 3, 1) := by decide +kernel
theorem dX7_restore_131 : decode cX7_restore 131 = .ok (.iadd, 1) := by decide +kernel
theorem dX7_restore_132 : decode cX7_restore 132 = .ok (.iaload, 1) := by decide +kernel
theorem dX7_restore_133 : decode cX7_restore 133 = .ok (.iastore, 1) := by decide +kernel
theorem dX7_restore_134 : decode cX7_restore 134 = .ok (.aload_n 0, 1) := by decide +kernel
theorem dX7_restore_135 : decode cX7_restore 135 = .ok (.getfield 25, 3) := by decide +kernel
theorem dX7_restore_138 : decode cX7_restore 138 = .ok (.iload_n 3, 1) := by decide +kernel
theorem dX7_restore_139 : decode cX7_restore 139 = .ok (.aload_n 0, 1) := by decide +kernel
theorem dX7_restore_140 : decode cX7_restore 140 = .ok (.getfield 64, 3) := by decide +kernel
theorem dX7_restore_143 : decode cX7_restore 143 = .ok (.iload_n 2, 1) := by decide +kernel
theorem dX7_restore_144 : decode cX7_restore 144 = .ok (.sipush 136, 3) := by decide +kernel
theorem dX7_restore_147 : decode cX7_restore 147 = .ok (.iadd, 1) := by decide +kernel
theorem dX7_restore_148 : decode cX7_restore 148 = .ok (.iload_n 3, 1) := by decide +kernel
theorem dX7_restore_149 : decode cX7_restore 149 = .ok (.iadd, 1) := by decide +kernel
theorem dX7_restore_150 : decode cX7_restore 150 = .ok (.iaload, 1) := by decide +kernel
theorem dX7_restore_151 : decode cX7_restore 151 = .ok (.iastore, 1) := by decide +kernel
theorem dX7_restore_152 : decode cX7_restore 152 = .ok (.iinc 3 1, 3) := by decide +kernel
theorem dX7_restore_155 : decode cX7_restore 155 = .ok (.goto (-78), 3) := by decide +kernel
theorem dX7_restore_158 : decode cX7_restore 158 = .ok (.iconst 0, 1) := by decide +kernel
theorem dX7_restore_159 : decode cX7_restore 159 = .ok (.istore_n 3, 1) := by decide +kernel
theorem dX7_restore_160 : decode cX7_restore 160 = .ok (.iload_n 3, 1) := by decide +kernel
theorem dX7_restore_161 : decode cX7_restore 161 = .ok (.iconst 4, 1) := by decide +kernel
theorem dX7_restore_162 : decode cX7_restore 162 = .ok (.if_icmp .ge 45, 3) := by decide +kernel
theorem dX7_restore_165 : decode cX7_restore 165 = .ok (.aload_n 0, 1) := by decide +kernel
theorem dX7_restore_166 : decode cX7_restore 166 = .ok (.getfield 28, 3) := by decide +kernel
theorem dX7_restore_169 : decode cX7_restore 169 = .ok (.iload_n 3, 1) := by decide +kernel
theorem dX7_restore_170 : decode cX7_restore 170 = .ok (.aload_n 0, 1) := by decide +kernel
theorem dX7_restore_171 : decode cX7_restore 171 = .ok (.getfield 64, 3) := by decide +kernel
theorem dX7_restore_174 : decode cX7_restore 174 = .ok (.iload_n 2, 1) := by decide +kernel
theorem dX7_restore_175 : decode cX7_restore 175 = .ok (.sipush 176, 3) := by decide +kernel
theorem dX7_restore_178 : decode cX7_restore 178 = .ok (.iadd, 1) := by decide +kernel
theorem dX7_restore_179 : decode cX7_restore 179 = .ok (.iload_n 3, 1) := by decide +kernel
theorem dX7_restore_180 : decode cX7_restore 180 = .ok (.iadd, 1) := by decide +kernel
theorem dX7_restore_181 : decode cX7_restore 181 = .ok (.iaload, 1) := by decide +kernel
theorem dX7_restore_182 : decode cX7_restore 182 = .ok (.iastore, 1) := by decide +kernel
theorem dX7_restore_183 : decode cX7_restore 183 = .ok (.aload_n 0, 1) := by decide +kernel
theorem dX7_restore_184 : decode cX7_restore 184 = .ok (.getfield 34, 3) := by decide +kernel
theorem dX7_restore_187 : decode cX7_restore 187 = .ok (.iload_n 3, 1) := by decide +kernel
theorem dX7_restore_188 : decode cX7_restore 188 = .ok (.aload_n 0, 1) := by decide +kernel
theorem dX7_restore_189 : decode cX7_restore 189 = .ok (.getfield 64, 3) := by decide +kernel
theorem dX7_restore_192 : decode cX7_restore 192 = .ok (.iload_n 2, 1) := by decide +kernel
theorem dX7_restore_193 : decode cX7_restore 193 = .ok (.sipush 180, 3) := by decide +kernel
theorem dX7_restore_196 : decode cX7_restore 196 = .ok (.iadd, 1) := by decide +kernel
theorem dX7_restore_197 : decode cX7_restore 197 = .ok (.iload_n 3, 1) := by decide +kernel
theorem dX7_restore_198 : decode cX7_restore 198 = .ok (.iadd, 1) := by decide +kernel
theorem dX7_restore_199 : decode cX7_restore 199 = .ok (.iaload, 1) := by decide +kernel
theorem dX7_restore_200 : decode cX7_restore 200 = .ok (.iastore, 1) := by decide +kernel
theorem dX7_restore_201 : decode cX7_restore 201 = .ok (.iinc 3 1, 3) := by decide +kernel
theorem dX7_restore_204 : decode cX7_restore 204 = .ok (.goto (-44), 3) := by decide +kernel
theorem dX7_restore_207 : decode cX7_restore 207 = .ok (.iconst 0, 1) := by decide +kernel
theorem dX7_restore_208 : decode cX7_restore 208 = .ok (.istore_n 3, 1) := by decide +kernel
theorem dX7_restore_209 : decode cX7_restore 209 = .ok (.iload_n 3, 1) := by decide +kernel
theorem dX7_restore_210 : decode cX7_restore 210 = .ok (.bipush 6, 2) := by decide +kernel
theorem dX7_restore_212 : decode cX7_restore 212 = .ok (.if_icmp .ge 27, 3) := by decide +kernel
theorem dX7_restore_215 : decode cX7_restore 215 = .ok (.aload_n 0, 1) := by decide +kernel
theorem dX7_restore_216 : decode cX7_restore 216 = .ok (.getfield 31, 3) := by decide +kernel
theorem dX7_restore_219 : decode cX7_restore 219 = .ok (.iload_n 3, 1) := by decide +kernel
theorem dX7_restore_220 : decode cX7_restore 220 = .ok (.aload_n 0, 1) := by decide +kernel
theorem dX7_restore_221 : decode cX7_restore 221 = .ok (.getfield 64, 3) := by decide +kernel
theorem dX7_restore_224 : decode cX7_restore 224 = .ok (.iload_n 2, 1) := by decide +kernel
theorem dX7_restore_225 : decode cX7_restore 225 = .ok (.sipush 184, 3) := by decide +kernel
theorem dX7_restore_228 : decode cX7_restore 228 = .ok (.iadd, 1) := by decide +kernel
theorem dX7_restore_229 : decode cX7_restore 229 = .ok (.iload_n 3, 1) := by decide +kernel
theorem dX7_restore_230 : decode cX7_restore 230 = .ok (.iadd, 1) := by decide +kernel
theorem dX7_restore_231 : decode cX7_restore 231 = .ok (.iaload, 1) := by decide +kernel
theorem dX7_restore_232 : decode cX7_restore 232 = .ok (.iastore, 1) := by decide +kernel
theorem dX7_restore_233 : decode cX7_restore 233 = .ok (.iinc 3 1, 3) := by decide +kernel
theorem dX7_restore_236 : decode cX7_restore 236 = .ok (.goto (-27), 3) := by decide +kernel
theorem dX7_restore_239 : decode cX7_restore 239 = .ok (.aload_n 0, 1) := by decide +kernel
theorem dX7_restore_240 : decode cX7_restore 240 = .ok (.aload_n 0, 1) := by decide +kernel
theorem dX7_restore_241 : decode cX7_restore 241 = .ok (.getfield 64, 3) := by decide +kernel
theorem dX7_restore_244 : decode cX7_restore 244 = .ok (.iload_n 2, 1) := by decide +kernel
theorem dX7_restore_245 : decode cX7_restore 245 = .ok (.sipush 190, 3) := by decide +kernel
theorem dX7_restore_248 : decode cX7_restore 248 = .ok (.iadd, 1) := by decide +kernel
theorem dX7_restore_249 : decode cX7_restore 249 = .ok (.iaload, 1) := by decide +kernel
theorem dX7_restore_250 : decode cX7_restore 250 = .ok (.putfield 71, 3) := by decide +kernel
theorem dX7_restore_253 : decode cX7_restore 253 = .ok (.iconst 1, 1) := by decide +kernel
theorem dX7_restore_254 : decode cX7_restore 254 = .ok (.ireturn, 1) := by decide +kernel
theorem dX7_count_0 : decode cX7_count 0 = .ok (.iload_n 1, 1) := by decide +kernel
theorem dX7_count_1 : decode cX7_count 1 = .ok (.tableswitch 127 0 9 #[55, 60, 60, 60, 60, 69, 74, 79, 84, 97], 55) := by decide +kernel
theorem dX7_count_56 : decode cX7_count 56 = .ok (.aload_n 0, 1) := by decide +kernel
theorem dX7_count_57 : decode cX7_count 57 = .ok (.getfield 71, 3) := by decide +kernel
theorem dX7_count_60 : decode cX7_count 60 = .ok (.ireturn, 1) := by decide +kernel
theorem dX7_count_61 : decode cX7_count 61 = .ok (.aload_n 0, 1) := by decide +kernel
theorem dX7_count_62 : decode cX7_count 62 = .ok (.getfield 34, 3) := by decide +kernel
theorem dX7_count_65 : decode cX7_count 65 = .ok (.iload_n 1, 1) := by decide +kernel
theorem dX7_count_66 : decode cX7_count 66 = .ok (.iconst 1, 1) := by decide +kernel
theorem dX7_count_67 : decode cX7_count 67 = .ok (.isub, 1) := by decide +kernel
theorem dX7_count_68 : decode cX7_count 68 = .ok (.iaload, 1) := by decide +kernel
theorem dX7_count_69 : decode cX7_count 69 = .ok (.ireturn, 1) := by decide +kernel
theorem dX7_count_70 : decode cX7_count 70 = .ok (.aload_n 0, 1) := by decide +kernel
theorem dX7_count_71 : decode cX7_count 71 = .ok (.getfield 168, 3) := by decide +kernel
theorem dX7_count_74 : decode cX7_count 74 = .ok (.ireturn, 1) := by decide +kernel
theorem dX7_count_75 : decode cX7_count 75 = .ok (.aload_n 0, 1) := by decide +kernel
theorem dX7_count_76 : decode cX7_count 76 = .ok (.getfield 171, 3) := by decide +kernel
theorem dX7_count_79 : decode cX7_count 79 = .ok (.ireturn, 1) := by decide +kernel
theorem dX7_count_80 : decode cX7_count 80 = .ok (.aload_n 0, 1) := by decide +kernel
theorem dX7_count_81 : decode cX7_count 81 = .ok (.getfield 162, 3) := by decide +kernel
theorem dX7_count_84 : decode cX7_count 84 = .ok (.ireturn, 1) := by decide +kernel
theorem dX7_count_85 : decode cX7_count 85 = .ok (.aload_n 0, 1) := by decide +kernel
theorem dX7_count_86 : decode cX7_count 86 = .ok (.invokevirtual 136, 3) := by decide +kernel
theorem dX7_count_89 : decode cX7_count 89 = .ok (.ifCond .eq 7, 3) := by decide +kernel
theorem dX7_count_92 : decode cX7_count 92 = .ok (.iconst 1, 1) := by decide +kernel
theorem dX7_count_93 : decode cX7_count 93 = .ok (.goto 4, 3) := by decide +kernel
theorem dX7_count_96 : decode cX7_count 96 = .ok (.iconst 0, 1) := by decide +kernel
theorem dX7_count_97 : decode cX7_count 97 = .ok (.ireturn, 1) := by decide +kernel
theorem dX7_count_98 : decode cX7_count 98 = .ok (.aload_n 0, 1) := by decide +kernel
theorem dX7_count_99 : decode cX7_count 99 = .ok (.getfield 67, 3) := by decide +kernel
theorem dX7_count_102 : decode cX7_count 102 = .ok (.iconst 0, 1) := by decide +kernel
theorem dX7_count_103 : decode cX7_count 103 = .ok (.baload, 1) := by decide +kernel
theorem dX7_count_104 : decode cX7_count 104 = .ok (.ifCond .eq 7, 3) := by decide +kernel
theorem dX7_count_107 : decode cX7_count 107 = .ok (.iconst 1, 1) := by decide +kernel
theorem dX7_count_108 : decode cX7_count 108 = .ok (.goto 4, 3) := by decide +kernel
theorem dX7_count_111 : decode cX7_count 111 = .ok (.iconst 0, 1) := by decide +kernel
theorem dX7_count_112 : decode cX7_count 112 = .ok (.aload_n 0, 1) := by decide +kernel
theorem dX7_count_113 : decode cX7_count 113 = .ok (.getfield 67, 3) := by decide +kernel
theorem dX7_count_116 : decode cX7_count 116 = .ok (.iconst 1, 1) := by decide +kernel
theorem dX7_count_117 : decode cX7_count 117 = .ok (.baload, 1) := by decide +kernel
theorem dX7_count_118 : decode cX7_count 118 = .ok (.ifCond .eq 7, 3) := by decide +kernel
theorem dX7_count_121 : decode cX7_count 121 = .ok (.iconst 2, 1) := by decide +kernel
theorem dX7_count_122 : decode cX7_count 122 = .ok (.goto 4, 3) := by decide +kernel
theorem dX7_count_125 : decode cX7_count 125 = .ok (.iconst 0, 1) := by decide +kernel
theorem dX7_count_126 : decode cX7_count 126 = .ok (.iadd, 1) := by decide +kernel
theorem dX7_count_127 : decode cX7_count 127 = .ok (.ireturn, 1) := by decide +kernel
theorem dX7_count_128 : decode cX7_count 128 = .ok (.iload_n 1, 1) := by decide +kernel
theorem dX7_count_129 : decode cX7_count 129 = .ok (.bipush 10, 2) := by decide +kernel
theorem dX7_count_131 : decode cX7_count 131 = .ok (.bipush 15, 2) := by decide +kernel
theorem dX7_count_133 : decode cX7_count 133 = .ok (.invokestatic 75, 3) := by decide +kernel
theorem dX7_count_136 : decode cX7_count 136 = .ok (.ifCond .eq 15, 3) := by decide +kernel
theorem dX7_count_139 : decode cX7_count 139 = .ok (.aload_n 0, 1) := by decide +kernel
theorem dX7_count_140 : decode cX7_count 140 = .ok (.getfield 31, 3) := by decide +kernel
theorem dX7_count_143 : decode cX7_count 143 = .ok (.iload_n 1, 1) := by decide +kernel
theorem dX7_count_144 : decode cX7_count 144 = .ok (.bipush 10, 2) := by decide +kernel
theorem dX7_count_146 : decode cX7_count 146 = .ok (.isub, 1) := by decide +kernel
theorem dX7_count_147 : decode cX7_count 147 = .ok (.iaload, 1) := by decide +kernel
theorem dX7_count_148 : decode cX7_count 148 = .ok (.goto 5, 3) := by decide +kernel
theorem dX7_count_151 : decode cX7_count 151 = .ok (.bipush (-2), 2) := by decide +kernel
theorem dX7_count_153 : decode cX7_count 153 = .ok (.ireturn, 1) := by decide +kernel
end
section
/-! decode rows -/
theorem dL_law_0 : decode cL_law 0 = .ok (.new 7, 3) := by decide +kernel
theorem dL_law_3 : decode cL_law 3 = .ok (.dup, 1) := by decide +kernel
theorem dL_law_4 : decode cL_law 4 = .ok (.invokespecial 9, 3) := by decide +kernel
theorem dL_law_7 : decode cL_law 7 = .ok (.astore_n 1, 1) := by decide +kernel
theorem dL_law_8 : decode cL_law 8 = .ok (.new 10, 3) := by decide +kernel
theorem dL_law_11 : decode cL_law 11 = .ok (.dup, 1) := by decide +kernel
theorem dL_law_12 : decode cL_law 12 = .ok (.invokespecial 12, 3) := by decide +kernel
theorem dL_law_15 : decode cL_law 15 = .ok (.astore_n 2, 1) := by decide +kernel
theorem dL_law_16 : decode cL_law 16 = .ok (.iconst 0, 1) := by decide +kernel
theorem dL_law_17 : decode cL_law 17 = .ok (.istore_n 3, 1) := by decide +kernel
theorem dL_law_18 : decode cL_law 18 = .ok (.iload_n 3, 1) := by decide +kernel
theorem dL_law_19 : decode cL_law 19 = .ok (.aload_n 0, 1) := by decide +kernel
theorem dL_law_20 : decode cL_law 20 = .ok (.arraylength, 1) := by decide +kernel
theorem dL_law_21 : decode cL_law 21 = .ok (.bipush 6, 2) := by decide +kernel
theorem dL_law_23 : decode cL_law 23 = .ok (.isub, 1) := by decide +kernel
theorem dL_law_24 : decode cL_law 24 = .ok (.if_icmp .gt 690, 3) := by decide +kernel
theorem dL_law_27 : decode cL_law 27 = .ok (.aload_n 0, 1) := by decide +kernel
theorem dL_law_28 : decode cL_law 28 = .ok (.iload_n 3, 1) := by decide +kernel
theorem dL_law_29 : decode cL_law 29 = .ok (.iaload, 1) := by decide +kernel
theorem dL_law_30 : decode cL_law 30 = .ok (.bipush 31, 2) := by decide +kernel
theorem dL_law_32 : decode cL_law 32 = .ok (.iand, 1) := by decide +kernel
theorem dL_law_33 : decode cL_law 33 = .ok (.tableswitch 675 0 19 #[95, 118, 181, 234, 267, 290, 323, 356, 389, 402, 435, 448, 481, 514, 537, 550, 573, 606, 629, 652], 95) := by decide +kernel
theorem dL_law_128 : decode cL_law 128 = .ok (.aload_n 1, 1) := by decide +kernel
theorem dL_law_129 : decode cL_law 129 = .ok (.aload_n 0, 1) := by decide +kernel
theorem dL_law_130 : decode cL_law 130 = .ok (.iload_n 3, 1) := by decide +kernel
theorem dL_law_131 : decode cL_law 131 = .ok (.iconst 1, 1) := by decide +kernel
theorem dL_law_132 : decode cL_law 132 = .ok (.iadd, 1) := by decide +kernel
theorem dL_law_133 : decode cL_law 133 = .ok (.iaload, 1) := by decide +kernel
theorem dL_law_134 : decode cL_law 134 = .ok (.invokevirtual 13, 3) := by decide +kernel
theorem dL_law_137 : decode cL_law 137 = .ok (.aload_n 2, 1) := by decide +kernel
theorem dL_law_138 : decode cL_law 138 = .ok (.aload_n 0, 1) := by decide +kernel
theorem dL_law_139 : decode cL_law 139 = .ok (.iload_n 3, 1) := by decide +kernel
theorem dL_law_140 : decode cL_law 140 = .ok (.iconst 1, 1) := by decide +kernel
theorem dL_law_141 : decode cL_law 141 = .ok (.iadd, 1) := by decide +kernel
theorem dL_law_142 : decode cL_law 142 = .ok (.iaload, 1) := by decide +kernel
theorem dL_law_143 : decode cL_law 143 = .ok (.invokevirtual 17, 3) := by decide +kernel
theorem dL_law_146 : decode cL_law 146 = .ok (.if_icmp .eq 562, 3) := by decide +kernel
theorem dL_law_149 : decode cL_law 149 = .ok (.iconst 0, 1) := by decide +kernel
theorem dL_law_150 : decode cL_law 150 = .ok (.ireturn, 1) := by decide +kernel
theorem dL_law_151 : decode cL_law 151 = .ok (.aload_n 1, 1) := by decide +kernel
theorem dL_law_152 : decode cL_law 152 = .ok (.aload_n 0, 1) := by decide +kernel
theorem dL_law_153 : decode cL_law 153 = .ok (.iload_n 3, 1) := by decide +kernel
theorem dL_law_154 : decode cL_law 154 = .ok (.iconst 1, 1) := by decide +kernel
theorem dL_law_155 : decode cL_law 155 = .ok (.iadd, 1) := by decide +kernel
theorem dL_law_156 : decode cL_law 156 = .ok (.iaload, 1) := by decide +kernel
theorem dL_law_157 : decode cL_law 157 = .ok (.aload_n 0, 1) := by decide +kernel
theorem dL_law_158 : decode cL_law 158 = .ok (.iload_n 3, 1) := by decide +kernel
theorem dL_law_159 : decode cL_law 159 = .ok (.iconst 2, 1) := by decide +kernel
theorem dL_law_160 : decode cL_law 160 = .ok (.iadd, 1) := by decide +kernel
theorem dL_law_161 : decode cL_law 161 = .ok (.iaload, 1) := by decide +kernel
theorem dL_law_162 : decode cL_law 162 = .ok (.aload_n 0, 1) := by decide +kernel
theorem dL_law_163 : decode cL_law 163 = .ok (.iload_n 3, 1) := by decide +kernel
theorem dL_law_164 : decode cL_law 164 = .ok (.iconst 3, 1) := by decide +kernel
theorem dL_law_165 : decode cL_law 165 = .ok (.iadd, 1) := by decide +kernel
theorem dL_law_166 : decode cL_law 166 = .ok (.iaload, 1) := by decide +kernel
theorem dL_law_167 : decode cL_law 167 = .ok (.aload_n 0, 1) := by decide +kernel
theorem dL_law_168 : decode cL_law 168 = .ok (.iload_n 3, 1) := by decide +kernel
theorem dL_law_169 : decode cL_law 169 = .ok (.iconst 4, 1) := by decide +kernel
theorem dL_law_170 : decode cL_law 170 = .ok (.iadd, 1) := by decide +kernel
theorem dL_law_171 : decode cL_law 171 = .ok (.iaload, 1) := by decide +kernel
theorem dL_law_172 : decode cL_law 172 = .ok (.aload_n 0, 1) := by decide +kernel
theorem dL_law_173 : decode cL_law 173 = .ok (.iload_n 3, 1) := by decide +kernel
theorem dL_law_174 : decode cL_law 174 = .ok (.iconst 5, 1) := by decide +kernel
theorem dL_law_175 : decode cL_law 175 = .ok (.iadd, 1) := by decide +kernel
theorem dL_law_176 : decode cL_law 176 = .ok (.iaload, 1) := by decide +kernel
theorem dL_law_177 : decode cL_law 177 = .ok (.invokevirtual 18, 3) := by decide +kernel
theorem dL_law_180 : decode cL_law 180 = .ok (.aload_n 2, 1) := by decide +kernel
theorem dL_law_181 : decode cL_law 181 = .ok (.aload_n 0, 1) := by decide +kernel
theorem dL_law_182 : decode cL_law 182 = .ok (.iload_n 3, 1) := by decide +kernel
theorem dL_law_183 : decode cL_law 183 = .ok (.iconst 1, 1) := by decide +kernel
theorem dL_law_184 : decode cL_law 184 = .ok (.iadd, 1) := by decide +kernel
theorem dL_law_185 : decode cL_law 185 = .ok (.iaload, 1) := by decide +kernel
theorem dL_law_186 : decode cL_law 186 = .ok (.aload_n 0, 1) := by decide +kernel
theorem dL_law_187 : decode cL_law 187 = .ok (.iload_n 3, 1) := by decide +kernel
theorem dL_law_188 : decode cL_law 188 = .ok (.iconst 2, 1) := by decide +kernel
theorem dL_law_189 : decode cL_law 189 = .ok (.iadd, 1) := by decide +kernel
theorem dL_law_190 : decode cL_law 190 = .ok (.iaload, 1) := by decide +kernel
theorem dL_law_191 : decode cL_law 191 = .ok (.aload_n 0, 1) := by decide +kernel
theorem dL_law_192 : decode cL_law 192 = .ok (.iload_n 3, 1) := by decide +kernel
theorem dL_law_193 : decode cL_law 193 = .ok (.iconst 3, 1) := by decide +kernel
theorem dL_law_194 : decode cL_law 194 = .ok (.iadd, 1) := by decide +kernel
theorem dL_law_195 : decode cL_law 195 = .ok (.iaload, 1) := by decide +kernel
theorem dL_law_196 : decode cL_law 196 = .ok (.aload_n 0, 1) := by decide +kernel
theorem dL_law_197 : decode cL_law 197 = .ok (.iload_n 3, 1) := by decide +kernel
theorem dL_law_198 : decode cL_law 198 = .ok (.iconst 4, 1) := by decide +kernel
theorem dL_law_199 : decode cL_law 199 = .ok (.iadd, 1) := by decide +kernel
theorem dL_law_200 : decode cL_law 200 = .ok (.iaload, 1) := by decide +kernel
theorem dL_law_201 : decode cL_law 201 = .ok (.aload_n 0, 1) := by decide +kernel
theorem dL_law_202 : decode cL_law 202 = .ok (.iload_n 3, 1) := by decide +kernel
theorem dL_law_203 : decode cL_law 203 = .ok (.iconst 5, 1) := by decide +kernel
theorem dL_law_204 : decode cL_law 204 = .ok (.iadd, 1) := by decide +kernel
theorem dL_law_205 : decode cL_law 205 = .ok (.iaload, 1) := by decide +kernel
theorem dL_law_206 : decode cL_law 206 = .ok (.invokevirtual 22, 3) := by decide +kernel
theorem dL_law_209 : decode cL_law 209 = .ok (.if_icmp .eq 499, 3) := by decide +kernel
theorem dL_law_212 : decode cL_law 212 = .ok (.iconst 0, 1) := by decide +kernel
theorem dL_law_213 : decode cL_law 213 = .ok (.ireturn, 1) := by decide +kernel
theorem dL_law_214 : decode cL_law 214 = .ok (.aload_n 1, 1) := by decide +kernel
theorem dL_law_215 : decode cL_law 215 = .ok (.aload_n 0, 1) := by decide +kernel
theorem dL_law_216 : decode cL_law 216 = .ok (.iload_n 3, 1) := by decide +kernel
theorem dL_law_217 : decode cL_law 217 = .ok (.iconst 1, 1) := by decide +kernel
theorem dL_law_218 : decode cL_law 218 = .ok (.iadd, 1) := by decide +kernel
theorem dL_law_219 : decode cL_law 219 = .ok (.iaload, 1) := by decide +kernel
theorem dL_law_220 : decode cL_law 220 = .ok (.aload_n 0, 1) := by decide +kernel
theorem dL_law_221 : decode cL_law 221 = .ok (.iload_n 3, 1) := by decide +kernel
theorem dL_law_222 : decode cL_law 222 = .ok (.iconst 2, 1) := by decide +kernel
theorem dL_law_223 : decode cL_law 223 = .ok (.iadd, 1) := by decide +kernel
theorem dL_law_224 : decode cL_law 224 = .ok (.iaload, 1) := by decide +kernel
theorem dL_law_225 : decode cL_law 225 = .ok (.aload_n 0, 1) := by decide +kernel
theorem dL_law_226 : decode cL_law 226 = .ok (.iload_n 3, 1) := by decide +kernel
theorem dL_law_227 : decode cL_law 227 = .ok (.iconst 3, 1) := by decide +kernel
theorem dL_law_228 : decode cL_law 228 = .ok (.iadd, 1) := by decide +kernel
theorem dL_law_229 : decode cL_law 229 = .ok (.iaload, 1) := by decide +kernel
theorem dL_law_230 : decode cL_law 230 = .ok (.aload_n 0, 1) := by decide +kernel
theorem dL_law_231 : decode cL_law 231 = .ok (.iload_n 3, 1) := by decide +kernel
theorem dL_law_232 : decode cL_law 232 = .ok (.iconst 4, 1) := by decide +kernel
theorem dL_law_233 : decode cL_law 233 = .ok (.iadd, 1) := by decide +kernel
theorem dL_law_234 : decode cL_law 234 = .ok (.iaload, 1) := by decide +kernel
theorem dL_law_235 : decode cL_law 235 = .ok (.invokevirtual 23, 3) := by decide +kernel
theorem dL_law_238 : decode cL_law 238 = .ok (.aload_n 2, 1) := by decide +kernel
theorem dL_law_239 : decode cL_law 239 = .ok (.aload_n 0, 1) := by decide +kernel
theorem dL_law_240 : decode cL_law 240 = .ok (.iload_n 3, 1) := by decide +kernel
theorem dL_law_241 : decode cL_law 241 = .ok (.iconst 1, 1) := by decide +kernel
theorem dL_law_242 : decode cL_law 242 = .ok (.iadd, 1) := by decide +kernel
theorem dL_law_243 : decode cL_law 243 = .ok (.iaload, 1) := by decide +kernel
theorem dL_law_244 : decode cL_law 244 = .ok (.aload_n 0, 1) := by decide +kernel
theorem dL_law_245 : decode cL_law 245 = .ok (.iload_n 3, 1) := by decide +kernel
theorem dL_law_246 : decode cL_law 246 = .ok (.iconst 2, 1) := by decide +kernel
theorem dL_law_247 : decode cL_law 247 = .ok (.iadd, 1) := by decide +kernel
theorem dL_law_248 : decode cL_law 248 = .ok (.iaload, 1) := by decide +kernel
theorem dL_law_249 : decode cL_law 249 = .ok (.aload_n 0, 1) := by decide +kernel
theorem dL_law_250 : decode cL_law 250 = .ok (.iload_n 3, 1) := by decide +kernel
theorem dL_law_251 : decode cL_law 251 = .ok (.iconst 3, 1) := by decide +kernel
theorem dL_law_252 : decode cL_law 252 = .ok (.iadd, 1) := by decide +kernel
theorem dL_law_253 : decode cL_law 253 = .ok (.iaload, 1) := by decide +kernel
theorem dL_law_254 : decode cL_law 254 = .ok (.aload_n 0, 1) := by decide +kernel
theorem dL_law_255 : decode cL_law 255 = .ok (.iload_n 3, 1) := by decide +kernel
theorem dL_law_256 : decode cL_law 256 = .ok (.iconst 4, 1) := by decide +kernel
theorem dL_law_257 : decode cL_law 257 = .ok (.iadd, 1) := by decide +kernel
theorem dL_law_258 : decode cL_law 258 = .ok (.iaload, 1) := by decide +kernel
theorem dL_law_259 : decode cL_law 259 = .ok (.invokevirtual 27, 3) := by decide +kernel
theorem dL_law_262 : decode cL_law 262 = .ok (.if_icmp .eq 446, 3) := by decide +kernel
theorem dL_law_265 : decode cL_law 265 = .ok (.iconst 0, 1) := by decide +kernel
theorem dL_law_266 : decode cL_law 266 = .ok (.ireturn, 1) := by decide +kernel
theorem dL_law_267 : decode cL_law 267 = .ok (.aload_n 1, 1) := by decide +kernel
theorem dL_law_268 : decode cL_law 268 = .ok (.aload_n 0, 1) := by decide +kernel
theorem dL_law_269 : decode cL_law 269 = .ok (.iload_n 3, 1) := by decide +kernel
theorem dL_law_270 : decode cL_law 270 = .ok (.iconst 1, 1) := by decide +kernel
theorem dL_law_271 : decode cL_law 271 = .ok (.iadd, 1) := by decide +kernel
theorem dL_law_272 : decode cL_law 272 = .ok (.iaload, 1) := by decide +kernel
theorem dL_law_273 : decode cL_law 273 = .ok (.aload_n 0, 1) := by decide +kernel
theorem dL_law_274 : decode cL_law 274 = .ok (.iload_n 3, 1) := by decide +kernel
theorem dL_law_275 : decode cL_law 275 = .ok (.iconst 2, 1) := by decide +kernel
theorem dL_law_276 : decode cL_law 276 = .ok (.iadd, 1) := by decide +kernel
theorem dL_law_277 : decode cL_law 277 = .ok (.iaload, 1) := by decide +kernel
theorem dL_law_278 : decode cL_law 278 = .ok (.invokevirtual 28, 3) := by decide +kernel
theorem dL_law_281 : decode cL_law 281 = .ok (.aload_n 2, 1) := by decide +kernel
theorem dL_law_282 : decode cL_law 282 = .ok (.aload_n 0, 1) := by decide +kernel
theorem dL_law_283 : decode cL_law 283 = .ok (.iload_n 3, 1) := by decide +kernel
theorem dL_law_284 : decode cL_law 284 = .ok (.iconst 1, 1) := by decide +kernel
theorem dL_law_285 : decode cL_law 285 = .ok (.iadd, 1) := by decide +kernel
theorem dL_law_286 : decode cL_law 286 = .ok (.iaload, 1) := by decide +kernel
theorem dL_law_287 : decode cL_law 287 = .ok (.aload_n 0, 1) := by decide +kernel
theorem dL_law_288 : decode cL_law 288 = .ok (.iload_n 3, 1) := by decide +kernel
theorem dL_law_289 : decode cL_law 289 = .ok (.iconst 2, 1) := by decide +kernel
theorem dL_law_290 : decode cL_law 290 = .ok (.iadd, 1) := by decide +kernel
theorem dL_law_291 : decode cL_law 291 = .ok (.iaload, 1) := by decide +kernel
theorem dL_law_292 : decode cL_law 292 = .ok (.invokevirtual 32, 3) := by decide +kernel
theorem dL_law_295 : decode cL_law 295 = .ok (.if_icmp .eq 413, 3) := by decide +kernel
theorem dL_law_298 : decode cL_law 298 = .ok (.iconst 0, 1) := by decide +kernel
theorem dL_law_299 : decode cL_law 299 = .ok (.ireturn, 1) := by decide +kernel
theorem dL_law_300 : decode cL_law 300 = .ok (.aload_n 1, 1) := by decide +kernel
theorem dL_law_301 : decode cL_law 301 = .ok (.aload_n 0, 1) := by decide +kernel
theorem dL_law_302 : decode cL_law 302 = .ok (.iload_n 3, 1) := by decide +kernel
theorem dL_law_303 : decode cL_law 303 = .ok (.iconst 1, 1) := by decide +kernel
theorem dL_law_304 : decode cL_law 304 = .ok (.iadd, 1) := by decide +kernel
theorem dL_law_305 : decode cL_law 305 = .ok (.iaload, 1) := by decide +kernel
theorem dL_law_306 : decode cL_law 306 = .ok (.invokevirtual 33, 3) := by decide +kernel
theorem dL_law_309 : decode cL_law 309 = .ok (.aload_n 2, 1) := by decide +kernel
theorem dL_law_310 : decode cL_law 310 = .ok (.aload_n 0, 1) := by decide +kernel
theorem dL_law_311 : decode cL_law 311 = .ok (.iload_n 3, 1) := by decide +kernel
theorem dL_law_312 : decode cL_law 312 = .ok (.iconst 1, 1) := by decide +kernel
theorem dL_law_313 : decode cL_law 313 = .ok (.iadd, 1) := by decide +kernel
theorem dL_law_314 : decode cL_law 314 = .ok (.iaload, 1) := by decide +kernel
theorem dL_law_315 : decode cL_law 315 = .ok (.invokevirtual 36, 3) := by decide +kernel
theorem dL_law_318 : decode cL_law 318 = .ok (.if_icmp .eq 390, 3) := by decide +kernel
theorem dL_law_321 : decode cL_law 321 = .ok (.iconst 0, 1) := by decide +kernel
theorem dL_law_322 : decode cL_law 322 = .ok (.ireturn, 1) := by decide +kernel
theorem dL_law_323 : decode cL_law 323 = .ok (.aload_n 1, 1) := by decide +kernel
theorem dL_law_324 : decode cL_law 324 = .ok (.aload_n 0, 1) := by decide +kernel
theorem dL_law_325 : decode cL_law 325 = .ok (.iload_n 3, 1) := by decide +kernel
theorem dL_law_326 : decode cL_law 326 = .ok (.iconst 1, 1) := by decide +kernel
theorem dL_law_327 : decode cL_law 327 = .ok (.iadd, 1) := by decide +kernel
theorem dL_law_328 : decode cL_law 328 = .ok (.iaload, 1) := by decide +kernel
theorem dL_law_329 : decode cL_law 329 = .ok (.aload_n 0, 1) := by decide +kernel
theorem dL_law_330 : decode cL_law 330 = .ok (.iload_n 3, 1) := by decide +kernel
theorem dL_law_331 : decode cL_law 331 = .ok (.iconst 2, 1) := by decide +kernel
theorem dL_law_332 : decode cL_law 332 = .ok (.iadd, 1) := by decide +kernel
theorem dL_law_333 : decode cL_law 333 = .ok (.iaload, 1) := by decide +kernel
theorem dL_law_334 : decode cL_law 334 = .ok (.invokevirtual 37, 3) := by decide +kernel
theorem dL_law_337 : decode cL_law 337 = .ok (.aload_n 2, 1) := by decide +kernel
theorem dL_law_338 : decode cL_law 338 = .ok (.aload_n 0, 1) := by decide +kernel
theorem dL_law_339 : decode cL_law 339 = .ok (.iload_n 3, 1) := by decide +kernel
theorem dL_law_340 : decode cL_law 340 = .ok (.iconst 1, 1) := by decide +kernel
theorem dL_law_341 : decode cL_law 341 = .ok (.iadd, 1) := by decide +kernel
theorem dL_law_342 : decode cL_law 342 = .ok (.iaload, 1) := by decide +kernel
theorem dL_law_343 : decode cL_law 343 = .ok (.aload_n 0, 1) := by decide +kernel
theorem dL_law_344 : decode cL_law 344 = .ok (.iload_n 3, 1) := by decide +kernel
theorem dL_law_345 : decode cL_law 345 = .ok (.iconst 2, 1) := by decide +kernel
theorem dL_law_346 : decode cL_law 346 = .ok (.iadd, 1) := by decide +kernel
theorem dL_law_347 : decode cL_law 347 = .ok (.iaload, 1) := by decide +kernel
theorem dL_law_348 : decode cL_law 348 = .ok (.invokevirtual 40, 3) := by decide +kernel
theorem dL_law_351 : decode cL_law 351 = .ok (.if_icmp .eq 357, 3) := by decide +kernel
theorem dL_law_354 : decode cL_law 354 = .ok (.iconst 0, 1) := by decide +kernel
theorem dL_law_355 : decode cL_law 355 = .ok (.ireturn, 1) := by decide +kernel
theorem dL_law_356 : decode cL_law 356 = .ok (.aload_n 1, 1) := by decide +kernel
theorem dL_law_357 : decode cL_law 357 = .ok (.aload_n 0, 1) := by decide +kernel
theorem dL_law_358 : decode cL_law 358 = .ok (.iload_n 3, 1) := by decide +kernel
theorem dL_law_359 : decode cL_law 359 = .ok (.iconst 1, 1) := by decide +kernel
theorem dL_law_360 : decode cL_law 360 = .ok (.iadd, 1) := by decide +kernel
theorem dL_law_361 : decode cL_law 361 = .ok (.iaload, 1) := by decide +kernel
theorem dL_law_362 : decode cL_law 362 = .ok (.aload_n 0, 1) := by decide +kernel
theorem dL_law_363 : decode cL_law 363 = .ok (.iload_n 3, 1) := by decide +kernel
theorem dL_law_364 : decode cL_law 364 = .ok (.iconst 2, 1) := by decide +kernel
theorem dL_law_365 : decode cL_law 365 = .ok (.iadd, 1) := by decide +kernel
theorem dL_law_366 : decode cL_law 366 = .ok (.iaload, 1) := by decide +kernel
theorem dL_law_367 : decode cL_law 367 = .ok (.invokevirtual 41, 3) := by decide +kernel
theorem dL_law_370 : decode cL_law 370 = .ok (.aload_n 2, 1) := by decide +kernel
theorem dL_law_371 : decode cL_law 371 = .ok (.aload_n 0, 1) := by decide +kernel
theorem dL_law_372 : decode cL_law 372 = .ok (.iload_n 3, 1) := by decide +kernel
theorem dL_law_373 : decode cL_law 373 = .ok (.iconst 1, 1) := by decide +kernel
theorem dL_law_374 : decode cL_law 374 = .ok (.iadd, 1) := by decide +kernel
theorem dL_law_375 : decode cL_law 375 = .ok (.iaload, 1) := by decide +kernel
theorem dL_law_376 : decode cL_law 376 = .ok (.aload_n 0, 1) := by decide +kernel
theorem dL_law_377 : decode cL_law 377 = .ok (.iload_n 3, 1) := by decide +kernel
theorem dL_law_378 : decode cL_law 378 = .ok (.iconst 2, 1) := by decide +kernel
theorem dL_law_379 : decode cL_law 379 = .ok (.iadd, 1) := by decide +kernel
theorem dL_law_380 : decode cL_law 380 = .ok (.iaload, 1) := by decide +kernel
theorem dL_law_381 : decode cL_law 381 = .ok (.invokevirtual 44, 3) := by decide +kernel
theorem dL_law_384 : decode cL_law 384 = .ok (.if_icmp .eq 324, 3) := by decide +kernel
theorem dL_law_387 : decode cL_law 387 = .ok (.iconst 0, 1) := by decide +kernel
theorem dL_law_388 : decode cL_law 388 = .ok (.ireturn, 1) := by decide +kernel
theorem dL_law_389 : decode cL_law 389 = .ok (.aload_n 1, 1) := by decide +kernel
theorem dL_law_390 : decode cL_law 390 = .ok (.aload_n 0, 1) := by decide +kernel
theorem dL_law_391 : decode cL_law 391 = .ok (.iload_n 3, 1) := by decide +kernel
theorem dL_law_392 : decode cL_law 392 = .ok (.iconst 1, 1) := by decide +kernel
theorem dL_law_393 : decode cL_law 393 = .ok (.iadd, 1) := by decide +kernel
theorem dL_law_394 : decode cL_law 394 = .ok (.iaload, 1) := by decide +kernel
theorem dL_law_395 : decode cL_law 395 = .ok (.aload_n 0, 1) := by decide +kernel
theorem dL_law_396 : decode cL_law 396 = .ok (.iload_n 3, 1) := by decide +kernel
theorem dL_law_397 : decode cL_law 397 = .ok (.iconst 2, 1) := by decide +kernel
theorem dL_law_398 : decode cL_law 398 = .ok (.iadd, 1) := by decide +kernel
theorem dL_law_399 : decode cL_law 399 = .ok (.iaload, 1) := by decide +kernel
theorem dL_law_400 : decode cL_law 400 = .ok (.invokevirtual 45, 3) := by decide +kernel
theorem dL_law_403 : decode cL_law 403 = .ok (.aload_n 2, 1) := by decide +kernel
theorem dL_law_404 : decode cL_law 404 = .ok (.aload_n 0, 1) := by decide +kernel
theorem dL_law_405 : decode cL_law 405 = .ok (.iload_n 3, 1) := by decide +kernel
theorem dL_law_406 : decode cL_law 406 = .ok (.iconst 1, 1) := by decide +kernel
theorem dL_law_407 : decode cL_law 407 = .ok (.iadd, 1) := by decide +kernel
theorem dL_law_408 : decode cL_law 408 = .ok (.iaload, 1) := by decide +kernel
theorem dL_law_409 : decode cL_law 409 = .ok (.aload_n 0, 1) := by decide +kernel
theorem dL_law_410 : decode cL_law 410 = .ok (.iload_n 3, 1) := by decide +kernel
theorem dL_law_411 : decode cL_law 411 = .ok (.iconst 2, 1) := by decide +kernel
theorem dL_law_412 : decode cL_law 412 = .ok (.iadd, 1) := by decide +kernel
theorem dL_law_413 : decode cL_law 413 = .ok (.iaload, 1) := by decide +kernel
theorem dL_law_414 : decode cL_law 414 = .ok (.invokevirtual 48, 3) := by decide +kernel
theorem dL_law_417 : decode cL_law 417 = .ok (.if_icmp .eq 291, 3) := by decide +kernel
theorem dL_law_420 : decode cL_law 420 = .ok (.iconst 0, 1) := by decide +kernel
theorem dL_law_421 : decode cL_law 421 = .ok (.ireturn, 1) := by decide +kernel
theorem dL_law_422 : decode cL_law 422 = .ok (.aload_n 1, 1) := by decide +kernel
theorem dL_law_423 : decode cL_law 423 = .ok (.invokevirtual 49, 3) := by decide +kernel
theorem dL_law_426 : decode cL_law 426 = .ok (.aload_n 2, 1) := by decide +kernel
theorem dL_law_427 : decode cL_law 427 = .ok (.invokevirtual 53, 3) := by decide +kernel
theorem dL_law_430 : decode cL_law 430 = .ok (.if_icmp .eq 278, 3) := by decide +kernel
theorem dL_law_433 : decode cL_law 433 = .ok (.iconst 0, 1) := by decide +kernel
theorem dL_law_434 : decode cL_law 434 = .ok (.ireturn, 1) := by decide +kernel
theorem dL_law_435 : decode cL_law 435 = .ok (.aload_n 1, 1) := by decide +kernel
theorem dL_law_436 : decode cL_law 436 = .ok (.aload_n 0, 1) := by decide +kernel
theorem dL_law_437 : decode cL_law 437 = .ok (.iload_n 3, 1) := by decide +kernel
theorem dL_law_438 : decode cL_law 438 = .ok (.iconst 1, 1) := by decide +kernel
theorem dL_law_439 : decode cL_law 439 = .ok (.iadd, 1) := by decide +kernel
theorem dL_law_440 : decode cL_law 440 = .ok (.iaload, 1) := by decide +kernel
theorem dL_law_441 : decode cL_law 441 = .ok (.aload_n 0, 1) := by decide +kernel
theorem dL_law_442 : decode cL_law 442 = .ok (.iload_n 3, 1) := by decide +kernel
theorem dL_law_443 : decode cL_law 443 = .ok (.iconst 2, 1) := by decide +kernel
theorem dL_law_444 : decode cL_law 444 = .ok (.iadd, 1) := by decide +kernel
theorem dL_law_445 : decode cL_law 445 = .ok (.iaload, 1) := by decide +kernel
theorem dL_law_446 : decode cL_law 446 = .ok (.invokevirtual 54, 3) := by decide +kernel
theorem dL_law_449 : decode cL_law 449 = .ok (.aload_n 2, 1) := by decide +kernel
theorem dL_law_450 : decode cL_law 450 = .ok (.aload_n 0, 1) := by decide +kernel
theorem dL_law_451 : decode cL_law 451 = .ok (.iload_n 3, 1) := by decide +kernel
theorem dL_law_452 : decode cL_law 452 = .ok (.iconst 1, 1) := by decide +kernel
theorem dL_law_453 : decode cL_law 453 = .ok (.iadd, 1) := by decide +kernel
theorem dL_law_454 : decode cL_law 454 = .ok (.iaload, 1) := by decide +kernel
theorem dL_law_455 : decode cL_law 455 = .ok (.aload_n 0, 1) := by decide +kernel
theorem dL_law_456 : decode cL_law 456 = .ok (.iload_n 3, 1) := by decide +kernel
theorem dL_law_457 : decode cL_law 457 = .ok (.iconst 2, 1) := by decide +kernel
theorem dL_law_458 : decode cL_law 458 = .ok (.iadd, 1) := by decide +kernel
theorem dL_law_459 : decode cL_law 459 = .ok (.iaload, 1) := by decide +kernel
theorem dL_law_460 : decode cL_law 460 = .ok (.invokevirtual 57, 3) := by decide +kernel
theorem dL_law_463 : decode cL_law 463 = .ok (.if_icmp .eq 245, 3) := by decide +kernel
theorem dL_law_466 : decode cL_law 466 = .ok (.iconst 0, 1) := by decide +kernel
theorem dL_law_467 : decode cL_law 467 = .ok (.ireturn, 1) := by decide +kernel
theorem dL_law_468 : decode cL_law 468 = .ok (.aload_n 1, 1) := by decide +kernel
theorem dL_law_469 : decode cL_law 469 = .ok (.invokevirtual 58, 3) := by decide +kernel
theorem dL_law_472 : decode cL_law 472 = .ok (.aload_n 2, 1) := by decide +kernel
theorem dL_law_473 : decode cL_law 473 = .ok (.invokevirtual 61, 3) := by decide +kernel
theorem dL_law_476 : decode cL_law 476 = .ok (.if_icmp .eq 232, 3) := by decide +kernel
theorem dL_law_479 : decode cL_law 479 = .ok (.iconst 0, 1) := by decide +kernel
theorem dL_law_480 : decode cL_law 480 = .ok (.ireturn, 1) := by decide +kernel
theorem dL_law_481 : decode cL_law 481 = .ok (.aload_n 1, 1) := by decide +kernel
theorem dL_law_482 : decode cL_law 482 = .ok (.aload_n 0, 1) := by decide +kernel
theorem dL_law_483 : decode cL_law 483 = .ok (.iload_n 3, 1) := by decide +kernel
theorem dL_law_484 : decode cL_law 484 = .ok (.iconst 1, 1) := by decide +kernel
theorem dL_law_485 : decode cL_law 485 = .ok (.iadd, 1) := by decide +kernel
theorem dL_law_486 : decode cL_law 486 = .ok (.iaload, 1) := by decide +kernel
theorem dL_law_487 : decode cL_law 487 = .ok (.aload_n 0, 1) := by decide +kernel
theorem dL_law_488 : decode cL_law 488 = .ok (.iload_n 3, 1) := by decide +kernel
theorem dL_law_489 : decode cL_law 489 = .ok (.iconst 2, 1) := by decide +kernel
theorem dL_law_490 : decode cL_law 490 = .ok (.iadd, 1) := by decide +kernel
theorem dL_law_491 : decode cL_law 491 = .ok (.iaload, 1) := by decide +kernel
theorem dL_law_492 : decode cL_law 492 = .ok (.invokevirtual 62, 3) := by decide +kernel
theorem dL_law_495 : decode cL_law 495 = .ok (.aload_n 2, 1) := by decide +kernel
theorem dL_law_496 : decode cL_law 496 = .ok (.aload_n 0, 1) := by decide +kernel
theorem dL_law_497 : decode cL_law 497 = .ok (.iload_n 3, 1) := by decide +kernel
theorem dL_law_498 : decode cL_law 498 = .ok (.iconst 1, 1) := by decide +kernel
theorem dL_law_499 : decode cL_law 499 = .ok (.iadd, 1) := by decide +kernel
theorem dL_law_500 : decode cL_law 500 = .ok (.iaload, 1) := by decide +kernel
theorem dL_law_501 : decode cL_law 501 = .ok (.aload_n 0, 1) := by decide +kernel
theorem dL_law_502 : decode cL_law 502 = .ok (.iload_n 3, 1) := by decide +kernel
theorem dL_law_503 : decode cL_law 503 = .ok (.iconst 2, 1) := by decide +kernel
theorem dL_law_504 : decode cL_law 504 = .ok (.iadd, 1) := by decide +kernel
theorem dL_law_505 : decode cL_law 505 = .ok (.iaload, 1) := by decide +kernel
theorem dL_law_506 : decode cL_law 506 = .ok (.invokevirtual 65, 3) := by decide +kernel
theorem dL_law_509 : decode cL_law 509 = .ok (.if_icmp .eq 199, 3) := by decide +kernel
theorem dL_law_512 : decode cL_law 512 = .ok (.iconst 0, 1) := by decide +kernel
theorem dL_law_513 : decode cL_law 513 = .ok (.ireturn, 1) := by decide +kernel
theorem dL_law_514 : decode cL_law 514 = .ok (.aload_n 1, 1) := by decide +kernel
theorem dL_law_515 : decode cL_law 515 = .ok (.aload_n 0, 1) := by decide +kernel
theorem dL_law_516 : decode cL_law 516 = .ok (.iload_n 3, 1) := by decide +kernel
theorem dL_law_517 : decode cL_law 517 = .ok (.iconst 1, 1) := by decide +kernel
theorem dL_law_518 : decode cL_law 518 = .ok (.iadd, 1) := by decide +kernel
theorem dL_law_519 : decode cL_law 519 = .ok (.iaload, 1) := by decide +kernel
theorem dL_law_520 : decode cL_law 520 = .ok (.aload_n 0, 1) := by decide +kernel
theorem dL_law_521 : decode cL_law 521 = .ok (.iload_n 3, 1) := by decide +kernel
theorem dL_law_522 : decode cL_law 522 = .ok (.iconst 2, 1) := by decide +kernel
theorem dL_law_523 : decode cL_law 523 = .ok (.iadd, 1) := by decide +kernel
theorem dL_law_524 : decode cL_law 524 = .ok (.iaload, 1) := by decide +kernel
theorem dL_law_525 : decode cL_law 525 = .ok (.invokevirtual 66, 3) := by decide +kernel
theorem dL_law_528 : decode cL_law 528 = .ok (.aload_n 2, 1) := by decide +kernel
theorem dL_law_529 : decode cL_law 529 = .ok (.aload_n 0, 1) := by decide +kernel
theorem dL_law_530 : decode cL_law 530 = .ok (.iload_n 3, 1) := by decide +kernel
theorem dL_law_531 : decode cL_law 531 = .ok (.iconst 1, 1) := by decide +kernel
theorem dL_law_532 : decode cL_law 532 = .ok (.iadd, 1) := by decide +kernel
theorem dL_law_533 : decode cL_law 533 = .ok (.iaload, 1) := by decide +kernel
theorem dL_law_534 : decode cL_law 534 = .ok (.aload_n 0, 1) := by decide +kernel
theorem dL_law_535 : decode cL_law 535 = .ok (.iload_n 3, 1) := by decide +kernel
theorem dL_law_536 : decode cL_law 536 = .ok (.iconst 2, 1) := by decide +kernel
theorem dL_law_537 : decode cL_law 537 = .ok (.iadd, 1) := by decide +kernel
theorem dL_law_538 : decode cL_law 538 = .ok (.iaload, 1) := by decide +kernel
theorem dL_law_539 : decode cL_law 539 = .ok (.invokevirtual 69, 3) := by decide +kernel
theorem dL_law_542 : decode cL_law 542 = .ok (.if_icmp .eq 166, 3) := by decide +kernel
theorem dL_law_545 : decode cL_law 545 = .ok (.iconst 0, 1) := by decide +kernel
theorem dL_law_546 : decode cL_law 546 = .ok (.ireturn, 1) := by decide +kernel
theorem dL_law_547 : decode cL_law 547 = .ok (.aload_n 1, 1) := by decide +kernel
theorem dL_law_548 : decode cL_law 548 = .ok (.aload_n 0, 1) := by decide +kernel
theorem dL_law_549 : decode cL_law 549 = .ok (.iload_n 3, 1) := by decide +kernel
theorem dL_law_550 : decode cL_law 550 = .ok (.iconst 1, 1) := by decide +kernel
theorem dL_law_551 : decode cL_law 551 = .ok (.iadd, 1) := by decide +kernel
theorem dL_law_552 : decode cL_law 552 = .ok (.iaload, 1) := by decide +kernel
theorem dL_law_553 : decode cL_law 553 = .ok (.invokevirtual 70, 3) := by decide +kernel
theorem dL_law_556 : decode cL_law 556 = .ok (.aload_n 2, 1) := by decide +kernel
theorem dL_law_557 : decode cL_law 557 = .ok (.aload_n 0, 1) := by decide +kernel
theorem dL_law_558 : decode cL_law 558 = .ok (.iload_n 3, 1) := by decide +kernel
theorem dL_law_559 : decode cL_law 559 = .ok (.iconst 1, 1) := by decide +kernel
theorem dL_law_560 : decode cL_law 560 = .ok (.iadd, 1) := by decide +kernel
theorem dL_law_561 : decode cL_law 561 = .ok (.iaload, 1) := by decide +kernel
theorem dL_law_562 : decode cL_law 562 = .ok (.invokevirtual 73, 3) := by decide +kernel
theorem dL_law_565 : decode cL_law 565 = .ok (.if_icmp .eq 143, 3) := by decide +kernel
theorem dL_law_568 : decode cL_law 568 = .ok (.iconst 0, 1) := by decide +kernel
theorem dL_law_569 : decode cL_law 569 = .ok (.ireturn, 1) := by decide +kernel
theorem dL_law_570 : decode cL_law 570 = .ok (.aload_n 1, 1) := by decide +kernel
theorem dL_law_571 : decode cL_law 571 = .ok (.invokevirtual 74, 3) := by decide +kernel
theorem dL_law_574 : decode cL_law 574 = .ok (.aload_n 2, 1) := by decide +kernel
theorem dL_law_575 : decode cL_law 575 = .ok (.invokevirtual 77, 3) := by decide +kernel
theorem dL_law_578 : decode cL_law 578 = .ok (.if_icmp .eq 130, 3) := by decide +kernel
theorem dL_law_581 : decode cL_law 581 = .ok (.iconst 0, 1) := by decide +kernel
theorem dL_law_582 : decode cL_law 582 = .ok (.ireturn, 1) := by decide +kernel
theorem dL_law_583 : decode cL_law 583 = .ok (.aload_n 1, 1) := by decide +kernel
theorem dL_law_584 : decode cL_law 584 = .ok (.aload_n 0, 1) := by decide +kernel
theorem dL_law_585 : decode cL_law 585 = .ok (.iload_n 3, 1) := by decide +kernel
theorem dL_law_586 : decode cL_law 586 = .ok (.iconst 1, 1) := by decide +kernel
theorem dL_law_587 : decode cL_law 587 = .ok (.iadd, 1) := by decide +kernel
theorem dL_law_588 : decode cL_law 588 = .ok (.iaload, 1) := by decide +kernel
theorem dL_law_589 : decode cL_law 589 = .ok (.invokevirtual 78, 3) := by decide +kernel
theorem dL_law_592 : decode cL_law 592 = .ok (.aload_n 2, 1) := by decide +kernel
theorem dL_law_593 : decode cL_law 593 = .ok (.aload_n 0, 1) := by decide +kernel
theorem dL_law_594 : decode cL_law 594 = .ok (.iload_n 3, 1) := by decide +kernel
theorem dL_law_595 : decode cL_law 595 = .ok (.iconst 1, 1) := by decide +kernel
theorem dL_law_596 : decode cL_law 596 = .ok (.iadd, 1) := by decide +kernel
theorem dL_law_597 : decode cL_law 597 = .ok (.iaload, 1) := by decide +kernel
theorem dL_law_598 : decode cL_law 598 = .ok (.invokevirtual 81, 3) := by decide +kernel
theorem dL_law_601 : decode cL_law 601 = .ok (.if_icmp .eq 107, 3) := by decide +kernel
theorem dL_law_604 : decode cL_law 604 = .ok (.iconst 0, 1) := by decide +kernel
theorem dL_law_605 : decode cL_law 605 = .ok (.ireturn, 1) := by decide +kernel
theorem dL_law_606 : decode cL_law 606 = .ok (.aload_n 1, 1) := by decide +kernel
theorem dL_law_607 : decode cL_law 607 = .ok (.aload_n 0, 1) := by decide +kernel
theorem dL_law_608 : decode cL_law 608 = .ok (.iload_n 3, 1) := by decide +kernel
theorem dL_law_609 : decode cL_law 609 = .ok (.iconst 1, 1) := by decide +kernel
theorem dL_law_610 : decode cL_law 610 = .ok (.iadd, 1) := by decide +kernel
theorem dL_law_611 : decode cL_law 611 = .ok (.iaload, 1) := by decide +kernel
theorem dL_law_612 : decode cL_law 612 = .ok (.aload_n 0, 1) := by decide +kernel
theorem dL_law_613 : decode cL_law 613 = .ok (.iload_n 3, 1) := by decide +kernel
theorem dL_law_614 : decode cL_law 614 = .ok (.iconst 2, 1) := by decide +kernel
theorem dL_law_615 : decode cL_law 615 = .ok (.iadd, 1) := by decide +kernel
theorem dL_law_616 : decode cL_law 616 = .ok (.iaload, 1) := by decide +kernel
theorem dL_law_617 : decode cL_law 617 = .ok (.invokevirtual 82, 3) := by decide +kernel
theorem dL_law_620 : decode cL_law 620 = .ok (.aload_n 2, 1) := by decide +kernel
theorem dL_law_621 : decode cL_law 621 = .ok (.aload_n 0, 1) := by decide +kernel
theorem dL_law_622 : decode cL_law 622 = .ok (.iload_n 3, 1) := by decide +kernel
theorem dL_law_623 : decode cL_law 623 = .ok (.iconst 1, 1) := by decide +kernel
theorem dL_law_624 : decode cL_law 624 = .ok (.iadd, 1) := by decide +kernel
theorem dL_law_625 : decode cL_law 625 = .ok (.iaload, 1) := by decide +kernel
theorem dL_law_626 : decode cL_law 626 = .ok (.aload_n 0, 1) := by decide +kernel
theorem dL_law_627 : decode cL_law 627 = .ok (.iload_n 3, 1) := by decide +kernel
theorem dL_law_628 : decode cL_law 628 = .ok (.iconst 2, 1) := by decide +kernel
theorem dL_law_629 : decode cL_law 629 = .ok (.iadd, 1) := by decide +kernel
theorem dL_law_630 : decode cL_law 630 = .ok (.iaload, 1) := by decide +kernel
theorem dL_law_631 : decode cL_law 631 = .ok (.invokevirtual 85, 3) := by decide +kernel
theorem dL_law_634 : decode cL_law 634 = .ok (.if_icmp .eq 74, 3) := by decide +kernel
theorem dL_law_637 : decode cL_law 637 = .ok (.iconst 0, 1) := by decide +kernel
theorem dL_law_638 : decode cL_law 638 = .ok (.ireturn, 1) := by decide +kernel
theorem dL_law_639 : decode cL_law 639 = .ok (.aload_n 1, 1) := by decide +kernel
theorem dL_law_640 : decode cL_law 640 = .ok (.aload_n 0, 1) := by decide +kernel
theorem dL_law_641 : decode cL_law 641 = .ok (.iload_n 3, 1) := by decide +kernel
theorem dL_law_642 : decode cL_law 642 = .ok (.iconst 1, 1) := by decide +kernel
theorem dL_law_643 : decode cL_law 643 = .ok (.iadd, 1) := by decide +kernel
theorem dL_law_644 : decode cL_law 644 = .ok (.iaload, 1) := by decide +kernel
theorem dL_law_645 : decode cL_law 645 = .ok (.invokevirtual 86, 3) := by decide +kernel
theorem dL_law_648 : decode cL_law 648 = .ok (.aload_n 2, 1) := by decide +kernel
theorem dL_law_649 : decode cL_law 649 = .ok (.aload_n 0, 1) := by decide +kernel
theorem dL_law_650 : decode cL_law 650 = .ok (.iload_n 3, 1) := by decide +kernel
theorem dL_law_651 : decode cL_law 651 = .ok (.iconst 1, 1) := by decide +kernel
theorem dL_law_652 : decode cL_law 652 = .ok (.iadd, 1) := by decide +kernel
theorem dL_law_653 : decode cL_law 653 = .ok (.iaload, 1) := by decide +kernel
theorem dL_law_654 : decode cL_law 654 = .ok (.invokevirtual 89, 3) := by decide +kernel
theorem dL_law_657 : decode cL_law 657 = .ok (.if_icmp .eq 51, 3) := by decide +kernel
theorem dL_law_660 : decode cL_law 660 = .ok (.iconst 0, 1) := by decide +kernel
theorem dL_law_661 : decode cL_law 661 = .ok (.ireturn, 1) := by decide +kernel
theorem dL_law_662 : decode cL_law 662 = .ok (.aload_n 1, 1) := by decide +kernel
theorem dL_law_663 : decode cL_law 663 = .ok (.aload_n 0, 1) := by decide +kernel
theorem dL_law_664 : decode cL_law 664 = .ok (.iload_n 3, 1) := by decide +kernel
theorem dL_law_665 : decode cL_law 665 = .ok (.iconst 1, 1) := by decide +kernel
theorem dL_law_666 : decode cL_law 666 = .ok (.iadd, 1) := by decide +kernel
theorem dL_law_667 : decode cL_law 667 = .ok (.iaload, 1) := by decide +kernel
theorem dL_law_668 : decode cL_law 668 = .ok (.invokevirtual 90, 3) := by decide +kernel
theorem dL_law_671 : decode cL_law 671 = .ok (.aload_n 2, 1) := by decide +kernel
theorem dL_law_672 : decode cL_law 672 = .ok (.aload_n 0, 1) := by decide +kernel
theorem dL_law_673 : decode cL_law 673 = .ok (.iload_n 3, 1) := by decide +kernel
theorem dL_law_674 : decode cL_law 674 = .ok (.iconst 1, 1) := by decide +kernel
theorem dL_law_675 : decode cL_law 675 = .ok (.iadd, 1) := by decide +kernel
theorem dL_law_676 : decode cL_law 676 = .ok (.iaload, 1) := by decide +kernel
theorem dL_law_677 : decode cL_law 677 = .ok (.invokevirtual 93, 3) := by decide +kernel
theorem dL_law_680 : decode cL_law 680 = .ok (.if_icmp .eq 28, 3) := by decide +kernel
theorem dL_law_683 : decode cL_law 683 = .ok (.iconst 0, 1) := by decide +kernel
theorem dL_law_684 : decode cL_law 684 = .ok (.ireturn, 1) := by decide +kernel
theorem dL_law_685 : decode cL_law 685 = .ok (.aload_n 1, 1) := by decide +kernel
theorem dL_law_686 : decode cL_law 686 = .ok (.aload_n 0, 1) := by decide +kernel
theorem dL_law_687 : decode cL_law 687 = .ok (.iload_n 3, 1) := by decide +kernel
theorem dL_law_688 : decode cL_law 688 = .ok (.iconst 1, 1) := by decide +kernel
theorem dL_law_689 : decode cL_law 689 = .ok (.iadd, 1) := by decide +kernel
theorem dL_law_690 : decode cL_law 690 = .ok (.iaload, 1) := by decide +kernel
theorem dL_law_691 : decode cL_law 691 = .ok (.invokevirtual 94, 3) := by decide +kernel
theorem dL_law_694 : decode cL_law 694 = .ok (.aload_n 2, 1) := by decide +kernel
theorem dL_law_695 : decode cL_law 695 = .ok (.aload_n 0, 1) := by decide +kernel
theorem dL_law_696 : decode cL_law 696 = .ok (.iload_n 3, 1) := by decide +kernel
theorem dL_law_697 : decode cL_law 697 = .ok (.iconst 1, 1) := by decide +kernel
theorem dL_law_698 : decode cL_law 698 = .ok (.iadd, 1) := by decide +kernel
theorem dL_law_699 : decode cL_law 699 = .ok (.iaload, 1) := by decide +kernel
theorem dL_law_700 : decode cL_law 700 = .ok (.invokevirtual 97, 3) := by decide +kernel
theorem dL_law_703 : decode cL_law 703 = .ok (.if_icmp .eq 5, 3) := by decide +kernel
theorem dL_law_706 : decode cL_law 706 = .ok (.iconst 0, 1) := by decide +kernel
theorem dL_law_707 : decode cL_law 707 = .ok (.ireturn, 1) := by decide +kernel
theorem dL_law_708 : decode cL_law 708 = .ok (.iinc 3 6, 3) := by decide +kernel
theorem dL_law_711 : decode cL_law 711 = .ok (.goto (-693), 3) := by decide +kernel
theorem dL_law_714 : decode cL_law 714 = .ok (.iconst 1, 1) := by decide +kernel
theorem dL_law_715 : decode cL_law 715 = .ok (.ireturn, 1) := by decide +kernel
end
section
/-! THE WORLD BY ROLES. A role is a number for a place in the object graph; K: the kind of what is there (0 nothing, 1..8 objects, 11..15 arrays, 100 + n an int array of n), L: which reference slots are set, ad: the address of a role, I: all ints. -/
def TB : List Cond := lw_tbl.filter goodWord
theorem tb_in {w : Cond} (h : w ∈ lw_tbl) (g : goodWord w = true) : w ∈ TB := List.mem_filter.mpr ⟨h, g⟩
theorem tb_good {w : Cond} (h : w ∈ TB) : (w.onTables && w.keeps) = true ∨ ∃ ty, w = .arrayClass ty := good_of_word (List.mem_filter.mp h).2
theorem gd_in {c0 : Cond} {ws : List Cond} (h : ∀ w ∈ ws, w ∈ TB) : GoodIn (c0 :: TB) ws := fun w hw => ⟨List.mem_cons_of_mem _ (h w hw), tb_good (h w hw)⟩
theorem gd_tb {ws : List Cond} (h : ∀ w ∈ ws, w ∈ TB) : GoodIn TB ws := fun w hw => ⟨h w hw, tb_good (h w hw)⟩
abbrev classes : List vw_C := [(RX0, TX0, 3), (RX1, TX1, 6), (RX2, TX2, 11), (RX3, TX3, 5), (RX4, TX4, 3), (RX5, TX5, 4), (RX6, TX6, 8), (RX7, TX7, 27)]
/-- classes' numbers and slots, array classes, static arrays' addresses, the first address of the world -/
abbrev En : Type := va_G × (Nat → ClassId) × (Nat → Nat) × Nat
abbrev tysG (cy : Nat → ClassId) : List (ClassId × FieldType) := [(cy 0, .int), (cy 1, .boolean), (cy 2, .object RX0), (cy 3, .object RX5), (cy 4, .object RX3), (cy 5, .array .int)]
def qv (b : Bool) (a : Nat) : Value := if b = true then .ref a else .null
def qo (b : Bool) (a : Nat) : Option Nat := if b = true then some a else none
theorem qv_t {b : Bool} {a : Nat} (h : b = true) : qv b a = .ref a := if_pos h
theorem qo_t {b : Bool} {a : Nat} (h : b = true) : qo b a = some a := if_pos h
theorem qv_rf (b : Bool) (a : Nat) : va_rf (qo b a) = qv b a := by cases b <;> rfl
def up2 (I : Nat → Nat → Int32) (r k : Nat) (v : Int32) : Nat → Nat → Int32 := fun a => if a = r then upd (I r) k v else I a
theorem up2_s (I : Nat → Nat → Int32) (r k : Nat) (v : Int32) : up2 I r k v r k = v := by simp [up2, upd]
theorem up2_r {I : Nat → Nat → Int32} {r k : Nat} {v : Int32} {a : Nat} (h : a ≠ r) : up2 I r k v a = I a := by simp [up2, h]
theorem up2_k {I : Nat → Nat → Int32} {r k : Nat} {v : Int32} {a j : Nat} (h : j ≠ k) : up2 I r k v a j = I a j := by
  by_cases e : a = r
  · subst e; simp [up2, upd, h]
  · simp [up2, e]
theorem up2_at (I : Nat → Nat → Int32) (r k : Nat) (v : Int32) : up2 I r k v r = upd (I r) k v := by simp [up2]
theorem up2_eq (I : Nat → Nat → Int32) (r k : Nat) (v : Int32) (a j : Nat) : up2 I r k v a j = if a = r ∧ j = k then v else I a j := by
  by_cases e : a = r
  · subst e; by_cases f : j = k
    · subst f; simp [up2, upd]
    · simp [up2, upd, f]
  · simp [up2, e]
def wE (cy : Nat → ClassId) (K : Nat → Nat) (L : Nat → Nat → Bool) (ad : Nat → Nat) (I : Nat → Nat → Int32) (r : Nat) : va_E :=
  if K r = 1 then .inr (0, [.int (I r 0), .int (I r 1), .int (I r 2)]) else
  if K r = 2 then .inr (1, [qv (L r 0) (ad (r + 1)), .int (I r 1), .int (I r 2), .int (I r 3), .int (I r 4), qv (L r 5) (ad (r + 2))]) else
  if K r = 3 then .inr (2, [qv (L r 0) (ad (r + 1)), qv (L r 1) (ad (r + 2)), qv (L r 2) (ad (r + 3)), qv (L r 3) (ad (r + 4)), qv (L r 4) (ad (r + 5)), qv (L r 5) (ad (r + 6)), qv (L r 6) (ad (r + 7)), qv (L r 7) (ad (r + 8)), qv (L r 8) (ad (r + 9)), qv (L r 9) (ad (r + 10)), .int (I r 10)]) else
  if K r = 4 then .inr (3, [.int (I r 0), qv (L r 1) (ad (r + 1)), qv (L r 2) (ad (r + 2)), qv (L r 3) (ad (r + 3)), qv (L r 4) (ad (r + 4))]) else
  if K r = 5 then .inr (4, [qv (L r 0) (ad (r + 1)), qv (L r 1) (ad (r + 2)), qv (L r 2) (ad (r + 3))]) else
  if K r = 6 then .inr (5, [.int (I r 0), .int (I r 1), qv (L r 2) (ad (r + 1)), qv (L r 3) (ad (r + 2))]) else
  if K r = 7 then .inr (6, [qv (L r 0) (ad (r + 100)), qv (L r 1) (ad (r + 10)), qv (L r 2) (ad (r + 30)), qv (L r 3) (ad (r + 40)), qv (L r 4) (ad (r + 50)), .int (I r 5), .int (I r 6), .int (I r 7)]) else
  if K r = 8 then .inr (7, [.int (I r 0), qv (L r 1) (ad (r + 1)), qv (L r 2) (ad (r + 2)), qv (L r 3) (ad (r + 3)), qv (L r 4) (ad (r + 4)), qv (L r 5) (ad (r + 5)), qv (L r 6) (ad (r + 6)), qv (L r 7) (ad (r + 7)), qv (L r 8) (ad (r + 8)), qv (L r 9) (ad (r + 9)), qv (L r 10) (ad (r + 10)), qv (L r 11) (ad (r + 11)), qv (L r 12) (ad (r + 12)), qv (L r 13) (ad (r + 13)), qv (L r 14) (ad (r + 14)), qv (L r 15) (ad (r + 15)), qv (L r 16) (ad (r + 16)), qv (L r 17) (ad (r + 17)), .int (I r 18), .int (I r 19), .int (I r 20), qv (L r 21) (ad (r + 21)), .int (I r 22), .int (I r 23), .int (I r 24), qv (L r 25) (ad (r + 25)), qv (L r 26) (ad (r + 26))]) else
  if K r = 11 then .inl (cy 2, 5, .inr (.inr (.inr (.inr (fun j => qo (L r j) (ad (r + 1 + j))))))) else
  if K r = 12 then .inl (cy 3, 8, .inr (.inr (.inr (.inr (fun j => qo (L r j) (ad (r + 7 + 8 * (I r j).toNatClampNeg))))))) else
  if K r = 13 then .inl (cy 4, 2, .inr (.inr (.inr (.inr (fun j => qo (L r j) (ad (r + 150 + 100 * j))))))) else
  if K r = 14 then .inl (cy 5, 4, .inr (.inr (.inr (.inr (fun j => qo (L r j) (ad (r + 1 + j))))))) else
  if K r = 15 then .inl (cy 1, 2, .inl (I r)) else
  .inl (cy 0, K r - 100, .inl (I r))
theorem wE_1 (cy : Nat → ClassId) {K : Nat → Nat} (L : Nat → Nat → Bool) (ad : Nat → Nat) (I : Nat → Nat → Int32) {r : Nat} (h : K r = 1) : wE cy K L ad I r = .inr (0, [.int (I r 0), .int (I r 1), .int (I r 2)]) := by simp [wE, h]
theorem wE_2 (cy : Nat → ClassId) {K : Nat → Nat} (L : Nat → Nat → Bool) (ad : Nat → Nat) (I : Nat → Nat → Int32) {r : Nat} (h : K r = 2) : wE cy K L ad I r = .inr (1, [qv (L r 0) (ad (r + 1)), .int (I r 1), .int (I r 2), .int (I r 3), .int (I r 4), qv (L r 5) (ad (r + 2))]) := by simp [wE, h]
theorem wE_3 (cy : Nat → ClassId) {K : Nat → Nat} (L : Nat → Nat → Bool) (ad : Nat → Nat) (I : Nat → Nat → Int32) {r : Nat} (h : K r = 3) : wE cy K L ad I r = .inr (2, [qv (L r 0) (ad (r + 1)), qv (L r 1) (ad (r + 2)), qv (L r 2) (ad (r + 3)), qv (L r 3) (ad (r + 4)), qv (L r 4) (ad (r + 5)), qv (L r 5) (ad (r + 6)), qv (L r 6) (ad (r + 7)), qv (L r 7) (ad (r + 8)), qv (L r 8) (ad (r + 9)), qv (L r 9) (ad (r + 10)), .int (I r 10)]) := by simp [wE, h]
theorem wE_4 (cy : Nat → ClassId) {K : Nat → Nat} (L : Nat → Nat → Bool) (ad : Nat → Nat) (I : Nat → Nat → Int32) {r : Nat} (h : K r = 4) : wE cy K L ad I r = .inr (3, [.int (I r 0), qv (L r 1) (ad (r + 1)), qv (L r 2) (ad (r + 2)), qv (L r 3) (ad (r + 3)), qv (L r 4) (ad (r + 4))]) := by simp [wE, h]
theorem wE_5 (cy : Nat → ClassId) {K : Nat → Nat} (L : Nat → Nat → Bool) (ad : Nat → Nat) (I : Nat → Nat → Int32) {r : Nat} (h : K r = 5) : wE cy K L ad I r = .inr (4, [qv (L r 0) (ad (r + 1)), qv (L r 1) (ad (r + 2)), qv (L r 2) (ad (r + 3))]) := by simp [wE, h]
theorem wE_6 (cy : Nat → ClassId) {K : Nat → Nat} (L : Nat → Nat → Bool) (ad : Nat → Nat) (I : Nat → Nat → Int32) {r : Nat} (h : K r = 6) : wE cy K L ad I r = .inr (5, [.int (I r 0), .int (I r 1), qv (L r 2) (ad (r + 1)), qv (L r 3) (ad (r + 2))]) := by simp [wE, h]
theorem wE_7 (cy : Nat → ClassId) {K : Nat → Nat} (L : Nat → Nat → Bool) (ad : Nat → Nat) (I : Nat → Nat → Int32) {r : Nat} (h : K r = 7) : wE cy K L ad I r = .inr (6, [qv (L r 0) (ad (r + 100)), qv (L r 1) (ad (r + 10)), qv (L r 2) (ad (r + 30)), qv (L r 3) (ad (r + 40)), qv (L r 4) (ad (r + 50)), .int (I r 5), .int (I r 6), .int (I r 7)]) := by simp [wE, h]
theorem wE_8 (cy : Nat → ClassId) {K : Nat → Nat} (L : Nat → Nat → Bool) (ad : Nat → Nat) (I : Nat → Nat → Int32) {r : Nat} (h : K r = 8) : wE cy K L ad I r = .inr (7, [.int (I r 0), qv (L r 1) (ad (r + 1)), qv (L r 2) (ad (r + 2)), qv (L r 3) (ad (r + 3)), qv (L r 4) (ad (r + 4)), qv (L r 5) (ad (r + 5)), qv (L r 6) (ad (r + 6)), qv (L r 7) (ad (r + 7)), qv (L r 8) (ad (r + 8)), qv (L r 9) (ad (r + 9)), qv (L r 10) (ad (r + 10)), qv (L r 11) (ad (r + 11)), qv (L r 12) (ad (r + 12)), qv (L r 13) (ad (r + 13)), qv (L r 14) (ad (r + 14)), qv (L r 15) (ad (r + 15)), qv (L r 16) (ad (r + 16)), qv (L r 17) (ad (r + 17)), .int (I r 18), .int (I r 19), .int (I r 20), qv (L r 21) (ad (r + 21)), .int (I r 22), .int (I r 23), .int (I r 24), qv (L r 25) (ad (r + 25)), qv (L r 26) (ad (r + 26))]) := by simp [wE, h]
theorem wE_11 (cy : Nat → ClassId) {K : Nat → Nat} (L : Nat → Nat → Bool) (ad : Nat → Nat) (I : Nat → Nat → Int32) {r : Nat} (h : K r = 11) : wE cy K L ad I r = .inl (cy 2, 5, .inr (.inr (.inr (.inr (fun j => qo (L r j) (ad (r + 1 + j))))))) := by simp [wE, h]
theorem wE_12 (cy : Nat → ClassId) {K : Nat → Nat} (L : Nat → Nat → Bool) (ad : Nat → Nat) (I : Nat → Nat → Int32) {r : Nat} (h : K r = 12) : wE cy K L ad I r = .inl (cy 3, 8, .inr (.inr (.inr (.inr (fun j => qo (L r j) (ad (r + 7 + 8 * (I r j).toNatClampNeg))))))) := by simp [wE, h]
theorem wE_13 (cy : Nat → ClassId) {K : Nat → Nat} (L : Nat → Nat → Bool) (ad : Nat → Nat) (I : Nat → Nat → Int32) {r : Nat} (h : K r = 13) : wE cy K L ad I r = .inl (cy 4, 2, .inr (.inr (.inr (.inr (fun j => qo (L r j) (ad (r + 150 + 100 * j))))))) := by simp [wE, h]
theorem wE_14 (cy : Nat → ClassId) {K : Nat → Nat} (L : Nat → Nat → Bool) (ad : Nat → Nat) (I : Nat → Nat → Int32) {r : Nat} (h : K r = 14) : wE cy K L ad I r = .inl (cy 5, 4, .inr (.inr (.inr (.inr (fun j => qo (L r j) (ad (r + 1 + j))))))) := by simp [wE, h]
theorem wE_15 (cy : Nat → ClassId) {K : Nat → Nat} (L : Nat → Nat → Bool) (ad : Nat → Nat) (I : Nat → Nat → Int32) {r : Nat} (h : K r = 15) : wE cy K L ad I r = .inl (cy 1, 2, .inl (I r)) := by simp [wE, h]
theorem wE_A (cy : Nat → ClassId) {K : Nat → Nat} (L : Nat → Nat → Bool) (ad : Nat → Nat) (I : Nat → Nat → Int32) {r n : Nat} (h : K r = 100 + n) : wE cy K L ad I r = .inl (cy 0, n, .inl (I r)) := by
  have h1 : ∀ k, k < 100 → K r ≠ k := fun k hk e => by omega
  simp only [wE, h1 1 (by decide), h1 2 (by decide), h1 3 (by decide), h1 4 (by decide), h1 5 (by decide), h1 6 (by decide), h1 7 (by decide), h1 8 (by decide), h1 11 (by decide), h1 12 (by decide), h1 13 (by decide), h1 14 (by decide), h1 15 (by decide), if_false]
  rw [h, Nat.add_sub_cancel_left]
/-- an entry looks at its own row of I alone -/
theorem wE_cong {cy : Nat → ClassId} {K : Nat → Nat} {L L' : Nat → Nat → Bool} {ad : Nat → Nat} {I I' : Nat → Nat → Int32} {r : Nat} (h : I' r = I r) (hL : L' r = L r) : wE cy K L' ad I' r = wE cy K L ad I r := by simp only [wE, h, hL]
/-- the heap holds the world -/
def Hp (E : En) (K : Nat → Nat) (L : Nat → Nat → Bool) (ad : Nat → Nat) (I : Nat → Nat → Int32) (H : Heap) : Prop :=
  (∀ r, K r ≠ 0 → va_at E.1 classes (ad r, wE E.2.1 K L ad I r) H) ∧ (∀ r, K r ≠ 0 → E.2.2.2 ≤ ad r) ∧ (∀ r q, K r ≠ 0 → K q ≠ 0 → ad r = ad q → r = q) ∧ E.2.2.2 ≤ H.size
def AG (E : En) : Nat → Prop := fun q => E.2.2.2 ≤ q
theorem Hp.set {E : En} {K : Nat → Nat} {L L' : Nat → Nat → Bool} {ad : Nat → Nat} {I I' : Nat → Nat → Int32} {H H1 : Heap} {r : Nat} (h : Hp E K L ad I H) (hr : K r ≠ 0) (z : H1.size = H.size) (oq : ∀ q : Nat, q ≠ ad r → H1[q]? = H[q]?)
    (hat : va_at E.1 classes (ad r, wE E.2.1 K L' ad I' r) H1) (hI : ∀ a, a ≠ r → I' a = I a) (hL : ∀ a, a ≠ r → L' a = L a) : Hp E K L' ad I' H1 := by
  refine ⟨fun a ha => ?_, h.2.1, h.2.2.1, by rw [z]; exact h.2.2.2⟩
  by_cases e : a = r
  · subst e; exact hat
  · rw [wE_cong (hI a e) (hL a e)]
    exact (h.1 a ha).kept (oq _ (fun q => e (h.2.2.1 a r ha hr q)))
theorem Hp.eq {E : En} {K : Nat → Nat} {L : Nat → Nat → Bool} {ad : Nat → Nat} {I I' : Nat → Nat → Int32} {H : Heap} (h : Hp E K L ad I H) (e : ∀ a j, I' a j = I a j) : Hp E K L ad I' H := by
  have : I' = I := funext fun a => funext fun j => e a j
  rw [this]; exact h
/-- what the vm has, of the start alone -/
def nestM : Cond → Bool
  | .methodLinkNest _ _ _ _ => true
  | _ => false
def vT (ty : FieldType) (t N : Nat) (f : Nat → Value) (A : Nat → Prop) (U : State) (H : Heap) : Prop := ∃ cell : Cell, H[t]? = some cell ∧ U.isArrayOf cell ty ∧ cell.vm ≠ .unknown ∧ cell.slots.size = N ∧ (∀ j : Nat, j < N → cell.slots[j]? = some (f j)) ∧ ¬ A t
theorem vT.moved {ty : FieldType} {t N : Nat} {f : Nat → Value} {A : Nat → Prop} {u U : State} {H : Heap} (hvm : u.vm.Alike U.vm) (h : vT ty t N f A u H) : vT ty t N f A U H := by
  obtain ⟨cell, h1, h2, h3⟩ := h
  exact ⟨cell, h1, State.isArrayOf_alike hvm h2, h3⟩
theorem vT.kept {ty : FieldType} {t N : Nat} {f : Nat → Value} {A : Nat → Prop} {U : State} {H H1 : Heap} (h : vT ty t N f A U H) (hq : ∀ a : Nat, a < H.size → ¬ A a → H1[a]? = H[a]?) : vT ty t N f A U H1 := by
  obtain ⟨cell, h1, h2, h3, h4, h5, h6⟩ := h
  exact ⟨cell, by rw [hq t (Array.getElem?_eq_some_iff.mp h1).1 h6]; exact h1, h2, h3, h4, h5, h6⟩
theorem vT.va {ty : FieldType} {t N : Nat} {f : Nat → Value} {A : Nat → Prop} {U : State} {H : Heap} (h : vT ty t N f A U H) : va_T ty t N f A U H := by
  obtain ⟨cell, h1, h2, h3, h4, h5, h6⟩ := h
  exact ⟨cell, h1, h2, h3, by omega, by rw [h4], h5, h6⟩
def stN : Nat → String := fun j => match j with
  | 0 => "FIRST_RULES"
  | 1 => "LEAST_RULES"
  | 2 => "GREATEST_RULES"
  | _ => "GREATEST_X"
def stL : Nat → Nat := fun j => match j with
  | 3 => 10
  | _ => 4
def stV : Nat → Nat → Int32 := fun j i => match j with
  | 0 => ([10, 2, 8, 3] : List Int32).getD i 0
  | 1 => ([5, 1, 1, 1] : List Int32).getD i 0
  | 2 => ([20, 4, 8, 4] : List Int32).getD i 0
  | _ => ([0, 255, 5, 255, 5, 3, 3, 3, 0, 0] : List Int32).getD i 0
def Stc (E : En) (U : State) (H : Heap) : Prop := ∀ j, j < 4 → va_Z RX6 (stN j) "[I" (.ref (E.2.2.1 j)) (AG E) U H ∧ vT .int (E.2.2.1 j) (stL j) (fun i => .int (stV j i)) (AG E) U H
def Nst (U : State) : Prop := (∀ a i y h, Cond.methodLinkNest a i y h ∈ lw_tbl → va_Nw (.methodLinkNest a i y h) U) ∧ (∀ a i b n d h, Cond.fieldLinkNest a i b n d h ∈ lw_tbl → va_Nw (.fieldLinkNest a i b n d h) U) ∧ (∀ a b, Cond.castable a b ∈ lw_tbl → va_Nw (.castable a b) U) ∧ (∀ C, Cond.arrayOver (.object C) ∈ lw_tbl → va_AO C U)
def Vp (E : En) (U : State) : Prop := va_K E.1 classes (tysG E.2.1) U ∧ Nst U ∧ Stc E U U.heap
theorem Nst.warm {s U : State} (hW : s.WarmedH U.vm) (h : Nst s) : Nst U := ⟨fun a i y k hm => va_Nw.warmM hW (h.1 a i y k hm), fun a i b n d k hm => va_Nw.warmF hW (h.2.1 a i b n d k hm), fun a b hm => va_Nw.warmC hW (h.2.2.1 a b hm), fun C hm => va_AO.moved hW.alike (h.2.2.2 C hm)⟩
theorem Vp.to {E : En} {s U : State} {H : Heap} {locs : List Loc} (h : Vp E s) (hS : va_S (AG E) s.heap H locs) (hU : U.heap = H) (hW : s.WarmedH U.vm) : Vp E U := by
  refine ⟨va_K.moved hW.alike h.1, h.2.1.warm hW, fun j hj => ?_⟩
  obtain ⟨h1, h2⟩ := h.2.2 j hj
  rw [hU]
  exact ⟨va_Z.moved hW.alike (h1.kept hS.2.1), vT.moved hW.alike (h2.kept hS.2.1)⟩
theorem Vp.calling {E : En} {U : State} (g : JFrame) (mk : MethodId) (a : Array Value) (h : Vp E U) : Vp E (U.calling g mk a) := by
  have hW : U.WarmedH (U.calling g mk a).vm := State.WarmedH.refl U
  exact h.to (H := U.heap) (locs := []) va_S.rf rfl hW
def PcW (E : En) (K : Nat → Nat) (L : Nat → Nat → Bool) (ad : Nat → Nat) (I : Nat → Nat → Int32) (av : List Value) : Array Value → State → Prop := va_Pc av (fun U => Hp E K L ad I U.heap ∧ Vp E U)
theorem PcW.blind {E : En} {K : Nat → Nat} {L : Nat → Nat → Bool} {ad : Nat → Nat} {I : Nat → Nat → Int32} {av : List Value} : FrameBlind (PcW E K L ad I av) := fun _ _ g mk h => ⟨h.1, h.2.1, h.2.2.calling g mk _⟩
/-- room of a method k calls above the deepest one -/
def rmk (k : Nat) : Room := { frames := k, cells := 0, slots := 0, locals := 26 * k }
/-- contracts: a method that makes nothing; its world before, what it answers and its world behind -/
def MI (l : Launch) (E : En) (K : Nat → Nat) (L : Nat → Nat → Bool) (ad : Nat → Nat) (I : Nat → Nat → Int32) (y : MethodName) (b : ByteArray) (n : Nat) (rt : Option FieldType) (k : Nat) (av : List Value) (post : Int32 → (Nat → Nat → Int32) → Prop) : Prop :=
  Met l y (.code y b n rt :: TB) (rmk k) (PcW E K L ad I av) (va_Qi post (fun J t => Hp E K L ad J t.heap) (AG E)) 0 0 (AG E)
def MV (l : Launch) (E : En) (K : Nat → Nat) (L : Nat → Nat → Bool) (ad : Nat → Nat) (I : Nat → Nat → Int32) (y : MethodName) (b : ByteArray) (n : Nat) (k : Nat) (av : List Value) (post : (Nat → Nat → Int32) → Prop) : Prop :=
  Met l y (.code y b n none :: TB) (rmk k) (PcW E K L ad I av) (va_Qv post (fun J t => Hp E K L ad J t.heap) (AG E)) 0 0 (AG E)
/-- what stands all through a method -/
def Cx (E : En) (p : Program) (s : State) (m : MethodId) (args : Array Value) (c : Code) (cc : ByteArray) (own : String) (nL : Nat) : Prop :=
  p.tables.exec = Jvm.exec ∧ c.code = cc ∧ (∀ w ∈ TB, w.before args s = true) ∧ s.vm.findClass own = some m.cls ∧ Vp E s ∧ c.maxLocals = nL
section RW
variable {p : Program} {l : Launch} {e : Env} {R : Room} {s : State} {m : MethodId} {args : Array Value} {below : List Frame} {meth : Method} {c : Code} {H : Heap} {locs : List Loc} {cells slots : Nat} {Q : State → Prop}
variable {cc : ByteArray} {pc : Nat} {ls : Array Slot} {rest : List Value} {E : En} {K : Nat → Nat} {L : Nat → Nat → Bool} {ad : Nat → Nat} {I : Nat → Nat → Int32} {r : Nat} {own : String} {nL : Nat}
/-- returns -/
theorem r_iret {post : Int32 → (Nat → Nat → Int32) → Prop} {v : Int32} (C : Cx E p s m args c cc own nL) (hr : meth.sig.returnType = some .int) (hlk : meth.locks = false) (hP : Hp E K L ad I H) (hS : va_S (AG E) s.heap H locs) (hdg : decode cc pc = .ok (.ireturn, 1)) (h : post v I) :
    W p l e R s m args below meth c H locs cells slots (MQ below (va_Qi post (fun J t => Hp E K L ad J t.heap) (AG E)) args s cells slots (AG E)) (F0 m pc ls [.int v]) :=
  W.iret C.1 C.2.1 hr (fun t ht _ => ⟨⟨v, I, rfl, h, by show Hp E K L ad I t.heap; rw [ht]; exact hP⟩, hS.F ht⟩) hS.2.2 hdg hlk
theorem r_zret {post : Int32 → (Nat → Nat → Int32) → Prop} {v : Int32} (C : Cx E p s m args c cc own nL) (hr : meth.sig.returnType = some .boolean) (hlk : meth.locks = false) (hP : Hp E K L ad I H) (hS : va_S (AG E) s.heap H locs) (hdg : decode cc pc = .ok (.ireturn, 1)) (hn : narrow .boolean (.int v) = .int v) (h : post v I) :
    W p l e R s m args below meth c H locs cells slots (MQ below (va_Qi post (fun J t => Hp E K L ad J t.heap) (AG E)) args s cells slots (AG E)) (F0 m pc ls [.int v]) :=
  W.zret C.1 C.2.1 hr hn (fun t ht _ => ⟨⟨v, I, rfl, h, by show Hp E K L ad I t.heap; rw [ht]; exact hP⟩, hS.F ht⟩) hS.2.2 hdg hlk
theorem r_vret {post : (Nat → Nat → Int32) → Prop} (C : Cx E p s m args c cc own nL) (hr : meth.sig.returnType = none) (hlk : meth.locks = false) (hP : Hp E K L ad I H) (hS : va_S (AG E) s.heap H locs) (hdg : decode cc pc = .ok (.return_, 1)) (h : post I) :
    W p l e R s m args below meth c H locs cells slots (MQ below (va_Qv post (fun J t => Hp E K L ad J t.heap) (AG E)) args s cells slots (AG E)) (F0 m pc ls []) :=
  W.vret C.1 C.2.1 hr (fun t ht _ => ⟨⟨I, rfl, h, by show Hp E K L ad I t.heap; rw [ht]; exact hP⟩, hS.F ht⟩) hS.2.2 hdg hlk
theorem MI.of {y : MethodName} {n k : Nat} {av : List Value} {post : Int32 → (Nat → Nat → Int32) → Prop} (hy : plainName y.cls = true) (hlen : (lg_sl av).length ≤ n)
    (body : ∀ (p : Program) (e : Env) (s : State) (m : MethodId) (args : Array Value) (below : List Frame) (meth : Method) (c : Code) (ls : Array Slot) (Qf : State → Prop), Cx E p s m args c cc y.cls n →
      (∀ (pc : Nat) (ls : Array Slot) (H : Heap) (locs : List Loc) (v : Int32) (J : Nat → Nat → Int32), decode cc pc = .ok (.ireturn, 1) → Hp E K L ad J H → va_S (AG E) s.heap H locs → post v J → W p l e (rmk k) s m args below meth c H locs 0 0 Qf (F0 m pc ls [.int v])) →
      Hp E K L ad I s.heap → lv_has ls n (lv_args 0 av) → W p l e (rmk k) s m args below meth c s.heap [] 0 0 Qf (F0 m 0 ls [])) : MI l E K L ad I y cc n (some .int) k av post := by
  refine Met.ofW (cc := cc) (maxL := n) (ret := some .int) hy rfl ?_
  intro p e s m args below meth c s₁ B hml hv
  obtain ⟨rfl, hP, hV⟩ := hv
  have hts := atoms_spec (ws := Cond.code y cc n (some .int) :: TB) B.pre
  have C : Cx E p s m av.toArray c cc y.cls n := ⟨B.exec, B.bytes, fun w hw => hts w (List.mem_cons_of_mem _ hw), findClass_of_methodNamed B.named, hV, hml⟩
  rw [lg_entry_eq]
  exact body p e s m _ below meth c _ _ C (fun pc ls H locs v J hd hP hS h => r_iret C B.returns B.notSynchronized hP hS hd h) hP (lv_entry av hlen)
theorem MZ.of {y : MethodName} {n k : Nat} {av : List Value} {post : Int32 → (Nat → Nat → Int32) → Prop} (hy : plainName y.cls = true) (hlen : (lg_sl av).length ≤ n)
    (body : ∀ (p : Program) (e : Env) (s : State) (m : MethodId) (args : Array Value) (below : List Frame) (meth : Method) (c : Code) (ls : Array Slot) (Qf : State → Prop), Cx E p s m args c cc y.cls n →
      (∀ (pc : Nat) (ls : Array Slot) (H : Heap) (locs : List Loc) (v : Int32) (J : Nat → Nat → Int32), decode cc pc = .ok (.ireturn, 1) → Hp E K L ad J H → va_S (AG E) s.heap H locs → narrow .boolean (.int v) = .int v → post v J → W p l e (rmk k) s m args below meth c H locs 0 0 Qf (F0 m pc ls [.int v])) →
      Hp E K L ad I s.heap → lv_has ls n (lv_args 0 av) → W p l e (rmk k) s m args below meth c s.heap [] 0 0 Qf (F0 m 0 ls [])) : MI l E K L ad I y cc n (some .boolean) k av post := by
  refine Met.ofW (cc := cc) (maxL := n) (ret := some .boolean) hy rfl ?_
  intro p e s m args below meth c s₁ B hml hv
  obtain ⟨rfl, hP, hV⟩ := hv
  have hts := atoms_spec (ws := Cond.code y cc n (some .boolean) :: TB) B.pre
  have C : Cx E p s m av.toArray c cc y.cls n := ⟨B.exec, B.bytes, fun w hw => hts w (List.mem_cons_of_mem _ hw), findClass_of_methodNamed B.named, hV, hml⟩
  rw [lg_entry_eq]
  exact body p e s m _ below meth c _ _ C (fun pc ls H locs v J hd hP hS hn h => r_zret C B.returns B.notSynchronized hP hS hd hn h) hP (lv_entry av hlen)
theorem MV.of {y : MethodName} {n k : Nat} {av : List Value} {post : (Nat → Nat → Int32) → Prop} (hy : plainName y.cls = true) (hlen : (lg_sl av).length ≤ n)
    (body : ∀ (p : Program) (e : Env) (s : State) (m : MethodId) (args : Array Value) (below : List Frame) (meth : Method) (c : Code) (ls : Array Slot) (Qf : State → Prop), Cx E p s m args c cc y.cls n →
      (∀ (pc : Nat) (ls : Array Slot) (H : Heap) (locs : List Loc) (J : Nat → Nat → Int32), decode cc pc = .ok (.return_, 1) → Hp E K L ad J H → va_S (AG E) s.heap H locs → post J → W p l e (rmk k) s m args below meth c H locs 0 0 Qf (F0 m pc ls [])) →
      Hp E K L ad I s.heap → lv_has ls n (lv_args 0 av) → W p l e (rmk k) s m args below meth c s.heap [] 0 0 Qf (F0 m 0 ls [])) : MV l E K L ad I y cc n k av post := by
  refine Met.ofW (cc := cc) (maxL := n) (ret := none) hy rfl ?_
  intro p e s m args below meth c s₁ B hml hv
  obtain ⟨rfl, hP, hV⟩ := hv
  have hts := atoms_spec (ws := Cond.code y cc n none :: TB) B.pre
  have C : Cx E p s m av.toArray c cc y.cls n := ⟨B.exec, B.bytes, fun w hw => hts w (List.mem_cons_of_mem _ hw), findClass_of_methodNamed B.named, hV, hml⟩
  rw [lg_entry_eq]
  exact body p e s m _ below meth c _ _ C (fun pc ls H locs J hd hP hS h => r_vret C B.returns B.notSynchronized hP hS hd h) hP (lv_entry av hlen)
/-- one object of the world as a list of one -/
theorem Hp.one (hP : Hp E K L ad I H) (hr : K r ≠ 0) {en : va_E} (he : wE E.2.1 K L ad I r = en) : va_P E.1 classes [(ad r, en)] H := fun k q hq => by
  have hk : k < 1 := (List.getElem?_eq_some_iff.mp hq).1
  rw [show k = 0 by omega] at hq
  cases hq
  rw [← he]
  exact hP.1 r hr
theorem g_get (C : Cx E p s m args c cc own nL) (hP : Hp E K L ad I H) {ref Cn : String} {T : u_T} {N ci index k : Nat} {fs : List Value} {v : Value} (hr : K r ≠ 0) (he : wE E.2.1 K L ad I r = .inr (ci, fs)) (hin : ∀ w ∈ u_ws Cn T N, w ∈ TB) (hc : classes[ci]? = some (Cn, T, N)) (hk : k < N) (hlink : Cond.fieldLink own index ref (T k).2.1 (T k).2.2.1 ∈ TB) (href : ref = (T k).1) (hv : fs[k]? = some v) (hdg : decode cc pc = .ok (.getfield index, 3))
    (kk : W p l e R s m args below meth c H locs cells slots Q (F0 m (pc + 3) ls (v :: rest))) : W p l e R s m args below meth c H locs cells slots Q (F0 m pc ls (.ref (ad r) :: rest)) :=
  va_get (D := E.1) (cl := classes) C.1 C.2.1 C.2.2.1 hin C.2.2.2.1 C.2.2.2.2.1.1 (hP.one hr he) 0 rfl hc k hk (C.2.2.1 _ hlink) (fun x h => by rw [href]; exact h) hv hdg kk
theorem g_put (C : Cx E p s m args c cc own nL) (hP : Hp E K L ad I H) (hS0 : va_S (AG E) s.heap H locs) {ref Cn : String} {T : u_T} {N ci index k : Nat} {fs : List Value} {v : Value} {L' : Nat → Nat → Bool} {I' : Nat → Nat → Int32} (hr : K r ≠ 0) (he : wE E.2.1 K L ad I r = .inr (ci, fs)) (hin : ∀ w ∈ u_ws Cn T N, w ∈ TB) (ty0 : Nat → FieldType) (hty : ∀ k, k < N → parseFieldDescriptor (T k).2.2.1 = some (ty0 k)) (hnm : ∀ a, a < N → ∀ b, b < N → a ≠ b → (T a).2.1 ≠ (T b).2.1) (hc : classes[ci]? = some (Cn, T, N)) (hk : k < N) (hlink : Cond.fieldLink own index ref (T k).2.1 (T k).2.2.1 ∈ TB) (href : ref = (T k).1) (hfin : (T k).2.2.2 = false) {ty : FieldType} (hd : parseFieldDescriptor (T k).2.2.1 = some ty) (hn : narrow ty v = v) (hfit : fits ty v = true) (hl : k < fs.length)
    (he' : wE E.2.1 K L' ad I' r = .inr (ci, fs.set k v)) (hI : ∀ a, a ≠ r → I' a = I a) (hL : ∀ a, a ≠ r → L' a = L a) (hdg : decode cc pc = .ok (.putfield index, 3))
    (kk : ∀ (H1 : Heap) (locs1 : List Loc), Hp E K L' ad I' H1 → va_S (AG E) s.heap H1 locs1 → W p l e R s m args below meth c H1 locs1 cells slots Q (F0 m (pc + 3) ls rest)) : W p l e R s m args below meth c H locs cells slots Q (F0 m pc ls (v :: .ref (ad r) :: rest)) := by
  have hts := C.2.2.1
  have hK := C.2.2.2.2.1.1
  have hap := va_apart (own := own) hts hin ty0 hty hnm hK hc
  obtain ⟨q, h1, cell, q1, q2, q3, q4⟩ := (hP.one hr he) 0 _ rfl
  have hq : q = (Cn, T, N) := Option.some.inj (h1.symm.trans hc)
  subst hq
  obtain ⟨hS, hfc, kC, hkC, hkind⟩ := hK.1 ci _ hc
  obtain ⟨cf, kf, fi, f, hi, hsl⟩ := hS k hk
  have hlay := hts _ (hin _ (u_in_lay hk))
  unfold u_lay at hlay
  rw [if_neg (by rw [hfin]; decide)] at hlay
  have hst := (u_facts hfc hkC (u_lays hts hin hk) hi).1
  have h6 := u_store hfc hkC hkind hlay hi hd hn hfit
  refine W.putK C.1 C.2.1 (f := f) ⟨C.2.2.2.1, hts _ hlink, ⟨_, _, _, by rw [href]; exact hi⟩, hst⟩ (by rw [q2]; exact h6) q1 q3 (by rw [hsl]; exact k2_hasslot (q4 k hk)) rfl rfl hdg fun H' e1 e2 e3 => ?_
  rw [hsl] at e1 ⊢
  refine kk H' _ (hP.set hr e2 e3 ?_ hI hL) (hS0.put e2 e3 (hP.2.1 r hr))
  rw [he']
  exact ⟨_, hc, t_OB.to (V := updV (vp_V fs) k v) ⟨_, e1, q2, q3, t_set q4 hap hk v⟩ (fun j _ => vp_updV_set hl v j)⟩
theorem g_putF (C : Cx E p s m args c cc own nL) (hP : Hp E K L ad I H) (hS0 : va_S (AG E) s.heap H locs) {ref Cn : String} {T : u_T} {N ci index k : Nat} {fs : List Value} {v : Value} {L' : Nat → Nat → Bool} {I' : Nat → Nat → Int32} (hr : K r ≠ 0) (he : wE E.2.1 K L ad I r = .inr (ci, fs)) (hin : ∀ w ∈ u_ws Cn T N, w ∈ TB) (ty0 : Nat → FieldType) (hty : ∀ k, k < N → parseFieldDescriptor (T k).2.2.1 = some (ty0 k)) (hnm : ∀ a, a < N → ∀ b, b < N → a ≠ b → (T a).2.1 ≠ (T b).2.1) (hc : classes[ci]? = some (Cn, T, N)) (hk : k < N) (hlink : Cond.fieldLink own index ref (T k).2.1 (T k).2.2.1 ∈ TB) (href : ref = (T k).1) (hfin : (T k).2.2.2 = true) (hin2 : meth.name = "<init>") (hdecl : (T k).1 = own) {ty : FieldType} (hd : parseFieldDescriptor (T k).2.2.1 = some ty) (hn : narrow ty v = v) (hfit : fits ty v = true) (hl : k < fs.length)
    (he' : wE E.2.1 K L' ad I' r = .inr (ci, fs.set k v)) (hI : ∀ a, a ≠ r → I' a = I a) (hL : ∀ a, a ≠ r → L' a = L a) (hdg : decode cc pc = .ok (.putfield index, 3))
    (kk : ∀ (H1 : Heap) (locs1 : List Loc), Hp E K L' ad I' H1 → va_S (AG E) s.heap H1 locs1 → W p l e R s m args below meth c H1 locs1 cells slots Q (F0 m (pc + 3) ls rest)) : W p l e R s m args below meth c H locs cells slots Q (F0 m pc ls (v :: .ref (ad r) :: rest)) := by
  have hts := C.2.2.1
  have hK := C.2.2.2.2.1.1
  have hap := va_apart (own := own) hts hin ty0 hty hnm hK hc
  obtain ⟨q, h1, cell, q1, q2, q3, q4⟩ := (hP.one hr he) 0 _ rfl
  have hq : q = (Cn, T, N) := Option.some.inj (h1.symm.trans hc)
  subst hq
  obtain ⟨hS, hfc, kC, hkC, hkind⟩ := hK.1 ci _ hc
  obtain ⟨cf, kf, fi, f, hi, hsl⟩ := hS k hk
  have hlay := hts _ (hin _ (u_in_lay hk))
  unfold u_lay at hlay
  rw [if_pos hfin] at hlay
  have hst := (u_facts hfc hkC (u_lays hts hin hk) hi).1
  have hcf : m.cls = cf := by
    obtain ⟨_, _, c', _, _, _, -, -, hf', -, -, -, hown2, -⟩ := Cond.laysFinal_spec hlay
    have e1 : c' = cf := by have := hi.symm.trans hf'; simp at this; exact this.1.symm
    rw [hdecl] at hown2
    rw [← e1]; exact Option.some.inj (C.2.2.2.1.symm.trans hown2)
  have h6 := u_fits hfc hkC hkind (Or.inr hlay) hi hd hn hfit
  refine W.putFinK C.1 C.2.1 C.2.2.2.1 (hts _ hlink) (by rw [href]; exact hi) hst hcf hin2 (by rw [q2]; exact h6) q1 q3 (by rw [hsl]; exact k2_hasslot (q4 k hk)) rfl rfl hdg fun H' e1 e2 e3 => ?_
  rw [hsl] at e1 ⊢
  refine kk H' _ (hP.set hr e2 e3 ?_ hI hL) (hS0.put e2 e3 (hP.2.1 r hr))
  rw [he']
  exact ⟨_, hc, t_OB.to (V := updV (vp_V fs) k v) ⟨_, e1, q2, q3, t_set q4 hap hk v⟩ (fun j _ => vp_updV_set hl v j)⟩
/-- arrays of ints -/
theorem r_iald (C : Cx E p s m args c cc own nL) (hP : Hp E K L ad I H) {n j : Nat} (hr : K r = 100 + n) (hj : j < n) (hn : n < 2 ^ 31) (hdg : decode cc pc = .ok (.iaload, 1))
    (kk : W p l e R s m args below meth c H locs cells slots Q (F0 m (pc + 1) ls (.int (I r j) :: rest))) : W p l e R s m args below meth c H locs cells slots Q (F0 m pc ls (.int (nI j) :: .ref (ad r) :: rest)) := by
  refine va_iald (D := E.1) (cl := classes) (tys := tysG E.2.1) C.1 C.2.1 C.2.2.2.2.1.1 (hP.one (by omega) (wE_A _ _ _ _ hr)) 0 0 rfl rfl (vp_in_nI hj hn) hdg ?_
  rw [nI_clamp (by omega)]
  exact kk
theorem r_iast (C : Cx E p s m args c cc own nL) (hP : Hp E K L ad I H) (hS : va_S (AG E) s.heap H locs) {n j : Nat} {x : Int32} (hr : K r = 100 + n) (hj : j < n) (hn : n < 2 ^ 31) (hdg : decode cc pc = .ok (.iastore, 1))
    (kk : ∀ (H1 : Heap) (locs1 : List Loc), Hp E K L ad (up2 I r j x) H1 → va_S (AG E) s.heap H1 locs1 → W p l e R s m args below meth c H1 locs1 cells slots Q (F0 m (pc + 1) ls rest)) : W p l e R s m args below meth c H locs cells slots Q (F0 m pc ls (.int x :: .int (nI j) :: .ref (ad r) :: rest)) := by
  have hr0 : K r ≠ 0 := by omega
  have hc := (hP.one hr0 (wE_A _ _ _ _ hr)) 0 _ rfl
  refine W.iast C.1 C.2.1 hc ((C.2.2.2.2.1.1.2 0 _ rfl).1 n (fun i => .int (I r i))) (fun q => by cases q) (by show ¬ (nI j < 0 ∨ (arrV _ _ _).slots.size ≤ _); rw [arrV_size]; exact vp_in_nI hj hn) rfl rfl hdg fun H1 e1 z oq => ?_
  refine kk H1 _ (hP.set (I' := up2 I r j x) hr0 z oq ?_ (fun a ha => up2_r ha) (fun _ _ => rfl)) (hS.put z oq (hP.2.1 r hr0))
  rw [wE_A _ _ _ _ hr]
  show H1[ad r]? = some (vp_cell _ _)
  rw [e1, vp_cell_i, vp_cell_i, arrV_store, nI_clamp (by omega), up2_at]
  congr 2
  funext q
  by_cases hq : q = j
  · subst hq; simp [updV, upd]
  · simp [updV, upd, hq]
theorem r_alen (C : Cx E p s m args c cc own nL) (hP : Hp E K L ad I H) {n : Nat} (hr : K r = 100 + n) (hdg : decode cc pc = .ok (.arraylength, 1))
    (kk : W p l e R s m args below meth c H locs cells slots Q (F0 m (pc + 1) ls (.int (nI n) :: rest))) : W p l e R s m args below meth c H locs cells slots Q (F0 m pc ls (.ref (ad r) :: rest)) :=
  va_alen (D := E.1) (cl := classes) (tys := tysG E.2.1) C.1 C.2.1 C.2.2.2.2.1.1 (hP.one (by omega) (wE_A _ _ _ _ hr)) 0 0 rfl rfl rfl hdg kk
/-- arrays of booleans, of two -/
theorem r_zald (C : Cx E p s m args c cc own nL) (hP : Hp E K L ad I H) {j : Nat} (hr : K r = 15) (hj : j < 2) (hdg : decode cc pc = .ok (.baload, 1))
    (kk : W p l e R s m args below meth c H locs cells slots Q (F0 m (pc + 1) ls (.int (I r j) :: rest))) : W p l e R s m args below meth c H locs cells slots Q (F0 m pc ls (.int (nI j) :: .ref (ad r) :: rest)) := by
  refine va_zald (D := E.1) (cl := classes) (tys := tysG E.2.1) C.1 C.2.1 C.2.2.2.2.1.1 (hP.one (by omega) (wE_15 _ _ _ _ hr)) 0 1 rfl rfl (vp_in_nI hj (by decide)) hdg ?_
  rw [nI_clamp (by omega)]
  exact kk
theorem r_zast (C : Cx E p s m args c cc own nL) (hP : Hp E K L ad I H) (hS : va_S (AG E) s.heap H locs) {j : Nat} {x : Int32} (hr : K r = 15) (hj : j < 2) (hx : narrow .boolean (.int x) = .int x) (hdg : decode cc pc = .ok (.bastore, 1))
    (kk : ∀ (H1 : Heap) (locs1 : List Loc), Hp E K L ad (up2 I r j x) H1 → va_S (AG E) s.heap H1 locs1 → W p l e R s m args below meth c H1 locs1 cells slots Q (F0 m (pc + 1) ls rest)) : W p l e R s m args below meth c H locs cells slots Q (F0 m pc ls (.int x :: .int (nI j) :: .ref (ad r) :: rest)) := by
  have hr0 : K r ≠ 0 := by omega
  have hc := (hP.one hr0 (wE_15 _ _ _ _ hr)) 0 _ rfl
  refine W.zast C.1 C.2.1 hc ((C.2.2.2.2.1.1.2 1 _ rfl).1 2 (fun i => .int (I r i))) (fun q => by cases q) (by show ¬ (nI j < 0 ∨ (arrV _ _ _).slots.size ≤ _); rw [arrV_size]; exact vp_in_nI (N := 2) hj (by decide)) rfl rfl hdg fun H1 e1 z oq => ?_
  refine kk H1 _ (hP.set (I' := up2 I r j x) hr0 z oq ?_ (fun a ha => up2_r ha) (fun _ _ => rfl)) (hS.put z oq (hP.2.1 r hr0))
  rw [wE_15 _ _ _ _ hr]
  show H1[ad r]? = some (vp_cell _ _)
  rw [e1, hx, vp_cell_i, vp_cell_i, arrV_store, nI_clamp (by omega), up2_at]
  congr 2
  funext q
  by_cases hq : q = j
  · subst hq; simp [updV, upd]
  · simp [updV, upd, hq]
/-- arrays of objects -/
theorem r_aald (C : Cx E p s m args c cc own nL) (hP : Hp E K L ad I H) {j t0 n q : Nat} {ty : FieldType} {cA : ClassId} {f : Nat → Option Nat} (hr : K r ≠ 0) (he : wE E.2.1 K L ad I r = .inl (cA, n, .inr (.inr (.inr (.inr f))))) (ht : (tysG E.2.1)[t0]? = some (cA, ty)) (hty : ty.isReference = true) (hj : j < n) (hn : n < 2 ^ 31) (hq : f j = some q) (hdg : decode cc pc = .ok (.aaload, 1))
    (kk : W p l e R s m args below meth c H locs cells slots Q (F0 m (pc + 1) ls (.ref q :: rest))) : W p l e R s m args below meth c H locs cells slots Q (F0 m pc ls (.int (nI j) :: .ref (ad r) :: rest)) := by
  have hcl : (nI j).toNatClampNeg = j := nI_clamp (by omega)
  exact W.aald (v := .ref q) (ty := ty) C.1 C.2.1 ((hP.one hr he) 0 _ rfl) ((C.2.2.2.2.1.1.2 t0 _ ht).1 n (fun j => va_rf (f j))) hty (fun q => by cases q) (by show ¬ (nI j < 0 ∨ (arrV _ _ _).slots.size ≤ _); rw [arrV_size]; exact vp_in_nI hj hn) (by show (arrV _ _ _).slots[_]? = _; rw [hcl, arrV_read _ _ hj, hq]; rfl) rfl rfl hdg kk
/-- an Act of a table's acts, a Table of a program's, an image, a row of slots -/
theorem r_ald11 (C : Cx E p s m args c cc own nL) (hP : Hp E K L ad I H) {j q : Nat} (hr : K r = 11) (hL : L r j = true) (hj : j < 5) (hq : r + 1 + j = q) (hdg : decode cc pc = .ok (.aaload, 1))
    (kk : W p l e R s m args below meth c H locs cells slots Q (F0 m (pc + 1) ls (.ref (ad q) :: rest))) : W p l e R s m args below meth c H locs cells slots Q (F0 m pc ls (.int (nI j) :: .ref (ad r) :: rest)) :=
  r_aald (t0 := 2) C hP (by omega) (wE_11 _ _ _ _ hr) rfl rfl hj (by decide) (by subst hq; exact qo_t hL) hdg kk
theorem r_ald12 (C : Cx E p s m args c cc own nL) (hP : Hp E K L ad I H) {j q : Nat} (hr : K r = 12) (hL : L r j = true) (hj : j < 8) (hq : r + 7 + 8 * (I r j).toNatClampNeg = q) (hdg : decode cc pc = .ok (.aaload, 1))
    (kk : W p l e R s m args below meth c H locs cells slots Q (F0 m (pc + 1) ls (.ref (ad q) :: rest))) : W p l e R s m args below meth c H locs cells slots Q (F0 m pc ls (.int (nI j) :: .ref (ad r) :: rest)) :=
  r_aald (t0 := 3) C hP (by omega) (wE_12 _ _ _ _ hr) rfl rfl hj (by decide) (by subst hq; exact qo_t hL) hdg kk
theorem r_ald13 (C : Cx E p s m args c cc own nL) (hP : Hp E K L ad I H) {j q : Nat} (hr : K r = 13) (hL : L r j = true) (hj : j < 2) (hq : r + 150 + 100 * j = q) (hdg : decode cc pc = .ok (.aaload, 1))
    (kk : W p l e R s m args below meth c H locs cells slots Q (F0 m (pc + 1) ls (.ref (ad q) :: rest))) : W p l e R s m args below meth c H locs cells slots Q (F0 m pc ls (.int (nI j) :: .ref (ad r) :: rest)) :=
  r_aald (t0 := 4) C hP (by omega) (wE_13 _ _ _ _ hr) rfl rfl hj (by decide) (by subst hq; exact qo_t hL) hdg kk
theorem r_ald14 (C : Cx E p s m args c cc own nL) (hP : Hp E K L ad I H) {j q : Nat} (hr : K r = 14) (hL : L r j = true) (hj : j < 4) (hq : r + 1 + j = q) (hdg : decode cc pc = .ok (.aaload, 1))
    (kk : W p l e R s m args below meth c H locs cells slots Q (F0 m (pc + 1) ls (.ref (ad q) :: rest))) : W p l e R s m args below meth c H locs cells slots Q (F0 m pc ls (.int (nI j) :: .ref (ad r) :: rest)) :=
  r_aald (t0 := 5) C hP (by omega) (wE_14 _ _ _ _ hr) rfl rfl hj (by decide) (by subst hq; exact qo_t hL) hdg kk
theorem r_aast (C : Cx E p s m args c cc own nL) (hP : Hp E K L ad I H) (hS : va_S (AG E) s.heap H locs) {j t0 n q ci : Nat} {cA : ClassId} {f : Nat → Option Nat} {vs : List Value} {rc : vw_C} {L' : Nat → Nat → Bool} {I' : Nat → Nat → Int32} (hr : K r ≠ 0) (he : wE E.2.1 K L ad I r = .inl (cA, n, .inr (.inr (.inr (.inr f))))) (ht : (tysG E.2.1)[t0]? = some (cA, .object rc.1)) (hq : K q ≠ 0) (hv : wE E.2.1 K L ad I q = .inr (ci, vs)) (hc : classes[ci]? = some rc) (hj : j < n) (hn : n < 2 ^ 31)
    (he' : wE E.2.1 K L' ad I' r = .inl (cA, n, .inr (.inr (.inr (.inr (va_up f j (some (ad q)))))))) (hI : ∀ a, a ≠ r → I' a = I a) (hL : ∀ a, a ≠ r → L' a = L a) (hdg : decode cc pc = .ok (.aastore, 1))
    (kk : ∀ (H1 : Heap) (locs1 : List Loc), Hp E K L' ad I' H1 → va_S (AG E) s.heap H1 locs1 → W p l e R s m args below meth c H1 locs1 cells slots Q (F0 m (pc + 1) ls rest)) : W p l e R s m args below meth c H locs cells slots Q (F0 m pc ls (.ref (ad q) :: .int (nI j) :: .ref (ad r) :: rest)) := by
  obtain ⟨r', hr', cellV, g1, g2, g3, -⟩ := (hP.one hq hv) 0 _ rfl
  have hK := C.2.2.2.2.1.1
  have hcls := (hK.1 ci rc hc).2
  obtain ⟨kA, comp, k1, k2, k3, -⟩ := (hK.2 t0 _ ht).2
  have hcomp : comp = E.1.1 ci := Option.some.inj (k3.symm.trans hcls.1)
  subst hcomp
  obtain ⟨kC, hkC, -⟩ := hcls.2
  have hcl : (nI j).toNatClampNeg = j := nI_clamp (by omega)
  refine W.aast C.1 C.2.1 ((hP.one hr he) 0 _ rfl) (fun q h => by cases h) (fun h => by cases h) k1 k2 rfl hkC ⟨nI_pos (by omega), by show _ < (arrV _ _ _).slots.size; rw [arrV_size, hcl]; exact hj⟩ g1 (fun q h => by rw [g3] at h; cases h) (by rw [g2]; exact hkC) (by rw [g2]; exact va_assign hcls) rfl rfl hdg fun H1 e1 z oq => ?_
  refine kk H1 _ (hP.set hr z oq ?_ hI hL) (hS.put z oq (hP.2.1 r hr))
  rw [he']
  show H1[ad r]? = some (vp_cell _ _)
  rw [e1, vp_cell_q, vp_cell_q, arrV_store, hcl]
  congr 2
  funext q
  by_cases hq : q = j
  · subst hq; simp [updV, va_up, va_rf]
  · simp [updV, va_up, hq]
/-- static arrays -/
theorem r_gst (C : Cx E p s m args c cc own nL) (hS : va_S (AG E) s.heap H locs) {j index : Nat} (hj : j < 4) (hlink : Cond.fieldLink own index RX6 (stN j) "[I" ∈ TB) (hdg : decode cc pc = .ok (.getstatic index, 3))
    (kk : W p l e R s m args below meth c H locs cells slots Q (F0 m (pc + 3) ls (.ref (E.2.2.1 j) :: rest))) : W p l e R s m args below meth c H locs cells slots Q (F0 m pc ls rest) :=
  va_gets C.1 C.2.1 (C.2.2.2.2.1.2.2 j hj).1 hS C.2.2.2.1 (C.2.2.1 _ hlink) (fun _ h => h) hdg kk
theorem r_sld (C : Cx E p s m args c cc own nL) (hS : va_S (AG E) s.heap H locs) {j i : Nat} (hj : j < 4) (hi : i < stL j) (hL : stL j < 2 ^ 31) (hdg : decode cc pc = .ok (.iaload, 1))
    (kk : W p l e R s m args below meth c H locs cells slots Q (F0 m (pc + 1) ls (.int (stV j i) :: rest))) : W p l e R s m args below meth c H locs cells slots Q (F0 m pc ls (.int (nI i) :: .ref (E.2.2.1 j) :: rest)) :=
  va_ti C.1 C.2.1 ((C.2.2.2.2.1.2.2 j hj).2).va hS (vp_in_nI hi hL) (by rw [nI_clamp (by omega)]) hdg kk
theorem r_slen (C : Cx E p s m args c cc own nL) (hS : va_S (AG E) s.heap H locs) {j : Nat} (hj : j < 4) (hdg : decode cc pc = .ok (.arraylength, 1))
    (kk : W p l e R s m args below meth c H locs cells slots Q (F0 m (pc + 1) ls (.int (nI (stL j)) :: rest))) : W p l e R s m args below meth c H locs cells slots Q (F0 m pc ls (.ref (E.2.2.1 j) :: rest)) :=
  va_tlen C.1 C.2.1 ((C.2.2.2.2.1.2.2 j hj).2).va hS rfl hdg kk
/-- calls -/
theorem PcW.of (C : Cx E p s m args c cc own nL) (hP : Hp E K L ad I H) (hS : va_S (AG E) s.heap H locs) (av : List Value) : ∀ U : State, U.heap = H → s.WarmedH U.vm → PcW E K L ad I av av.toArray U := fun U hU hW => ⟨rfl, by rw [hU]; exact hP, C.2.2.2.2.1.to hS hU hW⟩
theorem r_callVi {y : MethodName} {b : ByteArray} {n k idx ci : Nat} {rt : Option FieldType} {As st : List Value} {fs : List Value} {rc : vw_C} {post : Int32 → (Nat → Nat → Int32) → Prop} (C : Cx E p s m args c cc own nL) (hP : Hp E K L ad I H) (hS : va_S (AG E) s.heap H locs)
    (h1 : Cond.methodLink own idx y ∈ TB) (h2 : Cond.instanceMethod y ∈ TB) (h3 : Cond.selects y.cls y y ∈ TB) (h4 : Cond.initialized y.cls ∈ TB) (h5 : Cond.code y b n rt ∈ TB) (hd : y.cls ≠ "java/lang/invoke/MethodHandle" ∧ y.cls ≠ "java/lang/invoke/VarHandle" ∧ (parseMethodDescriptor y.desc).map (fun d => d.parameters.length) = some As.length)
    (hr : K r ≠ 0) (he : wE E.2.1 K L ad I r = .inr (ci, fs)) (hc : classes[ci]? = some rc) (hcn : rc.1 = y.cls) (hM : MI l E K L ad I y b n rt k (.ref (ad r) :: As) post) (hR : k + 1 ≤ R.frames ∧ 8 + (n + 11) + 26 * k ≤ R.locals) (hcells : cells ≤ R.cells ∧ slots ≤ R.slots) (hls : ls.size = nL) (hst : st = As.reverse ++ .ref (ad r) :: rest) (hroom : (rest.map fun v => v.category).sum ≤ 8) (hdg : decode cc pc = .ok (.invokevirtual idx, 3))
    (kk : ∀ (v : Int32) (J : Nat → Nat → Int32) (H1 : Heap) (locs1 : List Loc), post v J → Hp E K L ad J H1 → va_S (AG E) s.heap H1 locs1 → W p l e R s m args below meth c H1 locs1 cells slots Q (F0 m (pc + 3) ls (.int v :: rest))) : W p l e R s m args below meth c H locs cells slots Q (F0 m pc ls st) := by
  subst hst
  refine va_calli (va_runV (Ts := TB) (As := As) (rest := rest) ⟨C.1, C.2.1, C.2.2.2.2.2, C.2.2.2.1, C.2.2.1⟩ hM (cwV As.length C.2.2.1 (gd_tb (fun w hw => ?_)) rfl rfl rfl ⟨rfl, hd⟩ hR) ⟨PcW.blind, ?_, PcW.of C hP hS _⟩ rfl rfl hls rfl (lv_room hroom) hdg hcells) hS (fun q _ h => h) (fun q h => h) (fun v J t H1 locs1 ht hvm hw hB _ _ hS1 => kk v J H1 locs1 hw (by rw [← ht]; exact hB) hS1)
  · unfold wsV at hw
    rcases List.mem_append.mp hw with h | h
    · rcases List.mem_cons.mp h with rfl | h
      · exact h1
      · rcases List.mem_cons.mp h with rfl | h
        · exact h2
        · rcases List.mem_cons.mp h with rfl | h
          · exact h3
          · rcases List.mem_cons.mp h with rfl | h
            · exact h4
            · cases h
    · rcases List.mem_cons.mp h with rfl | h
      · exact h5
      · exact h
  · have := va_recv C.2.2.2.2.1.1 (hP.one hr he) hc (q0 := 0) rfl
    rw [hcn] at this
    exact this
theorem r_callVv {y : MethodName} {b : ByteArray} {n k idx ci : Nat} {As st : List Value} {fs : List Value} {rc : vw_C} {post : (Nat → Nat → Int32) → Prop} (C : Cx E p s m args c cc own nL) (hP : Hp E K L ad I H) (hS : va_S (AG E) s.heap H locs)
    (h1 : Cond.methodLink own idx y ∈ TB) (h2 : Cond.instanceMethod y ∈ TB) (h3 : Cond.selects y.cls y y ∈ TB) (h4 : Cond.initialized y.cls ∈ TB) (h5 : Cond.code y b n none ∈ TB) (hd : y.cls ≠ "java/lang/invoke/MethodHandle" ∧ y.cls ≠ "java/lang/invoke/VarHandle" ∧ (parseMethodDescriptor y.desc).map (fun d => d.parameters.length) = some As.length)
    (hr : K r ≠ 0) (he : wE E.2.1 K L ad I r = .inr (ci, fs)) (hc : classes[ci]? = some rc) (hcn : rc.1 = y.cls) (hM : MV l E K L ad I y b n k (.ref (ad r) :: As) post) (hR : k + 1 ≤ R.frames ∧ 8 + (n + 11) + 26 * k ≤ R.locals) (hcells : cells ≤ R.cells ∧ slots ≤ R.slots) (hls : ls.size = nL) (hst : st = As.reverse ++ .ref (ad r) :: rest) (hroom : (rest.map fun v => v.category).sum ≤ 8) (hdg : decode cc pc = .ok (.invokevirtual idx, 3))
    (kk : ∀ (J : Nat → Nat → Int32) (H1 : Heap) (locs1 : List Loc), post J → Hp E K L ad J H1 → va_S (AG E) s.heap H1 locs1 → W p l e R s m args below meth c H1 locs1 cells slots Q (F0 m (pc + 3) ls rest)) : W p l e R s m args below meth c H locs cells slots Q (F0 m pc ls st) := by
  subst hst
  refine va_callv (va_runV (Ts := TB) (As := As) (rest := rest) ⟨C.1, C.2.1, C.2.2.2.2.2, C.2.2.2.1, C.2.2.1⟩ hM (cwV As.length C.2.2.1 (gd_tb (fun w hw => ?_)) rfl rfl rfl ⟨rfl, hd⟩ hR) ⟨PcW.blind, ?_, PcW.of C hP hS _⟩ rfl rfl hls rfl (lv_room hroom) hdg hcells) hS (fun q _ h => h) (fun q h => h) (fun J t H1 locs1 ht hvm hw hB _ _ hS1 => kk J H1 locs1 hw (by rw [← ht]; exact hB) hS1)
  · unfold wsV at hw
    rcases List.mem_append.mp hw with h | h
    · rcases List.mem_cons.mp h with rfl | h
      · exact h1
      · rcases List.mem_cons.mp h with rfl | h
        · exact h2
        · rcases List.mem_cons.mp h with rfl | h
          · exact h3
          · rcases List.mem_cons.mp h with rfl | h
            · exact h4
            · cases h
    · rcases List.mem_cons.mp h with rfl | h
      · exact h5
      · exact h
  · have := va_recv C.2.2.2.2.1.1 (hP.one hr he) hc (q0 := 0) rfl
    rw [hcn] at this
    exact this
theorem r_callSi {y : MethodName} {b : ByteArray} {n k idx : Nat} {rt : Option FieldType} {As st : List Value} {post : Int32 → (Nat → Nat → Int32) → Prop} (C : Cx E p s m args c cc own nL) (hP : Hp E K L ad I H) (hS : va_S (AG E) s.heap H locs)
    (h1 : Cond.methodLink own idx y ∈ TB) (h2 : Cond.static y ∈ TB) (h4 : Cond.initialized y.cls ∈ TB) (h5 : Cond.code y b n rt ∈ TB) (hd : y.cls ≠ "java/lang/invoke/MethodHandle" ∧ y.cls ≠ "java/lang/invoke/VarHandle" ∧ (parseMethodDescriptor y.desc).map (fun d => d.parameters.length) = some As.length)
    (hM : MI l E K L ad I y b n rt k As post) (hR : k + 1 ≤ R.frames ∧ 8 + (n + 11) + 26 * k ≤ R.locals) (hcells : cells ≤ R.cells ∧ slots ≤ R.slots) (hls : ls.size = nL) (hst : st = As.reverse ++ rest) (hroom : (rest.map fun v => v.category).sum ≤ 8) (hdg : decode cc pc = .ok (.invokestatic idx, 3))
    (kk : ∀ (v : Int32) (J : Nat → Nat → Int32) (H1 : Heap) (locs1 : List Loc), post v J → Hp E K L ad J H1 → va_S (AG E) s.heap H1 locs1 → W p l e R s m args below meth c H1 locs1 cells slots Q (F0 m (pc + 3) ls (.int v :: rest))) : W p l e R s m args below meth c H locs cells slots Q (F0 m pc ls st) := by
  subst hst
  refine va_calli (va_runS (Ts := TB) (As := As) (rest := rest) ⟨C.1, C.2.1, C.2.2.2.2.2, C.2.2.2.1, C.2.2.1⟩ hM (va_cwS As.length C.2.2.1 (gd_tb (fun w hw => ?_)) rfl rfl rfl hd hR) ⟨PcW.blind, PcW.of C hP hS _⟩ rfl rfl hls rfl (lv_room hroom) hdg hcells) hS (fun q _ h => h) (fun q h => h) (fun v J t H1 locs1 ht hvm hw hB _ _ hS1 => kk v J H1 locs1 hw (by rw [← ht]; exact hB) hS1)
  unfold va_wsS at hw
  rcases List.mem_append.mp hw with h | h
  · rcases List.mem_cons.mp h with rfl | h
    · exact h1
    · rcases List.mem_cons.mp h with rfl | h
      · exact h2
      · rcases List.mem_cons.mp h with rfl | h
        · exact h4
        · cases h
  · rcases List.mem_cons.mp h with rfl | h
    · exact h5
    · exact h
theorem r_callSv {y : MethodName} {b : ByteArray} {n k idx : Nat} {As st : List Value} {post : (Nat → Nat → Int32) → Prop} (C : Cx E p s m args c cc own nL) (hP : Hp E K L ad I H) (hS : va_S (AG E) s.heap H locs)
    (h1 : Cond.methodLink own idx y ∈ TB) (h2 : Cond.static y ∈ TB) (h4 : Cond.initialized y.cls ∈ TB) (h5 : Cond.code y b n none ∈ TB) (hd : y.cls ≠ "java/lang/invoke/MethodHandle" ∧ y.cls ≠ "java/lang/invoke/VarHandle" ∧ (parseMethodDescriptor y.desc).map (fun d => d.parameters.length) = some As.length)
    (hM : MV l E K L ad I y b n k As post) (hR : k + 1 ≤ R.frames ∧ 8 + (n + 11) + 26 * k ≤ R.locals) (hcells : cells ≤ R.cells ∧ slots ≤ R.slots) (hls : ls.size = nL) (hst : st = As.reverse ++ rest) (hroom : (rest.map fun v => v.category).sum ≤ 8) (hdg : decode cc pc = .ok (.invokestatic idx, 3))
    (kk : ∀ (J : Nat → Nat → Int32) (H1 : Heap) (locs1 : List Loc), post J → Hp E K L ad J H1 → va_S (AG E) s.heap H1 locs1 → W p l e R s m args below meth c H1 locs1 cells slots Q (F0 m (pc + 3) ls rest)) : W p l e R s m args below meth c H locs cells slots Q (F0 m pc ls st) := by
  subst hst
  refine va_callv (va_runS (Ts := TB) (As := As) (rest := rest) ⟨C.1, C.2.1, C.2.2.2.2.2, C.2.2.2.1, C.2.2.1⟩ hM (va_cwS As.length C.2.2.1 (gd_tb (fun w hw => ?_)) rfl rfl rfl hd hR) ⟨PcW.blind, PcW.of C hP hS _⟩ rfl rfl hls rfl (lv_room hroom) hdg hcells) hS (fun q _ h => h) (fun q h => h) (fun J t H1 locs1 ht hvm hw hB _ _ hS1 => kk J H1 locs1 hw (by rw [← ht]; exact hB) hS1)
  unfold va_wsS at hw
  rcases List.mem_append.mp hw with h | h
  · rcases List.mem_cons.mp h with rfl | h
    · exact h1
    · rcases List.mem_cons.mp h with rfl | h
      · exact h2
      · rcases List.mem_cons.mp h with rfl | h
        · exact h4
        · cases h
  · rcases List.mem_cons.mp h with rfl | h
    · exact h5
    · exact h
theorem r_callNi {y : MethodName} {b : ByteArray} {n k idx : Nat} {host : String} {rt : Option FieldType} {As st : List Value} {post : Int32 → (Nat → Nat → Int32) → Prop} (C : Cx E p s m args c cc own nL) (hP : Hp E K L ad I H) (hS : va_S (AG E) s.heap H locs)
    (h1 : Cond.methodLinkNest own idx y host ∈ lw_tbl) (h2 : Cond.static y ∈ TB) (h4 : Cond.initialized y.cls ∈ TB) (h5 : Cond.code y b n rt ∈ TB) (hd : y.cls ≠ "java/lang/invoke/MethodHandle" ∧ y.cls ≠ "java/lang/invoke/VarHandle" ∧ (parseMethodDescriptor y.desc).map (fun d => d.parameters.length) = some As.length)
    (hM : MI l E K L ad I y b n rt k As post) (hR : k + 1 ≤ R.frames ∧ 8 + (n + 11) + 26 * k ≤ R.locals) (hcells : cells ≤ R.cells ∧ slots ≤ R.slots) (hls : ls.size = nL) (hst : st = As.reverse ++ rest) (hroom : (rest.map fun v => v.category).sum ≤ 8) (hdg : decode cc pc = .ok (.invokestatic idx, 3))
    (kk : ∀ (v : Int32) (J : Nat → Nat → Int32) (H1 : Heap) (locs1 : List Loc), post v J → Hp E K L ad J H1 → va_S (AG E) s.heap H1 locs1 → W p l e R s m args below meth c H1 locs1 cells slots Q (F0 m (pc + 3) ls (.int v :: rest))) : W p l e R s m args below meth c H locs cells slots Q (F0 m pc ls st) := by
  subst hst
  refine va_calli (va_runSN (Ts := TB) (As := As) (rest := rest) ⟨C.1, C.2.1, C.2.2.2.2.2, C.2.2.2.1, C.2.2.1⟩ hM ⟨va_cnB As.length C.2.2.1 (gd_tb (fun w hw => ?_)) rfl rfl rfl (C.2.2.2.2.1.2.1.1 _ _ _ _ h1) (C.2.2.1 _ h4) hd hR, C.2.2.1 _ h2, trivial⟩ ⟨PcW.blind, PcW.of C hP hS _⟩ rfl rfl hls rfl (lv_room hroom) hdg hcells) hS (fun q _ h => h) (fun q h => h) (fun v J t H1 locs1 ht hvm hw hB _ _ hS1 => kk v J H1 locs1 hw (by rw [← ht]; exact hB) hS1)
  rcases List.mem_cons.mp hw with rfl | h
  · exact h5
  · exact h
/-- numbers -/
theorem r_eqi {x y : Int32} (h : x = y) (kk : W p l e R s m args below meth c H locs cells slots Q (F0 m pc ls (.int y :: rest))) : W p l e R s m args below meth c H locs cells slots Q (F0 m pc ls (.int x :: rest)) := by rw [h]; exact kk
theorem r_addN (C : Cx E p s m args c cc own nL) {a b : Nat} (hdg : decode cc pc = .ok (.iadd, 1)) (kk : W p l e R s m args below meth c H locs cells slots Q (F0 m (pc + 1) ls (.int (nI (a + b)) :: rest))) : W p l e R s m args below meth c H locs cells slots Q (F0 m pc ls (.int (nI b) :: .int (nI a) :: rest)) :=
  lv_iadd C.1 C.2.1 hdg (by rw [nI_add]; exact kk)
theorem r_mulN (C : Cx E p s m args c cc own nL) {a b : Nat} (hdg : decode cc pc = .ok (.imul, 1)) (kk : W p l e R s m args below meth c H locs cells slots Q (F0 m (pc + 1) ls (.int (nI (a * b)) :: rest))) : W p l e R s m args below meth c H locs cells slots Q (F0 m pc ls (.int (nI b) :: .int (nI a) :: rest)) :=
  lv_imul C.1 C.2.1 hdg (by rw [pk_mul]; exact kk)
theorem r_subN (C : Cx E p s m args c cc own nL) {a b : Nat} (hab : b ≤ a) (hdg : decode cc pc = .ok (.isub, 1)) (kk : W p l e R s m args below meth c H locs cells slots Q (F0 m (pc + 1) ls (.int (nI (a - b)) :: rest))) : W p l e R s m args below meth c H locs cells slots Q (F0 m pc ls (.int (nI b) :: .int (nI a) :: rest)) :=
  lv_isub C.1 C.2.1 hdg (by rw [pk_sub hab]; exact kk)
end RW
end
section
/-! the tables' words, each by its place -/
theorem ts_X2_look : Cond.selects yX2_look.cls yX2_look yX2_look ∈ TB := tb_in (List.mem_of_getElem? (i := 0) (by decide +kernel)) (by decide +kernel)
theorem ts_X2_place : Cond.selects yX2_place.cls yX2_place yX2_place ∈ TB := tb_in (List.mem_of_getElem? (i := 1) (by decide +kernel)) (by decide +kernel)
theorem ts_X2_leastStage : Cond.selects yX2_leastStage.cls yX2_leastStage yX2_leastStage ∈ TB := tb_in (List.mem_of_getElem? (i := 2) (by decide +kernel)) (by decide +kernel)
theorem ts_X4_measure : Cond.selects yX4_measure.cls yX4_measure yX4_measure ∈ TB := tb_in (List.mem_of_getElem? (i := 3) (by decide +kernel)) (by decide +kernel)
theorem ts_X4_ready : Cond.selects yX4_ready.cls yX4_ready yX4_ready ∈ TB := tb_in (List.mem_of_getElem? (i := 4) (by decide +kernel)) (by decide +kernel)
theorem ts_X4_addStage : Cond.selects yX4_addStage.cls yX4_addStage yX4_addStage ∈ TB := tb_in (List.mem_of_getElem? (i := 5) (by decide +kernel)) (by decide +kernel)
theorem ts_X1_doRound : Cond.selects yX1_doRound.cls yX1_doRound yX1_doRound ∈ TB := tb_in (List.mem_of_getElem? (i := 6) (by decide +kernel)) (by decide +kernel)
theorem ts_X1_apply : Cond.selects yX1_apply.cls yX1_apply yX1_apply ∈ TB := tb_in (List.mem_of_getElem? (i := 7) (by decide +kernel)) (by decide +kernel)
theorem ts_X1_keepTop : Cond.selects yX1_keepTop.cls yX1_keepTop yX1_keepTop ∈ TB := tb_in (List.mem_of_getElem? (i := 8) (by decide +kernel)) (by decide +kernel)
theorem ts_X1_swap : Cond.selects yX1_swap.cls yX1_swap yX1_swap ∈ TB := tb_in (List.mem_of_getElem? (i := 9) (by decide +kernel)) (by decide +kernel)
theorem ts_X6_keptImages : Cond.selects yX6_keptImages.cls yX6_keptImages yX6_keptImages ∈ TB := tb_in (List.mem_of_getElem? (i := 10) (by decide +kernel)) (by decide +kernel)
theorem ts_X7_lay : Cond.selects yX7_lay.cls yX7_lay yX7_lay ∈ TB := tb_in (List.mem_of_getElem? (i := 11) (by decide +kernel)) (by decide +kernel)
theorem ts_X7_isTable : Cond.selects yX7_isTable.cls yX7_isTable yX7_isTable ∈ TB := tb_in (List.mem_of_getElem? (i := 12) (by decide +kernel)) (by decide +kernel)
theorem ts_X7_entryWith : Cond.selects yX7_entryWith.cls yX7_entryWith yX7_entryWith ∈ TB := tb_in (List.mem_of_getElem? (i := 13) (by decide +kernel)) (by decide +kernel)
theorem ts_X7_isTaken : Cond.selects yX7_isTaken.cls yX7_isTaken yX7_isTaken ∈ TB := tb_in (List.mem_of_getElem? (i := 14) (by decide +kernel)) (by decide +kernel)
theorem ts_X7_registersOf : Cond.selects yX7_registersOf.cls yX7_registersOf yX7_registersOf ∈ TB := tb_in (List.mem_of_getElem? (i := 15) (by decide +kernel)) (by decide +kernel)
theorem ts_X7_isThere : Cond.selects yX7_isThere.cls yX7_isThere yX7_isThere ∈ TB := tb_in (List.mem_of_getElem? (i := 16) (by decide +kernel)) (by decide +kernel)
theorem ts_X7_copy : Cond.selects yX7_copy.cls yX7_copy yX7_copy ∈ TB := tb_in (List.mem_of_getElem? (i := 17) (by decide +kernel)) (by decide +kernel)
theorem ts_X7_needOf : Cond.selects yX7_needOf.cls yX7_needOf yX7_needOf ∈ TB := tb_in (List.mem_of_getElem? (i := 18) (by decide +kernel)) (by decide +kernel)
theorem ts_X7_writes : Cond.selects yX7_writes.cls yX7_writes yX7_writes ∈ TB := tb_in (List.mem_of_getElem? (i := 19) (by decide +kernel)) (by decide +kernel)
theorem ts_X7_reads : Cond.selects yX7_reads.cls yX7_reads yX7_reads ∈ TB := tb_in (List.mem_of_getElem? (i := 20) (by decide +kernel)) (by decide +kernel)
theorem ts_X7_part : Cond.selects yX7_part.cls yX7_part yX7_part ∈ TB := tb_in (List.mem_of_getElem? (i := 21) (by decide +kernel)) (by decide +kernel)
theorem ts_X7_levelOf : Cond.selects yX7_levelOf.cls yX7_levelOf yX7_levelOf ∈ TB := tb_in (List.mem_of_getElem? (i := 22) (by decide +kernel)) (by decide +kernel)
theorem ts_X7_pack : Cond.selects yX7_pack.cls yX7_pack yX7_pack ∈ TB := tb_in (List.mem_of_getElem? (i := 23) (by decide +kernel)) (by decide +kernel)
theorem ts_X7_sizeOf : Cond.selects yX7_sizeOf.cls yX7_sizeOf yX7_sizeOf ∈ TB := tb_in (List.mem_of_getElem? (i := 24) (by decide +kernel)) (by decide +kernel)
theorem ts_X7_canFollow : Cond.selects yX7_canFollow.cls yX7_canFollow yX7_canFollow ∈ TB := tb_in (List.mem_of_getElem? (i := 25) (by decide +kernel)) (by decide +kernel)
theorem ts_X7_round : Cond.selects yX7_round.cls yX7_round yX7_round ∈ TB := tb_in (List.mem_of_getElem? (i := 26) (by decide +kernel)) (by decide +kernel)
theorem ts_X7_act : Cond.selects yX7_act.cls yX7_act yX7_act ∈ TB := tb_in (List.mem_of_getElem? (i := 27) (by decide +kernel)) (by decide +kernel)
theorem tz_L : Cond.initialized RL ∈ TB := tb_in (List.mem_of_getElem? (i := 28) (by decide +kernel)) (by decide +kernel)
theorem tz_X6 : Cond.initialized RX6 ∈ TB := tb_in (List.mem_of_getElem? (i := 29) (by decide +kernel)) (by decide +kernel)
theorem tz_X3 : Cond.initialized RX3 ∈ TB := tb_in (List.mem_of_getElem? (i := 30) (by decide +kernel)) (by decide +kernel)
theorem tz_X5 : Cond.initialized RX5 ∈ TB := tb_in (List.mem_of_getElem? (i := 31) (by decide +kernel)) (by decide +kernel)
theorem tz_X0 : Cond.initialized RX0 ∈ TB := tb_in (List.mem_of_getElem? (i := 32) (by decide +kernel)) (by decide +kernel)
theorem tz_X2 : Cond.initialized RX2 ∈ TB := tb_in (List.mem_of_getElem? (i := 33) (by decide +kernel)) (by decide +kernel)
theorem tz_X4 : Cond.initialized RX4 ∈ TB := tb_in (List.mem_of_getElem? (i := 34) (by decide +kernel)) (by decide +kernel)
theorem tz_X1 : Cond.initialized RX1 ∈ TB := tb_in (List.mem_of_getElem? (i := 35) (by decide +kernel)) (by decide +kernel)
theorem tz_X7 : Cond.initialized RX7 ∈ TB := tb_in (List.mem_of_getElem? (i := 36) (by decide +kernel)) (by decide +kernel)
theorem tz_J9 : Cond.initialized RJ9 ∈ TB := tb_in (List.mem_of_getElem? (i := 37) (by decide +kernel)) (by decide +kernel)
theorem tz_J7 : Cond.initialized RJ7 ∈ TB := tb_in (List.mem_of_getElem? (i := 38) (by decide +kernel)) (by decide +kernel)
theorem tz_J6 : Cond.initialized RJ6 ∈ TB := tb_in (List.mem_of_getElem? (i := 39) (by decide +kernel)) (by decide +kernel)
theorem tz_J10 : Cond.initialized RJ10 ∈ TB := tb_in (List.mem_of_getElem? (i := 40) (by decide +kernel)) (by decide +kernel)
theorem tl_L_7 : Cond.classLink RL 7 RX6 ∈ TB := tb_in (List.mem_of_getElem? (i := 41) (by decide +kernel)) (by decide +kernel)
theorem tb_X6 : Cond.instantiable RX6 8 ∈ TB := tb_in (List.mem_of_getElem? (i := 42) (by decide +kernel)) (by decide +kernel)
theorem tm_L_9 : Cond.methodLink RL 9 yX6_init ∈ TB := tb_in (List.mem_of_getElem? (i := 43) (by decide +kernel)) (by decide +kernel)
theorem ti_X6_init : Cond.instanceMethod yX6_init ∈ TB := tb_in (List.mem_of_getElem? (i := 44) (by decide +kernel)) (by decide +kernel)
theorem tc_X6_init : Cond.code yX6_init cX6_init 1 none ∈ TB := tb_in (List.mem_of_getElem? (i := 45) (by decide +kernel)) (by decide +kernel)
theorem tm_X6_3 : Cond.methodLink RX6 3 (⟨"java/lang/Object", "<init>", "()V"⟩ : MethodName) ∈ TB := tb_in (List.mem_of_getElem? (i := 46) (by decide +kernel)) (by decide +kernel)
theorem tl_X6_9 : Cond.classLink RX6 9 RX3 ∈ TB := tb_in (List.mem_of_getElem? (i := 49) (by decide +kernel)) (by decide +kernel)
theorem tb_X3 : Cond.instantiable RX3 5 ∈ TB := tb_in (List.mem_of_getElem? (i := 50) (by decide +kernel)) (by decide +kernel)
theorem tm_X6_11 : Cond.methodLink RX6 11 yX3_init ∈ TB := tb_in (List.mem_of_getElem? (i := 51) (by decide +kernel)) (by decide +kernel)
theorem ti_X3_init : Cond.instanceMethod yX3_init ∈ TB := tb_in (List.mem_of_getElem? (i := 52) (by decide +kernel)) (by decide +kernel)
theorem tc_X3_init : Cond.code yX3_init cX3_init 2 none ∈ TB := tb_in (List.mem_of_getElem? (i := 53) (by decide +kernel)) (by decide +kernel)
theorem tm_X3_3 : Cond.methodLink RX3 3 (⟨"java/lang/Object", "<init>", "()V"⟩ : MethodName) ∈ TB := tb_in (List.mem_of_getElem? (i := 54) (by decide +kernel)) (by decide +kernel)
theorem tl_X3_9 : Cond.classLink RX3 9 RX5 ∈ TB := tb_in (List.mem_of_getElem? (i := 55) (by decide +kernel)) (by decide +kernel)
theorem tm_X3_24 : Cond.methodLink RX3 24 (⟨"[I", "clone", "()Ljava/lang/Object;"⟩ : MethodName) ∈ TB := tb_in (List.mem_of_getElem? (i := 59) (by decide +kernel)) (by decide +kernel)
theorem tl_X3_25 : Cond.classLink RX3 25 "[I" ∈ TB := tb_in (List.mem_of_getElem? (i := 65) (by decide +kernel)) (by decide +kernel)
theorem tb_X5 : Cond.instantiable RX5 4 ∈ TB := tb_in (List.mem_of_getElem? (i := 66) (by decide +kernel)) (by decide +kernel)
theorem tm_X3_35 : Cond.methodLink RX3 35 yX5_init ∈ TB := tb_in (List.mem_of_getElem? (i := 67) (by decide +kernel)) (by decide +kernel)
theorem ti_X5_init : Cond.instanceMethod yX5_init ∈ TB := tb_in (List.mem_of_getElem? (i := 68) (by decide +kernel)) (by decide +kernel)
theorem tc_X5_init : Cond.code yX5_init cX5_init 2 none ∈ TB := tb_in (List.mem_of_getElem? (i := 69) (by decide +kernel)) (by decide +kernel)
theorem tm_X5_3 : Cond.methodLink RX5 3 (⟨"java/lang/Object", "<init>", "()V"⟩ : MethodName) ∈ TB := tb_in (List.mem_of_getElem? (i := 70) (by decide +kernel)) (by decide +kernel)
theorem tl_X5_15 : Cond.classLink RX5 15 RX0 ∈ TB := tb_in (List.mem_of_getElem? (i := 71) (by decide +kernel)) (by decide +kernel)
theorem tb_X0 : Cond.instantiable RX0 3 ∈ TB := tb_in (List.mem_of_getElem? (i := 73) (by decide +kernel)) (by decide +kernel)
theorem tn_X5_21 : Cond.methodLinkNest RX5 21 yX0_init RX6 ∈ lw_tbl := List.mem_of_getElem? (i := 74) (by decide +kernel)
theorem ti_X0_init : Cond.instanceMethod yX0_init ∈ TB := tb_in (List.mem_of_getElem? (i := 75) (by decide +kernel)) (by decide +kernel)
theorem tc_X0_init : Cond.code yX0_init cX0_init 1 none ∈ TB := tb_in (List.mem_of_getElem? (i := 76) (by decide +kernel)) (by decide +kernel)
theorem tm_X0_3 : Cond.methodLink RX0 3 (⟨"java/lang/Object", "<init>", "()V"⟩ : MethodName) ∈ TB := tb_in (List.mem_of_getElem? (i := 77) (by decide +kernel)) (by decide +kernel)
theorem tf_X0_9 : Cond.fieldLink RX0 9 RX0 "kind" "I" ∈ TB := tb_in (List.mem_of_getElem? (i := 78) (by decide +kernel)) (by decide +kernel)
theorem tf_X1_78 : Cond.fieldLink RX1 78 RX0 "kind" "I" ∈ TB := tb_in (List.mem_of_getElem? (i := 79) (by decide +kernel)) (by decide +kernel)
theorem tf_X6_87 : Cond.fieldLink RX6 87 RX0 "kind" "I" ∈ TB := tb_in (List.mem_of_getElem? (i := 80) (by decide +kernel)) (by decide +kernel)
theorem tf_X5_57 : Cond.fieldLink RX5 57 RX0 "kind" "I" ∈ TB := tb_in (List.mem_of_getElem? (i := 81) (by decide +kernel)) (by decide +kernel)
theorem tf_X0_15 : Cond.fieldLink RX0 15 RX0 "target" "I" ∈ TB := tb_in (List.mem_of_getElem? (i := 82) (by decide +kernel)) (by decide +kernel)
theorem tf_X1_83 : Cond.fieldLink RX1 83 RX0 "target" "I" ∈ TB := tb_in (List.mem_of_getElem? (i := 83) (by decide +kernel)) (by decide +kernel)
theorem tf_X5_60 : Cond.fieldLink RX5 60 RX0 "target" "I" ∈ TB := tb_in (List.mem_of_getElem? (i := 84) (by decide +kernel)) (by decide +kernel)
theorem tf_X0_18 : Cond.fieldLink RX0 18 RX0 "x" "I" ∈ TB := tb_in (List.mem_of_getElem? (i := 85) (by decide +kernel)) (by decide +kernel)
theorem tf_X1_86 : Cond.fieldLink RX1 86 RX0 "x" "I" ∈ TB := tb_in (List.mem_of_getElem? (i := 86) (by decide +kernel)) (by decide +kernel)
theorem tf_X5_63 : Cond.fieldLink RX5 63 RX0 "x" "I" ∈ TB := tb_in (List.mem_of_getElem? (i := 87) (by decide +kernel)) (by decide +kernel)
theorem ta_int : Cond.arrayClass .int ∈ TB := tb_in (List.mem_of_getElem? (i := 95) (by decide +kernel)) (by decide +kernel)
theorem tf_X5_22 : Cond.fieldLink RX5 22 RX5 "key" "I" ∈ TB := tb_in (List.mem_of_getElem? (i := 96) (by decide +kernel)) (by decide +kernel)
theorem tf_X2_73 : Cond.fieldLink RX2 73 RX5 "key" "I" ∈ TB := tb_in (List.mem_of_getElem? (i := 97) (by decide +kernel)) (by decide +kernel)
theorem tf_X1_58 : Cond.fieldLink RX1 58 RX5 "key" "I" ∈ TB := tb_in (List.mem_of_getElem? (i := 98) (by decide +kernel)) (by decide +kernel)
theorem tf_X6_115 : Cond.fieldLink RX6 115 RX5 "key" "I" ∈ TB := tb_in (List.mem_of_getElem? (i := 99) (by decide +kernel)) (by decide +kernel)
theorem tf_X5_26 : Cond.fieldLink RX5 26 RX5 "entries" "I" ∈ TB := tb_in (List.mem_of_getElem? (i := 100) (by decide +kernel)) (by decide +kernel)
theorem tf_X6_76 : Cond.fieldLink RX6 76 RX5 "entries" "I" ∈ TB := tb_in (List.mem_of_getElem? (i := 101) (by decide +kernel)) (by decide +kernel)
theorem tf_X5_9 : Cond.fieldLink RX5 9 RX5 "values" "[I" ∈ TB := tb_in (List.mem_of_getElem? (i := 102) (by decide +kernel)) (by decide +kernel)
theorem tf_X5_17 : Cond.fieldLink RX5 17 RX5 "acts" "[LStagedTables$Act;" ∈ TB := tb_in (List.mem_of_getElem? (i := 103) (by decide +kernel)) (by decide +kernel)
theorem tf_X1_67 : Cond.fieldLink RX1 67 RX5 "acts" "[LStagedTables$Act;" ∈ TB := tb_in (List.mem_of_getElem? (i := 104) (by decide +kernel)) (by decide +kernel)
theorem tf_X6_83 : Cond.fieldLink RX6 83 RX5 "acts" "[LStagedTables$Act;" ∈ TB := tb_in (List.mem_of_getElem? (i := 105) (by decide +kernel)) (by decide +kernel)
theorem tf_X4_21 : Cond.fieldLink RX4 21 RX3 "size" "I" ∈ TB := tb_in (List.mem_of_getElem? (i := 115) (by decide +kernel)) (by decide +kernel)
theorem tf_X3_36 : Cond.fieldLink RX3 36 RX3 "size" "I" ∈ TB := tb_in (List.mem_of_getElem? (i := 116) (by decide +kernel)) (by decide +kernel)
theorem tf_X2_42 : Cond.fieldLink RX2 42 RX3 "size" "I" ∈ TB := tb_in (List.mem_of_getElem? (i := 117) (by decide +kernel)) (by decide +kernel)
theorem tf_X6_45 : Cond.fieldLink RX6 45 RX3 "size" "I" ∈ TB := tb_in (List.mem_of_getElem? (i := 118) (by decide +kernel)) (by decide +kernel)
theorem tf_X1_31 : Cond.fieldLink RX1 31 RX3 "size" "I" ∈ TB := tb_in (List.mem_of_getElem? (i := 119) (by decide +kernel)) (by decide +kernel)
theorem tf_X3_11 : Cond.fieldLink RX3 11 RX3 "tables" "[LStagedTables$Table;" ∈ TB := tb_in (List.mem_of_getElem? (i := 120) (by decide +kernel)) (by decide +kernel)
theorem tf_X2_48 : Cond.fieldLink RX2 48 RX3 "tables" "[LStagedTables$Table;" ∈ TB := tb_in (List.mem_of_getElem? (i := 121) (by decide +kernel)) (by decide +kernel)
theorem tf_X1_55 : Cond.fieldLink RX1 55 RX3 "tables" "[LStagedTables$Table;" ∈ TB := tb_in (List.mem_of_getElem? (i := 122) (by decide +kernel)) (by decide +kernel)
theorem tf_X6_64 : Cond.fieldLink RX6 64 RX3 "tables" "[LStagedTables$Table;" ∈ TB := tb_in (List.mem_of_getElem? (i := 123) (by decide +kernel)) (by decide +kernel)
theorem tf_X3_17 : Cond.fieldLink RX3 17 RX3 "registers" "[I" ∈ TB := tb_in (List.mem_of_getElem? (i := 124) (by decide +kernel)) (by decide +kernel)
theorem tf_X1_71 : Cond.fieldLink RX1 71 RX3 "registers" "[I" ∈ TB := tb_in (List.mem_of_getElem? (i := 125) (by decide +kernel)) (by decide +kernel)
theorem tf_X6_174 : Cond.fieldLink RX6 174 RX3 "registers" "[I" ∈ TB := tb_in (List.mem_of_getElem? (i := 126) (by decide +kernel)) (by decide +kernel)
theorem tf_X3_29 : Cond.fieldLink RX3 29 RX3 "rules" "[I" ∈ TB := tb_in (List.mem_of_getElem? (i := 127) (by decide +kernel)) (by decide +kernel)
theorem tf_X1_42 : Cond.fieldLink RX1 42 RX3 "rules" "[I" ∈ TB := tb_in (List.mem_of_getElem? (i := 128) (by decide +kernel)) (by decide +kernel)
theorem tf_X2_66 : Cond.fieldLink RX2 66 RX3 "rules" "[I" ∈ TB := tb_in (List.mem_of_getElem? (i := 129) (by decide +kernel)) (by decide +kernel)
theorem tf_X4_41 : Cond.fieldLink RX4 41 RX3 "rules" "[I" ∈ TB := tb_in (List.mem_of_getElem? (i := 130) (by decide +kernel)) (by decide +kernel)
theorem tf_X6_112 : Cond.fieldLink RX6 112 RX3 "rules" "[I" ∈ TB := tb_in (List.mem_of_getElem? (i := 131) (by decide +kernel)) (by decide +kernel)
theorem tf_X3_32 : Cond.fieldLink RX3 32 RX3 "toldFields" "[I" ∈ TB := tb_in (List.mem_of_getElem? (i := 132) (by decide +kernel)) (by decide +kernel)
theorem tf_X1_20 : Cond.fieldLink RX1 20 RX3 "toldFields" "[I" ∈ TB := tb_in (List.mem_of_getElem? (i := 133) (by decide +kernel)) (by decide +kernel)
theorem tf_X6_170 : Cond.fieldLink RX6 170 RX3 "toldFields" "[I" ∈ TB := tb_in (List.mem_of_getElem? (i := 134) (by decide +kernel)) (by decide +kernel)
theorem tl_X6_16 : Cond.classLink RX6 16 RX2 ∈ TB := tb_in (List.mem_of_getElem? (i := 146) (by decide +kernel)) (by decide +kernel)
theorem tb_X2 : Cond.instantiable RX2 11 ∈ TB := tb_in (List.mem_of_getElem? (i := 147) (by decide +kernel)) (by decide +kernel)
theorem tn_X6_18 : Cond.methodLinkNest RX6 18 yX2_init RX6 ∈ lw_tbl := List.mem_of_getElem? (i := 148) (by decide +kernel)
theorem ti_X2_init : Cond.instanceMethod yX2_init ∈ TB := tb_in (List.mem_of_getElem? (i := 149) (by decide +kernel)) (by decide +kernel)
theorem tc_X2_init : Cond.code yX2_init cX2_init 1 none ∈ TB := tb_in (List.mem_of_getElem? (i := 150) (by decide +kernel)) (by decide +kernel)
theorem tm_X2_3 : Cond.methodLink RX2 3 (⟨"java/lang/Object", "<init>", "()V"⟩ : MethodName) ∈ TB := tb_in (List.mem_of_getElem? (i := 151) (by decide +kernel)) (by decide +kernel)
theorem tf_X2_9 : Cond.fieldLink RX2 9 RX2 "keys" "[I" ∈ TB := tb_in (List.mem_of_getElem? (i := 152) (by decide +kernel)) (by decide +kernel)
theorem tf_X2_15 : Cond.fieldLink RX2 15 RX2 "writes" "[I" ∈ TB := tb_in (List.mem_of_getElem? (i := 153) (by decide +kernel)) (by decide +kernel)
theorem tf_X2_18 : Cond.fieldLink RX2 18 RX2 "reads" "[I" ∈ TB := tb_in (List.mem_of_getElem? (i := 154) (by decide +kernel)) (by decide +kernel)
theorem tf_X2_21 : Cond.fieldLink RX2 21 RX2 "sizes" "[I" ∈ TB := tb_in (List.mem_of_getElem? (i := 155) (by decide +kernel)) (by decide +kernel)
theorem tf_X4_48 : Cond.fieldLink RX4 48 RX2 "sizes" "[I" ∈ TB := tb_in (List.mem_of_getElem? (i := 156) (by decide +kernel)) (by decide +kernel)
theorem tf_X2_24 : Cond.fieldLink RX2 24 RX2 "mustFollow" "[I" ∈ TB := tb_in (List.mem_of_getElem? (i := 157) (by decide +kernel)) (by decide +kernel)
theorem tf_X4_52 : Cond.fieldLink RX4 52 RX2 "mustFollow" "[I" ∈ TB := tb_in (List.mem_of_getElem? (i := 158) (by decide +kernel)) (by decide +kernel)
theorem tf_X2_27 : Cond.fieldLink RX2 27 RX2 "mayJoin" "[I" ∈ TB := tb_in (List.mem_of_getElem? (i := 159) (by decide +kernel)) (by decide +kernel)
theorem tf_X4_51 : Cond.fieldLink RX4 51 RX2 "mayJoin" "[I" ∈ TB := tb_in (List.mem_of_getElem? (i := 160) (by decide +kernel)) (by decide +kernel)
theorem tf_X2_30 : Cond.fieldLink RX2 30 RX2 "levels" "[I" ∈ TB := tb_in (List.mem_of_getElem? (i := 161) (by decide +kernel)) (by decide +kernel)
theorem tf_X6_122 : Cond.fieldLink RX6 122 RX2 "levels" "[I" ∈ TB := tb_in (List.mem_of_getElem? (i := 162) (by decide +kernel)) (by decide +kernel)
theorem tf_X2_33 : Cond.fieldLink RX2 33 RX2 "places" "[I" ∈ TB := tb_in (List.mem_of_getElem? (i := 163) (by decide +kernel)) (by decide +kernel)
theorem tf_X6_129 : Cond.fieldLink RX6 129 RX2 "places" "[I" ∈ TB := tb_in (List.mem_of_getElem? (i := 164) (by decide +kernel)) (by decide +kernel)
theorem tf_X2_36 : Cond.fieldLink RX2 36 RX2 "stageTables" "[I" ∈ TB := tb_in (List.mem_of_getElem? (i := 165) (by decide +kernel)) (by decide +kernel)
theorem tf_X6_160 : Cond.fieldLink RX6 160 RX2 "stageTables" "[I" ∈ TB := tb_in (List.mem_of_getElem? (i := 166) (by decide +kernel)) (by decide +kernel)
theorem tf_X2_39 : Cond.fieldLink RX2 39 RX2 "stageSizes" "[I" ∈ TB := tb_in (List.mem_of_getElem? (i := 167) (by decide +kernel)) (by decide +kernel)
theorem tf_X6_163 : Cond.fieldLink RX6 163 RX2 "stageSizes" "[I" ∈ TB := tb_in (List.mem_of_getElem? (i := 168) (by decide +kernel)) (by decide +kernel)
theorem tf_X2_62 : Cond.fieldLink RX2 62 RX2 "packed" "Z" ∈ TB := tb_in (List.mem_of_getElem? (i := 169) (by decide +kernel)) (by decide +kernel)
theorem tf_X6_125 : Cond.fieldLink RX6 125 RX2 "packed" "Z" ∈ TB := tb_in (List.mem_of_getElem? (i := 170) (by decide +kernel)) (by decide +kernel)
theorem tl_X6_23 : Cond.classLink RX6 23 RX4 ∈ TB := tb_in (List.mem_of_getElem? (i := 194) (by decide +kernel)) (by decide +kernel)
theorem tb_X4 : Cond.instantiable RX4 3 ∈ TB := tb_in (List.mem_of_getElem? (i := 195) (by decide +kernel)) (by decide +kernel)
theorem tn_X6_25 : Cond.methodLinkNest RX6 25 yX4_init RX6 ∈ lw_tbl := List.mem_of_getElem? (i := 196) (by decide +kernel)
theorem ti_X4_init : Cond.instanceMethod yX4_init ∈ TB := tb_in (List.mem_of_getElem? (i := 197) (by decide +kernel)) (by decide +kernel)
theorem tc_X4_init : Cond.code yX4_init cX4_init 1 none ∈ TB := tb_in (List.mem_of_getElem? (i := 198) (by decide +kernel)) (by decide +kernel)
theorem tm_X4_3 : Cond.methodLink RX4 3 (⟨"java/lang/Object", "<init>", "()V"⟩ : MethodName) ∈ TB := tb_in (List.mem_of_getElem? (i := 199) (by decide +kernel)) (by decide +kernel)
theorem tf_X4_9 : Cond.fieldLink RX4 9 RX4 "stagesOf" "[I" ∈ TB := tb_in (List.mem_of_getElem? (i := 200) (by decide +kernel)) (by decide +kernel)
theorem tf_X4_15 : Cond.fieldLink RX4 15 RX4 "sizes" "[I" ∈ TB := tb_in (List.mem_of_getElem? (i := 201) (by decide +kernel)) (by decide +kernel)
theorem tf_X4_18 : Cond.fieldLink RX4 18 RX4 "mayJoin" "[I" ∈ TB := tb_in (List.mem_of_getElem? (i := 202) (by decide +kernel)) (by decide +kernel)
theorem tl_X6_30 : Cond.classLink RX6 30 RX1 ∈ TB := tb_in (List.mem_of_getElem? (i := 210) (by decide +kernel)) (by decide +kernel)
theorem tb_X1 : Cond.instantiable RX1 6 ∈ TB := tb_in (List.mem_of_getElem? (i := 211) (by decide +kernel)) (by decide +kernel)
theorem tn_X6_32 : Cond.methodLinkNest RX6 32 yX1_init RX6 ∈ lw_tbl := List.mem_of_getElem? (i := 212) (by decide +kernel)
theorem ti_X1_init : Cond.instanceMethod yX1_init ∈ TB := tb_in (List.mem_of_getElem? (i := 213) (by decide +kernel)) (by decide +kernel)
theorem tc_X1_init : Cond.code yX1_init cX1_init 1 none ∈ TB := tb_in (List.mem_of_getElem? (i := 214) (by decide +kernel)) (by decide +kernel)
theorem tm_X1_3 : Cond.methodLink RX1 3 (⟨"java/lang/Object", "<init>", "()V"⟩ : MethodName) ∈ TB := tb_in (List.mem_of_getElem? (i := 215) (by decide +kernel)) (by decide +kernel)
theorem tl_X1_15 : Cond.classLink RX1 15 "[[I" ∈ TB := tb_in (List.mem_of_getElem? (i := 216) (by decide +kernel)) (by decide +kernel)
theorem tf_X1_9 : Cond.fieldLink RX1 9 RX1 "fields" "[I" ∈ TB := tb_in (List.mem_of_getElem? (i := 218) (by decide +kernel)) (by decide +kernel)
theorem tf_X6_198 : Cond.fieldLink RX6 198 RX1 "fields" "[I" ∈ TB := tb_in (List.mem_of_getElem? (i := 219) (by decide +kernel)) (by decide +kernel)
theorem tf_X1_38 : Cond.fieldLink RX1 38 RX1 "dropped" "Z" ∈ TB := tb_in (List.mem_of_getElem? (i := 220) (by decide +kernel)) (by decide +kernel)
theorem tf_X6_189 : Cond.fieldLink RX6 189 RX1 "dropped" "Z" ∈ TB := tb_in (List.mem_of_getElem? (i := 221) (by decide +kernel)) (by decide +kernel)
theorem tf_X1_45 : Cond.fieldLink RX1 45 RX1 "again" "Z" ∈ TB := tb_in (List.mem_of_getElem? (i := 222) (by decide +kernel)) (by decide +kernel)
theorem tf_X6_195 : Cond.fieldLink RX6 195 RX1 "again" "Z" ∈ TB := tb_in (List.mem_of_getElem? (i := 223) (by decide +kernel)) (by decide +kernel)
theorem tf_X1_52 : Cond.fieldLink RX1 52 RX1 "rounds" "I" ∈ TB := tb_in (List.mem_of_getElem? (i := 224) (by decide +kernel)) (by decide +kernel)
theorem tf_X6_186 : Cond.fieldLink RX6 186 RX1 "rounds" "I" ∈ TB := tb_in (List.mem_of_getElem? (i := 225) (by decide +kernel)) (by decide +kernel)
theorem tf_X1_35 : Cond.fieldLink RX1 35 RX1 "tables" "I" ∈ TB := tb_in (List.mem_of_getElem? (i := 226) (by decide +kernel)) (by decide +kernel)
theorem tf_X6_201 : Cond.fieldLink RX6 201 RX1 "tables" "I" ∈ TB := tb_in (List.mem_of_getElem? (i := 227) (by decide +kernel)) (by decide +kernel)
theorem tf_X1_17 : Cond.fieldLink RX1 17 RX1 "slots" "[[I" ∈ TB := tb_in (List.mem_of_getElem? (i := 228) (by decide +kernel)) (by decide +kernel)
theorem tf_X6_203 : Cond.fieldLink RX6 203 RX1 "slots" "[[I" ∈ TB := tb_in (List.mem_of_getElem? (i := 229) (by decide +kernel)) (by decide +kernel)
theorem tf_X6_12 : Cond.fieldLink RX6 12 RX6 "program" "LStagedTables$Program;" ∈ TB := tb_in (List.mem_of_getElem? (i := 244) (by decide +kernel)) (by decide +kernel)
theorem tf_X6_19 : Cond.fieldLink RX6 19 RX6 "packing" "LStagedTables$Packing;" ∈ TB := tb_in (List.mem_of_getElem? (i := 245) (by decide +kernel)) (by decide +kernel)
theorem tf_X6_26 : Cond.fieldLink RX6 26 RX6 "squeeze" "LStagedTables$Squeeze;" ∈ TB := tb_in (List.mem_of_getElem? (i := 246) (by decide +kernel)) (by decide +kernel)
theorem tf_X6_33 : Cond.fieldLink RX6 33 RX6 "last" "LStagedTables$Packet;" ∈ TB := tb_in (List.mem_of_getElem? (i := 247) (by decide +kernel)) (by decide +kernel)
theorem tf_X6_37 : Cond.fieldLink RX6 37 RX6 "images" "[LStagedTables$Program;" ∈ TB := tb_in (List.mem_of_getElem? (i := 248) (by decide +kernel)) (by decide +kernel)
theorem tf_X6_180 : Cond.fieldLink RX6 180 RX6 "packetsDone" "I" ∈ TB := tb_in (List.mem_of_getElem? (i := 249) (by decide +kernel)) (by decide +kernel)
theorem tf_X6_192 : Cond.fieldLink RX6 192 RX6 "packetsDropped" "I" ∈ TB := tb_in (List.mem_of_getElem? (i := 250) (by decide +kernel)) (by decide +kernel)
theorem tf_X6_183 : Cond.fieldLink RX6 183 RX6 "roundsDone" "I" ∈ TB := tb_in (List.mem_of_getElem? (i := 251) (by decide +kernel)) (by decide +kernel)
theorem tm_L_13 : Cond.methodLink RL 13 yX6_table ∈ TB := tb_in (List.mem_of_getElem? (i := 269) (by decide +kernel)) (by decide +kernel)
theorem ti_X6_table : Cond.instanceMethod yX6_table ∈ TB := tb_in (List.mem_of_getElem? (i := 270) (by decide +kernel)) (by decide +kernel)
theorem ts_X6_table : Cond.selects yX6_table.cls yX6_table yX6_table ∈ TB := tb_in (List.mem_of_getElem? (i := 271) (by decide +kernel)) (by decide +kernel)
theorem tc_X6_table : Cond.code yX6_table cX6_table 2 (some .int) ∈ TB := tb_in (List.mem_of_getElem? (i := 272) (by decide +kernel)) (by decide +kernel)
theorem tm_X6_41 : Cond.methodLink RX6 41 yX6_isIn ∈ TB := tb_in (List.mem_of_getElem? (i := 273) (by decide +kernel)) (by decide +kernel)
theorem tt_X6_isIn : Cond.static yX6_isIn ∈ TB := tb_in (List.mem_of_getElem? (i := 274) (by decide +kernel)) (by decide +kernel)
theorem tc_X6_isIn : Cond.code yX6_isIn cX6_isIn 2 (some .boolean) ∈ TB := tb_in (List.mem_of_getElem? (i := 275) (by decide +kernel)) (by decide +kernel)
theorem tm_X6_49 : Cond.methodLink RX6 49 yX3_addTable ∈ TB := tb_in (List.mem_of_getElem? (i := 276) (by decide +kernel)) (by decide +kernel)
theorem ti_X3_addTable : Cond.instanceMethod yX3_addTable ∈ TB := tb_in (List.mem_of_getElem? (i := 277) (by decide +kernel)) (by decide +kernel)
theorem ts_X3_addTable : Cond.selects yX3_addTable.cls yX3_addTable yX3_addTable ∈ TB := tb_in (List.mem_of_getElem? (i := 278) (by decide +kernel)) (by decide +kernel)
theorem tc_X3_addTable : Cond.code yX3_addTable cX3_addTable 2 (some .int) ∈ TB := tb_in (List.mem_of_getElem? (i := 279) (by decide +kernel)) (by decide +kernel)
theorem tm_X3_54 : Cond.methodLink RX3 54 yX5_begin ∈ TB := tb_in (List.mem_of_getElem? (i := 280) (by decide +kernel)) (by decide +kernel)
theorem ti_X5_begin : Cond.instanceMethod yX5_begin ∈ TB := tb_in (List.mem_of_getElem? (i := 281) (by decide +kernel)) (by decide +kernel)
theorem ts_X5_begin : Cond.selects yX5_begin.cls yX5_begin yX5_begin ∈ TB := tb_in (List.mem_of_getElem? (i := 282) (by decide +kernel)) (by decide +kernel)
theorem tc_X5_begin : Cond.code yX5_begin cX5_begin 2 none ∈ TB := tb_in (List.mem_of_getElem? (i := 283) (by decide +kernel)) (by decide +kernel)
theorem tm_X5_29 : Cond.methodLink RX5 29 yX0_become ∈ TB := tb_in (List.mem_of_getElem? (i := 284) (by decide +kernel)) (by decide +kernel)
theorem ti_X0_become : Cond.instanceMethod yX0_become ∈ TB := tb_in (List.mem_of_getElem? (i := 285) (by decide +kernel)) (by decide +kernel)
theorem ts_X0_become : Cond.selects yX0_become.cls yX0_become yX0_become ∈ TB := tb_in (List.mem_of_getElem? (i := 286) (by decide +kernel)) (by decide +kernel)
theorem tc_X0_become : Cond.code yX0_become cX0_become 4 none ∈ TB := tb_in (List.mem_of_getElem? (i := 287) (by decide +kernel)) (by decide +kernel)
theorem tn_X0_21 : Cond.methodLinkNest RX0 21 yX6_hasTarget RX6 ∈ lw_tbl := List.mem_of_getElem? (i := 288) (by decide +kernel)
theorem tt_X6_hasTarget : Cond.static yX6_hasTarget ∈ TB := tb_in (List.mem_of_getElem? (i := 289) (by decide +kernel)) (by decide +kernel)
theorem tc_X6_hasTarget : Cond.code yX6_hasTarget cX6_hasTarget 1 (some .boolean) ∈ TB := tb_in (List.mem_of_getElem? (i := 290) (by decide +kernel)) (by decide +kernel)
theorem tm_L_18 : Cond.methodLink RL 18 yX6_entry ∈ TB := tb_in (List.mem_of_getElem? (i := 291) (by decide +kernel)) (by decide +kernel)
theorem ti_X6_entry : Cond.instanceMethod yX6_entry ∈ TB := tb_in (List.mem_of_getElem? (i := 292) (by decide +kernel)) (by decide +kernel)
theorem ts_X6_entry : Cond.selects yX6_entry.cls yX6_entry yX6_entry ∈ TB := tb_in (List.mem_of_getElem? (i := 293) (by decide +kernel)) (by decide +kernel)
theorem tc_X6_entry : Cond.code yX6_entry cX6_entry 7 (some .int) ∈ TB := tb_in (List.mem_of_getElem? (i := 294) (by decide +kernel)) (by decide +kernel)
theorem tm_X6_53 : Cond.methodLink RX6 53 yX3_hasTable ∈ TB := tb_in (List.mem_of_getElem? (i := 295) (by decide +kernel)) (by decide +kernel)
theorem ti_X3_hasTable : Cond.instanceMethod yX3_hasTable ∈ TB := tb_in (List.mem_of_getElem? (i := 296) (by decide +kernel)) (by decide +kernel)
theorem ts_X3_hasTable : Cond.selects yX3_hasTable.cls yX3_hasTable yX3_hasTable ∈ TB := tb_in (List.mem_of_getElem? (i := 297) (by decide +kernel)) (by decide +kernel)
theorem tc_X3_hasTable : Cond.code yX3_hasTable cX3_hasTable 2 (some .boolean) ∈ TB := tb_in (List.mem_of_getElem? (i := 298) (by decide +kernel)) (by decide +kernel)
theorem tn_X3_50 : Cond.methodLinkNest RX3 50 yX6_isIn RX6 ∈ lw_tbl := List.mem_of_getElem? (i := 299) (by decide +kernel)
theorem tm_X6_57 : Cond.methodLink RX6 57 yX6_isUpTo ∈ TB := tb_in (List.mem_of_getElem? (i := 300) (by decide +kernel)) (by decide +kernel)
theorem tt_X6_isUpTo : Cond.static yX6_isUpTo ∈ TB := tb_in (List.mem_of_getElem? (i := 301) (by decide +kernel)) (by decide +kernel)
theorem tc_X6_isUpTo : Cond.code yX6_isUpTo cX6_isUpTo 2 (some .boolean) ∈ TB := tb_in (List.mem_of_getElem? (i := 302) (by decide +kernel)) (by decide +kernel)
theorem tm_X6_60 : Cond.methodLink RX6 60 yX6_isAct ∈ TB := tb_in (List.mem_of_getElem? (i := 303) (by decide +kernel)) (by decide +kernel)
theorem tt_X6_isAct : Cond.static yX6_isAct ∈ TB := tb_in (List.mem_of_getElem? (i := 304) (by decide +kernel)) (by decide +kernel)
theorem tc_X6_isAct : Cond.code yX6_isAct cX6_isAct 3 (some .boolean) ∈ TB := tb_in (List.mem_of_getElem? (i := 305) (by decide +kernel)) (by decide +kernel)
theorem tf_X6_213 : Cond.fieldLink RX6 213 RX6 "GREATEST_X" "[I" ∈ TB := tb_in (List.mem_of_getElem? (i := 306) (by decide +kernel)) (by decide +kernel)
theorem tm_X6_216 : Cond.methodLink RX6 216 yX6_hasTarget ∈ TB := tb_in (List.mem_of_getElem? (i := 308) (by decide +kernel)) (by decide +kernel)
theorem tm_X6_68 : Cond.methodLink RX6 68 yX5_slotOf ∈ TB := tb_in (List.mem_of_getElem? (i := 309) (by decide +kernel)) (by decide +kernel)
theorem ti_X5_slotOf : Cond.instanceMethod yX5_slotOf ∈ TB := tb_in (List.mem_of_getElem? (i := 310) (by decide +kernel)) (by decide +kernel)
theorem ts_X5_slotOf : Cond.selects yX5_slotOf.cls yX5_slotOf yX5_slotOf ∈ TB := tb_in (List.mem_of_getElem? (i := 311) (by decide +kernel)) (by decide +kernel)
theorem tc_X5_slotOf : Cond.code yX5_slotOf cX5_slotOf 3 (some .int) ∈ TB := tb_in (List.mem_of_getElem? (i := 312) (by decide +kernel)) (by decide +kernel)
theorem tm_X6_73 : Cond.methodLink RX6 73 yX3_isTakenElsewhere ∈ TB := tb_in (List.mem_of_getElem? (i := 313) (by decide +kernel)) (by decide +kernel)
theorem ti_X3_isTakenElsewhere : Cond.instanceMethod yX3_isTakenElsewhere ∈ TB := tb_in (List.mem_of_getElem? (i := 314) (by decide +kernel)) (by decide +kernel)
theorem ts_X3_isTakenElsewhere : Cond.selects yX3_isTakenElsewhere.cls yX3_isTakenElsewhere yX3_isTakenElsewhere ∈ TB := tb_in (List.mem_of_getElem? (i := 315) (by decide +kernel)) (by decide +kernel)
theorem tc_X3_isTakenElsewhere : Cond.code yX3_isTakenElsewhere cX3_isTakenElsewhere 6 (some .boolean) ∈ TB := tb_in (List.mem_of_getElem? (i := 316) (by decide +kernel)) (by decide +kernel)
theorem tn_X3_58 : Cond.methodLinkNest RX3 58 yX6_hasRegister RX6 ∈ lw_tbl := List.mem_of_getElem? (i := 317) (by decide +kernel)
theorem tt_X6_hasRegister : Cond.static yX6_hasRegister ∈ TB := tb_in (List.mem_of_getElem? (i := 318) (by decide +kernel)) (by decide +kernel)
theorem tc_X6_hasRegister : Cond.code yX6_hasRegister cX6_hasRegister 1 (some .boolean) ∈ TB := tb_in (List.mem_of_getElem? (i := 319) (by decide +kernel)) (by decide +kernel)
theorem tm_X3_62 : Cond.methodLink RX3 62 yX5_ownRegisters ∈ TB := tb_in (List.mem_of_getElem? (i := 320) (by decide +kernel)) (by decide +kernel)
theorem ti_X5_ownRegisters : Cond.instanceMethod yX5_ownRegisters ∈ TB := tb_in (List.mem_of_getElem? (i := 321) (by decide +kernel)) (by decide +kernel)
theorem ts_X5_ownRegisters : Cond.selects yX5_ownRegisters.cls yX5_ownRegisters yX5_ownRegisters ∈ TB := tb_in (List.mem_of_getElem? (i := 322) (by decide +kernel)) (by decide +kernel)
theorem tc_X5_ownRegisters : Cond.code yX5_ownRegisters cX5_ownRegisters 3 (some .int) ∈ TB := tb_in (List.mem_of_getElem? (i := 323) (by decide +kernel)) (by decide +kernel)
theorem tm_X5_43 : Cond.methodLink RX5 43 yX5_isUsed ∈ TB := tb_in (List.mem_of_getElem? (i := 324) (by decide +kernel)) (by decide +kernel)
theorem ti_X5_isUsed : Cond.instanceMethod yX5_isUsed ∈ TB := tb_in (List.mem_of_getElem? (i := 325) (by decide +kernel)) (by decide +kernel)
theorem ts_X5_isUsed : Cond.selects yX5_isUsed.cls yX5_isUsed yX5_isUsed ∈ TB := tb_in (List.mem_of_getElem? (i := 326) (by decide +kernel)) (by decide +kernel)
theorem tc_X5_isUsed : Cond.code yX5_isUsed cX5_isUsed 2 (some .boolean) ∈ TB := tb_in (List.mem_of_getElem? (i := 327) (by decide +kernel)) (by decide +kernel)
theorem tm_X5_54 : Cond.methodLink RX5 54 yX0_ownRegisters ∈ TB := tb_in (List.mem_of_getElem? (i := 328) (by decide +kernel)) (by decide +kernel)
theorem ti_X0_ownRegisters : Cond.instanceMethod yX0_ownRegisters ∈ TB := tb_in (List.mem_of_getElem? (i := 329) (by decide +kernel)) (by decide +kernel)
theorem ts_X0_ownRegisters : Cond.selects yX0_ownRegisters.cls yX0_ownRegisters yX0_ownRegisters ∈ TB := tb_in (List.mem_of_getElem? (i := 330) (by decide +kernel)) (by decide +kernel)
theorem tc_X0_ownRegisters : Cond.code yX0_ownRegisters cX0_ownRegisters 1 (some .int) ∈ TB := tb_in (List.mem_of_getElem? (i := 331) (by decide +kernel)) (by decide +kernel)
theorem tn_X0_25 : Cond.methodLinkNest RX0 25 yX6_hasRegister RX6 ∈ lw_tbl := List.mem_of_getElem? (i := 332) (by decide +kernel)
theorem tm_X6_79 : Cond.methodLink RX6 79 yX5_addEntry ∈ TB := tb_in (List.mem_of_getElem? (i := 333) (by decide +kernel)) (by decide +kernel)
theorem ti_X5_addEntry : Cond.instanceMethod yX5_addEntry ∈ TB := tb_in (List.mem_of_getElem? (i := 334) (by decide +kernel)) (by decide +kernel)
theorem ts_X5_addEntry : Cond.selects yX5_addEntry.cls yX5_addEntry yX5_addEntry ∈ TB := tb_in (List.mem_of_getElem? (i := 335) (by decide +kernel)) (by decide +kernel)
theorem tc_X5_addEntry : Cond.code yX5_addEntry cX5_addEntry 5 (some .int) ∈ TB := tb_in (List.mem_of_getElem? (i := 336) (by decide +kernel)) (by decide +kernel)
theorem tm_L_23 : Cond.methodLink RL 23 yX6_otherwise ∈ TB := tb_in (List.mem_of_getElem? (i := 337) (by decide +kernel)) (by decide +kernel)
theorem ti_X6_otherwise : Cond.instanceMethod yX6_otherwise ∈ TB := tb_in (List.mem_of_getElem? (i := 338) (by decide +kernel)) (by decide +kernel)
theorem ts_X6_otherwise : Cond.selects yX6_otherwise.cls yX6_otherwise yX6_otherwise ∈ TB := tb_in (List.mem_of_getElem? (i := 339) (by decide +kernel)) (by decide +kernel)
theorem tc_X6_otherwise : Cond.code yX6_otherwise cX6_otherwise 7 (some .int) ∈ TB := tb_in (List.mem_of_getElem? (i := 340) (by decide +kernel)) (by decide +kernel)
theorem tm_X6_92 : Cond.methodLink RX6 92 yX0_become ∈ TB := tb_in (List.mem_of_getElem? (i := 341) (by decide +kernel)) (by decide +kernel)
theorem tm_L_28 : Cond.methodLink RL 28 yX6_forget ∈ TB := tb_in (List.mem_of_getElem? (i := 342) (by decide +kernel)) (by decide +kernel)
theorem ti_X6_forget : Cond.instanceMethod yX6_forget ∈ TB := tb_in (List.mem_of_getElem? (i := 343) (by decide +kernel)) (by decide +kernel)
theorem ts_X6_forget : Cond.selects yX6_forget.cls yX6_forget yX6_forget ∈ TB := tb_in (List.mem_of_getElem? (i := 344) (by decide +kernel)) (by decide +kernel)
theorem tc_X6_forget : Cond.code yX6_forget cX6_forget 4 (some .int) ∈ TB := tb_in (List.mem_of_getElem? (i := 345) (by decide +kernel)) (by decide +kernel)
theorem tm_X6_96 : Cond.methodLink RX6 96 yX5_removeEntry ∈ TB := tb_in (List.mem_of_getElem? (i := 346) (by decide +kernel)) (by decide +kernel)
theorem ti_X5_removeEntry : Cond.instanceMethod yX5_removeEntry ∈ TB := tb_in (List.mem_of_getElem? (i := 347) (by decide +kernel)) (by decide +kernel)
theorem ts_X5_removeEntry : Cond.selects yX5_removeEntry.cls yX5_removeEntry yX5_removeEntry ∈ TB := tb_in (List.mem_of_getElem? (i := 348) (by decide +kernel)) (by decide +kernel)
theorem tc_X5_removeEntry : Cond.code yX5_removeEntry cX5_removeEntry 3 (some .int) ∈ TB := tb_in (List.mem_of_getElem? (i := 349) (by decide +kernel)) (by decide +kernel)
theorem tm_X5_39 : Cond.methodLink RX5 39 yX0_copy ∈ TB := tb_in (List.mem_of_getElem? (i := 350) (by decide +kernel)) (by decide +kernel)
theorem ti_X0_copy : Cond.instanceMethod yX0_copy ∈ TB := tb_in (List.mem_of_getElem? (i := 351) (by decide +kernel)) (by decide +kernel)
theorem ts_X0_copy : Cond.selects yX0_copy.cls yX0_copy yX0_copy ∈ TB := tb_in (List.mem_of_getElem? (i := 352) (by decide +kernel)) (by decide +kernel)
theorem tc_X0_copy : Cond.code yX0_copy cX0_copy 2 none ∈ TB := tb_in (List.mem_of_getElem? (i := 353) (by decide +kernel)) (by decide +kernel)
theorem tm_L_33 : Cond.methodLink RL 33 yX6_drop ∈ TB := tb_in (List.mem_of_getElem? (i := 354) (by decide +kernel)) (by decide +kernel)
theorem ti_X6_drop : Cond.instanceMethod yX6_drop ∈ TB := tb_in (List.mem_of_getElem? (i := 355) (by decide +kernel)) (by decide +kernel)
theorem ts_X6_drop : Cond.selects yX6_drop.cls yX6_drop yX6_drop ∈ TB := tb_in (List.mem_of_getElem? (i := 356) (by decide +kernel)) (by decide +kernel)
theorem tc_X6_drop : Cond.code yX6_drop cX6_drop 2 (some .int) ∈ TB := tb_in (List.mem_of_getElem? (i := 357) (by decide +kernel)) (by decide +kernel)
theorem tm_X6_99 : Cond.methodLink RX6 99 yX3_removeTable ∈ TB := tb_in (List.mem_of_getElem? (i := 358) (by decide +kernel)) (by decide +kernel)
theorem ti_X3_removeTable : Cond.instanceMethod yX3_removeTable ∈ TB := tb_in (List.mem_of_getElem? (i := 359) (by decide +kernel)) (by decide +kernel)
theorem ts_X3_removeTable : Cond.selects yX3_removeTable.cls yX3_removeTable yX3_removeTable ∈ TB := tb_in (List.mem_of_getElem? (i := 360) (by decide +kernel)) (by decide +kernel)
theorem tc_X3_removeTable : Cond.code yX3_removeTable cX3_removeTable 4 (some .int) ∈ TB := tb_in (List.mem_of_getElem? (i := 361) (by decide +kernel)) (by decide +kernel)
theorem tm_L_37 : Cond.methodLink RL 37 yX6_rule ∈ TB := tb_in (List.mem_of_getElem? (i := 362) (by decide +kernel)) (by decide +kernel)
theorem ti_X6_rule : Cond.instanceMethod yX6_rule ∈ TB := tb_in (List.mem_of_getElem? (i := 363) (by decide +kernel)) (by decide +kernel)
theorem ts_X6_rule : Cond.selects yX6_rule.cls yX6_rule yX6_rule ∈ TB := tb_in (List.mem_of_getElem? (i := 364) (by decide +kernel)) (by decide +kernel)
theorem tc_X6_rule : Cond.code yX6_rule cX6_rule 4 (some .int) ∈ TB := tb_in (List.mem_of_getElem? (i := 365) (by decide +kernel)) (by decide +kernel)
theorem tf_X6_102 : Cond.fieldLink RX6 102 RX6 "FIRST_RULES" "[I" ∈ TB := tb_in (List.mem_of_getElem? (i := 366) (by decide +kernel)) (by decide +kernel)
theorem tf_X6_106 : Cond.fieldLink RX6 106 RX6 "LEAST_RULES" "[I" ∈ TB := tb_in (List.mem_of_getElem? (i := 367) (by decide +kernel)) (by decide +kernel)
theorem tf_X6_109 : Cond.fieldLink RX6 109 RX6 "GREATEST_RULES" "[I" ∈ TB := tb_in (List.mem_of_getElem? (i := 369) (by decide +kernel)) (by decide +kernel)
theorem tm_L_41 : Cond.methodLink RL 41 yX6_told ∈ TB := tb_in (List.mem_of_getElem? (i := 371) (by decide +kernel)) (by decide +kernel)
theorem ti_X6_told : Cond.instanceMethod yX6_told ∈ TB := tb_in (List.mem_of_getElem? (i := 372) (by decide +kernel)) (by decide +kernel)
theorem ts_X6_told : Cond.selects yX6_told.cls yX6_told yX6_told ∈ TB := tb_in (List.mem_of_getElem? (i := 373) (by decide +kernel)) (by decide +kernel)
theorem tc_X6_told : Cond.code yX6_told cX6_told 4 (some .int) ∈ TB := tb_in (List.mem_of_getElem? (i := 374) (by decide +kernel)) (by decide +kernel)
theorem tm_X6_118 : Cond.methodLink RX6 118 yX2_arrange ∈ TB := tb_in (List.mem_of_getElem? (i := 375) (by decide +kernel)) (by decide +kernel)
theorem ti_X2_arrange : Cond.instanceMethod yX2_arrange ∈ TB := tb_in (List.mem_of_getElem? (i := 376) (by decide +kernel)) (by decide +kernel)
theorem ts_X2_arrange : Cond.selects yX2_arrange.cls yX2_arrange yX2_arrange ∈ TB := tb_in (List.mem_of_getElem? (i := 377) (by decide +kernel)) (by decide +kernel)
theorem tc_X2_arrange : Cond.code yX2_arrange cX2_arrange 3 none ∈ TB := tb_in (List.mem_of_getElem? (i := 378) (by decide +kernel)) (by decide +kernel)
theorem tm_X2_52 : Cond.methodLink RX2 52 yX2_look ∈ TB := tb_in (List.mem_of_getElem? (i := 379) (by decide +kernel)) (by decide +kernel)
theorem ti_X2_look : Cond.instanceMethod yX2_look ∈ TB := tb_in (List.mem_of_getElem? (i := 381) (by decide +kernel)) (by decide +kernel)
theorem tc_X2_look : Cond.code yX2_look cX2_look 5 none ∈ TB := tb_in (List.mem_of_getElem? (i := 382) (by decide +kernel)) (by decide +kernel)
theorem tm_X2_78 : Cond.methodLink RX2 78 yX5_writtenFields ∈ TB := tb_in (List.mem_of_getElem? (i := 383) (by decide +kernel)) (by decide +kernel)
theorem ti_X5_writtenFields : Cond.instanceMethod yX5_writtenFields ∈ TB := tb_in (List.mem_of_getElem? (i := 384) (by decide +kernel)) (by decide +kernel)
theorem ts_X5_writtenFields : Cond.selects yX5_writtenFields.cls yX5_writtenFields yX5_writtenFields ∈ TB := tb_in (List.mem_of_getElem? (i := 385) (by decide +kernel)) (by decide +kernel)
theorem tc_X5_writtenFields : Cond.code yX5_writtenFields cX5_writtenFields 3 (some .int) ∈ TB := tb_in (List.mem_of_getElem? (i := 386) (by decide +kernel)) (by decide +kernel)
theorem tm_X5_47 : Cond.methodLink RX5 47 yX0_writtenFields ∈ TB := tb_in (List.mem_of_getElem? (i := 387) (by decide +kernel)) (by decide +kernel)
theorem ti_X0_writtenFields : Cond.instanceMethod yX0_writtenFields ∈ TB := tb_in (List.mem_of_getElem? (i := 388) (by decide +kernel)) (by decide +kernel)
theorem ts_X0_writtenFields : Cond.selects yX0_writtenFields.cls yX0_writtenFields yX0_writtenFields ∈ TB := tb_in (List.mem_of_getElem? (i := 389) (by decide +kernel)) (by decide +kernel)
theorem tc_X0_writtenFields : Cond.code yX0_writtenFields cX0_writtenFields 1 (some .int) ∈ TB := tb_in (List.mem_of_getElem? (i := 390) (by decide +kernel)) (by decide +kernel)
theorem tm_X2_82 : Cond.methodLink RX2 82 yX5_readFields ∈ TB := tb_in (List.mem_of_getElem? (i := 391) (by decide +kernel)) (by decide +kernel)
theorem ti_X5_readFields : Cond.instanceMethod yX5_readFields ∈ TB := tb_in (List.mem_of_getElem? (i := 392) (by decide +kernel)) (by decide +kernel)
theorem ts_X5_readFields : Cond.selects yX5_readFields.cls yX5_readFields yX5_readFields ∈ TB := tb_in (List.mem_of_getElem? (i := 393) (by decide +kernel)) (by decide +kernel)
theorem tc_X5_readFields : Cond.code yX5_readFields cX5_readFields 3 (some .int) ∈ TB := tb_in (List.mem_of_getElem? (i := 394) (by decide +kernel)) (by decide +kernel)
theorem tm_X5_51 : Cond.methodLink RX5 51 yX0_readFields ∈ TB := tb_in (List.mem_of_getElem? (i := 395) (by decide +kernel)) (by decide +kernel)
theorem ti_X0_readFields : Cond.instanceMethod yX0_readFields ∈ TB := tb_in (List.mem_of_getElem? (i := 396) (by decide +kernel)) (by decide +kernel)
theorem ts_X0_readFields : Cond.selects yX0_readFields.cls yX0_readFields yX0_readFields ∈ TB := tb_in (List.mem_of_getElem? (i := 397) (by decide +kernel)) (by decide +kernel)
theorem tc_X0_readFields : Cond.code yX0_readFields cX0_readFields 1 (some .int) ∈ TB := tb_in (List.mem_of_getElem? (i := 398) (by decide +kernel)) (by decide +kernel)
theorem tm_X2_85 : Cond.methodLink RX2 85 yX5_size ∈ TB := tb_in (List.mem_of_getElem? (i := 399) (by decide +kernel)) (by decide +kernel)
theorem ti_X5_size : Cond.instanceMethod yX5_size ∈ TB := tb_in (List.mem_of_getElem? (i := 400) (by decide +kernel)) (by decide +kernel)
theorem ts_X5_size : Cond.selects yX5_size.cls yX5_size yX5_size ∈ TB := tb_in (List.mem_of_getElem? (i := 401) (by decide +kernel)) (by decide +kernel)
theorem tc_X5_size : Cond.code yX5_size cX5_size 1 (some .int) ∈ TB := tb_in (List.mem_of_getElem? (i := 402) (by decide +kernel)) (by decide +kernel)
theorem tm_X2_87 : Cond.methodLink RX2 87 yX2_needOf ∈ TB := tb_in (List.mem_of_getElem? (i := 403) (by decide +kernel)) (by decide +kernel)
theorem ti_X2_needOf : Cond.instanceMethod yX2_needOf ∈ TB := tb_in (List.mem_of_getElem? (i := 404) (by decide +kernel)) (by decide +kernel)
theorem ts_X2_needOf : Cond.selects yX2_needOf.cls yX2_needOf yX2_needOf ∈ TB := tb_in (List.mem_of_getElem? (i := 405) (by decide +kernel)) (by decide +kernel)
theorem tc_X2_needOf : Cond.code yX2_needOf cX2_needOf 3 (some .int) ∈ TB := tb_in (List.mem_of_getElem? (i := 406) (by decide +kernel)) (by decide +kernel)
theorem tm_X2_91 : Cond.methodLink RX2 91 yJ9_max_7cf53 ∈ TB := tb_in (List.mem_of_getElem? (i := 407) (by decide +kernel)) (by decide +kernel)
theorem tt_J9_max_7cf53 : Cond.static yJ9_max_7cf53 ∈ TB := tb_in (List.mem_of_getElem? (i := 408) (by decide +kernel)) (by decide +kernel)
theorem tc_J9_max_7cf53 : Cond.code yJ9_max_7cf53 cJ9_max_7cf53 2 (some .int) ∈ TB := tb_in (List.mem_of_getElem? (i := 409) (by decide +kernel)) (by decide +kernel)
theorem tm_X2_56 : Cond.methodLink RX2 56 yJ7_fill_53178 ∈ TB := tb_in (List.mem_of_getElem? (i := 410) (by decide +kernel)) (by decide +kernel)
theorem tt_J7_fill_53178 : Cond.static yJ7_fill_53178 ∈ TB := tb_in (List.mem_of_getElem? (i := 411) (by decide +kernel)) (by decide +kernel)
theorem tc_J7_fill_53178 : Cond.code yJ7_fill_53178 cJ7_fill_53178 4 none ∈ TB := tb_in (List.mem_of_getElem? (i := 412) (by decide +kernel)) (by decide +kernel)
theorem tm_X2_69 : Cond.methodLink RX2 69 yX2_place ∈ TB := tb_in (List.mem_of_getElem? (i := 413) (by decide +kernel)) (by decide +kernel)
theorem ti_X2_place : Cond.instanceMethod yX2_place ∈ TB := tb_in (List.mem_of_getElem? (i := 415) (by decide +kernel)) (by decide +kernel)
theorem tc_X2_place : Cond.code yX2_place cX2_place 4 (some .boolean) ∈ TB := tb_in (List.mem_of_getElem? (i := 416) (by decide +kernel)) (by decide +kernel)
theorem tm_X2_96 : Cond.methodLink RX2 96 yX2_leastStage ∈ TB := tb_in (List.mem_of_getElem? (i := 417) (by decide +kernel)) (by decide +kernel)
theorem ti_X2_leastStage : Cond.instanceMethod yX2_leastStage ∈ TB := tb_in (List.mem_of_getElem? (i := 419) (by decide +kernel)) (by decide +kernel)
theorem tc_X2_leastStage : Cond.code yX2_leastStage cX2_leastStage 4 (some .int) ∈ TB := tb_in (List.mem_of_getElem? (i := 420) (by decide +kernel)) (by decide +kernel)
theorem tm_X2_100 : Cond.methodLink RX2 100 yJ6_bitCount_0f7a4 ∈ TB := tb_in (List.mem_of_getElem? (i := 421) (by decide +kernel)) (by decide +kernel)
theorem tt_J6_bitCount_0f7a4 : Cond.static yJ6_bitCount_0f7a4 ∈ TB := tb_in (List.mem_of_getElem? (i := 422) (by decide +kernel)) (by decide +kernel)
theorem tc_J6_bitCount_0f7a4 : Cond.code yJ6_bitCount_0f7a4 cJ6_bitCount_0f7a4 1 (some .int) ∈ TB := tb_in (List.mem_of_getElem? (i := 423) (by decide +kernel)) (by decide +kernel)
theorem tk_J6_265 : Cond.constant RJ6 265 1431655765 ∈ TB := tb_in (List.mem_of_getElem? (i := 424) (by decide +kernel)) (by decide +kernel)
theorem tk_J6_266 : Cond.constant RJ6 266 858993459 ∈ TB := tb_in (List.mem_of_getElem? (i := 425) (by decide +kernel)) (by decide +kernel)
theorem tk_J6_267 : Cond.constant RJ6 267 252645135 ∈ TB := tb_in (List.mem_of_getElem? (i := 426) (by decide +kernel)) (by decide +kernel)
theorem tm_X6_132 : Cond.methodLink RX6 132 yX5_writtenFields ∈ TB := tb_in (List.mem_of_getElem? (i := 427) (by decide +kernel)) (by decide +kernel)
theorem tm_X6_136 : Cond.methodLink RX6 136 yX5_readFields ∈ TB := tb_in (List.mem_of_getElem? (i := 428) (by decide +kernel)) (by decide +kernel)
theorem tm_X6_139 : Cond.methodLink RX6 139 yX5_ownRegisters ∈ TB := tb_in (List.mem_of_getElem? (i := 429) (by decide +kernel)) (by decide +kernel)
theorem tm_X6_142 : Cond.methodLink RX6 142 yX5_partOfAct ∈ TB := tb_in (List.mem_of_getElem? (i := 430) (by decide +kernel)) (by decide +kernel)
theorem ti_X5_partOfAct : Cond.instanceMethod yX5_partOfAct ∈ TB := tb_in (List.mem_of_getElem? (i := 431) (by decide +kernel)) (by decide +kernel)
theorem ts_X5_partOfAct : Cond.selects yX5_partOfAct.cls yX5_partOfAct yX5_partOfAct ∈ TB := tb_in (List.mem_of_getElem? (i := 432) (by decide +kernel)) (by decide +kernel)
theorem tc_X5_partOfAct : Cond.code yX5_partOfAct cX5_partOfAct 5 (some .int) ∈ TB := tb_in (List.mem_of_getElem? (i := 433) (by decide +kernel)) (by decide +kernel)
theorem tm_L_45 : Cond.methodLink RL 45 yX6_needs ∈ TB := tb_in (List.mem_of_getElem? (i := 434) (by decide +kernel)) (by decide +kernel)
theorem ti_X6_needs : Cond.instanceMethod yX6_needs ∈ TB := tb_in (List.mem_of_getElem? (i := 435) (by decide +kernel)) (by decide +kernel)
theorem ts_X6_needs : Cond.selects yX6_needs.cls yX6_needs yX6_needs ∈ TB := tb_in (List.mem_of_getElem? (i := 436) (by decide +kernel)) (by decide +kernel)
theorem tc_X6_needs : Cond.code yX6_needs cX6_needs 3 (some .int) ∈ TB := tb_in (List.mem_of_getElem? (i := 437) (by decide +kernel)) (by decide +kernel)
theorem tm_X6_145 : Cond.methodLink RX6 145 yJ9_max_7cf53 ∈ TB := tb_in (List.mem_of_getElem? (i := 438) (by decide +kernel)) (by decide +kernel)
theorem tm_X6_151 : Cond.methodLink RX6 151 yJ9_min_7cf53 ∈ TB := tb_in (List.mem_of_getElem? (i := 439) (by decide +kernel)) (by decide +kernel)
theorem tt_J9_min_7cf53 : Cond.static yJ9_min_7cf53 ∈ TB := tb_in (List.mem_of_getElem? (i := 440) (by decide +kernel)) (by decide +kernel)
theorem tc_J9_min_7cf53 : Cond.code yJ9_min_7cf53 cJ9_min_7cf53 2 (some .int) ∈ TB := tb_in (List.mem_of_getElem? (i := 441) (by decide +kernel)) (by decide +kernel)
theorem tm_X6_154 : Cond.methodLink RX6 154 yX2_needOf ∈ TB := tb_in (List.mem_of_getElem? (i := 442) (by decide +kernel)) (by decide +kernel)
theorem tm_L_49 : Cond.methodLink RL 49 yX6_stages ∈ TB := tb_in (List.mem_of_getElem? (i := 443) (by decide +kernel)) (by decide +kernel)
theorem ti_X6_stages : Cond.instanceMethod yX6_stages ∈ TB := tb_in (List.mem_of_getElem? (i := 444) (by decide +kernel)) (by decide +kernel)
theorem ts_X6_stages : Cond.selects yX6_stages.cls yX6_stages yX6_stages ∈ TB := tb_in (List.mem_of_getElem? (i := 445) (by decide +kernel)) (by decide +kernel)
theorem tc_X6_stages : Cond.code yX6_stages cX6_stages 1 (some .int) ∈ TB := tb_in (List.mem_of_getElem? (i := 446) (by decide +kernel)) (by decide +kernel)
theorem tm_X6_157 : Cond.methodLink RX6 157 yX2_stagesWithTables ∈ TB := tb_in (List.mem_of_getElem? (i := 447) (by decide +kernel)) (by decide +kernel)
theorem ti_X2_stagesWithTables : Cond.instanceMethod yX2_stagesWithTables ∈ TB := tb_in (List.mem_of_getElem? (i := 448) (by decide +kernel)) (by decide +kernel)
theorem ts_X2_stagesWithTables : Cond.selects yX2_stagesWithTables.cls yX2_stagesWithTables yX2_stagesWithTables ∈ TB := tb_in (List.mem_of_getElem? (i := 449) (by decide +kernel)) (by decide +kernel)
theorem tc_X2_stagesWithTables : Cond.code yX2_stagesWithTables cX2_stagesWithTables 3 (some .int) ∈ TB := tb_in (List.mem_of_getElem? (i := 450) (by decide +kernel)) (by decide +kernel)
theorem tm_L_54 : Cond.methodLink RL 54 yX6_stage ∈ TB := tb_in (List.mem_of_getElem? (i := 451) (by decide +kernel)) (by decide +kernel)
theorem ti_X6_stage : Cond.instanceMethod yX6_stage ∈ TB := tb_in (List.mem_of_getElem? (i := 452) (by decide +kernel)) (by decide +kernel)
theorem ts_X6_stage : Cond.selects yX6_stage.cls yX6_stage yX6_stage ∈ TB := tb_in (List.mem_of_getElem? (i := 453) (by decide +kernel)) (by decide +kernel)
theorem tc_X6_stage : Cond.code yX6_stage cX6_stage 3 (some .int) ∈ TB := tb_in (List.mem_of_getElem? (i := 454) (by decide +kernel)) (by decide +kernel)
theorem tm_L_58 : Cond.methodLink RL 58 yX6_fewest ∈ TB := tb_in (List.mem_of_getElem? (i := 455) (by decide +kernel)) (by decide +kernel)
theorem ti_X6_fewest : Cond.instanceMethod yX6_fewest ∈ TB := tb_in (List.mem_of_getElem? (i := 456) (by decide +kernel)) (by decide +kernel)
theorem ts_X6_fewest : Cond.selects yX6_fewest.cls yX6_fewest yX6_fewest ∈ TB := tb_in (List.mem_of_getElem? (i := 457) (by decide +kernel)) (by decide +kernel)
theorem tc_X6_fewest : Cond.code yX6_fewest cX6_fewest 1 (some .int) ∈ TB := tb_in (List.mem_of_getElem? (i := 458) (by decide +kernel)) (by decide +kernel)
theorem tm_X6_166 : Cond.methodLink RX6 166 yX4_fewestStages ∈ TB := tb_in (List.mem_of_getElem? (i := 459) (by decide +kernel)) (by decide +kernel)
theorem ti_X4_fewestStages : Cond.instanceMethod yX4_fewestStages ∈ TB := tb_in (List.mem_of_getElem? (i := 460) (by decide +kernel)) (by decide +kernel)
theorem ts_X4_fewestStages : Cond.selects yX4_fewestStages.cls yX4_fewestStages yX4_fewestStages ∈ TB := tb_in (List.mem_of_getElem? (i := 461) (by decide +kernel)) (by decide +kernel)
theorem tc_X4_fewestStages : Cond.code yX4_fewestStages cX4_fewestStages 5 (some .int) ∈ TB := tb_in (List.mem_of_getElem? (i := 462) (by decide +kernel)) (by decide +kernel)
theorem tm_X4_27 : Cond.methodLink RX4 27 yX4_measure ∈ TB := tb_in (List.mem_of_getElem? (i := 463) (by decide +kernel)) (by decide +kernel)
theorem ti_X4_measure : Cond.instanceMethod yX4_measure ∈ TB := tb_in (List.mem_of_getElem? (i := 465) (by decide +kernel)) (by decide +kernel)
theorem tc_X4_measure : Cond.code yX4_measure cX4_measure 6 none ∈ TB := tb_in (List.mem_of_getElem? (i := 466) (by decide +kernel)) (by decide +kernel)
theorem tm_X4_31 : Cond.methodLink RX4 31 yJ7_fill_53178 ∈ TB := tb_in (List.mem_of_getElem? (i := 467) (by decide +kernel)) (by decide +kernel)
theorem tm_X4_37 : Cond.methodLink RX4 37 yX4_ready ∈ TB := tb_in (List.mem_of_getElem? (i := 468) (by decide +kernel)) (by decide +kernel)
theorem ti_X4_ready : Cond.instanceMethod yX4_ready ∈ TB := tb_in (List.mem_of_getElem? (i := 470) (by decide +kernel)) (by decide +kernel)
theorem tc_X4_ready : Cond.code yX4_ready cX4_ready 6 (some .int) ∈ TB := tb_in (List.mem_of_getElem? (i := 471) (by decide +kernel)) (by decide +kernel)
theorem tm_X4_44 : Cond.methodLink RX4 44 yX4_addStage ∈ TB := tb_in (List.mem_of_getElem? (i := 472) (by decide +kernel)) (by decide +kernel)
theorem ti_X4_addStage : Cond.instanceMethod yX4_addStage ∈ TB := tb_in (List.mem_of_getElem? (i := 474) (by decide +kernel)) (by decide +kernel)
theorem tc_X4_addStage : Cond.code yX4_addStage cX4_addStage 6 none ∈ TB := tb_in (List.mem_of_getElem? (i := 475) (by decide +kernel)) (by decide +kernel)
theorem tm_X4_55 : Cond.methodLink RX4 55 yJ6_bitCount_0f7a4 ∈ TB := tb_in (List.mem_of_getElem? (i := 476) (by decide +kernel)) (by decide +kernel)
theorem tm_X4_61 : Cond.methodLink RX4 61 yJ9_min_7cf53 ∈ TB := tb_in (List.mem_of_getElem? (i := 477) (by decide +kernel)) (by decide +kernel)
theorem tm_L_62 : Cond.methodLink RL 62 yX6_tell ∈ TB := tb_in (List.mem_of_getElem? (i := 478) (by decide +kernel)) (by decide +kernel)
theorem ti_X6_tell : Cond.instanceMethod yX6_tell ∈ TB := tb_in (List.mem_of_getElem? (i := 479) (by decide +kernel)) (by decide +kernel)
theorem ts_X6_tell : Cond.selects yX6_tell.cls yX6_tell yX6_tell ∈ TB := tb_in (List.mem_of_getElem? (i := 480) (by decide +kernel)) (by decide +kernel)
theorem tc_X6_tell : Cond.code yX6_tell cX6_tell 4 (some .int) ∈ TB := tb_in (List.mem_of_getElem? (i := 481) (by decide +kernel)) (by decide +kernel)
theorem tm_L_66 : Cond.methodLink RL 66 yX6_put ∈ TB := tb_in (List.mem_of_getElem? (i := 482) (by decide +kernel)) (by decide +kernel)
theorem ti_X6_put : Cond.instanceMethod yX6_put ∈ TB := tb_in (List.mem_of_getElem? (i := 483) (by decide +kernel)) (by decide +kernel)
theorem ts_X6_put : Cond.selects yX6_put.cls yX6_put yX6_put ∈ TB := tb_in (List.mem_of_getElem? (i := 484) (by decide +kernel)) (by decide +kernel)
theorem tc_X6_put : Cond.code yX6_put cX6_put 4 (some .int) ∈ TB := tb_in (List.mem_of_getElem? (i := 485) (by decide +kernel)) (by decide +kernel)
theorem tk_X6_173 : Cond.constant RX6 173 65535 ∈ TB := tb_in (List.mem_of_getElem? (i := 486) (by decide +kernel)) (by decide +kernel)
theorem tm_L_70 : Cond.methodLink RL 70 yX6_register ∈ TB := tb_in (List.mem_of_getElem? (i := 487) (by decide +kernel)) (by decide +kernel)
theorem ti_X6_register : Cond.instanceMethod yX6_register ∈ TB := tb_in (List.mem_of_getElem? (i := 488) (by decide +kernel)) (by decide +kernel)
theorem ts_X6_register : Cond.selects yX6_register.cls yX6_register yX6_register ∈ TB := tb_in (List.mem_of_getElem? (i := 489) (by decide +kernel)) (by decide +kernel)
theorem tc_X6_register : Cond.code yX6_register cX6_register 2 (some .int) ∈ TB := tb_in (List.mem_of_getElem? (i := 490) (by decide +kernel)) (by decide +kernel)
theorem tm_L_74 : Cond.methodLink RL 74 yX6_run ∈ TB := tb_in (List.mem_of_getElem? (i := 491) (by decide +kernel)) (by decide +kernel)
theorem ti_X6_run : Cond.instanceMethod yX6_run ∈ TB := tb_in (List.mem_of_getElem? (i := 492) (by decide +kernel)) (by decide +kernel)
theorem ts_X6_run : Cond.selects yX6_run.cls yX6_run yX6_run ∈ TB := tb_in (List.mem_of_getElem? (i := 493) (by decide +kernel)) (by decide +kernel)
theorem tc_X6_run : Cond.code yX6_run cX6_run 1 (some .int) ∈ TB := tb_in (List.mem_of_getElem? (i := 494) (by decide +kernel)) (by decide +kernel)
theorem tm_X6_177 : Cond.methodLink RX6 177 yX1_passThrough ∈ TB := tb_in (List.mem_of_getElem? (i := 495) (by decide +kernel)) (by decide +kernel)
theorem ti_X1_passThrough : Cond.instanceMethod yX1_passThrough ∈ TB := tb_in (List.mem_of_getElem? (i := 496) (by decide +kernel)) (by decide +kernel)
theorem ts_X1_passThrough : Cond.selects yX1_passThrough.cls yX1_passThrough yX1_passThrough ∈ TB := tb_in (List.mem_of_getElem? (i := 497) (by decide +kernel)) (by decide +kernel)
theorem tc_X1_passThrough : Cond.code yX1_passThrough cX1_passThrough 4 none ∈ TB := tb_in (List.mem_of_getElem? (i := 498) (by decide +kernel)) (by decide +kernel)
theorem tm_X1_25 : Cond.methodLink RX1 25 (⟨"java/lang/System", "arraycopy", "(Ljava/lang/Object;ILjava/lang/Object;II)V"⟩ : MethodName) ∈ TB := tb_in (List.mem_of_getElem? (i := 499) (by decide +kernel)) (by decide +kernel)
theorem tm_X1_48 : Cond.methodLink RX1 48 yX1_doRound ∈ TB := tb_in (List.mem_of_getElem? (i := 502) (by decide +kernel)) (by decide +kernel)
theorem ti_X1_doRound : Cond.instanceMethod yX1_doRound ∈ TB := tb_in (List.mem_of_getElem? (i := 504) (by decide +kernel)) (by decide +kernel)
theorem tc_X1_doRound : Cond.code yX1_doRound cX1_doRound 5 none ∈ TB := tb_in (List.mem_of_getElem? (i := 505) (by decide +kernel)) (by decide +kernel)
theorem tm_X1_63 : Cond.methodLink RX1 63 yX5_slotOf ∈ TB := tb_in (List.mem_of_getElem? (i := 506) (by decide +kernel)) (by decide +kernel)
theorem tm_X1_74 : Cond.methodLink RX1 74 yX1_apply ∈ TB := tb_in (List.mem_of_getElem? (i := 507) (by decide +kernel)) (by decide +kernel)
theorem ti_X1_apply : Cond.instanceMethod yX1_apply ∈ TB := tb_in (List.mem_of_getElem? (i := 509) (by decide +kernel)) (by decide +kernel)
theorem tc_X1_apply : Cond.code yX1_apply cX1_apply 3 none ∈ TB := tb_in (List.mem_of_getElem? (i := 510) (by decide +kernel)) (by decide +kernel)
theorem tk_X1_89 : Cond.constant RX1 89 65535 ∈ TB := tb_in (List.mem_of_getElem? (i := 511) (by decide +kernel)) (by decide +kernel)
theorem tm_X1_90 : Cond.methodLink RX1 90 yX1_keepTop ∈ TB := tb_in (List.mem_of_getElem? (i := 512) (by decide +kernel)) (by decide +kernel)
theorem ti_X1_keepTop : Cond.instanceMethod yX1_keepTop ∈ TB := tb_in (List.mem_of_getElem? (i := 514) (by decide +kernel)) (by decide +kernel)
theorem tc_X1_keepTop : Cond.code yX1_keepTop cX1_keepTop 5 none ∈ TB := tb_in (List.mem_of_getElem? (i := 515) (by decide +kernel)) (by decide +kernel)
theorem tm_X1_94 : Cond.methodLink RX1 94 yX1_swap ∈ TB := tb_in (List.mem_of_getElem? (i := 516) (by decide +kernel)) (by decide +kernel)
theorem ti_X1_swap : Cond.instanceMethod yX1_swap ∈ TB := tb_in (List.mem_of_getElem? (i := 518) (by decide +kernel)) (by decide +kernel)
theorem tc_X1_swap : Cond.code yX1_swap cX1_swap 5 none ∈ TB := tb_in (List.mem_of_getElem? (i := 519) (by decide +kernel)) (by decide +kernel)
theorem tm_L_78 : Cond.methodLink RL 78 yX6_out ∈ TB := tb_in (List.mem_of_getElem? (i := 520) (by decide +kernel)) (by decide +kernel)
theorem ti_X6_out : Cond.instanceMethod yX6_out ∈ TB := tb_in (List.mem_of_getElem? (i := 521) (by decide +kernel)) (by decide +kernel)
theorem ts_X6_out : Cond.selects yX6_out.cls yX6_out yX6_out ∈ TB := tb_in (List.mem_of_getElem? (i := 522) (by decide +kernel)) (by decide +kernel)
theorem tc_X6_out : Cond.code yX6_out cX6_out 2 (some .int) ∈ TB := tb_in (List.mem_of_getElem? (i := 523) (by decide +kernel)) (by decide +kernel)
theorem tm_L_82 : Cond.methodLink RL 82 yX6_took ∈ TB := tb_in (List.mem_of_getElem? (i := 524) (by decide +kernel)) (by decide +kernel)
theorem ti_X6_took : Cond.instanceMethod yX6_took ∈ TB := tb_in (List.mem_of_getElem? (i := 525) (by decide +kernel)) (by decide +kernel)
theorem ts_X6_took : Cond.selects yX6_took.cls yX6_took yX6_took ∈ TB := tb_in (List.mem_of_getElem? (i := 526) (by decide +kernel)) (by decide +kernel)
theorem tc_X6_took : Cond.code yX6_took cX6_took 3 (some .int) ∈ TB := tb_in (List.mem_of_getElem? (i := 527) (by decide +kernel)) (by decide +kernel)
theorem tm_L_86 : Cond.methodLink RL 86 yX6_image ∈ TB := tb_in (List.mem_of_getElem? (i := 528) (by decide +kernel)) (by decide +kernel)
theorem ti_X6_image : Cond.instanceMethod yX6_image ∈ TB := tb_in (List.mem_of_getElem? (i := 529) (by decide +kernel)) (by decide +kernel)
theorem ts_X6_image : Cond.selects yX6_image.cls yX6_image yX6_image ∈ TB := tb_in (List.mem_of_getElem? (i := 530) (by decide +kernel)) (by decide +kernel)
theorem tc_X6_image : Cond.code yX6_image cX6_image 2 (some .int) ∈ TB := tb_in (List.mem_of_getElem? (i := 531) (by decide +kernel)) (by decide +kernel)
theorem tm_X6_207 : Cond.methodLink RX6 207 yX3_copy ∈ TB := tb_in (List.mem_of_getElem? (i := 532) (by decide +kernel)) (by decide +kernel)
theorem ti_X3_copy : Cond.instanceMethod yX3_copy ∈ TB := tb_in (List.mem_of_getElem? (i := 533) (by decide +kernel)) (by decide +kernel)
theorem ts_X3_copy : Cond.selects yX3_copy.cls yX3_copy yX3_copy ∈ TB := tb_in (List.mem_of_getElem? (i := 534) (by decide +kernel)) (by decide +kernel)
theorem tc_X3_copy : Cond.code yX3_copy cX3_copy 3 none ∈ TB := tb_in (List.mem_of_getElem? (i := 535) (by decide +kernel)) (by decide +kernel)
theorem tm_X3_40 : Cond.methodLink RX3 40 yX5_copy ∈ TB := tb_in (List.mem_of_getElem? (i := 536) (by decide +kernel)) (by decide +kernel)
theorem ti_X5_copy : Cond.instanceMethod yX5_copy ∈ TB := tb_in (List.mem_of_getElem? (i := 537) (by decide +kernel)) (by decide +kernel)
theorem ts_X5_copy : Cond.selects yX5_copy.cls yX5_copy yX5_copy ∈ TB := tb_in (List.mem_of_getElem? (i := 538) (by decide +kernel)) (by decide +kernel)
theorem tc_X5_copy : Cond.code yX5_copy cX5_copy 3 none ∈ TB := tb_in (List.mem_of_getElem? (i := 539) (by decide +kernel)) (by decide +kernel)
theorem tm_X5_33 : Cond.methodLink RX5 33 (⟨"java/lang/System", "arraycopy", "(Ljava/lang/Object;ILjava/lang/Object;II)V"⟩ : MethodName) ∈ TB := tb_in (List.mem_of_getElem? (i := 540) (by decide +kernel)) (by decide +kernel)
theorem tm_X3_44 : Cond.methodLink RX3 44 (⟨"java/lang/System", "arraycopy", "(Ljava/lang/Object;ILjava/lang/Object;II)V"⟩ : MethodName) ∈ TB := tb_in (List.mem_of_getElem? (i := 541) (by decide +kernel)) (by decide +kernel)
theorem tm_L_90 : Cond.methodLink RL 90 yX6_restore ∈ TB := tb_in (List.mem_of_getElem? (i := 542) (by decide +kernel)) (by decide +kernel)
theorem ti_X6_restore : Cond.instanceMethod yX6_restore ∈ TB := tb_in (List.mem_of_getElem? (i := 543) (by decide +kernel)) (by decide +kernel)
theorem ts_X6_restore : Cond.selects yX6_restore.cls yX6_restore yX6_restore ∈ TB := tb_in (List.mem_of_getElem? (i := 544) (by decide +kernel)) (by decide +kernel)
theorem tc_X6_restore : Cond.code yX6_restore cX6_restore 2 (some .int) ∈ TB := tb_in (List.mem_of_getElem? (i := 545) (by decide +kernel)) (by decide +kernel)
theorem tm_L_94 : Cond.methodLink RL 94 yX6_count ∈ TB := tb_in (List.mem_of_getElem? (i := 546) (by decide +kernel)) (by decide +kernel)
theorem ti_X6_count : Cond.instanceMethod yX6_count ∈ TB := tb_in (List.mem_of_getElem? (i := 547) (by decide +kernel)) (by decide +kernel)
theorem ts_X6_count : Cond.selects yX6_count.cls yX6_count yX6_count ∈ TB := tb_in (List.mem_of_getElem? (i := 548) (by decide +kernel)) (by decide +kernel)
theorem tc_X6_count : Cond.code yX6_count cX6_count 2 (some .int) ∈ TB := tb_in (List.mem_of_getElem? (i := 549) (by decide +kernel)) (by decide +kernel)
theorem tm_X6_210 : Cond.methodLink RX6 210 yX6_keptImages ∈ TB := tb_in (List.mem_of_getElem? (i := 550) (by decide +kernel)) (by decide +kernel)
theorem ti_X6_keptImages : Cond.instanceMethod yX6_keptImages ∈ TB := tb_in (List.mem_of_getElem? (i := 552) (by decide +kernel)) (by decide +kernel)
theorem tc_X6_keptImages : Cond.code yX6_keptImages cX6_keptImages 3 (some .int) ∈ TB := tb_in (List.mem_of_getElem? (i := 553) (by decide +kernel)) (by decide +kernel)
theorem tl_L_10 : Cond.classLink RL 10 RX7 ∈ TB := tb_in (List.mem_of_getElem? (i := 554) (by decide +kernel)) (by decide +kernel)
theorem tb_X7 : Cond.instantiable RX7 27 ∈ TB := tb_in (List.mem_of_getElem? (i := 555) (by decide +kernel)) (by decide +kernel)
theorem tm_L_12 : Cond.methodLink RL 12 yX7_init ∈ TB := tb_in (List.mem_of_getElem? (i := 556) (by decide +kernel)) (by decide +kernel)
theorem ti_X7_init : Cond.instanceMethod yX7_init ∈ TB := tb_in (List.mem_of_getElem? (i := 557) (by decide +kernel)) (by decide +kernel)
theorem tc_X7_init : Cond.code yX7_init cX7_init 1 none ∈ TB := tb_in (List.mem_of_getElem? (i := 558) (by decide +kernel)) (by decide +kernel)
theorem tm_X7_1 : Cond.methodLink RX7 1 (⟨"java/lang/Object", "<init>", "()V"⟩ : MethodName) ∈ TB := tb_in (List.mem_of_getElem? (i := 559) (by decide +kernel)) (by decide +kernel)
theorem tf_X7_71 : Cond.fieldLink RX7 71 RX7 "many" "I" ∈ TB := tb_in (List.mem_of_getElem? (i := 560) (by decide +kernel)) (by decide +kernel)
theorem tf_X7_7 : Cond.fieldLink RX7 7 RX7 "keys" "[I" ∈ TB := tb_in (List.mem_of_getElem? (i := 561) (by decide +kernel)) (by decide +kernel)
theorem tf_X7_13 : Cond.fieldLink RX7 13 RX7 "entries" "[I" ∈ TB := tb_in (List.mem_of_getElem? (i := 562) (by decide +kernel)) (by decide +kernel)
theorem tf_X7_16 : Cond.fieldLink RX7 16 RX7 "values" "[I" ∈ TB := tb_in (List.mem_of_getElem? (i := 563) (by decide +kernel)) (by decide +kernel)
theorem tf_X7_19 : Cond.fieldLink RX7 19 RX7 "kinds" "[I" ∈ TB := tb_in (List.mem_of_getElem? (i := 564) (by decide +kernel)) (by decide +kernel)
theorem tf_X7_22 : Cond.fieldLink RX7 22 RX7 "targets" "[I" ∈ TB := tb_in (List.mem_of_getElem? (i := 565) (by decide +kernel)) (by decide +kernel)
theorem tf_X7_25 : Cond.fieldLink RX7 25 RX7 "numbers" "[I" ∈ TB := tb_in (List.mem_of_getElem? (i := 566) (by decide +kernel)) (by decide +kernel)
theorem tf_X7_28 : Cond.fieldLink RX7 28 RX7 "registers" "[I" ∈ TB := tb_in (List.mem_of_getElem? (i := 567) (by decide +kernel)) (by decide +kernel)
theorem tf_X7_31 : Cond.fieldLink RX7 31 RX7 "packet" "[I" ∈ TB := tb_in (List.mem_of_getElem? (i := 568) (by decide +kernel)) (by decide +kernel)
theorem tf_X7_34 : Cond.fieldLink RX7 34 RX7 "rules" "[I" ∈ TB := tb_in (List.mem_of_getElem? (i := 569) (by decide +kernel)) (by decide +kernel)
theorem tf_X7_37 : Cond.fieldLink RX7 37 RX7 "levels" "[I" ∈ TB := tb_in (List.mem_of_getElem? (i := 570) (by decide +kernel)) (by decide +kernel)
theorem tf_X7_40 : Cond.fieldLink RX7 40 RX7 "stageOf" "[I" ∈ TB := tb_in (List.mem_of_getElem? (i := 571) (by decide +kernel)) (by decide +kernel)
theorem tf_X7_43 : Cond.fieldLink RX7 43 RX7 "packed" "[I" ∈ TB := tb_in (List.mem_of_getElem? (i := 572) (by decide +kernel)) (by decide +kernel)
theorem tf_X7_46 : Cond.fieldLink RX7 46 RX7 "sizes" "[I" ∈ TB := tb_in (List.mem_of_getElem? (i := 573) (by decide +kernel)) (by decide +kernel)
theorem tf_X7_49 : Cond.fieldLink RX7 49 RX7 "after" "[I" ∈ TB := tb_in (List.mem_of_getElem? (i := 574) (by decide +kernel)) (by decide +kernel)
theorem tf_X7_52 : Cond.fieldLink RX7 52 RX7 "needed" "[I" ∈ TB := tb_in (List.mem_of_getElem? (i := 575) (by decide +kernel)) (by decide +kernel)
theorem tf_X7_55 : Cond.fieldLink RX7 55 RX7 "wanted" "[I" ∈ TB := tb_in (List.mem_of_getElem? (i := 576) (by decide +kernel)) (by decide +kernel)
theorem tf_X7_58 : Cond.fieldLink RX7 58 RX7 "now" "[I" ∈ TB := tb_in (List.mem_of_getElem? (i := 577) (by decide +kernel)) (by decide +kernel)
theorem tf_X7_148 : Cond.fieldLink RX7 148 RX7 "isDropped" "Z" ∈ TB := tb_in (List.mem_of_getElem? (i := 578) (by decide +kernel)) (by decide +kernel)
theorem tf_X7_152 : Cond.fieldLink RX7 152 RX7 "isAgain" "Z" ∈ TB := tb_in (List.mem_of_getElem? (i := 579) (by decide +kernel)) (by decide +kernel)
theorem tf_X7_155 : Cond.fieldLink RX7 155 RX7 "rounds" "I" ∈ TB := tb_in (List.mem_of_getElem? (i := 580) (by decide +kernel)) (by decide +kernel)
theorem tf_X7_61 : Cond.fieldLink RX7 61 RX7 "taken" "[I" ∈ TB := tb_in (List.mem_of_getElem? (i := 581) (by decide +kernel)) (by decide +kernel)
theorem tf_X7_168 : Cond.fieldLink RX7 168 RX7 "packets" "I" ∈ TB := tb_in (List.mem_of_getElem? (i := 582) (by decide +kernel)) (by decide +kernel)
theorem tf_X7_171 : Cond.fieldLink RX7 171 RX7 "dropped" "I" ∈ TB := tb_in (List.mem_of_getElem? (i := 583) (by decide +kernel)) (by decide +kernel)
theorem tf_X7_162 : Cond.fieldLink RX7 162 RX7 "allRounds" "I" ∈ TB := tb_in (List.mem_of_getElem? (i := 584) (by decide +kernel)) (by decide +kernel)
theorem tf_X7_64 : Cond.fieldLink RX7 64 RX7 "image" "[I" ∈ TB := tb_in (List.mem_of_getElem? (i := 585) (by decide +kernel)) (by decide +kernel)
theorem tf_X7_67 : Cond.fieldLink RX7 67 RX7 "isKept" "[Z" ∈ TB := tb_in (List.mem_of_getElem? (i := 586) (by decide +kernel)) (by decide +kernel)
theorem ta_boolean : Cond.arrayClass .boolean ∈ TB := tb_in (List.mem_of_getElem? (i := 642) (by decide +kernel)) (by decide +kernel)
theorem tm_L_17 : Cond.methodLink RL 17 yX7_table ∈ TB := tb_in (List.mem_of_getElem? (i := 643) (by decide +kernel)) (by decide +kernel)
theorem ti_X7_table : Cond.instanceMethod yX7_table ∈ TB := tb_in (List.mem_of_getElem? (i := 644) (by decide +kernel)) (by decide +kernel)
theorem ts_X7_table : Cond.selects yX7_table.cls yX7_table yX7_table ∈ TB := tb_in (List.mem_of_getElem? (i := 645) (by decide +kernel)) (by decide +kernel)
theorem tc_X7_table : Cond.code yX7_table cX7_table 2 (some .int) ∈ TB := tb_in (List.mem_of_getElem? (i := 646) (by decide +kernel)) (by decide +kernel)
theorem tm_X7_79 : Cond.methodLink RX7 79 yX7_isField ∈ TB := tb_in (List.mem_of_getElem? (i := 647) (by decide +kernel)) (by decide +kernel)
theorem tt_X7_isField : Cond.static yX7_isField ∈ TB := tb_in (List.mem_of_getElem? (i := 648) (by decide +kernel)) (by decide +kernel)
theorem tc_X7_isField : Cond.code yX7_isField cX7_isField 1 (some .boolean) ∈ TB := tb_in (List.mem_of_getElem? (i := 649) (by decide +kernel)) (by decide +kernel)
theorem tm_X7_75 : Cond.methodLink RX7 75 yX7_in ∈ TB := tb_in (List.mem_of_getElem? (i := 650) (by decide +kernel)) (by decide +kernel)
theorem tt_X7_in : Cond.static yX7_in ∈ TB := tb_in (List.mem_of_getElem? (i := 651) (by decide +kernel)) (by decide +kernel)
theorem tc_X7_in : Cond.code yX7_in cX7_in 3 (some .boolean) ∈ TB := tb_in (List.mem_of_getElem? (i := 652) (by decide +kernel)) (by decide +kernel)
theorem tm_X7_83 : Cond.methodLink RX7 83 yX7_lay ∈ TB := tb_in (List.mem_of_getElem? (i := 653) (by decide +kernel)) (by decide +kernel)
theorem ti_X7_lay : Cond.instanceMethod yX7_lay ∈ TB := tb_in (List.mem_of_getElem? (i := 655) (by decide +kernel)) (by decide +kernel)
theorem tc_X7_lay : Cond.code yX7_lay cX7_lay 5 none ∈ TB := tb_in (List.mem_of_getElem? (i := 656) (by decide +kernel)) (by decide +kernel)
theorem tm_X7_87 : Cond.methodLink RX7 87 yX7_matters ∈ TB := tb_in (List.mem_of_getElem? (i := 657) (by decide +kernel)) (by decide +kernel)
theorem tt_X7_matters : Cond.static yX7_matters ∈ TB := tb_in (List.mem_of_getElem? (i := 658) (by decide +kernel)) (by decide +kernel)
theorem tc_X7_matters : Cond.code yX7_matters cX7_matters 1 (some .boolean) ∈ TB := tb_in (List.mem_of_getElem? (i := 659) (by decide +kernel)) (by decide +kernel)
theorem tm_L_22 : Cond.methodLink RL 22 yX7_entry ∈ TB := tb_in (List.mem_of_getElem? (i := 660) (by decide +kernel)) (by decide +kernel)
theorem ti_X7_entry : Cond.instanceMethod yX7_entry ∈ TB := tb_in (List.mem_of_getElem? (i := 661) (by decide +kernel)) (by decide +kernel)
theorem ts_X7_entry : Cond.selects yX7_entry.cls yX7_entry yX7_entry ∈ TB := tb_in (List.mem_of_getElem? (i := 662) (by decide +kernel)) (by decide +kernel)
theorem tc_X7_entry : Cond.code yX7_entry cX7_entry 6 (some .int) ∈ TB := tb_in (List.mem_of_getElem? (i := 663) (by decide +kernel)) (by decide +kernel)
theorem tm_X7_101 : Cond.methodLink RX7 101 yX7_isTable ∈ TB := tb_in (List.mem_of_getElem? (i := 664) (by decide +kernel)) (by decide +kernel)
theorem ti_X7_isTable : Cond.instanceMethod yX7_isTable ∈ TB := tb_in (List.mem_of_getElem? (i := 666) (by decide +kernel)) (by decide +kernel)
theorem tc_X7_isTable : Cond.code yX7_isTable cX7_isTable 2 (some .boolean) ∈ TB := tb_in (List.mem_of_getElem? (i := 667) (by decide +kernel)) (by decide +kernel)
theorem tm_X7_104 : Cond.methodLink RX7 104 yX7_isAct ∈ TB := tb_in (List.mem_of_getElem? (i := 668) (by decide +kernel)) (by decide +kernel)
theorem tt_X7_isAct : Cond.static yX7_isAct ∈ TB := tb_in (List.mem_of_getElem? (i := 669) (by decide +kernel)) (by decide +kernel)
theorem tc_X7_isAct : Cond.code yX7_isAct cX7_isAct 4 (some .boolean) ∈ TB := tb_in (List.mem_of_getElem? (i := 670) (by decide +kernel)) (by decide +kernel)
theorem tm_X7_107 : Cond.methodLink RX7 107 yX7_entryWith ∈ TB := tb_in (List.mem_of_getElem? (i := 671) (by decide +kernel)) (by decide +kernel)
theorem ti_X7_entryWith : Cond.instanceMethod yX7_entryWith ∈ TB := tb_in (List.mem_of_getElem? (i := 673) (by decide +kernel)) (by decide +kernel)
theorem tc_X7_entryWith : Cond.code yX7_entryWith cX7_entryWith 5 (some .int) ∈ TB := tb_in (List.mem_of_getElem? (i := 674) (by decide +kernel)) (by decide +kernel)
theorem tm_X7_111 : Cond.methodLink RX7 111 yX7_isTaken ∈ TB := tb_in (List.mem_of_getElem? (i := 675) (by decide +kernel)) (by decide +kernel)
theorem ti_X7_isTaken : Cond.instanceMethod yX7_isTaken ∈ TB := tb_in (List.mem_of_getElem? (i := 677) (by decide +kernel)) (by decide +kernel)
theorem tc_X7_isTaken : Cond.code yX7_isTaken cX7_isTaken 6 (some .boolean) ∈ TB := tb_in (List.mem_of_getElem? (i := 678) (by decide +kernel)) (by decide +kernel)
theorem tm_X7_93 : Cond.methodLink RX7 93 yX7_registersOf ∈ TB := tb_in (List.mem_of_getElem? (i := 679) (by decide +kernel)) (by decide +kernel)
theorem ti_X7_registersOf : Cond.instanceMethod yX7_registersOf ∈ TB := tb_in (List.mem_of_getElem? (i := 681) (by decide +kernel)) (by decide +kernel)
theorem tc_X7_registersOf : Cond.code yX7_registersOf cX7_registersOf 4 (some .int) ∈ TB := tb_in (List.mem_of_getElem? (i := 682) (by decide +kernel)) (by decide +kernel)
theorem tm_X7_90 : Cond.methodLink RX7 90 yX7_isThere ∈ TB := tb_in (List.mem_of_getElem? (i := 683) (by decide +kernel)) (by decide +kernel)
theorem ti_X7_isThere : Cond.instanceMethod yX7_isThere ∈ TB := tb_in (List.mem_of_getElem? (i := 685) (by decide +kernel)) (by decide +kernel)
theorem tc_X7_isThere : Cond.code yX7_isThere cX7_isThere 2 (some .boolean) ∈ TB := tb_in (List.mem_of_getElem? (i := 686) (by decide +kernel)) (by decide +kernel)
theorem tm_X7_97 : Cond.methodLink RX7 97 yX7_has ∈ TB := tb_in (List.mem_of_getElem? (i := 687) (by decide +kernel)) (by decide +kernel)
theorem tt_X7_has : Cond.static yX7_has ∈ TB := tb_in (List.mem_of_getElem? (i := 688) (by decide +kernel)) (by decide +kernel)
theorem tc_X7_has : Cond.code yX7_has cX7_has 2 (some .boolean) ∈ TB := tb_in (List.mem_of_getElem? (i := 689) (by decide +kernel)) (by decide +kernel)
theorem tm_L_27 : Cond.methodLink RL 27 yX7_otherwise ∈ TB := tb_in (List.mem_of_getElem? (i := 690) (by decide +kernel)) (by decide +kernel)
theorem ti_X7_otherwise : Cond.instanceMethod yX7_otherwise ∈ TB := tb_in (List.mem_of_getElem? (i := 691) (by decide +kernel)) (by decide +kernel)
theorem ts_X7_otherwise : Cond.selects yX7_otherwise.cls yX7_otherwise yX7_otherwise ∈ TB := tb_in (List.mem_of_getElem? (i := 692) (by decide +kernel)) (by decide +kernel)
theorem tc_X7_otherwise : Cond.code yX7_otherwise cX7_otherwise 6 (some .int) ∈ TB := tb_in (List.mem_of_getElem? (i := 693) (by decide +kernel)) (by decide +kernel)
theorem tm_L_32 : Cond.methodLink RL 32 yX7_forget ∈ TB := tb_in (List.mem_of_getElem? (i := 694) (by decide +kernel)) (by decide +kernel)
theorem ti_X7_forget : Cond.instanceMethod yX7_forget ∈ TB := tb_in (List.mem_of_getElem? (i := 695) (by decide +kernel)) (by decide +kernel)
theorem ts_X7_forget : Cond.selects yX7_forget.cls yX7_forget yX7_forget ∈ TB := tb_in (List.mem_of_getElem? (i := 696) (by decide +kernel)) (by decide +kernel)
theorem tc_X7_forget : Cond.code yX7_forget cX7_forget 4 (some .int) ∈ TB := tb_in (List.mem_of_getElem? (i := 697) (by decide +kernel)) (by decide +kernel)
theorem tm_X7_114 : Cond.methodLink RX7 114 yX7_copy ∈ TB := tb_in (List.mem_of_getElem? (i := 698) (by decide +kernel)) (by decide +kernel)
theorem ti_X7_copy : Cond.instanceMethod yX7_copy ∈ TB := tb_in (List.mem_of_getElem? (i := 700) (by decide +kernel)) (by decide +kernel)
theorem tc_X7_copy : Cond.code yX7_copy cX7_copy 3 none ∈ TB := tb_in (List.mem_of_getElem? (i := 701) (by decide +kernel)) (by decide +kernel)
theorem tm_L_36 : Cond.methodLink RL 36 yX7_drop ∈ TB := tb_in (List.mem_of_getElem? (i := 702) (by decide +kernel)) (by decide +kernel)
theorem ti_X7_drop : Cond.instanceMethod yX7_drop ∈ TB := tb_in (List.mem_of_getElem? (i := 703) (by decide +kernel)) (by decide +kernel)
theorem ts_X7_drop : Cond.selects yX7_drop.cls yX7_drop yX7_drop ∈ TB := tb_in (List.mem_of_getElem? (i := 704) (by decide +kernel)) (by decide +kernel)
theorem tc_X7_drop : Cond.code yX7_drop cX7_drop 4 (some .int) ∈ TB := tb_in (List.mem_of_getElem? (i := 705) (by decide +kernel)) (by decide +kernel)
theorem tm_L_40 : Cond.methodLink RL 40 yX7_rule ∈ TB := tb_in (List.mem_of_getElem? (i := 706) (by decide +kernel)) (by decide +kernel)
theorem ti_X7_rule : Cond.instanceMethod yX7_rule ∈ TB := tb_in (List.mem_of_getElem? (i := 707) (by decide +kernel)) (by decide +kernel)
theorem ts_X7_rule : Cond.selects yX7_rule.cls yX7_rule yX7_rule ∈ TB := tb_in (List.mem_of_getElem? (i := 708) (by decide +kernel)) (by decide +kernel)
theorem tc_X7_rule : Cond.code yX7_rule cX7_rule 4 (some .int) ∈ TB := tb_in (List.mem_of_getElem? (i := 709) (by decide +kernel)) (by decide +kernel)
theorem tm_L_48 : Cond.methodLink RL 48 yX7_needs ∈ TB := tb_in (List.mem_of_getElem? (i := 710) (by decide +kernel)) (by decide +kernel)
theorem ti_X7_needs : Cond.instanceMethod yX7_needs ∈ TB := tb_in (List.mem_of_getElem? (i := 711) (by decide +kernel)) (by decide +kernel)
theorem ts_X7_needs : Cond.selects yX7_needs.cls yX7_needs yX7_needs ∈ TB := tb_in (List.mem_of_getElem? (i := 712) (by decide +kernel)) (by decide +kernel)
theorem tc_X7_needs : Cond.code yX7_needs cX7_needs 3 (some .int) ∈ TB := tb_in (List.mem_of_getElem? (i := 713) (by decide +kernel)) (by decide +kernel)
theorem tm_X7_124 : Cond.methodLink RX7 124 yX7_needOf ∈ TB := tb_in (List.mem_of_getElem? (i := 714) (by decide +kernel)) (by decide +kernel)
theorem ti_X7_needOf : Cond.instanceMethod yX7_needOf ∈ TB := tb_in (List.mem_of_getElem? (i := 716) (by decide +kernel)) (by decide +kernel)
theorem tc_X7_needOf : Cond.code yX7_needOf cX7_needOf 3 (some .int) ∈ TB := tb_in (List.mem_of_getElem? (i := 717) (by decide +kernel)) (by decide +kernel)
theorem tm_X7_118 : Cond.methodLink RX7 118 yX7_writes ∈ TB := tb_in (List.mem_of_getElem? (i := 718) (by decide +kernel)) (by decide +kernel)
theorem ti_X7_writes : Cond.instanceMethod yX7_writes ∈ TB := tb_in (List.mem_of_getElem? (i := 720) (by decide +kernel)) (by decide +kernel)
theorem tc_X7_writes : Cond.code yX7_writes cX7_writes 4 (some .int) ∈ TB := tb_in (List.mem_of_getElem? (i := 721) (by decide +kernel)) (by decide +kernel)
theorem tm_X7_121 : Cond.methodLink RX7 121 yX7_reads ∈ TB := tb_in (List.mem_of_getElem? (i := 722) (by decide +kernel)) (by decide +kernel)
theorem ti_X7_reads : Cond.instanceMethod yX7_reads ∈ TB := tb_in (List.mem_of_getElem? (i := 724) (by decide +kernel)) (by decide +kernel)
theorem tc_X7_reads : Cond.code yX7_reads cX7_reads 5 (some .int) ∈ TB := tb_in (List.mem_of_getElem? (i := 725) (by decide +kernel)) (by decide +kernel)
theorem tm_L_44 : Cond.methodLink RL 44 yX7_told ∈ TB := tb_in (List.mem_of_getElem? (i := 726) (by decide +kernel)) (by decide +kernel)
theorem ti_X7_told : Cond.instanceMethod yX7_told ∈ TB := tb_in (List.mem_of_getElem? (i := 727) (by decide +kernel)) (by decide +kernel)
theorem ts_X7_told : Cond.selects yX7_told.cls yX7_told yX7_told ∈ TB := tb_in (List.mem_of_getElem? (i := 728) (by decide +kernel)) (by decide +kernel)
theorem tc_X7_told : Cond.code yX7_told cX7_told 3 (some .int) ∈ TB := tb_in (List.mem_of_getElem? (i := 729) (by decide +kernel)) (by decide +kernel)
theorem tm_X7_130 : Cond.methodLink RX7 130 yX7_part ∈ TB := tb_in (List.mem_of_getElem? (i := 730) (by decide +kernel)) (by decide +kernel)
theorem ti_X7_part : Cond.instanceMethod yX7_part ∈ TB := tb_in (List.mem_of_getElem? (i := 732) (by decide +kernel)) (by decide +kernel)
theorem tc_X7_part : Cond.code yX7_part cX7_part 6 (some .int) ∈ TB := tb_in (List.mem_of_getElem? (i := 733) (by decide +kernel)) (by decide +kernel)
theorem tm_X7_133 : Cond.methodLink RX7 133 yX7_levelOf ∈ TB := tb_in (List.mem_of_getElem? (i := 734) (by decide +kernel)) (by decide +kernel)
theorem ti_X7_levelOf : Cond.instanceMethod yX7_levelOf ∈ TB := tb_in (List.mem_of_getElem? (i := 736) (by decide +kernel)) (by decide +kernel)
theorem tc_X7_levelOf : Cond.code yX7_levelOf cX7_levelOf 4 (some .int) ∈ TB := tb_in (List.mem_of_getElem? (i := 737) (by decide +kernel)) (by decide +kernel)
theorem tm_X7_136 : Cond.methodLink RX7 136 yX7_pack ∈ TB := tb_in (List.mem_of_getElem? (i := 738) (by decide +kernel)) (by decide +kernel)
theorem ti_X7_pack : Cond.instanceMethod yX7_pack ∈ TB := tb_in (List.mem_of_getElem? (i := 740) (by decide +kernel)) (by decide +kernel)
theorem tc_X7_pack : Cond.code yX7_pack cX7_pack 6 (some .boolean) ∈ TB := tb_in (List.mem_of_getElem? (i := 741) (by decide +kernel)) (by decide +kernel)
theorem tm_X7_127 : Cond.methodLink RX7 127 yX7_sizeOf ∈ TB := tb_in (List.mem_of_getElem? (i := 742) (by decide +kernel)) (by decide +kernel)
theorem ti_X7_sizeOf : Cond.instanceMethod yX7_sizeOf ∈ TB := tb_in (List.mem_of_getElem? (i := 744) (by decide +kernel)) (by decide +kernel)
theorem tc_X7_sizeOf : Cond.code yX7_sizeOf cX7_sizeOf 2 (some .int) ∈ TB := tb_in (List.mem_of_getElem? (i := 745) (by decide +kernel)) (by decide +kernel)
theorem tm_L_53 : Cond.methodLink RL 53 yX7_stages ∈ TB := tb_in (List.mem_of_getElem? (i := 746) (by decide +kernel)) (by decide +kernel)
theorem ti_X7_stages : Cond.instanceMethod yX7_stages ∈ TB := tb_in (List.mem_of_getElem? (i := 747) (by decide +kernel)) (by decide +kernel)
theorem ts_X7_stages : Cond.selects yX7_stages.cls yX7_stages yX7_stages ∈ TB := tb_in (List.mem_of_getElem? (i := 748) (by decide +kernel)) (by decide +kernel)
theorem tc_X7_stages : Cond.code yX7_stages cX7_stages 3 (some .int) ∈ TB := tb_in (List.mem_of_getElem? (i := 749) (by decide +kernel)) (by decide +kernel)
theorem tm_L_57 : Cond.methodLink RL 57 yX7_stage ∈ TB := tb_in (List.mem_of_getElem? (i := 750) (by decide +kernel)) (by decide +kernel)
theorem ti_X7_stage : Cond.instanceMethod yX7_stage ∈ TB := tb_in (List.mem_of_getElem? (i := 751) (by decide +kernel)) (by decide +kernel)
theorem ts_X7_stage : Cond.selects yX7_stage.cls yX7_stage yX7_stage ∈ TB := tb_in (List.mem_of_getElem? (i := 752) (by decide +kernel)) (by decide +kernel)
theorem tc_X7_stage : Cond.code yX7_stage cX7_stage 5 (some .int) ∈ TB := tb_in (List.mem_of_getElem? (i := 753) (by decide +kernel)) (by decide +kernel)
theorem tm_L_61 : Cond.methodLink RL 61 yX7_fewest ∈ TB := tb_in (List.mem_of_getElem? (i := 754) (by decide +kernel)) (by decide +kernel)
theorem ti_X7_fewest : Cond.instanceMethod yX7_fewest ∈ TB := tb_in (List.mem_of_getElem? (i := 755) (by decide +kernel)) (by decide +kernel)
theorem ts_X7_fewest : Cond.selects yX7_fewest.cls yX7_fewest yX7_fewest ∈ TB := tb_in (List.mem_of_getElem? (i := 756) (by decide +kernel)) (by decide +kernel)
theorem tc_X7_fewest : Cond.code yX7_fewest cX7_fewest 5 (some .int) ∈ TB := tb_in (List.mem_of_getElem? (i := 757) (by decide +kernel)) (by decide +kernel)
theorem tm_X7_143 : Cond.methodLink RX7 143 yX7_canFollow ∈ TB := tb_in (List.mem_of_getElem? (i := 758) (by decide +kernel)) (by decide +kernel)
theorem ti_X7_canFollow : Cond.instanceMethod yX7_canFollow ∈ TB := tb_in (List.mem_of_getElem? (i := 760) (by decide +kernel)) (by decide +kernel)
theorem tc_X7_canFollow : Cond.code yX7_canFollow cX7_canFollow 6 (some .boolean) ∈ TB := tb_in (List.mem_of_getElem? (i := 761) (by decide +kernel)) (by decide +kernel)
theorem tm_X7_140 : Cond.methodLink RX7 140 yX7_bits ∈ TB := tb_in (List.mem_of_getElem? (i := 762) (by decide +kernel)) (by decide +kernel)
theorem tt_X7_bits : Cond.static yX7_bits ∈ TB := tb_in (List.mem_of_getElem? (i := 763) (by decide +kernel)) (by decide +kernel)
theorem tc_X7_bits : Cond.code yX7_bits cX7_bits 3 (some .int) ∈ TB := tb_in (List.mem_of_getElem? (i := 764) (by decide +kernel)) (by decide +kernel)
theorem tm_L_65 : Cond.methodLink RL 65 yX7_tell ∈ TB := tb_in (List.mem_of_getElem? (i := 765) (by decide +kernel)) (by decide +kernel)
theorem ti_X7_tell : Cond.instanceMethod yX7_tell ∈ TB := tb_in (List.mem_of_getElem? (i := 766) (by decide +kernel)) (by decide +kernel)
theorem ts_X7_tell : Cond.selects yX7_tell.cls yX7_tell yX7_tell ∈ TB := tb_in (List.mem_of_getElem? (i := 767) (by decide +kernel)) (by decide +kernel)
theorem tc_X7_tell : Cond.code yX7_tell cX7_tell 4 (some .int) ∈ TB := tb_in (List.mem_of_getElem? (i := 768) (by decide +kernel)) (by decide +kernel)
theorem tm_L_69 : Cond.methodLink RL 69 yX7_put ∈ TB := tb_in (List.mem_of_getElem? (i := 769) (by decide +kernel)) (by decide +kernel)
theorem ti_X7_put : Cond.instanceMethod yX7_put ∈ TB := tb_in (List.mem_of_getElem? (i := 770) (by decide +kernel)) (by decide +kernel)
theorem ts_X7_put : Cond.selects yX7_put.cls yX7_put yX7_put ∈ TB := tb_in (List.mem_of_getElem? (i := 771) (by decide +kernel)) (by decide +kernel)
theorem tc_X7_put : Cond.code yX7_put cX7_put 4 (some .int) ∈ TB := tb_in (List.mem_of_getElem? (i := 772) (by decide +kernel)) (by decide +kernel)
theorem tk_X7_146 : Cond.constant RX7 146 65535 ∈ TB := tb_in (List.mem_of_getElem? (i := 773) (by decide +kernel)) (by decide +kernel)
theorem tm_L_73 : Cond.methodLink RL 73 yX7_register ∈ TB := tb_in (List.mem_of_getElem? (i := 774) (by decide +kernel)) (by decide +kernel)
theorem ti_X7_register : Cond.instanceMethod yX7_register ∈ TB := tb_in (List.mem_of_getElem? (i := 775) (by decide +kernel)) (by decide +kernel)
theorem ts_X7_register : Cond.selects yX7_register.cls yX7_register yX7_register ∈ TB := tb_in (List.mem_of_getElem? (i := 776) (by decide +kernel)) (by decide +kernel)
theorem tc_X7_register : Cond.code yX7_register cX7_register 2 (some .int) ∈ TB := tb_in (List.mem_of_getElem? (i := 777) (by decide +kernel)) (by decide +kernel)
theorem tm_L_77 : Cond.methodLink RL 77 yX7_run ∈ TB := tb_in (List.mem_of_getElem? (i := 778) (by decide +kernel)) (by decide +kernel)
theorem ti_X7_run : Cond.instanceMethod yX7_run ∈ TB := tb_in (List.mem_of_getElem? (i := 779) (by decide +kernel)) (by decide +kernel)
theorem ts_X7_run : Cond.selects yX7_run.cls yX7_run yX7_run ∈ TB := tb_in (List.mem_of_getElem? (i := 780) (by decide +kernel)) (by decide +kernel)
theorem tc_X7_run : Cond.code yX7_run cX7_run 2 (some .int) ∈ TB := tb_in (List.mem_of_getElem? (i := 781) (by decide +kernel)) (by decide +kernel)
theorem tm_X7_165 : Cond.methodLink RX7 165 yX7_round ∈ TB := tb_in (List.mem_of_getElem? (i := 782) (by decide +kernel)) (by decide +kernel)
theorem ti_X7_round : Cond.instanceMethod yX7_round ∈ TB := tb_in (List.mem_of_getElem? (i := 784) (by decide +kernel)) (by decide +kernel)
theorem tc_X7_round : Cond.code yX7_round cX7_round 3 none ∈ TB := tb_in (List.mem_of_getElem? (i := 785) (by decide +kernel)) (by decide +kernel)
theorem tm_X7_158 : Cond.methodLink RX7 158 yX7_act ∈ TB := tb_in (List.mem_of_getElem? (i := 786) (by decide +kernel)) (by decide +kernel)
theorem ti_X7_act : Cond.instanceMethod yX7_act ∈ TB := tb_in (List.mem_of_getElem? (i := 788) (by decide +kernel)) (by decide +kernel)
theorem tc_X7_act : Cond.code yX7_act cX7_act 6 none ∈ TB := tb_in (List.mem_of_getElem? (i := 789) (by decide +kernel)) (by decide +kernel)
theorem tk_X7_147 : Cond.constant RX7 147 65536 ∈ TB := tb_in (List.mem_of_getElem? (i := 790) (by decide +kernel)) (by decide +kernel)
theorem tm_L_81 : Cond.methodLink RL 81 yX7_out ∈ TB := tb_in (List.mem_of_getElem? (i := 791) (by decide +kernel)) (by decide +kernel)
theorem ti_X7_out : Cond.instanceMethod yX7_out ∈ TB := tb_in (List.mem_of_getElem? (i := 792) (by decide +kernel)) (by decide +kernel)
theorem ts_X7_out : Cond.selects yX7_out.cls yX7_out yX7_out ∈ TB := tb_in (List.mem_of_getElem? (i := 793) (by decide +kernel)) (by decide +kernel)
theorem tc_X7_out : Cond.code yX7_out cX7_out 2 (some .int) ∈ TB := tb_in (List.mem_of_getElem? (i := 794) (by decide +kernel)) (by decide +kernel)
theorem tm_L_85 : Cond.methodLink RL 85 yX7_took ∈ TB := tb_in (List.mem_of_getElem? (i := 795) (by decide +kernel)) (by decide +kernel)
theorem ti_X7_took : Cond.instanceMethod yX7_took ∈ TB := tb_in (List.mem_of_getElem? (i := 796) (by decide +kernel)) (by decide +kernel)
theorem ts_X7_took : Cond.selects yX7_took.cls yX7_took yX7_took ∈ TB := tb_in (List.mem_of_getElem? (i := 797) (by decide +kernel)) (by decide +kernel)
theorem tc_X7_took : Cond.code yX7_took cX7_took 3 (some .int) ∈ TB := tb_in (List.mem_of_getElem? (i := 798) (by decide +kernel)) (by decide +kernel)
theorem tm_L_89 : Cond.methodLink RL 89 yX7_image ∈ TB := tb_in (List.mem_of_getElem? (i := 799) (by decide +kernel)) (by decide +kernel)
theorem ti_X7_image : Cond.instanceMethod yX7_image ∈ TB := tb_in (List.mem_of_getElem? (i := 800) (by decide +kernel)) (by decide +kernel)
theorem ts_X7_image : Cond.selects yX7_image.cls yX7_image yX7_image ∈ TB := tb_in (List.mem_of_getElem? (i := 801) (by decide +kernel)) (by decide +kernel)
theorem tc_X7_image : Cond.code yX7_image cX7_image 4 (some .int) ∈ TB := tb_in (List.mem_of_getElem? (i := 802) (by decide +kernel)) (by decide +kernel)
theorem tm_L_93 : Cond.methodLink RL 93 yX7_restore ∈ TB := tb_in (List.mem_of_getElem? (i := 803) (by decide +kernel)) (by decide +kernel)
theorem ti_X7_restore : Cond.instanceMethod yX7_restore ∈ TB := tb_in (List.mem_of_getElem? (i := 804) (by decide +kernel)) (by decide +kernel)
theorem ts_X7_restore : Cond.selects yX7_restore.cls yX7_restore yX7_restore ∈ TB := tb_in (List.mem_of_getElem? (i := 805) (by decide +kernel)) (by decide +kernel)
theorem tc_X7_restore : Cond.code yX7_restore cX7_restore 4 (some .int) ∈ TB := tb_in (List.mem_of_getElem? (i := 806) (by decide +kernel)) (by decide +kernel)
theorem tm_L_97 : Cond.methodLink RL 97 yX7_count ∈ TB := tb_in (List.mem_of_getElem? (i := 807) (by decide +kernel)) (by decide +kernel)
theorem ti_X7_count : Cond.instanceMethod yX7_count ∈ TB := tb_in (List.mem_of_getElem? (i := 808) (by decide +kernel)) (by decide +kernel)
theorem ts_X7_count : Cond.selects yX7_count.cls yX7_count yX7_count ∈ TB := tb_in (List.mem_of_getElem? (i := 809) (by decide +kernel)) (by decide +kernel)
theorem tc_X7_count : Cond.code yX7_count cX7_count 2 (some .int) ∈ TB := tb_in (List.mem_of_getElem? (i := 810) (by decide +kernel)) (by decide +kernel)
theorem ly_X0 : ∀ w ∈ u_ws RX0 TX0 3, w ∈ TB := by
  intro w hw
  obtain ⟨k, hk, rfl⟩ := List.mem_map.mp hw
  have hk := List.mem_range.mp hk
  match k, hk with
  | 0, _ => exact tb_in (List.mem_of_getElem? (i := 88) (by decide +kernel)) (by decide +kernel)
  | 1, _ => exact tb_in (List.mem_of_getElem? (i := 90) (by decide +kernel)) (by decide +kernel)
  | 2, _ => exact tb_in (List.mem_of_getElem? (i := 92) (by decide +kernel)) (by decide +kernel)
  | k + 3, h => exact absurd h (by omega)
theorem ly_X1 : ∀ w ∈ u_ws RX1 TX1 6, w ∈ TB := by
  intro w hw
  obtain ⟨k, hk, rfl⟩ := List.mem_map.mp hw
  have hk := List.mem_range.mp hk
  match k, hk with
  | 0, _ => exact tb_in (List.mem_of_getElem? (i := 230) (by decide +kernel)) (by decide +kernel)
  | 1, _ => exact tb_in (List.mem_of_getElem? (i := 232) (by decide +kernel)) (by decide +kernel)
  | 2, _ => exact tb_in (List.mem_of_getElem? (i := 234) (by decide +kernel)) (by decide +kernel)
  | 3, _ => exact tb_in (List.mem_of_getElem? (i := 236) (by decide +kernel)) (by decide +kernel)
  | 4, _ => exact tb_in (List.mem_of_getElem? (i := 238) (by decide +kernel)) (by decide +kernel)
  | 5, _ => exact tb_in (List.mem_of_getElem? (i := 240) (by decide +kernel)) (by decide +kernel)
  | k + 6, h => exact absurd h (by omega)
theorem ly_X2 : ∀ w ∈ u_ws RX2 TX2 11, w ∈ TB := by
  intro w hw
  obtain ⟨k, hk, rfl⟩ := List.mem_map.mp hw
  have hk := List.mem_range.mp hk
  match k, hk with
  | 0, _ => exact tb_in (List.mem_of_getElem? (i := 171) (by decide +kernel)) (by decide +kernel)
  | 1, _ => exact tb_in (List.mem_of_getElem? (i := 173) (by decide +kernel)) (by decide +kernel)
  | 2, _ => exact tb_in (List.mem_of_getElem? (i := 175) (by decide +kernel)) (by decide +kernel)
  | 3, _ => exact tb_in (List.mem_of_getElem? (i := 177) (by decide +kernel)) (by decide +kernel)
  | 4, _ => exact tb_in (List.mem_of_getElem? (i := 179) (by decide +kernel)) (by decide +kernel)
  | 5, _ => exact tb_in (List.mem_of_getElem? (i := 181) (by decide +kernel)) (by decide +kernel)
  | 6, _ => exact tb_in (List.mem_of_getElem? (i := 183) (by decide +kernel)) (by decide +kernel)
  | 7, _ => exact tb_in (List.mem_of_getElem? (i := 185) (by decide +kernel)) (by decide +kernel)
  | 8, _ => exact tb_in (List.mem_of_getElem? (i := 187) (by decide +kernel)) (by decide +kernel)
  | 9, _ => exact tb_in (List.mem_of_getElem? (i := 189) (by decide +kernel)) (by decide +kernel)
  | 10, _ => exact tb_in (List.mem_of_getElem? (i := 191) (by decide +kernel)) (by decide +kernel)
  | k + 11, h => exact absurd h (by omega)
theorem ly_X3 : ∀ w ∈ u_ws RX3 TX3 5, w ∈ TB := by
  intro w hw
  obtain ⟨k, hk, rfl⟩ := List.mem_map.mp hw
  have hk := List.mem_range.mp hk
  match k, hk with
  | 0, _ => exact tb_in (List.mem_of_getElem? (i := 135) (by decide +kernel)) (by decide +kernel)
  | 1, _ => exact tb_in (List.mem_of_getElem? (i := 137) (by decide +kernel)) (by decide +kernel)
  | 2, _ => exact tb_in (List.mem_of_getElem? (i := 139) (by decide +kernel)) (by decide +kernel)
  | 3, _ => exact tb_in (List.mem_of_getElem? (i := 141) (by decide +kernel)) (by decide +kernel)
  | 4, _ => exact tb_in (List.mem_of_getElem? (i := 143) (by decide +kernel)) (by decide +kernel)
  | k + 5, h => exact absurd h (by omega)
theorem ly_X4 : ∀ w ∈ u_ws RX4 TX4 3, w ∈ TB := by
  intro w hw
  obtain ⟨k, hk, rfl⟩ := List.mem_map.mp hw
  have hk := List.mem_range.mp hk
  match k, hk with
  | 0, _ => exact tb_in (List.mem_of_getElem? (i := 203) (by decide +kernel)) (by decide +kernel)
  | 1, _ => exact tb_in (List.mem_of_getElem? (i := 205) (by decide +kernel)) (by decide +kernel)
  | 2, _ => exact tb_in (List.mem_of_getElem? (i := 207) (by decide +kernel)) (by decide +kernel)
  | k + 3, h => exact absurd h (by omega)
theorem ly_X5 : ∀ w ∈ u_ws RX5 TX5 4, w ∈ TB := by
  intro w hw
  obtain ⟨k, hk, rfl⟩ := List.mem_map.mp hw
  have hk := List.mem_range.mp hk
  match k, hk with
  | 0, _ => exact tb_in (List.mem_of_getElem? (i := 106) (by decide +kernel)) (by decide +kernel)
  | 1, _ => exact tb_in (List.mem_of_getElem? (i := 108) (by decide +kernel)) (by decide +kernel)
  | 2, _ => exact tb_in (List.mem_of_getElem? (i := 110) (by decide +kernel)) (by decide +kernel)
  | 3, _ => exact tb_in (List.mem_of_getElem? (i := 112) (by decide +kernel)) (by decide +kernel)
  | k + 4, h => exact absurd h (by omega)
theorem ly_X6 : ∀ w ∈ u_ws RX6 TX6 8, w ∈ TB := by
  intro w hw
  obtain ⟨k, hk, rfl⟩ := List.mem_map.mp hw
  have hk := List.mem_range.mp hk
  match k, hk with
  | 0, _ => exact tb_in (List.mem_of_getElem? (i := 252) (by decide +kernel)) (by decide +kernel)
  | 1, _ => exact tb_in (List.mem_of_getElem? (i := 254) (by decide +kernel)) (by decide +kernel)
  | 2, _ => exact tb_in (List.mem_of_getElem? (i := 256) (by decide +kernel)) (by decide +kernel)
  | 3, _ => exact tb_in (List.mem_of_getElem? (i := 258) (by decide +kernel)) (by decide +kernel)
  | 4, _ => exact tb_in (List.mem_of_getElem? (i := 260) (by decide +kernel)) (by decide +kernel)
  | 5, _ => exact tb_in (List.mem_of_getElem? (i := 262) (by decide +kernel)) (by decide +kernel)
  | 6, _ => exact tb_in (List.mem_of_getElem? (i := 264) (by decide +kernel)) (by decide +kernel)
  | 7, _ => exact tb_in (List.mem_of_getElem? (i := 266) (by decide +kernel)) (by decide +kernel)
  | k + 8, h => exact absurd h (by omega)
theorem ly_X7 : ∀ w ∈ u_ws RX7 TX7 27, w ∈ TB := by
  intro w hw
  obtain ⟨k, hk, rfl⟩ := List.mem_map.mp hw
  have hk := List.mem_range.mp hk
  match k, hk with
  | 0, _ => exact tb_in (List.mem_of_getElem? (i := 587) (by decide +kernel)) (by decide +kernel)
  | 1, _ => exact tb_in (List.mem_of_getElem? (i := 589) (by decide +kernel)) (by decide +kernel)
  | 2, _ => exact tb_in (List.mem_of_getElem? (i := 591) (by decide +kernel)) (by decide +kernel)
  | 3, _ => exact tb_in (List.mem_of_getElem? (i := 593) (by decide +kernel)) (by decide +kernel)
  | 4, _ => exact tb_in (List.mem_of_getElem? (i := 595) (by decide +kernel)) (by decide +kernel)
  | 5, _ => exact tb_in (List.mem_of_getElem? (i := 597) (by decide +kernel)) (by decide +kernel)
  | 6, _ => exact tb_in (List.mem_of_getElem? (i := 599) (by decide +kernel)) (by decide +kernel)
  | 7, _ => exact tb_in (List.mem_of_getElem? (i := 601) (by decide +kernel)) (by decide +kernel)
  | 8, _ => exact tb_in (List.mem_of_getElem? (i := 603) (by decide +kernel)) (by decide +kernel)
  | 9, _ => exact tb_in (List.mem_of_getElem? (i := 605) (by decide +kernel)) (by decide +kernel)
  | 10, _ => exact tb_in (List.mem_of_getElem? (i := 607) (by decide +kernel)) (by decide +kernel)
  | 11, _ => exact tb_in (List.mem_of_getElem? (i := 609) (by decide +kernel)) (by decide +kernel)
  | 12, _ => exact tb_in (List.mem_of_getElem? (i := 611) (by decide +kernel)) (by decide +kernel)
  | 13, _ => exact tb_in (List.mem_of_getElem? (i := 613) (by decide +kernel)) (by decide +kernel)
  | 14, _ => exact tb_in (List.mem_of_getElem? (i := 615) (by decide +kernel)) (by decide +kernel)
  | 15, _ => exact tb_in (List.mem_of_getElem? (i := 617) (by decide +kernel)) (by decide +kernel)
  | 16, _ => exact tb_in (List.mem_of_getElem? (i := 619) (by decide +kernel)) (by decide +kernel)
  | 17, _ => exact tb_in (List.mem_of_getElem? (i := 621) (by decide +kernel)) (by decide +kernel)
  | 18, _ => exact tb_in (List.mem_of_getElem? (i := 623) (by decide +kernel)) (by decide +kernel)
  | 19, _ => exact tb_in (List.mem_of_getElem? (i := 625) (by decide +kernel)) (by decide +kernel)
  | 20, _ => exact tb_in (List.mem_of_getElem? (i := 627) (by decide +kernel)) (by decide +kernel)
  | 21, _ => exact tb_in (List.mem_of_getElem? (i := 629) (by decide +kernel)) (by decide +kernel)
  | 22, _ => exact tb_in (List.mem_of_getElem? (i := 631) (by decide +kernel)) (by decide +kernel)
  | 23, _ => exact tb_in (List.mem_of_getElem? (i := 633) (by decide +kernel)) (by decide +kernel)
  | 24, _ => exact tb_in (List.mem_of_getElem? (i := 635) (by decide +kernel)) (by decide +kernel)
  | 25, _ => exact tb_in (List.mem_of_getElem? (i := 637) (by decide +kernel)) (by decide +kernel)
  | 26, _ => exact tb_in (List.mem_of_getElem? (i := 639) (by decide +kernel)) (by decide +kernel)
  | k + 27, h => exact absurd h (by omega)
end
section
/-! a row for each field link -/
section FL
variable {p : Program} {l : Launch} {e : Env} {R : Room} {s : State} {m : MethodId} {args : Array Value} {below : List Frame} {meth : Method} {c : Code} {H : Heap} {locs : List Loc} {cells slots : Nat} {Q : State → Prop}
variable {cc : ByteArray} {pc : Nat} {ls : Array Slot} {rest : List Value} {E : En} {K : Nat → Nat} {L : Nat → Nat → Bool} {ad : Nat → Nat} {I : Nat → Nat → Int32} {r : Nat} {own : String} {nL : Nat}
theorem f_X0_9 (C : Cx E p s m args c cc RX0 nL) (hP : Hp E K L ad I H) (hr : K r = 1) (hdg : decode cc pc = .ok (.getfield 9, 3)) (kk : W p l e R s m args below meth c H locs cells slots Q (F0 m (pc + 3) ls (.int (I r 0) :: rest))) : W p l e R s m args below meth c H locs cells slots Q (F0 m pc ls (.ref (ad r) :: rest)) :=
  g_get (ci := 0) (T := TX0) (k := 0) C hP (by omega) (wE_1 _ _ _ _ hr) ly_X0 rfl (by decide) tf_X0_9 rfl rfl hdg kk
theorem p_X0_9 (C : Cx E p s m args c cc RX0 nL) (hP : Hp E K L ad I H) (hS : va_S (AG E) s.heap H locs) {v : Int32} (hr : K r = 1) (hdg : decode cc pc = .ok (.putfield 9, 3)) (kk : ∀ (H1 : Heap) (locs1 : List Loc), Hp E K L ad (up2 I r 0 v) H1 → va_S (AG E) s.heap H1 locs1 → W p l e R s m args below meth c H1 locs1 cells slots Q (F0 m (pc + 3) ls rest)) : W p l e R s m args below meth c H locs cells slots Q (F0 m pc ls (.int v :: .ref (ad r) :: rest)) :=
  g_put (ci := 0) (T := TX0) (k := 0) (ty := .int) (L' := L) (I' := up2 I r 0 v) C hP hS (by omega) (wE_1 _ _ _ _ hr) ly_X0 tyX0 tyX0_ok nmX0 rfl (by decide) tf_X0_9 rfl rfl (by decide +kernel) rfl rfl (Nat.le_of_ble_eq_true rfl) (by rw [wE_1 _ _ _ _ hr, up2_at]; rfl) (fun a ha => up2_r ha) (fun _ _ => rfl) hdg kk
theorem f_X1_78 (C : Cx E p s m args c cc RX1 nL) (hP : Hp E K L ad I H) (hr : K r = 1) (hdg : decode cc pc = .ok (.getfield 78, 3)) (kk : W p l e R s m args below meth c H locs cells slots Q (F0 m (pc + 3) ls (.int (I r 0) :: rest))) : W p l e R s m args below meth c H locs cells slots Q (F0 m pc ls (.ref (ad r) :: rest)) :=
  g_get (ci := 0) (T := TX0) (k := 0) C hP (by omega) (wE_1 _ _ _ _ hr) ly_X0 rfl (by decide) tf_X1_78 rfl rfl hdg kk
theorem p_X1_78 (C : Cx E p s m args c cc RX1 nL) (hP : Hp E K L ad I H) (hS : va_S (AG E) s.heap H locs) {v : Int32} (hr : K r = 1) (hdg : decode cc pc = .ok (.putfield 78, 3)) (kk : ∀ (H1 : Heap) (locs1 : List Loc), Hp E K L ad (up2 I r 0 v) H1 → va_S (AG E) s.heap H1 locs1 → W p l e R s m args below meth c H1 locs1 cells slots Q (F0 m (pc + 3) ls rest)) : W p l e R s m args below meth c H locs cells slots Q (F0 m pc ls (.int v :: .ref (ad r) :: rest)) :=
  g_put (ci := 0) (T := TX0) (k := 0) (ty := .int) (L' := L) (I' := up2 I r 0 v) C hP hS (by omega) (wE_1 _ _ _ _ hr) ly_X0 tyX0 tyX0_ok nmX0 rfl (by decide) tf_X1_78 rfl rfl (by decide +kernel) rfl rfl (Nat.le_of_ble_eq_true rfl) (by rw [wE_1 _ _ _ _ hr, up2_at]; rfl) (fun a ha => up2_r ha) (fun _ _ => rfl) hdg kk
theorem f_X6_87 (C : Cx E p s m args c cc RX6 nL) (hP : Hp E K L ad I H) (hr : K r = 1) (hdg : decode cc pc = .ok (.getfield 87, 3)) (kk : W p l e R s m args below meth c H locs cells slots Q (F0 m (pc + 3) ls (.int (I r 0) :: rest))) : W p l e R s m args below meth c H locs cells slots Q (F0 m pc ls (.ref (ad r) :: rest)) :=
  g_get (ci := 0) (T := TX0) (k := 0) C hP (by omega) (wE_1 _ _ _ _ hr) ly_X0 rfl (by decide) tf_X6_87 rfl rfl hdg kk
theorem p_X6_87 (C : Cx E p s m args c cc RX6 nL) (hP : Hp E K L ad I H) (hS : va_S (AG E) s.heap H locs) {v : Int32} (hr : K r = 1) (hdg : decode cc pc = .ok (.putfield 87, 3)) (kk : ∀ (H1 : Heap) (locs1 : List Loc), Hp E K L ad (up2 I r 0 v) H1 → va_S (AG E) s.heap H1 locs1 → W p l e R s m args below meth c H1 locs1 cells slots Q (F0 m (pc + 3) ls rest)) : W p l e R s m args below meth c H locs cells slots Q (F0 m pc ls (.int v :: .ref (ad r) :: rest)) :=
  g_put (ci := 0) (T := TX0) (k := 0) (ty := .int) (L' := L) (I' := up2 I r 0 v) C hP hS (by omega) (wE_1 _ _ _ _ hr) ly_X0 tyX0 tyX0_ok nmX0 rfl (by decide) tf_X6_87 rfl rfl (by decide +kernel) rfl rfl (Nat.le_of_ble_eq_true rfl) (by rw [wE_1 _ _ _ _ hr, up2_at]; rfl) (fun a ha => up2_r ha) (fun _ _ => rfl) hdg kk
theorem f_X5_57 (C : Cx E p s m args c cc RX5 nL) (hP : Hp E K L ad I H) (hr : K r = 1) (hdg : decode cc pc = .ok (.getfield 57, 3)) (kk : W p l e R s m args below meth c H locs cells slots Q (F0 m (pc + 3) ls (.int (I r 0) :: rest))) : W p l e R s m args below meth c H locs cells slots Q (F0 m pc ls (.ref (ad r) :: rest)) :=
  g_get (ci := 0) (T := TX0) (k := 0) C hP (by omega) (wE_1 _ _ _ _ hr) ly_X0 rfl (by decide) tf_X5_57 rfl rfl hdg kk
theorem p_X5_57 (C : Cx E p s m args c cc RX5 nL) (hP : Hp E K L ad I H) (hS : va_S (AG E) s.heap H locs) {v : Int32} (hr : K r = 1) (hdg : decode cc pc = .ok (.putfield 57, 3)) (kk : ∀ (H1 : Heap) (locs1 : List Loc), Hp E K L ad (up2 I r 0 v) H1 → va_S (AG E) s.heap H1 locs1 → W p l e R s m args below meth c H1 locs1 cells slots Q (F0 m (pc + 3) ls rest)) : W p l e R s m args below meth c H locs cells slots Q (F0 m pc ls (.int v :: .ref (ad r) :: rest)) :=
  g_put (ci := 0) (T := TX0) (k := 0) (ty := .int) (L' := L) (I' := up2 I r 0 v) C hP hS (by omega) (wE_1 _ _ _ _ hr) ly_X0 tyX0 tyX0_ok nmX0 rfl (by decide) tf_X5_57 rfl rfl (by decide +kernel) rfl rfl (Nat.le_of_ble_eq_true rfl) (by rw [wE_1 _ _ _ _ hr, up2_at]; rfl) (fun a ha => up2_r ha) (fun _ _ => rfl) hdg kk
theorem f_X0_15 (C : Cx E p s m args c cc RX0 nL) (hP : Hp E K L ad I H) (hr : K r = 1) (hdg : decode cc pc = .ok (.getfield 15, 3)) (kk : W p l e R s m args below meth c H locs cells slots Q (F0 m (pc + 3) ls (.int (I r 1) :: rest))) : W p l e R s m args below meth c H locs cells slots Q (F0 m pc ls (.ref (ad r) :: rest)) :=
  g_get (ci := 0) (T := TX0) (k := 1) C hP (by omega) (wE_1 _ _ _ _ hr) ly_X0 rfl (by decide) tf_X0_15 rfl rfl hdg kk
theorem p_X0_15 (C : Cx E p s m args c cc RX0 nL) (hP : Hp E K L ad I H) (hS : va_S (AG E) s.heap H locs) {v : Int32} (hr : K r = 1) (hdg : decode cc pc = .ok (.putfield 15, 3)) (kk : ∀ (H1 : Heap) (locs1 : List Loc), Hp E K L ad (up2 I r 1 v) H1 → va_S (AG E) s.heap H1 locs1 → W p l e R s m args below meth c H1 locs1 cells slots Q (F0 m (pc + 3) ls rest)) : W p l e R s m args below meth c H locs cells slots Q (F0 m pc ls (.int v :: .ref (ad r) :: rest)) :=
  g_put (ci := 0) (T := TX0) (k := 1) (ty := .int) (L' := L) (I' := up2 I r 1 v) C hP hS (by omega) (wE_1 _ _ _ _ hr) ly_X0 tyX0 tyX0_ok nmX0 rfl (by decide) tf_X0_15 rfl rfl (by decide +kernel) rfl rfl (Nat.le_of_ble_eq_true rfl) (by rw [wE_1 _ _ _ _ hr, up2_at]; rfl) (fun a ha => up2_r ha) (fun _ _ => rfl) hdg kk
theorem f_X1_83 (C : Cx E p s m args c cc RX1 nL) (hP : Hp E K L ad I H) (hr : K r = 1) (hdg : decode cc pc = .ok (.getfield 83, 3)) (kk : W p l e R s m args below meth c H locs cells slots Q (F0 m (pc + 3) ls (.int (I r 1) :: rest))) : W p l e R s m args below meth c H locs cells slots Q (F0 m pc ls (.ref (ad r) :: rest)) :=
  g_get (ci := 0) (T := TX0) (k := 1) C hP (by omega) (wE_1 _ _ _ _ hr) ly_X0 rfl (by decide) tf_X1_83 rfl rfl hdg kk
theorem p_X1_83 (C : Cx E p s m args c cc RX1 nL) (hP : Hp E K L ad I H) (hS : va_S (AG E) s.heap H locs) {v : Int32} (hr : K r = 1) (hdg : decode cc pc = .ok (.putfield 83, 3)) (kk : ∀ (H1 : Heap) (locs1 : List Loc), Hp E K L ad (up2 I r 1 v) H1 → va_S (AG E) s.heap H1 locs1 → W p l e R s m args below meth c H1 locs1 cells slots Q (F0 m (pc + 3) ls rest)) : W p l e R s m args below meth c H locs cells slots Q (F0 m pc ls (.int v :: .ref (ad r) :: rest)) :=
  g_put (ci := 0) (T := TX0) (k := 1) (ty := .int) (L' := L) (I' := up2 I r 1 v) C hP hS (by omega) (wE_1 _ _ _ _ hr) ly_X0 tyX0 tyX0_ok nmX0 rfl (by decide) tf_X1_83 rfl rfl (by decide +kernel) rfl rfl (Nat.le_of_ble_eq_true rfl) (by rw [wE_1 _ _ _ _ hr, up2_at]; rfl) (fun a ha => up2_r ha) (fun _ _ => rfl) hdg kk
theorem f_X5_60 (C : Cx E p s m args c cc RX5 nL) (hP : Hp E K L ad I H) (hr : K r = 1) (hdg : decode cc pc = .ok (.getfield 60, 3)) (kk : W p l e R s m args below meth c H locs cells slots Q (F0 m (pc + 3) ls (.int (I r 1) :: rest))) : W p l e R s m args below meth c H locs cells slots Q (F0 m pc ls (.ref (ad r) :: rest)) :=
  g_get (ci := 0) (T := TX0) (k := 1) C hP (by omega) (wE_1 _ _ _ _ hr) ly_X0 rfl (by decide) tf_X5_60 rfl rfl hdg kk
theorem p_X5_60 (C : Cx E p s m args c cc RX5 nL) (hP : Hp E K L ad I H) (hS : va_S (AG E) s.heap H locs) {v : Int32} (hr : K r = 1) (hdg : decode cc pc = .ok (.putfield 60, 3)) (kk : ∀ (H1 : Heap) (locs1 : List Loc), Hp E K L ad (up2 I r 1 v) H1 → va_S (AG E) s.heap H1 locs1 → W p l e R s m args below meth c H1 locs1 cells slots Q (F0 m (pc + 3) ls rest)) : W p l e R s m args below meth c H locs cells slots Q (F0 m pc ls (.int v :: .ref (ad r) :: rest)) :=
  g_put (ci := 0) (T := TX0) (k := 1) (ty := .int) (L' := L) (I' := up2 I r 1 v) C hP hS (by omega) (wE_1 _ _ _ _ hr) ly_X0 tyX0 tyX0_ok nmX0 rfl (by decide) tf_X5_60 rfl rfl (by decide +kernel) rfl rfl (Nat.le_of_ble_eq_true rfl) (by rw [wE_1 _ _ _ _ hr, up2_at]; rfl) (fun a ha => up2_r ha) (fun _ _ => rfl) hdg kk
theorem f_X0_18 (C : Cx E p s m args c cc RX0 nL) (hP : Hp E K L ad I H) (hr : K r = 1) (hdg : decode cc pc = .ok (.getfield 18, 3)) (kk : W p l e R s m args below meth c H locs cells slots Q (F0 m (pc + 3) ls (.int (I r 2) :: rest))) : W p l e R s m args below meth c H locs cells slots Q (F0 m pc ls (.ref (ad r) :: rest)) :=
  g_get (ci := 0) (T := TX0) (k := 2) C hP (by omega) (wE_1 _ _ _ _ hr) ly_X0 rfl (by decide) tf_X0_18 rfl rfl hdg kk
theorem p_X0_18 (C : Cx E p s m args c cc RX0 nL) (hP : Hp E K L ad I H) (hS : va_S (AG E) s.heap H locs) {v : Int32} (hr : K r = 1) (hdg : decode cc pc = .ok (.putfield 18, 3)) (kk : ∀ (H1 : Heap) (locs1 : List Loc), Hp E K L ad (up2 I r 2 v) H1 → va_S (AG E) s.heap H1 locs1 → W p l e R s m args below meth c H1 locs1 cells slots Q (F0 m (pc + 3) ls rest)) : W p l e R s m args below meth c H locs cells slots Q (F0 m pc ls (.int v :: .ref (ad r) :: rest)) :=
  g_put (ci := 0) (T := TX0) (k := 2) (ty := .int) (L' := L) (I' := up2 I r 2 v) C hP hS (by omega) (wE_1 _ _ _ _ hr) ly_X0 tyX0 tyX0_ok nmX0 rfl (by decide) tf_X0_18 rfl rfl (by decide +kernel) rfl rfl (Nat.le_of_ble_eq_true rfl) (by rw [wE_1 _ _ _ _ hr, up2_at]; rfl) (fun a ha => up2_r ha) (fun _ _ => rfl) hdg kk
theorem f_X1_86 (C : Cx E p s m args c cc RX1 nL) (hP : Hp E K L ad I H) (hr : K r = 1) (hdg : decode cc pc = .ok (.getfield 86, 3)) (kk : W p l e R s m args below meth c H locs cells slots Q (F0 m (pc + 3) ls (.int (I r 2) :: rest))) : W p l e R s m args below meth c H locs cells slots Q (F0 m pc ls (.ref (ad r) :: rest)) :=
  g_get (ci := 0) (T := TX0) (k := 2) C hP (by omega) (wE_1 _ _ _ _ hr) ly_X0 rfl (by decide) tf_X1_86 rfl rfl hdg kk
theorem p_X1_86 (C : Cx E p s m args c cc RX1 nL) (hP : Hp E K L ad I H) (hS : va_S (AG E) s.heap H locs) {v : Int32} (hr : K r = 1) (hdg : decode cc pc = .ok (.putfield 86, 3)) (kk : ∀ (H1 : Heap) (locs1 : List Loc), Hp E K L ad (up2 I r 2 v) H1 → va_S (AG E) s.heap H1 locs1 → W p l e R s m args below meth c H1 locs1 cells slots Q (F0 m (pc + 3) ls rest)) : W p l e R s m args below meth c H locs cells slots Q (F0 m pc ls (.int v :: .ref (ad r) :: rest)) :=
  g_put (ci := 0) (T := TX0) (k := 2) (ty := .int) (L' := L) (I' := up2 I r 2 v) C hP hS (by omega) (wE_1 _ _ _ _ hr) ly_X0 tyX0 tyX0_ok nmX0 rfl (by decide) tf_X1_86 rfl rfl (by decide +kernel) rfl rfl (Nat.le_of_ble_eq_true rfl) (by rw [wE_1 _ _ _ _ hr, up2_at]; rfl) (fun a ha => up2_r ha) (fun _ _ => rfl) hdg kk
theorem f_X5_63 (C : Cx E p s m args c cc RX5 nL) (hP : Hp E K L ad I H) (hr : K r = 1) (hdg : decode cc pc = .ok (.getfield 63, 3)) (kk : W p l e R s m args below meth c H locs cells slots Q (F0 m (pc + 3) ls (.int (I r 2) :: rest))) : W p l e R s m args below meth c H locs cells slots Q (F0 m pc ls (.ref (ad r) :: rest)) :=
  g_get (ci := 0) (T := TX0) (k := 2) C hP (by omega) (wE_1 _ _ _ _ hr) ly_X0 rfl (by decide) tf_X5_63 rfl rfl hdg kk
theorem p_X5_63 (C : Cx E p s m args c cc RX5 nL) (hP : Hp E K L ad I H) (hS : va_S (AG E) s.heap H locs) {v : Int32} (hr : K r = 1) (hdg : decode cc pc = .ok (.putfield 63, 3)) (kk : ∀ (H1 : Heap) (locs1 : List Loc), Hp E K L ad (up2 I r 2 v) H1 → va_S (AG E) s.heap H1 locs1 → W p l e R s m args below meth c H1 locs1 cells slots Q (F0 m (pc + 3) ls rest)) : W p l e R s m args below meth c H locs cells slots Q (F0 m pc ls (.int v :: .ref (ad r) :: rest)) :=
  g_put (ci := 0) (T := TX0) (k := 2) (ty := .int) (L' := L) (I' := up2 I r 2 v) C hP hS (by omega) (wE_1 _ _ _ _ hr) ly_X0 tyX0 tyX0_ok nmX0 rfl (by decide) tf_X5_63 rfl rfl (by decide +kernel) rfl rfl (Nat.le_of_ble_eq_true rfl) (by rw [wE_1 _ _ _ _ hr, up2_at]; rfl) (fun a ha => up2_r ha) (fun _ _ => rfl) hdg kk
theorem f_X5_22 (C : Cx E p s m args c cc RX5 nL) (hP : Hp E K L ad I H) (hr : K r = 6) (hdg : decode cc pc = .ok (.getfield 22, 3)) (kk : W p l e R s m args below meth c H locs cells slots Q (F0 m (pc + 3) ls (.int (I r 0) :: rest))) : W p l e R s m args below meth c H locs cells slots Q (F0 m pc ls (.ref (ad r) :: rest)) :=
  g_get (ci := 5) (T := TX5) (k := 0) C hP (by omega) (wE_6 _ _ _ _ hr) ly_X5 rfl (by decide) tf_X5_22 rfl rfl hdg kk
theorem p_X5_22 (C : Cx E p s m args c cc RX5 nL) (hP : Hp E K L ad I H) (hS : va_S (AG E) s.heap H locs) {v : Int32} (hr : K r = 6) (hdg : decode cc pc = .ok (.putfield 22, 3)) (kk : ∀ (H1 : Heap) (locs1 : List Loc), Hp E K L ad (up2 I r 0 v) H1 → va_S (AG E) s.heap H1 locs1 → W p l e R s m args below meth c H1 locs1 cells slots Q (F0 m (pc + 3) ls rest)) : W p l e R s m args below meth c H locs cells slots Q (F0 m pc ls (.int v :: .ref (ad r) :: rest)) :=
  g_put (ci := 5) (T := TX5) (k := 0) (ty := .int) (L' := L) (I' := up2 I r 0 v) C hP hS (by omega) (wE_6 _ _ _ _ hr) ly_X5 tyX5 tyX5_ok nmX5 rfl (by decide) tf_X5_22 rfl rfl (by decide +kernel) rfl rfl (Nat.le_of_ble_eq_true rfl) (by rw [wE_6 _ _ _ _ hr, up2_at]; rfl) (fun a ha => up2_r ha) (fun _ _ => rfl) hdg kk
theorem f_X2_73 (C : Cx E p s m args c cc RX2 nL) (hP : Hp E K L ad I H) (hr : K r = 6) (hdg : decode cc pc = .ok (.getfield 73, 3)) (kk : W p l e R s m args below meth c H locs cells slots Q (F0 m (pc + 3) ls (.int (I r 0) :: rest))) : W p l e R s m args below meth c H locs cells slots Q (F0 m pc ls (.ref (ad r) :: rest)) :=
  g_get (ci := 5) (T := TX5) (k := 0) C hP (by omega) (wE_6 _ _ _ _ hr) ly_X5 rfl (by decide) tf_X2_73 rfl rfl hdg kk
theorem p_X2_73 (C : Cx E p s m args c cc RX2 nL) (hP : Hp E K L ad I H) (hS : va_S (AG E) s.heap H locs) {v : Int32} (hr : K r = 6) (hdg : decode cc pc = .ok (.putfield 73, 3)) (kk : ∀ (H1 : Heap) (locs1 : List Loc), Hp E K L ad (up2 I r 0 v) H1 → va_S (AG E) s.heap H1 locs1 → W p l e R s m args below meth c H1 locs1 cells slots Q (F0 m (pc + 3) ls rest)) : W p l e R s m args below meth c H locs cells slots Q (F0 m pc ls (.int v :: .ref (ad r) :: rest)) :=
  g_put (ci := 5) (T := TX5) (k := 0) (ty := .int) (L' := L) (I' := up2 I r 0 v) C hP hS (by omega) (wE_6 _ _ _ _ hr) ly_X5 tyX5 tyX5_ok nmX5 rfl (by decide) tf_X2_73 rfl rfl (by decide +kernel) rfl rfl (Nat.le_of_ble_eq_true rfl) (by rw [wE_6 _ _ _ _ hr, up2_at]; rfl) (fun a ha => up2_r ha) (fun _ _ => rfl) hdg kk
theorem f_X1_58 (C : Cx E p s m args c cc RX1 nL) (hP : Hp E K L ad I H) (hr : K r = 6) (hdg : decode cc pc = .ok (.getfield 58, 3)) (kk : W p l e R s m args below meth c H locs cells slots Q (F0 m (pc + 3) ls (.int (I r 0) :: rest))) : W p l e R s m args below meth c H locs cells slots Q (F0 m pc ls (.ref (ad r) :: rest)) :=
  g_get (ci := 5) (T := TX5) (k := 0) C hP (by omega) (wE_6 _ _ _ _ hr) ly_X5 rfl (by decide) tf_X1_58 rfl rfl hdg kk
theorem p_X1_58 (C : Cx E p s m args c cc RX1 nL) (hP : Hp E K L ad I H) (hS : va_S (AG E) s.heap H locs) {v : Int32} (hr : K r = 6) (hdg : decode cc pc = .ok (.putfield 58, 3)) (kk : ∀ (H1 : Heap) (locs1 : List Loc), Hp E K L ad (up2 I r 0 v) H1 → va_S (AG E) s.heap H1 locs1 → W p l e R s m args below meth c H1 locs1 cells slots Q (F0 m (pc + 3) ls rest)) : W p l e R s m args below meth c H locs cells slots Q (F0 m pc ls (.int v :: .ref (ad r) :: rest)) :=
  g_put (ci := 5) (T := TX5) (k := 0) (ty := .int) (L' := L) (I' := up2 I r 0 v) C hP hS (by omega) (wE_6 _ _ _ _ hr) ly_X5 tyX5 tyX5_ok nmX5 rfl (by decide) tf_X1_58 rfl rfl (by decide +kernel) rfl rfl (Nat.le_of_ble_eq_true rfl) (by rw [wE_6 _ _ _ _ hr, up2_at]; rfl) (fun a ha => up2_r ha) (fun _ _ => rfl) hdg kk
theorem f_X6_115 (C : Cx E p s m args c cc RX6 nL) (hP : Hp E K L ad I H) (hr : K r = 6) (hdg : decode cc pc = .ok (.getfield 115, 3)) (kk : W p l e R s m args below meth c H locs cells slots Q (F0 m (pc + 3) ls (.int (I r 0) :: rest))) : W p l e R s m args below meth c H locs cells slots Q (F0 m pc ls (.ref (ad r) :: rest)) :=
  g_get (ci := 5) (T := TX5) (k := 0) C hP (by omega) (wE_6 _ _ _ _ hr) ly_X5 rfl (by decide) tf_X6_115 rfl rfl hdg kk
theorem p_X6_115 (C : Cx E p s m args c cc RX6 nL) (hP : Hp E K L ad I H) (hS : va_S (AG E) s.heap H locs) {v : Int32} (hr : K r = 6) (hdg : decode cc pc = .ok (.putfield 115, 3)) (kk : ∀ (H1 : Heap) (locs1 : List Loc), Hp E K L ad (up2 I r 0 v) H1 → va_S (AG E) s.heap H1 locs1 → W p l e R s m args below meth c H1 locs1 cells slots Q (F0 m (pc + 3) ls rest)) : W p l e R s m args below meth c H locs cells slots Q (F0 m pc ls (.int v :: .ref (ad r) :: rest)) :=
  g_put (ci := 5) (T := TX5) (k := 0) (ty := .int) (L' := L) (I' := up2 I r 0 v) C hP hS (by omega) (wE_6 _ _ _ _ hr) ly_X5 tyX5 tyX5_ok nmX5 rfl (by decide) tf_X6_115 rfl rfl (by decide +kernel) rfl rfl (Nat.le_of_ble_eq_true rfl) (by rw [wE_6 _ _ _ _ hr, up2_at]; rfl) (fun a ha => up2_r ha) (fun _ _ => rfl) hdg kk
theorem f_X5_26 (C : Cx E p s m args c cc RX5 nL) (hP : Hp E K L ad I H) (hr : K r = 6) (hdg : decode cc pc = .ok (.getfield 26, 3)) (kk : W p l e R s m args below meth c H locs cells slots Q (F0 m (pc + 3) ls (.int (I r 1) :: rest))) : W p l e R s m args below meth c H locs cells slots Q (F0 m pc ls (.ref (ad r) :: rest)) :=
  g_get (ci := 5) (T := TX5) (k := 1) C hP (by omega) (wE_6 _ _ _ _ hr) ly_X5 rfl (by decide) tf_X5_26 rfl rfl hdg kk
theorem p_X5_26 (C : Cx E p s m args c cc RX5 nL) (hP : Hp E K L ad I H) (hS : va_S (AG E) s.heap H locs) {v : Int32} (hr : K r = 6) (hdg : decode cc pc = .ok (.putfield 26, 3)) (kk : ∀ (H1 : Heap) (locs1 : List Loc), Hp E K L ad (up2 I r 1 v) H1 → va_S (AG E) s.heap H1 locs1 → W p l e R s m args below meth c H1 locs1 cells slots Q (F0 m (pc + 3) ls rest)) : W p l e R s m args below meth c H locs cells slots Q (F0 m pc ls (.int v :: .ref (ad r) :: rest)) :=
  g_put (ci := 5) (T := TX5) (k := 1) (ty := .int) (L' := L) (I' := up2 I r 1 v) C hP hS (by omega) (wE_6 _ _ _ _ hr) ly_X5 tyX5 tyX5_ok nmX5 rfl (by decide) tf_X5_26 rfl rfl (by decide +kernel) rfl rfl (Nat.le_of_ble_eq_true rfl) (by rw [wE_6 _ _ _ _ hr, up2_at]; rfl) (fun a ha => up2_r ha) (fun _ _ => rfl) hdg kk
theorem f_X6_76 (C : Cx E p s m args c cc RX6 nL) (hP : Hp E K L ad I H) (hr : K r = 6) (hdg : decode cc pc = .ok (.getfield 76, 3)) (kk : W p l e R s m args below meth c H locs cells slots Q (F0 m (pc + 3) ls (.int (I r 1) :: rest))) : W p l e R s m args below meth c H locs cells slots Q (F0 m pc ls (.ref (ad r) :: rest)) :=
  g_get (ci := 5) (T := TX5) (k := 1) C hP (by omega) (wE_6 _ _ _ _ hr) ly_X5 rfl (by decide) tf_X6_76 rfl rfl hdg kk
theorem p_X6_76 (C : Cx E p s m args c cc RX6 nL) (hP : Hp E K L ad I H) (hS : va_S (AG E) s.heap H locs) {v : Int32} (hr : K r = 6) (hdg : decode cc pc = .ok (.putfield 76, 3)) (kk : ∀ (H1 : Heap) (locs1 : List Loc), Hp E K L ad (up2 I r 1 v) H1 → va_S (AG E) s.heap H1 locs1 → W p l e R s m args below meth c H1 locs1 cells slots Q (F0 m (pc + 3) ls rest)) : W p l e R s m args below meth c H locs cells slots Q (F0 m pc ls (.int v :: .ref (ad r) :: rest)) :=
  g_put (ci := 5) (T := TX5) (k := 1) (ty := .int) (L' := L) (I' := up2 I r 1 v) C hP hS (by omega) (wE_6 _ _ _ _ hr) ly_X5 tyX5 tyX5_ok nmX5 rfl (by decide) tf_X6_76 rfl rfl (by decide +kernel) rfl rfl (Nat.le_of_ble_eq_true rfl) (by rw [wE_6 _ _ _ _ hr, up2_at]; rfl) (fun a ha => up2_r ha) (fun _ _ => rfl) hdg kk
theorem f_X5_9 (C : Cx E p s m args c cc RX5 nL) (hP : Hp E K L ad I H) {q : Nat} (hr : K r = 6) (hL : L r 2 = true) (hq : r + 1 = q) (hdg : decode cc pc = .ok (.getfield 9, 3)) (kk : W p l e R s m args below meth c H locs cells slots Q (F0 m (pc + 3) ls (.ref (ad q) :: rest))) : W p l e R s m args below meth c H locs cells slots Q (F0 m pc ls (.ref (ad r) :: rest)) :=
  g_get (ci := 5) (T := TX5) (k := 2) C hP (by omega) (wE_6 _ _ _ _ hr) ly_X5 rfl (by decide) tf_X5_9 rfl (by subst hq; exact congrArg some (qv_t hL)) hdg kk
theorem f_X5_17 (C : Cx E p s m args c cc RX5 nL) (hP : Hp E K L ad I H) {q : Nat} (hr : K r = 6) (hL : L r 3 = true) (hq : r + 2 = q) (hdg : decode cc pc = .ok (.getfield 17, 3)) (kk : W p l e R s m args below meth c H locs cells slots Q (F0 m (pc + 3) ls (.ref (ad q) :: rest))) : W p l e R s m args below meth c H locs cells slots Q (F0 m pc ls (.ref (ad r) :: rest)) :=
  g_get (ci := 5) (T := TX5) (k := 3) C hP (by omega) (wE_6 _ _ _ _ hr) ly_X5 rfl (by decide) tf_X5_17 rfl (by subst hq; exact congrArg some (qv_t hL)) hdg kk
theorem f_X1_67 (C : Cx E p s m args c cc RX1 nL) (hP : Hp E K L ad I H) {q : Nat} (hr : K r = 6) (hL : L r 3 = true) (hq : r + 2 = q) (hdg : decode cc pc = .ok (.getfield 67, 3)) (kk : W p l e R s m args below meth c H locs cells slots Q (F0 m (pc + 3) ls (.ref (ad q) :: rest))) : W p l e R s m args below meth c H locs cells slots Q (F0 m pc ls (.ref (ad r) :: rest)) :=
  g_get (ci := 5) (T := TX5) (k := 3) C hP (by omega) (wE_6 _ _ _ _ hr) ly_X5 rfl (by decide) tf_X1_67 rfl (by subst hq; exact congrArg some (qv_t hL)) hdg kk
theorem f_X6_83 (C : Cx E p s m args c cc RX6 nL) (hP : Hp E K L ad I H) {q : Nat} (hr : K r = 6) (hL : L r 3 = true) (hq : r + 2 = q) (hdg : decode cc pc = .ok (.getfield 83, 3)) (kk : W p l e R s m args below meth c H locs cells slots Q (F0 m (pc + 3) ls (.ref (ad q) :: rest))) : W p l e R s m args below meth c H locs cells slots Q (F0 m pc ls (.ref (ad r) :: rest)) :=
  g_get (ci := 5) (T := TX5) (k := 3) C hP (by omega) (wE_6 _ _ _ _ hr) ly_X5 rfl (by decide) tf_X6_83 rfl (by subst hq; exact congrArg some (qv_t hL)) hdg kk
theorem f_X4_21 (C : Cx E p s m args c cc RX4 nL) (hP : Hp E K L ad I H) (hr : K r = 4) (hdg : decode cc pc = .ok (.getfield 21, 3)) (kk : W p l e R s m args below meth c H locs cells slots Q (F0 m (pc + 3) ls (.int (I r 0) :: rest))) : W p l e R s m args below meth c H locs cells slots Q (F0 m pc ls (.ref (ad r) :: rest)) :=
  g_get (ci := 3) (T := TX3) (k := 0) C hP (by omega) (wE_4 _ _ _ _ hr) ly_X3 rfl (by decide) tf_X4_21 rfl rfl hdg kk
theorem p_X4_21 (C : Cx E p s m args c cc RX4 nL) (hP : Hp E K L ad I H) (hS : va_S (AG E) s.heap H locs) {v : Int32} (hr : K r = 4) (hdg : decode cc pc = .ok (.putfield 21, 3)) (kk : ∀ (H1 : Heap) (locs1 : List Loc), Hp E K L ad (up2 I r 0 v) H1 → va_S (AG E) s.heap H1 locs1 → W p l e R s m args below meth c H1 locs1 cells slots Q (F0 m (pc + 3) ls rest)) : W p l e R s m args below meth c H locs cells slots Q (F0 m pc ls (.int v :: .ref (ad r) :: rest)) :=
  g_put (ci := 3) (T := TX3) (k := 0) (ty := .int) (L' := L) (I' := up2 I r 0 v) C hP hS (by omega) (wE_4 _ _ _ _ hr) ly_X3 tyX3 tyX3_ok nmX3 rfl (by decide) tf_X4_21 rfl rfl (by decide +kernel) rfl rfl (Nat.le_of_ble_eq_true rfl) (by rw [wE_4 _ _ _ _ hr, up2_at]; rfl) (fun a ha => up2_r ha) (fun _ _ => rfl) hdg kk
theorem f_X3_36 (C : Cx E p s m args c cc RX3 nL) (hP : Hp E K L ad I H) (hr : K r = 4) (hdg : decode cc pc = .ok (.getfield 36, 3)) (kk : W p l e R s m args below meth c H locs cells slots Q (F0 m (pc + 3) ls (.int (I r 0) :: rest))) : W p l e R s m args below meth c H locs cells slots Q (F0 m pc ls (.ref (ad r) :: rest)) :=
  g_get (ci := 3) (T := TX3) (k := 0) C hP (by omega) (wE_4 _ _ _ _ hr) ly_X3 rfl (by decide) tf_X3_36 rfl rfl hdg kk
theorem p_X3_36 (C : Cx E p s m args c cc RX3 nL) (hP : Hp E K L ad I H) (hS : va_S (AG E) s.heap H locs) {v : Int32} (hr : K r = 4) (hdg : decode cc pc = .ok (.putfield 36, 3)) (kk : ∀ (H1 : Heap) (locs1 : List Loc), Hp E K L ad (up2 I r 0 v) H1 → va_S (AG E) s.heap H1 locs1 → W p l e R s m args below meth c H1 locs1 cells slots Q (F0 m (pc + 3) ls rest)) : W p l e R s m args below meth c H locs cells slots Q (F0 m pc ls (.int v :: .ref (ad r) :: rest)) :=
  g_put (ci := 3) (T := TX3) (k := 0) (ty := .int) (L' := L) (I' := up2 I r 0 v) C hP hS (by omega) (wE_4 _ _ _ _ hr) ly_X3 tyX3 tyX3_ok nmX3 rfl (by decide) tf_X3_36 rfl rfl (by decide +kernel) rfl rfl (Nat.le_of_ble_eq_true rfl) (by rw [wE_4 _ _ _ _ hr, up2_at]; rfl) (fun a ha => up2_r ha) (fun _ _ => rfl) hdg kk
theorem f_X2_42 (C : Cx E p s m args c cc RX2 nL) (hP : Hp E K L ad I H) (hr : K r = 4) (hdg : decode cc pc = .ok (.getfield 42, 3)) (kk : W p l e R s m args below meth c H locs cells slots Q (F0 m (pc + 3) ls (.int (I r 0) :: rest))) : W p l e R s m args below meth c H locs cells slots Q (F0 m pc ls (.ref (ad r) :: rest)) :=
  g_get (ci := 3) (T := TX3) (k := 0) C hP (by omega) (wE_4 _ _ _ _ hr) ly_X3 rfl (by decide) tf_X2_42 rfl rfl hdg kk
theorem p_X2_42 (C : Cx E p s m args c cc RX2 nL) (hP : Hp E K L ad I H) (hS : va_S (AG E) s.heap H locs) {v : Int32} (hr : K r = 4) (hdg : decode cc pc = .ok (.putfield 42, 3)) (kk : ∀ (H1 : Heap) (locs1 : List Loc), Hp E K L ad (up2 I r 0 v) H1 → va_S (AG E) s.heap H1 locs1 → W p l e R s m args below meth c H1 locs1 cells slots Q (F0 m (pc + 3) ls rest)) : W p l e R s m args below meth c H locs cells slots Q (F0 m pc ls (.int v :: .ref (ad r) :: rest)) :=
  g_put (ci := 3) (T := TX3) (k := 0) (ty := .int) (L' := L) (I' := up2 I r 0 v) C hP hS (by omega) (wE_4 _ _ _ _ hr) ly_X3 tyX3 tyX3_ok nmX3 rfl (by decide) tf_X2_42 rfl rfl (by decide +kernel) rfl rfl (Nat.le_of_ble_eq_true rfl) (by rw [wE_4 _ _ _ _ hr, up2_at]; rfl) (fun a ha => up2_r ha) (fun _ _ => rfl) hdg kk
theorem f_X6_45 (C : Cx E p s m args c cc RX6 nL) (hP : Hp E K L ad I H) (hr : K r = 4) (hdg : decode cc pc = .ok (.getfield 45, 3)) (kk : W p l e R s m args below meth c H locs cells slots Q (F0 m (pc + 3) ls (.int (I r 0) :: rest))) : W p l e R s m args below meth c H locs cells slots Q (F0 m pc ls (.ref (ad r) :: rest)) :=
  g_get (ci := 3) (T := TX3) (k := 0) C hP (by omega) (wE_4 _ _ _ _ hr) ly_X3 rfl (by decide) tf_X6_45 rfl rfl hdg kk
theorem p_X6_45 (C : Cx E p s m args c cc RX6 nL) (hP : Hp E K L ad I H) (hS : va_S (AG E) s.heap H locs) {v : Int32} (hr : K r = 4) (hdg : decode cc pc = .ok (.putfield 45, 3)) (kk : ∀ (H1 : Heap) (locs1 : List Loc), Hp E K L ad (up2 I r 0 v) H1 → va_S (AG E) s.heap H1 locs1 → W p l e R s m args below meth c H1 locs1 cells slots Q (F0 m (pc + 3) ls rest)) : W p l e R s m args below meth c H locs cells slots Q (F0 m pc ls (.int v :: .ref (ad r) :: rest)) :=
  g_put (ci := 3) (T := TX3) (k := 0) (ty := .int) (L' := L) (I' := up2 I r 0 v) C hP hS (by omega) (wE_4 _ _ _ _ hr) ly_X3 tyX3 tyX3_ok nmX3 rfl (by decide) tf_X6_45 rfl rfl (by decide +kernel) rfl rfl (Nat.le_of_ble_eq_true rfl) (by rw [wE_4 _ _ _ _ hr, up2_at]; rfl) (fun a ha => up2_r ha) (fun _ _ => rfl) hdg kk
theorem f_X1_31 (C : Cx E p s m args c cc RX1 nL) (hP : Hp E K L ad I H) (hr : K r = 4) (hdg : decode cc pc = .ok (.getfield 31, 3)) (kk : W p l e R s m args below meth c H locs cells slots Q (F0 m (pc + 3) ls (.int (I r 0) :: rest))) : W p l e R s m args below meth c H locs cells slots Q (F0 m pc ls (.ref (ad r) :: rest)) :=
  g_get (ci := 3) (T := TX3) (k := 0) C hP (by omega) (wE_4 _ _ _ _ hr) ly_X3 rfl (by decide) tf_X1_31 rfl rfl hdg kk
theorem p_X1_31 (C : Cx E p s m args c cc RX1 nL) (hP : Hp E K L ad I H) (hS : va_S (AG E) s.heap H locs) {v : Int32} (hr : K r = 4) (hdg : decode cc pc = .ok (.putfield 31, 3)) (kk : ∀ (H1 : Heap) (locs1 : List Loc), Hp E K L ad (up2 I r 0 v) H1 → va_S (AG E) s.heap H1 locs1 → W p l e R s m args below meth c H1 locs1 cells slots Q (F0 m (pc + 3) ls rest)) : W p l e R s m args below meth c H locs cells slots Q (F0 m pc ls (.int v :: .ref (ad r) :: rest)) :=
  g_put (ci := 3) (T := TX3) (k := 0) (ty := .int) (L' := L) (I' := up2 I r 0 v) C hP hS (by omega) (wE_4 _ _ _ _ hr) ly_X3 tyX3 tyX3_ok nmX3 rfl (by decide) tf_X1_31 rfl rfl (by decide +kernel) rfl rfl (Nat.le_of_ble_eq_true rfl) (by rw [wE_4 _ _ _ _ hr, up2_at]; rfl) (fun a ha => up2_r ha) (fun _ _ => rfl) hdg kk
theorem f_X3_11 (C : Cx E p s m args c cc RX3 nL) (hP : Hp E K L ad I H) {q : Nat} (hr : K r = 4) (hL : L r 1 = true) (hq : r + 1 = q) (hdg : decode cc pc = .ok (.getfield 11, 3)) (kk : W p l e R s m args below meth c H locs cells slots Q (F0 m (pc + 3) ls (.ref (ad q) :: rest))) : W p l e R s m args below meth c H locs cells slots Q (F0 m pc ls (.ref (ad r) :: rest)) :=
  g_get (ci := 3) (T := TX3) (k := 1) C hP (by omega) (wE_4 _ _ _ _ hr) ly_X3 rfl (by decide) tf_X3_11 rfl (by subst hq; exact congrArg some (qv_t hL)) hdg kk
theorem f_X2_48 (C : Cx E p s m args c cc RX2 nL) (hP : Hp E K L ad I H) {q : Nat} (hr : K r = 4) (hL : L r 1 = true) (hq : r + 1 = q) (hdg : decode cc pc = .ok (.getfield 48, 3)) (kk : W p l e R s m args below meth c H locs cells slots Q (F0 m (pc + 3) ls (.ref (ad q) :: rest))) : W p l e R s m args below meth c H locs cells slots Q (F0 m pc ls (.ref (ad r) :: rest)) :=
  g_get (ci := 3) (T := TX3) (k := 1) C hP (by omega) (wE_4 _ _ _ _ hr) ly_X3 rfl (by decide) tf_X2_48 rfl (by subst hq; exact congrArg some (qv_t hL)) hdg kk
theorem f_X1_55 (C : Cx E p s m args c cc RX1 nL) (hP : Hp E K L ad I H) {q : Nat} (hr : K r = 4) (hL : L r 1 = true) (hq : r + 1 = q) (hdg : decode cc pc = .ok (.getfield 55, 3)) (kk : W p l e R s m args below meth c H locs cells slots Q (F0 m (pc + 3) ls (.ref (ad q) :: rest))) : W p l e R s m args below meth c H locs cells slots Q (F0 m pc ls (.ref (ad r) :: rest)) :=
  g_get (ci := 3) (T := TX3) (k := 1) C hP (by omega) (wE_4 _ _ _ _ hr) ly_X3 rfl (by decide) tf_X1_55 rfl (by subst hq; exact congrArg some (qv_t hL)) hdg kk
theorem f_X6_64 (C : Cx E p s m args c cc RX6 nL) (hP : Hp E K L ad I H) {q : Nat} (hr : K r = 4) (hL : L r 1 = true) (hq : r + 1 = q) (hdg : decode cc pc = .ok (.getfield 64, 3)) (kk : W p l e R s m args below meth c H locs cells slots Q (F0 m (pc + 3) ls (.ref (ad q) :: rest))) : W p l e R s m args below meth c H locs cells slots Q (F0 m pc ls (.ref (ad r) :: rest)) :=
  g_get (ci := 3) (T := TX3) (k := 1) C hP (by omega) (wE_4 _ _ _ _ hr) ly_X3 rfl (by decide) tf_X6_64 rfl (by subst hq; exact congrArg some (qv_t hL)) hdg kk
theorem f_X3_17 (C : Cx E p s m args c cc RX3 nL) (hP : Hp E K L ad I H) {q : Nat} (hr : K r = 4) (hL : L r 2 = true) (hq : r + 2 = q) (hdg : decode cc pc = .ok (.getfield 17, 3)) (kk : W p l e R s m args below meth c H locs cells slots Q (F0 m (pc + 3) ls (.ref (ad q) :: rest))) : W p l e R s m args below meth c H locs cells slots Q (F0 m pc ls (.ref (ad r) :: rest)) :=
  g_get (ci := 3) (T := TX3) (k := 2) C hP (by omega) (wE_4 _ _ _ _ hr) ly_X3 rfl (by decide) tf_X3_17 rfl (by subst hq; exact congrArg some (qv_t hL)) hdg kk
theorem f_X1_71 (C : Cx E p s m args c cc RX1 nL) (hP : Hp E K L ad I H) {q : Nat} (hr : K r = 4) (hL : L r 2 = true) (hq : r + 2 = q) (hdg : decode cc pc = .ok (.getfield 71, 3)) (kk : W p l e R s m args below meth c H locs cells slots Q (F0 m (pc + 3) ls (.ref (ad q) :: rest))) : W p l e R s m args below meth c H locs cells slots Q (F0 m pc ls (.ref (ad r) :: rest)) :=
  g_get (ci := 3) (T := TX3) (k := 2) C hP (by omega) (wE_4 _ _ _ _ hr) ly_X3 rfl (by decide) tf_X1_71 rfl (by subst hq; exact congrArg some (qv_t hL)) hdg kk
theorem f_X6_174 (C : Cx E p s m args c cc RX6 nL) (hP : Hp E K L ad I H) {q : Nat} (hr : K r = 4) (hL : L r 2 = true) (hq : r + 2 = q) (hdg : decode cc pc = .ok (.getfield 174, 3)) (kk : W p l e R s m args below meth c H locs cells slots Q (F0 m (pc + 3) ls (.ref (ad q) :: rest))) : W p l e R s m args below meth c H locs cells slots Q (F0 m pc ls (.ref (ad r) :: rest)) :=
  g_get (ci := 3) (T := TX3) (k := 2) C hP (by omega) (wE_4 _ _ _ _ hr) ly_X3 rfl (by decide) tf_X6_174 rfl (by subst hq; exact congrArg some (qv_t hL)) hdg kk
theorem f_X3_29 (C : Cx E p s m args c cc RX3 nL) (hP : Hp E K L ad I H) {q : Nat} (hr : K r = 4) (hL : L r 3 = true) (hq : r + 3 = q) (hdg : decode cc pc = .ok (.getfield 29, 3)) (kk : W p l e R s m args below meth c H locs cells slots Q (F0 m (pc + 3) ls (.ref (ad q) :: rest))) : W p l e R s m args below meth c H locs cells slots Q (F0 m pc ls (.ref (ad r) :: rest)) :=
  g_get (ci := 3) (T := TX3) (k := 3) C hP (by omega) (wE_4 _ _ _ _ hr) ly_X3 rfl (by decide) tf_X3_29 rfl (by subst hq; exact congrArg some (qv_t hL)) hdg kk
theorem f_X1_42 (C : Cx E p s m args c cc RX1 nL) (hP : Hp E K L ad I H) {q : Nat} (hr : K r = 4) (hL : L r 3 = true) (hq : r + 3 = q) (hdg : decode cc pc = .ok (.getfield 42, 3)) (kk : W p l e R s m args below meth c H locs cells slots Q (F0 m (pc + 3) ls (.ref (ad q) :: rest))) : W p l e R s m args below meth c H locs cells slots Q (F0 m pc ls (.ref (ad r) :: rest)) :=
  g_get (ci := 3) (T := TX3) (k := 3) C hP (by omega) (wE_4 _ _ _ _ hr) ly_X3 rfl (by decide) tf_X1_42 rfl (by subst hq; exact congrArg some (qv_t hL)) hdg kk
theorem f_X2_66 (C : Cx E p s m args c cc RX2 nL) (hP : Hp E K L ad I H) {q : Nat} (hr : K r = 4) (hL : L r 3 = true) (hq : r + 3 = q) (hdg : decode cc pc = .ok (.getfield 66, 3)) (kk : W p l e R s m args below meth c H locs cells slots Q (F0 m (pc + 3) ls (.ref (ad q) :: rest))) : W p l e R s m args below meth c H locs cells slots Q (F0 m pc ls (.ref (ad r) :: rest)) :=
  g_get (ci := 3) (T := TX3) (k := 3) C hP (by omega) (wE_4 _ _ _ _ hr) ly_X3 rfl (by decide) tf_X2_66 rfl (by subst hq; exact congrArg some (qv_t hL)) hdg kk
theorem f_X4_41 (C : Cx E p s m args c cc RX4 nL) (hP : Hp E K L ad I H) {q : Nat} (hr : K r = 4) (hL : L r 3 = true) (hq : r + 3 = q) (hdg : decode cc pc = .ok (.getfield 41, 3)) (kk : W p l e R s m args below meth c H locs cells slots Q (F0 m (pc + 3) ls (.ref (ad q) :: rest))) : W p l e R s m args below meth c H locs cells slots Q (F0 m pc ls (.ref (ad r) :: rest)) :=
  g_get (ci := 3) (T := TX3) (k := 3) C hP (by omega) (wE_4 _ _ _ _ hr) ly_X3 rfl (by decide) tf_X4_41 rfl (by subst hq; exact congrArg some (qv_t hL)) hdg kk
theorem f_X6_112 (C : Cx E p s m args c cc RX6 nL) (hP : Hp E K L ad I H) {q : Nat} (hr : K r = 4) (hL : L r 3 = true) (hq : r + 3 = q) (hdg : decode cc pc = .ok (.getfield 112, 3)) (kk : W p l e R s m args below meth c H locs cells slots Q (F0 m (pc + 3) ls (.ref (ad q) :: rest))) : W p l e R s m args below meth c H locs cells slots Q (F0 m pc ls (.ref (ad r) :: rest)) :=
  g_get (ci := 3) (T := TX3) (k := 3) C hP (by omega) (wE_4 _ _ _ _ hr) ly_X3 rfl (by decide) tf_X6_112 rfl (by subst hq; exact congrArg some (qv_t hL)) hdg kk
theorem f_X3_32 (C : Cx E p s m args c cc RX3 nL) (hP : Hp E K L ad I H) {q : Nat} (hr : K r = 4) (hL : L r 4 = true) (hq : r + 4 = q) (hdg : decode cc pc = .ok (.getfield 32, 3)) (kk : W p l e R s m args below meth c H locs cells slots Q (F0 m (pc + 3) ls (.ref (ad q) :: rest))) : W p l e R s m args below meth c H locs cells slots Q (F0 m pc ls (.ref (ad r) :: rest)) :=
  g_get (ci := 3) (T := TX3) (k := 4) C hP (by omega) (wE_4 _ _ _ _ hr) ly_X3 rfl (by decide) tf_X3_32 rfl (by subst hq; exact congrArg some (qv_t hL)) hdg kk
theorem f_X1_20 (C : Cx E p s m args c cc RX1 nL) (hP : Hp E K L ad I H) {q : Nat} (hr : K r = 4) (hL : L r 4 = true) (hq : r + 4 = q) (hdg : decode cc pc = .ok (.getfield 20, 3)) (kk : W p l e R s m args below meth c H locs cells slots Q (F0 m (pc + 3) ls (.ref (ad q) :: rest))) : W p l e R s m args below meth c H locs cells slots Q (F0 m pc ls (.ref (ad r) :: rest)) :=
  g_get (ci := 3) (T := TX3) (k := 4) C hP (by omega) (wE_4 _ _ _ _ hr) ly_X3 rfl (by decide) tf_X1_20 rfl (by subst hq; exact congrArg some (qv_t hL)) hdg kk
theorem f_X6_170 (C : Cx E p s m args c cc RX6 nL) (hP : Hp E K L ad I H) {q : Nat} (hr : K r = 4) (hL : L r 4 = true) (hq : r + 4 = q) (hdg : decode cc pc = .ok (.getfield 170, 3)) (kk : W p l e R s m args below meth c H locs cells slots Q (F0 m (pc + 3) ls (.ref (ad q) :: rest))) : W p l e R s m args below meth c H locs cells slots Q (F0 m pc ls (.ref (ad r) :: rest)) :=
  g_get (ci := 3) (T := TX3) (k := 4) C hP (by omega) (wE_4 _ _ _ _ hr) ly_X3 rfl (by decide) tf_X6_170 rfl (by subst hq; exact congrArg some (qv_t hL)) hdg kk
theorem f_X2_9 (C : Cx E p s m args c cc RX2 nL) (hP : Hp E K L ad I H) {q : Nat} (hr : K r = 3) (hL : L r 0 = true) (hq : r + 1 = q) (hdg : decode cc pc = .ok (.getfield 9, 3)) (kk : W p l e R s m args below meth c H locs cells slots Q (F0 m (pc + 3) ls (.ref (ad q) :: rest))) : W p l e R s m args below meth c H locs cells slots Q (F0 m pc ls (.ref (ad r) :: rest)) :=
  g_get (ci := 2) (T := TX2) (k := 0) C hP (by omega) (wE_3 _ _ _ _ hr) ly_X2 rfl (by decide) tf_X2_9 rfl (by subst hq; exact congrArg some (qv_t hL)) hdg kk
theorem f_X2_15 (C : Cx E p s m args c cc RX2 nL) (hP : Hp E K L ad I H) {q : Nat} (hr : K r = 3) (hL : L r 1 = true) (hq : r + 2 = q) (hdg : decode cc pc = .ok (.getfield 15, 3)) (kk : W p l e R s m args below meth c H locs cells slots Q (F0 m (pc + 3) ls (.ref (ad q) :: rest))) : W p l e R s m args below meth c H locs cells slots Q (F0 m pc ls (.ref (ad r) :: rest)) :=
  g_get (ci := 2) (T := TX2) (k := 1) C hP (by omega) (wE_3 _ _ _ _ hr) ly_X2 rfl (by decide) tf_X2_15 rfl (by subst hq; exact congrArg some (qv_t hL)) hdg kk
theorem f_X2_18 (C : Cx E p s m args c cc RX2 nL) (hP : Hp E K L ad I H) {q : Nat} (hr : K r = 3) (hL : L r 2 = true) (hq : r + 3 = q) (hdg : decode cc pc = .ok (.getfield 18, 3)) (kk : W p l e R s m args below meth c H locs cells slots Q (F0 m (pc + 3) ls (.ref (ad q) :: rest))) : W p l e R s m args below meth c H locs cells slots Q (F0 m pc ls (.ref (ad r) :: rest)) :=
  g_get (ci := 2) (T := TX2) (k := 2) C hP (by omega) (wE_3 _ _ _ _ hr) ly_X2 rfl (by decide) tf_X2_18 rfl (by subst hq; exact congrArg some (qv_t hL)) hdg kk
theorem f_X2_21 (C : Cx E p s m args c cc RX2 nL) (hP : Hp E K L ad I H) {q : Nat} (hr : K r = 3) (hL : L r 3 = true) (hq : r + 4 = q) (hdg : decode cc pc = .ok (.getfield 21, 3)) (kk : W p l e R s m args below meth c H locs cells slots Q (F0 m (pc + 3) ls (.ref (ad q) :: rest))) : W p l e R s m args below meth c H locs cells slots Q (F0 m pc ls (.ref (ad r) :: rest)) :=
  g_get (ci := 2) (T := TX2) (k := 3) C hP (by omega) (wE_3 _ _ _ _ hr) ly_X2 rfl (by decide) tf_X2_21 rfl (by subst hq; exact congrArg some (qv_t hL)) hdg kk
theorem f_X4_48 (C : Cx E p s m args c cc RX4 nL) (hP : Hp E K L ad I H) {q : Nat} (hr : K r = 3) (hL : L r 3 = true) (hq : r + 4 = q) (hdg : decode cc pc = .ok (.getfield 48, 3)) (kk : W p l e R s m args below meth c H locs cells slots Q (F0 m (pc + 3) ls (.ref (ad q) :: rest))) : W p l e R s m args below meth c H locs cells slots Q (F0 m pc ls (.ref (ad r) :: rest)) :=
  g_get (ci := 2) (T := TX2) (k := 3) C hP (by omega) (wE_3 _ _ _ _ hr) ly_X2 rfl (by decide) tf_X4_48 rfl (by subst hq; exact congrArg some (qv_t hL)) hdg kk
theorem f_X2_24 (C : Cx E p s m args c cc RX2 nL) (hP : Hp E K L ad I H) {q : Nat} (hr : K r = 3) (hL : L r 4 = true) (hq : r + 5 = q) (hdg : decode cc pc = .ok (.getfield 24, 3)) (kk : W p l e R s m args below meth c H locs cells slots Q (F0 m (pc + 3) ls (.ref (ad q) :: rest))) : W p l e R s m args below meth c H locs cells slots Q (F0 m pc ls (.ref (ad r) :: rest)) :=
  g_get (ci := 2) (T := TX2) (k := 4) C hP (by omega) (wE_3 _ _ _ _ hr) ly_X2 rfl (by decide) tf_X2_24 rfl (by subst hq; exact congrArg some (qv_t hL)) hdg kk
theorem f_X4_52 (C : Cx E p s m args c cc RX4 nL) (hP : Hp E K L ad I H) {q : Nat} (hr : K r = 3) (hL : L r 4 = true) (hq : r + 5 = q) (hdg : decode cc pc = .ok (.getfield 52, 3)) (kk : W p l e R s m args below meth c H locs cells slots Q (F0 m (pc + 3) ls (.ref (ad q) :: rest))) : W p l e R s m args below meth c H locs cells slots Q (F0 m pc ls (.ref (ad r) :: rest)) :=
  g_get (ci := 2) (T := TX2) (k := 4) C hP (by omega) (wE_3 _ _ _ _ hr) ly_X2 rfl (by decide) tf_X4_52 rfl (by subst hq; exact congrArg some (qv_t hL)) hdg kk
theorem f_X2_27 (C : Cx E p s m args c cc RX2 nL) (hP : Hp E K L ad I H) {q : Nat} (hr : K r = 3) (hL : L r 5 = true) (hq : r + 6 = q) (hdg : decode cc pc = .ok (.getfield 27, 3)) (kk : W p l e R s m args below meth c H locs cells slots Q (F0 m (pc + 3) ls (.ref (ad q) :: rest))) : W p l e R s m args below meth c H locs cells slots Q (F0 m pc ls (.ref (ad r) :: rest)) :=
  g_get (ci := 2) (T := TX2) (k := 5) C hP (by omega) (wE_3 _ _ _ _ hr) ly_X2 rfl (by decide) tf_X2_27 rfl (by subst hq; exact congrArg some (qv_t hL)) hdg kk
theorem f_X4_51 (C : Cx E p s m args c cc RX4 nL) (hP : Hp E K L ad I H) {q : Nat} (hr : K r = 3) (hL : L r 5 = true) (hq : r + 6 = q) (hdg : decode cc pc = .ok (.getfield 51, 3)) (kk : W p l e R s m args below meth c H locs cells slots Q (F0 m (pc + 3) ls (.ref (ad q) :: rest))) : W p l e R s m args below meth c H locs cells slots Q (F0 m pc ls (.ref (ad r) :: rest)) :=
  g_get (ci := 2) (T := TX2) (k := 5) C hP (by omega) (wE_3 _ _ _ _ hr) ly_X2 rfl (by decide) tf_X4_51 rfl (by subst hq; exact congrArg some (qv_t hL)) hdg kk
theorem f_X2_30 (C : Cx E p s m args c cc RX2 nL) (hP : Hp E K L ad I H) {q : Nat} (hr : K r = 3) (hL : L r 6 = true) (hq : r + 7 = q) (hdg : decode cc pc = .ok (.getfield 30, 3)) (kk : W p l e R s m args below meth c H locs cells slots Q (F0 m (pc + 3) ls (.ref (ad q) :: rest))) : W p l e R s m args below meth c H locs cells slots Q (F0 m pc ls (.ref (ad r) :: rest)) :=
  g_get (ci := 2) (T := TX2) (k := 6) C hP (by omega) (wE_3 _ _ _ _ hr) ly_X2 rfl (by decide) tf_X2_30 rfl (by subst hq; exact congrArg some (qv_t hL)) hdg kk
theorem f_X6_122 (C : Cx E p s m args c cc RX6 nL) (hP : Hp E K L ad I H) {q : Nat} (hr : K r = 3) (hL : L r 6 = true) (hq : r + 7 = q) (hdg : decode cc pc = .ok (.getfield 122, 3)) (kk : W p l e R s m args below meth c H locs cells slots Q (F0 m (pc + 3) ls (.ref (ad q) :: rest))) : W p l e R s m args below meth c H locs cells slots Q (F0 m pc ls (.ref (ad r) :: rest)) :=
  g_get (ci := 2) (T := TX2) (k := 6) C hP (by omega) (wE_3 _ _ _ _ hr) ly_X2 rfl (by decide) tf_X6_122 rfl (by subst hq; exact congrArg some (qv_t hL)) hdg kk
theorem f_X2_33 (C : Cx E p s m args c cc RX2 nL) (hP : Hp E K L ad I H) {q : Nat} (hr : K r = 3) (hL : L r 7 = true) (hq : r + 8 = q) (hdg : decode cc pc = .ok (.getfield 33, 3)) (kk : W p l e R s m args below meth c H locs cells slots Q (F0 m (pc + 3) ls (.ref (ad q) :: rest))) : W p l e R s m args below meth c H locs cells slots Q (F0 m pc ls (.ref (ad r) :: rest)) :=
  g_get (ci := 2) (T := TX2) (k := 7) C hP (by omega) (wE_3 _ _ _ _ hr) ly_X2 rfl (by decide) tf_X2_33 rfl (by subst hq; exact congrArg some (qv_t hL)) hdg kk
theorem f_X6_129 (C : Cx E p s m args c cc RX6 nL) (hP : Hp E K L ad I H) {q : Nat} (hr : K r = 3) (hL : L r 7 = true) (hq : r + 8 = q) (hdg : decode cc pc = .ok (.getfield 129, 3)) (kk : W p l e R s m args below meth c H locs cells slots Q (F0 m (pc + 3) ls (.ref (ad q) :: rest))) : W p l e R s m args below meth c H locs cells slots Q (F0 m pc ls (.ref (ad r) :: rest)) :=
  g_get (ci := 2) (T := TX2) (k := 7) C hP (by omega) (wE_3 _ _ _ _ hr) ly_X2 rfl (by decide) tf_X6_129 rfl (by subst hq; exact congrArg some (qv_t hL)) hdg kk
theorem f_X2_36 (C : Cx E p s m args c cc RX2 nL) (hP : Hp E K L ad I H) {q : Nat} (hr : K r = 3) (hL : L r 8 = true) (hq : r + 9 = q) (hdg : decode cc pc = .ok (.getfield 36, 3)) (kk : W p l e R s m args below meth c H locs cells slots Q (F0 m (pc + 3) ls (.ref (ad q) :: rest))) : W p l e R s m args below meth c H locs cells slots Q (F0 m pc ls (.ref (ad r) :: rest)) :=
  g_get (ci := 2) (T := TX2) (k := 8) C hP (by omega) (wE_3 _ _ _ _ hr) ly_X2 rfl (by decide) tf_X2_36 rfl (by subst hq; exact congrArg some (qv_t hL)) hdg kk
theorem f_X6_160 (C : Cx E p s m args c cc RX6 nL) (hP : Hp E K L ad I H) {q : Nat} (hr : K r = 3) (hL : L r 8 = true) (hq : r + 9 = q) (hdg : decode cc pc = .ok (.getfield 160, 3)) (kk : W p l e R s m args below meth c H locs cells slots Q (F0 m (pc + 3) ls (.ref (ad q) :: rest))) : W p l e R s m args below meth c H locs cells slots Q (F0 m pc ls (.ref (ad r) :: rest)) :=
  g_get (ci := 2) (T := TX2) (k := 8) C hP (by omega) (wE_3 _ _ _ _ hr) ly_X2 rfl (by decide) tf_X6_160 rfl (by subst hq; exact congrArg some (qv_t hL)) hdg kk
theorem f_X2_39 (C : Cx E p s m args c cc RX2 nL) (hP : Hp E K L ad I H) {q : Nat} (hr : K r = 3) (hL : L r 9 = true) (hq : r + 10 = q) (hdg : decode cc pc = .ok (.getfield 39, 3)) (kk : W p l e R s m args below meth c H locs cells slots Q (F0 m (pc + 3) ls (.ref (ad q) :: rest))) : W p l e R s m args below meth c H locs cells slots Q (F0 m pc ls (.ref (ad r) :: rest)) :=
  g_get (ci := 2) (T := TX2) (k := 9) C hP (by omega) (wE_3 _ _ _ _ hr) ly_X2 rfl (by decide) tf_X2_39 rfl (by subst hq; exact congrArg some (qv_t hL)) hdg kk
theorem f_X6_163 (C : Cx E p s m args c cc RX6 nL) (hP : Hp E K L ad I H) {q : Nat} (hr : K r = 3) (hL : L r 9 = true) (hq : r + 10 = q) (hdg : decode cc pc = .ok (.getfield 163, 3)) (kk : W p l e R s m args below meth c H locs cells slots Q (F0 m (pc + 3) ls (.ref (ad q) :: rest))) : W p l e R s m args below meth c H locs cells slots Q (F0 m pc ls (.ref (ad r) :: rest)) :=
  g_get (ci := 2) (T := TX2) (k := 9) C hP (by omega) (wE_3 _ _ _ _ hr) ly_X2 rfl (by decide) tf_X6_163 rfl (by subst hq; exact congrArg some (qv_t hL)) hdg kk
theorem f_X2_62 (C : Cx E p s m args c cc RX2 nL) (hP : Hp E K L ad I H) (hr : K r = 3) (hdg : decode cc pc = .ok (.getfield 62, 3)) (kk : W p l e R s m args below meth c H locs cells slots Q (F0 m (pc + 3) ls (.int (I r 10) :: rest))) : W p l e R s m args below meth c H locs cells slots Q (F0 m pc ls (.ref (ad r) :: rest)) :=
  g_get (ci := 2) (T := TX2) (k := 10) C hP (by omega) (wE_3 _ _ _ _ hr) ly_X2 rfl (by decide) tf_X2_62 rfl rfl hdg kk
theorem p_X2_62 (C : Cx E p s m args c cc RX2 nL) (hP : Hp E K L ad I H) (hS : va_S (AG E) s.heap H locs) {v : Int32} (hr : K r = 3) (hv : v = 0 ∨ v = 1) (hdg : decode cc pc = .ok (.putfield 62, 3)) (kk : ∀ (H1 : Heap) (locs1 : List Loc), Hp E K L ad (up2 I r 10 v) H1 → va_S (AG E) s.heap H1 locs1 → W p l e R s m args below meth c H1 locs1 cells slots Q (F0 m (pc + 3) ls rest)) : W p l e R s m args below meth c H locs cells slots Q (F0 m pc ls (.int v :: .ref (ad r) :: rest)) :=
  g_put (ci := 2) (T := TX2) (k := 10) (ty := .boolean) (L' := L) (I' := up2 I r 10 v) C hP hS (by omega) (wE_3 _ _ _ _ hr) ly_X2 tyX2 tyX2_ok nmX2 rfl (by decide) tf_X2_62 rfl rfl (by decide +kernel) (by rcases hv with rfl | rfl <;> rfl) (by rcases hv with rfl | rfl <;> rfl) (Nat.le_of_ble_eq_true rfl) (by rw [wE_3 _ _ _ _ hr, up2_at]; rfl) (fun a ha => up2_r ha) (fun _ _ => rfl) hdg kk
theorem f_X6_125 (C : Cx E p s m args c cc RX6 nL) (hP : Hp E K L ad I H) (hr : K r = 3) (hdg : decode cc pc = .ok (.getfield 125, 3)) (kk : W p l e R s m args below meth c H locs cells slots Q (F0 m (pc + 3) ls (.int (I r 10) :: rest))) : W p l e R s m args below meth c H locs cells slots Q (F0 m pc ls (.ref (ad r) :: rest)) :=
  g_get (ci := 2) (T := TX2) (k := 10) C hP (by omega) (wE_3 _ _ _ _ hr) ly_X2 rfl (by decide) tf_X6_125 rfl rfl hdg kk
theorem p_X6_125 (C : Cx E p s m args c cc RX6 nL) (hP : Hp E K L ad I H) (hS : va_S (AG E) s.heap H locs) {v : Int32} (hr : K r = 3) (hv : v = 0 ∨ v = 1) (hdg : decode cc pc = .ok (.putfield 125, 3)) (kk : ∀ (H1 : Heap) (locs1 : List Loc), Hp E K L ad (up2 I r 10 v) H1 → va_S (AG E) s.heap H1 locs1 → W p l e R s m args below meth c H1 locs1 cells slots Q (F0 m (pc + 3) ls rest)) : W p l e R s m args below meth c H locs cells slots Q (F0 m pc ls (.int v :: .ref (ad r) :: rest)) :=
  g_put (ci := 2) (T := TX2) (k := 10) (ty := .boolean) (L' := L) (I' := up2 I r 10 v) C hP hS (by omega) (wE_3 _ _ _ _ hr) ly_X2 tyX2 tyX2_ok nmX2 rfl (by decide) tf_X6_125 rfl rfl (by decide +kernel) (by rcases hv with rfl | rfl <;> rfl) (by rcases hv with rfl | rfl <;> rfl) (Nat.le_of_ble_eq_true rfl) (by rw [wE_3 _ _ _ _ hr, up2_at]; rfl) (fun a ha => up2_r ha) (fun _ _ => rfl) hdg kk
theorem f_X4_9 (C : Cx E p s m args c cc RX4 nL) (hP : Hp E K L ad I H) {q : Nat} (hr : K r = 5) (hL : L r 0 = true) (hq : r + 1 = q) (hdg : decode cc pc = .ok (.getfield 9, 3)) (kk : W p l e R s m args below meth c H locs cells slots Q (F0 m (pc + 3) ls (.ref (ad q) :: rest))) : W p l e R s m args below meth c H locs cells slots Q (F0 m pc ls (.ref (ad r) :: rest)) :=
  g_get (ci := 4) (T := TX4) (k := 0) C hP (by omega) (wE_5 _ _ _ _ hr) ly_X4 rfl (by decide) tf_X4_9 rfl (by subst hq; exact congrArg some (qv_t hL)) hdg kk
theorem f_X4_15 (C : Cx E p s m args c cc RX4 nL) (hP : Hp E K L ad I H) {q : Nat} (hr : K r = 5) (hL : L r 1 = true) (hq : r + 2 = q) (hdg : decode cc pc = .ok (.getfield 15, 3)) (kk : W p l e R s m args below meth c H locs cells slots Q (F0 m (pc + 3) ls (.ref (ad q) :: rest))) : W p l e R s m args below meth c H locs cells slots Q (F0 m pc ls (.ref (ad r) :: rest)) :=
  g_get (ci := 4) (T := TX4) (k := 1) C hP (by omega) (wE_5 _ _ _ _ hr) ly_X4 rfl (by decide) tf_X4_15 rfl (by subst hq; exact congrArg some (qv_t hL)) hdg kk
theorem f_X4_18 (C : Cx E p s m args c cc RX4 nL) (hP : Hp E K L ad I H) {q : Nat} (hr : K r = 5) (hL : L r 2 = true) (hq : r + 3 = q) (hdg : decode cc pc = .ok (.getfield 18, 3)) (kk : W p l e R s m args below meth c H locs cells slots Q (F0 m (pc + 3) ls (.ref (ad q) :: rest))) : W p l e R s m args below meth c H locs cells slots Q (F0 m pc ls (.ref (ad r) :: rest)) :=
  g_get (ci := 4) (T := TX4) (k := 2) C hP (by omega) (wE_5 _ _ _ _ hr) ly_X4 rfl (by decide) tf_X4_18 rfl (by subst hq; exact congrArg some (qv_t hL)) hdg kk
theorem f_X1_9 (C : Cx E p s m args c cc RX1 nL) (hP : Hp E K L ad I H) {q : Nat} (hr : K r = 2) (hL : L r 0 = true) (hq : r + 1 = q) (hdg : decode cc pc = .ok (.getfield 9, 3)) (kk : W p l e R s m args below meth c H locs cells slots Q (F0 m (pc + 3) ls (.ref (ad q) :: rest))) : W p l e R s m args below meth c H locs cells slots Q (F0 m pc ls (.ref (ad r) :: rest)) :=
  g_get (ci := 1) (T := TX1) (k := 0) C hP (by omega) (wE_2 _ _ _ _ hr) ly_X1 rfl (by decide) tf_X1_9 rfl (by subst hq; exact congrArg some (qv_t hL)) hdg kk
theorem f_X6_198 (C : Cx E p s m args c cc RX6 nL) (hP : Hp E K L ad I H) {q : Nat} (hr : K r = 2) (hL : L r 0 = true) (hq : r + 1 = q) (hdg : decode cc pc = .ok (.getfield 198, 3)) (kk : W p l e R s m args below meth c H locs cells slots Q (F0 m (pc + 3) ls (.ref (ad q) :: rest))) : W p l e R s m args below meth c H locs cells slots Q (F0 m pc ls (.ref (ad r) :: rest)) :=
  g_get (ci := 1) (T := TX1) (k := 0) C hP (by omega) (wE_2 _ _ _ _ hr) ly_X1 rfl (by decide) tf_X6_198 rfl (by subst hq; exact congrArg some (qv_t hL)) hdg kk
theorem f_X1_38 (C : Cx E p s m args c cc RX1 nL) (hP : Hp E K L ad I H) (hr : K r = 2) (hdg : decode cc pc = .ok (.getfield 38, 3)) (kk : W p l e R s m args below meth c H locs cells slots Q (F0 m (pc + 3) ls (.int (I r 1) :: rest))) : W p l e R s m args below meth c H locs cells slots Q (F0 m pc ls (.ref (ad r) :: rest)) :=
  g_get (ci := 1) (T := TX1) (k := 1) C hP (by omega) (wE_2 _ _ _ _ hr) ly_X1 rfl (by decide) tf_X1_38 rfl rfl hdg kk
theorem p_X1_38 (C : Cx E p s m args c cc RX1 nL) (hP : Hp E K L ad I H) (hS : va_S (AG E) s.heap H locs) {v : Int32} (hr : K r = 2) (hv : v = 0 ∨ v = 1) (hdg : decode cc pc = .ok (.putfield 38, 3)) (kk : ∀ (H1 : Heap) (locs1 : List Loc), Hp E K L ad (up2 I r 1 v) H1 → va_S (AG E) s.heap H1 locs1 → W p l e R s m args below meth c H1 locs1 cells slots Q (F0 m (pc + 3) ls rest)) : W p l e R s m args below meth c H locs cells slots Q (F0 m pc ls (.int v :: .ref (ad r) :: rest)) :=
  g_put (ci := 1) (T := TX1) (k := 1) (ty := .boolean) (L' := L) (I' := up2 I r 1 v) C hP hS (by omega) (wE_2 _ _ _ _ hr) ly_X1 tyX1 tyX1_ok nmX1 rfl (by decide) tf_X1_38 rfl rfl (by decide +kernel) (by rcases hv with rfl | rfl <;> rfl) (by rcases hv with rfl | rfl <;> rfl) (Nat.le_of_ble_eq_true rfl) (by rw [wE_2 _ _ _ _ hr, up2_at]; rfl) (fun a ha => up2_r ha) (fun _ _ => rfl) hdg kk
theorem f_X6_189 (C : Cx E p s m args c cc RX6 nL) (hP : Hp E K L ad I H) (hr : K r = 2) (hdg : decode cc pc = .ok (.getfield 189, 3)) (kk : W p l e R s m args below meth c H locs cells slots Q (F0 m (pc + 3) ls (.int (I r 1) :: rest))) : W p l e R s m args below meth c H locs cells slots Q (F0 m pc ls (.ref (ad r) :: rest)) :=
  g_get (ci := 1) (T := TX1) (k := 1) C hP (by omega) (wE_2 _ _ _ _ hr) ly_X1 rfl (by decide) tf_X6_189 rfl rfl hdg kk
theorem p_X6_189 (C : Cx E p s m args c cc RX6 nL) (hP : Hp E K L ad I H) (hS : va_S (AG E) s.heap H locs) {v : Int32} (hr : K r = 2) (hv : v = 0 ∨ v = 1) (hdg : decode cc pc = .ok (.putfield 189, 3)) (kk : ∀ (H1 : Heap) (locs1 : List Loc), Hp E K L ad (up2 I r 1 v) H1 → va_S (AG E) s.heap H1 locs1 → W p l e R s m args below meth c H1 locs1 cells slots Q (F0 m (pc + 3) ls rest)) : W p l e R s m args below meth c H locs cells slots Q (F0 m pc ls (.int v :: .ref (ad r) :: rest)) :=
  g_put (ci := 1) (T := TX1) (k := 1) (ty := .boolean) (L' := L) (I' := up2 I r 1 v) C hP hS (by omega) (wE_2 _ _ _ _ hr) ly_X1 tyX1 tyX1_ok nmX1 rfl (by decide) tf_X6_189 rfl rfl (by decide +kernel) (by rcases hv with rfl | rfl <;> rfl) (by rcases hv with rfl | rfl <;> rfl) (Nat.le_of_ble_eq_true rfl) (by rw [wE_2 _ _ _ _ hr, up2_at]; rfl) (fun a ha => up2_r ha) (fun _ _ => rfl) hdg kk
theorem f_X1_45 (C : Cx E p s m args c cc RX1 nL) (hP : Hp E K L ad I H) (hr : K r = 2) (hdg : decode cc pc = .ok (.getfield 45, 3)) (kk : W p l e R s m args below meth c H locs cells slots Q (F0 m (pc + 3) ls (.int (I r 2) :: rest))) : W p l e R s m args below meth c H locs cells slots Q (F0 m pc ls (.ref (ad r) :: rest)) :=
  g_get (ci := 1) (T := TX1) (k := 2) C hP (by omega) (wE_2 _ _ _ _ hr) ly_X1 rfl (by decide) tf_X1_45 rfl rfl hdg kk
theorem p_X1_45 (C : Cx E p s m args c cc RX1 nL) (hP : Hp E K L ad I H) (hS : va_S (AG E) s.heap H locs) {v : Int32} (hr : K r = 2) (hv : v = 0 ∨ v = 1) (hdg : decode cc pc = .ok (.putfield 45, 3)) (kk : ∀ (H1 : Heap) (locs1 : List Loc), Hp E K L ad (up2 I r 2 v) H1 → va_S (AG E) s.heap H1 locs1 → W p l e R s m args below meth c H1 locs1 cells slots Q (F0 m (pc + 3) ls rest)) : W p l e R s m args below meth c H locs cells slots Q (F0 m pc ls (.int v :: .ref (ad r) :: rest)) :=
  g_put (ci := 1) (T := TX1) (k := 2) (ty := .boolean) (L' := L) (I' := up2 I r 2 v) C hP hS (by omega) (wE_2 _ _ _ _ hr) ly_X1 tyX1 tyX1_ok nmX1 rfl (by decide) tf_X1_45 rfl rfl (by decide +kernel) (by rcases hv with rfl | rfl <;> rfl) (by rcases hv with rfl | rfl <;> rfl) (Nat.le_of_ble_eq_true rfl) (by rw [wE_2 _ _ _ _ hr, up2_at]; rfl) (fun a ha => up2_r ha) (fun _ _ => rfl) hdg kk
theorem f_X6_195 (C : Cx E p s m args c cc RX6 nL) (hP : Hp E K L ad I H) (hr : K r = 2) (hdg : decode cc pc = .ok (.getfield 195, 3)) (kk : W p l e R s m args below meth c H locs cells slots Q (F0 m (pc + 3) ls (.int (I r 2) :: rest))) : W p l e R s m args below meth c H locs cells slots Q (F0 m pc ls (.ref (ad r) :: rest)) :=
  g_get (ci := 1) (T := TX1) (k := 2) C hP (by omega) (wE_2 _ _ _ _ hr) ly_X1 rfl (by decide) tf_X6_195 rfl rfl hdg kk
theorem p_X6_195 (C : Cx E p s m args c cc RX6 nL) (hP : Hp E K L ad I H) (hS : va_S (AG E) s.heap H locs) {v : Int32} (hr : K r = 2) (hv : v = 0 ∨ v = 1) (hdg : decode cc pc = .ok (.putfield 195, 3)) (kk : ∀ (H1 : Heap) (locs1 : List Loc), Hp E K L ad (up2 I r 2 v) H1 → va_S (AG E) s.heap H1 locs1 → W p l e R s m args below meth c H1 locs1 cells slots Q (F0 m (pc + 3) ls rest)) : W p l e R s m args below meth c H locs cells slots Q (F0 m pc ls (.int v :: .ref (ad r) :: rest)) :=
  g_put (ci := 1) (T := TX1) (k := 2) (ty := .boolean) (L' := L) (I' := up2 I r 2 v) C hP hS (by omega) (wE_2 _ _ _ _ hr) ly_X1 tyX1 tyX1_ok nmX1 rfl (by decide) tf_X6_195 rfl rfl (by decide +kernel) (by rcases hv with rfl | rfl <;> rfl) (by rcases hv with rfl | rfl <;> rfl) (Nat.le_of_ble_eq_true rfl) (by rw [wE_2 _ _ _ _ hr, up2_at]; rfl) (fun a ha => up2_r ha) (fun _ _ => rfl) hdg kk
theorem f_X1_52 (C : Cx E p s m args c cc RX1 nL) (hP : Hp E K L ad I H) (hr : K r = 2) (hdg : decode cc pc = .ok (.getfield 52, 3)) (kk : W p l e R s m args below meth c H locs cells slots Q (F0 m (pc + 3) ls (.int (I r 3) :: rest))) : W p l e R s m args below meth c H locs cells slots Q (F0 m pc ls (.ref (ad r) :: rest)) :=
  g_get (ci := 1) (T := TX1) (k := 3) C hP (by omega) (wE_2 _ _ _ _ hr) ly_X1 rfl (by decide) tf_X1_52 rfl rfl hdg kk
theorem p_X1_52 (C : Cx E p s m args c cc RX1 nL) (hP : Hp E K L ad I H) (hS : va_S (AG E) s.heap H locs) {v : Int32} (hr : K r = 2) (hdg : decode cc pc = .ok (.putfield 52, 3)) (kk : ∀ (H1 : Heap) (locs1 : List Loc), Hp E K L ad (up2 I r 3 v) H1 → va_S (AG E) s.heap H1 locs1 → W p l e R s m args below meth c H1 locs1 cells slots Q (F0 m (pc + 3) ls rest)) : W p l e R s m args below meth c H locs cells slots Q (F0 m pc ls (.int v :: .ref (ad r) :: rest)) :=
  g_put (ci := 1) (T := TX1) (k := 3) (ty := .int) (L' := L) (I' := up2 I r 3 v) C hP hS (by omega) (wE_2 _ _ _ _ hr) ly_X1 tyX1 tyX1_ok nmX1 rfl (by decide) tf_X1_52 rfl rfl (by decide +kernel) rfl rfl (Nat.le_of_ble_eq_true rfl) (by rw [wE_2 _ _ _ _ hr, up2_at]; rfl) (fun a ha => up2_r ha) (fun _ _ => rfl) hdg kk
theorem f_X6_186 (C : Cx E p s m args c cc RX6 nL) (hP : Hp E K L ad I H) (hr : K r = 2) (hdg : decode cc pc = .ok (.getfield 186, 3)) (kk : W p l e R s m args below meth c H locs cells slots Q (F0 m (pc + 3) ls (.int (I r 3) :: rest))) : W p l e R s m args below meth c H locs cells slots Q (F0 m pc ls (.ref (ad r) :: rest)) :=
  g_get (ci := 1) (T := TX1) (k := 3) C hP (by omega) (wE_2 _ _ _ _ hr) ly_X1 rfl (by decide) tf_X6_186 rfl rfl hdg kk
theorem p_X6_186 (C : Cx E p s m args c cc RX6 nL) (hP : Hp E K L ad I H) (hS : va_S (AG E) s.heap H locs) {v : Int32} (hr : K r = 2) (hdg : decode cc pc = .ok (.putfield 186, 3)) (kk : ∀ (H1 : Heap) (locs1 : List Loc), Hp E K L ad (up2 I r 3 v) H1 → va_S (AG E) s.heap H1 locs1 → W p l e R s m args below meth c H1 locs1 cells slots Q (F0 m (pc + 3) ls rest)) : W p l e R s m args below meth c H locs cells slots Q (F0 m pc ls (.int v :: .ref (ad r) :: rest)) :=
  g_put (ci := 1) (T := TX1) (k := 3) (ty := .int) (L' := L) (I' := up2 I r 3 v) C hP hS (by omega) (wE_2 _ _ _ _ hr) ly_X1 tyX1 tyX1_ok nmX1 rfl (by decide) tf_X6_186 rfl rfl (by decide +kernel) rfl rfl (Nat.le_of_ble_eq_true rfl) (by rw [wE_2 _ _ _ _ hr, up2_at]; rfl) (fun a ha => up2_r ha) (fun _ _ => rfl) hdg kk
theorem f_X1_35 (C : Cx E p s m args c cc RX1 nL) (hP : Hp E K L ad I H) (hr : K r = 2) (hdg : decode cc pc = .ok (.getfield 35, 3)) (kk : W p l e R s m args below meth c H locs cells slots Q (F0 m (pc + 3) ls (.int (I r 4) :: rest))) : W p l e R s m args below meth c H locs cells slots Q (F0 m pc ls (.ref (ad r) :: rest)) :=
  g_get (ci := 1) (T := TX1) (k := 4) C hP (by omega) (wE_2 _ _ _ _ hr) ly_X1 rfl (by decide) tf_X1_35 rfl rfl hdg kk
theorem p_X1_35 (C : Cx E p s m args c cc RX1 nL) (hP : Hp E K L ad I H) (hS : va_S (AG E) s.heap H locs) {v : Int32} (hr : K r = 2) (hdg : decode cc pc = .ok (.putfield 35, 3)) (kk : ∀ (H1 : Heap) (locs1 : List Loc), Hp E K L ad (up2 I r 4 v) H1 → va_S (AG E) s.heap H1 locs1 → W p l e R s m args below meth c H1 locs1 cells slots Q (F0 m (pc + 3) ls rest)) : W p l e R s m args below meth c H locs cells slots Q (F0 m pc ls (.int v :: .ref (ad r) :: rest)) :=
  g_put (ci := 1) (T := TX1) (k := 4) (ty := .int) (L' := L) (I' := up2 I r 4 v) C hP hS (by omega) (wE_2 _ _ _ _ hr) ly_X1 tyX1 tyX1_ok nmX1 rfl (by decide) tf_X1_35 rfl rfl (by decide +kernel) rfl rfl (Nat.le_of_ble_eq_true rfl) (by rw [wE_2 _ _ _ _ hr, up2_at]; rfl) (fun a ha => up2_r ha) (fun _ _ => rfl) hdg kk
theorem f_X6_201 (C : Cx E p s m args c cc RX6 nL) (hP : Hp E K L ad I H) (hr : K r = 2) (hdg : decode cc pc = .ok (.getfield 201, 3)) (kk : W p l e R s m args below meth c H locs cells slots Q (F0 m (pc + 3) ls (.int (I r 4) :: rest))) : W p l e R s m args below meth c H locs cells slots Q (F0 m pc ls (.ref (ad r) :: rest)) :=
  g_get (ci := 1) (T := TX1) (k := 4) C hP (by omega) (wE_2 _ _ _ _ hr) ly_X1 rfl (by decide) tf_X6_201 rfl rfl hdg kk
theorem p_X6_201 (C : Cx E p s m args c cc RX6 nL) (hP : Hp E K L ad I H) (hS : va_S (AG E) s.heap H locs) {v : Int32} (hr : K r = 2) (hdg : decode cc pc = .ok (.putfield 201, 3)) (kk : ∀ (H1 : Heap) (locs1 : List Loc), Hp E K L ad (up2 I r 4 v) H1 → va_S (AG E) s.heap H1 locs1 → W p l e R s m args below meth c H1 locs1 cells slots Q (F0 m (pc + 3) ls rest)) : W p l e R s m args below meth c H locs cells slots Q (F0 m pc ls (.int v :: .ref (ad r) :: rest)) :=
  g_put (ci := 1) (T := TX1) (k := 4) (ty := .int) (L' := L) (I' := up2 I r 4 v) C hP hS (by omega) (wE_2 _ _ _ _ hr) ly_X1 tyX1 tyX1_ok nmX1 rfl (by decide) tf_X6_201 rfl rfl (by decide +kernel) rfl rfl (Nat.le_of_ble_eq_true rfl) (by rw [wE_2 _ _ _ _ hr, up2_at]; rfl) (fun a ha => up2_r ha) (fun _ _ => rfl) hdg kk
theorem f_X1_17 (C : Cx E p s m args c cc RX1 nL) (hP : Hp E K L ad I H) {q : Nat} (hr : K r = 2) (hL : L r 5 = true) (hq : r + 2 = q) (hdg : decode cc pc = .ok (.getfield 17, 3)) (kk : W p l e R s m args below meth c H locs cells slots Q (F0 m (pc + 3) ls (.ref (ad q) :: rest))) : W p l e R s m args below meth c H locs cells slots Q (F0 m pc ls (.ref (ad r) :: rest)) :=
  g_get (ci := 1) (T := TX1) (k := 5) C hP (by omega) (wE_2 _ _ _ _ hr) ly_X1 rfl (by decide) tf_X1_17 rfl (by subst hq; exact congrArg some (qv_t hL)) hdg kk
theorem f_X6_203 (C : Cx E p s m args c cc RX6 nL) (hP : Hp E K L ad I H) {q : Nat} (hr : K r = 2) (hL : L r 5 = true) (hq : r + 2 = q) (hdg : decode cc pc = .ok (.getfield 203, 3)) (kk : W p l e R s m args below meth c H locs cells slots Q (F0 m (pc + 3) ls (.ref (ad q) :: rest))) : W p l e R s m args below meth c H locs cells slots Q (F0 m pc ls (.ref (ad r) :: rest)) :=
  g_get (ci := 1) (T := TX1) (k := 5) C hP (by omega) (wE_2 _ _ _ _ hr) ly_X1 rfl (by decide) tf_X6_203 rfl (by subst hq; exact congrArg some (qv_t hL)) hdg kk
theorem f_X6_12 (C : Cx E p s m args c cc RX6 nL) (hP : Hp E K L ad I H) {q : Nat} (hr : K r = 7) (hL : L r 0 = true) (hq : r + 100 = q) (hdg : decode cc pc = .ok (.getfield 12, 3)) (kk : W p l e R s m args below meth c H locs cells slots Q (F0 m (pc + 3) ls (.ref (ad q) :: rest))) : W p l e R s m args below meth c H locs cells slots Q (F0 m pc ls (.ref (ad r) :: rest)) :=
  g_get (ci := 6) (T := TX6) (k := 0) C hP (by omega) (wE_7 _ _ _ _ hr) ly_X6 rfl (by decide) tf_X6_12 rfl (by subst hq; exact congrArg some (qv_t hL)) hdg kk
theorem f_X6_19 (C : Cx E p s m args c cc RX6 nL) (hP : Hp E K L ad I H) {q : Nat} (hr : K r = 7) (hL : L r 1 = true) (hq : r + 10 = q) (hdg : decode cc pc = .ok (.getfield 19, 3)) (kk : W p l e R s m args below meth c H locs cells slots Q (F0 m (pc + 3) ls (.ref (ad q) :: rest))) : W p l e R s m args below meth c H locs cells slots Q (F0 m pc ls (.ref (ad r) :: rest)) :=
  g_get (ci := 6) (T := TX6) (k := 1) C hP (by omega) (wE_7 _ _ _ _ hr) ly_X6 rfl (by decide) tf_X6_19 rfl (by subst hq; exact congrArg some (qv_t hL)) hdg kk
theorem f_X6_26 (C : Cx E p s m args c cc RX6 nL) (hP : Hp E K L ad I H) {q : Nat} (hr : K r = 7) (hL : L r 2 = true) (hq : r + 30 = q) (hdg : decode cc pc = .ok (.getfield 26, 3)) (kk : W p l e R s m args below meth c H locs cells slots Q (F0 m (pc + 3) ls (.ref (ad q) :: rest))) : W p l e R s m args below meth c H locs cells slots Q (F0 m pc ls (.ref (ad r) :: rest)) :=
  g_get (ci := 6) (T := TX6) (k := 2) C hP (by omega) (wE_7 _ _ _ _ hr) ly_X6 rfl (by decide) tf_X6_26 rfl (by subst hq; exact congrArg some (qv_t hL)) hdg kk
theorem f_X6_33 (C : Cx E p s m args c cc RX6 nL) (hP : Hp E K L ad I H) {q : Nat} (hr : K r = 7) (hL : L r 3 = true) (hq : r + 40 = q) (hdg : decode cc pc = .ok (.getfield 33, 3)) (kk : W p l e R s m args below meth c H locs cells slots Q (F0 m (pc + 3) ls (.ref (ad q) :: rest))) : W p l e R s m args below meth c H locs cells slots Q (F0 m pc ls (.ref (ad r) :: rest)) :=
  g_get (ci := 6) (T := TX6) (k := 3) C hP (by omega) (wE_7 _ _ _ _ hr) ly_X6 rfl (by decide) tf_X6_33 rfl (by subst hq; exact congrArg some (qv_t hL)) hdg kk
theorem f_X6_37 (C : Cx E p s m args c cc RX6 nL) (hP : Hp E K L ad I H) {q : Nat} (hr : K r = 7) (hL : L r 4 = true) (hq : r + 50 = q) (hdg : decode cc pc = .ok (.getfield 37, 3)) (kk : W p l e R s m args below meth c H locs cells slots Q (F0 m (pc + 3) ls (.ref (ad q) :: rest))) : W p l e R s m args below meth c H locs cells slots Q (F0 m pc ls (.ref (ad r) :: rest)) :=
  g_get (ci := 6) (T := TX6) (k := 4) C hP (by omega) (wE_7 _ _ _ _ hr) ly_X6 rfl (by decide) tf_X6_37 rfl (by subst hq; exact congrArg some (qv_t hL)) hdg kk
theorem f_X6_180 (C : Cx E p s m args c cc RX6 nL) (hP : Hp E K L ad I H) (hr : K r = 7) (hdg : decode cc pc = .ok (.getfield 180, 3)) (kk : W p l e R s m args below meth c H locs cells slots Q (F0 m (pc + 3) ls (.int (I r 5) :: rest))) : W p l e R s m args below meth c H locs cells slots Q (F0 m pc ls (.ref (ad r) :: rest)) :=
  g_get (ci := 6) (T := TX6) (k := 5) C hP (by omega) (wE_7 _ _ _ _ hr) ly_X6 rfl (by decide) tf_X6_180 rfl rfl hdg kk
theorem p_X6_180 (C : Cx E p s m args c cc RX6 nL) (hP : Hp E K L ad I H) (hS : va_S (AG E) s.heap H locs) {v : Int32} (hr : K r = 7) (hdg : decode cc pc = .ok (.putfield 180, 3)) (kk : ∀ (H1 : Heap) (locs1 : List Loc), Hp E K L ad (up2 I r 5 v) H1 → va_S (AG E) s.heap H1 locs1 → W p l e R s m args below meth c H1 locs1 cells slots Q (F0 m (pc + 3) ls rest)) : W p l e R s m args below meth c H locs cells slots Q (F0 m pc ls (.int v :: .ref (ad r) :: rest)) :=
  g_put (ci := 6) (T := TX6) (k := 5) (ty := .int) (L' := L) (I' := up2 I r 5 v) C hP hS (by omega) (wE_7 _ _ _ _ hr) ly_X6 tyX6 tyX6_ok nmX6 rfl (by decide) tf_X6_180 rfl rfl (by decide +kernel) rfl rfl (Nat.le_of_ble_eq_true rfl) (by rw [wE_7 _ _ _ _ hr, up2_at]; rfl) (fun a ha => up2_r ha) (fun _ _ => rfl) hdg kk
theorem f_X6_192 (C : Cx E p s m args c cc RX6 nL) (hP : Hp E K L ad I H) (hr : K r = 7) (hdg : decode cc pc = .ok (.getfield 192, 3)) (kk : W p l e R s m args below meth c H locs cells slots Q (F0 m (pc + 3) ls (.int (I r 6) :: rest))) : W p l e R s m args below meth c H locs cells slots Q (F0 m pc ls (.ref (ad r) :: rest)) :=
  g_get (ci := 6) (T := TX6) (k := 6) C hP (by omega) (wE_7 _ _ _ _ hr) ly_X6 rfl (by decide) tf_X6_192 rfl rfl hdg kk
theorem p_X6_192 (C : Cx E p s m args c cc RX6 nL) (hP : Hp E K L ad I H) (hS : va_S (AG E) s.heap H locs) {v : Int32} (hr : K r = 7) (hdg : decode cc pc = .ok (.putfield 192, 3)) (kk : ∀ (H1 : Heap) (locs1 : List Loc), Hp E K L ad (up2 I r 6 v) H1 → va_S (AG E) s.heap H1 locs1 → W p l e R s m args below meth c H1 locs1 cells slots Q (F0 m (pc + 3) ls rest)) : W p l e R s m args below meth c H locs cells slots Q (F0 m pc ls (.int v :: .ref (ad r) :: rest)) :=
  g_put (ci := 6) (T := TX6) (k := 6) (ty := .int) (L' := L) (I' := up2 I r 6 v) C hP hS (by omega) (wE_7 _ _ _ _ hr) ly_X6 tyX6 tyX6_ok nmX6 rfl (by decide) tf_X6_192 rfl rfl (by decide +kernel) rfl rfl (Nat.le_of_ble_eq_true rfl) (by rw [wE_7 _ _ _ _ hr, up2_at]; rfl) (fun a ha => up2_r ha) (fun _ _ => rfl) hdg kk
theorem f_X6_183 (C : Cx E p s m args c cc RX6 nL) (hP : Hp E K L ad I H) (hr : K r = 7) (hdg : decode cc pc = .ok (.getfield 183, 3)) (kk : W p l e R s m args below meth c H locs cells slots Q (F0 m (pc + 3) ls (.int (I r 7) :: rest))) : W p l e R s m args below meth c H locs cells slots Q (F0 m pc ls (.ref (ad r) :: rest)) :=
  g_get (ci := 6) (T := TX6) (k := 7) C hP (by omega) (wE_7 _ _ _ _ hr) ly_X6 rfl (by decide) tf_X6_183 rfl rfl hdg kk
theorem p_X6_183 (C : Cx E p s m args c cc RX6 nL) (hP : Hp E K L ad I H) (hS : va_S (AG E) s.heap H locs) {v : Int32} (hr : K r = 7) (hdg : decode cc pc = .ok (.putfield 183, 3)) (kk : ∀ (H1 : Heap) (locs1 : List Loc), Hp E K L ad (up2 I r 7 v) H1 → va_S (AG E) s.heap H1 locs1 → W p l e R s m args below meth c H1 locs1 cells slots Q (F0 m (pc + 3) ls rest)) : W p l e R s m args below meth c H locs cells slots Q (F0 m pc ls (.int v :: .ref (ad r) :: rest)) :=
  g_put (ci := 6) (T := TX6) (k := 7) (ty := .int) (L' := L) (I' := up2 I r 7 v) C hP hS (by omega) (wE_7 _ _ _ _ hr) ly_X6 tyX6 tyX6_ok nmX6 rfl (by decide) tf_X6_183 rfl rfl (by decide +kernel) rfl rfl (Nat.le_of_ble_eq_true rfl) (by rw [wE_7 _ _ _ _ hr, up2_at]; rfl) (fun a ha => up2_r ha) (fun _ _ => rfl) hdg kk
theorem f_X7_71 (C : Cx E p s m args c cc RX7 nL) (hP : Hp E K L ad I H) (hr : K r = 8) (hdg : decode cc pc = .ok (.getfield 71, 3)) (kk : W p l e R s m args below meth c H locs cells slots Q (F0 m (pc + 3) ls (.int (I r 0) :: rest))) : W p l e R s m args below meth c H locs cells slots Q (F0 m pc ls (.ref (ad r) :: rest)) :=
  g_get (ci := 7) (T := TX7) (k := 0) C hP (by omega) (wE_8 _ _ _ _ hr) ly_X7 rfl (by decide) tf_X7_71 rfl rfl hdg kk
theorem p_X7_71 (C : Cx E p s m args c cc RX7 nL) (hP : Hp E K L ad I H) (hS : va_S (AG E) s.heap H locs) {v : Int32} (hr : K r = 8) (hdg : decode cc pc = .ok (.putfield 71, 3)) (kk : ∀ (H1 : Heap) (locs1 : List Loc), Hp E K L ad (up2 I r 0 v) H1 → va_S (AG E) s.heap H1 locs1 → W p l e R s m args below meth c H1 locs1 cells slots Q (F0 m (pc + 3) ls rest)) : W p l e R s m args below meth c H locs cells slots Q (F0 m pc ls (.int v :: .ref (ad r) :: rest)) :=
  g_put (ci := 7) (T := TX7) (k := 0) (ty := .int) (L' := L) (I' := up2 I r 0 v) C hP hS (by omega) (wE_8 _ _ _ _ hr) ly_X7 tyX7 tyX7_ok nmX7 rfl (by decide) tf_X7_71 rfl rfl (by decide +kernel) rfl rfl (Nat.le_of_ble_eq_true rfl) (by rw [wE_8 _ _ _ _ hr, up2_at]; rfl) (fun a ha => up2_r ha) (fun _ _ => rfl) hdg kk
theorem f_X7_7 (C : Cx E p s m args c cc RX7 nL) (hP : Hp E K L ad I H) {q : Nat} (hr : K r = 8) (hL : L r 1 = true) (hq : r + 1 = q) (hdg : decode cc pc = .ok (.getfield 7, 3)) (kk : W p l e R s m args below meth c H locs cells slots Q (F0 m (pc + 3) ls (.ref (ad q) :: rest))) : W p l e R s m args below meth c H locs cells slots Q (F0 m pc ls (.ref (ad r) :: rest)) :=
  g_get (ci := 7) (T := TX7) (k := 1) C hP (by omega) (wE_8 _ _ _ _ hr) ly_X7 rfl (by decide) tf_X7_7 rfl (by subst hq; exact congrArg some (qv_t hL)) hdg kk
theorem f_X7_13 (C : Cx E p s m args c cc RX7 nL) (hP : Hp E K L ad I H) {q : Nat} (hr : K r = 8) (hL : L r 2 = true) (hq : r + 2 = q) (hdg : decode cc pc = .ok (.getfield 13, 3)) (kk : W p l e R s m args below meth c H locs cells slots Q (F0 m (pc + 3) ls (.ref (ad q) :: rest))) : W p l e R s m args below meth c H locs cells slots Q (F0 m pc ls (.ref (ad r) :: rest)) :=
  g_get (ci := 7) (T := TX7) (k := 2) C hP (by omega) (wE_8 _ _ _ _ hr) ly_X7 rfl (by decide) tf_X7_13 rfl (by subst hq; exact congrArg some (qv_t hL)) hdg kk
theorem f_X7_16 (C : Cx E p s m args c cc RX7 nL) (hP : Hp E K L ad I H) {q : Nat} (hr : K r = 8) (hL : L r 3 = true) (hq : r + 3 = q) (hdg : decode cc pc = .ok (.getfield 16, 3)) (kk : W p l e R s m args below meth c H locs cells slots Q (F0 m (pc + 3) ls (.ref (ad q) :: rest))) : W p l e R s m args below meth c H locs cells slots Q (F0 m pc ls (.ref (ad r) :: rest)) :=
  g_get (ci := 7) (T := TX7) (k := 3) C hP (by omega) (wE_8 _ _ _ _ hr) ly_X7 rfl (by decide) tf_X7_16 rfl (by subst hq; exact congrArg some (qv_t hL)) hdg kk
theorem f_X7_19 (C : Cx E p s m args c cc RX7 nL) (hP : Hp E K L ad I H) {q : Nat} (hr : K r = 8) (hL : L r 4 = true) (hq : r + 4 = q) (hdg : decode cc pc = .ok (.getfield 19, 3)) (kk : W p l e R s m args below meth c H locs cells slots Q (F0 m (pc + 3) ls (.ref (ad q) :: rest))) : W p l e R s m args below meth c H locs cells slots Q (F0 m pc ls (.ref (ad r) :: rest)) :=
  g_get (ci := 7) (T := TX7) (k := 4) C hP (by omega) (wE_8 _ _ _ _ hr) ly_X7 rfl (by decide) tf_X7_19 rfl (by subst hq; exact congrArg some (qv_t hL)) hdg kk
theorem f_X7_22 (C : Cx E p s m args c cc RX7 nL) (hP : Hp E K L ad I H) {q : Nat} (hr : K r = 8) (hL : L r 5 = true) (hq : r + 5 = q) (hdg : decode cc pc = .ok (.getfield 22, 3)) (kk : W p l e R s m args below meth c H locs cells slots Q (F0 m (pc + 3) ls (.ref (ad q) :: rest))) : W p l e R s m args below meth c H locs cells slots Q (F0 m pc ls (.ref (ad r) :: rest)) :=
  g_get (ci := 7) (T := TX7) (k := 5) C hP (by omega) (wE_8 _ _ _ _ hr) ly_X7 rfl (by decide) tf_X7_22 rfl (by subst hq; exact congrArg some (qv_t hL)) hdg kk
theorem f_X7_25 (C : Cx E p s m args c cc RX7 nL) (hP : Hp E K L ad I H) {q : Nat} (hr : K r = 8) (hL : L r 6 = true) (hq : r + 6 = q) (hdg : decode cc pc = .ok (.getfield 25, 3)) (kk : W p l e R s m args below meth c H locs cells slots Q (F0 m (pc + 3) ls (.ref (ad q) :: rest))) : W p l e R s m args below meth c H locs cells slots Q (F0 m pc ls (.ref (ad r) :: rest)) :=
  g_get (ci := 7) (T := TX7) (k := 6) C hP (by omega) (wE_8 _ _ _ _ hr) ly_X7 rfl (by decide) tf_X7_25 rfl (by subst hq; exact congrArg some (qv_t hL)) hdg kk
theorem f_X7_28 (C : Cx E p s m args c cc RX7 nL) (hP : Hp E K L ad I H) {q : Nat} (hr : K r = 8) (hL : L r 7 = true) (hq : r + 7 = q) (hdg : decode cc pc = .ok (.getfield 28, 3)) (kk : W p l e R s m args below meth c H locs cells slots Q (F0 m (pc + 3) ls (.ref (ad q) :: rest))) : W p l e R s m args below meth c H locs cells slots Q (F0 m pc ls (.ref (ad r) :: rest)) :=
  g_get (ci := 7) (T := TX7) (k := 7) C hP (by omega) (wE_8 _ _ _ _ hr) ly_X7 rfl (by decide) tf_X7_28 rfl (by subst hq; exact congrArg some (qv_t hL)) hdg kk
theorem f_X7_31 (C : Cx E p s m args c cc RX7 nL) (hP : Hp E K L ad I H) {q : Nat} (hr : K r = 8) (hL : L r 8 = true) (hq : r + 8 = q) (hdg : decode cc pc = .ok (.getfield 31, 3)) (kk : W p l e R s m args below meth c H locs cells slots Q (F0 m (pc + 3) ls (.ref (ad q) :: rest))) : W p l e R s m args below meth c H locs cells slots Q (F0 m pc ls (.ref (ad r) :: rest)) :=
  g_get (ci := 7) (T := TX7) (k := 8) C hP (by omega) (wE_8 _ _ _ _ hr) ly_X7 rfl (by decide) tf_X7_31 rfl (by subst hq; exact congrArg some (qv_t hL)) hdg kk
theorem f_X7_34 (C : Cx E p s m args c cc RX7 nL) (hP : Hp E K L ad I H) {q : Nat} (hr : K r = 8) (hL : L r 9 = true) (hq : r + 9 = q) (hdg : decode cc pc = .ok (.getfield 34, 3)) (kk : W p l e R s m args below meth c H locs cells slots Q (F0 m (pc + 3) ls (.ref (ad q) :: rest))) : W p l e R s m args below meth c H locs cells slots Q (F0 m pc ls (.ref (ad r) :: rest)) :=
  g_get (ci := 7) (T := TX7) (k := 9) C hP (by omega) (wE_8 _ _ _ _ hr) ly_X7 rfl (by decide) tf_X7_34 rfl (by subst hq; exact congrArg some (qv_t hL)) hdg kk
theorem f_X7_37 (C : Cx E p s m args c cc RX7 nL) (hP : Hp E K L ad I H) {q : Nat} (hr : K r = 8) (hL : L r 10 = true) (hq : r + 10 = q) (hdg : decode cc pc = .ok (.getfield 37, 3)) (kk : W p l e R s m args below meth c H locs cells slots Q (F0 m (pc + 3) ls (.ref (ad q) :: rest))) : W p l e R s m args below meth c H locs cells slots Q (F0 m pc ls (.ref (ad r) :: rest)) :=
  g_get (ci := 7) (T := TX7) (k := 10) C hP (by omega) (wE_8 _ _ _ _ hr) ly_X7 rfl (by decide) tf_X7_37 rfl (by subst hq; exact congrArg some (qv_t hL)) hdg kk
theorem f_X7_40 (C : Cx E p s m args c cc RX7 nL) (hP : Hp E K L ad I H) {q : Nat} (hr : K r = 8) (hL : L r 11 = true) (hq : r + 11 = q) (hdg : decode cc pc = .ok (.getfield 40, 3)) (kk : W p l e R s m args below meth c H locs cells slots Q (F0 m (pc + 3) ls (.ref (ad q) :: rest))) : W p l e R s m args below meth c H locs cells slots Q (F0 m pc ls (.ref (ad r) :: rest)) :=
  g_get (ci := 7) (T := TX7) (k := 11) C hP (by omega) (wE_8 _ _ _ _ hr) ly_X7 rfl (by decide) tf_X7_40 rfl (by subst hq; exact congrArg some (qv_t hL)) hdg kk
theorem f_X7_43 (C : Cx E p s m args c cc RX7 nL) (hP : Hp E K L ad I H) {q : Nat} (hr : K r = 8) (hL : L r 12 = true) (hq : r + 12 = q) (hdg : decode cc pc = .ok (.getfield 43, 3)) (kk : W p l e R s m args below meth c H locs cells slots Q (F0 m (pc + 3) ls (.ref (ad q) :: rest))) : W p l e R s m args below meth c H locs cells slots Q (F0 m pc ls (.ref (ad r) :: rest)) :=
  g_get (ci := 7) (T := TX7) (k := 12) C hP (by omega) (wE_8 _ _ _ _ hr) ly_X7 rfl (by decide) tf_X7_43 rfl (by subst hq; exact congrArg some (qv_t hL)) hdg kk
theorem f_X7_46 (C : Cx E p s m args c cc RX7 nL) (hP : Hp E K L ad I H) {q : Nat} (hr : K r = 8) (hL : L r 13 = true) (hq : r + 13 = q) (hdg : decode cc pc = .ok (.getfield 46, 3)) (kk : W p l e R s m args below meth c H locs cells slots Q (F0 m (pc + 3) ls (.ref (ad q) :: rest))) : W p l e R s m args below meth c H locs cells slots Q (F0 m pc ls (.ref (ad r) :: rest)) :=
  g_get (ci := 7) (T := TX7) (k := 13) C hP (by omega) (wE_8 _ _ _ _ hr) ly_X7 rfl (by decide) tf_X7_46 rfl (by subst hq; exact congrArg some (qv_t hL)) hdg kk
theorem f_X7_49 (C : Cx E p s m args c cc RX7 nL) (hP : Hp E K L ad I H) {q : Nat} (hr : K r = 8) (hL : L r 14 = true) (hq : r + 14 = q) (hdg : decode cc pc = .ok (.getfield 49, 3)) (kk : W p l e R s m args below meth c H locs cells slots Q (F0 m (pc + 3) ls (.ref (ad q) :: rest))) : W p l e R s m args below meth c H locs cells slots Q (F0 m pc ls (.ref (ad r) :: rest)) :=
  g_get (ci := 7) (T := TX7) (k := 14) C hP (by omega) (wE_8 _ _ _ _ hr) ly_X7 rfl (by decide) tf_X7_49 rfl (by subst hq; exact congrArg some (qv_t hL)) hdg kk
theorem f_X7_52 (C : Cx E p s m args c cc RX7 nL) (hP : Hp E K L ad I H) {q : Nat} (hr : K r = 8) (hL : L r 15 = true) (hq : r + 15 = q) (hdg : decode cc pc = .ok (.getfield 52, 3)) (kk : W p l e R s m args below meth c H locs cells slots Q (F0 m (pc + 3) ls (.ref (ad q) :: rest))) : W p l e R s m args below meth c H locs cells slots Q (F0 m pc ls (.ref (ad r) :: rest)) :=
  g_get (ci := 7) (T := TX7) (k := 15) C hP (by omega) (wE_8 _ _ _ _ hr) ly_X7 rfl (by decide) tf_X7_52 rfl (by subst hq; exact congrArg some (qv_t hL)) hdg kk
theorem f_X7_55 (C : Cx E p s m args c cc RX7 nL) (hP : Hp E K L ad I H) {q : Nat} (hr : K r = 8) (hL : L r 16 = true) (hq : r + 16 = q) (hdg : decode cc pc = .ok (.getfield 55, 3)) (kk : W p l e R s m args below meth c H locs cells slots Q (F0 m (pc + 3) ls (.ref (ad q) :: rest))) : W p l e R s m args below meth c H locs cells slots Q (F0 m pc ls (.ref (ad r) :: rest)) :=
  g_get (ci := 7) (T := TX7) (k := 16) C hP (by omega) (wE_8 _ _ _ _ hr) ly_X7 rfl (by decide) tf_X7_55 rfl (by subst hq; exact congrArg some (qv_t hL)) hdg kk
theorem f_X7_58 (C : Cx E p s m args c cc RX7 nL) (hP : Hp E K L ad I H) {q : Nat} (hr : K r = 8) (hL : L r 17 = true) (hq : r + 17 = q) (hdg : decode cc pc = .ok (.getfield 58, 3)) (kk : W p l e R s m args below meth c H locs cells slots Q (F0 m (pc + 3) ls (.ref (ad q) :: rest))) : W p l e R s m args below meth c H locs cells slots Q (F0 m pc ls (.ref (ad r) :: rest)) :=
  g_get (ci := 7) (T := TX7) (k := 17) C hP (by omega) (wE_8 _ _ _ _ hr) ly_X7 rfl (by decide) tf_X7_58 rfl (by subst hq; exact congrArg some (qv_t hL)) hdg kk
theorem f_X7_148 (C : Cx E p s m args c cc RX7 nL) (hP : Hp E K L ad I H) (hr : K r = 8) (hdg : decode cc pc = .ok (.getfield 148, 3)) (kk : W p l e R s m args below meth c H locs cells slots Q (F0 m (pc + 3) ls (.int (I r 18) :: rest))) : W p l e R s m args below meth c H locs cells slots Q (F0 m pc ls (.ref (ad r) :: rest)) :=
  g_get (ci := 7) (T := TX7) (k := 18) C hP (by omega) (wE_8 _ _ _ _ hr) ly_X7 rfl (by decide) tf_X7_148 rfl rfl hdg kk
theorem p_X7_148 (C : Cx E p s m args c cc RX7 nL) (hP : Hp E K L ad I H) (hS : va_S (AG E) s.heap H locs) {v : Int32} (hr : K r = 8) (hv : v = 0 ∨ v = 1) (hdg : decode cc pc = .ok (.putfield 148, 3)) (kk : ∀ (H1 : Heap) (locs1 : List Loc), Hp E K L ad (up2 I r 18 v) H1 → va_S (AG E) s.heap H1 locs1 → W p l e R s m args below meth c H1 locs1 cells slots Q (F0 m (pc + 3) ls rest)) : W p l e R s m args below meth c H locs cells slots Q (F0 m pc ls (.int v :: .ref (ad r) :: rest)) :=
  g_put (ci := 7) (T := TX7) (k := 18) (ty := .boolean) (L' := L) (I' := up2 I r 18 v) C hP hS (by omega) (wE_8 _ _ _ _ hr) ly_X7 tyX7 tyX7_ok nmX7 rfl (by decide) tf_X7_148 rfl rfl (by decide +kernel) (by rcases hv with rfl | rfl <;> rfl) (by rcases hv with rfl | rfl <;> rfl) (Nat.le_of_ble_eq_true rfl) (by rw [wE_8 _ _ _ _ hr, up2_at]; rfl) (fun a ha => up2_r ha) (fun _ _ => rfl) hdg kk
theorem f_X7_152 (C : Cx E p s m args c cc RX7 nL) (hP : Hp E K L ad I H) (hr : K r = 8) (hdg : decode cc pc = .ok (.getfield 152, 3)) (kk : W p l e R s m args below meth c H locs cells slots Q (F0 m (pc + 3) ls (.int (I r 19) :: rest))) : W p l e R s m args below meth c H locs cells slots Q (F0 m pc ls (.ref (ad r) :: rest)) :=
  g_get (ci := 7) (T := TX7) (k := 19) C hP (by omega) (wE_8 _ _ _ _ hr) ly_X7 rfl (by decide) tf_X7_152 rfl rfl hdg kk
theorem p_X7_152 (C : Cx E p s m args c cc RX7 nL) (hP : Hp E K L ad I H) (hS : va_S (AG E) s.heap H locs) {v : Int32} (hr : K r = 8) (hv : v = 0 ∨ v = 1) (hdg : decode cc pc = .ok (.putfield 152, 3)) (kk : ∀ (H1 : Heap) (locs1 : List Loc), Hp E K L ad (up2 I r 19 v) H1 → va_S (AG E) s.heap H1 locs1 → W p l e R s m args below meth c H1 locs1 cells slots Q (F0 m (pc + 3) ls rest)) : W p l e R s m args below meth c H locs cells slots Q (F0 m pc ls (.int v :: .ref (ad r) :: rest)) :=
  g_put (ci := 7) (T := TX7) (k := 19) (ty := .boolean) (L' := L) (I' := up2 I r 19 v) C hP hS (by omega) (wE_8 _ _ _ _ hr) ly_X7 tyX7 tyX7_ok nmX7 rfl (by decide) tf_X7_152 rfl rfl (by decide +kernel) (by rcases hv with rfl | rfl <;> rfl) (by rcases hv with rfl | rfl <;> rfl) (Nat.le_of_ble_eq_true rfl) (by rw [wE_8 _ _ _ _ hr, up2_at]; rfl) (fun a ha => up2_r ha) (fun _ _ => rfl) hdg kk
theorem f_X7_155 (C : Cx E p s m args c cc RX7 nL) (hP : Hp E K L ad I H) (hr : K r = 8) (hdg : decode cc pc = .ok (.getfield 155, 3)) (kk : W p l e R s m args below meth c H locs cells slots Q (F0 m (pc + 3) ls (.int (I r 20) :: rest))) : W p l e R s m args below meth c H locs cells slots Q (F0 m pc ls (.ref (ad r) :: rest)) :=
  g_get (ci := 7) (T := TX7) (k := 20) C hP (by omega) (wE_8 _ _ _ _ hr) ly_X7 rfl (by decide) tf_X7_155 rfl rfl hdg kk
theorem p_X7_155 (C : Cx E p s m args c cc RX7 nL) (hP : Hp E K L ad I H) (hS : va_S (AG E) s.heap H locs) {v : Int32} (hr : K r = 8) (hdg : decode cc pc = .ok (.putfield 155, 3)) (kk : ∀ (H1 : Heap) (locs1 : List Loc), Hp E K L ad (up2 I r 20 v) H1 → va_S (AG E) s.heap H1 locs1 → W p l e R s m args below meth c H1 locs1 cells slots Q (F0 m (pc + 3) ls rest)) : W p l e R s m args below meth c H locs cells slots Q (F0 m pc ls (.int v :: .ref (ad r) :: rest)) :=
  g_put (ci := 7) (T := TX7) (k := 20) (ty := .int) (L' := L) (I' := up2 I r 20 v) C hP hS (by omega) (wE_8 _ _ _ _ hr) ly_X7 tyX7 tyX7_ok nmX7 rfl (by decide) tf_X7_155 rfl rfl (by decide +kernel) rfl rfl (Nat.le_of_ble_eq_true rfl) (by rw [wE_8 _ _ _ _ hr, up2_at]; rfl) (fun a ha => up2_r ha) (fun _ _ => rfl) hdg kk
theorem f_X7_61 (C : Cx E p s m args c cc RX7 nL) (hP : Hp E K L ad I H) {q : Nat} (hr : K r = 8) (hL : L r 21 = true) (hq : r + 21 = q) (hdg : decode cc pc = .ok (.getfield 61, 3)) (kk : W p l e R s m args below meth c H locs cells slots Q (F0 m (pc + 3) ls (.ref (ad q) :: rest))) : W p l e R s m args below meth c H locs cells slots Q (F0 m pc ls (.ref (ad r) :: rest)) :=
  g_get (ci := 7) (T := TX7) (k := 21) C hP (by omega) (wE_8 _ _ _ _ hr) ly_X7 rfl (by decide) tf_X7_61 rfl (by subst hq; exact congrArg some (qv_t hL)) hdg kk
theorem f_X7_168 (C : Cx E p s m args c cc RX7 nL) (hP : Hp E K L ad I H) (hr : K r = 8) (hdg : decode cc pc = .ok (.getfield 168, 3)) (kk : W p l e R s m args below meth c H locs cells slots Q (F0 m (pc + 3) ls (.int (I r 22) :: rest))) : W p l e R s m args below meth c H locs cells slots Q (F0 m pc ls (.ref (ad r) :: rest)) :=
  g_get (ci := 7) (T := TX7) (k := 22) C hP (by omega) (wE_8 _ _ _ _ hr) ly_X7 rfl (by decide) tf_X7_168 rfl rfl hdg kk
theorem p_X7_168 (C : Cx E p s m args c cc RX7 nL) (hP : Hp E K L ad I H) (hS : va_S (AG E) s.heap H locs) {v : Int32} (hr : K r = 8) (hdg : decode cc pc = .ok (.putfield 168, 3)) (kk : ∀ (H1 : Heap) (locs1 : List Loc), Hp E K L ad (up2 I r 22 v) H1 → va_S (AG E) s.heap H1 locs1 → W p l e R s m args below meth c H1 locs1 cells slots Q (F0 m (pc + 3) ls rest)) : W p l e R s m args below meth c H locs cells slots Q (F0 m pc ls (.int v :: .ref (ad r) :: rest)) :=
  g_put (ci := 7) (T := TX7) (k := 22) (ty := .int) (L' := L) (I' := up2 I r 22 v) C hP hS (by omega) (wE_8 _ _ _ _ hr) ly_X7 tyX7 tyX7_ok nmX7 rfl (by decide) tf_X7_168 rfl rfl (by decide +kernel) rfl rfl (Nat.le_of_ble_eq_true rfl) (by rw [wE_8 _ _ _ _ hr, up2_at]; rfl) (fun a ha => up2_r ha) (fun _ _ => rfl) hdg kk
theorem f_X7_171 (C : Cx E p s m args c cc RX7 nL) (hP : Hp E K L ad I H) (hr : K r = 8) (hdg : decode cc pc = .ok (.getfield 171, 3)) (kk : W p l e R s m args below meth c H locs cells slots Q (F0 m (pc + 3) ls (.int (I r 23) :: rest))) : W p l e R s m args below meth c H locs cells slots Q (F0 m pc ls (.ref (ad r) :: rest)) :=
  g_get (ci := 7) (T := TX7) (k := 23) C hP (by omega) (wE_8 _ _ _ _ hr) ly_X7 rfl (by decide) tf_X7_171 rfl rfl hdg kk
theorem p_X7_171 (C : Cx E p s m args c cc RX7 nL) (hP : Hp E K L ad I H) (hS : va_S (AG E) s.heap H locs) {v : Int32} (hr : K r = 8) (hdg : decode cc pc = .ok (.putfield 171, 3)) (kk : ∀ (H1 : Heap) (locs1 : List Loc), Hp E K L ad (up2 I r 23 v) H1 → va_S (AG E) s.heap H1 locs1 → W p l e R s m args below meth c H1 locs1 cells slots Q (F0 m (pc + 3) ls rest)) : W p l e R s m args below meth c H locs cells slots Q (F0 m pc ls (.int v :: .ref (ad r) :: rest)) :=
  g_put (ci := 7) (T := TX7) (k := 23) (ty := .int) (L' := L) (I' := up2 I r 23 v) C hP hS (by omega) (wE_8 _ _ _ _ hr) ly_X7 tyX7 tyX7_ok nmX7 rfl (by decide) tf_X7_171 rfl rfl (by decide +kernel) rfl rfl (Nat.le_of_ble_eq_true rfl) (by rw [wE_8 _ _ _ _ hr, up2_at]; rfl) (fun a ha => up2_r ha) (fun _ _ => rfl) hdg kk
theorem f_X7_162 (C : Cx E p s m args c cc RX7 nL) (hP : Hp E K L ad I H) (hr : K r = 8) (hdg : decode cc pc = .ok (.getfield 162, 3)) (kk : W p l e R s m args below meth c H locs cells slots Q (F0 m (pc + 3) ls (.int (I r 24) :: rest))) : W p l e R s m args below meth c H locs cells slots Q (F0 m pc ls (.ref (ad r) :: rest)) :=
  g_get (ci := 7) (T := TX7) (k := 24) C hP (by omega) (wE_8 _ _ _ _ hr) ly_X7 rfl (by decide) tf_X7_162 rfl rfl hdg kk
theorem p_X7_162 (C : Cx E p s m args c cc RX7 nL) (hP : Hp E K L ad I H) (hS : va_S (AG E) s.heap H locs) {v : Int32} (hr : K r = 8) (hdg : decode cc pc = .ok (.putfield 162, 3)) (kk : ∀ (H1 : Heap) (locs1 : List Loc), Hp E K L ad (up2 I r 24 v) H1 → va_S (AG E) s.heap H1 locs1 → W p l e R s m args below meth c H1 locs1 cells slots Q (F0 m (pc + 3) ls rest)) : W p l e R s m args below meth c H locs cells slots Q (F0 m pc ls (.int v :: .ref (ad r) :: rest)) :=
  g_put (ci := 7) (T := TX7) (k := 24) (ty := .int) (L' := L) (I' := up2 I r 24 v) C hP hS (by omega) (wE_8 _ _ _ _ hr) ly_X7 tyX7 tyX7_ok nmX7 rfl (by decide) tf_X7_162 rfl rfl (by decide +kernel) rfl rfl (Nat.le_of_ble_eq_true rfl) (by rw [wE_8 _ _ _ _ hr, up2_at]; rfl) (fun a ha => up2_r ha) (fun _ _ => rfl) hdg kk
theorem f_X7_64 (C : Cx E p s m args c cc RX7 nL) (hP : Hp E K L ad I H) {q : Nat} (hr : K r = 8) (hL : L r 25 = true) (hq : r + 25 = q) (hdg : decode cc pc = .ok (.getfield 64, 3)) (kk : W p l e R s m args below meth c H locs cells slots Q (F0 m (pc + 3) ls (.ref (ad q) :: rest))) : W p l e R s m args below meth c H locs cells slots Q (F0 m pc ls (.ref (ad r) :: rest)) :=
  g_get (ci := 7) (T := TX7) (k := 25) C hP (by omega) (wE_8 _ _ _ _ hr) ly_X7 rfl (by decide) tf_X7_64 rfl (by subst hq; exact congrArg some (qv_t hL)) hdg kk
theorem f_X7_67 (C : Cx E p s m args c cc RX7 nL) (hP : Hp E K L ad I H) {q : Nat} (hr : K r = 8) (hL : L r 26 = true) (hq : r + 26 = q) (hdg : decode cc pc = .ok (.getfield 67, 3)) (kk : W p l e R s m args below meth c H locs cells slots Q (F0 m (pc + 3) ls (.ref (ad q) :: rest))) : W p l e R s m args below meth c H locs cells slots Q (F0 m pc ls (.ref (ad r) :: rest)) :=
  g_get (ci := 7) (T := TX7) (k := 26) C hP (by omega) (wE_8 _ _ _ _ hr) ly_X7 rfl (by decide) tf_X7_67 rfl (by subst hq; exact congrArg some (qv_t hL)) hdg kk
end FL
end
section
/-! a row for each call link -/
theorem dy_X6_table : yX6_table.cls ≠ "java/lang/invoke/MethodHandle" ∧ yX6_table.cls ≠ "java/lang/invoke/VarHandle" ∧ (parseMethodDescriptor yX6_table.desc).map (fun d => d.parameters.length) = some 1 := by decide +kernel
theorem dy_X6_isIn : yX6_isIn.cls ≠ "java/lang/invoke/MethodHandle" ∧ yX6_isIn.cls ≠ "java/lang/invoke/VarHandle" ∧ (parseMethodDescriptor yX6_isIn.desc).map (fun d => d.parameters.length) = some 2 := by decide +kernel
theorem dy_X3_addTable : yX3_addTable.cls ≠ "java/lang/invoke/MethodHandle" ∧ yX3_addTable.cls ≠ "java/lang/invoke/VarHandle" ∧ (parseMethodDescriptor yX3_addTable.desc).map (fun d => d.parameters.length) = some 1 := by decide +kernel
theorem dy_X5_begin : yX5_begin.cls ≠ "java/lang/invoke/MethodHandle" ∧ yX5_begin.cls ≠ "java/lang/invoke/VarHandle" ∧ (parseMethodDescriptor yX5_begin.desc).map (fun d => d.parameters.length) = some 1 := by decide +kernel
theorem dy_X0_become : yX0_become.cls ≠ "java/lang/invoke/MethodHandle" ∧ yX0_become.cls ≠ "java/lang/invoke/VarHandle" ∧ (parseMethodDescriptor yX0_become.desc).map (fun d => d.parameters.length) = some 3 := by decide +kernel
theorem dy_X6_hasTarget : yX6_hasTarget.cls ≠ "java/lang/invoke/MethodHandle" ∧ yX6_hasTarget.cls ≠ "java/lang/invoke/VarHandle" ∧ (parseMethodDescriptor yX6_hasTarget.desc).map (fun d => d.parameters.length) = some 1 := by decide +kernel
theorem dy_X6_entry : yX6_entry.cls ≠ "java/lang/invoke/MethodHandle" ∧ yX6_entry.cls ≠ "java/lang/invoke/VarHandle" ∧ (parseMethodDescriptor yX6_entry.desc).map (fun d => d.parameters.length) = some 5 := by decide +kernel
theorem dy_X3_hasTable : yX3_hasTable.cls ≠ "java/lang/invoke/MethodHandle" ∧ yX3_hasTable.cls ≠ "java/lang/invoke/VarHandle" ∧ (parseMethodDescriptor yX3_hasTable.desc).map (fun d => d.parameters.length) = some 1 := by decide +kernel
theorem dy_X6_isUpTo : yX6_isUpTo.cls ≠ "java/lang/invoke/MethodHandle" ∧ yX6_isUpTo.cls ≠ "java/lang/invoke/VarHandle" ∧ (parseMethodDescriptor yX6_isUpTo.desc).map (fun d => d.parameters.length) = some 2 := by decide +kernel
theorem dy_X6_isAct : yX6_isAct.cls ≠ "java/lang/invoke/MethodHandle" ∧ yX6_isAct.cls ≠ "java/lang/invoke/VarHandle" ∧ (parseMethodDescriptor yX6_isAct.desc).map (fun d => d.parameters.length) = some 3 := by decide +kernel
theorem dy_X5_slotOf : yX5_slotOf.cls ≠ "java/lang/invoke/MethodHandle" ∧ yX5_slotOf.cls ≠ "java/lang/invoke/VarHandle" ∧ (parseMethodDescriptor yX5_slotOf.desc).map (fun d => d.parameters.length) = some 1 := by decide +kernel
theorem dy_X3_isTakenElsewhere : yX3_isTakenElsewhere.cls ≠ "java/lang/invoke/MethodHandle" ∧ yX3_isTakenElsewhere.cls ≠ "java/lang/invoke/VarHandle" ∧ (parseMethodDescriptor yX3_isTakenElsewhere.desc).map (fun d => d.parameters.length) = some 3 := by decide +kernel
theorem dy_X6_hasRegister : yX6_hasRegister.cls ≠ "java/lang/invoke/MethodHandle" ∧ yX6_hasRegister.cls ≠ "java/lang/invoke/VarHandle" ∧ (parseMethodDescriptor yX6_hasRegister.desc).map (fun d => d.parameters.length) = some 1 := by decide +kernel
theorem dy_X5_ownRegisters : yX5_ownRegisters.cls ≠ "java/lang/invoke/MethodHandle" ∧ yX5_ownRegisters.cls ≠ "java/lang/invoke/VarHandle" ∧ (parseMethodDescriptor yX5_ownRegisters.desc).map (fun d => d.parameters.length) = some 0 := by decide +kernel
theorem dy_X5_isUsed : yX5_isUsed.cls ≠ "java/lang/invoke/MethodHandle" ∧ yX5_isUsed.cls ≠ "java/lang/invoke/VarHandle" ∧ (parseMethodDescriptor yX5_isUsed.desc).map (fun d => d.parameters.length) = some 1 := by decide +kernel
theorem dy_X0_ownRegisters : yX0_ownRegisters.cls ≠ "java/lang/invoke/MethodHandle" ∧ yX0_ownRegisters.cls ≠ "java/lang/invoke/VarHandle" ∧ (parseMethodDescriptor yX0_ownRegisters.desc).map (fun d => d.parameters.length) = some 0 := by decide +kernel
theorem dy_X5_addEntry : yX5_addEntry.cls ≠ "java/lang/invoke/MethodHandle" ∧ yX5_addEntry.cls ≠ "java/lang/invoke/VarHandle" ∧ (parseMethodDescriptor yX5_addEntry.desc).map (fun d => d.parameters.length) = some 4 := by decide +kernel
theorem dy_X6_otherwise : yX6_otherwise.cls ≠ "java/lang/invoke/MethodHandle" ∧ yX6_otherwise.cls ≠ "java/lang/invoke/VarHandle" ∧ (parseMethodDescriptor yX6_otherwise.desc).map (fun d => d.parameters.length) = some 4 := by decide +kernel
theorem dy_X6_forget : yX6_forget.cls ≠ "java/lang/invoke/MethodHandle" ∧ yX6_forget.cls ≠ "java/lang/invoke/VarHandle" ∧ (parseMethodDescriptor yX6_forget.desc).map (fun d => d.parameters.length) = some 2 := by decide +kernel
theorem dy_X5_removeEntry : yX5_removeEntry.cls ≠ "java/lang/invoke/MethodHandle" ∧ yX5_removeEntry.cls ≠ "java/lang/invoke/VarHandle" ∧ (parseMethodDescriptor yX5_removeEntry.desc).map (fun d => d.parameters.length) = some 1 := by decide +kernel
theorem dy_X0_copy : yX0_copy.cls ≠ "java/lang/invoke/MethodHandle" ∧ yX0_copy.cls ≠ "java/lang/invoke/VarHandle" ∧ (parseMethodDescriptor yX0_copy.desc).map (fun d => d.parameters.length) = some 1 := by decide +kernel
theorem dy_X6_drop : yX6_drop.cls ≠ "java/lang/invoke/MethodHandle" ∧ yX6_drop.cls ≠ "java/lang/invoke/VarHandle" ∧ (parseMethodDescriptor yX6_drop.desc).map (fun d => d.parameters.length) = some 1 := by decide +kernel
theorem dy_X3_removeTable : yX3_removeTable.cls ≠ "java/lang/invoke/MethodHandle" ∧ yX3_removeTable.cls ≠ "java/lang/invoke/VarHandle" ∧ (parseMethodDescriptor yX3_removeTable.desc).map (fun d => d.parameters.length) = some 1 := by decide +kernel
theorem dy_X6_rule : yX6_rule.cls ≠ "java/lang/invoke/MethodHandle" ∧ yX6_rule.cls ≠ "java/lang/invoke/VarHandle" ∧ (parseMethodDescriptor yX6_rule.desc).map (fun d => d.parameters.length) = some 2 := by decide +kernel
theorem dy_X6_told : yX6_told.cls ≠ "java/lang/invoke/MethodHandle" ∧ yX6_told.cls ≠ "java/lang/invoke/VarHandle" ∧ (parseMethodDescriptor yX6_told.desc).map (fun d => d.parameters.length) = some 2 := by decide +kernel
theorem dy_X2_arrange : yX2_arrange.cls ≠ "java/lang/invoke/MethodHandle" ∧ yX2_arrange.cls ≠ "java/lang/invoke/VarHandle" ∧ (parseMethodDescriptor yX2_arrange.desc).map (fun d => d.parameters.length) = some 1 := by decide +kernel
theorem dy_X2_look : yX2_look.cls ≠ "java/lang/invoke/MethodHandle" ∧ yX2_look.cls ≠ "java/lang/invoke/VarHandle" ∧ (parseMethodDescriptor yX2_look.desc).map (fun d => d.parameters.length) = some 2 := by decide +kernel
theorem dy_X5_writtenFields : yX5_writtenFields.cls ≠ "java/lang/invoke/MethodHandle" ∧ yX5_writtenFields.cls ≠ "java/lang/invoke/VarHandle" ∧ (parseMethodDescriptor yX5_writtenFields.desc).map (fun d => d.parameters.length) = some 0 := by decide +kernel
theorem dy_X0_writtenFields : yX0_writtenFields.cls ≠ "java/lang/invoke/MethodHandle" ∧ yX0_writtenFields.cls ≠ "java/lang/invoke/VarHandle" ∧ (parseMethodDescriptor yX0_writtenFields.desc).map (fun d => d.parameters.length) = some 0 := by decide +kernel
theorem dy_X5_readFields : yX5_readFields.cls ≠ "java/lang/invoke/MethodHandle" ∧ yX5_readFields.cls ≠ "java/lang/invoke/VarHandle" ∧ (parseMethodDescriptor yX5_readFields.desc).map (fun d => d.parameters.length) = some 0 := by decide +kernel
theorem dy_X0_readFields : yX0_readFields.cls ≠ "java/lang/invoke/MethodHandle" ∧ yX0_readFields.cls ≠ "java/lang/invoke/VarHandle" ∧ (parseMethodDescriptor yX0_readFields.desc).map (fun d => d.parameters.length) = some 0 := by decide +kernel
theorem dy_X5_size : yX5_size.cls ≠ "java/lang/invoke/MethodHandle" ∧ yX5_size.cls ≠ "java/lang/invoke/VarHandle" ∧ (parseMethodDescriptor yX5_size.desc).map (fun d => d.parameters.length) = some 0 := by decide +kernel
theorem dy_X2_needOf : yX2_needOf.cls ≠ "java/lang/invoke/MethodHandle" ∧ yX2_needOf.cls ≠ "java/lang/invoke/VarHandle" ∧ (parseMethodDescriptor yX2_needOf.desc).map (fun d => d.parameters.length) = some 2 := by decide +kernel
theorem dy_J9_max_7cf53 : yJ9_max_7cf53.cls ≠ "java/lang/invoke/MethodHandle" ∧ yJ9_max_7cf53.cls ≠ "java/lang/invoke/VarHandle" ∧ (parseMethodDescriptor yJ9_max_7cf53.desc).map (fun d => d.parameters.length) = some 2 := by decide +kernel
theorem dy_J7_fill_53178 : yJ7_fill_53178.cls ≠ "java/lang/invoke/MethodHandle" ∧ yJ7_fill_53178.cls ≠ "java/lang/invoke/VarHandle" ∧ (parseMethodDescriptor yJ7_fill_53178.desc).map (fun d => d.parameters.length) = some 2 := by decide +kernel
theorem dy_X2_place : yX2_place.cls ≠ "java/lang/invoke/MethodHandle" ∧ yX2_place.cls ≠ "java/lang/invoke/VarHandle" ∧ (parseMethodDescriptor yX2_place.desc).map (fun d => d.parameters.length) = some 2 := by decide +kernel
theorem dy_X2_leastStage : yX2_leastStage.cls ≠ "java/lang/invoke/MethodHandle" ∧ yX2_leastStage.cls ≠ "java/lang/invoke/VarHandle" ∧ (parseMethodDescriptor yX2_leastStage.desc).map (fun d => d.parameters.length) = some 1 := by decide +kernel
theorem dy_J6_bitCount_0f7a4 : yJ6_bitCount_0f7a4.cls ≠ "java/lang/invoke/MethodHandle" ∧ yJ6_bitCount_0f7a4.cls ≠ "java/lang/invoke/VarHandle" ∧ (parseMethodDescriptor yJ6_bitCount_0f7a4.desc).map (fun d => d.parameters.length) = some 1 := by decide +kernel
theorem dy_X5_partOfAct : yX5_partOfAct.cls ≠ "java/lang/invoke/MethodHandle" ∧ yX5_partOfAct.cls ≠ "java/lang/invoke/VarHandle" ∧ (parseMethodDescriptor yX5_partOfAct.desc).map (fun d => d.parameters.length) = some 1 := by decide +kernel
theorem dy_X6_needs : yX6_needs.cls ≠ "java/lang/invoke/MethodHandle" ∧ yX6_needs.cls ≠ "java/lang/invoke/VarHandle" ∧ (parseMethodDescriptor yX6_needs.desc).map (fun d => d.parameters.length) = some 2 := by decide +kernel
theorem dy_J9_min_7cf53 : yJ9_min_7cf53.cls ≠ "java/lang/invoke/MethodHandle" ∧ yJ9_min_7cf53.cls ≠ "java/lang/invoke/VarHandle" ∧ (parseMethodDescriptor yJ9_min_7cf53.desc).map (fun d => d.parameters.length) = some 2 := by decide +kernel
theorem dy_X6_stages : yX6_stages.cls ≠ "java/lang/invoke/MethodHandle" ∧ yX6_stages.cls ≠ "java/lang/invoke/VarHandle" ∧ (parseMethodDescriptor yX6_stages.desc).map (fun d => d.parameters.length) = some 0 := by decide +kernel
theorem dy_X2_stagesWithTables : yX2_stagesWithTables.cls ≠ "java/lang/invoke/MethodHandle" ∧ yX2_stagesWithTables.cls ≠ "java/lang/invoke/VarHandle" ∧ (parseMethodDescriptor yX2_stagesWithTables.desc).map (fun d => d.parameters.length) = some 0 := by decide +kernel
theorem dy_X6_stage : yX6_stage.cls ≠ "java/lang/invoke/MethodHandle" ∧ yX6_stage.cls ≠ "java/lang/invoke/VarHandle" ∧ (parseMethodDescriptor yX6_stage.desc).map (fun d => d.parameters.length) = some 2 := by decide +kernel
theorem dy_X6_fewest : yX6_fewest.cls ≠ "java/lang/invoke/MethodHandle" ∧ yX6_fewest.cls ≠ "java/lang/invoke/VarHandle" ∧ (parseMethodDescriptor yX6_fewest.desc).map (fun d => d.parameters.length) = some 0 := by decide +kernel
theorem dy_X4_fewestStages : yX4_fewestStages.cls ≠ "java/lang/invoke/MethodHandle" ∧ yX4_fewestStages.cls ≠ "java/lang/invoke/VarHandle" ∧ (parseMethodDescriptor yX4_fewestStages.desc).map (fun d => d.parameters.length) = some 2 := by decide +kernel
theorem dy_X4_measure : yX4_measure.cls ≠ "java/lang/invoke/MethodHandle" ∧ yX4_measure.cls ≠ "java/lang/invoke/VarHandle" ∧ (parseMethodDescriptor yX4_measure.desc).map (fun d => d.parameters.length) = some 2 := by decide +kernel
theorem dy_X4_ready : yX4_ready.cls ≠ "java/lang/invoke/MethodHandle" ∧ yX4_ready.cls ≠ "java/lang/invoke/VarHandle" ∧ (parseMethodDescriptor yX4_ready.desc).map (fun d => d.parameters.length) = some 3 := by decide +kernel
theorem dy_X4_addStage : yX4_addStage.cls ≠ "java/lang/invoke/MethodHandle" ∧ yX4_addStage.cls ≠ "java/lang/invoke/VarHandle" ∧ (parseMethodDescriptor yX4_addStage.desc).map (fun d => d.parameters.length) = some 3 := by decide +kernel
theorem dy_X6_tell : yX6_tell.cls ≠ "java/lang/invoke/MethodHandle" ∧ yX6_tell.cls ≠ "java/lang/invoke/VarHandle" ∧ (parseMethodDescriptor yX6_tell.desc).map (fun d => d.parameters.length) = some 2 := by decide +kernel
theorem dy_X6_put : yX6_put.cls ≠ "java/lang/invoke/MethodHandle" ∧ yX6_put.cls ≠ "java/lang/invoke/VarHandle" ∧ (parseMethodDescriptor yX6_put.desc).map (fun d => d.parameters.length) = some 2 := by decide +kernel
theorem dy_X6_register : yX6_register.cls ≠ "java/lang/invoke/MethodHandle" ∧ yX6_register.cls ≠ "java/lang/invoke/VarHandle" ∧ (parseMethodDescriptor yX6_register.desc).map (fun d => d.parameters.length) = some 1 := by decide +kernel
theorem dy_X6_run : yX6_run.cls ≠ "java/lang/invoke/MethodHandle" ∧ yX6_run.cls ≠ "java/lang/invoke/VarHandle" ∧ (parseMethodDescriptor yX6_run.desc).map (fun d => d.parameters.length) = some 0 := by decide +kernel
theorem dy_X1_passThrough : yX1_passThrough.cls ≠ "java/lang/invoke/MethodHandle" ∧ yX1_passThrough.cls ≠ "java/lang/invoke/VarHandle" ∧ (parseMethodDescriptor yX1_passThrough.desc).map (fun d => d.parameters.length) = some 1 := by decide +kernel
theorem dy_X1_doRound : yX1_doRound.cls ≠ "java/lang/invoke/MethodHandle" ∧ yX1_doRound.cls ≠ "java/lang/invoke/VarHandle" ∧ (parseMethodDescriptor yX1_doRound.desc).map (fun d => d.parameters.length) = some 2 := by decide +kernel
theorem dy_X1_apply : yX1_apply.cls ≠ "java/lang/invoke/MethodHandle" ∧ yX1_apply.cls ≠ "java/lang/invoke/VarHandle" ∧ (parseMethodDescriptor yX1_apply.desc).map (fun d => d.parameters.length) = some 2 := by decide +kernel
theorem dy_X1_keepTop : yX1_keepTop.cls ≠ "java/lang/invoke/MethodHandle" ∧ yX1_keepTop.cls ≠ "java/lang/invoke/VarHandle" ∧ (parseMethodDescriptor yX1_keepTop.desc).map (fun d => d.parameters.length) = some 3 := by decide +kernel
theorem dy_X1_swap : yX1_swap.cls ≠ "java/lang/invoke/MethodHandle" ∧ yX1_swap.cls ≠ "java/lang/invoke/VarHandle" ∧ (parseMethodDescriptor yX1_swap.desc).map (fun d => d.parameters.length) = some 3 := by decide +kernel
theorem dy_X6_out : yX6_out.cls ≠ "java/lang/invoke/MethodHandle" ∧ yX6_out.cls ≠ "java/lang/invoke/VarHandle" ∧ (parseMethodDescriptor yX6_out.desc).map (fun d => d.parameters.length) = some 1 := by decide +kernel
theorem dy_X6_took : yX6_took.cls ≠ "java/lang/invoke/MethodHandle" ∧ yX6_took.cls ≠ "java/lang/invoke/VarHandle" ∧ (parseMethodDescriptor yX6_took.desc).map (fun d => d.parameters.length) = some 2 := by decide +kernel
theorem dy_X6_image : yX6_image.cls ≠ "java/lang/invoke/MethodHandle" ∧ yX6_image.cls ≠ "java/lang/invoke/VarHandle" ∧ (parseMethodDescriptor yX6_image.desc).map (fun d => d.parameters.length) = some 1 := by decide +kernel
theorem dy_X3_copy : yX3_copy.cls ≠ "java/lang/invoke/MethodHandle" ∧ yX3_copy.cls ≠ "java/lang/invoke/VarHandle" ∧ (parseMethodDescriptor yX3_copy.desc).map (fun d => d.parameters.length) = some 1 := by decide +kernel
theorem dy_X5_copy : yX5_copy.cls ≠ "java/lang/invoke/MethodHandle" ∧ yX5_copy.cls ≠ "java/lang/invoke/VarHandle" ∧ (parseMethodDescriptor yX5_copy.desc).map (fun d => d.parameters.length) = some 1 := by decide +kernel
theorem dy_X6_restore : yX6_restore.cls ≠ "java/lang/invoke/MethodHandle" ∧ yX6_restore.cls ≠ "java/lang/invoke/VarHandle" ∧ (parseMethodDescriptor yX6_restore.desc).map (fun d => d.parameters.length) = some 1 := by decide +kernel
theorem dy_X6_count : yX6_count.cls ≠ "java/lang/invoke/MethodHandle" ∧ yX6_count.cls ≠ "java/lang/invoke/VarHandle" ∧ (parseMethodDescriptor yX6_count.desc).map (fun d => d.parameters.length) = some 1 := by decide +kernel
theorem dy_X6_keptImages : yX6_keptImages.cls ≠ "java/lang/invoke/MethodHandle" ∧ yX6_keptImages.cls ≠ "java/lang/invoke/VarHandle" ∧ (parseMethodDescriptor yX6_keptImages.desc).map (fun d => d.parameters.length) = some 0 := by decide +kernel
theorem dy_X7_table : yX7_table.cls ≠ "java/lang/invoke/MethodHandle" ∧ yX7_table.cls ≠ "java/lang/invoke/VarHandle" ∧ (parseMethodDescriptor yX7_table.desc).map (fun d => d.parameters.length) = some 1 := by decide +kernel
theorem dy_X7_isField : yX7_isField.cls ≠ "java/lang/invoke/MethodHandle" ∧ yX7_isField.cls ≠ "java/lang/invoke/VarHandle" ∧ (parseMethodDescriptor yX7_isField.desc).map (fun d => d.parameters.length) = some 1 := by decide +kernel
theorem dy_X7_in : yX7_in.cls ≠ "java/lang/invoke/MethodHandle" ∧ yX7_in.cls ≠ "java/lang/invoke/VarHandle" ∧ (parseMethodDescriptor yX7_in.desc).map (fun d => d.parameters.length) = some 3 := by decide +kernel
theorem dy_X7_lay : yX7_lay.cls ≠ "java/lang/invoke/MethodHandle" ∧ yX7_lay.cls ≠ "java/lang/invoke/VarHandle" ∧ (parseMethodDescriptor yX7_lay.desc).map (fun d => d.parameters.length) = some 4 := by decide +kernel
theorem dy_X7_matters : yX7_matters.cls ≠ "java/lang/invoke/MethodHandle" ∧ yX7_matters.cls ≠ "java/lang/invoke/VarHandle" ∧ (parseMethodDescriptor yX7_matters.desc).map (fun d => d.parameters.length) = some 1 := by decide +kernel
theorem dy_X7_entry : yX7_entry.cls ≠ "java/lang/invoke/MethodHandle" ∧ yX7_entry.cls ≠ "java/lang/invoke/VarHandle" ∧ (parseMethodDescriptor yX7_entry.desc).map (fun d => d.parameters.length) = some 5 := by decide +kernel
theorem dy_X7_isTable : yX7_isTable.cls ≠ "java/lang/invoke/MethodHandle" ∧ yX7_isTable.cls ≠ "java/lang/invoke/VarHandle" ∧ (parseMethodDescriptor yX7_isTable.desc).map (fun d => d.parameters.length) = some 1 := by decide +kernel
theorem dy_X7_isAct : yX7_isAct.cls ≠ "java/lang/invoke/MethodHandle" ∧ yX7_isAct.cls ≠ "java/lang/invoke/VarHandle" ∧ (parseMethodDescriptor yX7_isAct.desc).map (fun d => d.parameters.length) = some 3 := by decide +kernel
theorem dy_X7_entryWith : yX7_entryWith.cls ≠ "java/lang/invoke/MethodHandle" ∧ yX7_entryWith.cls ≠ "java/lang/invoke/VarHandle" ∧ (parseMethodDescriptor yX7_entryWith.desc).map (fun d => d.parameters.length) = some 2 := by decide +kernel
theorem dy_X7_isTaken : yX7_isTaken.cls ≠ "java/lang/invoke/MethodHandle" ∧ yX7_isTaken.cls ≠ "java/lang/invoke/VarHandle" ∧ (parseMethodDescriptor yX7_isTaken.desc).map (fun d => d.parameters.length) = some 3 := by decide +kernel
theorem dy_X7_registersOf : yX7_registersOf.cls ≠ "java/lang/invoke/MethodHandle" ∧ yX7_registersOf.cls ≠ "java/lang/invoke/VarHandle" ∧ (parseMethodDescriptor yX7_registersOf.desc).map (fun d => d.parameters.length) = some 1 := by decide +kernel
theorem dy_X7_isThere : yX7_isThere.cls ≠ "java/lang/invoke/MethodHandle" ∧ yX7_isThere.cls ≠ "java/lang/invoke/VarHandle" ∧ (parseMethodDescriptor yX7_isThere.desc).map (fun d => d.parameters.length) = some 1 := by decide +kernel
theorem dy_X7_has : yX7_has.cls ≠ "java/lang/invoke/MethodHandle" ∧ yX7_has.cls ≠ "java/lang/invoke/VarHandle" ∧ (parseMethodDescriptor yX7_has.desc).map (fun d => d.parameters.length) = some 2 := by decide +kernel
theorem dy_X7_otherwise : yX7_otherwise.cls ≠ "java/lang/invoke/MethodHandle" ∧ yX7_otherwise.cls ≠ "java/lang/invoke/VarHandle" ∧ (parseMethodDescriptor yX7_otherwise.desc).map (fun d => d.parameters.length) = some 4 := by decide +kernel
theorem dy_X7_forget : yX7_forget.cls ≠ "java/lang/invoke/MethodHandle" ∧ yX7_forget.cls ≠ "java/lang/invoke/VarHandle" ∧ (parseMethodDescriptor yX7_forget.desc).map (fun d => d.parameters.length) = some 2 := by decide +kernel
theorem dy_X7_copy : yX7_copy.cls ≠ "java/lang/invoke/MethodHandle" ∧ yX7_copy.cls ≠ "java/lang/invoke/VarHandle" ∧ (parseMethodDescriptor yX7_copy.desc).map (fun d => d.parameters.length) = some 2 := by decide +kernel
theorem dy_X7_drop : yX7_drop.cls ≠ "java/lang/invoke/MethodHandle" ∧ yX7_drop.cls ≠ "java/lang/invoke/VarHandle" ∧ (parseMethodDescriptor yX7_drop.desc).map (fun d => d.parameters.length) = some 1 := by decide +kernel
theorem dy_X7_rule : yX7_rule.cls ≠ "java/lang/invoke/MethodHandle" ∧ yX7_rule.cls ≠ "java/lang/invoke/VarHandle" ∧ (parseMethodDescriptor yX7_rule.desc).map (fun d => d.parameters.length) = some 2 := by decide +kernel
theorem dy_X7_needs : yX7_needs.cls ≠ "java/lang/invoke/MethodHandle" ∧ yX7_needs.cls ≠ "java/lang/invoke/VarHandle" ∧ (parseMethodDescriptor yX7_needs.desc).map (fun d => d.parameters.length) = some 2 := by decide +kernel
theorem dy_X7_needOf : yX7_needOf.cls ≠ "java/lang/invoke/MethodHandle" ∧ yX7_needOf.cls ≠ "java/lang/invoke/VarHandle" ∧ (parseMethodDescriptor yX7_needOf.desc).map (fun d => d.parameters.length) = some 2 := by decide +kernel
theorem dy_X7_writes : yX7_writes.cls ≠ "java/lang/invoke/MethodHandle" ∧ yX7_writes.cls ≠ "java/lang/invoke/VarHandle" ∧ (parseMethodDescriptor yX7_writes.desc).map (fun d => d.parameters.length) = some 1 := by decide +kernel
theorem dy_X7_reads : yX7_reads.cls ≠ "java/lang/invoke/MethodHandle" ∧ yX7_reads.cls ≠ "java/lang/invoke/VarHandle" ∧ (parseMethodDescriptor yX7_reads.desc).map (fun d => d.parameters.length) = some 1 := by decide +kernel
theorem dy_X7_told : yX7_told.cls ≠ "java/lang/invoke/MethodHandle" ∧ yX7_told.cls ≠ "java/lang/invoke/VarHandle" ∧ (parseMethodDescriptor yX7_told.desc).map (fun d => d.parameters.length) = some 2 := by decide +kernel
theorem dy_X7_part : yX7_part.cls ≠ "java/lang/invoke/MethodHandle" ∧ yX7_part.cls ≠ "java/lang/invoke/VarHandle" ∧ (parseMethodDescriptor yX7_part.desc).map (fun d => d.parameters.length) = some 2 := by decide +kernel
theorem dy_X7_levelOf : yX7_levelOf.cls ≠ "java/lang/invoke/MethodHandle" ∧ yX7_levelOf.cls ≠ "java/lang/invoke/VarHandle" ∧ (parseMethodDescriptor yX7_levelOf.desc).map (fun d => d.parameters.length) = some 1 := by decide +kernel
theorem dy_X7_pack : yX7_pack.cls ≠ "java/lang/invoke/MethodHandle" ∧ yX7_pack.cls ≠ "java/lang/invoke/VarHandle" ∧ (parseMethodDescriptor yX7_pack.desc).map (fun d => d.parameters.length) = some 0 := by decide +kernel
theorem dy_X7_sizeOf : yX7_sizeOf.cls ≠ "java/lang/invoke/MethodHandle" ∧ yX7_sizeOf.cls ≠ "java/lang/invoke/VarHandle" ∧ (parseMethodDescriptor yX7_sizeOf.desc).map (fun d => d.parameters.length) = some 1 := by decide +kernel
theorem dy_X7_stages : yX7_stages.cls ≠ "java/lang/invoke/MethodHandle" ∧ yX7_stages.cls ≠ "java/lang/invoke/VarHandle" ∧ (parseMethodDescriptor yX7_stages.desc).map (fun d => d.parameters.length) = some 0 := by decide +kernel
theorem dy_X7_stage : yX7_stage.cls ≠ "java/lang/invoke/MethodHandle" ∧ yX7_stage.cls ≠ "java/lang/invoke/VarHandle" ∧ (parseMethodDescriptor yX7_stage.desc).map (fun d => d.parameters.length) = some 2 := by decide +kernel
theorem dy_X7_fewest : yX7_fewest.cls ≠ "java/lang/invoke/MethodHandle" ∧ yX7_fewest.cls ≠ "java/lang/invoke/VarHandle" ∧ (parseMethodDescriptor yX7_fewest.desc).map (fun d => d.parameters.length) = some 0 := by decide +kernel
theorem dy_X7_canFollow : yX7_canFollow.cls ≠ "java/lang/invoke/MethodHandle" ∧ yX7_canFollow.cls ≠ "java/lang/invoke/VarHandle" ∧ (parseMethodDescriptor yX7_canFollow.desc).map (fun d => d.parameters.length) = some 2 := by decide +kernel
theorem dy_X7_bits : yX7_bits.cls ≠ "java/lang/invoke/MethodHandle" ∧ yX7_bits.cls ≠ "java/lang/invoke/VarHandle" ∧ (parseMethodDescriptor yX7_bits.desc).map (fun d => d.parameters.length) = some 1 := by decide +kernel
theorem dy_X7_tell : yX7_tell.cls ≠ "java/lang/invoke/MethodHandle" ∧ yX7_tell.cls ≠ "java/lang/invoke/VarHandle" ∧ (parseMethodDescriptor yX7_tell.desc).map (fun d => d.parameters.length) = some 2 := by decide +kernel
theorem dy_X7_put : yX7_put.cls ≠ "java/lang/invoke/MethodHandle" ∧ yX7_put.cls ≠ "java/lang/invoke/VarHandle" ∧ (parseMethodDescriptor yX7_put.desc).map (fun d => d.parameters.length) = some 2 := by decide +kernel
theorem dy_X7_register : yX7_register.cls ≠ "java/lang/invoke/MethodHandle" ∧ yX7_register.cls ≠ "java/lang/invoke/VarHandle" ∧ (parseMethodDescriptor yX7_register.desc).map (fun d => d.parameters.length) = some 1 := by decide +kernel
theorem dy_X7_run : yX7_run.cls ≠ "java/lang/invoke/MethodHandle" ∧ yX7_run.cls ≠ "java/lang/invoke/VarHandle" ∧ (parseMethodDescriptor yX7_run.desc).map (fun d => d.parameters.length) = some 0 := by decide +kernel
theorem dy_X7_round : yX7_round.cls ≠ "java/lang/invoke/MethodHandle" ∧ yX7_round.cls ≠ "java/lang/invoke/VarHandle" ∧ (parseMethodDescriptor yX7_round.desc).map (fun d => d.parameters.length) = some 0 := by decide +kernel
theorem dy_X7_act : yX7_act.cls ≠ "java/lang/invoke/MethodHandle" ∧ yX7_act.cls ≠ "java/lang/invoke/VarHandle" ∧ (parseMethodDescriptor yX7_act.desc).map (fun d => d.parameters.length) = some 1 := by decide +kernel
theorem dy_X7_out : yX7_out.cls ≠ "java/lang/invoke/MethodHandle" ∧ yX7_out.cls ≠ "java/lang/invoke/VarHandle" ∧ (parseMethodDescriptor yX7_out.desc).map (fun d => d.parameters.length) = some 1 := by decide +kernel
theorem dy_X7_took : yX7_took.cls ≠ "java/lang/invoke/MethodHandle" ∧ yX7_took.cls ≠ "java/lang/invoke/VarHandle" ∧ (parseMethodDescriptor yX7_took.desc).map (fun d => d.parameters.length) = some 2 := by decide +kernel
theorem dy_X7_image : yX7_image.cls ≠ "java/lang/invoke/MethodHandle" ∧ yX7_image.cls ≠ "java/lang/invoke/VarHandle" ∧ (parseMethodDescriptor yX7_image.desc).map (fun d => d.parameters.length) = some 1 := by decide +kernel
theorem dy_X7_restore : yX7_restore.cls ≠ "java/lang/invoke/MethodHandle" ∧ yX7_restore.cls ≠ "java/lang/invoke/VarHandle" ∧ (parseMethodDescriptor yX7_restore.desc).map (fun d => d.parameters.length) = some 1 := by decide +kernel
theorem dy_X7_count : yX7_count.cls ≠ "java/lang/invoke/MethodHandle" ∧ yX7_count.cls ≠ "java/lang/invoke/VarHandle" ∧ (parseMethodDescriptor yX7_count.desc).map (fun d => d.parameters.length) = some 1 := by decide +kernel
section CL
variable {p : Program} {l : Launch} {e : Env} {R : Room} {s : State} {m : MethodId} {args : Array Value} {below : List Frame} {meth : Method} {c : Code} {H : Heap} {locs : List Loc} {cells slots : Nat} {Q : State → Prop}
variable {cc : ByteArray} {pc : Nat} {ls : Array Slot} {rest : List Value} {E : En} {K : Nat → Nat} {L : Nat → Nat → Bool} {ad : Nat → Nat} {I : Nat → Nat → Int32} {r : Nat} {own : String} {nL : Nat}
theorem k_L_13 (C : Cx E p s m args c cc RL nL) (hP : Hp E K L ad I H) (hS : va_S (AG E) s.heap H locs) {k : Nat} {x0 : Int32} {post : Int32 → (Nat → Nat → Int32) → Prop} (hr : K r = 7) (hM : MI l E K L ad I yX6_table cX6_table 2 (some .int) k [.ref (ad r), .int x0] post) (hR : k + 1 ≤ R.frames ∧ 8 + (2 + 11) + 26 * k ≤ R.locals) (hcells : cells ≤ R.cells ∧ slots ≤ R.slots) (hls : ls.size = nL) (hroom : (rest.map fun v => v.category).sum ≤ 8) (hdg : decode cc pc = .ok (.invokevirtual 13, 3)) (kk : ∀ (v : Int32) (J : Nat → Nat → Int32) (H1 : Heap) (locs1 : List Loc), post v J → Hp E K L ad J H1 → va_S (AG E) s.heap H1 locs1 → W p l e R s m args below meth c H1 locs1 cells slots Q (F0 m (pc + 3) ls (.int v :: rest))) : W p l e R s m args below meth c H locs cells slots Q (F0 m pc ls (.int x0 :: .ref (ad r) :: rest)) :=
  r_callVi (As := [.int x0]) (ci := 6) C hP hS tm_L_13 ti_X6_table ts_X6_table tz_X6 tc_X6_table dy_X6_table (by omega) (wE_7 _ _ _ _ hr) rfl rfl hM hR hcells hls rfl hroom hdg kk
theorem k_X6_41 (C : Cx E p s m args c cc RX6 nL) (hP : Hp E K L ad I H) (hS : va_S (AG E) s.heap H locs) {k : Nat} {x0 : Int32} {x1 : Int32} {post : Int32 → (Nat → Nat → Int32) → Prop} (hM : MI l E K L ad I yX6_isIn cX6_isIn 2 (some .boolean) k [.int x0, .int x1] post) (hR : k + 1 ≤ R.frames ∧ 8 + (2 + 11) + 26 * k ≤ R.locals) (hcells : cells ≤ R.cells ∧ slots ≤ R.slots) (hls : ls.size = nL) (hroom : (rest.map fun v => v.category).sum ≤ 8) (hdg : decode cc pc = .ok (.invokestatic 41, 3)) (kk : ∀ (v : Int32) (J : Nat → Nat → Int32) (H1 : Heap) (locs1 : List Loc), post v J → Hp E K L ad J H1 → va_S (AG E) s.heap H1 locs1 → W p l e R s m args below meth c H1 locs1 cells slots Q (F0 m (pc + 3) ls (.int v :: rest))) : W p l e R s m args below meth c H locs cells slots Q (F0 m pc ls (.int x1 :: .int x0 :: rest)) :=
  r_callSi (As := [.int x0, .int x1]) C hP hS tm_X6_41 tt_X6_isIn tz_X6 tc_X6_isIn dy_X6_isIn hM hR hcells hls rfl hroom hdg kk
theorem k_X6_49 (C : Cx E p s m args c cc RX6 nL) (hP : Hp E K L ad I H) (hS : va_S (AG E) s.heap H locs) {k : Nat} {x0 : Int32} {post : Int32 → (Nat → Nat → Int32) → Prop} (hr : K r = 4) (hM : MI l E K L ad I yX3_addTable cX3_addTable 2 (some .int) k [.ref (ad r), .int x0] post) (hR : k + 1 ≤ R.frames ∧ 8 + (2 + 11) + 26 * k ≤ R.locals) (hcells : cells ≤ R.cells ∧ slots ≤ R.slots) (hls : ls.size = nL) (hroom : (rest.map fun v => v.category).sum ≤ 8) (hdg : decode cc pc = .ok (.invokevirtual 49, 3)) (kk : ∀ (v : Int32) (J : Nat → Nat → Int32) (H1 : Heap) (locs1 : List Loc), post v J → Hp E K L ad J H1 → va_S (AG E) s.heap H1 locs1 → W p l e R s m args below meth c H1 locs1 cells slots Q (F0 m (pc + 3) ls (.int v :: rest))) : W p l e R s m args below meth c H locs cells slots Q (F0 m pc ls (.int x0 :: .ref (ad r) :: rest)) :=
  r_callVi (As := [.int x0]) (ci := 3) C hP hS tm_X6_49 ti_X3_addTable ts_X3_addTable tz_X3 tc_X3_addTable dy_X3_addTable (by omega) (wE_4 _ _ _ _ hr) rfl rfl hM hR hcells hls rfl hroom hdg kk
theorem k_X3_54 (C : Cx E p s m args c cc RX3 nL) (hP : Hp E K L ad I H) (hS : va_S (AG E) s.heap H locs) {k : Nat} {x0 : Int32} {post : (Nat → Nat → Int32) → Prop} (hr : K r = 6) (hM : MV l E K L ad I yX5_begin cX5_begin 2 k [.ref (ad r), .int x0] post) (hR : k + 1 ≤ R.frames ∧ 8 + (2 + 11) + 26 * k ≤ R.locals) (hcells : cells ≤ R.cells ∧ slots ≤ R.slots) (hls : ls.size = nL) (hroom : (rest.map fun v => v.category).sum ≤ 8) (hdg : decode cc pc = .ok (.invokevirtual 54, 3)) (kk : ∀ (J : Nat → Nat → Int32) (H1 : Heap) (locs1 : List Loc), post J → Hp E K L ad J H1 → va_S (AG E) s.heap H1 locs1 → W p l e R s m args below meth c H1 locs1 cells slots Q (F0 m (pc + 3) ls rest)) : W p l e R s m args below meth c H locs cells slots Q (F0 m pc ls (.int x0 :: .ref (ad r) :: rest)) :=
  r_callVv (As := [.int x0]) (ci := 5) C hP hS tm_X3_54 ti_X5_begin ts_X5_begin tz_X5 tc_X5_begin dy_X5_begin (by omega) (wE_6 _ _ _ _ hr) rfl rfl hM hR hcells hls rfl hroom hdg kk
theorem k_X5_29 (C : Cx E p s m args c cc RX5 nL) (hP : Hp E K L ad I H) (hS : va_S (AG E) s.heap H locs) {k : Nat} {x0 : Int32} {x1 : Int32} {x2 : Int32} {post : (Nat → Nat → Int32) → Prop} (hr : K r = 1) (hM : MV l E K L ad I yX0_become cX0_become 4 k [.ref (ad r), .int x0, .int x1, .int x2] post) (hR : k + 1 ≤ R.frames ∧ 8 + (4 + 11) + 26 * k ≤ R.locals) (hcells : cells ≤ R.cells ∧ slots ≤ R.slots) (hls : ls.size = nL) (hroom : (rest.map fun v => v.category).sum ≤ 8) (hdg : decode cc pc = .ok (.invokevirtual 29, 3)) (kk : ∀ (J : Nat → Nat → Int32) (H1 : Heap) (locs1 : List Loc), post J → Hp E K L ad J H1 → va_S (AG E) s.heap H1 locs1 → W p l e R s m args below meth c H1 locs1 cells slots Q (F0 m (pc + 3) ls rest)) : W p l e R s m args below meth c H locs cells slots Q (F0 m pc ls (.int x2 :: .int x1 :: .int x0 :: .ref (ad r) :: rest)) :=
  r_callVv (As := [.int x0, .int x1, .int x2]) (ci := 0) C hP hS tm_X5_29 ti_X0_become ts_X0_become tz_X0 tc_X0_become dy_X0_become (by omega) (wE_1 _ _ _ _ hr) rfl rfl hM hR hcells hls rfl hroom hdg kk
theorem k_L_18 (C : Cx E p s m args c cc RL nL) (hP : Hp E K L ad I H) (hS : va_S (AG E) s.heap H locs) {k : Nat} {x0 : Int32} {x1 : Int32} {x2 : Int32} {x3 : Int32} {x4 : Int32} {post : Int32 → (Nat → Nat → Int32) → Prop} (hr : K r = 7) (hM : MI l E K L ad I yX6_entry cX6_entry 7 (some .int) k [.ref (ad r), .int x0, .int x1, .int x2, .int x3, .int x4] post) (hR : k + 1 ≤ R.frames ∧ 8 + (7 + 11) + 26 * k ≤ R.locals) (hcells : cells ≤ R.cells ∧ slots ≤ R.slots) (hls : ls.size = nL) (hroom : (rest.map fun v => v.category).sum ≤ 8) (hdg : decode cc pc = .ok (.invokevirtual 18, 3)) (kk : ∀ (v : Int32) (J : Nat → Nat → Int32) (H1 : Heap) (locs1 : List Loc), post v J → Hp E K L ad J H1 → va_S (AG E) s.heap H1 locs1 → W p l e R s m args below meth c H1 locs1 cells slots Q (F0 m (pc + 3) ls (.int v :: rest))) : W p l e R s m args below meth c H locs cells slots Q (F0 m pc ls (.int x4 :: .int x3 :: .int x2 :: .int x1 :: .int x0 :: .ref (ad r) :: rest)) :=
  r_callVi (As := [.int x0, .int x1, .int x2, .int x3, .int x4]) (ci := 6) C hP hS tm_L_18 ti_X6_entry ts_X6_entry tz_X6 tc_X6_entry dy_X6_entry (by omega) (wE_7 _ _ _ _ hr) rfl rfl hM hR hcells hls rfl hroom hdg kk
theorem k_X6_53 (C : Cx E p s m args c cc RX6 nL) (hP : Hp E K L ad I H) (hS : va_S (AG E) s.heap H locs) {k : Nat} {x0 : Int32} {post : Int32 → (Nat → Nat → Int32) → Prop} (hr : K r = 4) (hM : MI l E K L ad I yX3_hasTable cX3_hasTable 2 (some .boolean) k [.ref (ad r), .int x0] post) (hR : k + 1 ≤ R.frames ∧ 8 + (2 + 11) + 26 * k ≤ R.locals) (hcells : cells ≤ R.cells ∧ slots ≤ R.slots) (hls : ls.size = nL) (hroom : (rest.map fun v => v.category).sum ≤ 8) (hdg : decode cc pc = .ok (.invokevirtual 53, 3)) (kk : ∀ (v : Int32) (J : Nat → Nat → Int32) (H1 : Heap) (locs1 : List Loc), post v J → Hp E K L ad J H1 → va_S (AG E) s.heap H1 locs1 → W p l e R s m args below meth c H1 locs1 cells slots Q (F0 m (pc + 3) ls (.int v :: rest))) : W p l e R s m args below meth c H locs cells slots Q (F0 m pc ls (.int x0 :: .ref (ad r) :: rest)) :=
  r_callVi (As := [.int x0]) (ci := 3) C hP hS tm_X6_53 ti_X3_hasTable ts_X3_hasTable tz_X3 tc_X3_hasTable dy_X3_hasTable (by omega) (wE_4 _ _ _ _ hr) rfl rfl hM hR hcells hls rfl hroom hdg kk
theorem k_X6_57 (C : Cx E p s m args c cc RX6 nL) (hP : Hp E K L ad I H) (hS : va_S (AG E) s.heap H locs) {k : Nat} {x0 : Int32} {x1 : Int32} {post : Int32 → (Nat → Nat → Int32) → Prop} (hM : MI l E K L ad I yX6_isUpTo cX6_isUpTo 2 (some .boolean) k [.int x0, .int x1] post) (hR : k + 1 ≤ R.frames ∧ 8 + (2 + 11) + 26 * k ≤ R.locals) (hcells : cells ≤ R.cells ∧ slots ≤ R.slots) (hls : ls.size = nL) (hroom : (rest.map fun v => v.category).sum ≤ 8) (hdg : decode cc pc = .ok (.invokestatic 57, 3)) (kk : ∀ (v : Int32) (J : Nat → Nat → Int32) (H1 : Heap) (locs1 : List Loc), post v J → Hp E K L ad J H1 → va_S (AG E) s.heap H1 locs1 → W p l e R s m args below meth c H1 locs1 cells slots Q (F0 m (pc + 3) ls (.int v :: rest))) : W p l e R s m args below meth c H locs cells slots Q (F0 m pc ls (.int x1 :: .int x0 :: rest)) :=
  r_callSi (As := [.int x0, .int x1]) C hP hS tm_X6_57 tt_X6_isUpTo tz_X6 tc_X6_isUpTo dy_X6_isUpTo hM hR hcells hls rfl hroom hdg kk
theorem k_X6_60 (C : Cx E p s m args c cc RX6 nL) (hP : Hp E K L ad I H) (hS : va_S (AG E) s.heap H locs) {k : Nat} {x0 : Int32} {x1 : Int32} {x2 : Int32} {post : Int32 → (Nat → Nat → Int32) → Prop} (hM : MI l E K L ad I yX6_isAct cX6_isAct 3 (some .boolean) k [.int x0, .int x1, .int x2] post) (hR : k + 1 ≤ R.frames ∧ 8 + (3 + 11) + 26 * k ≤ R.locals) (hcells : cells ≤ R.cells ∧ slots ≤ R.slots) (hls : ls.size = nL) (hroom : (rest.map fun v => v.category).sum ≤ 8) (hdg : decode cc pc = .ok (.invokestatic 60, 3)) (kk : ∀ (v : Int32) (J : Nat → Nat → Int32) (H1 : Heap) (locs1 : List Loc), post v J → Hp E K L ad J H1 → va_S (AG E) s.heap H1 locs1 → W p l e R s m args below meth c H1 locs1 cells slots Q (F0 m (pc + 3) ls (.int v :: rest))) : W p l e R s m args below meth c H locs cells slots Q (F0 m pc ls (.int x2 :: .int x1 :: .int x0 :: rest)) :=
  r_callSi (As := [.int x0, .int x1, .int x2]) C hP hS tm_X6_60 tt_X6_isAct tz_X6 tc_X6_isAct dy_X6_isAct hM hR hcells hls rfl hroom hdg kk
theorem k_X6_216 (C : Cx E p s m args c cc RX6 nL) (hP : Hp E K L ad I H) (hS : va_S (AG E) s.heap H locs) {k : Nat} {x0 : Int32} {post : Int32 → (Nat → Nat → Int32) → Prop} (hM : MI l E K L ad I yX6_hasTarget cX6_hasTarget 1 (some .boolean) k [.int x0] post) (hR : k + 1 ≤ R.frames ∧ 8 + (1 + 11) + 26 * k ≤ R.locals) (hcells : cells ≤ R.cells ∧ slots ≤ R.slots) (hls : ls.size = nL) (hroom : (rest.map fun v => v.category).sum ≤ 8) (hdg : decode cc pc = .ok (.invokestatic 216, 3)) (kk : ∀ (v : Int32) (J : Nat → Nat → Int32) (H1 : Heap) (locs1 : List Loc), post v J → Hp E K L ad J H1 → va_S (AG E) s.heap H1 locs1 → W p l e R s m args below meth c H1 locs1 cells slots Q (F0 m (pc + 3) ls (.int v :: rest))) : W p l e R s m args below meth c H locs cells slots Q (F0 m pc ls (.int x0 :: rest)) :=
  r_callSi (As := [.int x0]) C hP hS tm_X6_216 tt_X6_hasTarget tz_X6 tc_X6_hasTarget dy_X6_hasTarget hM hR hcells hls rfl hroom hdg kk
theorem k_X6_68 (C : Cx E p s m args c cc RX6 nL) (hP : Hp E K L ad I H) (hS : va_S (AG E) s.heap H locs) {k : Nat} {x0 : Int32} {post : Int32 → (Nat → Nat → Int32) → Prop} (hr : K r = 6) (hM : MI l E K L ad I yX5_slotOf cX5_slotOf 3 (some .int) k [.ref (ad r), .int x0] post) (hR : k + 1 ≤ R.frames ∧ 8 + (3 + 11) + 26 * k ≤ R.locals) (hcells : cells ≤ R.cells ∧ slots ≤ R.slots) (hls : ls.size = nL) (hroom : (rest.map fun v => v.category).sum ≤ 8) (hdg : decode cc pc = .ok (.invokevirtual 68, 3)) (kk : ∀ (v : Int32) (J : Nat → Nat → Int32) (H1 : Heap) (locs1 : List Loc), post v J → Hp E K L ad J H1 → va_S (AG E) s.heap H1 locs1 → W p l e R s m args below meth c H1 locs1 cells slots Q (F0 m (pc + 3) ls (.int v :: rest))) : W p l e R s m args below meth c H locs cells slots Q (F0 m pc ls (.int x0 :: .ref (ad r) :: rest)) :=
  r_callVi (As := [.int x0]) (ci := 5) C hP hS tm_X6_68 ti_X5_slotOf ts_X5_slotOf tz_X5 tc_X5_slotOf dy_X5_slotOf (by omega) (wE_6 _ _ _ _ hr) rfl rfl hM hR hcells hls rfl hroom hdg kk
theorem k_X6_73 (C : Cx E p s m args c cc RX6 nL) (hP : Hp E K L ad I H) (hS : va_S (AG E) s.heap H locs) {k : Nat} {x0 : Int32} {x1 : Int32} {x2 : Int32} {post : Int32 → (Nat → Nat → Int32) → Prop} (hr : K r = 4) (hM : MI l E K L ad I yX3_isTakenElsewhere cX3_isTakenElsewhere 6 (some .boolean) k [.ref (ad r), .int x0, .int x1, .int x2] post) (hR : k + 1 ≤ R.frames ∧ 8 + (6 + 11) + 26 * k ≤ R.locals) (hcells : cells ≤ R.cells ∧ slots ≤ R.slots) (hls : ls.size = nL) (hroom : (rest.map fun v => v.category).sum ≤ 8) (hdg : decode cc pc = .ok (.invokevirtual 73, 3)) (kk : ∀ (v : Int32) (J : Nat → Nat → Int32) (H1 : Heap) (locs1 : List Loc), post v J → Hp E K L ad J H1 → va_S (AG E) s.heap H1 locs1 → W p l e R s m args below meth c H1 locs1 cells slots Q (F0 m (pc + 3) ls (.int v :: rest))) : W p l e R s m args below meth c H locs cells slots Q (F0 m pc ls (.int x2 :: .int x1 :: .int x0 :: .ref (ad r) :: rest)) :=
  r_callVi (As := [.int x0, .int x1, .int x2]) (ci := 3) C hP hS tm_X6_73 ti_X3_isTakenElsewhere ts_X3_isTakenElsewhere tz_X3 tc_X3_isTakenElsewhere dy_X3_isTakenElsewhere (by omega) (wE_4 _ _ _ _ hr) rfl rfl hM hR hcells hls rfl hroom hdg kk
theorem k_X3_62 (C : Cx E p s m args c cc RX3 nL) (hP : Hp E K L ad I H) (hS : va_S (AG E) s.heap H locs) {k : Nat} {post : Int32 → (Nat → Nat → Int32) → Prop} (hr : K r = 6) (hM : MI l E K L ad I yX5_ownRegisters cX5_ownRegisters 3 (some .int) k [.ref (ad r)] post) (hR : k + 1 ≤ R.frames ∧ 8 + (3 + 11) + 26 * k ≤ R.locals) (hcells : cells ≤ R.cells ∧ slots ≤ R.slots) (hls : ls.size = nL) (hroom : (rest.map fun v => v.category).sum ≤ 8) (hdg : decode cc pc = .ok (.invokevirtual 62, 3)) (kk : ∀ (v : Int32) (J : Nat → Nat → Int32) (H1 : Heap) (locs1 : List Loc), post v J → Hp E K L ad J H1 → va_S (AG E) s.heap H1 locs1 → W p l e R s m args below meth c H1 locs1 cells slots Q (F0 m (pc + 3) ls (.int v :: rest))) : W p l e R s m args below meth c H locs cells slots Q (F0 m pc ls (.ref (ad r) :: rest)) :=
  r_callVi (As := []) (ci := 5) C hP hS tm_X3_62 ti_X5_ownRegisters ts_X5_ownRegisters tz_X5 tc_X5_ownRegisters dy_X5_ownRegisters (by omega) (wE_6 _ _ _ _ hr) rfl rfl hM hR hcells hls rfl hroom hdg kk
theorem k_X5_43 (C : Cx E p s m args c cc RX5 nL) (hP : Hp E K L ad I H) (hS : va_S (AG E) s.heap H locs) {k : Nat} {x0 : Int32} {post : Int32 → (Nat → Nat → Int32) → Prop} (hr : K r = 6) (hM : MI l E K L ad I yX5_isUsed cX5_isUsed 2 (some .boolean) k [.ref (ad r), .int x0] post) (hR : k + 1 ≤ R.frames ∧ 8 + (2 + 11) + 26 * k ≤ R.locals) (hcells : cells ≤ R.cells ∧ slots ≤ R.slots) (hls : ls.size = nL) (hroom : (rest.map fun v => v.category).sum ≤ 8) (hdg : decode cc pc = .ok (.invokevirtual 43, 3)) (kk : ∀ (v : Int32) (J : Nat → Nat → Int32) (H1 : Heap) (locs1 : List Loc), post v J → Hp E K L ad J H1 → va_S (AG E) s.heap H1 locs1 → W p l e R s m args below meth c H1 locs1 cells slots Q (F0 m (pc + 3) ls (.int v :: rest))) : W p l e R s m args below meth c H locs cells slots Q (F0 m pc ls (.int x0 :: .ref (ad r) :: rest)) :=
  r_callVi (As := [.int x0]) (ci := 5) C hP hS tm_X5_43 ti_X5_isUsed ts_X5_isUsed tz_X5 tc_X5_isUsed dy_X5_isUsed (by omega) (wE_6 _ _ _ _ hr) rfl rfl hM hR hcells hls rfl hroom hdg kk
theorem k_X5_54 (C : Cx E p s m args c cc RX5 nL) (hP : Hp E K L ad I H) (hS : va_S (AG E) s.heap H locs) {k : Nat} {post : Int32 → (Nat → Nat → Int32) → Prop} (hr : K r = 1) (hM : MI l E K L ad I yX0_ownRegisters cX0_ownRegisters 1 (some .int) k [.ref (ad r)] post) (hR : k + 1 ≤ R.frames ∧ 8 + (1 + 11) + 26 * k ≤ R.locals) (hcells : cells ≤ R.cells ∧ slots ≤ R.slots) (hls : ls.size = nL) (hroom : (rest.map fun v => v.category).sum ≤ 8) (hdg : decode cc pc = .ok (.invokevirtual 54, 3)) (kk : ∀ (v : Int32) (J : Nat → Nat → Int32) (H1 : Heap) (locs1 : List Loc), post v J → Hp E K L ad J H1 → va_S (AG E) s.heap H1 locs1 → W p l e R s m args below meth c H1 locs1 cells slots Q (F0 m (pc + 3) ls (.int v :: rest))) : W p l e R s m args below meth c H locs cells slots Q (F0 m pc ls (.ref (ad r) :: rest)) :=
  r_callVi (As := []) (ci := 0) C hP hS tm_X5_54 ti_X0_ownRegisters ts_X0_ownRegisters tz_X0 tc_X0_ownRegisters dy_X0_ownRegisters (by omega) (wE_1 _ _ _ _ hr) rfl rfl hM hR hcells hls rfl hroom hdg kk
theorem k_X6_79 (C : Cx E p s m args c cc RX6 nL) (hP : Hp E K L ad I H) (hS : va_S (AG E) s.heap H locs) {k : Nat} {x0 : Int32} {x1 : Int32} {x2 : Int32} {x3 : Int32} {post : Int32 → (Nat → Nat → Int32) → Prop} (hr : K r = 6) (hM : MI l E K L ad I yX5_addEntry cX5_addEntry 5 (some .int) k [.ref (ad r), .int x0, .int x1, .int x2, .int x3] post) (hR : k + 1 ≤ R.frames ∧ 8 + (5 + 11) + 26 * k ≤ R.locals) (hcells : cells ≤ R.cells ∧ slots ≤ R.slots) (hls : ls.size = nL) (hroom : (rest.map fun v => v.category).sum ≤ 8) (hdg : decode cc pc = .ok (.invokevirtual 79, 3)) (kk : ∀ (v : Int32) (J : Nat → Nat → Int32) (H1 : Heap) (locs1 : List Loc), post v J → Hp E K L ad J H1 → va_S (AG E) s.heap H1 locs1 → W p l e R s m args below meth c H1 locs1 cells slots Q (F0 m (pc + 3) ls (.int v :: rest))) : W p l e R s m args below meth c H locs cells slots Q (F0 m pc ls (.int x3 :: .int x2 :: .int x1 :: .int x0 :: .ref (ad r) :: rest)) :=
  r_callVi (As := [.int x0, .int x1, .int x2, .int x3]) (ci := 5) C hP hS tm_X6_79 ti_X5_addEntry ts_X5_addEntry tz_X5 tc_X5_addEntry dy_X5_addEntry (by omega) (wE_6 _ _ _ _ hr) rfl rfl hM hR hcells hls rfl hroom hdg kk
theorem k_L_23 (C : Cx E p s m args c cc RL nL) (hP : Hp E K L ad I H) (hS : va_S (AG E) s.heap H locs) {k : Nat} {x0 : Int32} {x1 : Int32} {x2 : Int32} {x3 : Int32} {post : Int32 → (Nat → Nat → Int32) → Prop} (hr : K r = 7) (hM : MI l E K L ad I yX6_otherwise cX6_otherwise 7 (some .int) k [.ref (ad r), .int x0, .int x1, .int x2, .int x3] post) (hR : k + 1 ≤ R.frames ∧ 8 + (7 + 11) + 26 * k ≤ R.locals) (hcells : cells ≤ R.cells ∧ slots ≤ R.slots) (hls : ls.size = nL) (hroom : (rest.map fun v => v.category).sum ≤ 8) (hdg : decode cc pc = .ok (.invokevirtual 23, 3)) (kk : ∀ (v : Int32) (J : Nat → Nat → Int32) (H1 : Heap) (locs1 : List Loc), post v J → Hp E K L ad J H1 → va_S (AG E) s.heap H1 locs1 → W p l e R s m args below meth c H1 locs1 cells slots Q (F0 m (pc + 3) ls (.int v :: rest))) : W p l e R s m args below meth c H locs cells slots Q (F0 m pc ls (.int x3 :: .int x2 :: .int x1 :: .int x0 :: .ref (ad r) :: rest)) :=
  r_callVi (As := [.int x0, .int x1, .int x2, .int x3]) (ci := 6) C hP hS tm_L_23 ti_X6_otherwise ts_X6_otherwise tz_X6 tc_X6_otherwise dy_X6_otherwise (by omega) (wE_7 _ _ _ _ hr) rfl rfl hM hR hcells hls rfl hroom hdg kk
theorem k_X6_92 (C : Cx E p s m args c cc RX6 nL) (hP : Hp E K L ad I H) (hS : va_S (AG E) s.heap H locs) {k : Nat} {x0 : Int32} {x1 : Int32} {x2 : Int32} {post : (Nat → Nat → Int32) → Prop} (hr : K r = 1) (hM : MV l E K L ad I yX0_become cX0_become 4 k [.ref (ad r), .int x0, .int x1, .int x2] post) (hR : k + 1 ≤ R.frames ∧ 8 + (4 + 11) + 26 * k ≤ R.locals) (hcells : cells ≤ R.cells ∧ slots ≤ R.slots) (hls : ls.size = nL) (hroom : (rest.map fun v => v.category).sum ≤ 8) (hdg : decode cc pc = .ok (.invokevirtual 92, 3)) (kk : ∀ (J : Nat → Nat → Int32) (H1 : Heap) (locs1 : List Loc), post J → Hp E K L ad J H1 → va_S (AG E) s.heap H1 locs1 → W p l e R s m args below meth c H1 locs1 cells slots Q (F0 m (pc + 3) ls rest)) : W p l e R s m args below meth c H locs cells slots Q (F0 m pc ls (.int x2 :: .int x1 :: .int x0 :: .ref (ad r) :: rest)) :=
  r_callVv (As := [.int x0, .int x1, .int x2]) (ci := 0) C hP hS tm_X6_92 ti_X0_become ts_X0_become tz_X0 tc_X0_become dy_X0_become (by omega) (wE_1 _ _ _ _ hr) rfl rfl hM hR hcells hls rfl hroom hdg kk
theorem k_L_28 (C : Cx E p s m args c cc RL nL) (hP : Hp E K L ad I H) (hS : va_S (AG E) s.heap H locs) {k : Nat} {x0 : Int32} {x1 : Int32} {post : Int32 → (Nat → Nat → Int32) → Prop} (hr : K r = 7) (hM : MI l E K L ad I yX6_forget cX6_forget 4 (some .int) k [.ref (ad r), .int x0, .int x1] post) (hR : k + 1 ≤ R.frames ∧ 8 + (4 + 11) + 26 * k ≤ R.locals) (hcells : cells ≤ R.cells ∧ slots ≤ R.slots) (hls : ls.size = nL) (hroom : (rest.map fun v => v.category).sum ≤ 8) (hdg : decode cc pc = .ok (.invokevirtual 28, 3)) (kk : ∀ (v : Int32) (J : Nat → Nat → Int32) (H1 : Heap) (locs1 : List Loc), post v J → Hp E K L ad J H1 → va_S (AG E) s.heap H1 locs1 → W p l e R s m args below meth c H1 locs1 cells slots Q (F0 m (pc + 3) ls (.int v :: rest))) : W p l e R s m args below meth c H locs cells slots Q (F0 m pc ls (.int x1 :: .int x0 :: .ref (ad r) :: rest)) :=
  r_callVi (As := [.int x0, .int x1]) (ci := 6) C hP hS tm_L_28 ti_X6_forget ts_X6_forget tz_X6 tc_X6_forget dy_X6_forget (by omega) (wE_7 _ _ _ _ hr) rfl rfl hM hR hcells hls rfl hroom hdg kk
theorem k_X6_96 (C : Cx E p s m args c cc RX6 nL) (hP : Hp E K L ad I H) (hS : va_S (AG E) s.heap H locs) {k : Nat} {x0 : Int32} {post : Int32 → (Nat → Nat → Int32) → Prop} (hr : K r = 6) (hM : MI l E K L ad I yX5_removeEntry cX5_removeEntry 3 (some .int) k [.ref (ad r), .int x0] post) (hR : k + 1 ≤ R.frames ∧ 8 + (3 + 11) + 26 * k ≤ R.locals) (hcells : cells ≤ R.cells ∧ slots ≤ R.slots) (hls : ls.size = nL) (hroom : (rest.map fun v => v.category).sum ≤ 8) (hdg : decode cc pc = .ok (.invokevirtual 96, 3)) (kk : ∀ (v : Int32) (J : Nat → Nat → Int32) (H1 : Heap) (locs1 : List Loc), post v J → Hp E K L ad J H1 → va_S (AG E) s.heap H1 locs1 → W p l e R s m args below meth c H1 locs1 cells slots Q (F0 m (pc + 3) ls (.int v :: rest))) : W p l e R s m args below meth c H locs cells slots Q (F0 m pc ls (.int x0 :: .ref (ad r) :: rest)) :=
  r_callVi (As := [.int x0]) (ci := 5) C hP hS tm_X6_96 ti_X5_removeEntry ts_X5_removeEntry tz_X5 tc_X5_removeEntry dy_X5_removeEntry (by omega) (wE_6 _ _ _ _ hr) rfl rfl hM hR hcells hls rfl hroom hdg kk
theorem k_X5_39 (C : Cx E p s m args c cc RX5 nL) (hP : Hp E K L ad I H) (hS : va_S (AG E) s.heap H locs) {k : Nat} {x0 : Nat} {post : (Nat → Nat → Int32) → Prop} (hr : K r = 1) (hM : MV l E K L ad I yX0_copy cX0_copy 2 k [.ref (ad r), .ref x0] post) (hR : k + 1 ≤ R.frames ∧ 8 + (2 + 11) + 26 * k ≤ R.locals) (hcells : cells ≤ R.cells ∧ slots ≤ R.slots) (hls : ls.size = nL) (hroom : (rest.map fun v => v.category).sum ≤ 8) (hdg : decode cc pc = .ok (.invokevirtual 39, 3)) (kk : ∀ (J : Nat → Nat → Int32) (H1 : Heap) (locs1 : List Loc), post J → Hp E K L ad J H1 → va_S (AG E) s.heap H1 locs1 → W p l e R s m args below meth c H1 locs1 cells slots Q (F0 m (pc + 3) ls rest)) : W p l e R s m args below meth c H locs cells slots Q (F0 m pc ls (.ref x0 :: .ref (ad r) :: rest)) :=
  r_callVv (As := [.ref x0]) (ci := 0) C hP hS tm_X5_39 ti_X0_copy ts_X0_copy tz_X0 tc_X0_copy dy_X0_copy (by omega) (wE_1 _ _ _ _ hr) rfl rfl hM hR hcells hls rfl hroom hdg kk
theorem k_L_33 (C : Cx E p s m args c cc RL nL) (hP : Hp E K L ad I H) (hS : va_S (AG E) s.heap H locs) {k : Nat} {x0 : Int32} {post : Int32 → (Nat → Nat → Int32) → Prop} (hr : K r = 7) (hM : MI l E K L ad I yX6_drop cX6_drop 2 (some .int) k [.ref (ad r), .int x0] post) (hR : k + 1 ≤ R.frames ∧ 8 + (2 + 11) + 26 * k ≤ R.locals) (hcells : cells ≤ R.cells ∧ slots ≤ R.slots) (hls : ls.size = nL) (hroom : (rest.map fun v => v.category).sum ≤ 8) (hdg : decode cc pc = .ok (.invokevirtual 33, 3)) (kk : ∀ (v : Int32) (J : Nat → Nat → Int32) (H1 : Heap) (locs1 : List Loc), post v J → Hp E K L ad J H1 → va_S (AG E) s.heap H1 locs1 → W p l e R s m args below meth c H1 locs1 cells slots Q (F0 m (pc + 3) ls (.int v :: rest))) : W p l e R s m args below meth c H locs cells slots Q (F0 m pc ls (.int x0 :: .ref (ad r) :: rest)) :=
  r_callVi (As := [.int x0]) (ci := 6) C hP hS tm_L_33 ti_X6_drop ts_X6_drop tz_X6 tc_X6_drop dy_X6_drop (by omega) (wE_7 _ _ _ _ hr) rfl rfl hM hR hcells hls rfl hroom hdg kk
theorem k_X6_99 (C : Cx E p s m args c cc RX6 nL) (hP : Hp E K L ad I H) (hS : va_S (AG E) s.heap H locs) {k : Nat} {x0 : Int32} {post : Int32 → (Nat → Nat → Int32) → Prop} (hr : K r = 4) (hM : MI l E K L ad I yX3_removeTable cX3_removeTable 4 (some .int) k [.ref (ad r), .int x0] post) (hR : k + 1 ≤ R.frames ∧ 8 + (4 + 11) + 26 * k ≤ R.locals) (hcells : cells ≤ R.cells ∧ slots ≤ R.slots) (hls : ls.size = nL) (hroom : (rest.map fun v => v.category).sum ≤ 8) (hdg : decode cc pc = .ok (.invokevirtual 99, 3)) (kk : ∀ (v : Int32) (J : Nat → Nat → Int32) (H1 : Heap) (locs1 : List Loc), post v J → Hp E K L ad J H1 → va_S (AG E) s.heap H1 locs1 → W p l e R s m args below meth c H1 locs1 cells slots Q (F0 m (pc + 3) ls (.int v :: rest))) : W p l e R s m args below meth c H locs cells slots Q (F0 m pc ls (.int x0 :: .ref (ad r) :: rest)) :=
  r_callVi (As := [.int x0]) (ci := 3) C hP hS tm_X6_99 ti_X3_removeTable ts_X3_removeTable tz_X3 tc_X3_removeTable dy_X3_removeTable (by omega) (wE_4 _ _ _ _ hr) rfl rfl hM hR hcells hls rfl hroom hdg kk
theorem k_L_37 (C : Cx E p s m args c cc RL nL) (hP : Hp E K L ad I H) (hS : va_S (AG E) s.heap H locs) {k : Nat} {x0 : Int32} {x1 : Int32} {post : Int32 → (Nat → Nat → Int32) → Prop} (hr : K r = 7) (hM : MI l E K L ad I yX6_rule cX6_rule 4 (some .int) k [.ref (ad r), .int x0, .int x1] post) (hR : k + 1 ≤ R.frames ∧ 8 + (4 + 11) + 26 * k ≤ R.locals) (hcells : cells ≤ R.cells ∧ slots ≤ R.slots) (hls : ls.size = nL) (hroom : (rest.map fun v => v.category).sum ≤ 8) (hdg : decode cc pc = .ok (.invokevirtual 37, 3)) (kk : ∀ (v : Int32) (J : Nat → Nat → Int32) (H1 : Heap) (locs1 : List Loc), post v J → Hp E K L ad J H1 → va_S (AG E) s.heap H1 locs1 → W p l e R s m args below meth c H1 locs1 cells slots Q (F0 m (pc + 3) ls (.int v :: rest))) : W p l e R s m args below meth c H locs cells slots Q (F0 m pc ls (.int x1 :: .int x0 :: .ref (ad r) :: rest)) :=
  r_callVi (As := [.int x0, .int x1]) (ci := 6) C hP hS tm_L_37 ti_X6_rule ts_X6_rule tz_X6 tc_X6_rule dy_X6_rule (by omega) (wE_7 _ _ _ _ hr) rfl rfl hM hR hcells hls rfl hroom hdg kk
theorem k_L_41 (C : Cx E p s m args c cc RL nL) (hP : Hp E K L ad I H) (hS : va_S (AG E) s.heap H locs) {k : Nat} {x0 : Int32} {x1 : Int32} {post : Int32 → (Nat → Nat → Int32) → Prop} (hr : K r = 7) (hM : MI l E K L ad I yX6_told cX6_told 4 (some .int) k [.ref (ad r), .int x0, .int x1] post) (hR : k + 1 ≤ R.frames ∧ 8 + (4 + 11) + 26 * k ≤ R.locals) (hcells : cells ≤ R.cells ∧ slots ≤ R.slots) (hls : ls.size = nL) (hroom : (rest.map fun v => v.category).sum ≤ 8) (hdg : decode cc pc = .ok (.invokevirtual 41, 3)) (kk : ∀ (v : Int32) (J : Nat → Nat → Int32) (H1 : Heap) (locs1 : List Loc), post v J → Hp E K L ad J H1 → va_S (AG E) s.heap H1 locs1 → W p l e R s m args below meth c H1 locs1 cells slots Q (F0 m (pc + 3) ls (.int v :: rest))) : W p l e R s m args below meth c H locs cells slots Q (F0 m pc ls (.int x1 :: .int x0 :: .ref (ad r) :: rest)) :=
  r_callVi (As := [.int x0, .int x1]) (ci := 6) C hP hS tm_L_41 ti_X6_told ts_X6_told tz_X6 tc_X6_told dy_X6_told (by omega) (wE_7 _ _ _ _ hr) rfl rfl hM hR hcells hls rfl hroom hdg kk
theorem k_X6_118 (C : Cx E p s m args c cc RX6 nL) (hP : Hp E K L ad I H) (hS : va_S (AG E) s.heap H locs) {k : Nat} {x0 : Nat} {post : (Nat → Nat → Int32) → Prop} (hr : K r = 3) (hM : MV l E K L ad I yX2_arrange cX2_arrange 3 k [.ref (ad r), .ref x0] post) (hR : k + 1 ≤ R.frames ∧ 8 + (3 + 11) + 26 * k ≤ R.locals) (hcells : cells ≤ R.cells ∧ slots ≤ R.slots) (hls : ls.size = nL) (hroom : (rest.map fun v => v.category).sum ≤ 8) (hdg : decode cc pc = .ok (.invokevirtual 118, 3)) (kk : ∀ (J : Nat → Nat → Int32) (H1 : Heap) (locs1 : List Loc), post J → Hp E K L ad J H1 → va_S (AG E) s.heap H1 locs1 → W p l e R s m args below meth c H1 locs1 cells slots Q (F0 m (pc + 3) ls rest)) : W p l e R s m args below meth c H locs cells slots Q (F0 m pc ls (.ref x0 :: .ref (ad r) :: rest)) :=
  r_callVv (As := [.ref x0]) (ci := 2) C hP hS tm_X6_118 ti_X2_arrange ts_X2_arrange tz_X2 tc_X2_arrange dy_X2_arrange (by omega) (wE_3 _ _ _ _ hr) rfl rfl hM hR hcells hls rfl hroom hdg kk
theorem k_X2_52 (C : Cx E p s m args c cc RX2 nL) (hP : Hp E K L ad I H) (hS : va_S (AG E) s.heap H locs) {k : Nat} {x0 : Int32} {x1 : Nat} {post : (Nat → Nat → Int32) → Prop} (hr : K r = 3) (hM : MV l E K L ad I yX2_look cX2_look 5 k [.ref (ad r), .int x0, .ref x1] post) (hR : k + 1 ≤ R.frames ∧ 8 + (5 + 11) + 26 * k ≤ R.locals) (hcells : cells ≤ R.cells ∧ slots ≤ R.slots) (hls : ls.size = nL) (hroom : (rest.map fun v => v.category).sum ≤ 8) (hdg : decode cc pc = .ok (.invokevirtual 52, 3)) (kk : ∀ (J : Nat → Nat → Int32) (H1 : Heap) (locs1 : List Loc), post J → Hp E K L ad J H1 → va_S (AG E) s.heap H1 locs1 → W p l e R s m args below meth c H1 locs1 cells slots Q (F0 m (pc + 3) ls rest)) : W p l e R s m args below meth c H locs cells slots Q (F0 m pc ls (.ref x1 :: .int x0 :: .ref (ad r) :: rest)) :=
  r_callVv (As := [.int x0, .ref x1]) (ci := 2) C hP hS tm_X2_52 ti_X2_look ts_X2_look tz_X2 tc_X2_look dy_X2_look (by omega) (wE_3 _ _ _ _ hr) rfl rfl hM hR hcells hls rfl hroom hdg kk
theorem k_X2_78 (C : Cx E p s m args c cc RX2 nL) (hP : Hp E K L ad I H) (hS : va_S (AG E) s.heap H locs) {k : Nat} {post : Int32 → (Nat → Nat → Int32) → Prop} (hr : K r = 6) (hM : MI l E K L ad I yX5_writtenFields cX5_writtenFields 3 (some .int) k [.ref (ad r)] post) (hR : k + 1 ≤ R.frames ∧ 8 + (3 + 11) + 26 * k ≤ R.locals) (hcells : cells ≤ R.cells ∧ slots ≤ R.slots) (hls : ls.size = nL) (hroom : (rest.map fun v => v.category).sum ≤ 8) (hdg : decode cc pc = .ok (.invokevirtual 78, 3)) (kk : ∀ (v : Int32) (J : Nat → Nat → Int32) (H1 : Heap) (locs1 : List Loc), post v J → Hp E K L ad J H1 → va_S (AG E) s.heap H1 locs1 → W p l e R s m args below meth c H1 locs1 cells slots Q (F0 m (pc + 3) ls (.int v :: rest))) : W p l e R s m args below meth c H locs cells slots Q (F0 m pc ls (.ref (ad r) :: rest)) :=
  r_callVi (As := []) (ci := 5) C hP hS tm_X2_78 ti_X5_writtenFields ts_X5_writtenFields tz_X5 tc_X5_writtenFields dy_X5_writtenFields (by omega) (wE_6 _ _ _ _ hr) rfl rfl hM hR hcells hls rfl hroom hdg kk
theorem k_X5_47 (C : Cx E p s m args c cc RX5 nL) (hP : Hp E K L ad I H) (hS : va_S (AG E) s.heap H locs) {k : Nat} {post : Int32 → (Nat → Nat → Int32) → Prop} (hr : K r = 1) (hM : MI l E K L ad I yX0_writtenFields cX0_writtenFields 1 (some .int) k [.ref (ad r)] post) (hR : k + 1 ≤ R.frames ∧ 8 + (1 + 11) + 26 * k ≤ R.locals) (hcells : cells ≤ R.cells ∧ slots ≤ R.slots) (hls : ls.size = nL) (hroom : (rest.map fun v => v.category).sum ≤ 8) (hdg : decode cc pc = .ok (.invokevirtual 47, 3)) (kk : ∀ (v : Int32) (J : Nat → Nat → Int32) (H1 : Heap) (locs1 : List Loc), post v J → Hp E K L ad J H1 → va_S (AG E) s.heap H1 locs1 → W p l e R s m args below meth c H1 locs1 cells slots Q (F0 m (pc + 3) ls (.int v :: rest))) : W p l e R s m args below meth c H locs cells slots Q (F0 m pc ls (.ref (ad r) :: rest)) :=
  r_callVi (As := []) (ci := 0) C hP hS tm_X5_47 ti_X0_writtenFields ts_X0_writtenFields tz_X0 tc_X0_writtenFields dy_X0_writtenFields (by omega) (wE_1 _ _ _ _ hr) rfl rfl hM hR hcells hls rfl hroom hdg kk
theorem k_X2_82 (C : Cx E p s m args c cc RX2 nL) (hP : Hp E K L ad I H) (hS : va_S (AG E) s.heap H locs) {k : Nat} {post : Int32 → (Nat → Nat → Int32) → Prop} (hr : K r = 6) (hM : MI l E K L ad I yX5_readFields cX5_readFields 3 (some .int) k [.ref (ad r)] post) (hR : k + 1 ≤ R.frames ∧ 8 + (3 + 11) + 26 * k ≤ R.locals) (hcells : cells ≤ R.cells ∧ slots ≤ R.slots) (hls : ls.size = nL) (hroom : (rest.map fun v => v.category).sum ≤ 8) (hdg : decode cc pc = .ok (.invokevirtual 82, 3)) (kk : ∀ (v : Int32) (J : Nat → Nat → Int32) (H1 : Heap) (locs1 : List Loc), post v J → Hp E K L ad J H1 → va_S (AG E) s.heap H1 locs1 → W p l e R s m args below meth c H1 locs1 cells slots Q (F0 m (pc + 3) ls (.int v :: rest))) : W p l e R s m args below meth c H locs cells slots Q (F0 m pc ls (.ref (ad r) :: rest)) :=
  r_callVi (As := []) (ci := 5) C hP hS tm_X2_82 ti_X5_readFields ts_X5_readFields tz_X5 tc_X5_readFields dy_X5_readFields (by omega) (wE_6 _ _ _ _ hr) rfl rfl hM hR hcells hls rfl hroom hdg kk
theorem k_X5_51 (C : Cx E p s m args c cc RX5 nL) (hP : Hp E K L ad I H) (hS : va_S (AG E) s.heap H locs) {k : Nat} {post : Int32 → (Nat → Nat → Int32) → Prop} (hr : K r = 1) (hM : MI l E K L ad I yX0_readFields cX0_readFields 1 (some .int) k [.ref (ad r)] post) (hR : k + 1 ≤ R.frames ∧ 8 + (1 + 11) + 26 * k ≤ R.locals) (hcells : cells ≤ R.cells ∧ slots ≤ R.slots) (hls : ls.size = nL) (hroom : (rest.map fun v => v.category).sum ≤ 8) (hdg : decode cc pc = .ok (.invokevirtual 51, 3)) (kk : ∀ (v : Int32) (J : Nat → Nat → Int32) (H1 : Heap) (locs1 : List Loc), post v J → Hp E K L ad J H1 → va_S (AG E) s.heap H1 locs1 → W p l e R s m args below meth c H1 locs1 cells slots Q (F0 m (pc + 3) ls (.int v :: rest))) : W p l e R s m args below meth c H locs cells slots Q (F0 m pc ls (.ref (ad r) :: rest)) :=
  r_callVi (As := []) (ci := 0) C hP hS tm_X5_51 ti_X0_readFields ts_X0_readFields tz_X0 tc_X0_readFields dy_X0_readFields (by omega) (wE_1 _ _ _ _ hr) rfl rfl hM hR hcells hls rfl hroom hdg kk
theorem k_X2_85 (C : Cx E p s m args c cc RX2 nL) (hP : Hp E K L ad I H) (hS : va_S (AG E) s.heap H locs) {k : Nat} {post : Int32 → (Nat → Nat → Int32) → Prop} (hr : K r = 6) (hM : MI l E K L ad I yX5_size cX5_size 1 (some .int) k [.ref (ad r)] post) (hR : k + 1 ≤ R.frames ∧ 8 + (1 + 11) + 26 * k ≤ R.locals) (hcells : cells ≤ R.cells ∧ slots ≤ R.slots) (hls : ls.size = nL) (hroom : (rest.map fun v => v.category).sum ≤ 8) (hdg : decode cc pc = .ok (.invokevirtual 85, 3)) (kk : ∀ (v : Int32) (J : Nat → Nat → Int32) (H1 : Heap) (locs1 : List Loc), post v J → Hp E K L ad J H1 → va_S (AG E) s.heap H1 locs1 → W p l e R s m args below meth c H1 locs1 cells slots Q (F0 m (pc + 3) ls (.int v :: rest))) : W p l e R s m args below meth c H locs cells slots Q (F0 m pc ls (.ref (ad r) :: rest)) :=
  r_callVi (As := []) (ci := 5) C hP hS tm_X2_85 ti_X5_size ts_X5_size tz_X5 tc_X5_size dy_X5_size (by omega) (wE_6 _ _ _ _ hr) rfl rfl hM hR hcells hls rfl hroom hdg kk
theorem k_X2_87 (C : Cx E p s m args c cc RX2 nL) (hP : Hp E K L ad I H) (hS : va_S (AG E) s.heap H locs) {k : Nat} {x0 : Int32} {x1 : Int32} {post : Int32 → (Nat → Nat → Int32) → Prop} (hr : K r = 3) (hM : MI l E K L ad I yX2_needOf cX2_needOf 3 (some .int) k [.ref (ad r), .int x0, .int x1] post) (hR : k + 1 ≤ R.frames ∧ 8 + (3 + 11) + 26 * k ≤ R.locals) (hcells : cells ≤ R.cells ∧ slots ≤ R.slots) (hls : ls.size = nL) (hroom : (rest.map fun v => v.category).sum ≤ 8) (hdg : decode cc pc = .ok (.invokevirtual 87, 3)) (kk : ∀ (v : Int32) (J : Nat → Nat → Int32) (H1 : Heap) (locs1 : List Loc), post v J → Hp E K L ad J H1 → va_S (AG E) s.heap H1 locs1 → W p l e R s m args below meth c H1 locs1 cells slots Q (F0 m (pc + 3) ls (.int v :: rest))) : W p l e R s m args below meth c H locs cells slots Q (F0 m pc ls (.int x1 :: .int x0 :: .ref (ad r) :: rest)) :=
  r_callVi (As := [.int x0, .int x1]) (ci := 2) C hP hS tm_X2_87 ti_X2_needOf ts_X2_needOf tz_X2 tc_X2_needOf dy_X2_needOf (by omega) (wE_3 _ _ _ _ hr) rfl rfl hM hR hcells hls rfl hroom hdg kk
theorem k_X2_91 (C : Cx E p s m args c cc RX2 nL) (hP : Hp E K L ad I H) (hS : va_S (AG E) s.heap H locs) {k : Nat} {x0 : Int32} {x1 : Int32} {post : Int32 → (Nat → Nat → Int32) → Prop} (hM : MI l E K L ad I yJ9_max_7cf53 cJ9_max_7cf53 2 (some .int) k [.int x0, .int x1] post) (hR : k + 1 ≤ R.frames ∧ 8 + (2 + 11) + 26 * k ≤ R.locals) (hcells : cells ≤ R.cells ∧ slots ≤ R.slots) (hls : ls.size = nL) (hroom : (rest.map fun v => v.category).sum ≤ 8) (hdg : decode cc pc = .ok (.invokestatic 91, 3)) (kk : ∀ (v : Int32) (J : Nat → Nat → Int32) (H1 : Heap) (locs1 : List Loc), post v J → Hp E K L ad J H1 → va_S (AG E) s.heap H1 locs1 → W p l e R s m args below meth c H1 locs1 cells slots Q (F0 m (pc + 3) ls (.int v :: rest))) : W p l e R s m args below meth c H locs cells slots Q (F0 m pc ls (.int x1 :: .int x0 :: rest)) :=
  r_callSi (As := [.int x0, .int x1]) C hP hS tm_X2_91 tt_J9_max_7cf53 tz_J9 tc_J9_max_7cf53 dy_J9_max_7cf53 hM hR hcells hls rfl hroom hdg kk
theorem k_X2_56 (C : Cx E p s m args c cc RX2 nL) (hP : Hp E K L ad I H) (hS : va_S (AG E) s.heap H locs) {k : Nat} {x0 : Nat} {x1 : Int32} {post : (Nat → Nat → Int32) → Prop} (hM : MV l E K L ad I yJ7_fill_53178 cJ7_fill_53178 4 k [.ref x0, .int x1] post) (hR : k + 1 ≤ R.frames ∧ 8 + (4 + 11) + 26 * k ≤ R.locals) (hcells : cells ≤ R.cells ∧ slots ≤ R.slots) (hls : ls.size = nL) (hroom : (rest.map fun v => v.category).sum ≤ 8) (hdg : decode cc pc = .ok (.invokestatic 56, 3)) (kk : ∀ (J : Nat → Nat → Int32) (H1 : Heap) (locs1 : List Loc), post J → Hp E K L ad J H1 → va_S (AG E) s.heap H1 locs1 → W p l e R s m args below meth c H1 locs1 cells slots Q (F0 m (pc + 3) ls rest)) : W p l e R s m args below meth c H locs cells slots Q (F0 m pc ls (.int x1 :: .ref x0 :: rest)) :=
  r_callSv (As := [.ref x0, .int x1]) C hP hS tm_X2_56 tt_J7_fill_53178 tz_J7 tc_J7_fill_53178 dy_J7_fill_53178 hM hR hcells hls rfl hroom hdg kk
theorem k_X2_69 (C : Cx E p s m args c cc RX2 nL) (hP : Hp E K L ad I H) (hS : va_S (AG E) s.heap H locs) {k : Nat} {x0 : Int32} {x1 : Nat} {post : Int32 → (Nat → Nat → Int32) → Prop} (hr : K r = 3) (hM : MI l E K L ad I yX2_place cX2_place 4 (some .boolean) k [.ref (ad r), .int x0, .ref x1] post) (hR : k + 1 ≤ R.frames ∧ 8 + (4 + 11) + 26 * k ≤ R.locals) (hcells : cells ≤ R.cells ∧ slots ≤ R.slots) (hls : ls.size = nL) (hroom : (rest.map fun v => v.category).sum ≤ 8) (hdg : decode cc pc = .ok (.invokevirtual 69, 3)) (kk : ∀ (v : Int32) (J : Nat → Nat → Int32) (H1 : Heap) (locs1 : List Loc), post v J → Hp E K L ad J H1 → va_S (AG E) s.heap H1 locs1 → W p l e R s m args below meth c H1 locs1 cells slots Q (F0 m (pc + 3) ls (.int v :: rest))) : W p l e R s m args below meth c H locs cells slots Q (F0 m pc ls (.ref x1 :: .int x0 :: .ref (ad r) :: rest)) :=
  r_callVi (As := [.int x0, .ref x1]) (ci := 2) C hP hS tm_X2_69 ti_X2_place ts_X2_place tz_X2 tc_X2_place dy_X2_place (by omega) (wE_3 _ _ _ _ hr) rfl rfl hM hR hcells hls rfl hroom hdg kk
theorem k_X2_96 (C : Cx E p s m args c cc RX2 nL) (hP : Hp E K L ad I H) (hS : va_S (AG E) s.heap H locs) {k : Nat} {x0 : Int32} {post : Int32 → (Nat → Nat → Int32) → Prop} (hr : K r = 3) (hM : MI l E K L ad I yX2_leastStage cX2_leastStage 4 (some .int) k [.ref (ad r), .int x0] post) (hR : k + 1 ≤ R.frames ∧ 8 + (4 + 11) + 26 * k ≤ R.locals) (hcells : cells ≤ R.cells ∧ slots ≤ R.slots) (hls : ls.size = nL) (hroom : (rest.map fun v => v.category).sum ≤ 8) (hdg : decode cc pc = .ok (.invokevirtual 96, 3)) (kk : ∀ (v : Int32) (J : Nat → Nat → Int32) (H1 : Heap) (locs1 : List Loc), post v J → Hp E K L ad J H1 → va_S (AG E) s.heap H1 locs1 → W p l e R s m args below meth c H1 locs1 cells slots Q (F0 m (pc + 3) ls (.int v :: rest))) : W p l e R s m args below meth c H locs cells slots Q (F0 m pc ls (.int x0 :: .ref (ad r) :: rest)) :=
  r_callVi (As := [.int x0]) (ci := 2) C hP hS tm_X2_96 ti_X2_leastStage ts_X2_leastStage tz_X2 tc_X2_leastStage dy_X2_leastStage (by omega) (wE_3 _ _ _ _ hr) rfl rfl hM hR hcells hls rfl hroom hdg kk
theorem k_X2_100 (C : Cx E p s m args c cc RX2 nL) (hP : Hp E K L ad I H) (hS : va_S (AG E) s.heap H locs) {k : Nat} {x0 : Int32} {post : Int32 → (Nat → Nat → Int32) → Prop} (hM : MI l E K L ad I yJ6_bitCount_0f7a4 cJ6_bitCount_0f7a4 1 (some .int) k [.int x0] post) (hR : k + 1 ≤ R.frames ∧ 8 + (1 + 11) + 26 * k ≤ R.locals) (hcells : cells ≤ R.cells ∧ slots ≤ R.slots) (hls : ls.size = nL) (hroom : (rest.map fun v => v.category).sum ≤ 8) (hdg : decode cc pc = .ok (.invokestatic 100, 3)) (kk : ∀ (v : Int32) (J : Nat → Nat → Int32) (H1 : Heap) (locs1 : List Loc), post v J → Hp E K L ad J H1 → va_S (AG E) s.heap H1 locs1 → W p l e R s m args below meth c H1 locs1 cells slots Q (F0 m (pc + 3) ls (.int v :: rest))) : W p l e R s m args below meth c H locs cells slots Q (F0 m pc ls (.int x0 :: rest)) :=
  r_callSi (As := [.int x0]) C hP hS tm_X2_100 tt_J6_bitCount_0f7a4 tz_J6 tc_J6_bitCount_0f7a4 dy_J6_bitCount_0f7a4 hM hR hcells hls rfl hroom hdg kk
theorem k_X6_132 (C : Cx E p s m args c cc RX6 nL) (hP : Hp E K L ad I H) (hS : va_S (AG E) s.heap H locs) {k : Nat} {post : Int32 → (Nat → Nat → Int32) → Prop} (hr : K r = 6) (hM : MI l E K L ad I yX5_writtenFields cX5_writtenFields 3 (some .int) k [.ref (ad r)] post) (hR : k + 1 ≤ R.frames ∧ 8 + (3 + 11) + 26 * k ≤ R.locals) (hcells : cells ≤ R.cells ∧ slots ≤ R.slots) (hls : ls.size = nL) (hroom : (rest.map fun v => v.category).sum ≤ 8) (hdg : decode cc pc = .ok (.invokevirtual 132, 3)) (kk : ∀ (v : Int32) (J : Nat → Nat → Int32) (H1 : Heap) (locs1 : List Loc), post v J → Hp E K L ad J H1 → va_S (AG E) s.heap H1 locs1 → W p l e R s m args below meth c H1 locs1 cells slots Q (F0 m (pc + 3) ls (.int v :: rest))) : W p l e R s m args below meth c H locs cells slots Q (F0 m pc ls (.ref (ad r) :: rest)) :=
  r_callVi (As := []) (ci := 5) C hP hS tm_X6_132 ti_X5_writtenFields ts_X5_writtenFields tz_X5 tc_X5_writtenFields dy_X5_writtenFields (by omega) (wE_6 _ _ _ _ hr) rfl rfl hM hR hcells hls rfl hroom hdg kk
theorem k_X6_136 (C : Cx E p s m args c cc RX6 nL) (hP : Hp E K L ad I H) (hS : va_S (AG E) s.heap H locs) {k : Nat} {post : Int32 → (Nat → Nat → Int32) → Prop} (hr : K r = 6) (hM : MI l E K L ad I yX5_readFields cX5_readFields 3 (some .int) k [.ref (ad r)] post) (hR : k + 1 ≤ R.frames ∧ 8 + (3 + 11) + 26 * k ≤ R.locals) (hcells : cells ≤ R.cells ∧ slots ≤ R.slots) (hls : ls.size = nL) (hroom : (rest.map fun v => v.category).sum ≤ 8) (hdg : decode cc pc = .ok (.invokevirtual 136, 3)) (kk : ∀ (v : Int32) (J : Nat → Nat → Int32) (H1 : Heap) (locs1 : List Loc), post v J → Hp E K L ad J H1 → va_S (AG E) s.heap H1 locs1 → W p l e R s m args below meth c H1 locs1 cells slots Q (F0 m (pc + 3) ls (.int v :: rest))) : W p l e R s m args below meth c H locs cells slots Q (F0 m pc ls (.ref (ad r) :: rest)) :=
  r_callVi (As := []) (ci := 5) C hP hS tm_X6_136 ti_X5_readFields ts_X5_readFields tz_X5 tc_X5_readFields dy_X5_readFields (by omega) (wE_6 _ _ _ _ hr) rfl rfl hM hR hcells hls rfl hroom hdg kk
theorem k_X6_139 (C : Cx E p s m args c cc RX6 nL) (hP : Hp E K L ad I H) (hS : va_S (AG E) s.heap H locs) {k : Nat} {post : Int32 → (Nat → Nat → Int32) → Prop} (hr : K r = 6) (hM : MI l E K L ad I yX5_ownRegisters cX5_ownRegisters 3 (some .int) k [.ref (ad r)] post) (hR : k + 1 ≤ R.frames ∧ 8 + (3 + 11) + 26 * k ≤ R.locals) (hcells : cells ≤ R.cells ∧ slots ≤ R.slots) (hls : ls.size = nL) (hroom : (rest.map fun v => v.category).sum ≤ 8) (hdg : decode cc pc = .ok (.invokevirtual 139, 3)) (kk : ∀ (v : Int32) (J : Nat → Nat → Int32) (H1 : Heap) (locs1 : List Loc), post v J → Hp E K L ad J H1 → va_S (AG E) s.heap H1 locs1 → W p l e R s m args below meth c H1 locs1 cells slots Q (F0 m (pc + 3) ls (.int v :: rest))) : W p l e R s m args below meth c H locs cells slots Q (F0 m pc ls (.ref (ad r) :: rest)) :=
  r_callVi (As := []) (ci := 5) C hP hS tm_X6_139 ti_X5_ownRegisters ts_X5_ownRegisters tz_X5 tc_X5_ownRegisters dy_X5_ownRegisters (by omega) (wE_6 _ _ _ _ hr) rfl rfl hM hR hcells hls rfl hroom hdg kk
theorem k_X6_142 (C : Cx E p s m args c cc RX6 nL) (hP : Hp E K L ad I H) (hS : va_S (AG E) s.heap H locs) {k : Nat} {x0 : Int32} {post : Int32 → (Nat → Nat → Int32) → Prop} (hr : K r = 6) (hM : MI l E K L ad I yX5_partOfAct cX5_partOfAct 5 (some .int) k [.ref (ad r), .int x0] post) (hR : k + 1 ≤ R.frames ∧ 8 + (5 + 11) + 26 * k ≤ R.locals) (hcells : cells ≤ R.cells ∧ slots ≤ R.slots) (hls : ls.size = nL) (hroom : (rest.map fun v => v.category).sum ≤ 8) (hdg : decode cc pc = .ok (.invokevirtual 142, 3)) (kk : ∀ (v : Int32) (J : Nat → Nat → Int32) (H1 : Heap) (locs1 : List Loc), post v J → Hp E K L ad J H1 → va_S (AG E) s.heap H1 locs1 → W p l e R s m args below meth c H1 locs1 cells slots Q (F0 m (pc + 3) ls (.int v :: rest))) : W p l e R s m args below meth c H locs cells slots Q (F0 m pc ls (.int x0 :: .ref (ad r) :: rest)) :=
  r_callVi (As := [.int x0]) (ci := 5) C hP hS tm_X6_142 ti_X5_partOfAct ts_X5_partOfAct tz_X5 tc_X5_partOfAct dy_X5_partOfAct (by omega) (wE_6 _ _ _ _ hr) rfl rfl hM hR hcells hls rfl hroom hdg kk
theorem k_L_45 (C : Cx E p s m args c cc RL nL) (hP : Hp E K L ad I H) (hS : va_S (AG E) s.heap H locs) {k : Nat} {x0 : Int32} {x1 : Int32} {post : Int32 → (Nat → Nat → Int32) → Prop} (hr : K r = 7) (hM : MI l E K L ad I yX6_needs cX6_needs 3 (some .int) k [.ref (ad r), .int x0, .int x1] post) (hR : k + 1 ≤ R.frames ∧ 8 + (3 + 11) + 26 * k ≤ R.locals) (hcells : cells ≤ R.cells ∧ slots ≤ R.slots) (hls : ls.size = nL) (hroom : (rest.map fun v => v.category).sum ≤ 8) (hdg : decode cc pc = .ok (.invokevirtual 45, 3)) (kk : ∀ (v : Int32) (J : Nat → Nat → Int32) (H1 : Heap) (locs1 : List Loc), post v J → Hp E K L ad J H1 → va_S (AG E) s.heap H1 locs1 → W p l e R s m args below meth c H1 locs1 cells slots Q (F0 m (pc + 3) ls (.int v :: rest))) : W p l e R s m args below meth c H locs cells slots Q (F0 m pc ls (.int x1 :: .int x0 :: .ref (ad r) :: rest)) :=
  r_callVi (As := [.int x0, .int x1]) (ci := 6) C hP hS tm_L_45 ti_X6_needs ts_X6_needs tz_X6 tc_X6_needs dy_X6_needs (by omega) (wE_7 _ _ _ _ hr) rfl rfl hM hR hcells hls rfl hroom hdg kk
theorem k_X6_145 (C : Cx E p s m args c cc RX6 nL) (hP : Hp E K L ad I H) (hS : va_S (AG E) s.heap H locs) {k : Nat} {x0 : Int32} {x1 : Int32} {post : Int32 → (Nat → Nat → Int32) → Prop} (hM : MI l E K L ad I yJ9_max_7cf53 cJ9_max_7cf53 2 (some .int) k [.int x0, .int x1] post) (hR : k + 1 ≤ R.frames ∧ 8 + (2 + 11) + 26 * k ≤ R.locals) (hcells : cells ≤ R.cells ∧ slots ≤ R.slots) (hls : ls.size = nL) (hroom : (rest.map fun v => v.category).sum ≤ 8) (hdg : decode cc pc = .ok (.invokestatic 145, 3)) (kk : ∀ (v : Int32) (J : Nat → Nat → Int32) (H1 : Heap) (locs1 : List Loc), post v J → Hp E K L ad J H1 → va_S (AG E) s.heap H1 locs1 → W p l e R s m args below meth c H1 locs1 cells slots Q (F0 m (pc + 3) ls (.int v :: rest))) : W p l e R s m args below meth c H locs cells slots Q (F0 m pc ls (.int x1 :: .int x0 :: rest)) :=
  r_callSi (As := [.int x0, .int x1]) C hP hS tm_X6_145 tt_J9_max_7cf53 tz_J9 tc_J9_max_7cf53 dy_J9_max_7cf53 hM hR hcells hls rfl hroom hdg kk
theorem k_X6_151 (C : Cx E p s m args c cc RX6 nL) (hP : Hp E K L ad I H) (hS : va_S (AG E) s.heap H locs) {k : Nat} {x0 : Int32} {x1 : Int32} {post : Int32 → (Nat → Nat → Int32) → Prop} (hM : MI l E K L ad I yJ9_min_7cf53 cJ9_min_7cf53 2 (some .int) k [.int x0, .int x1] post) (hR : k + 1 ≤ R.frames ∧ 8 + (2 + 11) + 26 * k ≤ R.locals) (hcells : cells ≤ R.cells ∧ slots ≤ R.slots) (hls : ls.size = nL) (hroom : (rest.map fun v => v.category).sum ≤ 8) (hdg : decode cc pc = .ok (.invokestatic 151, 3)) (kk : ∀ (v : Int32) (J : Nat → Nat → Int32) (H1 : Heap) (locs1 : List Loc), post v J → Hp E K L ad J H1 → va_S (AG E) s.heap H1 locs1 → W p l e R s m args below meth c H1 locs1 cells slots Q (F0 m (pc + 3) ls (.int v :: rest))) : W p l e R s m args below meth c H locs cells slots Q (F0 m pc ls (.int x1 :: .int x0 :: rest)) :=
  r_callSi (As := [.int x0, .int x1]) C hP hS tm_X6_151 tt_J9_min_7cf53 tz_J9 tc_J9_min_7cf53 dy_J9_min_7cf53 hM hR hcells hls rfl hroom hdg kk
theorem k_X6_154 (C : Cx E p s m args c cc RX6 nL) (hP : Hp E K L ad I H) (hS : va_S (AG E) s.heap H locs) {k : Nat} {x0 : Int32} {x1 : Int32} {post : Int32 → (Nat → Nat → Int32) → Prop} (hr : K r = 3) (hM : MI l E K L ad I yX2_needOf cX2_needOf 3 (some .int) k [.ref (ad r), .int x0, .int x1] post) (hR : k + 1 ≤ R.frames ∧ 8 + (3 + 11) + 26 * k ≤ R.locals) (hcells : cells ≤ R.cells ∧ slots ≤ R.slots) (hls : ls.size = nL) (hroom : (rest.map fun v => v.category).sum ≤ 8) (hdg : decode cc pc = .ok (.invokevirtual 154, 3)) (kk : ∀ (v : Int32) (J : Nat → Nat → Int32) (H1 : Heap) (locs1 : List Loc), post v J → Hp E K L ad J H1 → va_S (AG E) s.heap H1 locs1 → W p l e R s m args below meth c H1 locs1 cells slots Q (F0 m (pc + 3) ls (.int v :: rest))) : W p l e R s m args below meth c H locs cells slots Q (F0 m pc ls (.int x1 :: .int x0 :: .ref (ad r) :: rest)) :=
  r_callVi (As := [.int x0, .int x1]) (ci := 2) C hP hS tm_X6_154 ti_X2_needOf ts_X2_needOf tz_X2 tc_X2_needOf dy_X2_needOf (by omega) (wE_3 _ _ _ _ hr) rfl rfl hM hR hcells hls rfl hroom hdg kk
theorem k_L_49 (C : Cx E p s m args c cc RL nL) (hP : Hp E K L ad I H) (hS : va_S (AG E) s.heap H locs) {k : Nat} {post : Int32 → (Nat → Nat → Int32) → Prop} (hr : K r = 7) (hM : MI l E K L ad I yX6_stages cX6_stages 1 (some .int) k [.ref (ad r)] post) (hR : k + 1 ≤ R.frames ∧ 8 + (1 + 11) + 26 * k ≤ R.locals) (hcells : cells ≤ R.cells ∧ slots ≤ R.slots) (hls : ls.size = nL) (hroom : (rest.map fun v => v.category).sum ≤ 8) (hdg : decode cc pc = .ok (.invokevirtual 49, 3)) (kk : ∀ (v : Int32) (J : Nat → Nat → Int32) (H1 : Heap) (locs1 : List Loc), post v J → Hp E K L ad J H1 → va_S (AG E) s.heap H1 locs1 → W p l e R s m args below meth c H1 locs1 cells slots Q (F0 m (pc + 3) ls (.int v :: rest))) : W p l e R s m args below meth c H locs cells slots Q (F0 m pc ls (.ref (ad r) :: rest)) :=
  r_callVi (As := []) (ci := 6) C hP hS tm_L_49 ti_X6_stages ts_X6_stages tz_X6 tc_X6_stages dy_X6_stages (by omega) (wE_7 _ _ _ _ hr) rfl rfl hM hR hcells hls rfl hroom hdg kk
theorem k_X6_157 (C : Cx E p s m args c cc RX6 nL) (hP : Hp E K L ad I H) (hS : va_S (AG E) s.heap H locs) {k : Nat} {post : Int32 → (Nat → Nat → Int32) → Prop} (hr : K r = 3) (hM : MI l E K L ad I yX2_stagesWithTables cX2_stagesWithTables 3 (some .int) k [.ref (ad r)] post) (hR : k + 1 ≤ R.frames ∧ 8 + (3 + 11) + 26 * k ≤ R.locals) (hcells : cells ≤ R.cells ∧ slots ≤ R.slots) (hls : ls.size = nL) (hroom : (rest.map fun v => v.category).sum ≤ 8) (hdg : decode cc pc = .ok (.invokevirtual 157, 3)) (kk : ∀ (v : Int32) (J : Nat → Nat → Int32) (H1 : Heap) (locs1 : List Loc), post v J → Hp E K L ad J H1 → va_S (AG E) s.heap H1 locs1 → W p l e R s m args below meth c H1 locs1 cells slots Q (F0 m (pc + 3) ls (.int v :: rest))) : W p l e R s m args below meth c H locs cells slots Q (F0 m pc ls (.ref (ad r) :: rest)) :=
  r_callVi (As := []) (ci := 2) C hP hS tm_X6_157 ti_X2_stagesWithTables ts_X2_stagesWithTables tz_X2 tc_X2_stagesWithTables dy_X2_stagesWithTables (by omega) (wE_3 _ _ _ _ hr) rfl rfl hM hR hcells hls rfl hroom hdg kk
theorem k_L_54 (C : Cx E p s m args c cc RL nL) (hP : Hp E K L ad I H) (hS : va_S (AG E) s.heap H locs) {k : Nat} {x0 : Int32} {x1 : Int32} {post : Int32 → (Nat → Nat → Int32) → Prop} (hr : K r = 7) (hM : MI l E K L ad I yX6_stage cX6_stage 3 (some .int) k [.ref (ad r), .int x0, .int x1] post) (hR : k + 1 ≤ R.frames ∧ 8 + (3 + 11) + 26 * k ≤ R.locals) (hcells : cells ≤ R.cells ∧ slots ≤ R.slots) (hls : ls.size = nL) (hroom : (rest.map fun v => v.category).sum ≤ 8) (hdg : decode cc pc = .ok (.invokevirtual 54, 3)) (kk : ∀ (v : Int32) (J : Nat → Nat → Int32) (H1 : Heap) (locs1 : List Loc), post v J → Hp E K L ad J H1 → va_S (AG E) s.heap H1 locs1 → W p l e R s m args below meth c H1 locs1 cells slots Q (F0 m (pc + 3) ls (.int v :: rest))) : W p l e R s m args below meth c H locs cells slots Q (F0 m pc ls (.int x1 :: .int x0 :: .ref (ad r) :: rest)) :=
  r_callVi (As := [.int x0, .int x1]) (ci := 6) C hP hS tm_L_54 ti_X6_stage ts_X6_stage tz_X6 tc_X6_stage dy_X6_stage (by omega) (wE_7 _ _ _ _ hr) rfl rfl hM hR hcells hls rfl hroom hdg kk
theorem k_L_58 (C : Cx E p s m args c cc RL nL) (hP : Hp E K L ad I H) (hS : va_S (AG E) s.heap H locs) {k : Nat} {post : Int32 → (Nat → Nat → Int32) → Prop} (hr : K r = 7) (hM : MI l E K L ad I yX6_fewest cX6_fewest 1 (some .int) k [.ref (ad r)] post) (hR : k + 1 ≤ R.frames ∧ 8 + (1 + 11) + 26 * k ≤ R.locals) (hcells : cells ≤ R.cells ∧ slots ≤ R.slots) (hls : ls.size = nL) (hroom : (rest.map fun v => v.category).sum ≤ 8) (hdg : decode cc pc = .ok (.invokevirtual 58, 3)) (kk : ∀ (v : Int32) (J : Nat → Nat → Int32) (H1 : Heap) (locs1 : List Loc), post v J → Hp E K L ad J H1 → va_S (AG E) s.heap H1 locs1 → W p l e R s m args below meth c H1 locs1 cells slots Q (F0 m (pc + 3) ls (.int v :: rest))) : W p l e R s m args below meth c H locs cells slots Q (F0 m pc ls (.ref (ad r) :: rest)) :=
  r_callVi (As := []) (ci := 6) C hP hS tm_L_58 ti_X6_fewest ts_X6_fewest tz_X6 tc_X6_fewest dy_X6_fewest (by omega) (wE_7 _ _ _ _ hr) rfl rfl hM hR hcells hls rfl hroom hdg kk
theorem k_X6_166 (C : Cx E p s m args c cc RX6 nL) (hP : Hp E K L ad I H) (hS : va_S (AG E) s.heap H locs) {k : Nat} {x0 : Nat} {x1 : Nat} {post : Int32 → (Nat → Nat → Int32) → Prop} (hr : K r = 5) (hM : MI l E K L ad I yX4_fewestStages cX4_fewestStages 5 (some .int) k [.ref (ad r), .ref x0, .ref x1] post) (hR : k + 1 ≤ R.frames ∧ 8 + (5 + 11) + 26 * k ≤ R.locals) (hcells : cells ≤ R.cells ∧ slots ≤ R.slots) (hls : ls.size = nL) (hroom : (rest.map fun v => v.category).sum ≤ 8) (hdg : decode cc pc = .ok (.invokevirtual 166, 3)) (kk : ∀ (v : Int32) (J : Nat → Nat → Int32) (H1 : Heap) (locs1 : List Loc), post v J → Hp E K L ad J H1 → va_S (AG E) s.heap H1 locs1 → W p l e R s m args below meth c H1 locs1 cells slots Q (F0 m (pc + 3) ls (.int v :: rest))) : W p l e R s m args below meth c H locs cells slots Q (F0 m pc ls (.ref x1 :: .ref x0 :: .ref (ad r) :: rest)) :=
  r_callVi (As := [.ref x0, .ref x1]) (ci := 4) C hP hS tm_X6_166 ti_X4_fewestStages ts_X4_fewestStages tz_X4 tc_X4_fewestStages dy_X4_fewestStages (by omega) (wE_5 _ _ _ _ hr) rfl rfl hM hR hcells hls rfl hroom hdg kk
theorem k_X4_27 (C : Cx E p s m args c cc RX4 nL) (hP : Hp E K L ad I H) (hS : va_S (AG E) s.heap H locs) {k : Nat} {x0 : Nat} {x1 : Int32} {post : (Nat → Nat → Int32) → Prop} (hr : K r = 5) (hM : MV l E K L ad I yX4_measure cX4_measure 6 k [.ref (ad r), .ref x0, .int x1] post) (hR : k + 1 ≤ R.frames ∧ 8 + (6 + 11) + 26 * k ≤ R.locals) (hcells : cells ≤ R.cells ∧ slots ≤ R.slots) (hls : ls.size = nL) (hroom : (rest.map fun v => v.category).sum ≤ 8) (hdg : decode cc pc = .ok (.invokevirtual 27, 3)) (kk : ∀ (J : Nat → Nat → Int32) (H1 : Heap) (locs1 : List Loc), post J → Hp E K L ad J H1 → va_S (AG E) s.heap H1 locs1 → W p l e R s m args below meth c H1 locs1 cells slots Q (F0 m (pc + 3) ls rest)) : W p l e R s m args below meth c H locs cells slots Q (F0 m pc ls (.int x1 :: .ref x0 :: .ref (ad r) :: rest)) :=
  r_callVv (As := [.ref x0, .int x1]) (ci := 4) C hP hS tm_X4_27 ti_X4_measure ts_X4_measure tz_X4 tc_X4_measure dy_X4_measure (by omega) (wE_5 _ _ _ _ hr) rfl rfl hM hR hcells hls rfl hroom hdg kk
theorem k_X4_31 (C : Cx E p s m args c cc RX4 nL) (hP : Hp E K L ad I H) (hS : va_S (AG E) s.heap H locs) {k : Nat} {x0 : Nat} {x1 : Int32} {post : (Nat → Nat → Int32) → Prop} (hM : MV l E K L ad I yJ7_fill_53178 cJ7_fill_53178 4 k [.ref x0, .int x1] post) (hR : k + 1 ≤ R.frames ∧ 8 + (4 + 11) + 26 * k ≤ R.locals) (hcells : cells ≤ R.cells ∧ slots ≤ R.slots) (hls : ls.size = nL) (hroom : (rest.map fun v => v.category).sum ≤ 8) (hdg : decode cc pc = .ok (.invokestatic 31, 3)) (kk : ∀ (J : Nat → Nat → Int32) (H1 : Heap) (locs1 : List Loc), post J → Hp E K L ad J H1 → va_S (AG E) s.heap H1 locs1 → W p l e R s m args below meth c H1 locs1 cells slots Q (F0 m (pc + 3) ls rest)) : W p l e R s m args below meth c H locs cells slots Q (F0 m pc ls (.int x1 :: .ref x0 :: rest)) :=
  r_callSv (As := [.ref x0, .int x1]) C hP hS tm_X4_31 tt_J7_fill_53178 tz_J7 tc_J7_fill_53178 dy_J7_fill_53178 hM hR hcells hls rfl hroom hdg kk
theorem k_X4_37 (C : Cx E p s m args c cc RX4 nL) (hP : Hp E K L ad I H) (hS : va_S (AG E) s.heap H locs) {k : Nat} {x0 : Int32} {x1 : Nat} {x2 : Int32} {post : Int32 → (Nat → Nat → Int32) → Prop} (hr : K r = 5) (hM : MI l E K L ad I yX4_ready cX4_ready 6 (some .int) k [.ref (ad r), .int x0, .ref x1, .int x2] post) (hR : k + 1 ≤ R.frames ∧ 8 + (6 + 11) + 26 * k ≤ R.locals) (hcells : cells ≤ R.cells ∧ slots ≤ R.slots) (hls : ls.size = nL) (hroom : (rest.map fun v => v.category).sum ≤ 8) (hdg : decode cc pc = .ok (.invokevirtual 37, 3)) (kk : ∀ (v : Int32) (J : Nat → Nat → Int32) (H1 : Heap) (locs1 : List Loc), post v J → Hp E K L ad J H1 → va_S (AG E) s.heap H1 locs1 → W p l e R s m args below meth c H1 locs1 cells slots Q (F0 m (pc + 3) ls (.int v :: rest))) : W p l e R s m args below meth c H locs cells slots Q (F0 m pc ls (.int x2 :: .ref x1 :: .int x0 :: .ref (ad r) :: rest)) :=
  r_callVi (As := [.int x0, .ref x1, .int x2]) (ci := 4) C hP hS tm_X4_37 ti_X4_ready ts_X4_ready tz_X4 tc_X4_ready dy_X4_ready (by omega) (wE_5 _ _ _ _ hr) rfl rfl hM hR hcells hls rfl hroom hdg kk
theorem k_X4_44 (C : Cx E p s m args c cc RX4 nL) (hP : Hp E K L ad I H) (hS : va_S (AG E) s.heap H locs) {k : Nat} {x0 : Int32} {x1 : Int32} {x2 : Nat} {post : (Nat → Nat → Int32) → Prop} (hr : K r = 5) (hM : MV l E K L ad I yX4_addStage cX4_addStage 6 k [.ref (ad r), .int x0, .int x1, .ref x2] post) (hR : k + 1 ≤ R.frames ∧ 8 + (6 + 11) + 26 * k ≤ R.locals) (hcells : cells ≤ R.cells ∧ slots ≤ R.slots) (hls : ls.size = nL) (hroom : (rest.map fun v => v.category).sum ≤ 8) (hdg : decode cc pc = .ok (.invokevirtual 44, 3)) (kk : ∀ (J : Nat → Nat → Int32) (H1 : Heap) (locs1 : List Loc), post J → Hp E K L ad J H1 → va_S (AG E) s.heap H1 locs1 → W p l e R s m args below meth c H1 locs1 cells slots Q (F0 m (pc + 3) ls rest)) : W p l e R s m args below meth c H locs cells slots Q (F0 m pc ls (.ref x2 :: .int x1 :: .int x0 :: .ref (ad r) :: rest)) :=
  r_callVv (As := [.int x0, .int x1, .ref x2]) (ci := 4) C hP hS tm_X4_44 ti_X4_addStage ts_X4_addStage tz_X4 tc_X4_addStage dy_X4_addStage (by omega) (wE_5 _ _ _ _ hr) rfl rfl hM hR hcells hls rfl hroom hdg kk
theorem k_X4_55 (C : Cx E p s m args c cc RX4 nL) (hP : Hp E K L ad I H) (hS : va_S (AG E) s.heap H locs) {k : Nat} {x0 : Int32} {post : Int32 → (Nat → Nat → Int32) → Prop} (hM : MI l E K L ad I yJ6_bitCount_0f7a4 cJ6_bitCount_0f7a4 1 (some .int) k [.int x0] post) (hR : k + 1 ≤ R.frames ∧ 8 + (1 + 11) + 26 * k ≤ R.locals) (hcells : cells ≤ R.cells ∧ slots ≤ R.slots) (hls : ls.size = nL) (hroom : (rest.map fun v => v.category).sum ≤ 8) (hdg : decode cc pc = .ok (.invokestatic 55, 3)) (kk : ∀ (v : Int32) (J : Nat → Nat → Int32) (H1 : Heap) (locs1 : List Loc), post v J → Hp E K L ad J H1 → va_S (AG E) s.heap H1 locs1 → W p l e R s m args below meth c H1 locs1 cells slots Q (F0 m (pc + 3) ls (.int v :: rest))) : W p l e R s m args below meth c H locs cells slots Q (F0 m pc ls (.int x0 :: rest)) :=
  r_callSi (As := [.int x0]) C hP hS tm_X4_55 tt_J6_bitCount_0f7a4 tz_J6 tc_J6_bitCount_0f7a4 dy_J6_bitCount_0f7a4 hM hR hcells hls rfl hroom hdg kk
theorem k_X4_61 (C : Cx E p s m args c cc RX4 nL) (hP : Hp E K L ad I H) (hS : va_S (AG E) s.heap H locs) {k : Nat} {x0 : Int32} {x1 : Int32} {post : Int32 → (Nat → Nat → Int32) → Prop} (hM : MI l E K L ad I yJ9_min_7cf53 cJ9_min_7cf53 2 (some .int) k [.int x0, .int x1] post) (hR : k + 1 ≤ R.frames ∧ 8 + (2 + 11) + 26 * k ≤ R.locals) (hcells : cells ≤ R.cells ∧ slots ≤ R.slots) (hls : ls.size = nL) (hroom : (rest.map fun v => v.category).sum ≤ 8) (hdg : decode cc pc = .ok (.invokestatic 61, 3)) (kk : ∀ (v : Int32) (J : Nat → Nat → Int32) (H1 : Heap) (locs1 : List Loc), post v J → Hp E K L ad J H1 → va_S (AG E) s.heap H1 locs1 → W p l e R s m args below meth c H1 locs1 cells slots Q (F0 m (pc + 3) ls (.int v :: rest))) : W p l e R s m args below meth c H locs cells slots Q (F0 m pc ls (.int x1 :: .int x0 :: rest)) :=
  r_callSi (As := [.int x0, .int x1]) C hP hS tm_X4_61 tt_J9_min_7cf53 tz_J9 tc_J9_min_7cf53 dy_J9_min_7cf53 hM hR hcells hls rfl hroom hdg kk
theorem k_L_62 (C : Cx E p s m args c cc RL nL) (hP : Hp E K L ad I H) (hS : va_S (AG E) s.heap H locs) {k : Nat} {x0 : Int32} {x1 : Int32} {post : Int32 → (Nat → Nat → Int32) → Prop} (hr : K r = 7) (hM : MI l E K L ad I yX6_tell cX6_tell 4 (some .int) k [.ref (ad r), .int x0, .int x1] post) (hR : k + 1 ≤ R.frames ∧ 8 + (4 + 11) + 26 * k ≤ R.locals) (hcells : cells ≤ R.cells ∧ slots ≤ R.slots) (hls : ls.size = nL) (hroom : (rest.map fun v => v.category).sum ≤ 8) (hdg : decode cc pc = .ok (.invokevirtual 62, 3)) (kk : ∀ (v : Int32) (J : Nat → Nat → Int32) (H1 : Heap) (locs1 : List Loc), post v J → Hp E K L ad J H1 → va_S (AG E) s.heap H1 locs1 → W p l e R s m args below meth c H1 locs1 cells slots Q (F0 m (pc + 3) ls (.int v :: rest))) : W p l e R s m args below meth c H locs cells slots Q (F0 m pc ls (.int x1 :: .int x0 :: .ref (ad r) :: rest)) :=
  r_callVi (As := [.int x0, .int x1]) (ci := 6) C hP hS tm_L_62 ti_X6_tell ts_X6_tell tz_X6 tc_X6_tell dy_X6_tell (by omega) (wE_7 _ _ _ _ hr) rfl rfl hM hR hcells hls rfl hroom hdg kk
theorem k_L_66 (C : Cx E p s m args c cc RL nL) (hP : Hp E K L ad I H) (hS : va_S (AG E) s.heap H locs) {k : Nat} {x0 : Int32} {x1 : Int32} {post : Int32 → (Nat → Nat → Int32) → Prop} (hr : K r = 7) (hM : MI l E K L ad I yX6_put cX6_put 4 (some .int) k [.ref (ad r), .int x0, .int x1] post) (hR : k + 1 ≤ R.frames ∧ 8 + (4 + 11) + 26 * k ≤ R.locals) (hcells : cells ≤ R.cells ∧ slots ≤ R.slots) (hls : ls.size = nL) (hroom : (rest.map fun v => v.category).sum ≤ 8) (hdg : decode cc pc = .ok (.invokevirtual 66, 3)) (kk : ∀ (v : Int32) (J : Nat → Nat → Int32) (H1 : Heap) (locs1 : List Loc), post v J → Hp E K L ad J H1 → va_S (AG E) s.heap H1 locs1 → W p l e R s m args below meth c H1 locs1 cells slots Q (F0 m (pc + 3) ls (.int v :: rest))) : W p l e R s m args below meth c H locs cells slots Q (F0 m pc ls (.int x1 :: .int x0 :: .ref (ad r) :: rest)) :=
  r_callVi (As := [.int x0, .int x1]) (ci := 6) C hP hS tm_L_66 ti_X6_put ts_X6_put tz_X6 tc_X6_put dy_X6_put (by omega) (wE_7 _ _ _ _ hr) rfl rfl hM hR hcells hls rfl hroom hdg kk
theorem k_L_70 (C : Cx E p s m args c cc RL nL) (hP : Hp E K L ad I H) (hS : va_S (AG E) s.heap H locs) {k : Nat} {x0 : Int32} {post : Int32 → (Nat → Nat → Int32) → Prop} (hr : K r = 7) (hM : MI l E K L ad I yX6_register cX6_register 2 (some .int) k [.ref (ad r), .int x0] post) (hR : k + 1 ≤ R.frames ∧ 8 + (2 + 11) + 26 * k ≤ R.locals) (hcells : cells ≤ R.cells ∧ slots ≤ R.slots) (hls : ls.size = nL) (hroom : (rest.map fun v => v.category).sum ≤ 8) (hdg : decode cc pc = .ok (.invokevirtual 70, 3)) (kk : ∀ (v : Int32) (J : Nat → Nat → Int32) (H1 : Heap) (locs1 : List Loc), post v J → Hp E K L ad J H1 → va_S (AG E) s.heap H1 locs1 → W p l e R s m args below meth c H1 locs1 cells slots Q (F0 m (pc + 3) ls (.int v :: rest))) : W p l e R s m args below meth c H locs cells slots Q (F0 m pc ls (.int x0 :: .ref (ad r) :: rest)) :=
  r_callVi (As := [.int x0]) (ci := 6) C hP hS tm_L_70 ti_X6_register ts_X6_register tz_X6 tc_X6_register dy_X6_register (by omega) (wE_7 _ _ _ _ hr) rfl rfl hM hR hcells hls rfl hroom hdg kk
theorem k_L_74 (C : Cx E p s m args c cc RL nL) (hP : Hp E K L ad I H) (hS : va_S (AG E) s.heap H locs) {k : Nat} {post : Int32 → (Nat → Nat → Int32) → Prop} (hr : K r = 7) (hM : MI l E K L ad I yX6_run cX6_run 1 (some .int) k [.ref (ad r)] post) (hR : k + 1 ≤ R.frames ∧ 8 + (1 + 11) + 26 * k ≤ R.locals) (hcells : cells ≤ R.cells ∧ slots ≤ R.slots) (hls : ls.size = nL) (hroom : (rest.map fun v => v.category).sum ≤ 8) (hdg : decode cc pc = .ok (.invokevirtual 74, 3)) (kk : ∀ (v : Int32) (J : Nat → Nat → Int32) (H1 : Heap) (locs1 : List Loc), post v J → Hp E K L ad J H1 → va_S (AG E) s.heap H1 locs1 → W p l e R s m args below meth c H1 locs1 cells slots Q (F0 m (pc + 3) ls (.int v :: rest))) : W p l e R s m args below meth c H locs cells slots Q (F0 m pc ls (.ref (ad r) :: rest)) :=
  r_callVi (As := []) (ci := 6) C hP hS tm_L_74 ti_X6_run ts_X6_run tz_X6 tc_X6_run dy_X6_run (by omega) (wE_7 _ _ _ _ hr) rfl rfl hM hR hcells hls rfl hroom hdg kk
theorem k_X6_177 (C : Cx E p s m args c cc RX6 nL) (hP : Hp E K L ad I H) (hS : va_S (AG E) s.heap H locs) {k : Nat} {x0 : Nat} {post : (Nat → Nat → Int32) → Prop} (hr : K r = 2) (hM : MV l E K L ad I yX1_passThrough cX1_passThrough 4 k [.ref (ad r), .ref x0] post) (hR : k + 1 ≤ R.frames ∧ 8 + (4 + 11) + 26 * k ≤ R.locals) (hcells : cells ≤ R.cells ∧ slots ≤ R.slots) (hls : ls.size = nL) (hroom : (rest.map fun v => v.category).sum ≤ 8) (hdg : decode cc pc = .ok (.invokevirtual 177, 3)) (kk : ∀ (J : Nat → Nat → Int32) (H1 : Heap) (locs1 : List Loc), post J → Hp E K L ad J H1 → va_S (AG E) s.heap H1 locs1 → W p l e R s m args below meth c H1 locs1 cells slots Q (F0 m (pc + 3) ls rest)) : W p l e R s m args below meth c H locs cells slots Q (F0 m pc ls (.ref x0 :: .ref (ad r) :: rest)) :=
  r_callVv (As := [.ref x0]) (ci := 1) C hP hS tm_X6_177 ti_X1_passThrough ts_X1_passThrough tz_X1 tc_X1_passThrough dy_X1_passThrough (by omega) (wE_2 _ _ _ _ hr) rfl rfl hM hR hcells hls rfl hroom hdg kk
theorem k_X1_48 (C : Cx E p s m args c cc RX1 nL) (hP : Hp E K L ad I H) (hS : va_S (AG E) s.heap H locs) {k : Nat} {x0 : Nat} {x1 : Nat} {post : (Nat → Nat → Int32) → Prop} (hr : K r = 2) (hM : MV l E K L ad I yX1_doRound cX1_doRound 5 k [.ref (ad r), .ref x0, .ref x1] post) (hR : k + 1 ≤ R.frames ∧ 8 + (5 + 11) + 26 * k ≤ R.locals) (hcells : cells ≤ R.cells ∧ slots ≤ R.slots) (hls : ls.size = nL) (hroom : (rest.map fun v => v.category).sum ≤ 8) (hdg : decode cc pc = .ok (.invokevirtual 48, 3)) (kk : ∀ (J : Nat → Nat → Int32) (H1 : Heap) (locs1 : List Loc), post J → Hp E K L ad J H1 → va_S (AG E) s.heap H1 locs1 → W p l e R s m args below meth c H1 locs1 cells slots Q (F0 m (pc + 3) ls rest)) : W p l e R s m args below meth c H locs cells slots Q (F0 m pc ls (.ref x1 :: .ref x0 :: .ref (ad r) :: rest)) :=
  r_callVv (As := [.ref x0, .ref x1]) (ci := 1) C hP hS tm_X1_48 ti_X1_doRound ts_X1_doRound tz_X1 tc_X1_doRound dy_X1_doRound (by omega) (wE_2 _ _ _ _ hr) rfl rfl hM hR hcells hls rfl hroom hdg kk
theorem k_X1_63 (C : Cx E p s m args c cc RX1 nL) (hP : Hp E K L ad I H) (hS : va_S (AG E) s.heap H locs) {k : Nat} {x0 : Int32} {post : Int32 → (Nat → Nat → Int32) → Prop} (hr : K r = 6) (hM : MI l E K L ad I yX5_slotOf cX5_slotOf 3 (some .int) k [.ref (ad r), .int x0] post) (hR : k + 1 ≤ R.frames ∧ 8 + (3 + 11) + 26 * k ≤ R.locals) (hcells : cells ≤ R.cells ∧ slots ≤ R.slots) (hls : ls.size = nL) (hroom : (rest.map fun v => v.category).sum ≤ 8) (hdg : decode cc pc = .ok (.invokevirtual 63, 3)) (kk : ∀ (v : Int32) (J : Nat → Nat → Int32) (H1 : Heap) (locs1 : List Loc), post v J → Hp E K L ad J H1 → va_S (AG E) s.heap H1 locs1 → W p l e R s m args below meth c H1 locs1 cells slots Q (F0 m (pc + 3) ls (.int v :: rest))) : W p l e R s m args below meth c H locs cells slots Q (F0 m pc ls (.int x0 :: .ref (ad r) :: rest)) :=
  r_callVi (As := [.int x0]) (ci := 5) C hP hS tm_X1_63 ti_X5_slotOf ts_X5_slotOf tz_X5 tc_X5_slotOf dy_X5_slotOf (by omega) (wE_6 _ _ _ _ hr) rfl rfl hM hR hcells hls rfl hroom hdg kk
theorem k_X1_74 (C : Cx E p s m args c cc RX1 nL) (hP : Hp E K L ad I H) (hS : va_S (AG E) s.heap H locs) {k : Nat} {x0 : Nat} {x1 : Nat} {post : (Nat → Nat → Int32) → Prop} (hr : K r = 2) (hM : MV l E K L ad I yX1_apply cX1_apply 3 k [.ref (ad r), .ref x0, .ref x1] post) (hR : k + 1 ≤ R.frames ∧ 8 + (3 + 11) + 26 * k ≤ R.locals) (hcells : cells ≤ R.cells ∧ slots ≤ R.slots) (hls : ls.size = nL) (hroom : (rest.map fun v => v.category).sum ≤ 8) (hdg : decode cc pc = .ok (.invokevirtual 74, 3)) (kk : ∀ (J : Nat → Nat → Int32) (H1 : Heap) (locs1 : List Loc), post J → Hp E K L ad J H1 → va_S (AG E) s.heap H1 locs1 → W p l e R s m args below meth c H1 locs1 cells slots Q (F0 m (pc + 3) ls rest)) : W p l e R s m args below meth c H locs cells slots Q (F0 m pc ls (.ref x1 :: .ref x0 :: .ref (ad r) :: rest)) :=
  r_callVv (As := [.ref x0, .ref x1]) (ci := 1) C hP hS tm_X1_74 ti_X1_apply ts_X1_apply tz_X1 tc_X1_apply dy_X1_apply (by omega) (wE_2 _ _ _ _ hr) rfl rfl hM hR hcells hls rfl hroom hdg kk
theorem k_X1_90 (C : Cx E p s m args c cc RX1 nL) (hP : Hp E K L ad I H) (hS : va_S (AG E) s.heap H locs) {k : Nat} {x0 : Int32} {x1 : Nat} {x2 : Int32} {post : (Nat → Nat → Int32) → Prop} (hr : K r = 2) (hM : MV l E K L ad I yX1_keepTop cX1_keepTop 5 k [.ref (ad r), .int x0, .ref x1, .int x2] post) (hR : k + 1 ≤ R.frames ∧ 8 + (5 + 11) + 26 * k ≤ R.locals) (hcells : cells ≤ R.cells ∧ slots ≤ R.slots) (hls : ls.size = nL) (hroom : (rest.map fun v => v.category).sum ≤ 8) (hdg : decode cc pc = .ok (.invokevirtual 90, 3)) (kk : ∀ (J : Nat → Nat → Int32) (H1 : Heap) (locs1 : List Loc), post J → Hp E K L ad J H1 → va_S (AG E) s.heap H1 locs1 → W p l e R s m args below meth c H1 locs1 cells slots Q (F0 m (pc + 3) ls rest)) : W p l e R s m args below meth c H locs cells slots Q (F0 m pc ls (.int x2 :: .ref x1 :: .int x0 :: .ref (ad r) :: rest)) :=
  r_callVv (As := [.int x0, .ref x1, .int x2]) (ci := 1) C hP hS tm_X1_90 ti_X1_keepTop ts_X1_keepTop tz_X1 tc_X1_keepTop dy_X1_keepTop (by omega) (wE_2 _ _ _ _ hr) rfl rfl hM hR hcells hls rfl hroom hdg kk
theorem k_X1_94 (C : Cx E p s m args c cc RX1 nL) (hP : Hp E K L ad I H) (hS : va_S (AG E) s.heap H locs) {k : Nat} {x0 : Int32} {x1 : Nat} {x2 : Int32} {post : (Nat → Nat → Int32) → Prop} (hr : K r = 2) (hM : MV l E K L ad I yX1_swap cX1_swap 5 k [.ref (ad r), .int x0, .ref x1, .int x2] post) (hR : k + 1 ≤ R.frames ∧ 8 + (5 + 11) + 26 * k ≤ R.locals) (hcells : cells ≤ R.cells ∧ slots ≤ R.slots) (hls : ls.size = nL) (hroom : (rest.map fun v => v.category).sum ≤ 8) (hdg : decode cc pc = .ok (.invokevirtual 94, 3)) (kk : ∀ (J : Nat → Nat → Int32) (H1 : Heap) (locs1 : List Loc), post J → Hp E K L ad J H1 → va_S (AG E) s.heap H1 locs1 → W p l e R s m args below meth c H1 locs1 cells slots Q (F0 m (pc + 3) ls rest)) : W p l e R s m args below meth c H locs cells slots Q (F0 m pc ls (.int x2 :: .ref x1 :: .int x0 :: .ref (ad r) :: rest)) :=
  r_callVv (As := [.int x0, .ref x1, .int x2]) (ci := 1) C hP hS tm_X1_94 ti_X1_swap ts_X1_swap tz_X1 tc_X1_swap dy_X1_swap (by omega) (wE_2 _ _ _ _ hr) rfl rfl hM hR hcells hls rfl hroom hdg kk
theorem k_L_78 (C : Cx E p s m args c cc RL nL) (hP : Hp E K L ad I H) (hS : va_S (AG E) s.heap H locs) {k : Nat} {x0 : Int32} {post : Int32 → (Nat → Nat → Int32) → Prop} (hr : K r = 7) (hM : MI l E K L ad I yX6_out cX6_out 2 (some .int) k [.ref (ad r), .int x0] post) (hR : k + 1 ≤ R.frames ∧ 8 + (2 + 11) + 26 * k ≤ R.locals) (hcells : cells ≤ R.cells ∧ slots ≤ R.slots) (hls : ls.size = nL) (hroom : (rest.map fun v => v.category).sum ≤ 8) (hdg : decode cc pc = .ok (.invokevirtual 78, 3)) (kk : ∀ (v : Int32) (J : Nat → Nat → Int32) (H1 : Heap) (locs1 : List Loc), post v J → Hp E K L ad J H1 → va_S (AG E) s.heap H1 locs1 → W p l e R s m args below meth c H1 locs1 cells slots Q (F0 m (pc + 3) ls (.int v :: rest))) : W p l e R s m args below meth c H locs cells slots Q (F0 m pc ls (.int x0 :: .ref (ad r) :: rest)) :=
  r_callVi (As := [.int x0]) (ci := 6) C hP hS tm_L_78 ti_X6_out ts_X6_out tz_X6 tc_X6_out dy_X6_out (by omega) (wE_7 _ _ _ _ hr) rfl rfl hM hR hcells hls rfl hroom hdg kk
theorem k_L_82 (C : Cx E p s m args c cc RL nL) (hP : Hp E K L ad I H) (hS : va_S (AG E) s.heap H locs) {k : Nat} {x0 : Int32} {x1 : Int32} {post : Int32 → (Nat → Nat → Int32) → Prop} (hr : K r = 7) (hM : MI l E K L ad I yX6_took cX6_took 3 (some .int) k [.ref (ad r), .int x0, .int x1] post) (hR : k + 1 ≤ R.frames ∧ 8 + (3 + 11) + 26 * k ≤ R.locals) (hcells : cells ≤ R.cells ∧ slots ≤ R.slots) (hls : ls.size = nL) (hroom : (rest.map fun v => v.category).sum ≤ 8) (hdg : decode cc pc = .ok (.invokevirtual 82, 3)) (kk : ∀ (v : Int32) (J : Nat → Nat → Int32) (H1 : Heap) (locs1 : List Loc), post v J → Hp E K L ad J H1 → va_S (AG E) s.heap H1 locs1 → W p l e R s m args below meth c H1 locs1 cells slots Q (F0 m (pc + 3) ls (.int v :: rest))) : W p l e R s m args below meth c H locs cells slots Q (F0 m pc ls (.int x1 :: .int x0 :: .ref (ad r) :: rest)) :=
  r_callVi (As := [.int x0, .int x1]) (ci := 6) C hP hS tm_L_82 ti_X6_took ts_X6_took tz_X6 tc_X6_took dy_X6_took (by omega) (wE_7 _ _ _ _ hr) rfl rfl hM hR hcells hls rfl hroom hdg kk
theorem k_L_86 (C : Cx E p s m args c cc RL nL) (hP : Hp E K L ad I H) (hS : va_S (AG E) s.heap H locs) {k : Nat} {x0 : Int32} {post : Int32 → (Nat → Nat → Int32) → Prop} (hr : K r = 7) (hM : MI l E K L ad I yX6_image cX6_image 2 (some .int) k [.ref (ad r), .int x0] post) (hR : k + 1 ≤ R.frames ∧ 8 + (2 + 11) + 26 * k ≤ R.locals) (hcells : cells ≤ R.cells ∧ slots ≤ R.slots) (hls : ls.size = nL) (hroom : (rest.map fun v => v.category).sum ≤ 8) (hdg : decode cc pc = .ok (.invokevirtual 86, 3)) (kk : ∀ (v : Int32) (J : Nat → Nat → Int32) (H1 : Heap) (locs1 : List Loc), post v J → Hp E K L ad J H1 → va_S (AG E) s.heap H1 locs1 → W p l e R s m args below meth c H1 locs1 cells slots Q (F0 m (pc + 3) ls (.int v :: rest))) : W p l e R s m args below meth c H locs cells slots Q (F0 m pc ls (.int x0 :: .ref (ad r) :: rest)) :=
  r_callVi (As := [.int x0]) (ci := 6) C hP hS tm_L_86 ti_X6_image ts_X6_image tz_X6 tc_X6_image dy_X6_image (by omega) (wE_7 _ _ _ _ hr) rfl rfl hM hR hcells hls rfl hroom hdg kk
theorem k_X6_207 (C : Cx E p s m args c cc RX6 nL) (hP : Hp E K L ad I H) (hS : va_S (AG E) s.heap H locs) {k : Nat} {x0 : Nat} {post : (Nat → Nat → Int32) → Prop} (hr : K r = 4) (hM : MV l E K L ad I yX3_copy cX3_copy 3 k [.ref (ad r), .ref x0] post) (hR : k + 1 ≤ R.frames ∧ 8 + (3 + 11) + 26 * k ≤ R.locals) (hcells : cells ≤ R.cells ∧ slots ≤ R.slots) (hls : ls.size = nL) (hroom : (rest.map fun v => v.category).sum ≤ 8) (hdg : decode cc pc = .ok (.invokevirtual 207, 3)) (kk : ∀ (J : Nat → Nat → Int32) (H1 : Heap) (locs1 : List Loc), post J → Hp E K L ad J H1 → va_S (AG E) s.heap H1 locs1 → W p l e R s m args below meth c H1 locs1 cells slots Q (F0 m (pc + 3) ls rest)) : W p l e R s m args below meth c H locs cells slots Q (F0 m pc ls (.ref x0 :: .ref (ad r) :: rest)) :=
  r_callVv (As := [.ref x0]) (ci := 3) C hP hS tm_X6_207 ti_X3_copy ts_X3_copy tz_X3 tc_X3_copy dy_X3_copy (by omega) (wE_4 _ _ _ _ hr) rfl rfl hM hR hcells hls rfl hroom hdg kk
theorem k_X3_40 (C : Cx E p s m args c cc RX3 nL) (hP : Hp E K L ad I H) (hS : va_S (AG E) s.heap H locs) {k : Nat} {x0 : Nat} {post : (Nat → Nat → Int32) → Prop} (hr : K r = 6) (hM : MV l E K L ad I yX5_copy cX5_copy 3 k [.ref (ad r), .ref x0] post) (hR : k + 1 ≤ R.frames ∧ 8 + (3 + 11) + 26 * k ≤ R.locals) (hcells : cells ≤ R.cells ∧ slots ≤ R.slots) (hls : ls.size = nL) (hroom : (rest.map fun v => v.category).sum ≤ 8) (hdg : decode cc pc = .ok (.invokevirtual 40, 3)) (kk : ∀ (J : Nat → Nat → Int32) (H1 : Heap) (locs1 : List Loc), post J → Hp E K L ad J H1 → va_S (AG E) s.heap H1 locs1 → W p l e R s m args below meth c H1 locs1 cells slots Q (F0 m (pc + 3) ls rest)) : W p l e R s m args below meth c H locs cells slots Q (F0 m pc ls (.ref x0 :: .ref (ad r) :: rest)) :=
  r_callVv (As := [.ref x0]) (ci := 5) C hP hS tm_X3_40 ti_X5_copy ts_X5_copy tz_X5 tc_X5_copy dy_X5_copy (by omega) (wE_6 _ _ _ _ hr) rfl rfl hM hR hcells hls rfl hroom hdg kk
theorem k_L_90 (C : Cx E p s m args c cc RL nL) (hP : Hp E K L ad I H) (hS : va_S (AG E) s.heap H locs) {k : Nat} {x0 : Int32} {post : Int32 → (Nat → Nat → Int32) → Prop} (hr : K r = 7) (hM : MI l E K L ad I yX6_restore cX6_restore 2 (some .int) k [.ref (ad r), .int x0] post) (hR : k + 1 ≤ R.frames ∧ 8 + (2 + 11) + 26 * k ≤ R.locals) (hcells : cells ≤ R.cells ∧ slots ≤ R.slots) (hls : ls.size = nL) (hroom : (rest.map fun v => v.category).sum ≤ 8) (hdg : decode cc pc = .ok (.invokevirtual 90, 3)) (kk : ∀ (v : Int32) (J : Nat → Nat → Int32) (H1 : Heap) (locs1 : List Loc), post v J → Hp E K L ad J H1 → va_S (AG E) s.heap H1 locs1 → W p l e R s m args below meth c H1 locs1 cells slots Q (F0 m (pc + 3) ls (.int v :: rest))) : W p l e R s m args below meth c H locs cells slots Q (F0 m pc ls (.int x0 :: .ref (ad r) :: rest)) :=
  r_callVi (As := [.int x0]) (ci := 6) C hP hS tm_L_90 ti_X6_restore ts_X6_restore tz_X6 tc_X6_restore dy_X6_restore (by omega) (wE_7 _ _ _ _ hr) rfl rfl hM hR hcells hls rfl hroom hdg kk
theorem k_L_94 (C : Cx E p s m args c cc RL nL) (hP : Hp E K L ad I H) (hS : va_S (AG E) s.heap H locs) {k : Nat} {x0 : Int32} {post : Int32 → (Nat → Nat → Int32) → Prop} (hr : K r = 7) (hM : MI l E K L ad I yX6_count cX6_count 2 (some .int) k [.ref (ad r), .int x0] post) (hR : k + 1 ≤ R.frames ∧ 8 + (2 + 11) + 26 * k ≤ R.locals) (hcells : cells ≤ R.cells ∧ slots ≤ R.slots) (hls : ls.size = nL) (hroom : (rest.map fun v => v.category).sum ≤ 8) (hdg : decode cc pc = .ok (.invokevirtual 94, 3)) (kk : ∀ (v : Int32) (J : Nat → Nat → Int32) (H1 : Heap) (locs1 : List Loc), post v J → Hp E K L ad J H1 → va_S (AG E) s.heap H1 locs1 → W p l e R s m args below meth c H1 locs1 cells slots Q (F0 m (pc + 3) ls (.int v :: rest))) : W p l e R s m args below meth c H locs cells slots Q (F0 m pc ls (.int x0 :: .ref (ad r) :: rest)) :=
  r_callVi (As := [.int x0]) (ci := 6) C hP hS tm_L_94 ti_X6_count ts_X6_count tz_X6 tc_X6_count dy_X6_count (by omega) (wE_7 _ _ _ _ hr) rfl rfl hM hR hcells hls rfl hroom hdg kk
theorem k_X6_210 (C : Cx E p s m args c cc RX6 nL) (hP : Hp E K L ad I H) (hS : va_S (AG E) s.heap H locs) {k : Nat} {post : Int32 → (Nat → Nat → Int32) → Prop} (hr : K r = 7) (hM : MI l E K L ad I yX6_keptImages cX6_keptImages 3 (some .int) k [.ref (ad r)] post) (hR : k + 1 ≤ R.frames ∧ 8 + (3 + 11) + 26 * k ≤ R.locals) (hcells : cells ≤ R.cells ∧ slots ≤ R.slots) (hls : ls.size = nL) (hroom : (rest.map fun v => v.category).sum ≤ 8) (hdg : decode cc pc = .ok (.invokevirtual 210, 3)) (kk : ∀ (v : Int32) (J : Nat → Nat → Int32) (H1 : Heap) (locs1 : List Loc), post v J → Hp E K L ad J H1 → va_S (AG E) s.heap H1 locs1 → W p l e R s m args below meth c H1 locs1 cells slots Q (F0 m (pc + 3) ls (.int v :: rest))) : W p l e R s m args below meth c H locs cells slots Q (F0 m pc ls (.ref (ad r) :: rest)) :=
  r_callVi (As := []) (ci := 6) C hP hS tm_X6_210 ti_X6_keptImages ts_X6_keptImages tz_X6 tc_X6_keptImages dy_X6_keptImages (by omega) (wE_7 _ _ _ _ hr) rfl rfl hM hR hcells hls rfl hroom hdg kk
theorem k_L_17 (C : Cx E p s m args c cc RL nL) (hP : Hp E K L ad I H) (hS : va_S (AG E) s.heap H locs) {k : Nat} {x0 : Int32} {post : Int32 → (Nat → Nat → Int32) → Prop} (hr : K r = 8) (hM : MI l E K L ad I yX7_table cX7_table 2 (some .int) k [.ref (ad r), .int x0] post) (hR : k + 1 ≤ R.frames ∧ 8 + (2 + 11) + 26 * k ≤ R.locals) (hcells : cells ≤ R.cells ∧ slots ≤ R.slots) (hls : ls.size = nL) (hroom : (rest.map fun v => v.category).sum ≤ 8) (hdg : decode cc pc = .ok (.invokevirtual 17, 3)) (kk : ∀ (v : Int32) (J : Nat → Nat → Int32) (H1 : Heap) (locs1 : List Loc), post v J → Hp E K L ad J H1 → va_S (AG E) s.heap H1 locs1 → W p l e R s m args below meth c H1 locs1 cells slots Q (F0 m (pc + 3) ls (.int v :: rest))) : W p l e R s m args below meth c H locs cells slots Q (F0 m pc ls (.int x0 :: .ref (ad r) :: rest)) :=
  r_callVi (As := [.int x0]) (ci := 7) C hP hS tm_L_17 ti_X7_table ts_X7_table tz_X7 tc_X7_table dy_X7_table (by omega) (wE_8 _ _ _ _ hr) rfl rfl hM hR hcells hls rfl hroom hdg kk
theorem k_X7_79 (C : Cx E p s m args c cc RX7 nL) (hP : Hp E K L ad I H) (hS : va_S (AG E) s.heap H locs) {k : Nat} {x0 : Int32} {post : Int32 → (Nat → Nat → Int32) → Prop} (hM : MI l E K L ad I yX7_isField cX7_isField 1 (some .boolean) k [.int x0] post) (hR : k + 1 ≤ R.frames ∧ 8 + (1 + 11) + 26 * k ≤ R.locals) (hcells : cells ≤ R.cells ∧ slots ≤ R.slots) (hls : ls.size = nL) (hroom : (rest.map fun v => v.category).sum ≤ 8) (hdg : decode cc pc = .ok (.invokestatic 79, 3)) (kk : ∀ (v : Int32) (J : Nat → Nat → Int32) (H1 : Heap) (locs1 : List Loc), post v J → Hp E K L ad J H1 → va_S (AG E) s.heap H1 locs1 → W p l e R s m args below meth c H1 locs1 cells slots Q (F0 m (pc + 3) ls (.int v :: rest))) : W p l e R s m args below meth c H locs cells slots Q (F0 m pc ls (.int x0 :: rest)) :=
  r_callSi (As := [.int x0]) C hP hS tm_X7_79 tt_X7_isField tz_X7 tc_X7_isField dy_X7_isField hM hR hcells hls rfl hroom hdg kk
theorem k_X7_75 (C : Cx E p s m args c cc RX7 nL) (hP : Hp E K L ad I H) (hS : va_S (AG E) s.heap H locs) {k : Nat} {x0 : Int32} {x1 : Int32} {x2 : Int32} {post : Int32 → (Nat → Nat → Int32) → Prop} (hM : MI l E K L ad I yX7_in cX7_in 3 (some .boolean) k [.int x0, .int x1, .int x2] post) (hR : k + 1 ≤ R.frames ∧ 8 + (3 + 11) + 26 * k ≤ R.locals) (hcells : cells ≤ R.cells ∧ slots ≤ R.slots) (hls : ls.size = nL) (hroom : (rest.map fun v => v.category).sum ≤ 8) (hdg : decode cc pc = .ok (.invokestatic 75, 3)) (kk : ∀ (v : Int32) (J : Nat → Nat → Int32) (H1 : Heap) (locs1 : List Loc), post v J → Hp E K L ad J H1 → va_S (AG E) s.heap H1 locs1 → W p l e R s m args below meth c H1 locs1 cells slots Q (F0 m (pc + 3) ls (.int v :: rest))) : W p l e R s m args below meth c H locs cells slots Q (F0 m pc ls (.int x2 :: .int x1 :: .int x0 :: rest)) :=
  r_callSi (As := [.int x0, .int x1, .int x2]) C hP hS tm_X7_75 tt_X7_in tz_X7 tc_X7_in dy_X7_in hM hR hcells hls rfl hroom hdg kk
theorem k_X7_83 (C : Cx E p s m args c cc RX7 nL) (hP : Hp E K L ad I H) (hS : va_S (AG E) s.heap H locs) {k : Nat} {x0 : Int32} {x1 : Int32} {x2 : Int32} {x3 : Int32} {post : (Nat → Nat → Int32) → Prop} (hr : K r = 8) (hM : MV l E K L ad I yX7_lay cX7_lay 5 k [.ref (ad r), .int x0, .int x1, .int x2, .int x3] post) (hR : k + 1 ≤ R.frames ∧ 8 + (5 + 11) + 26 * k ≤ R.locals) (hcells : cells ≤ R.cells ∧ slots ≤ R.slots) (hls : ls.size = nL) (hroom : (rest.map fun v => v.category).sum ≤ 8) (hdg : decode cc pc = .ok (.invokevirtual 83, 3)) (kk : ∀ (J : Nat → Nat → Int32) (H1 : Heap) (locs1 : List Loc), post J → Hp E K L ad J H1 → va_S (AG E) s.heap H1 locs1 → W p l e R s m args below meth c H1 locs1 cells slots Q (F0 m (pc + 3) ls rest)) : W p l e R s m args below meth c H locs cells slots Q (F0 m pc ls (.int x3 :: .int x2 :: .int x1 :: .int x0 :: .ref (ad r) :: rest)) :=
  r_callVv (As := [.int x0, .int x1, .int x2, .int x3]) (ci := 7) C hP hS tm_X7_83 ti_X7_lay ts_X7_lay tz_X7 tc_X7_lay dy_X7_lay (by omega) (wE_8 _ _ _ _ hr) rfl rfl hM hR hcells hls rfl hroom hdg kk
theorem k_X7_87 (C : Cx E p s m args c cc RX7 nL) (hP : Hp E K L ad I H) (hS : va_S (AG E) s.heap H locs) {k : Nat} {x0 : Int32} {post : Int32 → (Nat → Nat → Int32) → Prop} (hM : MI l E K L ad I yX7_matters cX7_matters 1 (some .boolean) k [.int x0] post) (hR : k + 1 ≤ R.frames ∧ 8 + (1 + 11) + 26 * k ≤ R.locals) (hcells : cells ≤ R.cells ∧ slots ≤ R.slots) (hls : ls.size = nL) (hroom : (rest.map fun v => v.category).sum ≤ 8) (hdg : decode cc pc = .ok (.invokestatic 87, 3)) (kk : ∀ (v : Int32) (J : Nat → Nat → Int32) (H1 : Heap) (locs1 : List Loc), post v J → Hp E K L ad J H1 → va_S (AG E) s.heap H1 locs1 → W p l e R s m args below meth c H1 locs1 cells slots Q (F0 m (pc + 3) ls (.int v :: rest))) : W p l e R s m args below meth c H locs cells slots Q (F0 m pc ls (.int x0 :: rest)) :=
  r_callSi (As := [.int x0]) C hP hS tm_X7_87 tt_X7_matters tz_X7 tc_X7_matters dy_X7_matters hM hR hcells hls rfl hroom hdg kk
theorem k_L_22 (C : Cx E p s m args c cc RL nL) (hP : Hp E K L ad I H) (hS : va_S (AG E) s.heap H locs) {k : Nat} {x0 : Int32} {x1 : Int32} {x2 : Int32} {x3 : Int32} {x4 : Int32} {post : Int32 → (Nat → Nat → Int32) → Prop} (hr : K r = 8) (hM : MI l E K L ad I yX7_entry cX7_entry 6 (some .int) k [.ref (ad r), .int x0, .int x1, .int x2, .int x3, .int x4] post) (hR : k + 1 ≤ R.frames ∧ 8 + (6 + 11) + 26 * k ≤ R.locals) (hcells : cells ≤ R.cells ∧ slots ≤ R.slots) (hls : ls.size = nL) (hroom : (rest.map fun v => v.category).sum ≤ 8) (hdg : decode cc pc = .ok (.invokevirtual 22, 3)) (kk : ∀ (v : Int32) (J : Nat → Nat → Int32) (H1 : Heap) (locs1 : List Loc), post v J → Hp E K L ad J H1 → va_S (AG E) s.heap H1 locs1 → W p l e R s m args below meth c H1 locs1 cells slots Q (F0 m (pc + 3) ls (.int v :: rest))) : W p l e R s m args below meth c H locs cells slots Q (F0 m pc ls (.int x4 :: .int x3 :: .int x2 :: .int x1 :: .int x0 :: .ref (ad r) :: rest)) :=
  r_callVi (As := [.int x0, .int x1, .int x2, .int x3, .int x4]) (ci := 7) C hP hS tm_L_22 ti_X7_entry ts_X7_entry tz_X7 tc_X7_entry dy_X7_entry (by omega) (wE_8 _ _ _ _ hr) rfl rfl hM hR hcells hls rfl hroom hdg kk
theorem k_X7_101 (C : Cx E p s m args c cc RX7 nL) (hP : Hp E K L ad I H) (hS : va_S (AG E) s.heap H locs) {k : Nat} {x0 : Int32} {post : Int32 → (Nat → Nat → Int32) → Prop} (hr : K r = 8) (hM : MI l E K L ad I yX7_isTable cX7_isTable 2 (some .boolean) k [.ref (ad r), .int x0] post) (hR : k + 1 ≤ R.frames ∧ 8 + (2 + 11) + 26 * k ≤ R.locals) (hcells : cells ≤ R.cells ∧ slots ≤ R.slots) (hls : ls.size = nL) (hroom : (rest.map fun v => v.category).sum ≤ 8) (hdg : decode cc pc = .ok (.invokevirtual 101, 3)) (kk : ∀ (v : Int32) (J : Nat → Nat → Int32) (H1 : Heap) (locs1 : List Loc), post v J → Hp E K L ad J H1 → va_S (AG E) s.heap H1 locs1 → W p l e R s m args below meth c H1 locs1 cells slots Q (F0 m (pc + 3) ls (.int v :: rest))) : W p l e R s m args below meth c H locs cells slots Q (F0 m pc ls (.int x0 :: .ref (ad r) :: rest)) :=
  r_callVi (As := [.int x0]) (ci := 7) C hP hS tm_X7_101 ti_X7_isTable ts_X7_isTable tz_X7 tc_X7_isTable dy_X7_isTable (by omega) (wE_8 _ _ _ _ hr) rfl rfl hM hR hcells hls rfl hroom hdg kk
theorem k_X7_104 (C : Cx E p s m args c cc RX7 nL) (hP : Hp E K L ad I H) (hS : va_S (AG E) s.heap H locs) {k : Nat} {x0 : Int32} {x1 : Int32} {x2 : Int32} {post : Int32 → (Nat → Nat → Int32) → Prop} (hM : MI l E K L ad I yX7_isAct cX7_isAct 4 (some .boolean) k [.int x0, .int x1, .int x2] post) (hR : k + 1 ≤ R.frames ∧ 8 + (4 + 11) + 26 * k ≤ R.locals) (hcells : cells ≤ R.cells ∧ slots ≤ R.slots) (hls : ls.size = nL) (hroom : (rest.map fun v => v.category).sum ≤ 8) (hdg : decode cc pc = .ok (.invokestatic 104, 3)) (kk : ∀ (v : Int32) (J : Nat → Nat → Int32) (H1 : Heap) (locs1 : List Loc), post v J → Hp E K L ad J H1 → va_S (AG E) s.heap H1 locs1 → W p l e R s m args below meth c H1 locs1 cells slots Q (F0 m (pc + 3) ls (.int v :: rest))) : W p l e R s m args below meth c H locs cells slots Q (F0 m pc ls (.int x2 :: .int x1 :: .int x0 :: rest)) :=
  r_callSi (As := [.int x0, .int x1, .int x2]) C hP hS tm_X7_104 tt_X7_isAct tz_X7 tc_X7_isAct dy_X7_isAct hM hR hcells hls rfl hroom hdg kk
theorem k_X7_107 (C : Cx E p s m args c cc RX7 nL) (hP : Hp E K L ad I H) (hS : va_S (AG E) s.heap H locs) {k : Nat} {x0 : Int32} {x1 : Int32} {post : Int32 → (Nat → Nat → Int32) → Prop} (hr : K r = 8) (hM : MI l E K L ad I yX7_entryWith cX7_entryWith 5 (some .int) k [.ref (ad r), .int x0, .int x1] post) (hR : k + 1 ≤ R.frames ∧ 8 + (5 + 11) + 26 * k ≤ R.locals) (hcells : cells ≤ R.cells ∧ slots ≤ R.slots) (hls : ls.size = nL) (hroom : (rest.map fun v => v.category).sum ≤ 8) (hdg : decode cc pc = .ok (.invokevirtual 107, 3)) (kk : ∀ (v : Int32) (J : Nat → Nat → Int32) (H1 : Heap) (locs1 : List Loc), post v J → Hp E K L ad J H1 → va_S (AG E) s.heap H1 locs1 → W p l e R s m args below meth c H1 locs1 cells slots Q (F0 m (pc + 3) ls (.int v :: rest))) : W p l e R s m args below meth c H locs cells slots Q (F0 m pc ls (.int x1 :: .int x0 :: .ref (ad r) :: rest)) :=
  r_callVi (As := [.int x0, .int x1]) (ci := 7) C hP hS tm_X7_107 ti_X7_entryWith ts_X7_entryWith tz_X7 tc_X7_entryWith dy_X7_entryWith (by omega) (wE_8 _ _ _ _ hr) rfl rfl hM hR hcells hls rfl hroom hdg kk
theorem k_X7_111 (C : Cx E p s m args c cc RX7 nL) (hP : Hp E K L ad I H) (hS : va_S (AG E) s.heap H locs) {k : Nat} {x0 : Int32} {x1 : Int32} {x2 : Int32} {post : Int32 → (Nat → Nat → Int32) → Prop} (hr : K r = 8) (hM : MI l E K L ad I yX7_isTaken cX7_isTaken 6 (some .boolean) k [.ref (ad r), .int x0, .int x1, .int x2] post) (hR : k + 1 ≤ R.frames ∧ 8 + (6 + 11) + 26 * k ≤ R.locals) (hcells : cells ≤ R.cells ∧ slots ≤ R.slots) (hls : ls.size = nL) (hroom : (rest.map fun v => v.category).sum ≤ 8) (hdg : decode cc pc = .ok (.invokevirtual 111, 3)) (kk : ∀ (v : Int32) (J : Nat → Nat → Int32) (H1 : Heap) (locs1 : List Loc), post v J → Hp E K L ad J H1 → va_S (AG E) s.heap H1 locs1 → W p l e R s m args below meth c H1 locs1 cells slots Q (F0 m (pc + 3) ls (.int v :: rest))) : W p l e R s m args below meth c H locs cells slots Q (F0 m pc ls (.int x2 :: .int x1 :: .int x0 :: .ref (ad r) :: rest)) :=
  r_callVi (As := [.int x0, .int x1, .int x2]) (ci := 7) C hP hS tm_X7_111 ti_X7_isTaken ts_X7_isTaken tz_X7 tc_X7_isTaken dy_X7_isTaken (by omega) (wE_8 _ _ _ _ hr) rfl rfl hM hR hcells hls rfl hroom hdg kk
theorem k_X7_93 (C : Cx E p s m args c cc RX7 nL) (hP : Hp E K L ad I H) (hS : va_S (AG E) s.heap H locs) {k : Nat} {x0 : Int32} {post : Int32 → (Nat → Nat → Int32) → Prop} (hr : K r = 8) (hM : MI l E K L ad I yX7_registersOf cX7_registersOf 4 (some .int) k [.ref (ad r), .int x0] post) (hR : k + 1 ≤ R.frames ∧ 8 + (4 + 11) + 26 * k ≤ R.locals) (hcells : cells ≤ R.cells ∧ slots ≤ R.slots) (hls : ls.size = nL) (hroom : (rest.map fun v => v.category).sum ≤ 8) (hdg : decode cc pc = .ok (.invokevirtual 93, 3)) (kk : ∀ (v : Int32) (J : Nat → Nat → Int32) (H1 : Heap) (locs1 : List Loc), post v J → Hp E K L ad J H1 → va_S (AG E) s.heap H1 locs1 → W p l e R s m args below meth c H1 locs1 cells slots Q (F0 m (pc + 3) ls (.int v :: rest))) : W p l e R s m args below meth c H locs cells slots Q (F0 m pc ls (.int x0 :: .ref (ad r) :: rest)) :=
  r_callVi (As := [.int x0]) (ci := 7) C hP hS tm_X7_93 ti_X7_registersOf ts_X7_registersOf tz_X7 tc_X7_registersOf dy_X7_registersOf (by omega) (wE_8 _ _ _ _ hr) rfl rfl hM hR hcells hls rfl hroom hdg kk
theorem k_X7_90 (C : Cx E p s m args c cc RX7 nL) (hP : Hp E K L ad I H) (hS : va_S (AG E) s.heap H locs) {k : Nat} {x0 : Int32} {post : Int32 → (Nat → Nat → Int32) → Prop} (hr : K r = 8) (hM : MI l E K L ad I yX7_isThere cX7_isThere 2 (some .boolean) k [.ref (ad r), .int x0] post) (hR : k + 1 ≤ R.frames ∧ 8 + (2 + 11) + 26 * k ≤ R.locals) (hcells : cells ≤ R.cells ∧ slots ≤ R.slots) (hls : ls.size = nL) (hroom : (rest.map fun v => v.category).sum ≤ 8) (hdg : decode cc pc = .ok (.invokevirtual 90, 3)) (kk : ∀ (v : Int32) (J : Nat → Nat → Int32) (H1 : Heap) (locs1 : List Loc), post v J → Hp E K L ad J H1 → va_S (AG E) s.heap H1 locs1 → W p l e R s m args below meth c H1 locs1 cells slots Q (F0 m (pc + 3) ls (.int v :: rest))) : W p l e R s m args below meth c H locs cells slots Q (F0 m pc ls (.int x0 :: .ref (ad r) :: rest)) :=
  r_callVi (As := [.int x0]) (ci := 7) C hP hS tm_X7_90 ti_X7_isThere ts_X7_isThere tz_X7 tc_X7_isThere dy_X7_isThere (by omega) (wE_8 _ _ _ _ hr) rfl rfl hM hR hcells hls rfl hroom hdg kk
theorem k_X7_97 (C : Cx E p s m args c cc RX7 nL) (hP : Hp E K L ad I H) (hS : va_S (AG E) s.heap H locs) {k : Nat} {x0 : Int32} {x1 : Int32} {post : Int32 → (Nat → Nat → Int32) → Prop} (hM : MI l E K L ad I yX7_has cX7_has 2 (some .boolean) k [.int x0, .int x1] post) (hR : k + 1 ≤ R.frames ∧ 8 + (2 + 11) + 26 * k ≤ R.locals) (hcells : cells ≤ R.cells ∧ slots ≤ R.slots) (hls : ls.size = nL) (hroom : (rest.map fun v => v.category).sum ≤ 8) (hdg : decode cc pc = .ok (.invokestatic 97, 3)) (kk : ∀ (v : Int32) (J : Nat → Nat → Int32) (H1 : Heap) (locs1 : List Loc), post v J → Hp E K L ad J H1 → va_S (AG E) s.heap H1 locs1 → W p l e R s m args below meth c H1 locs1 cells slots Q (F0 m (pc + 3) ls (.int v :: rest))) : W p l e R s m args below meth c H locs cells slots Q (F0 m pc ls (.int x1 :: .int x0 :: rest)) :=
  r_callSi (As := [.int x0, .int x1]) C hP hS tm_X7_97 tt_X7_has tz_X7 tc_X7_has dy_X7_has hM hR hcells hls rfl hroom hdg kk
theorem k_L_27 (C : Cx E p s m args c cc RL nL) (hP : Hp E K L ad I H) (hS : va_S (AG E) s.heap H locs) {k : Nat} {x0 : Int32} {x1 : Int32} {x2 : Int32} {x3 : Int32} {post : Int32 → (Nat → Nat → Int32) → Prop} (hr : K r = 8) (hM : MI l E K L ad I yX7_otherwise cX7_otherwise 6 (some .int) k [.ref (ad r), .int x0, .int x1, .int x2, .int x3] post) (hR : k + 1 ≤ R.frames ∧ 8 + (6 + 11) + 26 * k ≤ R.locals) (hcells : cells ≤ R.cells ∧ slots ≤ R.slots) (hls : ls.size = nL) (hroom : (rest.map fun v => v.category).sum ≤ 8) (hdg : decode cc pc = .ok (.invokevirtual 27, 3)) (kk : ∀ (v : Int32) (J : Nat → Nat → Int32) (H1 : Heap) (locs1 : List Loc), post v J → Hp E K L ad J H1 → va_S (AG E) s.heap H1 locs1 → W p l e R s m args below meth c H1 locs1 cells slots Q (F0 m (pc + 3) ls (.int v :: rest))) : W p l e R s m args below meth c H locs cells slots Q (F0 m pc ls (.int x3 :: .int x2 :: .int x1 :: .int x0 :: .ref (ad r) :: rest)) :=
  r_callVi (As := [.int x0, .int x1, .int x2, .int x3]) (ci := 7) C hP hS tm_L_27 ti_X7_otherwise ts_X7_otherwise tz_X7 tc_X7_otherwise dy_X7_otherwise (by omega) (wE_8 _ _ _ _ hr) rfl rfl hM hR hcells hls rfl hroom hdg kk
theorem k_L_32 (C : Cx E p s m args c cc RL nL) (hP : Hp E K L ad I H) (hS : va_S (AG E) s.heap H locs) {k : Nat} {x0 : Int32} {x1 : Int32} {post : Int32 → (Nat → Nat → Int32) → Prop} (hr : K r = 8) (hM : MI l E K L ad I yX7_forget cX7_forget 4 (some .int) k [.ref (ad r), .int x0, .int x1] post) (hR : k + 1 ≤ R.frames ∧ 8 + (4 + 11) + 26 * k ≤ R.locals) (hcells : cells ≤ R.cells ∧ slots ≤ R.slots) (hls : ls.size = nL) (hroom : (rest.map fun v => v.category).sum ≤ 8) (hdg : decode cc pc = .ok (.invokevirtual 32, 3)) (kk : ∀ (v : Int32) (J : Nat → Nat → Int32) (H1 : Heap) (locs1 : List Loc), post v J → Hp E K L ad J H1 → va_S (AG E) s.heap H1 locs1 → W p l e R s m args below meth c H1 locs1 cells slots Q (F0 m (pc + 3) ls (.int v :: rest))) : W p l e R s m args below meth c H locs cells slots Q (F0 m pc ls (.int x1 :: .int x0 :: .ref (ad r) :: rest)) :=
  r_callVi (As := [.int x0, .int x1]) (ci := 7) C hP hS tm_L_32 ti_X7_forget ts_X7_forget tz_X7 tc_X7_forget dy_X7_forget (by omega) (wE_8 _ _ _ _ hr) rfl rfl hM hR hcells hls rfl hroom hdg kk
theorem k_X7_114 (C : Cx E p s m args c cc RX7 nL) (hP : Hp E K L ad I H) (hS : va_S (AG E) s.heap H locs) {k : Nat} {x0 : Int32} {x1 : Int32} {post : (Nat → Nat → Int32) → Prop} (hr : K r = 8) (hM : MV l E K L ad I yX7_copy cX7_copy 3 k [.ref (ad r), .int x0, .int x1] post) (hR : k + 1 ≤ R.frames ∧ 8 + (3 + 11) + 26 * k ≤ R.locals) (hcells : cells ≤ R.cells ∧ slots ≤ R.slots) (hls : ls.size = nL) (hroom : (rest.map fun v => v.category).sum ≤ 8) (hdg : decode cc pc = .ok (.invokevirtual 114, 3)) (kk : ∀ (J : Nat → Nat → Int32) (H1 : Heap) (locs1 : List Loc), post J → Hp E K L ad J H1 → va_S (AG E) s.heap H1 locs1 → W p l e R s m args below meth c H1 locs1 cells slots Q (F0 m (pc + 3) ls rest)) : W p l e R s m args below meth c H locs cells slots Q (F0 m pc ls (.int x1 :: .int x0 :: .ref (ad r) :: rest)) :=
  r_callVv (As := [.int x0, .int x1]) (ci := 7) C hP hS tm_X7_114 ti_X7_copy ts_X7_copy tz_X7 tc_X7_copy dy_X7_copy (by omega) (wE_8 _ _ _ _ hr) rfl rfl hM hR hcells hls rfl hroom hdg kk
theorem k_L_36 (C : Cx E p s m args c cc RL nL) (hP : Hp E K L ad I H) (hS : va_S (AG E) s.heap H locs) {k : Nat} {x0 : Int32} {post : Int32 → (Nat → Nat → Int32) → Prop} (hr : K r = 8) (hM : MI l E K L ad I yX7_drop cX7_drop 4 (some .int) k [.ref (ad r), .int x0] post) (hR : k + 1 ≤ R.frames ∧ 8 + (4 + 11) + 26 * k ≤ R.locals) (hcells : cells ≤ R.cells ∧ slots ≤ R.slots) (hls : ls.size = nL) (hroom : (rest.map fun v => v.category).sum ≤ 8) (hdg : decode cc pc = .ok (.invokevirtual 36, 3)) (kk : ∀ (v : Int32) (J : Nat → Nat → Int32) (H1 : Heap) (locs1 : List Loc), post v J → Hp E K L ad J H1 → va_S (AG E) s.heap H1 locs1 → W p l e R s m args below meth c H1 locs1 cells slots Q (F0 m (pc + 3) ls (.int v :: rest))) : W p l e R s m args below meth c H locs cells slots Q (F0 m pc ls (.int x0 :: .ref (ad r) :: rest)) :=
  r_callVi (As := [.int x0]) (ci := 7) C hP hS tm_L_36 ti_X7_drop ts_X7_drop tz_X7 tc_X7_drop dy_X7_drop (by omega) (wE_8 _ _ _ _ hr) rfl rfl hM hR hcells hls rfl hroom hdg kk
theorem k_L_40 (C : Cx E p s m args c cc RL nL) (hP : Hp E K L ad I H) (hS : va_S (AG E) s.heap H locs) {k : Nat} {x0 : Int32} {x1 : Int32} {post : Int32 → (Nat → Nat → Int32) → Prop} (hr : K r = 8) (hM : MI l E K L ad I yX7_rule cX7_rule 4 (some .int) k [.ref (ad r), .int x0, .int x1] post) (hR : k + 1 ≤ R.frames ∧ 8 + (4 + 11) + 26 * k ≤ R.locals) (hcells : cells ≤ R.cells ∧ slots ≤ R.slots) (hls : ls.size = nL) (hroom : (rest.map fun v => v.category).sum ≤ 8) (hdg : decode cc pc = .ok (.invokevirtual 40, 3)) (kk : ∀ (v : Int32) (J : Nat → Nat → Int32) (H1 : Heap) (locs1 : List Loc), post v J → Hp E K L ad J H1 → va_S (AG E) s.heap H1 locs1 → W p l e R s m args below meth c H1 locs1 cells slots Q (F0 m (pc + 3) ls (.int v :: rest))) : W p l e R s m args below meth c H locs cells slots Q (F0 m pc ls (.int x1 :: .int x0 :: .ref (ad r) :: rest)) :=
  r_callVi (As := [.int x0, .int x1]) (ci := 7) C hP hS tm_L_40 ti_X7_rule ts_X7_rule tz_X7 tc_X7_rule dy_X7_rule (by omega) (wE_8 _ _ _ _ hr) rfl rfl hM hR hcells hls rfl hroom hdg kk
theorem k_L_48 (C : Cx E p s m args c cc RL nL) (hP : Hp E K L ad I H) (hS : va_S (AG E) s.heap H locs) {k : Nat} {x0 : Int32} {x1 : Int32} {post : Int32 → (Nat → Nat → Int32) → Prop} (hr : K r = 8) (hM : MI l E K L ad I yX7_needs cX7_needs 3 (some .int) k [.ref (ad r), .int x0, .int x1] post) (hR : k + 1 ≤ R.frames ∧ 8 + (3 + 11) + 26 * k ≤ R.locals) (hcells : cells ≤ R.cells ∧ slots ≤ R.slots) (hls : ls.size = nL) (hroom : (rest.map fun v => v.category).sum ≤ 8) (hdg : decode cc pc = .ok (.invokevirtual 48, 3)) (kk : ∀ (v : Int32) (J : Nat → Nat → Int32) (H1 : Heap) (locs1 : List Loc), post v J → Hp E K L ad J H1 → va_S (AG E) s.heap H1 locs1 → W p l e R s m args below meth c H1 locs1 cells slots Q (F0 m (pc + 3) ls (.int v :: rest))) : W p l e R s m args below meth c H locs cells slots Q (F0 m pc ls (.int x1 :: .int x0 :: .ref (ad r) :: rest)) :=
  r_callVi (As := [.int x0, .int x1]) (ci := 7) C hP hS tm_L_48 ti_X7_needs ts_X7_needs tz_X7 tc_X7_needs dy_X7_needs (by omega) (wE_8 _ _ _ _ hr) rfl rfl hM hR hcells hls rfl hroom hdg kk
theorem k_X7_124 (C : Cx E p s m args c cc RX7 nL) (hP : Hp E K L ad I H) (hS : va_S (AG E) s.heap H locs) {k : Nat} {x0 : Int32} {x1 : Int32} {post : Int32 → (Nat → Nat → Int32) → Prop} (hr : K r = 8) (hM : MI l E K L ad I yX7_needOf cX7_needOf 3 (some .int) k [.ref (ad r), .int x0, .int x1] post) (hR : k + 1 ≤ R.frames ∧ 8 + (3 + 11) + 26 * k ≤ R.locals) (hcells : cells ≤ R.cells ∧ slots ≤ R.slots) (hls : ls.size = nL) (hroom : (rest.map fun v => v.category).sum ≤ 8) (hdg : decode cc pc = .ok (.invokevirtual 124, 3)) (kk : ∀ (v : Int32) (J : Nat → Nat → Int32) (H1 : Heap) (locs1 : List Loc), post v J → Hp E K L ad J H1 → va_S (AG E) s.heap H1 locs1 → W p l e R s m args below meth c H1 locs1 cells slots Q (F0 m (pc + 3) ls (.int v :: rest))) : W p l e R s m args below meth c H locs cells slots Q (F0 m pc ls (.int x1 :: .int x0 :: .ref (ad r) :: rest)) :=
  r_callVi (As := [.int x0, .int x1]) (ci := 7) C hP hS tm_X7_124 ti_X7_needOf ts_X7_needOf tz_X7 tc_X7_needOf dy_X7_needOf (by omega) (wE_8 _ _ _ _ hr) rfl rfl hM hR hcells hls rfl hroom hdg kk
theorem k_X7_118 (C : Cx E p s m args c cc RX7 nL) (hP : Hp E K L ad I H) (hS : va_S (AG E) s.heap H locs) {k : Nat} {x0 : Int32} {post : Int32 → (Nat → Nat → Int32) → Prop} (hr : K r = 8) (hM : MI l E K L ad I yX7_writes cX7_writes 4 (some .int) k [.ref (ad r), .int x0] post) (hR : k + 1 ≤ R.frames ∧ 8 + (4 + 11) + 26 * k ≤ R.locals) (hcells : cells ≤ R.cells ∧ slots ≤ R.slots) (hls : ls.size = nL) (hroom : (rest.map fun v => v.category).sum ≤ 8) (hdg : decode cc pc = .ok (.invokevirtual 118, 3)) (kk : ∀ (v : Int32) (J : Nat → Nat → Int32) (H1 : Heap) (locs1 : List Loc), post v J → Hp E K L ad J H1 → va_S (AG E) s.heap H1 locs1 → W p l e R s m args below meth c H1 locs1 cells slots Q (F0 m (pc + 3) ls (.int v :: rest))) : W p l e R s m args below meth c H locs cells slots Q (F0 m pc ls (.int x0 :: .ref (ad r) :: rest)) :=
  r_callVi (As := [.int x0]) (ci := 7) C hP hS tm_X7_118 ti_X7_writes ts_X7_writes tz_X7 tc_X7_writes dy_X7_writes (by omega) (wE_8 _ _ _ _ hr) rfl rfl hM hR hcells hls rfl hroom hdg kk
theorem k_X7_121 (C : Cx E p s m args c cc RX7 nL) (hP : Hp E K L ad I H) (hS : va_S (AG E) s.heap H locs) {k : Nat} {x0 : Int32} {post : Int32 → (Nat → Nat → Int32) → Prop} (hr : K r = 8) (hM : MI l E K L ad I yX7_reads cX7_reads 5 (some .int) k [.ref (ad r), .int x0] post) (hR : k + 1 ≤ R.frames ∧ 8 + (5 + 11) + 26 * k ≤ R.locals) (hcells : cells ≤ R.cells ∧ slots ≤ R.slots) (hls : ls.size = nL) (hroom : (rest.map fun v => v.category).sum ≤ 8) (hdg : decode cc pc = .ok (.invokevirtual 121, 3)) (kk : ∀ (v : Int32) (J : Nat → Nat → Int32) (H1 : Heap) (locs1 : List Loc), post v J → Hp E K L ad J H1 → va_S (AG E) s.heap H1 locs1 → W p l e R s m args below meth c H1 locs1 cells slots Q (F0 m (pc + 3) ls (.int v :: rest))) : W p l e R s m args below meth c H locs cells slots Q (F0 m pc ls (.int x0 :: .ref (ad r) :: rest)) :=
  r_callVi (As := [.int x0]) (ci := 7) C hP hS tm_X7_121 ti_X7_reads ts_X7_reads tz_X7 tc_X7_reads dy_X7_reads (by omega) (wE_8 _ _ _ _ hr) rfl rfl hM hR hcells hls rfl hroom hdg kk
theorem k_L_44 (C : Cx E p s m args c cc RL nL) (hP : Hp E K L ad I H) (hS : va_S (AG E) s.heap H locs) {k : Nat} {x0 : Int32} {x1 : Int32} {post : Int32 → (Nat → Nat → Int32) → Prop} (hr : K r = 8) (hM : MI l E K L ad I yX7_told cX7_told 3 (some .int) k [.ref (ad r), .int x0, .int x1] post) (hR : k + 1 ≤ R.frames ∧ 8 + (3 + 11) + 26 * k ≤ R.locals) (hcells : cells ≤ R.cells ∧ slots ≤ R.slots) (hls : ls.size = nL) (hroom : (rest.map fun v => v.category).sum ≤ 8) (hdg : decode cc pc = .ok (.invokevirtual 44, 3)) (kk : ∀ (v : Int32) (J : Nat → Nat → Int32) (H1 : Heap) (locs1 : List Loc), post v J → Hp E K L ad J H1 → va_S (AG E) s.heap H1 locs1 → W p l e R s m args below meth c H1 locs1 cells slots Q (F0 m (pc + 3) ls (.int v :: rest))) : W p l e R s m args below meth c H locs cells slots Q (F0 m pc ls (.int x1 :: .int x0 :: .ref (ad r) :: rest)) :=
  r_callVi (As := [.int x0, .int x1]) (ci := 7) C hP hS tm_L_44 ti_X7_told ts_X7_told tz_X7 tc_X7_told dy_X7_told (by omega) (wE_8 _ _ _ _ hr) rfl rfl hM hR hcells hls rfl hroom hdg kk
theorem k_X7_130 (C : Cx E p s m args c cc RX7 nL) (hP : Hp E K L ad I H) (hS : va_S (AG E) s.heap H locs) {k : Nat} {x0 : Int32} {x1 : Int32} {post : Int32 → (Nat → Nat → Int32) → Prop} (hr : K r = 8) (hM : MI l E K L ad I yX7_part cX7_part 6 (some .int) k [.ref (ad r), .int x0, .int x1] post) (hR : k + 1 ≤ R.frames ∧ 8 + (6 + 11) + 26 * k ≤ R.locals) (hcells : cells ≤ R.cells ∧ slots ≤ R.slots) (hls : ls.size = nL) (hroom : (rest.map fun v => v.category).sum ≤ 8) (hdg : decode cc pc = .ok (.invokevirtual 130, 3)) (kk : ∀ (v : Int32) (J : Nat → Nat → Int32) (H1 : Heap) (locs1 : List Loc), post v J → Hp E K L ad J H1 → va_S (AG E) s.heap H1 locs1 → W p l e R s m args below meth c H1 locs1 cells slots Q (F0 m (pc + 3) ls (.int v :: rest))) : W p l e R s m args below meth c H locs cells slots Q (F0 m pc ls (.int x1 :: .int x0 :: .ref (ad r) :: rest)) :=
  r_callVi (As := [.int x0, .int x1]) (ci := 7) C hP hS tm_X7_130 ti_X7_part ts_X7_part tz_X7 tc_X7_part dy_X7_part (by omega) (wE_8 _ _ _ _ hr) rfl rfl hM hR hcells hls rfl hroom hdg kk
theorem k_X7_133 (C : Cx E p s m args c cc RX7 nL) (hP : Hp E K L ad I H) (hS : va_S (AG E) s.heap H locs) {k : Nat} {x0 : Int32} {post : Int32 → (Nat → Nat → Int32) → Prop} (hr : K r = 8) (hM : MI l E K L ad I yX7_levelOf cX7_levelOf 4 (some .int) k [.ref (ad r), .int x0] post) (hR : k + 1 ≤ R.frames ∧ 8 + (4 + 11) + 26 * k ≤ R.locals) (hcells : cells ≤ R.cells ∧ slots ≤ R.slots) (hls : ls.size = nL) (hroom : (rest.map fun v => v.category).sum ≤ 8) (hdg : decode cc pc = .ok (.invokevirtual 133, 3)) (kk : ∀ (v : Int32) (J : Nat → Nat → Int32) (H1 : Heap) (locs1 : List Loc), post v J → Hp E K L ad J H1 → va_S (AG E) s.heap H1 locs1 → W p l e R s m args below meth c H1 locs1 cells slots Q (F0 m (pc + 3) ls (.int v :: rest))) : W p l e R s m args below meth c H locs cells slots Q (F0 m pc ls (.int x0 :: .ref (ad r) :: rest)) :=
  r_callVi (As := [.int x0]) (ci := 7) C hP hS tm_X7_133 ti_X7_levelOf ts_X7_levelOf tz_X7 tc_X7_levelOf dy_X7_levelOf (by omega) (wE_8 _ _ _ _ hr) rfl rfl hM hR hcells hls rfl hroom hdg kk
theorem k_X7_136 (C : Cx E p s m args c cc RX7 nL) (hP : Hp E K L ad I H) (hS : va_S (AG E) s.heap H locs) {k : Nat} {post : Int32 → (Nat → Nat → Int32) → Prop} (hr : K r = 8) (hM : MI l E K L ad I yX7_pack cX7_pack 6 (some .boolean) k [.ref (ad r)] post) (hR : k + 1 ≤ R.frames ∧ 8 + (6 + 11) + 26 * k ≤ R.locals) (hcells : cells ≤ R.cells ∧ slots ≤ R.slots) (hls : ls.size = nL) (hroom : (rest.map fun v => v.category).sum ≤ 8) (hdg : decode cc pc = .ok (.invokevirtual 136, 3)) (kk : ∀ (v : Int32) (J : Nat → Nat → Int32) (H1 : Heap) (locs1 : List Loc), post v J → Hp E K L ad J H1 → va_S (AG E) s.heap H1 locs1 → W p l e R s m args below meth c H1 locs1 cells slots Q (F0 m (pc + 3) ls (.int v :: rest))) : W p l e R s m args below meth c H locs cells slots Q (F0 m pc ls (.ref (ad r) :: rest)) :=
  r_callVi (As := []) (ci := 7) C hP hS tm_X7_136 ti_X7_pack ts_X7_pack tz_X7 tc_X7_pack dy_X7_pack (by omega) (wE_8 _ _ _ _ hr) rfl rfl hM hR hcells hls rfl hroom hdg kk
theorem k_X7_127 (C : Cx E p s m args c cc RX7 nL) (hP : Hp E K L ad I H) (hS : va_S (AG E) s.heap H locs) {k : Nat} {x0 : Int32} {post : Int32 → (Nat → Nat → Int32) → Prop} (hr : K r = 8) (hM : MI l E K L ad I yX7_sizeOf cX7_sizeOf 2 (some .int) k [.ref (ad r), .int x0] post) (hR : k + 1 ≤ R.frames ∧ 8 + (2 + 11) + 26 * k ≤ R.locals) (hcells : cells ≤ R.cells ∧ slots ≤ R.slots) (hls : ls.size = nL) (hroom : (rest.map fun v => v.category).sum ≤ 8) (hdg : decode cc pc = .ok (.invokevirtual 127, 3)) (kk : ∀ (v : Int32) (J : Nat → Nat → Int32) (H1 : Heap) (locs1 : List Loc), post v J → Hp E K L ad J H1 → va_S (AG E) s.heap H1 locs1 → W p l e R s m args below meth c H1 locs1 cells slots Q (F0 m (pc + 3) ls (.int v :: rest))) : W p l e R s m args below meth c H locs cells slots Q (F0 m pc ls (.int x0 :: .ref (ad r) :: rest)) :=
  r_callVi (As := [.int x0]) (ci := 7) C hP hS tm_X7_127 ti_X7_sizeOf ts_X7_sizeOf tz_X7 tc_X7_sizeOf dy_X7_sizeOf (by omega) (wE_8 _ _ _ _ hr) rfl rfl hM hR hcells hls rfl hroom hdg kk
theorem k_L_53 (C : Cx E p s m args c cc RL nL) (hP : Hp E K L ad I H) (hS : va_S (AG E) s.heap H locs) {k : Nat} {post : Int32 → (Nat → Nat → Int32) → Prop} (hr : K r = 8) (hM : MI l E K L ad I yX7_stages cX7_stages 3 (some .int) k [.ref (ad r)] post) (hR : k + 1 ≤ R.frames ∧ 8 + (3 + 11) + 26 * k ≤ R.locals) (hcells : cells ≤ R.cells ∧ slots ≤ R.slots) (hls : ls.size = nL) (hroom : (rest.map fun v => v.category).sum ≤ 8) (hdg : decode cc pc = .ok (.invokevirtual 53, 3)) (kk : ∀ (v : Int32) (J : Nat → Nat → Int32) (H1 : Heap) (locs1 : List Loc), post v J → Hp E K L ad J H1 → va_S (AG E) s.heap H1 locs1 → W p l e R s m args below meth c H1 locs1 cells slots Q (F0 m (pc + 3) ls (.int v :: rest))) : W p l e R s m args below meth c H locs cells slots Q (F0 m pc ls (.ref (ad r) :: rest)) :=
  r_callVi (As := []) (ci := 7) C hP hS tm_L_53 ti_X7_stages ts_X7_stages tz_X7 tc_X7_stages dy_X7_stages (by omega) (wE_8 _ _ _ _ hr) rfl rfl hM hR hcells hls rfl hroom hdg kk
theorem k_L_57 (C : Cx E p s m args c cc RL nL) (hP : Hp E K L ad I H) (hS : va_S (AG E) s.heap H locs) {k : Nat} {x0 : Int32} {x1 : Int32} {post : Int32 → (Nat → Nat → Int32) → Prop} (hr : K r = 8) (hM : MI l E K L ad I yX7_stage cX7_stage 5 (some .int) k [.ref (ad r), .int x0, .int x1] post) (hR : k + 1 ≤ R.frames ∧ 8 + (5 + 11) + 26 * k ≤ R.locals) (hcells : cells ≤ R.cells ∧ slots ≤ R.slots) (hls : ls.size = nL) (hroom : (rest.map fun v => v.category).sum ≤ 8) (hdg : decode cc pc = .ok (.invokevirtual 57, 3)) (kk : ∀ (v : Int32) (J : Nat → Nat → Int32) (H1 : Heap) (locs1 : List Loc), post v J → Hp E K L ad J H1 → va_S (AG E) s.heap H1 locs1 → W p l e R s m args below meth c H1 locs1 cells slots Q (F0 m (pc + 3) ls (.int v :: rest))) : W p l e R s m args below meth c H locs cells slots Q (F0 m pc ls (.int x1 :: .int x0 :: .ref (ad r) :: rest)) :=
  r_callVi (As := [.int x0, .int x1]) (ci := 7) C hP hS tm_L_57 ti_X7_stage ts_X7_stage tz_X7 tc_X7_stage dy_X7_stage (by omega) (wE_8 _ _ _ _ hr) rfl rfl hM hR hcells hls rfl hroom hdg kk
theorem k_L_61 (C : Cx E p s m args c cc RL nL) (hP : Hp E K L ad I H) (hS : va_S (AG E) s.heap H locs) {k : Nat} {post : Int32 → (Nat → Nat → Int32) → Prop} (hr : K r = 8) (hM : MI l E K L ad I yX7_fewest cX7_fewest 5 (some .int) k [.ref (ad r)] post) (hR : k + 1 ≤ R.frames ∧ 8 + (5 + 11) + 26 * k ≤ R.locals) (hcells : cells ≤ R.cells ∧ slots ≤ R.slots) (hls : ls.size = nL) (hroom : (rest.map fun v => v.category).sum ≤ 8) (hdg : decode cc pc = .ok (.invokevirtual 61, 3)) (kk : ∀ (v : Int32) (J : Nat → Nat → Int32) (H1 : Heap) (locs1 : List Loc), post v J → Hp E K L ad J H1 → va_S (AG E) s.heap H1 locs1 → W p l e R s m args below meth c H1 locs1 cells slots Q (F0 m (pc + 3) ls (.int v :: rest))) : W p l e R s m args below meth c H locs cells slots Q (F0 m pc ls (.ref (ad r) :: rest)) :=
  r_callVi (As := []) (ci := 7) C hP hS tm_L_61 ti_X7_fewest ts_X7_fewest tz_X7 tc_X7_fewest dy_X7_fewest (by omega) (wE_8 _ _ _ _ hr) rfl rfl hM hR hcells hls rfl hroom hdg kk
theorem k_X7_143 (C : Cx E p s m args c cc RX7 nL) (hP : Hp E K L ad I H) (hS : va_S (AG E) s.heap H locs) {k : Nat} {x0 : Int32} {x1 : Int32} {post : Int32 → (Nat → Nat → Int32) → Prop} (hr : K r = 8) (hM : MI l E K L ad I yX7_canFollow cX7_canFollow 6 (some .boolean) k [.ref (ad r), .int x0, .int x1] post) (hR : k + 1 ≤ R.frames ∧ 8 + (6 + 11) + 26 * k ≤ R.locals) (hcells : cells ≤ R.cells ∧ slots ≤ R.slots) (hls : ls.size = nL) (hroom : (rest.map fun v => v.category).sum ≤ 8) (hdg : decode cc pc = .ok (.invokevirtual 143, 3)) (kk : ∀ (v : Int32) (J : Nat → Nat → Int32) (H1 : Heap) (locs1 : List Loc), post v J → Hp E K L ad J H1 → va_S (AG E) s.heap H1 locs1 → W p l e R s m args below meth c H1 locs1 cells slots Q (F0 m (pc + 3) ls (.int v :: rest))) : W p l e R s m args below meth c H locs cells slots Q (F0 m pc ls (.int x1 :: .int x0 :: .ref (ad r) :: rest)) :=
  r_callVi (As := [.int x0, .int x1]) (ci := 7) C hP hS tm_X7_143 ti_X7_canFollow ts_X7_canFollow tz_X7 tc_X7_canFollow dy_X7_canFollow (by omega) (wE_8 _ _ _ _ hr) rfl rfl hM hR hcells hls rfl hroom hdg kk
theorem k_X7_140 (C : Cx E p s m args c cc RX7 nL) (hP : Hp E K L ad I H) (hS : va_S (AG E) s.heap H locs) {k : Nat} {x0 : Int32} {post : Int32 → (Nat → Nat → Int32) → Prop} (hM : MI l E K L ad I yX7_bits cX7_bits 3 (some .int) k [.int x0] post) (hR : k + 1 ≤ R.frames ∧ 8 + (3 + 11) + 26 * k ≤ R.locals) (hcells : cells ≤ R.cells ∧ slots ≤ R.slots) (hls : ls.size = nL) (hroom : (rest.map fun v => v.category).sum ≤ 8) (hdg : decode cc pc = .ok (.invokestatic 140, 3)) (kk : ∀ (v : Int32) (J : Nat → Nat → Int32) (H1 : Heap) (locs1 : List Loc), post v J → Hp E K L ad J H1 → va_S (AG E) s.heap H1 locs1 → W p l e R s m args below meth c H1 locs1 cells slots Q (F0 m (pc + 3) ls (.int v :: rest))) : W p l e R s m args below meth c H locs cells slots Q (F0 m pc ls (.int x0 :: rest)) :=
  r_callSi (As := [.int x0]) C hP hS tm_X7_140 tt_X7_bits tz_X7 tc_X7_bits dy_X7_bits hM hR hcells hls rfl hroom hdg kk
theorem k_L_65 (C : Cx E p s m args c cc RL nL) (hP : Hp E K L ad I H) (hS : va_S (AG E) s.heap H locs) {k : Nat} {x0 : Int32} {x1 : Int32} {post : Int32 → (Nat → Nat → Int32) → Prop} (hr : K r = 8) (hM : MI l E K L ad I yX7_tell cX7_tell 4 (some .int) k [.ref (ad r), .int x0, .int x1] post) (hR : k + 1 ≤ R.frames ∧ 8 + (4 + 11) + 26 * k ≤ R.locals) (hcells : cells ≤ R.cells ∧ slots ≤ R.slots) (hls : ls.size = nL) (hroom : (rest.map fun v => v.category).sum ≤ 8) (hdg : decode cc pc = .ok (.invokevirtual 65, 3)) (kk : ∀ (v : Int32) (J : Nat → Nat → Int32) (H1 : Heap) (locs1 : List Loc), post v J → Hp E K L ad J H1 → va_S (AG E) s.heap H1 locs1 → W p l e R s m args below meth c H1 locs1 cells slots Q (F0 m (pc + 3) ls (.int v :: rest))) : W p l e R s m args below meth c H locs cells slots Q (F0 m pc ls (.int x1 :: .int x0 :: .ref (ad r) :: rest)) :=
  r_callVi (As := [.int x0, .int x1]) (ci := 7) C hP hS tm_L_65 ti_X7_tell ts_X7_tell tz_X7 tc_X7_tell dy_X7_tell (by omega) (wE_8 _ _ _ _ hr) rfl rfl hM hR hcells hls rfl hroom hdg kk
theorem k_L_69 (C : Cx E p s m args c cc RL nL) (hP : Hp E K L ad I H) (hS : va_S (AG E) s.heap H locs) {k : Nat} {x0 : Int32} {x1 : Int32} {post : Int32 → (Nat → Nat → Int32) → Prop} (hr : K r = 8) (hM : MI l E K L ad I yX7_put cX7_put 4 (some .int) k [.ref (ad r), .int x0, .int x1] post) (hR : k + 1 ≤ R.frames ∧ 8 + (4 + 11) + 26 * k ≤ R.locals) (hcells : cells ≤ R.cells ∧ slots ≤ R.slots) (hls : ls.size = nL) (hroom : (rest.map fun v => v.category).sum ≤ 8) (hdg : decode cc pc = .ok (.invokevirtual 69, 3)) (kk : ∀ (v : Int32) (J : Nat → Nat → Int32) (H1 : Heap) (locs1 : List Loc), post v J → Hp E K L ad J H1 → va_S (AG E) s.heap H1 locs1 → W p l e R s m args below meth c H1 locs1 cells slots Q (F0 m (pc + 3) ls (.int v :: rest))) : W p l e R s m args below meth c H locs cells slots Q (F0 m pc ls (.int x1 :: .int x0 :: .ref (ad r) :: rest)) :=
  r_callVi (As := [.int x0, .int x1]) (ci := 7) C hP hS tm_L_69 ti_X7_put ts_X7_put tz_X7 tc_X7_put dy_X7_put (by omega) (wE_8 _ _ _ _ hr) rfl rfl hM hR hcells hls rfl hroom hdg kk
theorem k_L_73 (C : Cx E p s m args c cc RL nL) (hP : Hp E K L ad I H) (hS : va_S (AG E) s.heap H locs) {k : Nat} {x0 : Int32} {post : Int32 → (Nat → Nat → Int32) → Prop} (hr : K r = 8) (hM : MI l E K L ad I yX7_register cX7_register 2 (some .int) k [.ref (ad r), .int x0] post) (hR : k + 1 ≤ R.frames ∧ 8 + (2 + 11) + 26 * k ≤ R.locals) (hcells : cells ≤ R.cells ∧ slots ≤ R.slots) (hls : ls.size = nL) (hroom : (rest.map fun v => v.category).sum ≤ 8) (hdg : decode cc pc = .ok (.invokevirtual 73, 3)) (kk : ∀ (v : Int32) (J : Nat → Nat → Int32) (H1 : Heap) (locs1 : List Loc), post v J → Hp E K L ad J H1 → va_S (AG E) s.heap H1 locs1 → W p l e R s m args below meth c H1 locs1 cells slots Q (F0 m (pc + 3) ls (.int v :: rest))) : W p l e R s m args below meth c H locs cells slots Q (F0 m pc ls (.int x0 :: .ref (ad r) :: rest)) :=
  r_callVi (As := [.int x0]) (ci := 7) C hP hS tm_L_73 ti_X7_register ts_X7_register tz_X7 tc_X7_register dy_X7_register (by omega) (wE_8 _ _ _ _ hr) rfl rfl hM hR hcells hls rfl hroom hdg kk
theorem k_L_77 (C : Cx E p s m args c cc RL nL) (hP : Hp E K L ad I H) (hS : va_S (AG E) s.heap H locs) {k : Nat} {post : Int32 → (Nat → Nat → Int32) → Prop} (hr : K r = 8) (hM : MI l E K L ad I yX7_run cX7_run 2 (some .int) k [.ref (ad r)] post) (hR : k + 1 ≤ R.frames ∧ 8 + (2 + 11) + 26 * k ≤ R.locals) (hcells : cells ≤ R.cells ∧ slots ≤ R.slots) (hls : ls.size = nL) (hroom : (rest.map fun v => v.category).sum ≤ 8) (hdg : decode cc pc = .ok (.invokevirtual 77, 3)) (kk : ∀ (v : Int32) (J : Nat → Nat → Int32) (H1 : Heap) (locs1 : List Loc), post v J → Hp E K L ad J H1 → va_S (AG E) s.heap H1 locs1 → W p l e R s m args below meth c H1 locs1 cells slots Q (F0 m (pc + 3) ls (.int v :: rest))) : W p l e R s m args below meth c H locs cells slots Q (F0 m pc ls (.ref (ad r) :: rest)) :=
  r_callVi (As := []) (ci := 7) C hP hS tm_L_77 ti_X7_run ts_X7_run tz_X7 tc_X7_run dy_X7_run (by omega) (wE_8 _ _ _ _ hr) rfl rfl hM hR hcells hls rfl hroom hdg kk
theorem k_X7_165 (C : Cx E p s m args c cc RX7 nL) (hP : Hp E K L ad I H) (hS : va_S (AG E) s.heap H locs) {k : Nat} {post : (Nat → Nat → Int32) → Prop} (hr : K r = 8) (hM : MV l E K L ad I yX7_round cX7_round 3 k [.ref (ad r)] post) (hR : k + 1 ≤ R.frames ∧ 8 + (3 + 11) + 26 * k ≤ R.locals) (hcells : cells ≤ R.cells ∧ slots ≤ R.slots) (hls : ls.size = nL) (hroom : (rest.map fun v => v.category).sum ≤ 8) (hdg : decode cc pc = .ok (.invokevirtual 165, 3)) (kk : ∀ (J : Nat → Nat → Int32) (H1 : Heap) (locs1 : List Loc), post J → Hp E K L ad J H1 → va_S (AG E) s.heap H1 locs1 → W p l e R s m args below meth c H1 locs1 cells slots Q (F0 m (pc + 3) ls rest)) : W p l e R s m args below meth c H locs cells slots Q (F0 m pc ls (.ref (ad r) :: rest)) :=
  r_callVv (As := []) (ci := 7) C hP hS tm_X7_165 ti_X7_round ts_X7_round tz_X7 tc_X7_round dy_X7_round (by omega) (wE_8 _ _ _ _ hr) rfl rfl hM hR hcells hls rfl hroom hdg kk
theorem k_X7_158 (C : Cx E p s m args c cc RX7 nL) (hP : Hp E K L ad I H) (hS : va_S (AG E) s.heap H locs) {k : Nat} {x0 : Int32} {post : (Nat → Nat → Int32) → Prop} (hr : K r = 8) (hM : MV l E K L ad I yX7_act cX7_act 6 k [.ref (ad r), .int x0] post) (hR : k + 1 ≤ R.frames ∧ 8 + (6 + 11) + 26 * k ≤ R.locals) (hcells : cells ≤ R.cells ∧ slots ≤ R.slots) (hls : ls.size = nL) (hroom : (rest.map fun v => v.category).sum ≤ 8) (hdg : decode cc pc = .ok (.invokevirtual 158, 3)) (kk : ∀ (J : Nat → Nat → Int32) (H1 : Heap) (locs1 : List Loc), post J → Hp E K L ad J H1 → va_S (AG E) s.heap H1 locs1 → W p l e R s m args below meth c H1 locs1 cells slots Q (F0 m (pc + 3) ls rest)) : W p l e R s m args below meth c H locs cells slots Q (F0 m pc ls (.int x0 :: .ref (ad r) :: rest)) :=
  r_callVv (As := [.int x0]) (ci := 7) C hP hS tm_X7_158 ti_X7_act ts_X7_act tz_X7 tc_X7_act dy_X7_act (by omega) (wE_8 _ _ _ _ hr) rfl rfl hM hR hcells hls rfl hroom hdg kk
theorem k_L_81 (C : Cx E p s m args c cc RL nL) (hP : Hp E K L ad I H) (hS : va_S (AG E) s.heap H locs) {k : Nat} {x0 : Int32} {post : Int32 → (Nat → Nat → Int32) → Prop} (hr : K r = 8) (hM : MI l E K L ad I yX7_out cX7_out 2 (some .int) k [.ref (ad r), .int x0] post) (hR : k + 1 ≤ R.frames ∧ 8 + (2 + 11) + 26 * k ≤ R.locals) (hcells : cells ≤ R.cells ∧ slots ≤ R.slots) (hls : ls.size = nL) (hroom : (rest.map fun v => v.category).sum ≤ 8) (hdg : decode cc pc = .ok (.invokevirtual 81, 3)) (kk : ∀ (v : Int32) (J : Nat → Nat → Int32) (H1 : Heap) (locs1 : List Loc), post v J → Hp E K L ad J H1 → va_S (AG E) s.heap H1 locs1 → W p l e R s m args below meth c H1 locs1 cells slots Q (F0 m (pc + 3) ls (.int v :: rest))) : W p l e R s m args below meth c H locs cells slots Q (F0 m pc ls (.int x0 :: .ref (ad r) :: rest)) :=
  r_callVi (As := [.int x0]) (ci := 7) C hP hS tm_L_81 ti_X7_out ts_X7_out tz_X7 tc_X7_out dy_X7_out (by omega) (wE_8 _ _ _ _ hr) rfl rfl hM hR hcells hls rfl hroom hdg kk
theorem k_L_85 (C : Cx E p s m args c cc RL nL) (hP : Hp E K L ad I H) (hS : va_S (AG E) s.heap H locs) {k : Nat} {x0 : Int32} {x1 : Int32} {post : Int32 → (Nat → Nat → Int32) → Prop} (hr : K r = 8) (hM : MI l E K L ad I yX7_took cX7_took 3 (some .int) k [.ref (ad r), .int x0, .int x1] post) (hR : k + 1 ≤ R.frames ∧ 8 + (3 + 11) + 26 * k ≤ R.locals) (hcells : cells ≤ R.cells ∧ slots ≤ R.slots) (hls : ls.size = nL) (hroom : (rest.map fun v => v.category).sum ≤ 8) (hdg : decode cc pc = .ok (.invokevirtual 85, 3)) (kk : ∀ (v : Int32) (J : Nat → Nat → Int32) (H1 : Heap) (locs1 : List Loc), post v J → Hp E K L ad J H1 → va_S (AG E) s.heap H1 locs1 → W p l e R s m args below meth c H1 locs1 cells slots Q (F0 m (pc + 3) ls (.int v :: rest))) : W p l e R s m args below meth c H locs cells slots Q (F0 m pc ls (.int x1 :: .int x0 :: .ref (ad r) :: rest)) :=
  r_callVi (As := [.int x0, .int x1]) (ci := 7) C hP hS tm_L_85 ti_X7_took ts_X7_took tz_X7 tc_X7_took dy_X7_took (by omega) (wE_8 _ _ _ _ hr) rfl rfl hM hR hcells hls rfl hroom hdg kk
theorem k_L_89 (C : Cx E p s m args c cc RL nL) (hP : Hp E K L ad I H) (hS : va_S (AG E) s.heap H locs) {k : Nat} {x0 : Int32} {post : Int32 → (Nat → Nat → Int32) → Prop} (hr : K r = 8) (hM : MI l E K L ad I yX7_image cX7_image 4 (some .int) k [.ref (ad r), .int x0] post) (hR : k + 1 ≤ R.frames ∧ 8 + (4 + 11) + 26 * k ≤ R.locals) (hcells : cells ≤ R.cells ∧ slots ≤ R.slots) (hls : ls.size = nL) (hroom : (rest.map fun v => v.category).sum ≤ 8) (hdg : decode cc pc = .ok (.invokevirtual 89, 3)) (kk : ∀ (v : Int32) (J : Nat → Nat → Int32) (H1 : Heap) (locs1 : List Loc), post v J → Hp E K L ad J H1 → va_S (AG E) s.heap H1 locs1 → W p l e R s m args below meth c H1 locs1 cells slots Q (F0 m (pc + 3) ls (.int v :: rest))) : W p l e R s m args below meth c H locs cells slots Q (F0 m pc ls (.int x0 :: .ref (ad r) :: rest)) :=
  r_callVi (As := [.int x0]) (ci := 7) C hP hS tm_L_89 ti_X7_image ts_X7_image tz_X7 tc_X7_image dy_X7_image (by omega) (wE_8 _ _ _ _ hr) rfl rfl hM hR hcells hls rfl hroom hdg kk
theorem k_L_93 (C : Cx E p s m args c cc RL nL) (hP : Hp E K L ad I H) (hS : va_S (AG E) s.heap H locs) {k : Nat} {x0 : Int32} {post : Int32 → (Nat → Nat → Int32) → Prop} (hr : K r = 8) (hM : MI l E K L ad I yX7_restore cX7_restore 4 (some .int) k [.ref (ad r), .int x0] post) (hR : k + 1 ≤ R.frames ∧ 8 + (4 + 11) + 26 * k ≤ R.locals) (hcells : cells ≤ R.cells ∧ slots ≤ R.slots) (hls : ls.size = nL) (hroom : (rest.map fun v => v.category).sum ≤ 8) (hdg : decode cc pc = .ok (.invokevirtual 93, 3)) (kk : ∀ (v : Int32) (J : Nat → Nat → Int32) (H1 : Heap) (locs1 : List Loc), post v J → Hp E K L ad J H1 → va_S (AG E) s.heap H1 locs1 → W p l e R s m args below meth c H1 locs1 cells slots Q (F0 m (pc + 3) ls (.int v :: rest))) : W p l e R s m args below meth c H locs cells slots Q (F0 m pc ls (.int x0 :: .ref (ad r) :: rest)) :=
  r_callVi (As := [.int x0]) (ci := 7) C hP hS tm_L_93 ti_X7_restore ts_X7_restore tz_X7 tc_X7_restore dy_X7_restore (by omega) (wE_8 _ _ _ _ hr) rfl rfl hM hR hcells hls rfl hroom hdg kk
theorem k_L_97 (C : Cx E p s m args c cc RL nL) (hP : Hp E K L ad I H) (hS : va_S (AG E) s.heap H locs) {k : Nat} {x0 : Int32} {post : Int32 → (Nat → Nat → Int32) → Prop} (hr : K r = 8) (hM : MI l E K L ad I yX7_count cX7_count 2 (some .int) k [.ref (ad r), .int x0] post) (hR : k + 1 ≤ R.frames ∧ 8 + (2 + 11) + 26 * k ≤ R.locals) (hcells : cells ≤ R.cells ∧ slots ≤ R.slots) (hls : ls.size = nL) (hroom : (rest.map fun v => v.category).sum ≤ 8) (hdg : decode cc pc = .ok (.invokevirtual 97, 3)) (kk : ∀ (v : Int32) (J : Nat → Nat → Int32) (H1 : Heap) (locs1 : List Loc), post v J → Hp E K L ad J H1 → va_S (AG E) s.heap H1 locs1 → W p l e R s m args below meth c H1 locs1 cells slots Q (F0 m (pc + 3) ls (.int v :: rest))) : W p l e R s m args below meth c H locs cells slots Q (F0 m pc ls (.int x0 :: .ref (ad r) :: rest)) :=
  r_callVi (As := [.int x0]) (ci := 7) C hP hS tm_L_97 ti_X7_count ts_X7_count tz_X7 tc_X7_count dy_X7_count (by omega) (wE_8 _ _ _ _ hr) rfl rfl hM hR hcells hls rfl hroom hdg kk
theorem k_X0_21 (C : Cx E p s m args c cc RX0 nL) (hP : Hp E K L ad I H) (hS : va_S (AG E) s.heap H locs) {k : Nat} {x0 : Int32} {post : Int32 → (Nat → Nat → Int32) → Prop} (hM : MI l E K L ad I yX6_hasTarget cX6_hasTarget 1 (some .boolean) k [.int x0] post) (hR : k + 1 ≤ R.frames ∧ 8 + (1 + 11) + 26 * k ≤ R.locals) (hcells : cells ≤ R.cells ∧ slots ≤ R.slots) (hls : ls.size = nL) (hroom : (rest.map fun v => v.category).sum ≤ 8) (hdg : decode cc pc = .ok (.invokestatic 21, 3)) (kk : ∀ (v : Int32) (J : Nat → Nat → Int32) (H1 : Heap) (locs1 : List Loc), post v J → Hp E K L ad J H1 → va_S (AG E) s.heap H1 locs1 → W p l e R s m args below meth c H1 locs1 cells slots Q (F0 m (pc + 3) ls (.int v :: rest))) : W p l e R s m args below meth c H locs cells slots Q (F0 m pc ls (.int x0 :: rest)) :=
  r_callNi (As := [.int x0]) C hP hS tn_X0_21 tt_X6_hasTarget tz_X6 tc_X6_hasTarget dy_X6_hasTarget hM hR hcells hls rfl hroom hdg kk
theorem k_X3_50 (C : Cx E p s m args c cc RX3 nL) (hP : Hp E K L ad I H) (hS : va_S (AG E) s.heap H locs) {k : Nat} {x0 : Int32} {x1 : Int32} {post : Int32 → (Nat → Nat → Int32) → Prop} (hM : MI l E K L ad I yX6_isIn cX6_isIn 2 (some .boolean) k [.int x0, .int x1] post) (hR : k + 1 ≤ R.frames ∧ 8 + (2 + 11) + 26 * k ≤ R.locals) (hcells : cells ≤ R.cells ∧ slots ≤ R.slots) (hls : ls.size = nL) (hroom : (rest.map fun v => v.category).sum ≤ 8) (hdg : decode cc pc = .ok (.invokestatic 50, 3)) (kk : ∀ (v : Int32) (J : Nat → Nat → Int32) (H1 : Heap) (locs1 : List Loc), post v J → Hp E K L ad J H1 → va_S (AG E) s.heap H1 locs1 → W p l e R s m args below meth c H1 locs1 cells slots Q (F0 m (pc + 3) ls (.int v :: rest))) : W p l e R s m args below meth c H locs cells slots Q (F0 m pc ls (.int x1 :: .int x0 :: rest)) :=
  r_callNi (As := [.int x0, .int x1]) C hP hS tn_X3_50 tt_X6_isIn tz_X6 tc_X6_isIn dy_X6_isIn hM hR hcells hls rfl hroom hdg kk
theorem k_X3_58 (C : Cx E p s m args c cc RX3 nL) (hP : Hp E K L ad I H) (hS : va_S (AG E) s.heap H locs) {k : Nat} {x0 : Int32} {post : Int32 → (Nat → Nat → Int32) → Prop} (hM : MI l E K L ad I yX6_hasRegister cX6_hasRegister 1 (some .boolean) k [.int x0] post) (hR : k + 1 ≤ R.frames ∧ 8 + (1 + 11) + 26 * k ≤ R.locals) (hcells : cells ≤ R.cells ∧ slots ≤ R.slots) (hls : ls.size = nL) (hroom : (rest.map fun v => v.category).sum ≤ 8) (hdg : decode cc pc = .ok (.invokestatic 58, 3)) (kk : ∀ (v : Int32) (J : Nat → Nat → Int32) (H1 : Heap) (locs1 : List Loc), post v J → Hp E K L ad J H1 → va_S (AG E) s.heap H1 locs1 → W p l e R s m args below meth c H1 locs1 cells slots Q (F0 m (pc + 3) ls (.int v :: rest))) : W p l e R s m args below meth c H locs cells slots Q (F0 m pc ls (.int x0 :: rest)) :=
  r_callNi (As := [.int x0]) C hP hS tn_X3_58 tt_X6_hasRegister tz_X6 tc_X6_hasRegister dy_X6_hasRegister hM hR hcells hls rfl hroom hdg kk
theorem k_X0_25 (C : Cx E p s m args c cc RX0 nL) (hP : Hp E K L ad I H) (hS : va_S (AG E) s.heap H locs) {k : Nat} {x0 : Int32} {post : Int32 → (Nat → Nat → Int32) → Prop} (hM : MI l E K L ad I yX6_hasRegister cX6_hasRegister 1 (some .boolean) k [.int x0] post) (hR : k + 1 ≤ R.frames ∧ 8 + (1 + 11) + 26 * k ≤ R.locals) (hcells : cells ≤ R.cells ∧ slots ≤ R.slots) (hls : ls.size = nL) (hroom : (rest.map fun v => v.category).sum ≤ 8) (hdg : decode cc pc = .ok (.invokestatic 25, 3)) (kk : ∀ (v : Int32) (J : Nat → Nat → Int32) (H1 : Heap) (locs1 : List Loc), post v J → Hp E K L ad J H1 → va_S (AG E) s.heap H1 locs1 → W p l e R s m args below meth c H1 locs1 cells slots Q (F0 m (pc + 3) ls (.int v :: rest))) : W p l e R s m args below meth c H locs cells slots Q (F0 m pc ls (.int x0 :: rest)) :=
  r_callNi (As := [.int x0]) C hP hS tn_X0_25 tt_X6_hasRegister tz_X6 tc_X6_hasRegister dy_X6_hasRegister hM hR hcells hls rfl hroom hdg kk
end CL
end
section
/-! branches on numbers: Nat form and toInt form -/
section BR
variable {p : Program} {l : Launch} {e : Env} {R : Room} {s : State} {m : MethodId} {args : Array Value} {below : List Frame} {meth : Method} {c : Code} {H : Heap} {locs : List Loc} {cells slots : Nat} {Q : State → Prop}
variable {cc : ByteArray} {pc : Nat} {ls : Array Slot} {rest : List Value} {E : En} {K : Nat → Nat} {L : Nat → Nat → Bool} {ad : Nat → Nat} {I : Nat → Nat → Int32} {r : Nat} {own : String} {nL : Nat}
theorem b_lt (C : Cx E p s m args c cc own nL) {x y : Int32} {off : Int} {tgt : Nat} (hdg : decode cc pc = .ok (.if_icmp .lt off, 3)) (ht : (pc : Int) + off = (tgt : Int)) (kt : x.toInt < y.toInt → W p l e R s m args below meth c H locs cells slots Q (F0 m tgt ls rest)) (kf : y.toInt ≤ x.toInt → W p l e R s m args below meth c H locs cells slots Q (F0 m (pc + 3) ls rest)) : W p l e R s m args below meth c H locs cells slots Q (F0 m pc ls (.int y :: .int x :: rest)) :=
  lv_icmp_lt C.1 C.2.1 hdg ht (fun h => kt (Int32.lt_iff_toInt_lt.mp h)) (fun h => kf (Int.not_lt.mp (fun q => h (Int32.lt_iff_toInt_lt.mpr q))))
theorem b_ltN (C : Cx E p s m args c cc own nL) {a b : Nat} {off : Int} {tgt : Nat} (ha : a < 2 ^ 31) (hb : b < 2 ^ 31) (hdg : decode cc pc = .ok (.if_icmp .lt off, 3)) (ht : (pc : Int) + off = (tgt : Int)) (kt : a < b → W p l e R s m args below meth c H locs cells slots Q (F0 m tgt ls rest)) (kf : b ≤ a → W p l e R s m args below meth c H locs cells slots Q (F0 m (pc + 3) ls rest)) : W p l e R s m args below meth c H locs cells slots Q (F0 m pc ls (.int (nI b) :: .int (nI a) :: rest)) :=
  b_lt C hdg ht (fun h => kt (by rw [nI_toInt ha, nI_toInt hb] at h; omega)) (fun h => kf (by rw [nI_toInt ha, nI_toInt hb] at h; omega))
theorem b_ge (C : Cx E p s m args c cc own nL) {x y : Int32} {off : Int} {tgt : Nat} (hdg : decode cc pc = .ok (.if_icmp .ge off, 3)) (ht : (pc : Int) + off = (tgt : Int)) (kt : y.toInt ≤ x.toInt → W p l e R s m args below meth c H locs cells slots Q (F0 m tgt ls rest)) (kf : x.toInt < y.toInt → W p l e R s m args below meth c H locs cells slots Q (F0 m (pc + 3) ls rest)) : W p l e R s m args below meth c H locs cells slots Q (F0 m pc ls (.int y :: .int x :: rest)) :=
  lv_icmp_ge C.1 C.2.1 hdg ht (fun h => kt (Int32.le_iff_toInt_le.mp h)) (fun h => kf (Int.not_le.mp (fun q => h (Int32.le_iff_toInt_le.mpr q))))
theorem b_geN (C : Cx E p s m args c cc own nL) {a b : Nat} {off : Int} {tgt : Nat} (ha : a < 2 ^ 31) (hb : b < 2 ^ 31) (hdg : decode cc pc = .ok (.if_icmp .ge off, 3)) (ht : (pc : Int) + off = (tgt : Int)) (kt : b ≤ a → W p l e R s m args below meth c H locs cells slots Q (F0 m tgt ls rest)) (kf : a < b → W p l e R s m args below meth c H locs cells slots Q (F0 m (pc + 3) ls rest)) : W p l e R s m args below meth c H locs cells slots Q (F0 m pc ls (.int (nI b) :: .int (nI a) :: rest)) :=
  b_ge C hdg ht (fun h => kt (by rw [nI_toInt ha, nI_toInt hb] at h; omega)) (fun h => kf (by rw [nI_toInt ha, nI_toInt hb] at h; omega))
theorem b_gt (C : Cx E p s m args c cc own nL) {x y : Int32} {off : Int} {tgt : Nat} (hdg : decode cc pc = .ok (.if_icmp .gt off, 3)) (ht : (pc : Int) + off = (tgt : Int)) (kt : y.toInt < x.toInt → W p l e R s m args below meth c H locs cells slots Q (F0 m tgt ls rest)) (kf : x.toInt ≤ y.toInt → W p l e R s m args below meth c H locs cells slots Q (F0 m (pc + 3) ls rest)) : W p l e R s m args below meth c H locs cells slots Q (F0 m pc ls (.int y :: .int x :: rest)) :=
  lv_icmp_gt C.1 C.2.1 hdg ht (fun h => kt (Int32.lt_iff_toInt_lt.mp h)) (fun h => kf (Int.not_lt.mp (fun q => h (Int32.lt_iff_toInt_lt.mpr q))))
theorem b_gtN (C : Cx E p s m args c cc own nL) {a b : Nat} {off : Int} {tgt : Nat} (ha : a < 2 ^ 31) (hb : b < 2 ^ 31) (hdg : decode cc pc = .ok (.if_icmp .gt off, 3)) (ht : (pc : Int) + off = (tgt : Int)) (kt : b < a → W p l e R s m args below meth c H locs cells slots Q (F0 m tgt ls rest)) (kf : a ≤ b → W p l e R s m args below meth c H locs cells slots Q (F0 m (pc + 3) ls rest)) : W p l e R s m args below meth c H locs cells slots Q (F0 m pc ls (.int (nI b) :: .int (nI a) :: rest)) :=
  b_gt C hdg ht (fun h => kt (by rw [nI_toInt ha, nI_toInt hb] at h; omega)) (fun h => kf (by rw [nI_toInt ha, nI_toInt hb] at h; omega))
theorem b_le (C : Cx E p s m args c cc own nL) {x y : Int32} {off : Int} {tgt : Nat} (hdg : decode cc pc = .ok (.if_icmp .le off, 3)) (ht : (pc : Int) + off = (tgt : Int)) (kt : x.toInt ≤ y.toInt → W p l e R s m args below meth c H locs cells slots Q (F0 m tgt ls rest)) (kf : y.toInt < x.toInt → W p l e R s m args below meth c H locs cells slots Q (F0 m (pc + 3) ls rest)) : W p l e R s m args below meth c H locs cells slots Q (F0 m pc ls (.int y :: .int x :: rest)) :=
  lv_icmp_le C.1 C.2.1 hdg ht (fun h => kt (Int32.le_iff_toInt_le.mp h)) (fun h => kf (Int.not_le.mp (fun q => h (Int32.le_iff_toInt_le.mpr q))))
theorem b_leN (C : Cx E p s m args c cc own nL) {a b : Nat} {off : Int} {tgt : Nat} (ha : a < 2 ^ 31) (hb : b < 2 ^ 31) (hdg : decode cc pc = .ok (.if_icmp .le off, 3)) (ht : (pc : Int) + off = (tgt : Int)) (kt : a ≤ b → W p l e R s m args below meth c H locs cells slots Q (F0 m tgt ls rest)) (kf : b < a → W p l e R s m args below meth c H locs cells slots Q (F0 m (pc + 3) ls rest)) : W p l e R s m args below meth c H locs cells slots Q (F0 m pc ls (.int (nI b) :: .int (nI a) :: rest)) :=
  b_le C hdg ht (fun h => kt (by rw [nI_toInt ha, nI_toInt hb] at h; omega)) (fun h => kf (by rw [nI_toInt ha, nI_toInt hb] at h; omega))
theorem b_eq (C : Cx E p s m args c cc own nL) {x y : Int32} {off : Int} {tgt : Nat} (hdg : decode cc pc = .ok (.if_icmp .eq off, 3)) (ht : (pc : Int) + off = (tgt : Int)) (kt : x = y → W p l e R s m args below meth c H locs cells slots Q (F0 m tgt ls rest)) (kf : x ≠ y → W p l e R s m args below meth c H locs cells slots Q (F0 m (pc + 3) ls rest)) : W p l e R s m args below meth c H locs cells slots Q (F0 m pc ls (.int y :: .int x :: rest)) :=
  lv_icmp_eq C.1 C.2.1 hdg ht kt kf
theorem b_eqN (C : Cx E p s m args c cc own nL) {a b : Nat} {off : Int} {tgt : Nat} (ha : a < 2 ^ 31) (hb : b < 2 ^ 31) (hdg : decode cc pc = .ok (.if_icmp .eq off, 3)) (ht : (pc : Int) + off = (tgt : Int)) (kt : a = b → W p l e R s m args below meth c H locs cells slots Q (F0 m tgt ls rest)) (kf : a ≠ b → W p l e R s m args below meth c H locs cells slots Q (F0 m (pc + 3) ls rest)) : W p l e R s m args below meth c H locs cells slots Q (F0 m pc ls (.int (nI b) :: .int (nI a) :: rest)) :=
  b_eq C hdg ht (fun h => kt ((nI_eq ha hb).mp h)) (fun h => kf (fun q => h ((nI_eq ha hb).mpr q)))
theorem b_ne (C : Cx E p s m args c cc own nL) {x y : Int32} {off : Int} {tgt : Nat} (hdg : decode cc pc = .ok (.if_icmp .ne off, 3)) (ht : (pc : Int) + off = (tgt : Int)) (kt : x ≠ y → W p l e R s m args below meth c H locs cells slots Q (F0 m tgt ls rest)) (kf : x = y → W p l e R s m args below meth c H locs cells slots Q (F0 m (pc + 3) ls rest)) : W p l e R s m args below meth c H locs cells slots Q (F0 m pc ls (.int y :: .int x :: rest)) :=
  lv_icmp_ne C.1 C.2.1 hdg ht kt kf
theorem b_neN (C : Cx E p s m args c cc own nL) {a b : Nat} {off : Int} {tgt : Nat} (ha : a < 2 ^ 31) (hb : b < 2 ^ 31) (hdg : decode cc pc = .ok (.if_icmp .ne off, 3)) (ht : (pc : Int) + off = (tgt : Int)) (kt : a ≠ b → W p l e R s m args below meth c H locs cells slots Q (F0 m tgt ls rest)) (kf : a = b → W p l e R s m args below meth c H locs cells slots Q (F0 m (pc + 3) ls rest)) : W p l e R s m args below meth c H locs cells slots Q (F0 m pc ls (.int (nI b) :: .int (nI a) :: rest)) :=
  b_ne C hdg ht (fun h => kt (fun q => h ((nI_eq ha hb).mpr q))) (fun h => kf ((nI_eq ha hb).mp h))
theorem z_lt (C : Cx E p s m args c cc own nL) {x : Int32} {off : Int} {tgt : Nat} (hdg : decode cc pc = .ok (.ifCond .lt off, 3)) (ht : (pc : Int) + off = (tgt : Int)) (kt : x.toInt < 0 → W p l e R s m args below meth c H locs cells slots Q (F0 m tgt ls rest)) (kf : 0 ≤ x.toInt → W p l e R s m args below meth c H locs cells slots Q (F0 m (pc + 3) ls rest)) : W p l e R s m args below meth c H locs cells slots Q (F0 m pc ls (.int x :: rest)) :=
  lv_if_lt C.1 C.2.1 hdg ht (fun h => kt (by have := Int32.lt_iff_toInt_lt.mp h; simpa using this)) (fun h => kf (by
    have h2 : ¬ (x.toInt < 0) := fun q => h (Int32.lt_iff_toInt_lt.mpr (by simpa using q))
    omega))
theorem z_ge (C : Cx E p s m args c cc own nL) {x : Int32} {off : Int} {tgt : Nat} (hdg : decode cc pc = .ok (.ifCond .ge off, 3)) (ht : (pc : Int) + off = (tgt : Int)) (kt : 0 ≤ x.toInt → W p l e R s m args below meth c H locs cells slots Q (F0 m tgt ls rest)) (kf : x.toInt < 0 → W p l e R s m args below meth c H locs cells slots Q (F0 m (pc + 3) ls rest)) : W p l e R s m args below meth c H locs cells slots Q (F0 m pc ls (.int x :: rest)) :=
  lv_if_ge C.1 C.2.1 hdg ht (fun h => kt (by have := Int32.le_iff_toInt_le.mp h; simpa using this)) (fun h => kf (by
    have h2 : ¬ (0 ≤ x.toInt) := fun q => h (Int32.le_iff_toInt_le.mpr (by simpa using q))
    omega))
theorem z_gt (C : Cx E p s m args c cc own nL) {x : Int32} {off : Int} {tgt : Nat} (hdg : decode cc pc = .ok (.ifCond .gt off, 3)) (ht : (pc : Int) + off = (tgt : Int)) (kt : 0 < x.toInt → W p l e R s m args below meth c H locs cells slots Q (F0 m tgt ls rest)) (kf : x.toInt ≤ 0 → W p l e R s m args below meth c H locs cells slots Q (F0 m (pc + 3) ls rest)) : W p l e R s m args below meth c H locs cells slots Q (F0 m pc ls (.int x :: rest)) :=
  lv_if_gt C.1 C.2.1 hdg ht (fun h => kt (by have := Int32.lt_iff_toInt_lt.mp h; simpa using this)) (fun h => kf (by
    have h2 : ¬ (0 < x.toInt) := fun q => h (Int32.lt_iff_toInt_lt.mpr (by simpa using q))
    omega))
theorem z_le (C : Cx E p s m args c cc own nL) {x : Int32} {off : Int} {tgt : Nat} (hdg : decode cc pc = .ok (.ifCond .le off, 3)) (ht : (pc : Int) + off = (tgt : Int)) (kt : x.toInt ≤ 0 → W p l e R s m args below meth c H locs cells slots Q (F0 m tgt ls rest)) (kf : 0 < x.toInt → W p l e R s m args below meth c H locs cells slots Q (F0 m (pc + 3) ls rest)) : W p l e R s m args below meth c H locs cells slots Q (F0 m pc ls (.int x :: rest)) :=
  lv_if_le C.1 C.2.1 hdg ht (fun h => kt (by have := Int32.le_iff_toInt_le.mp h; simpa using this)) (fun h => kf (by
    have h2 : ¬ (x.toInt ≤ 0) := fun q => h (Int32.le_iff_toInt_le.mpr (by simpa using q))
    omega))
theorem z_eq (C : Cx E p s m args c cc own nL) {x : Int32} {off : Int} {tgt : Nat} (hdg : decode cc pc = .ok (.ifCond .eq off, 3)) (ht : (pc : Int) + off = (tgt : Int)) (kt : x = 0 → W p l e R s m args below meth c H locs cells slots Q (F0 m tgt ls rest)) (kf : x ≠ 0 → W p l e R s m args below meth c H locs cells slots Q (F0 m (pc + 3) ls rest)) : W p l e R s m args below meth c H locs cells slots Q (F0 m pc ls (.int x :: rest)) :=
  lv_if_eq C.1 C.2.1 hdg ht kt kf
theorem z_ne (C : Cx E p s m args c cc own nL) {x : Int32} {off : Int} {tgt : Nat} (hdg : decode cc pc = .ok (.ifCond .ne off, 3)) (ht : (pc : Int) + off = (tgt : Int)) (kt : x ≠ 0 → W p l e R s m args below meth c H locs cells slots Q (F0 m tgt ls rest)) (kf : x = 0 → W p l e R s m args below meth c H locs cells slots Q (F0 m (pc + 3) ls rest)) : W p l e R s m args below meth c H locs cells slots Q (F0 m pc ls (.int x :: rest)) :=
  lv_if_ne C.1 C.2.1 hdg ht kt kf
theorem z_eq1 (C : Cx E p s m args c cc own nL) {off : Int} {tgt : Nat} (hdg : decode cc pc = .ok (.ifCond .eq off, 3)) (ht : (pc : Int) + off = (tgt : Int)) (k : W p l e R s m args below meth c H locs cells slots Q (F0 m (pc + 3) ls rest)) : W p l e R s m args below meth c H locs cells slots Q (F0 m pc ls (.int 1 :: rest)) :=
  z_eq C hdg ht (fun h => absurd h (by decide)) (fun _ => k)
theorem z_eq0 (C : Cx E p s m args c cc own nL) {off : Int} {tgt : Nat} (hdg : decode cc pc = .ok (.ifCond .eq off, 3)) (ht : (pc : Int) + off = (tgt : Int)) (k : W p l e R s m args below meth c H locs cells slots Q (F0 m tgt ls rest)) : W p l e R s m args below meth c H locs cells slots Q (F0 m pc ls (.int 0 :: rest)) :=
  z_eq C hdg ht (fun _ => k) (fun h => absurd rfl h)
theorem z_ne1 (C : Cx E p s m args c cc own nL) {off : Int} {tgt : Nat} (hdg : decode cc pc = .ok (.ifCond .ne off, 3)) (ht : (pc : Int) + off = (tgt : Int)) (k : W p l e R s m args below meth c H locs cells slots Q (F0 m tgt ls rest)) : W p l e R s m args below meth c H locs cells slots Q (F0 m pc ls (.int 1 :: rest)) :=
  z_ne C hdg ht (fun _ => k) (fun h => absurd h (by decide))
theorem z_ne0 (C : Cx E p s m args c cc own nL) {off : Int} {tgt : Nat} (hdg : decode cc pc = .ok (.ifCond .ne off, 3)) (ht : (pc : Int) + off = (tgt : Int)) (k : W p l e R s m args below meth c H locs cells slots Q (F0 m (pc + 3) ls rest)) : W p l e R s m args below meth c H locs cells slots Q (F0 m pc ls (.int 0 :: rest)) :=
  z_ne C hdg ht (fun h => absurd rfl h) (fun _ => k)
end BR
end
section
/-! pure words of acts and tables -/
abbrev sB (x : Int32) : Int32 := nI 1 <<< (x &&& 31)
abbrev mat (k : Int32) : Prop := 1 ≤ k.toInt ∧ k.toInt ≤ 7
abbrev hrg (k : Int32) : Prop := 5 ≤ k.toInt ∧ k.toInt ≤ 7
def wrA (k t : Int32) : Int32 := if mat k then sB t else nI 0
def rgA (k x : Int32) : Int32 := if hrg k then sB x else nI 0
def rdA (k t x : Int32) : Int32 := if k.toInt = 2 then sB x else if k.toInt = 3 ∨ k.toInt = 6 ∨ k.toInt = 7 then sB t else if k.toInt = 4 then sB t ||| sB x else nI 0
/-- the or of f 0 .. f (k - 1) onto s -/
def orF (s : Int32) (f : Nat → Int32) : Nat → Int32
  | 0 => s
  | k + 1 => orF s f k ||| f k
theorem orF_congr {s : Int32} {f g : Nat → Int32} {k : Nat} (h : ∀ i, i < k → f i = g i) : orF s f k = orF s g k := by
  induction k with
  | zero => rfl
  | succ k ih => simp only [orF]; rw [ih (fun i hi => h i (by omega)), h k (by omega)]
/-- an act at slot e is there -/
abbrev thr (n e : Nat) : Prop := e < n ∨ e = 4
def wrT (n : Nat) (kd tg : Nat → Int32) : Int32 := orF (nI 0) (fun e => if thr n e then wrA (kd e) (tg e) else nI 0) 5
def rdT (k : Int32) (n : Nat) (kd tg xs : Nat → Int32) : Int32 := orF (sB k) (fun e => if thr n e then rdA (kd e) (tg e) (xs e) else nI 0) 5
def rgT (n : Nat) (kd xs : Nat → Int32) : Int32 := orF (nI 0) (fun e => if thr n e then rgA (kd e) (xs e) else nI 0) 5
/-- the first place below n that holds v, or 4 -/
def fnd (f : Nat → Int32) (v : Int32) : Nat → Nat → Nat
  | 0, _ => 4
  | k + 1, i => if f i = v then i else fnd f v k (i + 1)
theorem fnd_hit {f : Nat → Int32} {v : Int32} : ∀ (k i j : Nat), i ≤ j → j < i + k → f j = v → (∀ a, i ≤ a → a < j → f a ≠ v) → fnd f v k i = j := by
  intro k
  induction k with
  | zero => intro i j h1 h2; omega
  | succ k ih =>
    intro i j h1 h2 h3 h4
    simp only [fnd]
    by_cases e : i = j
    · subst e; simp [h3]
    · rw [if_neg (h4 i (by omega) (by omega))]
      exact ih (i + 1) j (by omega) (by omega) h3 (fun a ha hb => h4 a (by omega) hb)
theorem fnd_miss {f : Nat → Int32} {v : Int32} : ∀ (k i : Nat), (∀ a, i ≤ a → a < i + k → f a ≠ v) → fnd f v k i = 4 := by
  intro k
  induction k with
  | zero => intro i _; rfl
  | succ k ih =>
    intro i h
    simp only [fnd]
    rw [if_neg (h i (by omega) (by omega))]
    exact ih (i + 1) (fun a ha hb => h a (by omega) (by omega))
section SW
variable {p : Program} {l : Launch} {e : Env} {R : Room} {s : State} {m : MethodId} {args : Array Value} {below : List Frame} {meth : Method} {c : Code} {H : Heap} {locs : List Loc} {cells slots : Nat} {Q : State → Prop}
variable {cc : ByteArray} {pc : Nat} {ls : Array Slot} {rest : List Value} {E : En} {own : String} {nL : Nat}
theorem sw_in (C : Cx E p s m args c cc own nL) {dflt lo hi : Int} {offs : Array Int} {len tgt : Nat} {x : Int32} {k off : Int} (hdg : decode cc pc = .ok (.tableswitch dflt lo hi offs, len)) (hk : x.toInt = k) (h1 : lo ≤ k) (h2 : k ≤ hi) (ho : offs[(k - lo).toNat]? = some off) (ht : (pc : Int) + off = (tgt : Int))
    (kk : W p l e R s m args below meth c H locs cells slots Q (F0 m tgt ls rest)) : W p l e R s m args below meth c H locs cells slots Q (F0 m pc ls (.int x :: rest)) :=
  lv_tableIn C.1 C.2.1 hdg (by omega) (by omega) (by rw [hk]; exact ho) ht kk
theorem r_divN (C : Cx E p s m args c cc own nL) {a b : Nat} (ha : a < 2 ^ 31) (h0 : 0 < b) (hb : b < 2 ^ 31) (hdg : decode cc pc = .ok (.idiv, 1)) (kk : W p l e R s m args below meth c H locs cells slots Q (F0 m (pc + 1) ls (.int (nI (a / b)) :: rest))) : W p l e R s m args below meth c H locs cells slots Q (F0 m pc ls (.int (nI b) :: .int (nI a) :: rest)) :=
  lv_idiv C.1 C.2.1 hdg (nI_ne0 h0 hb) (by rw [pk_div ha h0 hb]; exact kk)
theorem r_remN (C : Cx E p s m args c cc own nL) {a b : Nat} (ha : a < 2 ^ 31) (h0 : 0 < b) (hb : b < 2 ^ 31) (hdg : decode cc pc = .ok (.irem, 1)) (kk : W p l e R s m args below meth c H locs cells slots Q (F0 m (pc + 1) ls (.int (nI (a % b)) :: rest))) : W p l e R s m args below meth c H locs cells slots Q (F0 m pc ls (.int (nI b) :: .int (nI a) :: rest)) :=
  lv_irem C.1 C.2.1 hdg (nI_ne0 h0 hb) (by first | (rw [pk_rem ha h0 hb]; exact kk) | (have h9 := pk_rem ha h0 hb; simp_all))
end SW
theorem ti0 : (nI 0).toInt = 0 := by decide
theorem i32_eq {x : Int32} {k : Nat} (hk : k < 2 ^ 31) (h : x.toInt = (k : Int)) : x = nI k := Int32.toInt_inj.mp (by rw [h, nI_toInt hk])
/-- an act set -/
def set3 (I : Nat → Nat → Int32) (r : Nat) (a b c : Int32) : Nat → Nat → Int32 := up2 (up2 (up2 I r 0 a) r 1 b) r 2 c
theorem set3_r {I : Nat → Nat → Int32} {r : Nat} {a b c : Int32} {q : Nat} (h : q ≠ r) : set3 I r a b c q = I q := by unfold set3; rw [up2_r h, up2_r h, up2_r h]
theorem set3_0 (I : Nat → Nat → Int32) (r : Nat) (a b c : Int32) : set3 I r a b c r 0 = a := by unfold set3; rw [up2_k (by decide), up2_k (by decide), up2_s]
theorem set3_1 (I : Nat → Nat → Int32) (r : Nat) (a b c : Int32) : set3 I r a b c r 1 = b := by unfold set3; rw [up2_k (by decide), up2_s]
theorem set3_2 (I : Nat → Nat → Int32) (r : Nat) (a b c : Int32) : set3 I r a b c r 2 = c := by unfold set3; rw [up2_s]
/-- a table at role h -/
def IsT (K : Nat → Nat) (L : Nat → Nat → Bool) (h : Nat) : Prop := K h = 6 ∧ L h 2 = true ∧ L h 3 = true ∧ K (h + 1) = 104 ∧ K (h + 2) = 11 ∧ (∀ e, e < 5 → L (h + 2) e = true) ∧ ∀ e, e < 5 → K (h + 3 + e) = 1
/-- what an act keeps of a target or an x -/
def mq (k x : Int32) : Int32 := if mat k then x else -6
theorem mq_t {k x : Int32} (h : mat k) : mq k x = x := if_pos h
theorem mq_f {k x : Int32} (h : ¬ mat k) : mq k x = -6 := if_neg h
/-- a number of an act, asked by what -/
def pick (val : Nat → Int32) (a : Nat → Nat → Int32) (c e : Nat) : Int32 := if c = 0 then val e else if c = 1 then a e 0 else if c = 2 then a e 1 else a e 2
def prt (n : Nat) (val : Nat → Int32) (a : Nat → Nat → Int32) (w : Int32) : Int32 :=
  if 10 ≤ w.toInt ∧ w.toInt < 10 + 4 * (n : Int) then pick val a ((w.toInt - 10).toNat % 4) ((w.toInt - 10).toNat / 4)
  else if 31 ≤ w.toInt ∧ w.toInt ≤ 33 then pick val a ((w.toInt - 10).toNat % 4) 4 else -2
end
section
/-! rows: arraycopy, max, min; words of the library -/
theorem tq_cpN : Cond.native arraycopyName ∈ TB := tb_in (List.mem_of_getElem? (i := 501) (by decide +kernel)) (by decide +kernel)
theorem tq_cpS : Cond.static arraycopyName ∈ TB := tb_in (List.mem_of_getElem? (i := 500) (by decide +kernel)) (by decide +kernel)
theorem tq_maxS : Cond.static Lib.Math.max.name ∈ TB := tb_in (List.mem_of_getElem? (i := 408) (by decide +kernel)) (by decide +kernel)
theorem tq_maxC : Cond.code Lib.Math.max.name Lib.Math.max.code 2 (some .int) ∈ TB := tb_in (List.mem_of_getElem? (i := 409) (by decide +kernel)) (by decide +kernel)
theorem tq_minS : Cond.static Lib.Math.min.name ∈ TB := tb_in (List.mem_of_getElem? (i := 440) (by decide +kernel)) (by decide +kernel)
theorem tq_minC : Cond.code Lib.Math.min.name Lib.Math.min.code 2 (some .int) ∈ TB := tb_in (List.mem_of_getElem? (i := 441) (by decide +kernel)) (by decide +kernel)
def cpy2 (I : Nat → Nat → Int32) (r q n : Nat) : Nat → Nat → Int32 := fun a => if a = r then va_cpy (I q) (I r) 0 0 n else I a
theorem cpy2_r {I : Nat → Nat → Int32} {r q n a : Nat} (h : a ≠ r) : cpy2 I r q n a = I a := by simp [cpy2, h]
theorem cpy2_s {I : Nat → Nat → Int32} {r q n j : Nat} (h : j < n) : cpy2 I r q n r j = I q j := by simp [cpy2, va_cpy, h]
section RW2
variable {p : Program} {l : Launch} {e : Env} {R : Room} {s : State} {m : MethodId} {args : Array Value} {below : List Frame} {meth : Method} {c : Code} {H : Heap} {locs : List Loc} {cells slots : Nat} {Q : State → Prop}
variable {cc : ByteArray} {pc : Nat} {ls : Array Slot} {rest : List Value} {E : En} {K : Nat → Nat} {L : Nat → Nat → Bool} {ad : Nat → Nat} {I : Nat → Nat → Int32} {r : Nat} {own : String} {nL : Nat}
theorem r_mmax (C : Cx E p s m args c cc own nL) {idx : Nat} {x y : Int32} (hlink : Cond.methodLink own idx Lib.Math.max.name ∈ TB) (hf : 1 ≤ R.frames) (hlo : (rest.map fun v => v.category).sum + 13 ≤ R.locals) (hc : cells ≤ R.cells ∧ slots ≤ R.slots) (hls : ls.size = nL) (hdg : decode cc pc = .ok (.invokestatic idx, 3))
    (kk : W p l e R s m args below meth c H locs cells slots Q (F0 m (pc + 3) ls (.int (if x < y then y else x) :: rest))) : W p l e R s m args below meth c H locs cells slots Q (F0 m pc ls (.int y :: .int x :: rest)) :=
  va_mmax C.1 C.2.1 (by rw [C.2.2.2.2.2, hls]) C.2.2.2.1 (C.2.2.1 _ hlink) (C.2.2.1 _ tq_maxS) (C.2.2.1 _ tz_J9) (C.2.2.1 _ tq_maxC) hf hlo hc.1 hc.2 hdg kk
theorem r_mmin (C : Cx E p s m args c cc own nL) {idx : Nat} {x y : Int32} (hlink : Cond.methodLink own idx Lib.Math.min.name ∈ TB) (hf : 1 ≤ R.frames) (hlo : (rest.map fun v => v.category).sum + 13 ≤ R.locals) (hc : cells ≤ R.cells ∧ slots ≤ R.slots) (hls : ls.size = nL) (hdg : decode cc pc = .ok (.invokestatic idx, 3))
    (kk : W p l e R s m args below meth c H locs cells slots Q (F0 m (pc + 3) ls (.int (if y < x then y else x) :: rest))) : W p l e R s m args below meth c H locs cells slots Q (F0 m pc ls (.int y :: .int x :: rest)) :=
  va_mmin C.1 C.2.1 (by rw [C.2.2.2.2.2, hls]) C.2.2.2.1 (C.2.2.1 _ hlink) (C.2.2.1 _ tq_minS) (C.2.2.1 _ tz_J9) (C.2.2.1 _ tq_minC) hf hlo hc.1 hc.2 hdg kk
theorem r_acp (C : Cx E p s m args c cc own nL) (hP : Hp E K L ad I H) (hS : va_S (AG E) s.heap H locs) {idx n0 n1 n q : Nat} (hr : K r = 100 + n1) (hq : K q = 100 + n0) (h4 : n ≤ n0) (h5 : n ≤ n1) (hn : n < 2 ^ 31) (hlink : Cond.methodLink own idx arraycopyName ∈ TB) (hf : 1 ≤ R.frames) (hlo : (rest.map fun v => v.category).sum + (nativeFrameWords "java/lang/System" "arraycopy" 5 + 11) ≤ R.locals) (hls : ls.size = nL) (hdg : decode cc pc = .ok (.invokestatic idx, 3))
    (kk : ∀ (H1 : Heap) (locs1 : List Loc), Hp E K L ad (cpy2 I r q n) H1 → va_S (AG E) s.heap H1 locs1 → W p l e R s m args below meth c H1 locs1 cells slots Q (F0 m (pc + 3) ls rest)) : W p l e R s m args below meth c H locs cells slots Q (F0 m pc ls (.int (nI n) :: .int (nI 0) :: .ref (ad r) :: .int (nI 0) :: .ref (ad q) :: rest)) := by
  have hr0 : K r ≠ 0 := by omega
  have hq0 : K q ≠ 0 := by omega
  have hK := C.2.2.2.2.1.1
  intro T hT X
  have hc0 : H[ad q]? = some (vp_cell (E.2.1 0) (n0, .inl (I q))) := (hP.one hq0 (wE_A _ _ _ _ hq)) 0 _ rfl
  have hc1 : H[ad r]? = some (vp_cell (E.2.1 0) (n1, .inl (I r))) := (hP.one hr0 (wE_A _ _ _ _ hr)) 0 _ rfl
  obtain ⟨-, k0, hk0, cm0, hkk0⟩ := (hK.2 0 _ rfl).1 n0 (fun j => .int (I q j))
  have hcl : (nI n).toNatClampNeg = n := nI_clamp hn
  have hcl0 : (nI 0).toNatClampNeg = 0 := nI_clamp (by decide)
  have hni : (nI n).toInt = (n : Int) := nI_toInt hn
  obtain ⟨vm', X', step⟩ := X.arraycopy C.1 C.2.2.2.1 (C.2.2.1 _ hlink) (C.2.2.1 _ tq_cpN) (C.2.2.1 _ tq_cpS) (C.2.2.1 _ tz_J10) (src := ad q) (dst := ad r) (cs := vp_cell (E.2.1 0) (n0, .inl (I q))) (cd := vp_cell (E.2.1 0) (n1, .inl (I r))) (srcPos := nI 0) (destPos := nI 0) (n := nI n) (by rw [hT]; exact hc0) (by rw [hT]; exact hc1)
    (fun _ h => by cases h) (fun _ h => by cases h) (fun h => by cases h) (fun h => by cases h) hk0 hk0 hkk0 hkk0 (by simp [refKind]) (by decide) (by decide) (nI_pos hn)
    (by rw [hni, show (nI 0).toInt = 0 from rfl]; show ¬ _ > ((arrV (E.2.1 0) n0 (fun j => .int (I q j))).slots.size : Int); rw [arrV_size]; omega)
    (by rw [hni, show (nI 0).toInt = 0 from rfl]; show ¬ _ > ((arrV (E.2.1 0) n1 (fun j => .int (I r j))).slots.size : Int); rw [arrV_size]; omega)
    (fun vm₁ _ i hi => by
      rw [hcl] at hi
      have e : (vp_cell (E.2.1 0) (n0, .inl (I q))).slots.getD ((nI 0).toNatClampNeg + i) .null = .int (I q ((nI 0).toNatClampNeg + i)) := by
        show (arrV (E.2.1 0) n0 (fun j => .int (I q j))).slots.getD _ _ = _
        rw [Array.getD_eq_getD_getElem?, arrV_read _ _ (by rw [hcl0]; omega)]
        rfl
      refine ⟨?_, ?_⟩
      · rw [e]; rfl
      · rw [e]; exact trivial)
    (g := F0 m pc ls (.int (nI n) :: .int (nI 0) :: .ref (ad r) :: .int (nI 0) :: .ref (ad q) :: rest)) rfl (by rw [C.2.2.2.2.2]; exact hls) (rest := rest) rfl (by rw [C.2.1]; exact hdg) hf (by show 2 * 0 + _ + _ ≤ _; omega)
  have e1 : copied (vp_cell (E.2.1 0) (n0, .inl (I q))) (vp_cell (E.2.1 0) (n1, .inl (I r))) (nI 0) (nI 0) (nI n) = vp_cell (E.2.1 0) (n1, .inl (va_cpy (I q) (I r) (nI 0).toNatClampNeg (nI 0).toNatClampNeg (nI n).toNatClampNeg)) := va_copied (fun z => .int z) (E.2.1 0) (E.2.1 0) (I q) (I r) (by rw [hcl, hcl0]; omega)
  rw [hcl, hcl0] at e1
  rw [e1] at X' step
  have hl : ad r < H.size := (Array.getElem?_eq_some_iff.mp hc1).1
  have hheap : ((T.setVm vm').setCell (ad r) (vp_cell (E.2.1 0) (n1, .inl (va_cpy (I q) (I r) 0 0 n)))).heap = H.setIfInBounds (ad r) (vp_cell (E.2.1 0) (n1, .inl (va_cpy (I q) (I r) 0 0 n))) := by rw [← hT]; rfl
  have oq : ∀ x : Nat, x ≠ ad r → (H.setIfInBounds (ad r) (vp_cell (E.2.1 0) (n1, .inl (va_cpy (I q) (I r) 0 0 n))))[x]? = H[x]? := fun x hx => by simp [Array.getElem?_setIfInBounds, Ne.symm hx]
  obtain ⟨t, a1, b1⟩ := kk _ _ (hP.set (I' := cpy2 I r q n) hr0 (by simp) oq (by
      rw [wE_A _ _ _ _ hr]
      show (H.setIfInBounds (ad r) _)[ad r]? = some (vp_cell _ _)
      simp [Array.getElem?_setIfInBounds, hl, cpy2]) (fun a ha => cpy2_r ha) (fun _ _ => rfl)) ⟨by simp; exact hS.1, fun x g1 g2 => by
      rw [oq x (fun e => g2 (by rw [e]; exact hP.2.1 r hr0))]
      exact hS.2.1 x g1 g2, fun x hx => by
      rcases List.mem_append.mp hx with h | h
      · exact hS.2.2 x h
      · obtain ⟨z, -, hz⟩ := List.mem_map.mp h
        rw [← hz]
        exact hP.2.1 r hr0⟩ _ hheap X'
  exact ⟨t, step t a1, b1⟩
end RW2
/-! pure words of a table's changes -/
theorem prt_A {n : Nat} (hn : n ≤ 4) {val : Nat → Int32} {a : Nat → Nat → Int32} {i : Nat} (hi : i < 4 * n) : prt n val a (nI (i + 10)) = pick val a (i % 4) (i / 4) := by
  unfold prt
  rw [nI_toInt (by omega), if_pos (by omega), show (((i + 10 : Nat) : Int) - 10).toNat = i by omega]
theorem prt_B {n : Nat} (hn : n ≤ 4) {val : Nat → Int32} {a : Nat → Nat → Int32} {i : Nat} (hi : i < 3) : prt n val a (nI (i + 31)) = pick val a ((i + 21) % 4) 4 := by
  unfold prt
  rw [nI_toInt (by omega), if_neg (by omega), if_pos (by omega), show (((i + 31 : Nat) : Int) - 10).toNat = i + 21 by omega]
theorem prt_C {n : Nat} {val : Nat → Int32} {a : Nat → Nat → Int32} {w : Int32} (h1 : ¬ (10 ≤ w.toInt ∧ w.toInt < 10 + 4 * (n : Int))) (h2 : ¬ (31 ≤ w.toInt ∧ w.toInt ≤ 33)) : prt n val a w = -2 := by
  unfold prt
  rw [if_neg h1, if_neg h2]
theorem w_split (w : Int32) (n : Nat) (hn : n ≤ 4) : (∃ i, i < 4 * n ∧ w = nI (i + 10)) ∨ (∃ i, i < 3 ∧ w = nI (i + 31)) ∨ (¬ (10 ≤ w.toInt ∧ w.toInt < 10 + 4 * (n : Int)) ∧ ¬ (31 ≤ w.toInt ∧ w.toInt ≤ 33)) := by
  by_cases h1 : 10 ≤ w.toInt ∧ w.toInt < 10 + 4 * (n : Int)
  · exact Or.inl ⟨(w.toInt - 10).toNat, by omega, i32_eq (by omega) (by omega)⟩
  · by_cases h2 : 31 ≤ w.toInt ∧ w.toInt ≤ 33
    · exact Or.inr (Or.inl ⟨(w.toInt - 31).toNat, by omega, i32_eq (by omega) (by omega)⟩)
    · exact Or.inr (Or.inr ⟨h1, h2⟩)
/-- entries from e0 on to j moved one down -/
def RE (I J : Nat → Nat → Int32) (h e0 j : Nat) : Prop :=
  (∀ a, a ≠ h + 1 → (∀ e, e < 4 → a ≠ h + 3 + e) → J a = I a) ∧ (∀ i, i < 4 → J (h + 1) i = if e0 ≤ i ∧ i < j then I (h + 1) (i + 1) else I (h + 1) i) ∧ ∀ i, i < 4 → ∀ k, k < 3 → J (h + 3 + i) k = if e0 ≤ i ∧ i < j then I (h + 3 + (i + 1)) k else I (h + 3 + i) k
theorem RE_0 (I : Nat → Nat → Int32) (h e0 : Nat) : RE I I h e0 e0 := ⟨fun _ _ _ => rfl, fun i _ => by rw [if_neg (by omega)], fun i _ k _ => by rw [if_neg (by omega)]⟩
theorem set3_k {I : Nat → Nat → Int32} {r : Nat} {f : Nat → Int32} {k : Nat} (hk : k < 3) : set3 I r (f 0) (f 1) (f 2) r k = f k := by
  match k, hk with
  | 0, _ => exact set3_0 _ _ _ _ _
  | 1, _ => exact set3_1 _ _ _ _ _
  | 2, _ => exact set3_2 _ _ _ _ _
  | k + 3, h => omega
theorem RE_s {I J : Nat → Nat → Int32} {h e0 j : Nat} (H : RE I J h e0 j) (h0 : e0 ≤ j) (hj : j + 1 < 4) : RE I (set3 (up2 J (h + 1) j (J (h + 1) (j + 1))) (h + 3 + j) (J (h + 3 + (j + 1)) 0) (J (h + 3 + (j + 1)) 1) (J (h + 3 + (j + 1)) 2)) h e0 (j + 1) := by
  obtain ⟨H1, H2, H3⟩ := H
  refine ⟨fun a h1 h2 => ?_, fun i hi => ?_, fun i hi k hk => ?_⟩
  · rw [set3_r (h2 j (by omega)), up2_r h1, H1 a h1 h2]
  · rw [set3_r (by omega)]
    by_cases e : i = j
    · subst e
      rw [up2_s, if_pos (by omega), H2 _ (by omega), if_neg (by omega)]
    · rw [up2_k e, H2 i hi]
      by_cases q : e0 ≤ i ∧ i < j
      · rw [if_pos q, if_pos (by omega)]
      · rw [if_neg q, if_neg (by omega)]
  · by_cases e : i = j
    · subst e
      rw [set3_k (f := fun k => J (h + 3 + (i + 1)) k) hk, if_pos (by omega), H3 _ (by omega) k hk, if_neg (by omega)]
    · rw [set3_r (by omega), up2_r (by omega), H3 i hi k hk]
      by_cases q : e0 ≤ i ∧ i < j
      · rw [if_pos q, if_pos (by omega)]
      · rw [if_neg q, if_neg (by omega)]
/-- a table copied to another -/
def CT (I J : Nat → Nat → Int32) (h q j : Nat) : Prop :=
  (∀ a, a ≠ h → a ≠ h + 1 → (∀ e, e < 5 → a ≠ h + 3 + e) → J a = I a) ∧ J h 0 = I q 0 ∧ J h 1 = I q 1 ∧ (∀ i, i < 4 → J (h + 1) i = I (q + 1) i) ∧ (∀ i, i < j → ∀ k, k < 3 → J (h + 3 + i) k = I (q + 3 + i) k)
theorem CT_s {I J : Nat → Nat → Int32} {h q j : Nat} (H : CT I J h q j) (hj : j < 5) (hq : h + 8 ≤ q ∨ q + 8 ≤ h) : CT I (set3 J (h + 3 + j) (J (q + 3 + j) 0) (J (q + 3 + j) 1) (J (q + 3 + j) 2)) h q (j + 1) := by
  obtain ⟨H1, H2, H3, H4, H5⟩ := H
  have hr : J (q + 3 + j) = I (q + 3 + j) := H1 _ (by omega) (by omega) (fun e he => by omega)
  refine ⟨fun a h0 h1 h2 => ?_, ?_, ?_, fun i hi => ?_, fun i hi k hk => ?_⟩
  · rw [set3_r (h2 j hj), H1 a h0 h1 h2]
  · rw [set3_r (by omega), H2]
  · rw [set3_r (by omega), H3]
  · rw [set3_r (by omega), H4 i hi]
  · by_cases e : i = j
    · subst e
      rw [set3_k (f := fun k => J (q + 3 + i) k) hk, hr]
    · rw [set3_r (by omega), H5 i (by omega) k hk]
end
section
/-! leaves of the class -/
set_option maxHeartbeats 4000000 in
set_option maxRecDepth 100000 in
theorem c_X6_isIn {l : Launch} {E : En} {K : Nat → Nat} {L : Nat → Nat → Bool} {ad : Nat → Nat} {I : Nat → Nat → Int32} (n z : Int32)  : MI l E K L ad I yX6_isIn cX6_isIn 2 (some .boolean) 0 [.int n, .int z] (fun v J => J = I ∧ (v = 1 ∧ (0 ≤ n.toInt ∧ n.toInt < z.toInt) ∨ v = 0 ∧ ¬ (0 ≤ n.toInt ∧ n.toInt < z.toInt))) := by
  refine MZ.of (by decide) (Nat.le_of_ble_eq_true rfl) ?_
  intro p e s m args below meth c ls Qf C hret hP hl
  have C : Cx E p s m args c cX6_isIn RX6 2 := C
  have hx := C.1
  have hb := C.2.1
  have hS : va_S (AG E) s.heap s.heap [] := va_S.rf
  have hl : lv_has ls 2 [(0, .int n), (1, .int z)] := hl
  refine lv_iload_n hx hb dX6_isIn_0 rfl (lv_at hl 0 rfl) ?_
  refine z_lt C dX6_isIn_1 (tgt := 13) (by decide) (fun h1 => ?_) (fun h1 => ?_)
  · refine lv_iconst (v := nI 0) hx hb dX6_isIn_13 (by decide) ?_
    exact hret _ _ _ _ _ _ dX6_isIn_14 hP hS (by first | rfl | (rcases hbv with rfl | rfl <;> rfl)) (by refine ⟨rfl, Or.inr ⟨rfl, ?_⟩⟩; omega)
  · refine lv_iload_n hx hb dX6_isIn_4 rfl (lv_at hl 0 rfl) ?_
    refine lv_iload_n hx hb dX6_isIn_5 rfl (lv_at hl 1 rfl) ?_
    refine b_ge C dX6_isIn_6 (tgt := 13) (by decide) (fun h2 => ?_) (fun h2 => ?_)
    · refine lv_iconst (v := nI 0) hx hb dX6_isIn_13 (by decide) ?_
      exact hret _ _ _ _ _ _ dX6_isIn_14 hP hS (by first | rfl | (rcases hbv with rfl | rfl <;> rfl)) (by refine ⟨rfl, Or.inr ⟨rfl, ?_⟩⟩; omega)
    · refine lv_iconst (v := nI 1) hx hb dX6_isIn_9 (by decide) ?_
      refine lv_goto (tgt := 14) hx hb dX6_isIn_10 (by decide) ?_
      exact hret _ _ _ _ _ _ dX6_isIn_14 hP hS (by first | rfl | (rcases hbv with rfl | rfl <;> rfl)) (by refine ⟨rfl, Or.inl ⟨rfl, ?_⟩⟩; omega)
set_option maxHeartbeats 4000000 in
set_option maxRecDepth 100000 in
theorem c_X6_isUpTo {l : Launch} {E : En} {K : Nat → Nat} {L : Nat → Nat → Bool} {ad : Nat → Nat} {I : Nat → Nat → Int32} (n z : Int32)  : MI l E K L ad I yX6_isUpTo cX6_isUpTo 2 (some .boolean) 0 [.int n, .int z] (fun v J => J = I ∧ (v = 1 ∧ (0 ≤ n.toInt ∧ n.toInt ≤ z.toInt) ∨ v = 0 ∧ ¬ (0 ≤ n.toInt ∧ n.toInt ≤ z.toInt))) := by
  refine MZ.of (by decide) (Nat.le_of_ble_eq_true rfl) ?_
  intro p e s m args below meth c ls Qf C hret hP hl
  have C : Cx E p s m args c cX6_isUpTo RX6 2 := C
  have hx := C.1
  have hb := C.2.1
  have hS : va_S (AG E) s.heap s.heap [] := va_S.rf
  have hl : lv_has ls 2 [(0, .int n), (1, .int z)] := hl
  refine lv_iload_n hx hb dX6_isUpTo_0 rfl (lv_at hl 0 rfl) ?_
  refine z_lt C dX6_isUpTo_1 (tgt := 13) (by decide) (fun h1 => ?_) (fun h1 => ?_)
  · refine lv_iconst (v := nI 0) hx hb dX6_isUpTo_13 (by decide) ?_
    exact hret _ _ _ _ _ _ dX6_isUpTo_14 hP hS (by first | rfl | (rcases hbv with rfl | rfl <;> rfl)) (by refine ⟨rfl, Or.inr ⟨rfl, ?_⟩⟩; omega)
  · refine lv_iload_n hx hb dX6_isUpTo_4 rfl (lv_at hl 0 rfl) ?_
    refine lv_iload_n hx hb dX6_isUpTo_5 rfl (lv_at hl 1 rfl) ?_
    refine b_gt C dX6_isUpTo_6 (tgt := 13) (by decide) (fun h2 => ?_) (fun h2 => ?_)
    · refine lv_iconst (v := nI 0) hx hb dX6_isUpTo_13 (by decide) ?_
      exact hret _ _ _ _ _ _ dX6_isUpTo_14 hP hS (by first | rfl | (rcases hbv with rfl | rfl <;> rfl)) (by refine ⟨rfl, Or.inr ⟨rfl, ?_⟩⟩; omega)
    · refine lv_iconst (v := nI 1) hx hb dX6_isUpTo_9 (by decide) ?_
      refine lv_goto (tgt := 14) hx hb dX6_isUpTo_10 (by decide) ?_
      exact hret _ _ _ _ _ _ dX6_isUpTo_14 hP hS (by first | rfl | (rcases hbv with rfl | rfl <;> rfl)) (by refine ⟨rfl, Or.inl ⟨rfl, ?_⟩⟩; omega)
set_option maxHeartbeats 4000000 in
set_option maxRecDepth 100000 in
theorem c_X6_hasTarget {l : Launch} {E : En} {K : Nat → Nat} {L : Nat → Nat → Bool} {ad : Nat → Nat} {I : Nat → Nat → Int32} (k : Int32)  : MI l E K L ad I yX6_hasTarget cX6_hasTarget 1 (some .boolean) 0 [.int k] (fun v J => J = I ∧ (v = 1 ∧ (mat k) ∨ v = 0 ∧ ¬ (mat k))) := by
  refine MZ.of (by decide) (Nat.le_of_ble_eq_true rfl) ?_
  intro p e s m args below meth c ls Qf C hret hP hl
  have C : Cx E p s m args c cX6_hasTarget RX6 1 := C
  have hx := C.1
  have hb := C.2.1
  have hS : va_S (AG E) s.heap s.heap [] := va_S.rf
  have hl : lv_has ls 1 [(0, .int k)] := hl
  refine lv_iload_n hx hb dX6_hasTarget_0 rfl (lv_at hl 0 rfl) ?_
  refine lv_iconst (v := nI 1) hx hb dX6_hasTarget_1 (by decide) ?_
  refine b_lt C dX6_hasTarget_2 (tgt := 15) (by decide) (fun h1 => ?_) (fun h1 => ?_)
  · rw [nI_toInt (by omega)] at h1
    refine lv_iconst (v := nI 0) hx hb dX6_hasTarget_15 (by decide) ?_
    exact hret _ _ _ _ _ _ dX6_hasTarget_16 hP hS (by first | rfl | (rcases hbv with rfl | rfl <;> rfl)) (by refine ⟨rfl, Or.inr ⟨rfl, ?_⟩⟩; omega)
  · rw [nI_toInt (by omega)] at h1
    refine lv_iload_n hx hb dX6_hasTarget_5 rfl (lv_at hl 0 rfl) ?_
    refine lv_bipush (v := nI 7) hx hb dX6_hasTarget_6 (by decide) ?_
    refine b_gt C dX6_hasTarget_8 (tgt := 15) (by decide) (fun h2 => ?_) (fun h2 => ?_)
    · rw [nI_toInt (by omega)] at h2
      refine lv_iconst (v := nI 0) hx hb dX6_hasTarget_15 (by decide) ?_
      exact hret _ _ _ _ _ _ dX6_hasTarget_16 hP hS (by first | rfl | (rcases hbv with rfl | rfl <;> rfl)) (by refine ⟨rfl, Or.inr ⟨rfl, ?_⟩⟩; omega)
    · rw [nI_toInt (by omega)] at h2
      refine lv_iconst (v := nI 1) hx hb dX6_hasTarget_11 (by decide) ?_
      refine lv_goto (tgt := 16) hx hb dX6_hasTarget_12 (by decide) ?_
      exact hret _ _ _ _ _ _ dX6_hasTarget_16 hP hS (by first | rfl | (rcases hbv with rfl | rfl <;> rfl)) (by refine ⟨rfl, Or.inl ⟨rfl, ?_⟩⟩; omega)
set_option maxHeartbeats 4000000 in
set_option maxRecDepth 100000 in
theorem c_X6_hasRegister {l : Launch} {E : En} {K : Nat → Nat} {L : Nat → Nat → Bool} {ad : Nat → Nat} {I : Nat → Nat → Int32} (k : Int32)  : MI l E K L ad I yX6_hasRegister cX6_hasRegister 1 (some .boolean) 0 [.int k] (fun v J => J = I ∧ (v = 1 ∧ (hrg k) ∨ v = 0 ∧ ¬ (hrg k))) := by
  refine MZ.of (by decide) (Nat.le_of_ble_eq_true rfl) ?_
  intro p e s m args below meth c ls Qf C hret hP hl
  have C : Cx E p s m args c cX6_hasRegister RX6 1 := C
  have hx := C.1
  have hb := C.2.1
  have hS : va_S (AG E) s.heap s.heap [] := va_S.rf
  have hl : lv_has ls 1 [(0, .int k)] := hl
  refine lv_iload_n hx hb dX6_hasRegister_0 rfl (lv_at hl 0 rfl) ?_
  refine lv_iconst (v := nI 5) hx hb dX6_hasRegister_1 (by decide) ?_
  refine b_lt C dX6_hasRegister_2 (tgt := 15) (by decide) (fun h1 => ?_) (fun h1 => ?_)
  · rw [nI_toInt (by omega)] at h1
    refine lv_iconst (v := nI 0) hx hb dX6_hasRegister_15 (by decide) ?_
    exact hret _ _ _ _ _ _ dX6_hasRegister_16 hP hS (by first | rfl | (rcases hbv with rfl | rfl <;> rfl)) (by refine ⟨rfl, Or.inr ⟨rfl, ?_⟩⟩; omega)
  · rw [nI_toInt (by omega)] at h1
    refine lv_iload_n hx hb dX6_hasRegister_5 rfl (lv_at hl 0 rfl) ?_
    refine lv_bipush (v := nI 7) hx hb dX6_hasRegister_6 (by decide) ?_
    refine b_gt C dX6_hasRegister_8 (tgt := 15) (by decide) (fun h2 => ?_) (fun h2 => ?_)
    · rw [nI_toInt (by omega)] at h2
      refine lv_iconst (v := nI 0) hx hb dX6_hasRegister_15 (by decide) ?_
      exact hret _ _ _ _ _ _ dX6_hasRegister_16 hP hS (by first | rfl | (rcases hbv with rfl | rfl <;> rfl)) (by refine ⟨rfl, Or.inr ⟨rfl, ?_⟩⟩; omega)
    · rw [nI_toInt (by omega)] at h2
      refine lv_iconst (v := nI 1) hx hb dX6_hasRegister_11 (by decide) ?_
      refine lv_goto (tgt := 16) hx hb dX6_hasRegister_12 (by decide) ?_
      exact hret _ _ _ _ _ _ dX6_hasRegister_16 hP hS (by first | rfl | (rcases hbv with rfl | rfl <;> rfl)) (by refine ⟨rfl, Or.inl ⟨rfl, ?_⟩⟩; omega)
set_option maxHeartbeats 4000000 in
set_option maxRecDepth 100000 in
theorem c_X5_size {l : Launch} {E : En} {K : Nat → Nat} {L : Nat → Nat → Bool} {ad : Nat → Nat} {I : Nat → Nat → Int32} (h : Nat) (hk : K h = 6) : MI l E K L ad I yX5_size cX5_size 1 (some .int) 0 [.ref (ad h)] (fun r J => J = I ∧ r = I h 1 + nI 1) := by
  refine MI.of (by decide) (Nat.le_of_ble_eq_true rfl) ?_
  intro p e s m args below meth c ls Qf C hret hP hl
  have C : Cx E p s m args c cX5_size RX5 1 := C
  have hx := C.1
  have hb := C.2.1
  have hS : va_S (AG E) s.heap s.heap [] := va_S.rf
  have hl : lv_has ls 1 [(0, .ref (ad h))] := hl
  refine lv_aload_n hx hb dX5_size_0 rfl (lv_at hl 0 rfl) ?_
  refine f_X5_26 C hP (by assumption) dX5_size_1 ?_
  refine lv_iconst (v := nI 1) hx hb dX5_size_4 (by decide) ?_
  refine lv_iadd hx hb dX5_size_5 ?_
  refine lv_topi (fun x1 ex1 => ?_)
  exact hret _ _ _ _ _ _ dX5_size_6 hP hS (⟨rfl, ex1⟩)
set_option maxHeartbeats 4000000 in
set_option maxRecDepth 100000 in
theorem c_X5_isUsed {l : Launch} {E : En} {K : Nat → Nat} {L : Nat → Nat → Bool} {ad : Nat → Nat} {I : Nat → Nat → Int32} (h n j : Nat) (hk : K h = 6) (he : I h 1 = nI n) (hn : n ≤ 4) (hj : j < 5) : MI l E K L ad I yX5_isUsed cX5_isUsed 2 (some .boolean) 0 [.ref (ad h), .int (nI j)] (fun v J => J = I ∧ (v = 1 ∧ (thr n j) ∨ v = 0 ∧ ¬ (thr n j))) := by
  refine MZ.of (by decide) (Nat.le_of_ble_eq_true rfl) ?_
  intro p e s m args below meth c ls Qf C hret hP hl
  have C : Cx E p s m args c cX5_isUsed RX5 2 := C
  have hx := C.1
  have hb := C.2.1
  have hS : va_S (AG E) s.heap s.heap [] := va_S.rf
  have hl : lv_has ls 2 [(0, .ref (ad h)), (1, .int (nI j))] := hl
  refine lv_iload_n hx hb dX5_isUsed_0 rfl (lv_at hl 1 rfl) ?_
  refine lv_aload_n hx hb dX5_isUsed_1 rfl (lv_at hl 0 rfl) ?_
  refine f_X5_26 C hP (by assumption) dX5_isUsed_2 ?_
  refine r_eqi (y := (nI n)) (he) ?_
  refine b_ltN C (by omega) (by omega) dX5_isUsed_5 (tgt := 13) (by decide) (fun h1 => ?_) (fun h1 => ?_)
  · refine lv_iconst (v := nI 1) hx hb dX5_isUsed_13 (by decide) ?_
    refine lv_goto (tgt := 18) hx hb dX5_isUsed_14 (by decide) ?_
    exact hret _ _ _ _ _ _ dX5_isUsed_18 hP hS (by first | rfl | (rcases hbv with rfl | rfl <;> rfl)) (by refine ⟨rfl, Or.inl ⟨rfl, ?_⟩⟩; omega)
  · refine lv_iload_n hx hb dX5_isUsed_8 rfl (lv_at hl 1 rfl) ?_
    refine lv_iconst (v := nI 4) hx hb dX5_isUsed_9 (by decide) ?_
    refine b_neN C (by omega) (by omega) dX5_isUsed_10 (tgt := 17) (by decide) (fun h2 => ?_) (fun h2 => ?_)
    · refine lv_iconst (v := nI 0) hx hb dX5_isUsed_17 (by decide) ?_
      exact hret _ _ _ _ _ _ dX5_isUsed_18 hP hS (by first | rfl | (rcases hbv with rfl | rfl <;> rfl)) (by refine ⟨rfl, Or.inr ⟨rfl, ?_⟩⟩; omega)
    · refine lv_iconst (v := nI 1) hx hb dX5_isUsed_13 (by decide) ?_
      refine lv_goto (tgt := 18) hx hb dX5_isUsed_14 (by decide) ?_
      exact hret _ _ _ _ _ _ dX5_isUsed_18 hP hS (by first | rfl | (rcases hbv with rfl | rfl <;> rfl)) (by refine ⟨rfl, Or.inl ⟨rfl, ?_⟩⟩; omega)
set_option maxHeartbeats 4000000 in
set_option maxRecDepth 100000 in
theorem c_X5_slotOf {l : Launch} {E : En} {K : Nat → Nat} {L : Nat → Nat → Bool} {ad : Nat → Nat} {I : Nat → Nat → Int32} (h n : Nat) (v : Int32) (hk : K h = 6) (hl2 : L h 2 = true) (hk1 : K (h + 1) = 104) (he : I h 1 = nI n) (hn : n ≤ 4) : MI l E K L ad I yX5_slotOf cX5_slotOf 3 (some .int) 0 [.ref (ad h), .int v] (fun r J => J = I ∧ r = nI (fnd (I (h + 1)) v n 0)) := by
  refine MI.of (by decide) (Nat.le_of_ble_eq_true rfl) ?_
  intro p e s m args below meth c ls Qf C hret hP hl
  have C : Cx E p s m args c cX5_slotOf RX5 3 := C
  have hx := C.1
  have hb := C.2.1
  have hS : va_S (AG E) s.heap s.heap [] := va_S.rf
  have hl : lv_has ls 3 [(0, .ref (ad h)), (1, .int v)] := hl
  refine lv_iconst (v := nI 0) hx hb dX5_slotOf_0 (by decide) ?_
  refine lv_istore_n (lv' := [(2, .int (nI 0)), (0, .ref (ad h)), (1, .int v)]) hx hb dX5_slotOf_1 rfl hl (by decide) rfl (fun ls hl => ?_)
  have hL2_1 : ∀ (d : Nat) (j : Nat) (H : Heap) (locs : List Loc) (ls : Array Slot), n < j + d → (j ≤ n) → (∀ i, i < j → I (h + 1) i ≠ v) → Hp E K L ad I H → va_S (AG E) s.heap H locs → lv_has ls 3 [(0, .ref (ad h)), (1, .int v), (2, .int (nI j))] → W p l e (rmk 0) s m args below meth c H locs 0 0 Qf (F0 m 2 ls []) := by
    intro d
    induction d with
    | zero => intro j H locs ls hd hj hno _ _ _; exact absurd hd (by omega)
    | succ d ih =>
      intro j H locs ls hd hj hno hP hS hl
      refine lv_iload_n hx hb dX5_slotOf_2 rfl (lv_at hl 2 rfl) ?_
      refine lv_aload_n hx hb dX5_slotOf_3 rfl (lv_at hl 0 rfl) ?_
      refine f_X5_26 C hP (by assumption) dX5_slotOf_4 ?_
      refine r_eqi (y := (nI n)) (he) ?_
      refine b_geN C (by omega) (by omega) dX5_slotOf_7 (tgt := 28) (by decide) (fun h2 => ?_) (fun h2 => ?_)
      · refine lv_iconst (v := nI 4) hx hb dX5_slotOf_28 (by decide) ?_
        exact hret _ _ _ _ _ _ dX5_slotOf_29 hP hS (⟨rfl, by rw [fnd_miss n 0 (fun a _ h2 => hno a (by omega))]⟩)
      · refine lv_aload_n hx hb dX5_slotOf_10 rfl (lv_at hl 0 rfl) ?_
        refine f_X5_9 (q := h + 1) C hP (by assumption) (by assumption) rfl dX5_slotOf_11 ?_
        refine lv_iload_n hx hb dX5_slotOf_14 rfl (lv_at hl 2 rfl) ?_
        refine r_iald (n := 4) C hP (by assumption) (by omega) (by decide) dX5_slotOf_15 ?_
        refine lv_iload_n hx hb dX5_slotOf_16 rfl (lv_at hl 1 rfl) ?_
        refine b_ne C dX5_slotOf_17 (tgt := 22) (by decide) (fun h3 => ?_) (fun h3 => ?_)
        · refine lv_iinc (v := nI (j + 1)) (lv' := [(2, .int (nI (j + 1))), (0, .ref (ad h)), (1, .int v)]) hx hb dX5_slotOf_22 hl (k := 2) rfl (nI_1 _) (by decide) rfl (fun ls hl => ?_)
          refine lv_goto (tgt := 2) hx hb dX5_slotOf_25 (by decide) ?_
          exact ih (j + 1) _ _ _ (by omega) (by omega) (lt_s hno (by assumption)) hP hS (lv_sub hl [1, 2, 0] rfl)
        · refine lv_iload_n hx hb dX5_slotOf_20 rfl (lv_at hl 2 rfl) ?_
          exact hret _ _ _ _ _ _ dX5_slotOf_21 hP hS (⟨rfl, by rw [fnd_hit n 0 j (by omega) (by omega) (by assumption) (fun a _ h2 => hno a h2)]⟩)
  exact hL2_1 (n + 1) 0 _ _ _ (by omega) (Nat.zero_le _) (lt_0) hP hS (lv_sub hl [1, 2, 0] rfl)
end
section
/-! acts -/
set_option maxHeartbeats 4000000 in
set_option maxRecDepth 100000 in
theorem c_X0_become {l : Launch} {E : En} {K : Nat → Nat} {L : Nat → Nat → Bool} {ad : Nat → Nat} {I : Nat → Nat → Int32} (r : Nat) (k t x : Int32) (hk : K r = 1) : MV l E K L ad I yX0_become cX0_become 4 1 [.ref (ad r), .int k, .int t, .int x] (fun J => J = set3 I r k (mq k t) (mq k x)) := by
  refine MV.of (by decide) (Nat.le_of_ble_eq_true rfl) ?_
  intro p e s m args below meth c ls Qf C hret hP hl
  have C : Cx E p s m args c cX0_become RX0 4 := C
  have hx := C.1
  have hb := C.2.1
  have hS : va_S (AG E) s.heap s.heap [] := va_S.rf
  have hl : lv_has ls 4 [(0, .ref (ad r)), (1, .int k), (2, .int t), (3, .int x)] := hl
  refine lv_aload_n hx hb dX0_become_0 rfl (lv_at hl 0 rfl) ?_
  refine lv_iload_n hx hb dX0_become_1 rfl (lv_at hl 1 rfl) ?_
  refine p_X0_9 C hP hS (by assumption) dX0_become_2 (fun H locs hP hS => ?_)
  obtain ⟨I1, eI1⟩ : ∃ Z : Nat → Nat → Int32, Z = up2 I r 0 k := ⟨_, rfl⟩
  rw [← eI1] at hP
  refine lv_aload_n hx hb dX0_become_5 rfl (lv_at hl 0 rfl) ?_
  refine lv_iload_n hx hb dX0_become_6 rfl (lv_at hl 1 rfl) ?_
  refine k_X0_21 C hP hS (c_X6_hasTarget k) ⟨Nat.le_of_ble_eq_true rfl, Nat.le_of_ble_eq_true rfl⟩ ⟨Nat.zero_le _, Nat.zero_le _⟩ hl.1 (Nat.le_of_ble_eq_true rfl) dX0_become_7 (fun v2 I3 H locs hv4 hP hS => ?_)
  obtain ⟨eI3, hv4⟩ := hv4
  rw [eI3] at hP
  clear eI3
  rcases hv4 with ⟨rfl, hc5⟩ | ⟨rfl, hc5⟩
  · refine z_eq1 C dX0_become_10 (tgt := 17) (by decide) ?_
    refine lv_iload_n hx hb dX0_become_13 rfl (lv_at hl 2 rfl) ?_
    refine lv_goto (tgt := 19) hx hb dX0_become_14 (by decide) ?_
    refine p_X0_15 C hP hS (by assumption) dX0_become_19 (fun H locs hP hS => ?_)
    obtain ⟨I6, eI6⟩ : ∃ Z : Nat → Nat → Int32, Z = up2 I1 r 1 t := ⟨_, rfl⟩
    rw [← eI6] at hP
    refine lv_aload_n hx hb dX0_become_22 rfl (lv_at hl 0 rfl) ?_
    refine lv_iload_n hx hb dX0_become_23 rfl (lv_at hl 1 rfl) ?_
    refine k_X0_21 C hP hS (c_X6_hasTarget k) ⟨Nat.le_of_ble_eq_true rfl, Nat.le_of_ble_eq_true rfl⟩ ⟨Nat.zero_le _, Nat.zero_le _⟩ hl.1 (Nat.le_of_ble_eq_true rfl) dX0_become_24 (fun v7 I8 H locs hv9 hP hS => ?_)
    obtain ⟨eI8, hv9⟩ := hv9
    rw [eI8] at hP
    clear eI8
    rcases hv9 with ⟨rfl, hc10⟩ | ⟨rfl, hc10⟩
    · refine z_eq1 C dX0_become_27 (tgt := 34) (by decide) ?_
      refine lv_iload_n hx hb dX0_become_30 rfl (lv_at hl 3 rfl) ?_
      refine lv_goto (tgt := 36) hx hb dX0_become_31 (by decide) ?_
      refine p_X0_18 C hP hS (by assumption) dX0_become_36 (fun H locs hP hS => ?_)
      obtain ⟨I11, eI11⟩ : ∃ Z : Nat → Nat → Int32, Z = up2 I6 r 2 x := ⟨_, rfl⟩
      rw [← eI11] at hP
      exact hret _ _ _ _ _ dX0_become_39 hP hS (by simp only [set3]; subst_vars; first | contradiction | rw [mq_t (by assumption), mq_t (by assumption)] | rw [mq_f (by assumption), mq_f (by assumption)])
    · refine z_eq0 C dX0_become_27 (tgt := 34) (by decide) ?_
      refine lv_bipush (v := (-6)) hx hb dX0_become_34 (by decide) ?_
      refine p_X0_18 C hP hS (by assumption) dX0_become_36 (fun H locs hP hS => ?_)
      obtain ⟨I12, eI12⟩ : ∃ Z : Nat → Nat → Int32, Z = up2 I6 r 2 ((-6)) := ⟨_, rfl⟩
      rw [← eI12] at hP
      exact hret _ _ _ _ _ dX0_become_39 hP hS (by simp only [set3]; subst_vars; first | contradiction | rw [mq_t (by assumption), mq_t (by assumption)] | rw [mq_f (by assumption), mq_f (by assumption)])
  · refine z_eq0 C dX0_become_10 (tgt := 17) (by decide) ?_
    refine lv_bipush (v := (-6)) hx hb dX0_become_17 (by decide) ?_
    refine p_X0_15 C hP hS (by assumption) dX0_become_19 (fun H locs hP hS => ?_)
    obtain ⟨I13, eI13⟩ : ∃ Z : Nat → Nat → Int32, Z = up2 I1 r 1 ((-6)) := ⟨_, rfl⟩
    rw [← eI13] at hP
    refine lv_aload_n hx hb dX0_become_22 rfl (lv_at hl 0 rfl) ?_
    refine lv_iload_n hx hb dX0_become_23 rfl (lv_at hl 1 rfl) ?_
    refine k_X0_21 C hP hS (c_X6_hasTarget k) ⟨Nat.le_of_ble_eq_true rfl, Nat.le_of_ble_eq_true rfl⟩ ⟨Nat.zero_le _, Nat.zero_le _⟩ hl.1 (Nat.le_of_ble_eq_true rfl) dX0_become_24 (fun v14 I15 H locs hv16 hP hS => ?_)
    obtain ⟨eI15, hv16⟩ := hv16
    rw [eI15] at hP
    clear eI15
    rcases hv16 with ⟨rfl, hc17⟩ | ⟨rfl, hc17⟩
    · refine z_eq1 C dX0_become_27 (tgt := 34) (by decide) ?_
      refine lv_iload_n hx hb dX0_become_30 rfl (lv_at hl 3 rfl) ?_
      refine lv_goto (tgt := 36) hx hb dX0_become_31 (by decide) ?_
      refine p_X0_18 C hP hS (by assumption) dX0_become_36 (fun H locs hP hS => ?_)
      obtain ⟨I18, eI18⟩ : ∃ Z : Nat → Nat → Int32, Z = up2 I13 r 2 x := ⟨_, rfl⟩
      rw [← eI18] at hP
      exact hret _ _ _ _ _ dX0_become_39 hP hS (by simp only [set3]; subst_vars; first | contradiction | rw [mq_t (by assumption), mq_t (by assumption)] | rw [mq_f (by assumption), mq_f (by assumption)])
    · refine z_eq0 C dX0_become_27 (tgt := 34) (by decide) ?_
      refine lv_bipush (v := (-6)) hx hb dX0_become_34 (by decide) ?_
      refine p_X0_18 C hP hS (by assumption) dX0_become_36 (fun H locs hP hS => ?_)
      obtain ⟨I19, eI19⟩ : ∃ Z : Nat → Nat → Int32, Z = up2 I13 r 2 ((-6)) := ⟨_, rfl⟩
      rw [← eI19] at hP
      exact hret _ _ _ _ _ dX0_become_39 hP hS (by simp only [set3]; subst_vars; first | contradiction | rw [mq_t (by assumption), mq_t (by assumption)] | rw [mq_f (by assumption), mq_f (by assumption)])
set_option maxHeartbeats 4000000 in
set_option maxRecDepth 100000 in
theorem c_X0_copy {l : Launch} {E : En} {K : Nat → Nat} {L : Nat → Nat → Bool} {ad : Nat → Nat} {I : Nat → Nat → Int32} (r q : Nat) (hk : K r = 1) (hkq : K q = 1) (hne : q ≠ r) : MV l E K L ad I yX0_copy cX0_copy 2 0 [.ref (ad r), .ref (ad q)] (fun J => J = set3 I r (I q 0) (I q 1) (I q 2)) := by
  refine MV.of (by decide) (Nat.le_of_ble_eq_true rfl) ?_
  intro p e s m args below meth c ls Qf C hret hP hl
  have C : Cx E p s m args c cX0_copy RX0 2 := C
  have hx := C.1
  have hb := C.2.1
  have hS : va_S (AG E) s.heap s.heap [] := va_S.rf
  have hl : lv_has ls 2 [(0, .ref (ad r)), (1, .ref (ad q))] := hl
  refine lv_aload_n hx hb dX0_copy_0 rfl (lv_at hl 0 rfl) ?_
  refine lv_aload_n hx hb dX0_copy_1 rfl (lv_at hl 1 rfl) ?_
  refine f_X0_9 C hP (by assumption) dX0_copy_2 ?_
  refine p_X0_9 C hP hS (by assumption) dX0_copy_5 (fun H locs hP hS => ?_)
  obtain ⟨I1, eI1⟩ : ∃ Z : Nat → Nat → Int32, Z = up2 I r 0 (I q 0) := ⟨_, rfl⟩
  rw [← eI1] at hP
  refine lv_aload_n hx hb dX0_copy_8 rfl (lv_at hl 0 rfl) ?_
  refine lv_aload_n hx hb dX0_copy_9 rfl (lv_at hl 1 rfl) ?_
  refine f_X0_15 C hP (by assumption) dX0_copy_10 ?_
  refine p_X0_15 C hP hS (by assumption) dX0_copy_13 (fun H locs hP hS => ?_)
  obtain ⟨I2, eI2⟩ : ∃ Z : Nat → Nat → Int32, Z = up2 I1 r 1 (I1 q 1) := ⟨_, rfl⟩
  rw [← eI2] at hP
  refine lv_aload_n hx hb dX0_copy_16 rfl (lv_at hl 0 rfl) ?_
  refine lv_aload_n hx hb dX0_copy_17 rfl (lv_at hl 1 rfl) ?_
  refine f_X0_18 C hP (by assumption) dX0_copy_18 ?_
  refine p_X0_18 C hP hS (by assumption) dX0_copy_21 (fun H locs hP hS => ?_)
  obtain ⟨I3, eI3⟩ : ∃ Z : Nat → Nat → Int32, Z = up2 I2 r 2 (I2 q 2) := ⟨_, rfl⟩
  rw [← eI3] at hP
  exact hret _ _ _ _ _ dX0_copy_24 hP hS (by simp only [set3]; subst_vars; simp only [up2_r hne])
set_option maxHeartbeats 4000000 in
set_option maxRecDepth 100000 in
theorem c_X0_writtenFields {l : Launch} {E : En} {K : Nat → Nat} {L : Nat → Nat → Bool} {ad : Nat → Nat} {I : Nat → Nat → Int32} (r : Nat) (hk : K r = 1) : MI l E K L ad I yX0_writtenFields cX0_writtenFields 1 (some .int) 1 [.ref (ad r)] (fun v J => J = I ∧ v = wrA (I r 0) (I r 1)) := by
  refine MI.of (by decide) (Nat.le_of_ble_eq_true rfl) ?_
  intro p e s m args below meth c ls Qf C hret hP hl
  have C : Cx E p s m args c cX0_writtenFields RX0 1 := C
  have hx := C.1
  have hb := C.2.1
  have hS : va_S (AG E) s.heap s.heap [] := va_S.rf
  have hl : lv_has ls 1 [(0, .ref (ad r))] := hl
  refine lv_aload_n hx hb dX0_writtenFields_0 rfl (lv_at hl 0 rfl) ?_
  refine f_X0_9 C hP (by assumption) dX0_writtenFields_1 ?_
  refine k_X0_21 C hP hS (c_X6_hasTarget ((I r 0))) ⟨Nat.le_of_ble_eq_true rfl, Nat.le_of_ble_eq_true rfl⟩ ⟨Nat.zero_le _, Nat.zero_le _⟩ hl.1 (Nat.le_of_ble_eq_true rfl) dX0_writtenFields_4 (fun v1 I2 H locs hv3 hP hS => ?_)
  obtain ⟨eI2, hv3⟩ := hv3
  rw [eI2] at hP
  clear eI2
  rcases hv3 with ⟨rfl, hc4⟩ | ⟨rfl, hc4⟩
  · refine z_eq1 C dX0_writtenFields_7 (tgt := 19) (by decide) ?_
    refine lv_iconst (v := nI 1) hx hb dX0_writtenFields_10 (by decide) ?_
    refine lv_aload_n hx hb dX0_writtenFields_11 rfl (lv_at hl 0 rfl) ?_
    refine f_X0_15 C hP (by assumption) dX0_writtenFields_12 ?_
    refine lv_ishl hx hb dX0_writtenFields_15 ?_
    refine lv_topi (fun x5 ex5 => ?_)
    refine lv_goto (tgt := 20) hx hb dX0_writtenFields_16 (by decide) ?_
    exact hret _ _ _ _ _ _ dX0_writtenFields_20 hP hS (⟨rfl, by rw [wrA, if_pos (by assumption)]; exact ex5⟩)
  · refine z_eq0 C dX0_writtenFields_7 (tgt := 19) (by decide) ?_
    refine lv_iconst (v := nI 0) hx hb dX0_writtenFields_19 (by decide) ?_
    exact hret _ _ _ _ _ _ dX0_writtenFields_20 hP hS (⟨rfl, by rw [wrA, if_neg (by assumption)]⟩)
set_option maxHeartbeats 4000000 in
set_option maxRecDepth 100000 in
theorem c_X0_ownRegisters {l : Launch} {E : En} {K : Nat → Nat} {L : Nat → Nat → Bool} {ad : Nat → Nat} {I : Nat → Nat → Int32} (r : Nat) (hk : K r = 1) : MI l E K L ad I yX0_ownRegisters cX0_ownRegisters 1 (some .int) 1 [.ref (ad r)] (fun v J => J = I ∧ v = rgA (I r 0) (I r 2)) := by
  refine MI.of (by decide) (Nat.le_of_ble_eq_true rfl) ?_
  intro p e s m args below meth c ls Qf C hret hP hl
  have C : Cx E p s m args c cX0_ownRegisters RX0 1 := C
  have hx := C.1
  have hb := C.2.1
  have hS : va_S (AG E) s.heap s.heap [] := va_S.rf
  have hl : lv_has ls 1 [(0, .ref (ad r))] := hl
  refine lv_aload_n hx hb dX0_ownRegisters_0 rfl (lv_at hl 0 rfl) ?_
  refine f_X0_9 C hP (by assumption) dX0_ownRegisters_1 ?_
  refine k_X0_25 C hP hS (c_X6_hasRegister ((I r 0))) ⟨Nat.le_of_ble_eq_true rfl, Nat.le_of_ble_eq_true rfl⟩ ⟨Nat.zero_le _, Nat.zero_le _⟩ hl.1 (Nat.le_of_ble_eq_true rfl) dX0_ownRegisters_4 (fun v1 I2 H locs hv3 hP hS => ?_)
  obtain ⟨eI2, hv3⟩ := hv3
  rw [eI2] at hP
  clear eI2
  rcases hv3 with ⟨rfl, hc4⟩ | ⟨rfl, hc4⟩
  · refine z_eq1 C dX0_ownRegisters_7 (tgt := 19) (by decide) ?_
    refine lv_iconst (v := nI 1) hx hb dX0_ownRegisters_10 (by decide) ?_
    refine lv_aload_n hx hb dX0_ownRegisters_11 rfl (lv_at hl 0 rfl) ?_
    refine f_X0_18 C hP (by assumption) dX0_ownRegisters_12 ?_
    refine lv_ishl hx hb dX0_ownRegisters_15 ?_
    refine lv_topi (fun x5 ex5 => ?_)
    refine lv_goto (tgt := 20) hx hb dX0_ownRegisters_16 (by decide) ?_
    exact hret _ _ _ _ _ _ dX0_ownRegisters_20 hP hS (⟨rfl, by rw [rgA, if_pos (by assumption)]; exact ex5⟩)
  · refine z_eq0 C dX0_ownRegisters_7 (tgt := 19) (by decide) ?_
    refine lv_iconst (v := nI 0) hx hb dX0_ownRegisters_19 (by decide) ?_
    exact hret _ _ _ _ _ _ dX0_ownRegisters_20 hP hS (⟨rfl, by rw [rgA, if_neg (by assumption)]⟩)
set_option maxHeartbeats 4000000 in
set_option maxRecDepth 100000 in
theorem c_X0_readFields {l : Launch} {E : En} {K : Nat → Nat} {L : Nat → Nat → Bool} {ad : Nat → Nat} {I : Nat → Nat → Int32} (r : Nat) (hk : K r = 1) : MI l E K L ad I yX0_readFields cX0_readFields 1 (some .int) 0 [.ref (ad r)] (fun v J => J = I ∧ v = rdA (I r 0) (I r 1) (I r 2)) := by
  refine MI.of (by decide) (Nat.le_of_ble_eq_true rfl) ?_
  intro p e s m args below meth c ls Qf C hret hP hl
  have C : Cx E p s m args c cX0_readFields RX0 1 := C
  have hx := C.1
  have hb := C.2.1
  have hS : va_S (AG E) s.heap s.heap [] := va_S.rf
  have hl : lv_has ls 1 [(0, .ref (ad r))] := hl
  refine lv_aload_n hx hb dX0_readFields_0 rfl (lv_at hl 0 rfl) ?_
  refine f_X0_9 C hP (by assumption) dX0_readFields_1 ?_
  by_cases sw1 : ((I r 0) : Int32).toInt = 2
  · refine sw_in C dX0_readFields_4 sw1 (by decide) (by decide) (off := 40) (by decide) (tgt := 44) (by decide) ?_
    refine lv_iconst (v := nI 1) hx hb dX0_readFields_44 (by decide) ?_
    refine lv_aload_n hx hb dX0_readFields_45 rfl (lv_at hl 0 rfl) ?_
    refine f_X0_18 C hP (by assumption) dX0_readFields_46 ?_
    refine lv_ishl hx hb dX0_readFields_49 ?_
    refine lv_topi (fun x2 ex2 => ?_)
    exact hret _ _ _ _ _ _ dX0_readFields_50 hP hS (⟨rfl, by subst_vars; simp [rdA, *]⟩)
  · by_cases sw3 : ((I r 0) : Int32).toInt = 3
    · refine sw_in C dX0_readFields_4 sw3 (by decide) (by decide) (off := 47) (by decide) (tgt := 51) (by decide) ?_
      refine lv_iconst (v := nI 1) hx hb dX0_readFields_51 (by decide) ?_
      refine lv_aload_n hx hb dX0_readFields_52 rfl (lv_at hl 0 rfl) ?_
      refine f_X0_15 C hP (by assumption) dX0_readFields_53 ?_
      refine lv_ishl hx hb dX0_readFields_56 ?_
      refine lv_topi (fun x4 ex4 => ?_)
      exact hret _ _ _ _ _ _ dX0_readFields_57 hP hS (⟨rfl, by subst_vars; simp [rdA, *]⟩)
    · by_cases sw5 : ((I r 0) : Int32).toInt = 4
      · refine sw_in C dX0_readFields_4 sw5 (by decide) (by decide) (off := 54) (by decide) (tgt := 58) (by decide) ?_
        refine lv_iconst (v := nI 1) hx hb dX0_readFields_58 (by decide) ?_
        refine lv_aload_n hx hb dX0_readFields_59 rfl (lv_at hl 0 rfl) ?_
        refine f_X0_15 C hP (by assumption) dX0_readFields_60 ?_
        refine lv_ishl hx hb dX0_readFields_63 ?_
        refine lv_topi (fun x6 ex6 => ?_)
        refine lv_iconst (v := nI 1) hx hb dX0_readFields_64 (by decide) ?_
        refine lv_aload_n hx hb dX0_readFields_65 rfl (lv_at hl 0 rfl) ?_
        refine f_X0_18 C hP (by assumption) dX0_readFields_66 ?_
        refine lv_ishl hx hb dX0_readFields_69 ?_
        refine lv_topi (fun x7 ex7 => ?_)
        refine lv_ior hx hb dX0_readFields_70 ?_
        refine lv_topi (fun x8 ex8 => ?_)
        exact hret _ _ _ _ _ _ dX0_readFields_71 hP hS (⟨rfl, by subst_vars; simp [rdA, *]⟩)
      · by_cases sw9 : ((I r 0) : Int32).toInt = 6
        · refine sw_in C dX0_readFields_4 sw9 (by decide) (by decide) (off := 47) (by decide) (tgt := 51) (by decide) ?_
          refine lv_iconst (v := nI 1) hx hb dX0_readFields_51 (by decide) ?_
          refine lv_aload_n hx hb dX0_readFields_52 rfl (lv_at hl 0 rfl) ?_
          refine f_X0_15 C hP (by assumption) dX0_readFields_53 ?_
          refine lv_ishl hx hb dX0_readFields_56 ?_
          refine lv_topi (fun x10 ex10 => ?_)
          exact hret _ _ _ _ _ _ dX0_readFields_57 hP hS (⟨rfl, by subst_vars; simp [rdA, *]⟩)
        · by_cases sw11 : ((I r 0) : Int32).toInt = 7
          · refine sw_in C dX0_readFields_4 sw11 (by decide) (by decide) (off := 47) (by decide) (tgt := 51) (by decide) ?_
            refine lv_iconst (v := nI 1) hx hb dX0_readFields_51 (by decide) ?_
            refine lv_aload_n hx hb dX0_readFields_52 rfl (lv_at hl 0 rfl) ?_
            refine f_X0_15 C hP (by assumption) dX0_readFields_53 ?_
            refine lv_ishl hx hb dX0_readFields_56 ?_
            refine lv_topi (fun x12 ex12 => ?_)
            exact hret _ _ _ _ _ _ dX0_readFields_57 hP hS (⟨rfl, by subst_vars; simp [rdA, *]⟩)
          · by_cases sw13 : ((I r 0) : Int32).toInt = 5
            · refine sw_in C dX0_readFields_4 sw13 (by decide) (by decide) (off := 68) (by decide) (tgt := 72) (by decide) ?_
              refine lv_iconst (v := nI 0) hx hb dX0_readFields_72 (by decide) ?_
              exact hret _ _ _ _ _ _ dX0_readFields_73 hP hS (⟨rfl, by subst_vars; simp [rdA, *]⟩)
            · refine lv_tableOut hx hb dX0_readFields_4 (by omega) (tgt := 72) (by decide) ?_
              refine lv_iconst (v := nI 0) hx hb dX0_readFields_72 (by decide) ?_
              exact hret _ _ _ _ _ _ dX0_readFields_73 hP hS (⟨rfl, by subst_vars; simp [rdA, *]⟩)
end
section
/-! tables -/
set_option maxHeartbeats 4000000 in
set_option maxRecDepth 100000 in
theorem c_X5_begin {l : Launch} {E : En} {K : Nat → Nat} {L : Nat → Nat → Bool} {ad : Nat → Nat} {I : Nat → Nat → Int32} (h : Nat) (k : Int32) (hT : IsT K L h) : MV l E K L ad I yX5_begin cX5_begin 2 2 [.ref (ad h), .int k] (fun J => J = set3 (up2 (up2 I h 0 k) h 1 (nI 0)) (h + 7) (nI 0) (-6) (-6)) := by
  obtain ⟨hk, hl2, hl3, hk1, hk2, hLa, hKa⟩ := hT
  have hk7 := hKa 4 (by decide)
  have hL4 := hLa 4 (by decide)
  refine MV.of (by decide) (Nat.le_of_ble_eq_true rfl) ?_
  intro p e s m args below meth c ls Qf C hret hP hl
  have C : Cx E p s m args c cX5_begin RX5 2 := C
  have hx := C.1
  have hb := C.2.1
  have hS : va_S (AG E) s.heap s.heap [] := va_S.rf
  have hl : lv_has ls 2 [(0, .ref (ad h)), (1, .int k)] := hl
  refine lv_aload_n hx hb dX5_begin_0 rfl (lv_at hl 0 rfl) ?_
  refine lv_iload_n hx hb dX5_begin_1 rfl (lv_at hl 1 rfl) ?_
  refine p_X5_22 C hP hS (by assumption) dX5_begin_2 (fun H locs hP hS => ?_)
  obtain ⟨I1, eI1⟩ : ∃ Z : Nat → Nat → Int32, Z = up2 I h 0 k := ⟨_, rfl⟩
  rw [← eI1] at hP
  refine lv_aload_n hx hb dX5_begin_5 rfl (lv_at hl 0 rfl) ?_
  refine lv_iconst (v := nI 0) hx hb dX5_begin_6 (by decide) ?_
  refine p_X5_26 C hP hS (by assumption) dX5_begin_7 (fun H locs hP hS => ?_)
  obtain ⟨I2, eI2⟩ : ∃ Z : Nat → Nat → Int32, Z = up2 I1 h 1 (nI 0) := ⟨_, rfl⟩
  rw [← eI2] at hP
  refine lv_aload_n hx hb dX5_begin_10 rfl (lv_at hl 0 rfl) ?_
  refine f_X5_17 (q := h + 2) C hP (by assumption) (by assumption) rfl dX5_begin_11 ?_
  refine lv_iconst (v := nI 4) hx hb dX5_begin_14 (by decide) ?_
  refine r_ald11 (q := h + 3 + 4) C hP (by assumption) (by first | assumption | exact hLa _ (by omega)) (by omega) (by omega) dX5_begin_15 ?_
  refine lv_iconst (v := nI 0) hx hb dX5_begin_16 (by decide) ?_
  refine lv_bipush (v := (-6)) hx hb dX5_begin_17 (by decide) ?_
  refine lv_bipush (v := (-6)) hx hb dX5_begin_19 (by decide) ?_
  refine k_X5_29 C hP hS (by assumption) (c_X0_become (h + 3 + 4) (nI 0) (-6) (-6) (by assumption)) ⟨Nat.le_of_ble_eq_true rfl, Nat.le_of_ble_eq_true rfl⟩ ⟨Nat.zero_le _, Nat.zero_le _⟩ hl.1 (Nat.le_of_ble_eq_true rfl) dX5_begin_21 (fun I4 H locs hv5 hP hS => ?_)
  have eI4 := hv5
  exact hret _ _ _ _ _ dX5_begin_24 hP hS (by subst_vars; rw [mq_f (by decide)])
set_option maxHeartbeats 4000000 in
set_option maxRecDepth 100000 in
theorem c_X5_writtenFields {l : Launch} {E : En} {K : Nat → Nat} {L : Nat → Nat → Bool} {ad : Nat → Nat} {I : Nat → Nat → Int32} (h n : Nat) (hT : IsT K L h) (he : I h 1 = nI n) (hn : n ≤ 4) : MI l E K L ad I yX5_writtenFields cX5_writtenFields 3 (some .int) 2 [.ref (ad h)] (fun v J => J = I ∧ v = wrT n (fun e => I (h + 3 + e) 0) (fun e => I (h + 3 + e) 1)) := by
  obtain ⟨hk, hl2, hl3, hk1, hk2, hLa, hKa⟩ := hT
  refine MI.of (by decide) (Nat.le_of_ble_eq_true rfl) ?_
  intro p e s m args below meth c ls Qf C hret hP hl
  have C : Cx E p s m args c cX5_writtenFields RX5 3 := C
  have hx := C.1
  have hb := C.2.1
  have hS : va_S (AG E) s.heap s.heap [] := va_S.rf
  have hl : lv_has ls 3 [(0, .ref (ad h))] := hl
  refine lv_iconst (v := nI 0) hx hb dX5_writtenFields_0 (by decide) ?_
  refine lv_istore_n (lv' := [(1, .int (nI 0)), (0, .ref (ad h))]) hx hb dX5_writtenFields_1 rfl hl (by decide) rfl (fun ls hl => ?_)
  refine lv_iconst (v := nI 0) hx hb dX5_writtenFields_2 (by decide) ?_
  refine lv_istore_n (lv' := [(2, .int (nI 0)), (1, .int (nI 0)), (0, .ref (ad h))]) hx hb dX5_writtenFields_3 rfl hl (by decide) rfl (fun ls hl => ?_)
  have hL4_1 : ∀ (d : Nat) (j : Nat) (a : Int32) (H : Heap) (locs : List Loc) (ls : Array Slot), 5 < j + d → (j ≤ 5) → (a = orF (nI 0) (fun e => if thr n e then wrA (I (h + 3 + e) 0) (I (h + 3 + e) 1) else nI 0) j) → Hp E K L ad I H → va_S (AG E) s.heap H locs → lv_has ls 3 [(0, .ref (ad h)), (1, .int a), (2, .int (nI j))] → W p l e (rmk 2) s m args below meth c H locs 0 0 Qf (F0 m 4 ls []) := by
    intro d
    induction d with
    | zero => intro j a H locs ls hd hj ha _ _ _; exact absurd hd (by omega)
    | succ d ih =>
      intro j a H locs ls hd hj ha hP hS hl
      refine lv_iload_n hx hb dX5_writtenFields_4 rfl (lv_at hl 2 rfl) ?_
      refine lv_iconst (v := nI 4) hx hb dX5_writtenFields_5 (by decide) ?_
      refine b_gtN C (by omega) (by omega) dX5_writtenFields_6 (tgt := 39) (by decide) (fun h2 => ?_) (fun h2 => ?_)
      · refine lv_iload_n hx hb dX5_writtenFields_39 rfl (lv_at hl 1 rfl) ?_
        exact hret _ _ _ _ _ _ dX5_writtenFields_40 hP hS (⟨rfl, by rw [wrT]; rw [ha, show j = 5 by omega]⟩)
      · refine lv_iload_n hx hb dX5_writtenFields_9 rfl (lv_at hl 1 rfl) ?_
        refine lv_aload_n hx hb dX5_writtenFields_10 rfl (lv_at hl 0 rfl) ?_
        refine lv_iload_n hx hb dX5_writtenFields_11 rfl (lv_at hl 2 rfl) ?_
        refine k_X5_43 C hP hS (by assumption) (c_X5_isUsed h n j (by assumption) he hn (by omega)) ⟨Nat.le_of_ble_eq_true rfl, Nat.le_of_ble_eq_true rfl⟩ ⟨Nat.zero_le _, Nat.zero_le _⟩ hl.1 (Nat.le_of_ble_eq_true rfl) dX5_writtenFields_12 (fun v3 I4 H locs hv5 hP hS => ?_)
        obtain ⟨eI4, hv5⟩ := hv5
        rw [eI4] at hP
        clear eI4
        rcases hv5 with ⟨rfl, hc6⟩ | ⟨rfl, hc6⟩
        · refine z_eq1 C dX5_writtenFields_15 (tgt := 30) (by decide) ?_
          refine lv_aload_n hx hb dX5_writtenFields_18 rfl (lv_at hl 0 rfl) ?_
          refine f_X5_17 (q := h + 2) C hP (by assumption) (by assumption) rfl dX5_writtenFields_19 ?_
          refine lv_iload_n hx hb dX5_writtenFields_22 rfl (lv_at hl 2 rfl) ?_
          refine r_ald11 (q := h + 3 + j) C hP (by assumption) (by first | assumption | exact hLa _ (by omega)) (by omega) (by omega) dX5_writtenFields_23 ?_
          have hkj := hKa j (by omega)
          refine k_X5_47 C hP hS (by assumption) (c_X0_writtenFields (h + 3 + j) (by assumption)) ⟨Nat.le_of_ble_eq_true rfl, Nat.le_of_ble_eq_true rfl⟩ ⟨Nat.zero_le _, Nat.zero_le _⟩ hl.1 (Nat.le_of_ble_eq_true rfl) dX5_writtenFields_24 (fun v7 I8 H locs hv9 hP hS => ?_)
          obtain ⟨eI8, ev7⟩ := hv9
          rw [eI8] at hP
          clear eI8
          refine lv_goto (tgt := 31) hx hb dX5_writtenFields_27 (by decide) ?_
          refine lv_ior hx hb dX5_writtenFields_31 ?_
          refine lv_topi (fun x10 ex10 => ?_)
          refine lv_istore_n (lv' := [(1, .int x10), (0, .ref (ad h)), (2, .int (nI j))]) hx hb dX5_writtenFields_32 rfl hl (by decide) rfl (fun ls hl => ?_)
          refine lv_iinc (v := nI (j + 1)) (lv' := [(2, .int (nI (j + 1))), (1, .int x10), (0, .ref (ad h))]) hx hb dX5_writtenFields_33 hl (k := 2) rfl (nI_1 _) (by decide) rfl (fun ls hl => ?_)
          refine lv_goto (tgt := 4) hx hb dX5_writtenFields_36 (by decide) ?_
          exact ih (j + 1) x10 _ _ _ (by omega) (by omega) (by simp only [orF]; rw [ex10, ha]; first | (rw [if_pos (by assumption)]; subst_vars; rfl) | (rw [if_neg (by assumption)])) hP hS (lv_sub hl [2, 1, 0] rfl)
        · refine z_eq0 C dX5_writtenFields_15 (tgt := 30) (by decide) ?_
          refine lv_iconst (v := nI 0) hx hb dX5_writtenFields_30 (by decide) ?_
          refine lv_ior hx hb dX5_writtenFields_31 ?_
          refine lv_topi (fun x11 ex11 => ?_)
          refine lv_istore_n (lv' := [(1, .int x11), (0, .ref (ad h)), (2, .int (nI j))]) hx hb dX5_writtenFields_32 rfl hl (by decide) rfl (fun ls hl => ?_)
          refine lv_iinc (v := nI (j + 1)) (lv' := [(2, .int (nI (j + 1))), (1, .int x11), (0, .ref (ad h))]) hx hb dX5_writtenFields_33 hl (k := 2) rfl (nI_1 _) (by decide) rfl (fun ls hl => ?_)
          refine lv_goto (tgt := 4) hx hb dX5_writtenFields_36 (by decide) ?_
          exact ih (j + 1) x11 _ _ _ (by omega) (by omega) (by simp only [orF]; rw [ex11, ha]; first | (rw [if_pos (by assumption)]; subst_vars; rfl) | (rw [if_neg (by assumption)])) hP hS (lv_sub hl [2, 1, 0] rfl)
  exact hL4_1 (5 + 1) 0 ((nI 0)) _ _ _ (by omega) (by omega) (rfl) hP hS (lv_sub hl [2, 1, 0] rfl)
set_option maxHeartbeats 4000000 in
set_option maxRecDepth 100000 in
theorem c_X5_readFields {l : Launch} {E : En} {K : Nat → Nat} {L : Nat → Nat → Bool} {ad : Nat → Nat} {I : Nat → Nat → Int32} (h n : Nat) (hT : IsT K L h) (he : I h 1 = nI n) (hn : n ≤ 4) : MI l E K L ad I yX5_readFields cX5_readFields 3 (some .int) 2 [.ref (ad h)] (fun v J => J = I ∧ v = rdT (I h 0) n (fun e => I (h + 3 + e) 0) (fun e => I (h + 3 + e) 1) (fun e => I (h + 3 + e) 2)) := by
  obtain ⟨hk, hl2, hl3, hk1, hk2, hLa, hKa⟩ := hT
  refine MI.of (by decide) (Nat.le_of_ble_eq_true rfl) ?_
  intro p e s m args below meth c ls Qf C hret hP hl
  have C : Cx E p s m args c cX5_readFields RX5 3 := C
  have hx := C.1
  have hb := C.2.1
  have hS : va_S (AG E) s.heap s.heap [] := va_S.rf
  have hl : lv_has ls 3 [(0, .ref (ad h))] := hl
  refine lv_iconst (v := nI 1) hx hb dX5_readFields_0 (by decide) ?_
  refine lv_aload_n hx hb dX5_readFields_1 rfl (lv_at hl 0 rfl) ?_
  refine f_X5_22 C hP (by first | assumption | exact hKa _ (by omega)) dX5_readFields_2 ?_
  refine lv_ishl hx hb dX5_readFields_5 ?_
  refine lv_topi (fun x1 ex1 => ?_)
  refine lv_istore_n (lv' := [(1, .int x1), (0, .ref (ad h))]) hx hb dX5_readFields_6 rfl hl (by decide) rfl (fun ls hl => ?_)
  refine lv_iconst (v := nI 0) hx hb dX5_readFields_7 (by decide) ?_
  refine lv_istore_n (lv' := [(2, .int (nI 0)), (1, .int x1), (0, .ref (ad h))]) hx hb dX5_readFields_8 rfl hl (by decide) rfl (fun ls hl => ?_)
  have hL9_2 : ∀ (d : Nat) (j : Nat) (a : Int32) (H : Heap) (locs : List Loc) (ls : Array Slot), 5 < j + d → (j ≤ 5) → (a = orF (sB (I h 0)) (fun e => if thr n e then rdA (I (h + 3 + e) 0) (I (h + 3 + e) 1) (I (h + 3 + e) 2) else nI 0) j) → Hp E K L ad I H → va_S (AG E) s.heap H locs → lv_has ls 3 [(0, .ref (ad h)), (1, .int a), (2, .int (nI j))] → W p l e (rmk 2) s m args below meth c H locs 0 0 Qf (F0 m 9 ls []) := by
    intro d
    induction d with
    | zero => intro j a H locs ls hd hj ha _ _ _; exact absurd hd (by omega)
    | succ d ih =>
      intro j a H locs ls hd hj ha hP hS hl
      refine lv_iload_n hx hb dX5_readFields_9 rfl (lv_at hl 2 rfl) ?_
      refine lv_iconst (v := nI 4) hx hb dX5_readFields_10 (by decide) ?_
      refine b_gtN C (by omega) (by omega) dX5_readFields_11 (tgt := 44) (by decide) (fun h3 => ?_) (fun h3 => ?_)
      · refine lv_iload_n hx hb dX5_readFields_44 rfl (lv_at hl 1 rfl) ?_
        exact hret _ _ _ _ _ _ dX5_readFields_45 hP hS (⟨rfl, by rw [rdT]; rw [ha, show j = 5 by omega]⟩)
      · refine lv_iload_n hx hb dX5_readFields_14 rfl (lv_at hl 1 rfl) ?_
        refine lv_aload_n hx hb dX5_readFields_15 rfl (lv_at hl 0 rfl) ?_
        refine lv_iload_n hx hb dX5_readFields_16 rfl (lv_at hl 2 rfl) ?_
        refine k_X5_43 C hP hS (by assumption) (c_X5_isUsed h n j (by assumption) he hn (by omega)) ⟨Nat.le_of_ble_eq_true rfl, Nat.le_of_ble_eq_true rfl⟩ ⟨Nat.zero_le _, Nat.zero_le _⟩ hl.1 (Nat.le_of_ble_eq_true rfl) dX5_readFields_17 (fun v4 I5 H locs hv6 hP hS => ?_)
        obtain ⟨eI5, hv6⟩ := hv6
        rw [eI5] at hP
        clear eI5
        rcases hv6 with ⟨rfl, hc7⟩ | ⟨rfl, hc7⟩
        · refine z_eq1 C dX5_readFields_20 (tgt := 35) (by decide) ?_
          refine lv_aload_n hx hb dX5_readFields_23 rfl (lv_at hl 0 rfl) ?_
          refine f_X5_17 (q := h + 2) C hP (by assumption) (by assumption) rfl dX5_readFields_24 ?_
          refine lv_iload_n hx hb dX5_readFields_27 rfl (lv_at hl 2 rfl) ?_
          refine r_ald11 (q := h + 3 + j) C hP (by assumption) (by first | assumption | exact hLa _ (by omega)) (by omega) (by omega) dX5_readFields_28 ?_
          have hkj := hKa j (by omega)
          refine k_X5_51 C hP hS (by assumption) (c_X0_readFields (h + 3 + j) (by assumption)) ⟨Nat.le_of_ble_eq_true rfl, Nat.le_of_ble_eq_true rfl⟩ ⟨Nat.zero_le _, Nat.zero_le _⟩ hl.1 (Nat.le_of_ble_eq_true rfl) dX5_readFields_29 (fun v8 I9 H locs hv10 hP hS => ?_)
          obtain ⟨eI9, ev8⟩ := hv10
          rw [eI9] at hP
          clear eI9
          refine lv_goto (tgt := 36) hx hb dX5_readFields_32 (by decide) ?_
          refine lv_ior hx hb dX5_readFields_36 ?_
          refine lv_topi (fun x11 ex11 => ?_)
          refine lv_istore_n (lv' := [(1, .int x11), (0, .ref (ad h)), (2, .int (nI j))]) hx hb dX5_readFields_37 rfl hl (by decide) rfl (fun ls hl => ?_)
          refine lv_iinc (v := nI (j + 1)) (lv' := [(2, .int (nI (j + 1))), (1, .int x11), (0, .ref (ad h))]) hx hb dX5_readFields_38 hl (k := 2) rfl (nI_1 _) (by decide) rfl (fun ls hl => ?_)
          refine lv_goto (tgt := 9) hx hb dX5_readFields_41 (by decide) ?_
          exact ih (j + 1) x11 _ _ _ (by omega) (by omega) (by simp only [orF]; rw [ex11, ha]; first | (rw [if_pos (by assumption)]; subst_vars; rfl) | (rw [if_neg (by assumption)])) hP hS (lv_sub hl [2, 1, 0] rfl)
        · refine z_eq0 C dX5_readFields_20 (tgt := 35) (by decide) ?_
          refine lv_iconst (v := nI 0) hx hb dX5_readFields_35 (by decide) ?_
          refine lv_ior hx hb dX5_readFields_36 ?_
          refine lv_topi (fun x12 ex12 => ?_)
          refine lv_istore_n (lv' := [(1, .int x12), (0, .ref (ad h)), (2, .int (nI j))]) hx hb dX5_readFields_37 rfl hl (by decide) rfl (fun ls hl => ?_)
          refine lv_iinc (v := nI (j + 1)) (lv' := [(2, .int (nI (j + 1))), (1, .int x12), (0, .ref (ad h))]) hx hb dX5_readFields_38 hl (k := 2) rfl (nI_1 _) (by decide) rfl (fun ls hl => ?_)
          refine lv_goto (tgt := 9) hx hb dX5_readFields_41 (by decide) ?_
          exact ih (j + 1) x12 _ _ _ (by omega) (by omega) (by simp only [orF]; rw [ex12, ha]; first | (rw [if_pos (by assumption)]; subst_vars; rfl) | (rw [if_neg (by assumption)])) hP hS (lv_sub hl [2, 1, 0] rfl)
  exact hL9_2 (5 + 1) 0 x1 _ _ _ (by omega) (by omega) (by simp only [orF]; exact ex1) hP hS (lv_sub hl [2, 1, 0] rfl)
set_option maxHeartbeats 4000000 in
set_option maxRecDepth 100000 in
theorem c_X5_ownRegisters {l : Launch} {E : En} {K : Nat → Nat} {L : Nat → Nat → Bool} {ad : Nat → Nat} {I : Nat → Nat → Int32} (h n : Nat) (hT : IsT K L h) (he : I h 1 = nI n) (hn : n ≤ 4) : MI l E K L ad I yX5_ownRegisters cX5_ownRegisters 3 (some .int) 2 [.ref (ad h)] (fun v J => J = I ∧ v = rgT n (fun e => I (h + 3 + e) 0) (fun e => I (h + 3 + e) 2)) := by
  obtain ⟨hk, hl2, hl3, hk1, hk2, hLa, hKa⟩ := hT
  refine MI.of (by decide) (Nat.le_of_ble_eq_true rfl) ?_
  intro p e s m args below meth c ls Qf C hret hP hl
  have C : Cx E p s m args c cX5_ownRegisters RX5 3 := C
  have hx := C.1
  have hb := C.2.1
  have hS : va_S (AG E) s.heap s.heap [] := va_S.rf
  have hl : lv_has ls 3 [(0, .ref (ad h))] := hl
  refine lv_iconst (v := nI 0) hx hb dX5_ownRegisters_0 (by decide) ?_
  refine lv_istore_n (lv' := [(1, .int (nI 0)), (0, .ref (ad h))]) hx hb dX5_ownRegisters_1 rfl hl (by decide) rfl (fun ls hl => ?_)
  refine lv_iconst (v := nI 0) hx hb dX5_ownRegisters_2 (by decide) ?_
  refine lv_istore_n (lv' := [(2, .int (nI 0)), (1, .int (nI 0)), (0, .ref (ad h))]) hx hb dX5_ownRegisters_3 rfl hl (by decide) rfl (fun ls hl => ?_)
  have hL4_1 : ∀ (d : Nat) (j : Nat) (a : Int32) (H : Heap) (locs : List Loc) (ls : Array Slot), 5 < j + d → (j ≤ 5) → (a = orF (nI 0) (fun e => if thr n e then rgA (I (h + 3 + e) 0) (I (h + 3 + e) 2) else nI 0) j) → Hp E K L ad I H → va_S (AG E) s.heap H locs → lv_has ls 3 [(0, .ref (ad h)), (1, .int a), (2, .int (nI j))] → W p l e (rmk 2) s m args below meth c H locs 0 0 Qf (F0 m 4 ls []) := by
    intro d
    induction d with
    | zero => intro j a H locs ls hd hj ha _ _ _; exact absurd hd (by omega)
    | succ d ih =>
      intro j a H locs ls hd hj ha hP hS hl
      refine lv_iload_n hx hb dX5_ownRegisters_4 rfl (lv_at hl 2 rfl) ?_
      refine lv_iconst (v := nI 4) hx hb dX5_ownRegisters_5 (by decide) ?_
      refine b_gtN C (by omega) (by omega) dX5_ownRegisters_6 (tgt := 39) (by decide) (fun h2 => ?_) (fun h2 => ?_)
      · refine lv_iload_n hx hb dX5_ownRegisters_39 rfl (lv_at hl 1 rfl) ?_
        exact hret _ _ _ _ _ _ dX5_ownRegisters_40 hP hS (⟨rfl, by rw [rgT]; rw [ha, show j = 5 by omega]⟩)
      · refine lv_iload_n hx hb dX5_ownRegisters_9 rfl (lv_at hl 1 rfl) ?_
        refine lv_aload_n hx hb dX5_ownRegisters_10 rfl (lv_at hl 0 rfl) ?_
        refine lv_iload_n hx hb dX5_ownRegisters_11 rfl (lv_at hl 2 rfl) ?_
        refine k_X5_43 C hP hS (by assumption) (c_X5_isUsed h n j (by assumption) he hn (by omega)) ⟨Nat.le_of_ble_eq_true rfl, Nat.le_of_ble_eq_true rfl⟩ ⟨Nat.zero_le _, Nat.zero_le _⟩ hl.1 (Nat.le_of_ble_eq_true rfl) dX5_ownRegisters_12 (fun v3 I4 H locs hv5 hP hS => ?_)
        obtain ⟨eI4, hv5⟩ := hv5
        rw [eI4] at hP
        clear eI4
        rcases hv5 with ⟨rfl, hc6⟩ | ⟨rfl, hc6⟩
        · refine z_eq1 C dX5_ownRegisters_15 (tgt := 30) (by decide) ?_
          refine lv_aload_n hx hb dX5_ownRegisters_18 rfl (lv_at hl 0 rfl) ?_
          refine f_X5_17 (q := h + 2) C hP (by assumption) (by assumption) rfl dX5_ownRegisters_19 ?_
          refine lv_iload_n hx hb dX5_ownRegisters_22 rfl (lv_at hl 2 rfl) ?_
          refine r_ald11 (q := h + 3 + j) C hP (by assumption) (by first | assumption | exact hLa _ (by omega)) (by omega) (by omega) dX5_ownRegisters_23 ?_
          have hkj := hKa j (by omega)
          refine k_X5_54 C hP hS (by assumption) (c_X0_ownRegisters (h + 3 + j) (by assumption)) ⟨Nat.le_of_ble_eq_true rfl, Nat.le_of_ble_eq_true rfl⟩ ⟨Nat.zero_le _, Nat.zero_le _⟩ hl.1 (Nat.le_of_ble_eq_true rfl) dX5_ownRegisters_24 (fun v7 I8 H locs hv9 hP hS => ?_)
          obtain ⟨eI8, ev7⟩ := hv9
          rw [eI8] at hP
          clear eI8
          refine lv_goto (tgt := 31) hx hb dX5_ownRegisters_27 (by decide) ?_
          refine lv_ior hx hb dX5_ownRegisters_31 ?_
          refine lv_topi (fun x10 ex10 => ?_)
          refine lv_istore_n (lv' := [(1, .int x10), (0, .ref (ad h)), (2, .int (nI j))]) hx hb dX5_ownRegisters_32 rfl hl (by decide) rfl (fun ls hl => ?_)
          refine lv_iinc (v := nI (j + 1)) (lv' := [(2, .int (nI (j + 1))), (1, .int x10), (0, .ref (ad h))]) hx hb dX5_ownRegisters_33 hl (k := 2) rfl (nI_1 _) (by decide) rfl (fun ls hl => ?_)
          refine lv_goto (tgt := 4) hx hb dX5_ownRegisters_36 (by decide) ?_
          exact ih (j + 1) x10 _ _ _ (by omega) (by omega) (by simp only [orF]; rw [ex10, ha]; first | (rw [if_pos (by assumption)]; subst_vars; rfl) | (rw [if_neg (by assumption)])) hP hS (lv_sub hl [2, 1, 0] rfl)
        · refine z_eq0 C dX5_ownRegisters_15 (tgt := 30) (by decide) ?_
          refine lv_iconst (v := nI 0) hx hb dX5_ownRegisters_30 (by decide) ?_
          refine lv_ior hx hb dX5_ownRegisters_31 ?_
          refine lv_topi (fun x11 ex11 => ?_)
          refine lv_istore_n (lv' := [(1, .int x11), (0, .ref (ad h)), (2, .int (nI j))]) hx hb dX5_ownRegisters_32 rfl hl (by decide) rfl (fun ls hl => ?_)
          refine lv_iinc (v := nI (j + 1)) (lv' := [(2, .int (nI (j + 1))), (1, .int x11), (0, .ref (ad h))]) hx hb dX5_ownRegisters_33 hl (k := 2) rfl (nI_1 _) (by decide) rfl (fun ls hl => ?_)
          refine lv_goto (tgt := 4) hx hb dX5_ownRegisters_36 (by decide) ?_
          exact ih (j + 1) x11 _ _ _ (by omega) (by omega) (by simp only [orF]; rw [ex11, ha]; first | (rw [if_pos (by assumption)]; subst_vars; rfl) | (rw [if_neg (by assumption)])) hP hS (lv_sub hl [2, 1, 0] rfl)
  exact hL4_1 (5 + 1) 0 ((nI 0)) _ _ _ (by omega) (by omega) (rfl) hP hS (lv_sub hl [2, 1, 0] rfl)
set_option maxHeartbeats 4000000 in
set_option maxRecDepth 100000 in
theorem c_X5_copy {l : Launch} {E : En} {K : Nat → Nat} {L : Nat → Nat → Bool} {ad : Nat → Nat} {I : Nat → Nat → Int32} (h q : Nat) (hT : IsT K L h) (hU : IsT K L q) (hqd : h + 8 ≤ q ∨ q + 8 ≤ h) : MV l E K L ad I yX5_copy cX5_copy 3 1 [.ref (ad h), .ref (ad q)] (fun J => CT I J h q 5) := by
  obtain ⟨hk, hl2, hl3, hk1, hk2, hLa, hKa⟩ := hT
  obtain ⟨gk, gl2, gl3, gk1, gk2, gLa, gKa⟩ := hU
  refine MV.of (by decide) (Nat.le_of_ble_eq_true rfl) ?_
  intro p e s m args below meth c ls Qf C hret hP hl
  have C : Cx E p s m args c cX5_copy RX5 3 := C
  have hx := C.1
  have hb := C.2.1
  have hS : va_S (AG E) s.heap s.heap [] := va_S.rf
  have hl : lv_has ls 3 [(0, .ref (ad h)), (1, .ref (ad q))] := hl
  refine lv_aload_n hx hb dX5_copy_0 rfl (lv_at hl 0 rfl) ?_
  refine lv_aload_n hx hb dX5_copy_1 rfl (lv_at hl 1 rfl) ?_
  refine f_X5_22 C hP (by first | assumption | exact hKa _ (by omega)) dX5_copy_2 ?_
  refine p_X5_22 C hP hS (by assumption) dX5_copy_5 (fun H locs hP hS => ?_)
  obtain ⟨I1, eI1⟩ : ∃ Z : Nat → Nat → Int32, Z = up2 I h 0 (I q 0) := ⟨_, rfl⟩
  rw [← eI1] at hP
  refine lv_aload_n hx hb dX5_copy_8 rfl (lv_at hl 0 rfl) ?_
  refine lv_aload_n hx hb dX5_copy_9 rfl (lv_at hl 1 rfl) ?_
  refine f_X5_26 C hP (by first | assumption | exact hKa _ (by omega)) dX5_copy_10 ?_
  refine p_X5_26 C hP hS (by assumption) dX5_copy_13 (fun H locs hP hS => ?_)
  obtain ⟨I2, eI2⟩ : ∃ Z : Nat → Nat → Int32, Z = up2 I1 h 1 (I1 q 1) := ⟨_, rfl⟩
  rw [← eI2] at hP
  refine lv_aload_n hx hb dX5_copy_16 rfl (lv_at hl 1 rfl) ?_
  refine f_X5_9 (q := q + 1) C hP (by assumption) (by assumption) rfl dX5_copy_17 ?_
  refine lv_iconst (v := nI 0) hx hb dX5_copy_20 (by decide) ?_
  refine lv_aload_n hx hb dX5_copy_21 rfl (lv_at hl 0 rfl) ?_
  refine f_X5_9 (q := h + 1) C hP (by assumption) (by assumption) rfl dX5_copy_22 ?_
  refine lv_iconst (v := nI 0) hx hb dX5_copy_25 (by decide) ?_
  refine lv_iconst (v := nI 4) hx hb dX5_copy_26 (by decide) ?_
  refine r_acp (n0 := 4) (n1 := 4) C hP hS (by assumption) (by assumption) (by decide) (by decide) (by decide) tm_X5_33 (Nat.le_of_ble_eq_true rfl) (Nat.le_of_ble_eq_true rfl) hl.1 dX5_copy_27 (fun H locs hP hS => ?_)
  obtain ⟨I3, eI3⟩ : ∃ Z : Nat → Nat → Int32, Z = cpy2 I2 (h + 1) (q + 1) 4 := ⟨_, rfl⟩
  rw [← eI3] at hP
  refine lv_iconst (v := nI 0) hx hb dX5_copy_30 (by decide) ?_
  refine lv_istore_n (lv' := [(2, .int (nI 0)), (0, .ref (ad h)), (1, .ref (ad q))]) hx hb dX5_copy_31 rfl hl (by decide) rfl (fun ls hl => ?_)
  have hL32_4 : ∀ (d : Nat) (j : Nat) (J : Nat → Nat → Int32) (H : Heap) (locs : List Loc) (ls : Array Slot), 5 < j + d → (j ≤ 5) → (CT I J h q j) → Hp E K L ad J H → va_S (AG E) s.heap H locs → lv_has ls 3 [(0, .ref (ad h)), (1, .ref (ad q)), (2, .int (nI j))] → W p l e (rmk 1) s m args below meth c H locs 0 0 Qf (F0 m 32 ls []) := by
    intro d
    induction d with
    | zero => intro j J H locs ls hd hj hc _ _ _; exact absurd hd (by omega)
    | succ d ih =>
      intro j J H locs ls hd hj hc hP hS hl
      refine lv_iload_n hx hb dX5_copy_32 rfl (lv_at hl 2 rfl) ?_
      refine lv_iconst (v := nI 4) hx hb dX5_copy_33 (by decide) ?_
      refine b_gtN C (by omega) (by omega) dX5_copy_34 (tgt := 58) (by decide) (fun h5 => ?_) (fun h5 => ?_)
      · exact hret _ _ _ _ _ dX5_copy_58 hP hS (by rw [show (5 : Nat) = j by omega]; exact hc)
      · refine lv_aload_n hx hb dX5_copy_37 rfl (lv_at hl 0 rfl) ?_
        refine f_X5_17 (q := h + 2) C hP (by assumption) (by assumption) rfl dX5_copy_38 ?_
        refine lv_iload_n hx hb dX5_copy_41 rfl (lv_at hl 2 rfl) ?_
        refine r_ald11 (q := h + 3 + j) C hP (by assumption) (by first | exact hLa _ (by omega) | exact gLa _ (by omega)) (by omega) (by omega) dX5_copy_42 ?_
        refine lv_aload_n hx hb dX5_copy_43 rfl (lv_at hl 1 rfl) ?_
        refine f_X5_17 (q := q + 2) C hP (by assumption) (by assumption) rfl dX5_copy_44 ?_
        refine lv_iload_n hx hb dX5_copy_47 rfl (lv_at hl 2 rfl) ?_
        refine r_ald11 (q := q + 3 + j) C hP (by assumption) (by first | exact hLa _ (by omega) | exact gLa _ (by omega)) (by omega) (by omega) dX5_copy_48 ?_
        have hkj := hKa j (by omega)
        have gkj := gKa j (by omega)
        refine k_X5_39 C hP hS (by assumption) (c_X0_copy (h + 3 + j) (q + 3 + j) (by assumption) (by assumption) (by omega)) ⟨Nat.le_of_ble_eq_true rfl, Nat.le_of_ble_eq_true rfl⟩ ⟨Nat.zero_le _, Nat.zero_le _⟩ hl.1 (Nat.le_of_ble_eq_true rfl) dX5_copy_49 (fun I7 H locs hv8 hP hS => ?_)
        have eI7 := hv8
        refine lv_iinc (v := nI (j + 1)) (lv' := [(2, .int (nI (j + 1))), (0, .ref (ad h)), (1, .ref (ad q))]) hx hb dX5_copy_52 hl (k := 2) rfl (nI_1 _) (by decide) rfl (fun ls hl => ?_)
        refine lv_goto (tgt := 32) hx hb dX5_copy_55 (by decide) ?_
        exact ih (j + 1) I7 _ _ _ (by omega) (by omega) (by rw [eI7]; exact CT_s hc (by omega) hqd) hP hS (lv_sub hl [1, 2, 0] rfl)
  exact hL32_4 (5 + 1) 0 I3 _ _ _ (by omega) (by omega) (by subst_vars; refine ⟨fun a h0 h1 h2 => ?_, ?_, ?_, fun i hi => ?_, fun i hi => absurd hi (Nat.not_lt_zero i)⟩ <;> first | (rw [cpy2_r h1, up2_r h0, up2_r h0]) | (rw [cpy2_r (by omega), up2_k (by decide), up2_s]) | (rw [cpy2_r (by omega), up2_s, up2_r (by omega)]) | (rw [cpy2_s hi, up2_r (by omega), up2_r (by omega)])) hP hS (lv_sub hl [1, 2, 0] rfl)
set_option maxHeartbeats 4000000 in
set_option maxRecDepth 100000 in
theorem c_X5_addEntry {l : Launch} {E : En} {K : Nat → Nat} {L : Nat → Nat → Bool} {ad : Nat → Nat} {I : Nat → Nat → Int32} (h n : Nat) (v k t x : Int32) (hT : IsT K L h) (he : I h 1 = nI n) (hn : n < 4) : MI l E K L ad I yX5_addEntry cX5_addEntry 5 (some .int) 2 [.ref (ad h), .int v, .int k, .int t, .int x] (fun r J => J = up2 (set3 (up2 I (h + 1) n v) (h + 3 + n) k (mq k t) (mq k x)) h 1 (nI (n + 1)) ∧ r = nI (n + 1)) := by
  obtain ⟨hk, hl2, hl3, hk1, hk2, hLa, hKa⟩ := hT
  have hkn := hKa n (by omega)
  refine MI.of (by decide) (Nat.le_of_ble_eq_true rfl) ?_
  intro p e s m args below meth c ls Qf C hret hP hl
  have C : Cx E p s m args c cX5_addEntry RX5 5 := C
  have hx := C.1
  have hb := C.2.1
  have hS : va_S (AG E) s.heap s.heap [] := va_S.rf
  have hl : lv_has ls 5 [(0, .ref (ad h)), (1, .int v), (2, .int k), (3, .int t), (4, .int x)] := hl
  refine lv_aload_n hx hb dX5_addEntry_0 rfl (lv_at hl 0 rfl) ?_
  refine f_X5_9 (q := h + 1) C hP (by assumption) (by assumption) rfl dX5_addEntry_1 ?_
  refine lv_aload_n hx hb dX5_addEntry_4 rfl (lv_at hl 0 rfl) ?_
  refine f_X5_26 C hP (by first | assumption | exact hKa _ (by omega)) dX5_addEntry_5 ?_
  refine r_eqi (y := (nI n)) (he) ?_
  refine lv_iload_n hx hb dX5_addEntry_8 rfl (lv_at hl 1 rfl) ?_
  refine r_iast (n := 4) C hP hS (by assumption) (by omega) (by decide) dX5_addEntry_9 (fun H locs hP hS => ?_)
  obtain ⟨I1, eI1⟩ : ∃ Z : Nat → Nat → Int32, Z = up2 I (h + 1) n v := ⟨_, rfl⟩
  rw [← eI1] at hP
  refine lv_aload_n hx hb dX5_addEntry_10 rfl (lv_at hl 0 rfl) ?_
  refine f_X5_17 (q := h + 2) C hP (by assumption) (by assumption) rfl dX5_addEntry_11 ?_
  refine lv_aload_n hx hb dX5_addEntry_14 rfl (lv_at hl 0 rfl) ?_
  refine f_X5_26 C hP (by first | assumption | exact hKa _ (by omega)) dX5_addEntry_15 ?_
  refine r_eqi (y := (nI n)) (by rw [eI1, up2_r (by omega)]; exact he) ?_
  refine r_ald11 (q := h + 3 + n) C hP (by assumption) (by first | assumption | exact hLa _ (by omega)) (by omega) (by omega) dX5_addEntry_18 ?_
  refine lv_iload_n hx hb dX5_addEntry_19 rfl (lv_at hl 2 rfl) ?_
  refine lv_iload_n hx hb dX5_addEntry_20 rfl (lv_at hl 3 rfl) ?_
  refine lv_iload hx hb dX5_addEntry_21 (lv_at hl 4 rfl) ?_
  refine k_X5_29 C hP hS (by assumption) (c_X0_become (h + 3 + n) k t x (by assumption)) ⟨Nat.le_of_ble_eq_true rfl, Nat.le_of_ble_eq_true rfl⟩ ⟨Nat.zero_le _, Nat.zero_le _⟩ hl.1 (Nat.le_of_ble_eq_true rfl) dX5_addEntry_23 (fun I3 H locs hv4 hP hS => ?_)
  have eI3 := hv4
  refine lv_aload_n hx hb dX5_addEntry_26 rfl (lv_at hl 0 rfl) ?_
  refine lv_dup hx hb dX5_addEntry_27 rfl ?_
  refine f_X5_26 C hP (by first | assumption | exact hKa _ (by omega)) dX5_addEntry_28 ?_
  refine r_eqi (y := (nI n)) (by rw [eI3, set3_r (by omega)]; subst_vars; rw [up2_r (by omega)]; exact he) ?_
  refine lv_iconst (v := nI 1) hx hb dX5_addEntry_31 (by decide) ?_
  refine r_addN C dX5_addEntry_32 ?_
  refine p_X5_26 C hP hS (by assumption) dX5_addEntry_33 (fun H locs hP hS => ?_)
  obtain ⟨I5, eI5⟩ : ∃ Z : Nat → Nat → Int32, Z = up2 I3 h 1 (nI (n + 1)) := ⟨_, rfl⟩
  rw [← eI5] at hP
  refine lv_aload_n hx hb dX5_addEntry_36 rfl (lv_at hl 0 rfl) ?_
  refine f_X5_26 C hP (by first | assumption | exact hKa _ (by omega)) dX5_addEntry_37 ?_
  refine r_eqi (y := (nI (n + 1))) (by rw [eI5, up2_s]) ?_
  exact hret _ _ _ _ _ _ dX5_addEntry_40 hP hS (⟨by subst_vars; rfl, rfl⟩)
set_option maxHeartbeats 4000000 in
set_option maxRecDepth 100000 in
theorem c_X5_removeEntry {l : Launch} {E : En} {K : Nat → Nat} {L : Nat → Nat → Bool} {ad : Nat → Nat} {I : Nat → Nat → Int32} (h n e0 : Nat) (hT : IsT K L h) (he : I h 1 = nI n) (hn : n ≤ 4) (he0 : e0 < n) : MI l E K L ad I yX5_removeEntry cX5_removeEntry 3 (some .int) 1 [.ref (ad h), .int (nI e0)] (fun r J => (∃ J0, J = up2 J0 h 1 (nI (n - 1)) ∧ RE I J0 h e0 (n - 1)) ∧ r = nI (n - 1)) := by
  obtain ⟨hk, hl2, hl3, hk1, hk2, hLa, hKa⟩ := hT
  refine MI.of (by decide) (Nat.le_of_ble_eq_true rfl) ?_
  intro p e s m args below meth c ls Qf C hret hP hl
  have C : Cx E p s m args c cX5_removeEntry RX5 3 := C
  have hx := C.1
  have hb := C.2.1
  have hS : va_S (AG E) s.heap s.heap [] := va_S.rf
  have hl : lv_has ls 3 [(0, .ref (ad h)), (1, .int (nI e0))] := hl
  refine lv_iload_n hx hb dX5_removeEntry_0 rfl (lv_at hl 1 rfl) ?_
  refine lv_istore_n (lv' := [(2, .int (nI e0)), (0, .ref (ad h)), (1, .int (nI e0))]) hx hb dX5_removeEntry_1 rfl hl (by decide) rfl (fun ls hl => ?_)
  have hL2_1 : ∀ (d : Nat) (j : Nat) (J : Nat → Nat → Int32) (H : Heap) (locs : List Loc) (ls : Array Slot), n < j + d → (e0 ≤ j) → (j < n) → (RE I J h e0 j) → Hp E K L ad J H → va_S (AG E) s.heap H locs → lv_has ls 3 [(0, .ref (ad h)), (2, .int (nI j))] → W p l e (rmk 1) s m args below meth c H locs 0 0 Qf (F0 m 2 ls []) := by
    intro d
    induction d with
    | zero => intro j J H locs ls hd h0 hj hc _ _ _; exact absurd hd (by omega)
    | succ d ih =>
      intro j J H locs ls hd h0 hj hc hP hS hl
      have hJ1 : J h 1 = nI n := by rw [hc.1 h (by omega) (fun e _ => by omega)]; exact he
      refine lv_iload_n hx hb dX5_removeEntry_2 rfl (lv_at hl 1 rfl) ?_
      refine lv_iconst (v := nI 1) hx hb dX5_removeEntry_3 (by decide) ?_
      refine r_addN C dX5_removeEntry_4 ?_
      refine lv_aload_n hx hb dX5_removeEntry_5 rfl (lv_at hl 0 rfl) ?_
      refine f_X5_26 C hP (by first | assumption | exact hKa _ (by omega)) dX5_removeEntry_6 ?_
      refine r_eqi (y := (nI n)) (hJ1) ?_
      refine b_geN C (by omega) (by omega) dX5_removeEntry_9 (tgt := 49) (by decide) (fun h2 => ?_) (fun h2 => ?_)
      · refine lv_aload_n hx hb dX5_removeEntry_49 rfl (lv_at hl 0 rfl) ?_
        refine lv_dup hx hb dX5_removeEntry_50 rfl ?_
        refine f_X5_26 C hP (by first | assumption | exact hKa _ (by omega)) dX5_removeEntry_51 ?_
        refine r_eqi (y := (nI n)) (hJ1) ?_
        refine lv_iconst (v := nI 1) hx hb dX5_removeEntry_54 (by decide) ?_
        refine r_subN C (by omega) dX5_removeEntry_55 ?_
        refine p_X5_26 C hP hS (by assumption) dX5_removeEntry_56 (fun H locs hP hS => ?_)
        obtain ⟨I3, eI3⟩ : ∃ Z : Nat → Nat → Int32, Z = up2 J h 1 (nI (n - 1)) := ⟨_, rfl⟩
        rw [← eI3] at hP
        refine lv_aload_n hx hb dX5_removeEntry_59 rfl (lv_at hl 0 rfl) ?_
        refine f_X5_26 C hP (by first | assumption | exact hKa _ (by omega)) dX5_removeEntry_60 ?_
        refine r_eqi (y := (nI (n - 1))) (by rw [eI3, up2_s]) ?_
        exact hret _ _ _ _ _ _ dX5_removeEntry_63 hP hS (⟨⟨J, by assumption, by rw [show n - 1 = j by omega]; exact hc⟩, rfl⟩)
      · refine lv_aload_n hx hb dX5_removeEntry_12 rfl (lv_at hl 0 rfl) ?_
        refine f_X5_9 (q := h + 1) C hP (by assumption) (by assumption) rfl dX5_removeEntry_13 ?_
        refine lv_iload_n hx hb dX5_removeEntry_16 rfl (lv_at hl 1 rfl) ?_
        refine lv_aload_n hx hb dX5_removeEntry_17 rfl (lv_at hl 0 rfl) ?_
        refine f_X5_9 (q := h + 1) C hP (by assumption) (by assumption) rfl dX5_removeEntry_18 ?_
        refine lv_iload_n hx hb dX5_removeEntry_21 rfl (lv_at hl 1 rfl) ?_
        refine lv_iconst (v := nI 1) hx hb dX5_removeEntry_22 (by decide) ?_
        refine r_addN C dX5_removeEntry_23 ?_
        refine r_iald (n := 4) C hP (by assumption) (by omega) (by decide) dX5_removeEntry_24 ?_
        refine r_iast (n := 4) C hP hS (by assumption) (by omega) (by decide) dX5_removeEntry_25 (fun H locs hP hS => ?_)
        obtain ⟨I4, eI4⟩ : ∃ Z : Nat → Nat → Int32, Z = up2 J (h + 1) j (J (h + 1) (j + 1)) := ⟨_, rfl⟩
        rw [← eI4] at hP
        refine lv_aload_n hx hb dX5_removeEntry_26 rfl (lv_at hl 0 rfl) ?_
        refine f_X5_17 (q := h + 2) C hP (by assumption) (by assumption) rfl dX5_removeEntry_27 ?_
        refine lv_iload_n hx hb dX5_removeEntry_30 rfl (lv_at hl 1 rfl) ?_
        refine r_ald11 (q := h + 3 + j) C hP (by assumption) (by first | assumption | exact hLa _ (by omega)) (by omega) (by omega) dX5_removeEntry_31 ?_
        refine lv_aload_n hx hb dX5_removeEntry_32 rfl (lv_at hl 0 rfl) ?_
        refine f_X5_17 (q := h + 2) C hP (by assumption) (by assumption) rfl dX5_removeEntry_33 ?_
        refine lv_iload_n hx hb dX5_removeEntry_36 rfl (lv_at hl 1 rfl) ?_
        refine lv_iconst (v := nI 1) hx hb dX5_removeEntry_37 (by decide) ?_
        refine r_addN C dX5_removeEntry_38 ?_
        refine r_ald11 (q := h + 3 + (j + 1)) C hP (by assumption) (by first | assumption | exact hLa _ (by omega)) (by omega) (by omega) dX5_removeEntry_39 ?_
        have hkj := hKa j (by omega)
        have gkj := hKa (j + 1) (by omega)
        refine k_X5_39 C hP hS (by assumption) (c_X0_copy (h + 3 + j) (h + 3 + (j + 1)) (by assumption) (by assumption) (by omega)) ⟨Nat.le_of_ble_eq_true rfl, Nat.le_of_ble_eq_true rfl⟩ ⟨Nat.zero_le _, Nat.zero_le _⟩ hl.1 (Nat.le_of_ble_eq_true rfl) dX5_removeEntry_40 (fun I6 H locs hv7 hP hS => ?_)
        have eI6 := hv7
        refine lv_iinc (v := nI (j + 1)) (lv' := [(2, .int (nI (j + 1))), (0, .ref (ad h))]) hx hb dX5_removeEntry_43 hl (k := 1) rfl (nI_1 _) (by decide) rfl (fun ls hl => ?_)
        refine lv_goto (tgt := 2) hx hb dX5_removeEntry_46 (by decide) ?_
        exact ih (j + 1) I6 _ _ _ (by omega) (by omega) (by omega) (by have := RE_s hc h0 (by omega); rw [eI6]; subst_vars; rw [up2_r (by omega)]; exact this) hP hS (lv_sub hl [1, 0] rfl)
  exact hL2_1 (n + 1) e0 I _ _ _ (by omega) (Nat.le_refl _) (by omega) (RE_0 _ _ _) hP hS (lv_sub hl [1, 0] rfl)
set_option maxHeartbeats 4000000 in
set_option maxRecDepth 100000 in
theorem c_X5_partOfAct {l : Launch} {E : En} {K : Nat → Nat} {L : Nat → Nat → Bool} {ad : Nat → Nat} {I : Nat → Nat → Int32} (h n : Nat) (x : Int32) (hT : IsT K L h) (he : I h 1 = nI n) (hn : n ≤ 4) : MI l E K L ad I yX5_partOfAct cX5_partOfAct 5 (some .int) 0 [.ref (ad h), .int x] (fun r J => J = I ∧ r = prt n (I (h + 1)) (fun e => I (h + 3 + e)) x) := by
  obtain ⟨hk, hl2, hl3, hk1, hk2, hLa, hKa⟩ := hT
  refine MI.of (by decide) (Nat.le_of_ble_eq_true rfl) ?_
  intro p e s m args below meth c ls Qf C hret hP hl
  have C : Cx E p s m args c cX5_partOfAct RX5 5 := C
  have hx := C.1
  have hb := C.2.1
  have hS : va_S (AG E) s.heap s.heap [] := va_S.rf
  have hl : lv_has ls 5 [(0, .ref (ad h)), (1, .int x)] := hl
  rcases w_split x n hn with ⟨i, hi, ex⟩ | ⟨i, hi, ex⟩ | ⟨hA, hB⟩
  · rw [ex] at hl
    rw [ex, show @prt n _ _ (nI (i + 10)) = _ from prt_A hn hi] at hret
    refine lv_iload_n hx hb dX5_partOfAct_0 rfl (lv_at hl 1 rfl) ?_
    refine lv_bipush (v := nI 10) hx hb dX5_partOfAct_1 (by decide) ?_
    refine b_ltN C (by omega) (by omega) dX5_partOfAct_3 (tgt := 23) (by decide) (fun h1 => ?_) (fun h1 => ?_)
    · exact absurd h1 (by omega)
    · refine lv_iload_n hx hb dX5_partOfAct_6 rfl (lv_at hl 1 rfl) ?_
      refine lv_bipush (v := nI 10) hx hb dX5_partOfAct_7 (by decide) ?_
      refine lv_iconst (v := nI 4) hx hb dX5_partOfAct_9 (by decide) ?_
      refine lv_aload_n hx hb dX5_partOfAct_10 rfl (lv_at hl 0 rfl) ?_
      refine f_X5_26 C hP (by first | assumption | exact hKa _ (by omega)) dX5_partOfAct_11 ?_
      refine r_eqi (y := (nI n)) (he) ?_
      refine r_mulN C dX5_partOfAct_14 ?_
      refine r_addN C dX5_partOfAct_15 ?_
      refine b_geN C (by omega) (by omega) dX5_partOfAct_16 (tgt := 23) (by decide) (fun h2 => ?_) (fun h2 => ?_)
      · exact absurd h2 (by omega)
      · refine lv_iconst (v := nI 1) hx hb dX5_partOfAct_19 (by decide) ?_
        refine lv_goto (tgt := 24) hx hb dX5_partOfAct_20 (by decide) ?_
        refine lv_istore_n (lv' := [(2, .int (nI 1)), (0, .ref (ad h)), (1, .int (nI (i + 10)))]) hx hb dX5_partOfAct_24 rfl hl (by decide) rfl (fun ls hl => ?_)
        refine lv_iload_n hx hb dX5_partOfAct_25 rfl (lv_at hl 2 rfl) ?_
        refine lv_bipush (v := nI 31) hx hb dX5_partOfAct_26 (by decide) ?_
        refine b_ltN C (by omega) (by omega) dX5_partOfAct_28 (tgt := 41) (by decide) (fun h3 => ?_) (fun h3 => ?_)
        · refine lv_iconst (v := nI 0) hx hb dX5_partOfAct_41 (by decide) ?_
          refine lv_istore_n (lv' := [(3, .int (nI 0)), (2, .int (nI 1)), (0, .ref (ad h)), (1, .int (nI (i + 10)))]) hx hb dX5_partOfAct_42 rfl hl (by decide) rfl (fun ls hl => ?_)
          refine lv_iload_n hx hb dX5_partOfAct_43 rfl (lv_at hl 1 rfl) ?_
          refine r_eqi (y := 1) rfl ?_
          refine z_ne1 C dX5_partOfAct_44 (tgt := 54) (by decide) ?_
          refine lv_iload_n hx hb dX5_partOfAct_54 rfl (lv_at hl 1 rfl) ?_
          refine r_eqi (y := 1) rfl ?_
          refine z_eq1 C dX5_partOfAct_55 (tgt := 67) (by decide) ?_
          refine lv_iload_n hx hb dX5_partOfAct_58 rfl (lv_at hl 3 rfl) ?_
          refine lv_bipush (v := nI 10) hx hb dX5_partOfAct_59 (by decide) ?_
          refine r_subN C (by omega) dX5_partOfAct_61 ?_
          refine lv_iconst (v := nI 4) hx hb dX5_partOfAct_62 (by decide) ?_
          refine r_divN C (by omega) (by decide) (by decide) dX5_partOfAct_63 ?_
          refine lv_goto (tgt := 68) hx hb dX5_partOfAct_64 (by decide) ?_
          refine lv_istore (lv' := [(4, .int (nI (((i + 10) - 10) / 4))), (3, .int (nI 0)), (2, .int (nI 1)), (0, .ref (ad h)), (1, .int (nI (i + 10)))]) hx hb dX5_partOfAct_68 hl (by decide) rfl (fun ls hl => ?_)
          refine lv_iload_n hx hb dX5_partOfAct_70 rfl (lv_at hl 4 rfl) ?_
          refine lv_bipush (v := nI 10) hx hb dX5_partOfAct_71 (by decide) ?_
          refine r_subN C (by omega) dX5_partOfAct_73 ?_
          refine lv_iconst (v := nI 4) hx hb dX5_partOfAct_74 (by decide) ?_
          refine r_remN C (by omega) (by decide) (by decide) dX5_partOfAct_75 ?_
          by_cases sw4 : ((i + 10) - 10) % 4 = 0
          · refine sw_in (k := 0) C dX5_partOfAct_76 (by rw [nI_toInt (by omega)]; omega) (by decide) (by decide) (off := 28) (by decide) (tgt := 104) (by decide) ?_
            refine lv_aload_n hx hb dX5_partOfAct_104 rfl (lv_at hl 3 rfl) ?_
            refine f_X5_9 (q := h + 1) C hP (by assumption) (by assumption) rfl dX5_partOfAct_105 ?_
            refine lv_iload hx hb dX5_partOfAct_108 (lv_at hl 0 rfl) ?_
            refine r_iald (n := 4) C hP (by assumption) (by omega) (by decide) dX5_partOfAct_110 ?_
            exact hret _ _ _ _ _ _ dX5_partOfAct_111 hP hS (⟨rfl, by simp only [Nat.add_sub_cancel] at *; simp [pick, *]⟩)
          · by_cases sw5 : ((i + 10) - 10) % 4 = 1
            · refine sw_in (k := 1) C dX5_partOfAct_76 (by rw [nI_toInt (by omega)]; omega) (by decide) (by decide) (off := 36) (by decide) (tgt := 112) (by decide) ?_
              refine lv_aload_n hx hb dX5_partOfAct_112 rfl (lv_at hl 3 rfl) ?_
              refine f_X5_17 (q := h + 2) C hP (by assumption) (by assumption) rfl dX5_partOfAct_113 ?_
              refine lv_iload hx hb dX5_partOfAct_116 (lv_at hl 0 rfl) ?_
              refine r_ald11 (q := h + 3 + (((i + 10) - 10) / 4)) C hP (by assumption) (by first | assumption | exact hLa _ (by omega)) (by omega) (by omega) dX5_partOfAct_118 ?_
              refine f_X5_57 C hP (by first | assumption | exact hKa _ (by omega)) dX5_partOfAct_119 ?_
              exact hret _ _ _ _ _ _ dX5_partOfAct_122 hP hS (⟨rfl, by simp only [Nat.add_sub_cancel] at *; simp [pick, *]⟩)
            · by_cases sw6 : ((i + 10) - 10) % 4 = 2
              · refine sw_in (k := 2) C dX5_partOfAct_76 (by rw [nI_toInt (by omega)]; omega) (by decide) (by decide) (off := 47) (by decide) (tgt := 123) (by decide) ?_
                refine lv_aload_n hx hb dX5_partOfAct_123 rfl (lv_at hl 3 rfl) ?_
                refine f_X5_17 (q := h + 2) C hP (by assumption) (by assumption) rfl dX5_partOfAct_124 ?_
                refine lv_iload hx hb dX5_partOfAct_127 (lv_at hl 0 rfl) ?_
                refine r_ald11 (q := h + 3 + (((i + 10) - 10) / 4)) C hP (by assumption) (by first | assumption | exact hLa _ (by omega)) (by omega) (by omega) dX5_partOfAct_129 ?_
                refine f_X5_60 C hP (by first | assumption | exact hKa _ (by omega)) dX5_partOfAct_130 ?_
                exact hret _ _ _ _ _ _ dX5_partOfAct_133 hP hS (⟨rfl, by simp only [Nat.add_sub_cancel] at *; simp [pick, *]⟩)
              · refine lv_tableOut hx hb dX5_partOfAct_76 (by rw [nI_toInt (by omega)]; omega) (tgt := 134) (by decide) ?_
                refine lv_aload_n hx hb dX5_partOfAct_134 rfl (lv_at hl 3 rfl) ?_
                refine f_X5_17 (q := h + 2) C hP (by assumption) (by assumption) rfl dX5_partOfAct_135 ?_
                refine lv_iload hx hb dX5_partOfAct_138 (lv_at hl 0 rfl) ?_
                refine r_ald11 (q := h + 3 + (((i + 10) - 10) / 4)) C hP (by assumption) (by first | assumption | exact hLa _ (by omega)) (by omega) (by omega) dX5_partOfAct_140 ?_
                refine f_X5_63 C hP (by first | assumption | exact hKa _ (by omega)) dX5_partOfAct_141 ?_
                exact hret _ _ _ _ _ _ dX5_partOfAct_144 hP hS (⟨rfl, by simp only [Nat.add_sub_cancel] at *; simp [pick, *]⟩)
        · exact absurd h3 (by omega)
  · rw [ex] at hl
    rw [ex, show @prt n _ _ (nI (i + 31)) = _ from prt_B hn hi] at hret
    refine lv_iload_n hx hb dX5_partOfAct_0 rfl (lv_at hl 1 rfl) ?_
    refine lv_bipush (v := nI 10) hx hb dX5_partOfAct_1 (by decide) ?_
    refine b_ltN C (by omega) (by omega) dX5_partOfAct_3 (tgt := 23) (by decide) (fun h7 => ?_) (fun h7 => ?_)
    · exact absurd h7 (by omega)
    · refine lv_iload_n hx hb dX5_partOfAct_6 rfl (lv_at hl 1 rfl) ?_
      refine lv_bipush (v := nI 10) hx hb dX5_partOfAct_7 (by decide) ?_
      refine lv_iconst (v := nI 4) hx hb dX5_partOfAct_9 (by decide) ?_
      refine lv_aload_n hx hb dX5_partOfAct_10 rfl (lv_at hl 0 rfl) ?_
      refine f_X5_26 C hP (by first | assumption | exact hKa _ (by omega)) dX5_partOfAct_11 ?_
      refine r_eqi (y := (nI n)) (he) ?_
      refine r_mulN C dX5_partOfAct_14 ?_
      refine r_addN C dX5_partOfAct_15 ?_
      refine b_geN C (by omega) (by omega) dX5_partOfAct_16 (tgt := 23) (by decide) (fun h8 => ?_) (fun h8 => ?_)
      · refine lv_iconst (v := nI 0) hx hb dX5_partOfAct_23 (by decide) ?_
        refine lv_istore_n (lv' := [(2, .int (nI 0)), (0, .ref (ad h)), (1, .int (nI (i + 31)))]) hx hb dX5_partOfAct_24 rfl hl (by decide) rfl (fun ls hl => ?_)
        refine lv_iload_n hx hb dX5_partOfAct_25 rfl (lv_at hl 2 rfl) ?_
        refine lv_bipush (v := nI 31) hx hb dX5_partOfAct_26 (by decide) ?_
        refine b_ltN C (by omega) (by omega) dX5_partOfAct_28 (tgt := 41) (by decide) (fun h9 => ?_) (fun h9 => ?_)
        · exact absurd h9 (by omega)
        · refine lv_iload_n hx hb dX5_partOfAct_31 rfl (lv_at hl 2 rfl) ?_
          refine lv_bipush (v := nI 33) hx hb dX5_partOfAct_32 (by decide) ?_
          refine b_gtN C (by omega) (by omega) dX5_partOfAct_34 (tgt := 41) (by decide) (fun h10 => ?_) (fun h10 => ?_)
          · exact absurd h10 (by omega)
          · refine lv_iconst (v := nI 1) hx hb dX5_partOfAct_37 (by decide) ?_
            refine lv_goto (tgt := 42) hx hb dX5_partOfAct_38 (by decide) ?_
            refine lv_istore_n (lv' := [(3, .int (nI 1)), (2, .int (nI 0)), (0, .ref (ad h)), (1, .int (nI (i + 31)))]) hx hb dX5_partOfAct_42 rfl hl (by decide) rfl (fun ls hl => ?_)
            refine lv_iload_n hx hb dX5_partOfAct_43 rfl (lv_at hl 1 rfl) ?_
            refine r_eqi (y := 0) rfl ?_
            refine z_ne0 C dX5_partOfAct_44 (tgt := 54) (by decide) ?_
            refine lv_iload_n hx hb dX5_partOfAct_47 rfl (lv_at hl 0 rfl) ?_
            refine r_eqi (y := 1) rfl ?_
            refine z_ne1 C dX5_partOfAct_48 (tgt := 54) (by decide) ?_
            refine lv_iload_n hx hb dX5_partOfAct_54 rfl (lv_at hl 1 rfl) ?_
            refine r_eqi (y := 0) rfl ?_
            refine z_eq0 C dX5_partOfAct_55 (tgt := 67) (by decide) ?_
            refine lv_iconst (v := nI 4) hx hb dX5_partOfAct_67 (by decide) ?_
            refine lv_istore (lv' := [(4, .int (nI 4)), (3, .int (nI 1)), (2, .int (nI 0)), (0, .ref (ad h)), (1, .int (nI (i + 31)))]) hx hb dX5_partOfAct_68 hl (by decide) rfl (fun ls hl => ?_)
            refine lv_iload_n hx hb dX5_partOfAct_70 rfl (lv_at hl 4 rfl) ?_
            refine lv_bipush (v := nI 10) hx hb dX5_partOfAct_71 (by decide) ?_
            refine r_subN C (by omega) dX5_partOfAct_73 ?_
            refine lv_iconst (v := nI 4) hx hb dX5_partOfAct_74 (by decide) ?_
            refine r_remN C (by omega) (by decide) (by decide) dX5_partOfAct_75 ?_
            by_cases sw11 : ((i + 31) - 10) % 4 = 0
            · refine sw_in (k := 0) C dX5_partOfAct_76 (by rw [nI_toInt (by omega)]; omega) (by decide) (by decide) (off := 28) (by decide) (tgt := 104) (by decide) ?_
              refine lv_aload_n hx hb dX5_partOfAct_104 rfl (lv_at hl 3 rfl) ?_
              refine f_X5_9 (q := h + 1) C hP (by assumption) (by assumption) rfl dX5_partOfAct_105 ?_
              refine lv_iload hx hb dX5_partOfAct_108 (lv_at hl 0 rfl) ?_
              refine r_iald (n := 4) C hP (by assumption) (by omega) (by decide) dX5_partOfAct_110 ?_
              exact hret _ _ _ _ _ _ dX5_partOfAct_111 hP hS (⟨rfl, by simp only [show i + 31 - 10 = i + 21 by omega] at *; simp [pick, *]⟩)
            · by_cases sw12 : ((i + 31) - 10) % 4 = 1
              · refine sw_in (k := 1) C dX5_partOfAct_76 (by rw [nI_toInt (by omega)]; omega) (by decide) (by decide) (off := 36) (by decide) (tgt := 112) (by decide) ?_
                refine lv_aload_n hx hb dX5_partOfAct_112 rfl (lv_at hl 3 rfl) ?_
                refine f_X5_17 (q := h + 2) C hP (by assumption) (by assumption) rfl dX5_partOfAct_113 ?_
                refine lv_iload hx hb dX5_partOfAct_116 (lv_at hl 0 rfl) ?_
                refine r_ald11 (q := h + 3 + 4) C hP (by assumption) (by first | assumption | exact hLa _ (by omega)) (by omega) (by omega) dX5_partOfAct_118 ?_
                refine f_X5_57 C hP (by first | assumption | exact hKa _ (by omega)) dX5_partOfAct_119 ?_
                exact hret _ _ _ _ _ _ dX5_partOfAct_122 hP hS (⟨rfl, by simp only [show i + 31 - 10 = i + 21 by omega] at *; simp [pick, *]⟩)
              · by_cases sw13 : ((i + 31) - 10) % 4 = 2
                · refine sw_in (k := 2) C dX5_partOfAct_76 (by rw [nI_toInt (by omega)]; omega) (by decide) (by decide) (off := 47) (by decide) (tgt := 123) (by decide) ?_
                  refine lv_aload_n hx hb dX5_partOfAct_123 rfl (lv_at hl 3 rfl) ?_
                  refine f_X5_17 (q := h + 2) C hP (by assumption) (by assumption) rfl dX5_partOfAct_124 ?_
                  refine lv_iload hx hb dX5_partOfAct_127 (lv_at hl 0 rfl) ?_
                  refine r_ald11 (q := h + 3 + 4) C hP (by assumption) (by first | assumption | exact hLa _ (by omega)) (by omega) (by omega) dX5_partOfAct_129 ?_
                  refine f_X5_60 C hP (by first | assumption | exact hKa _ (by omega)) dX5_partOfAct_130 ?_
                  exact hret _ _ _ _ _ _ dX5_partOfAct_133 hP hS (⟨rfl, by simp only [show i + 31 - 10 = i + 21 by omega] at *; simp [pick, *]⟩)
                · refine lv_tableOut hx hb dX5_partOfAct_76 (by rw [nI_toInt (by omega)]; omega) (tgt := 134) (by decide) ?_
                  refine lv_aload_n hx hb dX5_partOfAct_134 rfl (lv_at hl 3 rfl) ?_
                  refine f_X5_17 (q := h + 2) C hP (by assumption) (by assumption) rfl dX5_partOfAct_135 ?_
                  refine lv_iload hx hb dX5_partOfAct_138 (lv_at hl 0 rfl) ?_
                  refine r_ald11 (q := h + 3 + 4) C hP (by assumption) (by first | assumption | exact hLa _ (by omega)) (by omega) (by omega) dX5_partOfAct_140 ?_
                  refine f_X5_63 C hP (by first | assumption | exact hKa _ (by omega)) dX5_partOfAct_141 ?_
                  exact hret _ _ _ _ _ _ dX5_partOfAct_144 hP hS (⟨rfl, by simp only [show i + 31 - 10 = i + 21 by omega] at *; simp [pick, *]⟩)
      · exact absurd h8 (by omega)
  · rw [prt_C hA hB] at hret
    refine lv_iload_n hx hb dX5_partOfAct_0 rfl (lv_at hl 1 rfl) ?_
    refine lv_bipush (v := nI 10) hx hb dX5_partOfAct_1 (by decide) ?_
    refine b_lt C dX5_partOfAct_3 (tgt := 23) (by decide) (fun h14 => ?_) (fun h14 => ?_)
    · rw [nI_toInt (by omega)] at h14
      refine lv_iconst (v := nI 0) hx hb dX5_partOfAct_23 (by decide) ?_
      refine lv_istore_n (lv' := [(2, .int (nI 0)), (0, .ref (ad h)), (1, .int x)]) hx hb dX5_partOfAct_24 rfl hl (by decide) rfl (fun ls hl => ?_)
      refine lv_iload_n hx hb dX5_partOfAct_25 rfl (lv_at hl 2 rfl) ?_
      refine lv_bipush (v := nI 31) hx hb dX5_partOfAct_26 (by decide) ?_
      refine b_lt C dX5_partOfAct_28 (tgt := 41) (by decide) (fun h15 => ?_) (fun h15 => ?_)
      · rw [nI_toInt (by omega)] at h15
        refine lv_iconst (v := nI 0) hx hb dX5_partOfAct_41 (by decide) ?_
        refine lv_istore_n (lv' := [(3, .int (nI 0)), (2, .int (nI 0)), (0, .ref (ad h)), (1, .int x)]) hx hb dX5_partOfAct_42 rfl hl (by decide) rfl (fun ls hl => ?_)
        refine lv_iload_n hx hb dX5_partOfAct_43 rfl (lv_at hl 1 rfl) ?_
        refine r_eqi (y := 0) rfl ?_
        refine z_ne0 C dX5_partOfAct_44 (tgt := 54) (by decide) ?_
        refine lv_iload_n hx hb dX5_partOfAct_47 rfl (lv_at hl 0 rfl) ?_
        refine r_eqi (y := 0) rfl ?_
        refine z_ne0 C dX5_partOfAct_48 (tgt := 54) (by decide) ?_
        refine lv_bipush (v := (-2)) hx hb dX5_partOfAct_51 (by decide) ?_
        exact hret _ _ _ _ _ _ dX5_partOfAct_53 hP hS (⟨rfl, rfl⟩)
      · rw [nI_toInt (by omega)] at h15
        refine lv_iload_n hx hb dX5_partOfAct_31 rfl (lv_at hl 2 rfl) ?_
        refine lv_bipush (v := nI 33) hx hb dX5_partOfAct_32 (by decide) ?_
        refine b_gt C dX5_partOfAct_34 (tgt := 41) (by decide) (fun h16 => ?_) (fun h16 => ?_)
        · rw [nI_toInt (by omega)] at h16
          refine lv_iconst (v := nI 0) hx hb dX5_partOfAct_41 (by decide) ?_
          refine lv_istore_n (lv' := [(3, .int (nI 0)), (2, .int (nI 0)), (0, .ref (ad h)), (1, .int x)]) hx hb dX5_partOfAct_42 rfl hl (by decide) rfl (fun ls hl => ?_)
          refine lv_iload_n hx hb dX5_partOfAct_43 rfl (lv_at hl 1 rfl) ?_
          refine r_eqi (y := 0) rfl ?_
          refine z_ne0 C dX5_partOfAct_44 (tgt := 54) (by decide) ?_
          refine lv_iload_n hx hb dX5_partOfAct_47 rfl (lv_at hl 0 rfl) ?_
          refine r_eqi (y := 0) rfl ?_
          refine z_ne0 C dX5_partOfAct_48 (tgt := 54) (by decide) ?_
          refine lv_bipush (v := (-2)) hx hb dX5_partOfAct_51 (by decide) ?_
          exact hret _ _ _ _ _ _ dX5_partOfAct_53 hP hS (⟨rfl, rfl⟩)
        · rw [nI_toInt (by omega)] at h16
          exfalso; omega
    · rw [nI_toInt (by omega)] at h14
      refine lv_iload_n hx hb dX5_partOfAct_6 rfl (lv_at hl 1 rfl) ?_
      refine lv_bipush (v := nI 10) hx hb dX5_partOfAct_7 (by decide) ?_
      refine lv_iconst (v := nI 4) hx hb dX5_partOfAct_9 (by decide) ?_
      refine lv_aload_n hx hb dX5_partOfAct_10 rfl (lv_at hl 0 rfl) ?_
      refine f_X5_26 C hP (by first | assumption | exact hKa _ (by omega)) dX5_partOfAct_11 ?_
      refine r_eqi (y := (nI n)) (he) ?_
      refine r_mulN C dX5_partOfAct_14 ?_
      refine r_addN C dX5_partOfAct_15 ?_
      refine b_ge C dX5_partOfAct_16 (tgt := 23) (by decide) (fun h17 => ?_) (fun h17 => ?_)
      · rw [nI_toInt (by omega)] at h17
        refine lv_iconst (v := nI 0) hx hb dX5_partOfAct_23 (by decide) ?_
        refine lv_istore_n (lv' := [(2, .int (nI 0)), (0, .ref (ad h)), (1, .int x)]) hx hb dX5_partOfAct_24 rfl hl (by decide) rfl (fun ls hl => ?_)
        refine lv_iload_n hx hb dX5_partOfAct_25 rfl (lv_at hl 2 rfl) ?_
        refine lv_bipush (v := nI 31) hx hb dX5_partOfAct_26 (by decide) ?_
        refine b_lt C dX5_partOfAct_28 (tgt := 41) (by decide) (fun h18 => ?_) (fun h18 => ?_)
        · rw [nI_toInt (by omega)] at h18
          refine lv_iconst (v := nI 0) hx hb dX5_partOfAct_41 (by decide) ?_
          refine lv_istore_n (lv' := [(3, .int (nI 0)), (2, .int (nI 0)), (0, .ref (ad h)), (1, .int x)]) hx hb dX5_partOfAct_42 rfl hl (by decide) rfl (fun ls hl => ?_)
          refine lv_iload_n hx hb dX5_partOfAct_43 rfl (lv_at hl 1 rfl) ?_
          refine r_eqi (y := 0) rfl ?_
          refine z_ne0 C dX5_partOfAct_44 (tgt := 54) (by decide) ?_
          refine lv_iload_n hx hb dX5_partOfAct_47 rfl (lv_at hl 0 rfl) ?_
          refine r_eqi (y := 0) rfl ?_
          refine z_ne0 C dX5_partOfAct_48 (tgt := 54) (by decide) ?_
          refine lv_bipush (v := (-2)) hx hb dX5_partOfAct_51 (by decide) ?_
          exact hret _ _ _ _ _ _ dX5_partOfAct_53 hP hS (⟨rfl, rfl⟩)
        · rw [nI_toInt (by omega)] at h18
          refine lv_iload_n hx hb dX5_partOfAct_31 rfl (lv_at hl 2 rfl) ?_
          refine lv_bipush (v := nI 33) hx hb dX5_partOfAct_32 (by decide) ?_
          refine b_gt C dX5_partOfAct_34 (tgt := 41) (by decide) (fun h19 => ?_) (fun h19 => ?_)
          · rw [nI_toInt (by omega)] at h19
            refine lv_iconst (v := nI 0) hx hb dX5_partOfAct_41 (by decide) ?_
            refine lv_istore_n (lv' := [(3, .int (nI 0)), (2, .int (nI 0)), (0, .ref (ad h)), (1, .int x)]) hx hb dX5_partOfAct_42 rfl hl (by decide) rfl (fun ls hl => ?_)
            refine lv_iload_n hx hb dX5_partOfAct_43 rfl (lv_at hl 1 rfl) ?_
            refine r_eqi (y := 0) rfl ?_
            refine z_ne0 C dX5_partOfAct_44 (tgt := 54) (by decide) ?_
            refine lv_iload_n hx hb dX5_partOfAct_47 rfl (lv_at hl 0 rfl) ?_
            refine r_eqi (y := 0) rfl ?_
            refine z_ne0 C dX5_partOfAct_48 (tgt := 54) (by decide) ?_
            refine lv_bipush (v := (-2)) hx hb dX5_partOfAct_51 (by decide) ?_
            exact hret _ _ _ _ _ _ dX5_partOfAct_53 hP hS (⟨rfl, rfl⟩)
          · rw [nI_toInt (by omega)] at h19
            exfalso; omega
      · rw [nI_toInt (by omega)] at h17
        exfalso; omega
end
