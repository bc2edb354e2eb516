section XNM
def xGood (w : Cond) : Bool := w.onTables && w.keeps
def xT : List Cond := lw_tbl.filter xGood
theorem xT_in {w : Cond} (h : w ∈ lw_tbl) (hg : xGood w = true) : w ∈ xT := List.mem_filter.mpr ⟨h, hg⟩
def xIsN (w : Cond) : Bool := match w with
  | .fieldLinkNest .. => true
  | .methodLinkNest .. => true
  | .declares _ => true
  | .castable .. => true
  | _ => false
def xN : List Cond := lw_tbl.filter xIsN
theorem xN_in {w : Cond} (h : w ∈ lw_tbl) (hg : xIsN w = true) : w ∈ xN := List.mem_filter.mpr ⟨h, hg⟩
def xStr : List (String × Nat × String) := [("ChunkStore", 214, "a number out of range"), ("ChunkStore", 223, "the file is there or hidden"), ("ChunkStore", 221, "the file is not there"), ("ChunkStore", 68, "the file is not hidden"), ("ChunkStore", 229, "no chunk can be made for the row"), ("ChunkStore", 234, "no server can be chosen"), ("ChunkStore", 218, "no such place in the row"), ("ChunkStore", 247, "no holder is up"), ("ChunkStore", 258, "no more chunks can be made"), ("ChunkStore", 263, "a holder has no room for its copy"), ("ChunkStore", 124, "the server was not found as a holder"), ("ChunkStore", 139, "the server can't answer for what was found"), ("ChunkStore", 149, "the server is not up"), ("ChunkStore", 173, "no chunk can be repaired"), ("ChunkStore", 190, "a span out of range"), ("ChunkStore", 195, "no server is up"), ("ChunkStore", 198, "the server has no replica of the chunk"), ("ChunkStore", 203, "the chunk was not made")]
def xArr : List FieldType := [.int, .byte, .double, .boolean, .long]
def xOvr : List String := ["ChunkStore$FileEntry", "ChunkStore$Chunk", "ChunkStore$Server", "ChunkStore$Kept"]
def xNot : List (String × String) := [("java/lang/ArithmeticException", "java/lang/IllegalArgumentException"), ("java/lang/ArithmeticException", "java/lang/IllegalStateException"), ("java/lang/ArithmeticException", "java/lang/IndexOutOfBoundsException"), ("java/lang/ArithmeticException", "java/lang/UnsupportedOperationException"), ("java/lang/ArithmeticException", "java/util/NoSuchElementException"), ("java/lang/IllegalArgumentException", "java/lang/ArithmeticException"), ("java/lang/IllegalArgumentException", "java/lang/IllegalStateException"), ("java/lang/IllegalArgumentException", "java/lang/IndexOutOfBoundsException"), ("java/lang/IllegalArgumentException", "java/lang/UnsupportedOperationException"), ("java/lang/IllegalArgumentException", "java/util/NoSuchElementException"), ("java/lang/IllegalStateException", "java/lang/ArithmeticException"), ("java/lang/IllegalStateException", "java/lang/IllegalArgumentException"), ("java/lang/IllegalStateException", "java/lang/IndexOutOfBoundsException"), ("java/lang/IllegalStateException", "java/lang/UnsupportedOperationException"), ("java/lang/IllegalStateException", "java/util/NoSuchElementException"), ("java/lang/IndexOutOfBoundsException", "java/lang/ArithmeticException"), ("java/lang/IndexOutOfBoundsException", "java/lang/IllegalArgumentException"), ("java/lang/IndexOutOfBoundsException", "java/lang/IllegalStateException"), ("java/lang/IndexOutOfBoundsException", "java/lang/UnsupportedOperationException"), ("java/lang/IndexOutOfBoundsException", "java/util/NoSuchElementException"), ("java/lang/UnsupportedOperationException", "java/lang/ArithmeticException"), ("java/lang/UnsupportedOperationException", "java/lang/IllegalArgumentException"), ("java/lang/UnsupportedOperationException", "java/lang/IllegalStateException"), ("java/lang/UnsupportedOperationException", "java/lang/IndexOutOfBoundsException"), ("java/lang/UnsupportedOperationException", "java/util/NoSuchElementException"), ("java/util/NoSuchElementException", "java/lang/ArithmeticException"), ("java/util/NoSuchElementException", "java/lang/IllegalArgumentException"), ("java/util/NoSuchElementException", "java/lang/IllegalStateException"), ("java/util/NoSuchElementException", "java/lang/IndexOutOfBoundsException"), ("java/util/NoSuchElementException", "java/lang/UnsupportedOperationException")]
abbrev xTN : String := "java/lang/Throwable"
abbrev R_CS : String := "ChunkStore"
def F_CS : u_T := fun k => match k with
  | 0 => ("ChunkStore", "files", "[LChunkStore$FileEntry;", true)
  | 1 => ("ChunkStore", "chunks", "[LChunkStore$Chunk;", true)
  | 2 => ("ChunkStore", "servers", "[LChunkStore$Server;", true)
  | 3 => ("ChunkStore", "keeps", "[LChunkStore$Kept;", true)
  | 4 => ("ChunkStore", "made", "I", false)
  | _ => ("ChunkStore", "time", "D", false)
def t_CS : Nat → FieldType := fun k => match k with
  | 0 => .array (.object "ChunkStore$FileEntry")
  | 1 => .array (.object "ChunkStore$Chunk")
  | 2 => .array (.object "ChunkStore$Server")
  | 3 => .array (.object "ChunkStore$Kept")
  | 4 => .int
  | _ => .double
theorem n_CS : ∀ a, a < 6 → ∀ b, b < 6 → a ≠ b → (F_CS a).2.1 ≠ (F_CS b).2.1 := by decide +kernel
theorem t_CS_ok : ∀ k, k < 6 → parseFieldDescriptor (F_CS k).2.2.1 = some (t_CS k) := by decide +kernel
abbrev R_CH : String := "ChunkStore$Chunk"
def F_CH : u_T := fun k => match k with
  | 0 => ("ChunkStore$Chunk", "version", "I", false)
  | 1 => ("ChunkStore$Chunk", "refs", "I", false)
  | 2 => ("ChunkStore$Chunk", "holders", "I", false)
  | _ => ("ChunkStore$Chunk", "leaseEnd", "D", false)
def t_CH : Nat → FieldType := fun k => match k with
  | 0 => .int
  | 1 => .int
  | 2 => .int
  | _ => .double
theorem n_CH : ∀ a, a < 4 → ∀ b, b < 4 → a ≠ b → (F_CH a).2.1 ≠ (F_CH b).2.1 := by decide +kernel
theorem t_CH_ok : ∀ k, k < 4 → parseFieldDescriptor (F_CH k).2.2.1 = some (t_CH k) := by decide +kernel
abbrev R_FE : String := "ChunkStore$FileEntry"
def F_FE : u_T := fun k => match k with
  | 0 => ("ChunkStore$FileEntry", "row", "[I", true)
  | 1 => ("ChunkStore$FileEntry", "count", "I", false)
  | 2 => ("ChunkStore$FileEntry", "state", "I", false)
  | _ => ("ChunkStore$FileEntry", "hiddenSince", "D", false)
def t_FE : Nat → FieldType := fun k => match k with
  | 0 => .array .int
  | 1 => .int
  | 2 => .int
  | _ => .double
theorem n_FE : ∀ a, a < 4 → ∀ b, b < 4 → a ≠ b → (F_FE a).2.1 ≠ (F_FE b).2.1 := by decide +kernel
theorem t_FE_ok : ∀ k, k < 4 → parseFieldDescriptor (F_FE k).2.2.1 = some (t_FE k) := by decide +kernel
abbrev R_KP : String := "ChunkStore$Kept"
def F_KP : u_T := fun k => match k with
  | 0 => ("ChunkStore$Kept", "number", "I", false)
  | 1 => ("ChunkStore$Kept", "version", "I", false)
  | 2 => ("ChunkStore$Kept", "holders", "I", false)
  | _ => ("ChunkStore$Kept", "end", "D", false)
def t_KP : Nat → FieldType := fun k => match k with
  | 0 => .int
  | 1 => .int
  | 2 => .int
  | _ => .double
theorem n_KP : ∀ a, a < 4 → ∀ b, b < 4 → a ≠ b → (F_KP a).2.1 ≠ (F_KP b).2.1 := by decide +kernel
theorem t_KP_ok : ∀ k, k < 4 → parseFieldDescriptor (F_KP k).2.2.1 = some (t_KP k) := by decide +kernel
abbrev R_SV : String := "ChunkStore$Server"
def F_SV : u_T := fun k => match k with
  | 0 => ("ChunkStore$Server", "versions", "[I", true)
  | 1 => ("ChunkStore$Server", "used", "[I", true)
  | 2 => ("ChunkStore$Server", "words", "[I", true)
  | 3 => ("ChunkStore$Server", "isUp", "Z", false)
  | _ => ("ChunkStore$Server", "replicas", "I", false)
def t_SV : Nat → FieldType := fun k => match k with
  | 0 => .array .int
  | 1 => .array .int
  | 2 => .array .int
  | 3 => .boolean
  | _ => .int
theorem n_SV : ∀ a, a < 5 → ∀ b, b < 5 → a ≠ b → (F_SV a).2.1 ≠ (F_SV b).2.1 := by decide +kernel
theorem t_SV_ok : ∀ k, k < 5 → parseFieldDescriptor (F_SV k).2.2.1 = some (t_SV k) := by decide +kernel
abbrev R_MD : String := "ChunkStoreModel"
def F_MD : u_T := fun k => match k with
  | 0 => ("ChunkStoreModel", "failed", "I", false)
  | 1 => ("ChunkStoreModel", "time", "D", false)
  | 2 => ("ChunkStoreModel", "state", "[I", true)
  | 3 => ("ChunkStoreModel", "hidden", "[D", true)
  | 4 => ("ChunkStoreModel", "row", "[I", true)
  | 5 => ("ChunkStoreModel", "length", "[I", true)
  | 6 => ("ChunkStoreModel", "chunks", "I", false)
  | 7 => ("ChunkStoreModel", "version", "[I", true)
  | 8 => ("ChunkStoreModel", "holders", "[I", true)
  | 9 => ("ChunkStoreModel", "lease", "[D", true)
  | 10 => ("ChunkStoreModel", "down", "[Z", true)
  | 11 => ("ChunkStoreModel", "replica", "[I", true)
  | 12 => ("ChunkStoreModel", "used", "[I", true)
  | 13 => ("ChunkStoreModel", "word", "[I", true)
  | 14 => ("ChunkStoreModel", "keptChunk", "[I", true)
  | 15 => ("ChunkStoreModel", "keptVersion", "[I", true)
  | 16 => ("ChunkStoreModel", "keptHolders", "[I", true)
  | _ => ("ChunkStoreModel", "keptEnd", "[D", true)
def t_MD : Nat → FieldType := fun k => match k with
  | 0 => .int
  | 1 => .double
  | 2 => .array .int
  | 3 => .array .double
  | 4 => .array .int
  | 5 => .array .int
  | 6 => .int
  | 7 => .array .int
  | 8 => .array .int
  | 9 => .array .double
  | 10 => .array .boolean
  | 11 => .array .int
  | 12 => .array .int
  | 13 => .array .int
  | 14 => .array .int
  | 15 => .array .int
  | 16 => .array .int
  | _ => .array .double
theorem n_MD : ∀ a, a < 18 → ∀ b, b < 18 → a ≠ b → (F_MD a).2.1 ≠ (F_MD b).2.1 := by decide +kernel
theorem t_MD_ok : ∀ k, k < 18 → parseFieldDescriptor (F_MD k).2.2.1 = some (t_MD k) := by decide +kernel
abbrev xcl : List vw_C := [(R_CS, F_CS, 6), (R_CH, F_CH, 4), (R_FE, F_FE, 4), (R_KP, F_KP, 4), (R_SV, F_SV, 5), (R_MD, F_MD, 18)]
abbrev y_CS_init : MethodName := ⟨"ChunkStore", "<init>", "()V"⟩
abbrev b_CS_init : ByteArray := prog_1_method_1_code
abbrev y_FE_init : MethodName := ⟨"ChunkStore$FileEntry", "<init>", "()V"⟩
abbrev b_FE_init : ByteArray := prog_3_method_1_code
abbrev y_CH_init : MethodName := ⟨"ChunkStore$Chunk", "<init>", "()V"⟩
abbrev b_CH_init : ByteArray := prog_2_method_1_code
abbrev y_SV_init : MethodName := ⟨"ChunkStore$Server", "<init>", "()V"⟩
abbrev b_SV_init : ByteArray := prog_5_method_1_code
abbrev y_KP_init : MethodName := ⟨"ChunkStore$Kept", "<init>", "()V"⟩
abbrev b_KP_init : ByteArray := prog_4_method_1_code
abbrev y_CS_sweep : MethodName := ⟨"ChunkStore", "sweep", "()I"⟩
abbrev b_CS_sweep : ByteArray := prog_1_method_14_code
abbrev y_CS_forget : MethodName := ⟨"ChunkStore", "forget", "(LChunkStore$FileEntry;)V"⟩
abbrev b_CS_forget : ByteArray := prog_1_method_25_code
abbrev y_LW_create : MethodName := ⟨"ChunkStoreLaw", "create", "(LChunkStore;I[J)I"⟩
abbrev b_LW_create : ByteArray := method_3_code
abbrev y_CS_create : MethodName := ⟨"ChunkStore", "create", "(I)I"⟩
abbrev b_CS_create : ByteArray := prog_1_method_2_code
abbrev y_CS_checkRange : MethodName := ⟨"ChunkStore", "checkRange", "(II)V"⟩
abbrev b_CS_checkRange : ByteArray := prog_1_method_20_code
abbrev y_CS_fileNotYet : MethodName := ⟨"ChunkStore", "fileNotYet", "(I)LChunkStore$FileEntry;"⟩
abbrev b_CS_fileNotYet : ByteArray := prog_1_method_23_code
abbrev y_CS_countThere : MethodName := ⟨"ChunkStore", "countThere", "()I"⟩
abbrev b_CS_countThere : ByteArray := prog_1_method_24_code
abbrev y_LW_remove : MethodName := ⟨"ChunkStoreLaw", "remove", "(LChunkStore;I[J)I"⟩
abbrev b_LW_remove : ByteArray := method_4_code
abbrev y_CS_remove : MethodName := ⟨"ChunkStore", "remove", "(I)I"⟩
abbrev b_CS_remove : ByteArray := prog_1_method_3_code
abbrev y_CS_fileThere : MethodName := ⟨"ChunkStore", "fileThere", "(I)LChunkStore$FileEntry;"⟩
abbrev b_CS_fileThere : ByteArray := prog_1_method_22_code
abbrev y_LW_restore : MethodName := ⟨"ChunkStoreLaw", "restore", "(LChunkStore;I[J)I"⟩
abbrev b_LW_restore : ByteArray := method_5_code
abbrev y_CS_restore : MethodName := ⟨"ChunkStore", "restore", "(I)I"⟩
abbrev b_CS_restore : ByteArray := prog_1_method_4_code
abbrev y_LW_copy : MethodName := ⟨"ChunkStoreLaw", "copy", "(LChunkStore;II[J)I"⟩
abbrev b_LW_copy : ByteArray := method_6_code
abbrev y_CS_copy : MethodName := ⟨"ChunkStore", "copy", "(II)I"⟩
abbrev b_CS_copy : ByteArray := prog_1_method_5_code
abbrev y_FE_addAtEnd : MethodName := ⟨"ChunkStore$FileEntry", "addAtEnd", "(I)V"⟩
abbrev b_FE_addAtEnd : ByteArray := prog_3_method_2_code
abbrev y_LW_extend : MethodName := ⟨"ChunkStoreLaw", "extend", "(LChunkStore;I[J)I"⟩
abbrev b_LW_extend : ByteArray := method_7_code
abbrev y_CS_extend : MethodName := ⟨"ChunkStore", "extend", "(I)I"⟩
abbrev b_CS_extend : ByteArray := prog_1_method_6_code
abbrev y_CS_makeChunk : MethodName := ⟨"ChunkStore", "makeChunk", "(LChunkStore$FileEntry;)I"⟩
abbrev b_CS_makeChunk : ByteArray := prog_1_method_32_code
abbrev y_CS_choose : MethodName := ⟨"ChunkStore", "choose", "(II)I"⟩
abbrev b_CS_choose : ByteArray := prog_1_method_31_code
abbrev y_CS_lightest : MethodName := ⟨"ChunkStore", "lightest", "(II)I"⟩
abbrev b_CS_lightest : ByteArray := prog_1_method_30_code
abbrev y_SV_isFull : MethodName := ⟨"ChunkStore$Server", "isFull", "()Z"⟩
abbrev b_SV_isFull : ByteArray := prog_5_method_3_code
abbrev y_SV_has : MethodName := ⟨"ChunkStore$Server", "has", "(I)Z"⟩
abbrev b_SV_has : ByteArray := prog_5_method_2_code
abbrev y_CS_isIn : MethodName := ⟨"ChunkStore", "isIn", "(II)Z"⟩
abbrev b_CS_isIn : ByteArray := prog_1_method_26_code
abbrev y_CS_startChunk : MethodName := ⟨"ChunkStore", "startChunk", "(I)V"⟩
abbrev b_CS_startChunk : ByteArray := prog_1_method_33_code
abbrev y_SV_addEmpty : MethodName := ⟨"ChunkStore$Server", "addEmpty", "(I)V"⟩
abbrev b_SV_addEmpty : ByteArray := prog_5_method_4_code
abbrev y_LW_locate : MethodName := ⟨"ChunkStoreLaw", "locate", "(LChunkStore;III[J)I"⟩
abbrev b_LW_locate : ByteArray := method_8_code
abbrev y_CS_locate : MethodName := ⟨"ChunkStore", "locate", "(III)I"⟩
abbrev b_CS_locate : ByteArray := prog_1_method_7_code
abbrev y_CS_find : MethodName := ⟨"ChunkStore", "find", "(III)LChunkStore$Kept;"⟩
abbrev b_CS_find : ByteArray := prog_1_method_34_code
abbrev y_CS_checkPlace : MethodName := ⟨"ChunkStore", "checkPlace", "(LChunkStore$FileEntry;I)V"⟩
abbrev b_CS_checkPlace : ByteArray := prog_1_method_21_code
abbrev y_LW_write : MethodName := ⟨"ChunkStoreLaw", "write", "(LChunkStore;IIII[J)I"⟩
abbrev b_LW_write : ByteArray := method_9_code
abbrev y_CS_write : MethodName := ⟨"ChunkStore", "write", "(IIII)I"⟩
abbrev b_CS_write : ByteArray := prog_1_method_8_code
abbrev y_CS_lease : MethodName := ⟨"ChunkStore", "lease", "(LChunkStore$FileEntry;I)I"⟩
abbrev b_CS_lease : ByteArray := prog_1_method_35_code
abbrev y_CS_liveHolders : MethodName := ⟨"ChunkStore", "liveHolders", "(I)I"⟩
abbrev b_CS_liveHolders : ByteArray := prog_1_method_28_code
abbrev y_CS_isLeased : MethodName := ⟨"ChunkStore", "isLeased", "(LChunkStore$Chunk;)Z"⟩
abbrev b_CS_isLeased : ByteArray := prog_1_method_29_code
abbrev y_CS_splitOff : MethodName := ⟨"ChunkStore", "splitOff", "(LChunkStore$FileEntry;II)I"⟩
abbrev b_CS_splitOff : ByteArray := prog_1_method_36_code
abbrev y_CS_anyFull : MethodName := ⟨"ChunkStore", "anyFull", "(I)Z"⟩
abbrev b_CS_anyFull : ByteArray := prog_1_method_37_code
abbrev y_SV_addLike : MethodName := ⟨"ChunkStore$Server", "addLike", "(ILChunkStore$Server;II)V"⟩
abbrev b_SV_addLike : ByteArray := prog_5_method_5_code
abbrev y_CS_raiseVersion : MethodName := ⟨"ChunkStore", "raiseVersion", "(II)V"⟩
abbrev b_CS_raiseVersion : ByteArray := prog_1_method_38_code
abbrev y_CS_setWordAtHolders : MethodName := ⟨"ChunkStore", "setWordAtHolders", "(III)V"⟩
abbrev b_CS_setWordAtHolders : ByteArray := prog_1_method_39_code
abbrev y_SV_setWord : MethodName := ⟨"ChunkStore$Server", "setWord", "(III)V"⟩
abbrev b_SV_setWord : ByteArray := prog_5_method_8_code
abbrev y_MA_max : MethodName := ⟨"java/lang/Math", "max", "(II)I"⟩
abbrev b_MA_max : ByteArray := prog_14_method_65_code
abbrev y_LW_append : MethodName := ⟨"ChunkStoreLaw", "append", "(LChunkStore;II[J)I"⟩
abbrev b_LW_append : ByteArray := method_10_code
abbrev y_CS_append : MethodName := ⟨"ChunkStore", "append", "(II)I"⟩
abbrev b_CS_append : ByteArray := prog_1_method_9_code
abbrev y_CS_usedAtFirst : MethodName := ⟨"ChunkStore", "usedAtFirst", "(I)I"⟩
abbrev b_CS_usedAtFirst : ByteArray := prog_1_method_40_code
abbrev y_CS_first : MethodName := ⟨"ChunkStore", "first", "(I)I"⟩
abbrev b_CS_first : ByteArray := prog_1_method_27_code
abbrev y_LW_read : MethodName := ⟨"ChunkStoreLaw", "read", "(LChunkStore;IIIII[J)I"⟩
abbrev b_LW_read : ByteArray := method_11_code
abbrev y_CS_read : MethodName := ⟨"ChunkStore", "read", "(IIIII)I"⟩
abbrev b_CS_read : ByteArray := prog_1_method_10_code
abbrev y_SV_word : MethodName := ⟨"ChunkStore$Server", "word", "(II)I"⟩
abbrev b_SV_word : ByteArray := prog_5_method_7_code
abbrev y_LW_up : MethodName := ⟨"ChunkStoreLaw", "up", "(LChunkStore;IZ[J)I"⟩
abbrev b_LW_up : ByteArray := method_12_code
abbrev y_CS_up : MethodName := ⟨"ChunkStore", "up", "(IZ)I"⟩
abbrev b_CS_up : ByteArray := prog_1_method_11_code
abbrev y_LW_report : MethodName := ⟨"ChunkStoreLaw", "report", "(LChunkStore;I[J)I"⟩
abbrev b_LW_report : ByteArray := method_13_code
abbrev y_CS_report : MethodName := ⟨"ChunkStore", "report", "(I)I"⟩
abbrev b_CS_report : ByteArray := prog_1_method_12_code
abbrev y_CS_confirmReplica : MethodName := ⟨"ChunkStore", "confirmReplica", "(II)Z"⟩
abbrev b_CS_confirmReplica : ByteArray := prog_1_method_41_code
abbrev y_SV_drop : MethodName := ⟨"ChunkStore$Server", "drop", "(I)V"⟩
abbrev b_SV_drop : ByteArray := prog_5_method_6_code
abbrev y_LW_repair : MethodName := ⟨"ChunkStoreLaw", "repair", "(LChunkStore;[J)I"⟩
abbrev b_LW_repair : ByteArray := method_14_code
abbrev y_CS_repair : MethodName := ⟨"ChunkStore", "repair", "()I"⟩
abbrev b_CS_repair : ByteArray := prog_1_method_13_code
abbrev y_CS_mostInNeed : MethodName := ⟨"ChunkStore", "mostInNeed", "()I"⟩
abbrev b_CS_mostInNeed : ByteArray := prog_1_method_42_code
abbrev y_IN_bitCount : MethodName := ⟨"java/lang/Integer", "bitCount", "(I)I"⟩
abbrev b_IN_bitCount : ByteArray := prog_13_method_49_code
abbrev y_LW_tick : MethodName := ⟨"ChunkStoreLaw", "tick", "(LChunkStore;D[D)I"⟩
abbrev b_LW_tick : ByteArray := method_15_code
abbrev y_CS_tick : MethodName := ⟨"ChunkStore", "tick", "(D)D"⟩
abbrev b_CS_tick : ByteArray := prog_1_method_15_code
abbrev y_LW_load : MethodName := ⟨"ChunkStoreLaw", "load", "(LChunkStore;[D)I"⟩
abbrev b_LW_load : ByteArray := method_16_code
abbrev y_CS_load : MethodName := ⟨"ChunkStore", "load", "()D"⟩
abbrev b_CS_load : ByteArray := prog_1_method_16_code
abbrev y_LW_look : MethodName := ⟨"ChunkStoreLaw", "look", "(LChunkStore;III[J)I"⟩
abbrev b_LW_look : ByteArray := method_17_code
abbrev y_CS_look : MethodName := ⟨"ChunkStore", "look", "(III)I"⟩
abbrev b_CS_look : ByteArray := prog_1_method_17_code
abbrev y_LW_file : MethodName := ⟨"ChunkStoreLaw", "file", "(LChunkStore;II[J)I"⟩
abbrev b_LW_file : ByteArray := method_18_code
abbrev y_CS_file : MethodName := ⟨"ChunkStore", "file", "(II)I"⟩
abbrev b_CS_file : ByteArray := prog_1_method_18_code
abbrev y_LW_chunk : MethodName := ⟨"ChunkStoreLaw", "chunk", "(LChunkStore;II[J)I"⟩
abbrev b_LW_chunk : ByteArray := method_19_code
abbrev y_CS_chunk : MethodName := ⟨"ChunkStore", "chunk", "(II)I"⟩
abbrev b_CS_chunk : ByteArray := prog_1_method_19_code
abbrev y_MD_init : MethodName := ⟨"ChunkStoreModel", "<init>", "()V"⟩
abbrev b_MD_init : ByteArray := prog_7_method_1_code
abbrev y_MD_thrown : MethodName := ⟨"ChunkStoreModel", "thrown", "()I"⟩
abbrev b_MD_thrown : ByteArray := prog_7_method_2_code
abbrev y_MD_create : MethodName := ⟨"ChunkStoreModel", "create", "(I)I"⟩
abbrev b_MD_create : ByteArray := prog_7_method_5_code
abbrev y_MD_out : MethodName := ⟨"ChunkStoreModel", "out", "(II)Z"⟩
abbrev b_MD_out : ByteArray := prog_7_method_4_code
abbrev y_MD_fail : MethodName := ⟨"ChunkStoreModel", "fail", "(I)I"⟩
abbrev b_MD_fail : ByteArray := prog_7_method_3_code
abbrev y_MD_remove : MethodName := ⟨"ChunkStoreModel", "remove", "(I)I"⟩
abbrev b_MD_remove : ByteArray := prog_7_method_6_code
abbrev y_MD_restore : MethodName := ⟨"ChunkStoreModel", "restore", "(I)I"⟩
abbrev b_MD_restore : ByteArray := prog_7_method_7_code
abbrev y_MD_copy : MethodName := ⟨"ChunkStoreModel", "copy", "(II)I"⟩
abbrev b_MD_copy : ByteArray := prog_7_method_8_code
abbrev y_MD_extend : MethodName := ⟨"ChunkStoreModel", "extend", "(I)I"⟩
abbrev b_MD_extend : ByteArray := prog_7_method_17_code
abbrev y_MD_makeChunk : MethodName := ⟨"ChunkStoreModel", "makeChunk", "(I)I"⟩
abbrev b_MD_makeChunk : ByteArray := prog_7_method_16_code
abbrev y_MD_choose : MethodName := ⟨"ChunkStoreModel", "choose", "(II)I"⟩
abbrev b_MD_choose : ByteArray := prog_7_method_11_code
abbrev y_MD_loadOf : MethodName := ⟨"ChunkStoreModel", "loadOf", "(I)I"⟩
abbrev b_MD_loadOf : ByteArray := prog_7_method_10_code
abbrev y_MD_place : MethodName := ⟨"ChunkStoreModel", "place", "(III)V"⟩
abbrev b_MD_place : ByteArray := prog_7_method_15_code
abbrev y_MD_locate : MethodName := ⟨"ChunkStoreModel", "locate", "(III)I"⟩
abbrev b_MD_locate : ByteArray := prog_7_method_19_code
abbrev y_MD_find : MethodName := ⟨"ChunkStoreModel", "find", "(III)I"⟩
abbrev b_MD_find : ByteArray := prog_7_method_18_code
abbrev y_MD_write : MethodName := ⟨"ChunkStoreModel", "write", "(IIII)I"⟩
abbrev b_MD_write : ByteArray := prog_7_method_22_code
abbrev y_MD_takeLease : MethodName := ⟨"ChunkStoreModel", "takeLease", "(II)I"⟩
abbrev b_MD_takeLease : ByteArray := prog_7_method_20_code
abbrev y_MD_live : MethodName := ⟨"ChunkStoreModel", "live", "(I)I"⟩
abbrev b_MD_live : ByteArray := prog_7_method_12_code
abbrev y_MD_refs : MethodName := ⟨"ChunkStoreModel", "refs", "(I)I"⟩
abbrev b_MD_refs : ByteArray := prog_7_method_9_code
abbrev y_MD_store : MethodName := ⟨"ChunkStoreModel", "store", "(III)V"⟩
abbrev b_MD_store : ByteArray := prog_7_method_21_code
abbrev y_MD_append : MethodName := ⟨"ChunkStoreModel", "append", "(II)I"⟩
abbrev b_MD_append : ByteArray := prog_7_method_24_code
abbrev y_MD_usedIn : MethodName := ⟨"ChunkStoreModel", "usedIn", "(I)I"⟩
abbrev b_MD_usedIn : ByteArray := prog_7_method_23_code
abbrev y_MD_first : MethodName := ⟨"ChunkStoreModel", "first", "(I)I"⟩
abbrev b_MD_first : ByteArray := prog_7_method_14_code
abbrev y_MD_read : MethodName := ⟨"ChunkStoreModel", "read", "(IIIII)I"⟩
abbrev b_MD_read : ByteArray := prog_7_method_25_code
abbrev y_MD_up : MethodName := ⟨"ChunkStoreModel", "up", "(IZ)I"⟩
abbrev b_MD_up : ByteArray := prog_7_method_26_code
abbrev y_MD_report : MethodName := ⟨"ChunkStoreModel", "report", "(I)I"⟩
abbrev b_MD_report : ByteArray := prog_7_method_27_code
abbrev y_MD_repair : MethodName := ⟨"ChunkStoreModel", "repair", "()I"⟩
abbrev b_MD_repair : ByteArray := prog_7_method_28_code
abbrev y_MD_ones : MethodName := ⟨"ChunkStoreModel", "ones", "(I)I"⟩
abbrev b_MD_ones : ByteArray := prog_7_method_13_code
abbrev y_MD_sweep : MethodName := ⟨"ChunkStoreModel", "sweep", "()I"⟩
abbrev b_MD_sweep : ByteArray := prog_7_method_29_code
abbrev y_MD_tick : MethodName := ⟨"ChunkStoreModel", "tick", "(D)D"⟩
abbrev b_MD_tick : ByteArray := prog_7_method_30_code
abbrev y_MD_load : MethodName := ⟨"ChunkStoreModel", "load", "()D"⟩
abbrev b_MD_load : ByteArray := prog_7_method_31_code
abbrev y_MD_look : MethodName := ⟨"ChunkStoreModel", "look", "(III)I"⟩
abbrev b_MD_look : ByteArray := prog_7_method_32_code
abbrev y_MD_file : MethodName := ⟨"ChunkStoreModel", "file", "(II)I"⟩
abbrev b_MD_file : ByteArray := prog_7_method_33_code
abbrev y_MD_chunk : MethodName := ⟨"ChunkStoreModel", "chunk", "(II)I"⟩
abbrev b_MD_chunk : ByteArray := prog_7_method_34_code
theorem kw0 : Cond.initialized "ChunkStoreLaw" ∈ xT := xT_in (List.mem_append_right _ (List.mem_append_left _ (List.mem_of_getElem? (i := 0) rfl)) : _ ∈ lw_tbl) rfl
theorem kw1 : Cond.initialized "ChunkStore" ∈ xT := xT_in (List.mem_append_right _ (List.mem_append_left _ (List.mem_of_getElem? (i := 1) rfl)) : _ ∈ lw_tbl) rfl
theorem kw2 : Cond.initialized "ChunkStore$FileEntry" ∈ xT := xT_in (List.mem_append_right _ (List.mem_append_left _ (List.mem_of_getElem? (i := 2) rfl)) : _ ∈ lw_tbl) rfl
theorem kw3 : Cond.initialized "ChunkStore$Chunk" ∈ xT := xT_in (List.mem_append_right _ (List.mem_append_left _ (List.mem_of_getElem? (i := 3) rfl)) : _ ∈ lw_tbl) rfl
theorem kw4 : Cond.initialized "ChunkStore$Server" ∈ xT := xT_in (List.mem_append_right _ (List.mem_append_left _ (List.mem_of_getElem? (i := 4) rfl)) : _ ∈ lw_tbl) rfl
theorem kw5 : Cond.initialized "ChunkStore$Kept" ∈ xT := xT_in (List.mem_append_right _ (List.mem_append_left _ (List.mem_of_getElem? (i := 5) rfl)) : _ ∈ lw_tbl) rfl
theorem kw6 : Cond.initialized "ChunkStoreModel" ∈ xT := xT_in (List.mem_append_right _ (List.mem_append_left _ (List.mem_of_getElem? (i := 6) rfl)) : _ ∈ lw_tbl) rfl
theorem kw7 : Cond.initialized "java/lang/Throwable" ∈ xT := xT_in (List.mem_append_right _ (List.mem_append_left _ (List.mem_of_getElem? (i := 7) rfl)) : _ ∈ lw_tbl) rfl
theorem kw8 : Cond.initialized "java/lang/Exception" ∈ xT := xT_in (List.mem_append_right _ (List.mem_append_left _ (List.mem_of_getElem? (i := 8) rfl)) : _ ∈ lw_tbl) rfl
theorem kw9 : Cond.initialized "java/lang/RuntimeException" ∈ xT := xT_in (List.mem_append_right _ (List.mem_append_left _ (List.mem_of_getElem? (i := 9) rfl)) : _ ∈ lw_tbl) rfl
theorem kw10 : Cond.initialized "java/lang/IllegalArgumentException" ∈ xT := xT_in (List.mem_append_right _ (List.mem_append_left _ (List.mem_of_getElem? (i := 10) rfl)) : _ ∈ lw_tbl) rfl
theorem kw11 : Cond.initialized "java/lang/IllegalStateException" ∈ xT := xT_in (List.mem_append_right _ (List.mem_append_left _ (List.mem_of_getElem? (i := 11) rfl)) : _ ∈ lw_tbl) rfl
theorem kw12 : Cond.initialized "java/util/NoSuchElementException" ∈ xT := xT_in (List.mem_append_right _ (List.mem_append_left _ (List.mem_of_getElem? (i := 12) rfl)) : _ ∈ lw_tbl) rfl
theorem kw13 : Cond.initialized "java/lang/IndexOutOfBoundsException" ∈ xT := xT_in (List.mem_append_right _ (List.mem_append_left _ (List.mem_of_getElem? (i := 13) rfl)) : _ ∈ lw_tbl) rfl
theorem kw14 : Cond.initialized "java/lang/UnsupportedOperationException" ∈ xT := xT_in (List.mem_append_right _ (List.mem_append_left _ (List.mem_of_getElem? (i := 14) rfl)) : _ ∈ lw_tbl) rfl
theorem kw15 : Cond.initialized "java/lang/Math" ∈ xT := xT_in (List.mem_append_right _ (List.mem_append_left _ (List.mem_of_getElem? (i := 15) rfl)) : _ ∈ lw_tbl) rfl
theorem kw16 : Cond.initialized "java/lang/Integer" ∈ xT := xT_in (List.mem_append_right _ (List.mem_append_left _ (List.mem_of_getElem? (i := 16) rfl)) : _ ∈ lw_tbl) rfl
theorem kw17 : Cond.initialized "java/lang/ArithmeticException" ∈ xT := xT_in (List.mem_append_right _ (List.mem_append_left _ (List.mem_of_getElem? (i := 17) rfl)) : _ ∈ lw_tbl) rfl
theorem kw18 : Cond.classLink "ChunkStoreLaw" 8 "ChunkStore" ∈ xT := xT_in (List.mem_append_right _ (List.mem_append_left _ (List.mem_of_getElem? (i := 18) rfl)) : _ ∈ lw_tbl) rfl
theorem kw19 : Cond.instantiable "ChunkStore" 6 ∈ xT := xT_in (List.mem_append_right _ (List.mem_append_left _ (List.mem_of_getElem? (i := 19) rfl)) : _ ∈ lw_tbl) rfl
theorem kw20 : Cond.methodLink "ChunkStoreLaw" 81 (⟨"ChunkStore", "<init>", "()V"⟩ : MethodName) ∈ xT := xT_in (List.mem_append_right _ (List.mem_append_left _ (List.mem_of_getElem? (i := 20) rfl)) : _ ∈ lw_tbl) rfl
theorem kw21 : Cond.instanceMethod (⟨"ChunkStore", "<init>", "()V"⟩ : MethodName) ∈ xT := xT_in (List.mem_append_right _ (List.mem_append_left _ (List.mem_of_getElem? (i := 21) rfl)) : _ ∈ lw_tbl) rfl
theorem kw22 : Cond.code (⟨"ChunkStore", "<init>", "()V"⟩ : MethodName) prog_1_method_1_code 2 none ∈ xT := xT_in (List.mem_append_right _ (List.mem_append_left _ (List.mem_of_getElem? (i := 22) rfl)) : _ ∈ lw_tbl) rfl
theorem kw23 : Cond.methodLink "ChunkStore" 3 (⟨"java/lang/Object", "<init>", "()V"⟩ : MethodName) ∈ xT := xT_in (List.mem_append_right _ (List.mem_append_left _ (List.mem_of_getElem? (i := 23) rfl)) : _ ∈ lw_tbl) rfl
theorem kw24 : Cond.instanceMethod (⟨"java/lang/Object", "<init>", "()V"⟩ : MethodName) ∈ xT := xT_in (List.mem_append_right _ (List.mem_append_left _ (List.mem_of_getElem? (i := 24) rfl)) : _ ∈ lw_tbl) rfl
theorem kw25 : Cond.code (⟨"java/lang/Object", "<init>", "()V"⟩ : MethodName) object_method_1_code 1 none ∈ xT := xT_in (List.mem_append_right _ (List.mem_append_left _ (List.mem_of_getElem? (i := 25) rfl)) : _ ∈ lw_tbl) rfl
theorem kw26 : Cond.classLink "ChunkStore" 9 "ChunkStore$FileEntry" ∈ xT := xT_in (List.mem_append_right _ (List.mem_append_left _ (List.mem_of_getElem? (i := 26) rfl)) : _ ∈ lw_tbl) rfl
theorem kw28 : Cond.instantiable "ChunkStore$FileEntry" 4 ∈ xT := xT_in (List.mem_append_right _ (List.mem_append_left _ (List.mem_of_getElem? (i := 28) rfl)) : _ ∈ lw_tbl) rfl
theorem kn29 : Cond.methodLinkNest "ChunkStore" 15 (⟨"ChunkStore$FileEntry", "<init>", "()V"⟩ : MethodName) "ChunkStore" ∈ xN := xN_in (List.mem_append_right _ (List.mem_append_left _ (List.mem_of_getElem? (i := 29) rfl)) : _ ∈ lw_tbl) rfl
theorem kw30 : Cond.instanceMethod (⟨"ChunkStore$FileEntry", "<init>", "()V"⟩ : MethodName) ∈ xT := xT_in (List.mem_append_right _ (List.mem_append_left _ (List.mem_of_getElem? (i := 30) rfl)) : _ ∈ lw_tbl) rfl
theorem kw31 : Cond.code (⟨"ChunkStore$FileEntry", "<init>", "()V"⟩ : MethodName) prog_3_method_1_code 1 none ∈ xT := xT_in (List.mem_append_right _ (List.mem_append_left _ (List.mem_of_getElem? (i := 31) rfl)) : _ ∈ lw_tbl) rfl
theorem kw32 : Cond.methodLink "ChunkStore$FileEntry" 3 (⟨"java/lang/Object", "<init>", "()V"⟩ : MethodName) ∈ xT := xT_in (List.mem_append_right _ (List.mem_append_left _ (List.mem_of_getElem? (i := 32) rfl)) : _ ∈ lw_tbl) rfl
theorem kw33 : Cond.fieldLink "ChunkStore$FileEntry" 9 "ChunkStore$FileEntry" "row" "[I" ∈ xT := xT_in (List.mem_append_right _ (List.mem_append_left _ (List.mem_of_getElem? (i := 33) rfl)) : _ ∈ lw_tbl) rfl
theorem kn34 : Cond.fieldLinkNest "ChunkStore" 73 "ChunkStore$FileEntry" "row" "[I" "ChunkStore" ∈ xN := xN_in (List.mem_append_right _ (List.mem_append_left _ (List.mem_of_getElem? (i := 34) rfl)) : _ ∈ lw_tbl) rfl
theorem kw35 : Cond.fieldLink "ChunkStore$FileEntry" 15 "ChunkStore$FileEntry" "count" "I" ∈ xT := xT_in (List.mem_append_right _ (List.mem_append_left _ (List.mem_of_getElem? (i := 35) rfl)) : _ ∈ lw_tbl) rfl
theorem kn36 : Cond.fieldLinkNest "ChunkStore" 63 "ChunkStore$FileEntry" "count" "I" "ChunkStore" ∈ xN := xN_in (List.mem_append_right _ (List.mem_append_left _ (List.mem_of_getElem? (i := 36) rfl)) : _ ∈ lw_tbl) rfl
theorem kn37 : Cond.fieldLinkNest "ChunkStore" 45 "ChunkStore$FileEntry" "state" "I" "ChunkStore" ∈ xN := xN_in (List.mem_append_right _ (List.mem_append_left _ (List.mem_of_getElem? (i := 37) rfl)) : _ ∈ lw_tbl) rfl
theorem kn38 : Cond.fieldLinkNest "ChunkStore" 60 "ChunkStore$FileEntry" "hiddenSince" "D" "ChunkStore" ∈ xN := xN_in (List.mem_append_right _ (List.mem_append_left _ (List.mem_of_getElem? (i := 38) rfl)) : _ ∈ lw_tbl) rfl
theorem kw39 : Cond.laysFinal "ChunkStore$FileEntry" "ChunkStore$FileEntry" "row" "[I" ∈ xT := xT_in (List.mem_append_right _ (List.mem_append_left _ (List.mem_of_getElem? (i := 39) rfl)) : _ ∈ lw_tbl) rfl
theorem kw40 : Cond.soleField "ChunkStore$FileEntry" "row" ∈ xT := xT_in (List.mem_append_right _ (List.mem_append_left _ (List.mem_of_getElem? (i := 40) rfl)) : _ ∈ lw_tbl) rfl
theorem kw41 : Cond.lays "ChunkStore$FileEntry" "ChunkStore$FileEntry" "count" "I" ∈ xT := xT_in (List.mem_append_right _ (List.mem_append_left _ (List.mem_of_getElem? (i := 41) rfl)) : _ ∈ lw_tbl) rfl
theorem kw42 : Cond.soleField "ChunkStore$FileEntry" "count" ∈ xT := xT_in (List.mem_append_right _ (List.mem_append_left _ (List.mem_of_getElem? (i := 42) rfl)) : _ ∈ lw_tbl) rfl
theorem kw43 : Cond.lays "ChunkStore$FileEntry" "ChunkStore$FileEntry" "state" "I" ∈ xT := xT_in (List.mem_append_right _ (List.mem_append_left _ (List.mem_of_getElem? (i := 43) rfl)) : _ ∈ lw_tbl) rfl
theorem kw44 : Cond.soleField "ChunkStore$FileEntry" "state" ∈ xT := xT_in (List.mem_append_right _ (List.mem_append_left _ (List.mem_of_getElem? (i := 44) rfl)) : _ ∈ lw_tbl) rfl
theorem kw45 : Cond.lays "ChunkStore$FileEntry" "ChunkStore$FileEntry" "hiddenSince" "D" ∈ xT := xT_in (List.mem_append_right _ (List.mem_append_left _ (List.mem_of_getElem? (i := 45) rfl)) : _ ∈ lw_tbl) rfl
theorem kw46 : Cond.soleField "ChunkStore$FileEntry" "hiddenSince" ∈ xT := xT_in (List.mem_append_right _ (List.mem_append_left _ (List.mem_of_getElem? (i := 46) rfl)) : _ ∈ lw_tbl) rfl
theorem kw47 : Cond.superclass "ChunkStore$FileEntry" "java/lang/Object" ∈ xT := xT_in (List.mem_append_right _ (List.mem_append_left _ (List.mem_of_getElem? (i := 47) rfl)) : _ ∈ lw_tbl) rfl
theorem kw49 : Cond.classLink "ChunkStore" 16 "ChunkStore$Chunk" ∈ xT := xT_in (List.mem_append_right _ (List.mem_append_left _ (List.mem_of_getElem? (i := 49) rfl)) : _ ∈ lw_tbl) rfl
theorem kw51 : Cond.instantiable "ChunkStore$Chunk" 4 ∈ xT := xT_in (List.mem_append_right _ (List.mem_append_left _ (List.mem_of_getElem? (i := 51) rfl)) : _ ∈ lw_tbl) rfl
theorem kn52 : Cond.methodLinkNest "ChunkStore" 22 (⟨"ChunkStore$Chunk", "<init>", "()V"⟩ : MethodName) "ChunkStore" ∈ xN := xN_in (List.mem_append_right _ (List.mem_append_left _ (List.mem_of_getElem? (i := 52) rfl)) : _ ∈ lw_tbl) rfl
theorem kw53 : Cond.instanceMethod (⟨"ChunkStore$Chunk", "<init>", "()V"⟩ : MethodName) ∈ xT := xT_in (List.mem_append_right _ (List.mem_append_left _ (List.mem_of_getElem? (i := 53) rfl)) : _ ∈ lw_tbl) rfl
theorem kw54 : Cond.code (⟨"ChunkStore$Chunk", "<init>", "()V"⟩ : MethodName) prog_2_method_1_code 1 none ∈ xT := xT_in (List.mem_append_right _ (List.mem_append_left _ (List.mem_of_getElem? (i := 54) rfl)) : _ ∈ lw_tbl) rfl
theorem kw55 : Cond.methodLink "ChunkStore$Chunk" 1 (⟨"java/lang/Object", "<init>", "()V"⟩ : MethodName) ∈ xT := xT_in (List.mem_append_right _ (List.mem_append_left _ (List.mem_of_getElem? (i := 55) rfl)) : _ ∈ lw_tbl) rfl
theorem kn56 : Cond.fieldLinkNest "ChunkStore" 110 "ChunkStore$Chunk" "version" "I" "ChunkStore" ∈ xN := xN_in (List.mem_append_right _ (List.mem_append_left _ (List.mem_of_getElem? (i := 56) rfl)) : _ ∈ lw_tbl) rfl
theorem kn57 : Cond.fieldLinkNest "ChunkStore" 80 "ChunkStore$Chunk" "refs" "I" "ChunkStore" ∈ xN := xN_in (List.mem_append_right _ (List.mem_append_left _ (List.mem_of_getElem? (i := 57) rfl)) : _ ∈ lw_tbl) rfl
theorem kn58 : Cond.fieldLinkNest "ChunkStore" 179 "ChunkStore$Chunk" "holders" "I" "ChunkStore" ∈ xN := xN_in (List.mem_append_right _ (List.mem_append_left _ (List.mem_of_getElem? (i := 58) rfl)) : _ ∈ lw_tbl) rfl
theorem kn59 : Cond.fieldLinkNest "ChunkStore" 77 "ChunkStore$Chunk" "leaseEnd" "D" "ChunkStore" ∈ xN := xN_in (List.mem_append_right _ (List.mem_append_left _ (List.mem_of_getElem? (i := 59) rfl)) : _ ∈ lw_tbl) rfl
theorem kw60 : Cond.lays "ChunkStore$Chunk" "ChunkStore$Chunk" "version" "I" ∈ xT := xT_in (List.mem_append_right _ (List.mem_append_left _ (List.mem_of_getElem? (i := 60) rfl)) : _ ∈ lw_tbl) rfl
theorem kw61 : Cond.soleField "ChunkStore$Chunk" "version" ∈ xT := xT_in (List.mem_append_right _ (List.mem_append_left _ (List.mem_of_getElem? (i := 61) rfl)) : _ ∈ lw_tbl) rfl
theorem kw62 : Cond.lays "ChunkStore$Chunk" "ChunkStore$Chunk" "refs" "I" ∈ xT := xT_in (List.mem_append_right _ (List.mem_append_left _ (List.mem_of_getElem? (i := 62) rfl)) : _ ∈ lw_tbl) rfl
theorem kw63 : Cond.soleField "ChunkStore$Chunk" "refs" ∈ xT := xT_in (List.mem_append_right _ (List.mem_append_left _ (List.mem_of_getElem? (i := 63) rfl)) : _ ∈ lw_tbl) rfl
theorem kw64 : Cond.lays "ChunkStore$Chunk" "ChunkStore$Chunk" "holders" "I" ∈ xT := xT_in (List.mem_append_right _ (List.mem_append_left _ (List.mem_of_getElem? (i := 64) rfl)) : _ ∈ lw_tbl) rfl
theorem kw65 : Cond.soleField "ChunkStore$Chunk" "holders" ∈ xT := xT_in (List.mem_append_right _ (List.mem_append_left _ (List.mem_of_getElem? (i := 65) rfl)) : _ ∈ lw_tbl) rfl
theorem kw66 : Cond.lays "ChunkStore$Chunk" "ChunkStore$Chunk" "leaseEnd" "D" ∈ xT := xT_in (List.mem_append_right _ (List.mem_append_left _ (List.mem_of_getElem? (i := 66) rfl)) : _ ∈ lw_tbl) rfl
theorem kw67 : Cond.soleField "ChunkStore$Chunk" "leaseEnd" ∈ xT := xT_in (List.mem_append_right _ (List.mem_append_left _ (List.mem_of_getElem? (i := 67) rfl)) : _ ∈ lw_tbl) rfl
theorem kw68 : Cond.superclass "ChunkStore$Chunk" "java/lang/Object" ∈ xT := xT_in (List.mem_append_right _ (List.mem_append_left _ (List.mem_of_getElem? (i := 68) rfl)) : _ ∈ lw_tbl) rfl
theorem kw69 : Cond.classLink "ChunkStore" 23 "ChunkStore$Server" ∈ xT := xT_in (List.mem_append_right _ (List.mem_append_left _ (List.mem_of_getElem? (i := 69) rfl)) : _ ∈ lw_tbl) rfl
theorem kw71 : Cond.instantiable "ChunkStore$Server" 5 ∈ xT := xT_in (List.mem_append_right _ (List.mem_append_left _ (List.mem_of_getElem? (i := 71) rfl)) : _ ∈ lw_tbl) rfl
theorem kn72 : Cond.methodLinkNest "ChunkStore" 29 (⟨"ChunkStore$Server", "<init>", "()V"⟩ : MethodName) "ChunkStore" ∈ xN := xN_in (List.mem_append_right _ (List.mem_append_left _ (List.mem_of_getElem? (i := 72) rfl)) : _ ∈ lw_tbl) rfl
theorem kw73 : Cond.instanceMethod (⟨"ChunkStore$Server", "<init>", "()V"⟩ : MethodName) ∈ xT := xT_in (List.mem_append_right _ (List.mem_append_left _ (List.mem_of_getElem? (i := 73) rfl)) : _ ∈ lw_tbl) rfl
theorem kw74 : Cond.code (⟨"ChunkStore$Server", "<init>", "()V"⟩ : MethodName) prog_5_method_1_code 1 none ∈ xT := xT_in (List.mem_append_right _ (List.mem_append_left _ (List.mem_of_getElem? (i := 74) rfl)) : _ ∈ lw_tbl) rfl
theorem kw75 : Cond.methodLink "ChunkStore$Server" 3 (⟨"java/lang/Object", "<init>", "()V"⟩ : MethodName) ∈ xT := xT_in (List.mem_append_right _ (List.mem_append_left _ (List.mem_of_getElem? (i := 75) rfl)) : _ ∈ lw_tbl) rfl
theorem kw76 : Cond.fieldLink "ChunkStore$Server" 9 "ChunkStore$Server" "versions" "[I" ∈ xT := xT_in (List.mem_append_right _ (List.mem_append_left _ (List.mem_of_getElem? (i := 76) rfl)) : _ ∈ lw_tbl) rfl
theorem kn77 : Cond.fieldLinkNest "ChunkStore" 131 "ChunkStore$Server" "versions" "[I" "ChunkStore" ∈ xN := xN_in (List.mem_append_right _ (List.mem_append_left _ (List.mem_of_getElem? (i := 77) rfl)) : _ ∈ lw_tbl) rfl
theorem kw78 : Cond.fieldLink "ChunkStore$Server" 15 "ChunkStore$Server" "used" "[I" ∈ xT := xT_in (List.mem_append_right _ (List.mem_append_left _ (List.mem_of_getElem? (i := 78) rfl)) : _ ∈ lw_tbl) rfl
theorem kn79 : Cond.fieldLinkNest "ChunkStore" 200 "ChunkStore$Server" "used" "[I" "ChunkStore" ∈ xN := xN_in (List.mem_append_right _ (List.mem_append_left _ (List.mem_of_getElem? (i := 79) rfl)) : _ ∈ lw_tbl) rfl
theorem kw80 : Cond.fieldLink "ChunkStore$Server" 18 "ChunkStore$Server" "words" "[I" ∈ xT := xT_in (List.mem_append_right _ (List.mem_append_left _ (List.mem_of_getElem? (i := 80) rfl)) : _ ∈ lw_tbl) rfl
theorem kw81 : Cond.fieldLink "ChunkStore$Server" 21 "ChunkStore$Server" "isUp" "Z" ∈ xT := xT_in (List.mem_append_right _ (List.mem_append_left _ (List.mem_of_getElem? (i := 81) rfl)) : _ ∈ lw_tbl) rfl
theorem kn82 : Cond.fieldLinkNest "ChunkStore" 127 "ChunkStore$Server" "isUp" "Z" "ChunkStore" ∈ xN := xN_in (List.mem_append_right _ (List.mem_append_left _ (List.mem_of_getElem? (i := 82) rfl)) : _ ∈ lw_tbl) rfl
theorem kw83 : Cond.fieldLink "ChunkStore$Server" 25 "ChunkStore$Server" "replicas" "I" ∈ xT := xT_in (List.mem_append_right _ (List.mem_append_left _ (List.mem_of_getElem? (i := 83) rfl)) : _ ∈ lw_tbl) rfl
theorem kn84 : Cond.fieldLinkNest "ChunkStore" 146 "ChunkStore$Server" "replicas" "I" "ChunkStore" ∈ xN := xN_in (List.mem_append_right _ (List.mem_append_left _ (List.mem_of_getElem? (i := 84) rfl)) : _ ∈ lw_tbl) rfl
theorem kw85 : Cond.laysFinal "ChunkStore$Server" "ChunkStore$Server" "versions" "[I" ∈ xT := xT_in (List.mem_append_right _ (List.mem_append_left _ (List.mem_of_getElem? (i := 85) rfl)) : _ ∈ lw_tbl) rfl
theorem kw86 : Cond.soleField "ChunkStore$Server" "versions" ∈ xT := xT_in (List.mem_append_right _ (List.mem_append_left _ (List.mem_of_getElem? (i := 86) rfl)) : _ ∈ lw_tbl) rfl
theorem kw87 : Cond.laysFinal "ChunkStore$Server" "ChunkStore$Server" "used" "[I" ∈ xT := xT_in (List.mem_append_right _ (List.mem_append_left _ (List.mem_of_getElem? (i := 87) rfl)) : _ ∈ lw_tbl) rfl
theorem kw88 : Cond.soleField "ChunkStore$Server" "used" ∈ xT := xT_in (List.mem_append_right _ (List.mem_append_left _ (List.mem_of_getElem? (i := 88) rfl)) : _ ∈ lw_tbl) rfl
theorem kw89 : Cond.laysFinal "ChunkStore$Server" "ChunkStore$Server" "words" "[I" ∈ xT := xT_in (List.mem_append_right _ (List.mem_append_left _ (List.mem_of_getElem? (i := 89) rfl)) : _ ∈ lw_tbl) rfl
theorem kw90 : Cond.soleField "ChunkStore$Server" "words" ∈ xT := xT_in (List.mem_append_right _ (List.mem_append_left _ (List.mem_of_getElem? (i := 90) rfl)) : _ ∈ lw_tbl) rfl
theorem kw91 : Cond.lays "ChunkStore$Server" "ChunkStore$Server" "isUp" "Z" ∈ xT := xT_in (List.mem_append_right _ (List.mem_append_left _ (List.mem_of_getElem? (i := 91) rfl)) : _ ∈ lw_tbl) rfl
theorem kw92 : Cond.soleField "ChunkStore$Server" "isUp" ∈ xT := xT_in (List.mem_append_right _ (List.mem_append_left _ (List.mem_of_getElem? (i := 92) rfl)) : _ ∈ lw_tbl) rfl
theorem kw93 : Cond.lays "ChunkStore$Server" "ChunkStore$Server" "replicas" "I" ∈ xT := xT_in (List.mem_append_right _ (List.mem_append_left _ (List.mem_of_getElem? (i := 93) rfl)) : _ ∈ lw_tbl) rfl
theorem kw94 : Cond.soleField "ChunkStore$Server" "replicas" ∈ xT := xT_in (List.mem_append_right _ (List.mem_append_left _ (List.mem_of_getElem? (i := 94) rfl)) : _ ∈ lw_tbl) rfl
theorem kw95 : Cond.superclass "ChunkStore$Server" "java/lang/Object" ∈ xT := xT_in (List.mem_append_right _ (List.mem_append_left _ (List.mem_of_getElem? (i := 95) rfl)) : _ ∈ lw_tbl) rfl
theorem kw96 : Cond.classLink "ChunkStore" 30 "ChunkStore$Kept" ∈ xT := xT_in (List.mem_append_right _ (List.mem_append_left _ (List.mem_of_getElem? (i := 96) rfl)) : _ ∈ lw_tbl) rfl
theorem kw98 : Cond.instantiable "ChunkStore$Kept" 4 ∈ xT := xT_in (List.mem_append_right _ (List.mem_append_left _ (List.mem_of_getElem? (i := 98) rfl)) : _ ∈ lw_tbl) rfl
theorem kn99 : Cond.methodLinkNest "ChunkStore" 36 (⟨"ChunkStore$Kept", "<init>", "()V"⟩ : MethodName) "ChunkStore" ∈ xN := xN_in (List.mem_append_right _ (List.mem_append_left _ (List.mem_of_getElem? (i := 99) rfl)) : _ ∈ lw_tbl) rfl
theorem kw100 : Cond.instanceMethod (⟨"ChunkStore$Kept", "<init>", "()V"⟩ : MethodName) ∈ xT := xT_in (List.mem_append_right _ (List.mem_append_left _ (List.mem_of_getElem? (i := 100) rfl)) : _ ∈ lw_tbl) rfl
theorem kw101 : Cond.code (⟨"ChunkStore$Kept", "<init>", "()V"⟩ : MethodName) prog_4_method_1_code 1 none ∈ xT := xT_in (List.mem_append_right _ (List.mem_append_left _ (List.mem_of_getElem? (i := 101) rfl)) : _ ∈ lw_tbl) rfl
theorem kw102 : Cond.methodLink "ChunkStore$Kept" 1 (⟨"java/lang/Object", "<init>", "()V"⟩ : MethodName) ∈ xT := xT_in (List.mem_append_right _ (List.mem_append_left _ (List.mem_of_getElem? (i := 102) rfl)) : _ ∈ lw_tbl) rfl
theorem kn103 : Cond.fieldLinkNest "ChunkStore" 134 "ChunkStore$Kept" "number" "I" "ChunkStore" ∈ xN := xN_in (List.mem_append_right _ (List.mem_append_left _ (List.mem_of_getElem? (i := 103) rfl)) : _ ∈ lw_tbl) rfl
theorem kn104 : Cond.fieldLinkNest "ChunkStore" 95 "ChunkStore$Kept" "version" "I" "ChunkStore" ∈ xN := xN_in (List.mem_append_right _ (List.mem_append_left _ (List.mem_of_getElem? (i := 104) rfl)) : _ ∈ lw_tbl) rfl
theorem kn105 : Cond.fieldLinkNest "ChunkStore" 115 "ChunkStore$Kept" "holders" "I" "ChunkStore" ∈ xN := xN_in (List.mem_append_right _ (List.mem_append_left _ (List.mem_of_getElem? (i := 105) rfl)) : _ ∈ lw_tbl) rfl
theorem kn106 : Cond.fieldLinkNest "ChunkStore" 242 "ChunkStore$Kept" "end" "D" "ChunkStore" ∈ xN := xN_in (List.mem_append_right _ (List.mem_append_left _ (List.mem_of_getElem? (i := 106) rfl)) : _ ∈ lw_tbl) rfl
theorem kw107 : Cond.lays "ChunkStore$Kept" "ChunkStore$Kept" "number" "I" ∈ xT := xT_in (List.mem_append_right _ (List.mem_append_left _ (List.mem_of_getElem? (i := 107) rfl)) : _ ∈ lw_tbl) rfl
theorem kw108 : Cond.soleField "ChunkStore$Kept" "number" ∈ xT := xT_in (List.mem_append_right _ (List.mem_append_left _ (List.mem_of_getElem? (i := 108) rfl)) : _ ∈ lw_tbl) rfl
theorem kw109 : Cond.lays "ChunkStore$Kept" "ChunkStore$Kept" "version" "I" ∈ xT := xT_in (List.mem_append_right _ (List.mem_append_left _ (List.mem_of_getElem? (i := 109) rfl)) : _ ∈ lw_tbl) rfl
theorem kw110 : Cond.soleField "ChunkStore$Kept" "version" ∈ xT := xT_in (List.mem_append_right _ (List.mem_append_left _ (List.mem_of_getElem? (i := 110) rfl)) : _ ∈ lw_tbl) rfl
theorem kw111 : Cond.lays "ChunkStore$Kept" "ChunkStore$Kept" "holders" "I" ∈ xT := xT_in (List.mem_append_right _ (List.mem_append_left _ (List.mem_of_getElem? (i := 111) rfl)) : _ ∈ lw_tbl) rfl
theorem kw112 : Cond.soleField "ChunkStore$Kept" "holders" ∈ xT := xT_in (List.mem_append_right _ (List.mem_append_left _ (List.mem_of_getElem? (i := 112) rfl)) : _ ∈ lw_tbl) rfl
theorem kw113 : Cond.lays "ChunkStore$Kept" "ChunkStore$Kept" "end" "D" ∈ xT := xT_in (List.mem_append_right _ (List.mem_append_left _ (List.mem_of_getElem? (i := 113) rfl)) : _ ∈ lw_tbl) rfl
theorem kw114 : Cond.soleField "ChunkStore$Kept" "end" ∈ xT := xT_in (List.mem_append_right _ (List.mem_append_left _ (List.mem_of_getElem? (i := 114) rfl)) : _ ∈ lw_tbl) rfl
theorem kw115 : Cond.superclass "ChunkStore$Kept" "java/lang/Object" ∈ xT := xT_in (List.mem_append_right _ (List.mem_append_left _ (List.mem_of_getElem? (i := 115) rfl)) : _ ∈ lw_tbl) rfl
theorem kw116 : Cond.fieldLink "ChunkStore" 11 "ChunkStore" "files" "[LChunkStore$FileEntry;" ∈ xT := xT_in (List.mem_append_right _ (List.mem_append_left _ (List.mem_of_getElem? (i := 116) rfl)) : _ ∈ lw_tbl) rfl
theorem kw117 : Cond.fieldLink "ChunkStore" 18 "ChunkStore" "chunks" "[LChunkStore$Chunk;" ∈ xT := xT_in (List.mem_append_right _ (List.mem_append_left _ (List.mem_of_getElem? (i := 117) rfl)) : _ ∈ lw_tbl) rfl
theorem kw118 : Cond.fieldLink "ChunkStore" 25 "ChunkStore" "servers" "[LChunkStore$Server;" ∈ xT := xT_in (List.mem_append_right _ (List.mem_append_left _ (List.mem_of_getElem? (i := 118) rfl)) : _ ∈ lw_tbl) rfl
theorem kw119 : Cond.fieldLink "ChunkStore" 32 "ChunkStore" "keeps" "[LChunkStore$Kept;" ∈ xT := xT_in (List.mem_append_right _ (List.mem_append_left _ (List.mem_of_getElem? (i := 119) rfl)) : _ ∈ lw_tbl) rfl
theorem kw120 : Cond.fieldLink "ChunkStore" 151 "ChunkStore" "made" "I" ∈ xT := xT_in (List.mem_append_right _ (List.mem_append_left _ (List.mem_of_getElem? (i := 120) rfl)) : _ ∈ lw_tbl) rfl
theorem kw121 : Cond.fieldLink "ChunkStore" 56 "ChunkStore" "time" "D" ∈ xT := xT_in (List.mem_append_right _ (List.mem_append_left _ (List.mem_of_getElem? (i := 121) rfl)) : _ ∈ lw_tbl) rfl
theorem kw122 : Cond.laysFinal "ChunkStore" "ChunkStore" "files" "[LChunkStore$FileEntry;" ∈ xT := xT_in (List.mem_append_right _ (List.mem_append_left _ (List.mem_of_getElem? (i := 122) rfl)) : _ ∈ lw_tbl) rfl
theorem kw123 : Cond.soleField "ChunkStore" "files" ∈ xT := xT_in (List.mem_append_right _ (List.mem_append_left _ (List.mem_of_getElem? (i := 123) rfl)) : _ ∈ lw_tbl) rfl
theorem kw124 : Cond.laysFinal "ChunkStore" "ChunkStore" "chunks" "[LChunkStore$Chunk;" ∈ xT := xT_in (List.mem_append_right _ (List.mem_append_left _ (List.mem_of_getElem? (i := 124) rfl)) : _ ∈ lw_tbl) rfl
theorem kw125 : Cond.soleField "ChunkStore" "chunks" ∈ xT := xT_in (List.mem_append_right _ (List.mem_append_left _ (List.mem_of_getElem? (i := 125) rfl)) : _ ∈ lw_tbl) rfl
theorem kw126 : Cond.laysFinal "ChunkStore" "ChunkStore" "servers" "[LChunkStore$Server;" ∈ xT := xT_in (List.mem_append_right _ (List.mem_append_left _ (List.mem_of_getElem? (i := 126) rfl)) : _ ∈ lw_tbl) rfl
theorem kw127 : Cond.soleField "ChunkStore" "servers" ∈ xT := xT_in (List.mem_append_right _ (List.mem_append_left _ (List.mem_of_getElem? (i := 127) rfl)) : _ ∈ lw_tbl) rfl
theorem kw128 : Cond.laysFinal "ChunkStore" "ChunkStore" "keeps" "[LChunkStore$Kept;" ∈ xT := xT_in (List.mem_append_right _ (List.mem_append_left _ (List.mem_of_getElem? (i := 128) rfl)) : _ ∈ lw_tbl) rfl
theorem kw129 : Cond.soleField "ChunkStore" "keeps" ∈ xT := xT_in (List.mem_append_right _ (List.mem_append_left _ (List.mem_of_getElem? (i := 129) rfl)) : _ ∈ lw_tbl) rfl
theorem kw130 : Cond.lays "ChunkStore" "ChunkStore" "made" "I" ∈ xT := xT_in (List.mem_append_right _ (List.mem_append_left _ (List.mem_of_getElem? (i := 130) rfl)) : _ ∈ lw_tbl) rfl
theorem kw131 : Cond.soleField "ChunkStore" "made" ∈ xT := xT_in (List.mem_append_right _ (List.mem_append_left _ (List.mem_of_getElem? (i := 131) rfl)) : _ ∈ lw_tbl) rfl
theorem kw132 : Cond.lays "ChunkStore" "ChunkStore" "time" "D" ∈ xT := xT_in (List.mem_append_right _ (List.mem_append_left _ (List.mem_of_getElem? (i := 132) rfl)) : _ ∈ lw_tbl) rfl
theorem kw133 : Cond.soleField "ChunkStore" "time" ∈ xT := xT_in (List.mem_append_right _ (List.mem_append_left _ (List.mem_of_getElem? (i := 133) rfl)) : _ ∈ lw_tbl) rfl
theorem kw134 : Cond.superclass "ChunkStore" "java/lang/Object" ∈ xT := xT_in (List.mem_append_right _ (List.mem_append_left _ (List.mem_of_getElem? (i := 134) rfl)) : _ ∈ lw_tbl) rfl
theorem kw135 : Cond.methodLink "ChunkStoreLaw" 133 (⟨"ChunkStore", "sweep", "()I"⟩ : MethodName) ∈ xT := xT_in (List.mem_append_right _ (List.mem_append_left _ (List.mem_of_getElem? (i := 135) rfl)) : _ ∈ lw_tbl) rfl
theorem kw136 : Cond.instanceMethod (⟨"ChunkStore", "sweep", "()I"⟩ : MethodName) ∈ xT := xT_in (List.mem_append_right _ (List.mem_append_left _ (List.mem_of_getElem? (i := 136) rfl)) : _ ∈ lw_tbl) rfl
theorem kw137 : Cond.selects "ChunkStore" (⟨"ChunkStore", "sweep", "()I"⟩ : MethodName) (⟨"ChunkStore", "sweep", "()I"⟩ : MethodName) ∈ xT := xT_in (List.mem_append_right _ (List.mem_append_left _ (List.mem_of_getElem? (i := 137) rfl)) : _ ∈ lw_tbl) rfl
theorem kw138 : Cond.code (⟨"ChunkStore", "sweep", "()I"⟩ : MethodName) prog_1_method_14_code 3 (some FieldType.int) ∈ xT := xT_in (List.mem_append_right _ (List.mem_append_left _ (List.mem_of_getElem? (i := 138) rfl)) : _ ∈ lw_tbl) rfl
theorem kw139 : Cond.constantDouble "ChunkStore" 180 (4629137466983448576 : UInt64) ∈ xT := xT_in (List.mem_append_right _ (List.mem_append_left _ (List.mem_of_getElem? (i := 139) rfl)) : _ ∈ lw_tbl) rfl
theorem kw140 : Cond.methodLink "ChunkStore" 182 (⟨"ChunkStore", "forget", "(LChunkStore$FileEntry;)V"⟩ : MethodName) ∈ xT := xT_in (List.mem_append_right _ (List.mem_append_left _ (List.mem_of_getElem? (i := 140) rfl)) : _ ∈ lw_tbl) rfl
theorem kw142 : Cond.instanceMethod (⟨"ChunkStore", "forget", "(LChunkStore$FileEntry;)V"⟩ : MethodName) ∈ xT := xT_in (List.mem_append_right _ (List.mem_append_left _ (List.mem_of_getElem? (i := 142) rfl)) : _ ∈ lw_tbl) rfl
theorem kw143 : Cond.code (⟨"ChunkStore", "forget", "(LChunkStore$FileEntry;)V"⟩ : MethodName) prog_1_method_25_code 3 none ∈ xT := xT_in (List.mem_append_right _ (List.mem_append_left _ (List.mem_of_getElem? (i := 143) rfl)) : _ ∈ lw_tbl) rfl
theorem kw144 : Cond.methodLink "ChunkStoreLaw" 85 (⟨"ChunkStoreLaw", "create", "(LChunkStore;I[J)I"⟩ : MethodName) ∈ xT := xT_in (List.mem_append_right _ (List.mem_append_left _ (List.mem_of_getElem? (i := 144) rfl)) : _ ∈ lw_tbl) rfl
theorem kw145 : Cond.static (⟨"ChunkStoreLaw", "create", "(LChunkStore;I[J)I"⟩ : MethodName) ∈ xT := xT_in (List.mem_append_right _ (List.mem_append_left _ (List.mem_of_getElem? (i := 145) rfl)) : _ ∈ lw_tbl) rfl
theorem kw146 : Cond.codeWith (⟨"ChunkStoreLaw", "create", "(LChunkStore;I[J)I"⟩ : MethodName) method_3_code 4 (some FieldType.int) [(0, 9, 12, 13), (0, 9, 15, 15)] ∈ xT := xT_in (List.mem_append_right _ (List.mem_append_left _ (List.mem_of_getElem? (i := 146) rfl)) : _ ∈ lw_tbl) rfl
theorem kw147 : Cond.classLink "ChunkStoreLaw" 13 "java/lang/IllegalArgumentException" ∈ xT := xT_in (List.mem_append_right _ (List.mem_append_left _ (List.mem_of_getElem? (i := 147) rfl)) : _ ∈ lw_tbl) rfl
theorem kw148 : Cond.classLink "ChunkStoreLaw" 15 "java/lang/IllegalStateException" ∈ xT := xT_in (List.mem_append_right _ (List.mem_append_left _ (List.mem_of_getElem? (i := 148) rfl)) : _ ∈ lw_tbl) rfl
theorem kw149 : Cond.methodLink "ChunkStoreLaw" 7 (⟨"ChunkStore", "create", "(I)I"⟩ : MethodName) ∈ xT := xT_in (List.mem_append_right _ (List.mem_append_left _ (List.mem_of_getElem? (i := 149) rfl)) : _ ∈ lw_tbl) rfl
theorem kw150 : Cond.instanceMethod (⟨"ChunkStore", "create", "(I)I"⟩ : MethodName) ∈ xT := xT_in (List.mem_append_right _ (List.mem_append_left _ (List.mem_of_getElem? (i := 150) rfl)) : _ ∈ lw_tbl) rfl
theorem kw151 : Cond.selects "ChunkStore" (⟨"ChunkStore", "create", "(I)I"⟩ : MethodName) (⟨"ChunkStore", "create", "(I)I"⟩ : MethodName) ∈ xT := xT_in (List.mem_append_right _ (List.mem_append_left _ (List.mem_of_getElem? (i := 151) rfl)) : _ ∈ lw_tbl) rfl
theorem kw152 : Cond.code (⟨"ChunkStore", "create", "(I)I"⟩ : MethodName) prog_1_method_2_code 3 (some FieldType.int) ∈ xT := xT_in (List.mem_append_right _ (List.mem_append_left _ (List.mem_of_getElem? (i := 152) rfl)) : _ ∈ lw_tbl) rfl
theorem kw153 : Cond.methodLink "ChunkStore" 37 (⟨"ChunkStore", "checkRange", "(II)V"⟩ : MethodName) ∈ xT := xT_in (List.mem_append_right _ (List.mem_append_left _ (List.mem_of_getElem? (i := 153) rfl)) : _ ∈ lw_tbl) rfl
theorem kw154 : Cond.static (⟨"ChunkStore", "checkRange", "(II)V"⟩ : MethodName) ∈ xT := xT_in (List.mem_append_right _ (List.mem_append_left _ (List.mem_of_getElem? (i := 154) rfl)) : _ ∈ lw_tbl) rfl
theorem kw155 : Cond.code (⟨"ChunkStore", "checkRange", "(II)V"⟩ : MethodName) prog_1_method_20_code 2 none ∈ xT := xT_in (List.mem_append_right _ (List.mem_append_left _ (List.mem_of_getElem? (i := 155) rfl)) : _ ∈ lw_tbl) rfl
theorem kw156 : Cond.classLink "ChunkStore" 188 "java/lang/IllegalArgumentException" ∈ xT := xT_in (List.mem_append_right _ (List.mem_append_left _ (List.mem_of_getElem? (i := 156) rfl)) : _ ∈ lw_tbl) rfl
theorem kw157 : Cond.instantiable "java/lang/IllegalArgumentException" 6 ∈ xT := xT_in (List.mem_append_right _ (List.mem_append_left _ (List.mem_of_getElem? (i := 157) rfl)) : _ ∈ lw_tbl) rfl
theorem kn158 : Cond.castable "java/lang/IllegalArgumentException" "java/lang/IllegalArgumentException" ∈ xN := xN_in (List.mem_append_right _ (List.mem_append_left _ (List.mem_of_getElem? (i := 158) rfl)) : _ ∈ lw_tbl) rfl
theorem kn159 : Cond.declares (⟨"java/lang/RuntimeException", "<init>", "()V"⟩ : MethodName) ∈ xN := xN_in (List.mem_append_right _ (List.mem_append_left _ (List.mem_of_getElem? (i := 159) rfl)) : _ ∈ lw_tbl) rfl
theorem kn160 : Cond.declares (⟨"java/lang/RuntimeException", "<init>", "(Ljava/lang/String;)V"⟩ : MethodName) ∈ xN := xN_in (List.mem_append_right _ (List.mem_append_left _ (List.mem_of_getElem? (i := 160) rfl)) : _ ∈ lw_tbl) rfl
theorem kn161 : Cond.declares (⟨"java/lang/Exception", "<init>", "()V"⟩ : MethodName) ∈ xN := xN_in (List.mem_append_right _ (List.mem_append_left _ (List.mem_of_getElem? (i := 161) rfl)) : _ ∈ lw_tbl) rfl
theorem kn162 : Cond.declares (⟨"java/lang/Exception", "<init>", "(Ljava/lang/String;)V"⟩ : MethodName) ∈ xN := xN_in (List.mem_append_right _ (List.mem_append_left _ (List.mem_of_getElem? (i := 162) rfl)) : _ ∈ lw_tbl) rfl
theorem kn163 : Cond.declares (⟨"java/lang/Throwable", "<init>", "()V"⟩ : MethodName) ∈ xN := xN_in (List.mem_append_right _ (List.mem_append_left _ (List.mem_of_getElem? (i := 163) rfl)) : _ ∈ lw_tbl) rfl
theorem kn164 : Cond.declares (⟨"java/lang/Throwable", "<init>", "(Ljava/lang/String;)V"⟩ : MethodName) ∈ xN := xN_in (List.mem_append_right _ (List.mem_append_left _ (List.mem_of_getElem? (i := 164) rfl)) : _ ∈ lw_tbl) rfl
theorem kw165 : Cond.selects "java/lang/IllegalArgumentException" (⟨"java/lang/Throwable", "fillInStackTrace", "(I)Ljava/lang/Throwable;"⟩ : MethodName) (⟨"java/lang/Throwable", "fillInStackTrace", "(I)Ljava/lang/Throwable;"⟩ : MethodName) ∈ xT := xT_in (List.mem_append_right _ (List.mem_append_left _ (List.mem_of_getElem? (i := 165) rfl)) : _ ∈ lw_tbl) rfl
theorem kw166 : Cond.selects "java/lang/IllegalArgumentException" (⟨"java/lang/Throwable", "fillInStackTrace", "()Ljava/lang/Throwable;"⟩ : MethodName) (⟨"java/lang/Throwable", "fillInStackTrace", "()Ljava/lang/Throwable;"⟩ : MethodName) ∈ xT := xT_in (List.mem_append_right _ (List.mem_append_left _ (List.mem_of_getElem? (i := 166) rfl)) : _ ∈ lw_tbl) rfl
theorem kw167 : Cond.lays "java/lang/IllegalArgumentException" "java/lang/Throwable" "cause" "Ljava/lang/Throwable;" ∈ xT := xT_in (List.mem_append_right _ (List.mem_append_left _ (List.mem_of_getElem? (i := 167) rfl)) : _ ∈ lw_tbl) rfl
theorem kw168 : Cond.lays "java/lang/Throwable" "java/lang/Throwable" "cause" "Ljava/lang/Throwable;" ∈ xT := xT_in (List.mem_append_right _ (List.mem_append_left _ (List.mem_of_getElem? (i := 168) rfl)) : _ ∈ lw_tbl) rfl
theorem kw169 : Cond.lays "java/lang/IllegalArgumentException" "java/lang/Throwable" "stackTrace" "[Ljava/lang/StackTraceElement;" ∈ xT := xT_in (List.mem_append_right _ (List.mem_append_left _ (List.mem_of_getElem? (i := 169) rfl)) : _ ∈ lw_tbl) rfl
theorem kw170 : Cond.lays "java/lang/Throwable" "java/lang/Throwable" "stackTrace" "[Ljava/lang/StackTraceElement;" ∈ xT := xT_in (List.mem_append_right _ (List.mem_append_left _ (List.mem_of_getElem? (i := 170) rfl)) : _ ∈ lw_tbl) rfl
theorem kw171 : Cond.lays "java/lang/IllegalArgumentException" "java/lang/Throwable" "suppressedExceptions" "Ljava/util/List;" ∈ xT := xT_in (List.mem_append_right _ (List.mem_append_left _ (List.mem_of_getElem? (i := 171) rfl)) : _ ∈ lw_tbl) rfl
theorem kw172 : Cond.lays "java/lang/Throwable" "java/lang/Throwable" "suppressedExceptions" "Ljava/util/List;" ∈ xT := xT_in (List.mem_append_right _ (List.mem_append_left _ (List.mem_of_getElem? (i := 172) rfl)) : _ ∈ lw_tbl) rfl
theorem kw173 : Cond.lays "java/lang/IllegalArgumentException" "java/lang/Throwable" "detailMessage" "Ljava/lang/String;" ∈ xT := xT_in (List.mem_append_right _ (List.mem_append_left _ (List.mem_of_getElem? (i := 173) rfl)) : _ ∈ lw_tbl) rfl
theorem kw174 : Cond.lays "java/lang/Throwable" "java/lang/Throwable" "detailMessage" "Ljava/lang/String;" ∈ xT := xT_in (List.mem_append_right _ (List.mem_append_left _ (List.mem_of_getElem? (i := 174) rfl)) : _ ∈ lw_tbl) rfl
theorem kw175 : Cond.lays "java/lang/IllegalArgumentException" "java/lang/Throwable" "backtrace" "Ljava/lang/Object;" ∈ xT := xT_in (List.mem_append_right _ (List.mem_append_left _ (List.mem_of_getElem? (i := 175) rfl)) : _ ∈ lw_tbl) rfl
theorem kw176 : Cond.lays "java/lang/Throwable" "java/lang/Throwable" "backtrace" "Ljava/lang/Object;" ∈ xT := xT_in (List.mem_append_right _ (List.mem_append_left _ (List.mem_of_getElem? (i := 176) rfl)) : _ ∈ lw_tbl) rfl
theorem kw177 : Cond.fieldLink "java/lang/Throwable" 198 "java/lang/Throwable" "backtrace" "Ljava/lang/Object;" ∈ xT := xT_in (List.mem_append_right _ (List.mem_append_left _ (List.mem_of_getElem? (i := 177) rfl)) : _ ∈ lw_tbl) rfl
theorem kw178 : Cond.superclass "java/lang/Throwable" "java/lang/Object" ∈ xT := xT_in (List.mem_append_right _ (List.mem_append_left _ (List.mem_of_getElem? (i := 178) rfl)) : _ ∈ lw_tbl) rfl
theorem kw179 : Cond.instanceMethod (⟨"java/lang/Throwable", "<init>", "()V"⟩ : MethodName) ∈ xT := xT_in (List.mem_append_right _ (List.mem_append_left _ (List.mem_of_getElem? (i := 179) rfl)) : _ ∈ lw_tbl) rfl
theorem kw180 : Cond.code (⟨"java/lang/Throwable", "<init>", "()V"⟩ : MethodName) prog_17_method_1_code 1 none ∈ xT := xT_in (List.mem_append_right _ (List.mem_append_left _ (List.mem_of_getElem? (i := 180) rfl)) : _ ∈ lw_tbl) rfl
theorem kw181 : Cond.methodLink "java/lang/Throwable" 1 (⟨"java/lang/Object", "<init>", "()V"⟩ : MethodName) ∈ xT := xT_in (List.mem_append_right _ (List.mem_append_left _ (List.mem_of_getElem? (i := 181) rfl)) : _ ∈ lw_tbl) rfl
theorem kw182 : Cond.fieldLink "java/lang/Throwable" 13 "java/lang/Throwable" "UNASSIGNED_STACK" "[Ljava/lang/StackTraceElement;" ∈ xT := xT_in (List.mem_append_right _ (List.mem_append_left _ (List.mem_of_getElem? (i := 182) rfl)) : _ ∈ lw_tbl) rfl
theorem kw184 : Cond.fieldLink "java/lang/Throwable" 20 "java/lang/Throwable" "SUPPRESSED_SENTINEL" "Ljava/util/List;" ∈ xT := xT_in (List.mem_append_right _ (List.mem_append_left _ (List.mem_of_getElem? (i := 184) rfl)) : _ ∈ lw_tbl) rfl
theorem kw186 : Cond.methodLink "java/lang/Throwable" 27 (⟨"java/lang/Throwable", "fillInStackTrace", "()Ljava/lang/Throwable;"⟩ : MethodName) ∈ xT := xT_in (List.mem_append_right _ (List.mem_append_left _ (List.mem_of_getElem? (i := 186) rfl)) : _ ∈ lw_tbl) rfl
theorem kw187 : Cond.instanceMethod (⟨"java/lang/Throwable", "fillInStackTrace", "()Ljava/lang/Throwable;"⟩ : MethodName) ∈ xT := xT_in (List.mem_append_right _ (List.mem_append_left _ (List.mem_of_getElem? (i := 187) rfl)) : _ ∈ lw_tbl) rfl
theorem kw189 : Cond.selects "java/lang/ArithmeticException" (⟨"java/lang/Throwable", "fillInStackTrace", "()Ljava/lang/Throwable;"⟩ : MethodName) (⟨"java/lang/Throwable", "fillInStackTrace", "()Ljava/lang/Throwable;"⟩ : MethodName) ∈ xT := xT_in (List.mem_append_right _ (List.mem_append_left _ (List.mem_of_getElem? (i := 189) rfl)) : _ ∈ lw_tbl) rfl
theorem kw190 : Cond.selects "java/lang/IllegalStateException" (⟨"java/lang/Throwable", "fillInStackTrace", "()Ljava/lang/Throwable;"⟩ : MethodName) (⟨"java/lang/Throwable", "fillInStackTrace", "()Ljava/lang/Throwable;"⟩ : MethodName) ∈ xT := xT_in (List.mem_append_right _ (List.mem_append_left _ (List.mem_of_getElem? (i := 190) rfl)) : _ ∈ lw_tbl) rfl
theorem kw191 : Cond.selects "java/lang/IndexOutOfBoundsException" (⟨"java/lang/Throwable", "fillInStackTrace", "()Ljava/lang/Throwable;"⟩ : MethodName) (⟨"java/lang/Throwable", "fillInStackTrace", "()Ljava/lang/Throwable;"⟩ : MethodName) ∈ xT := xT_in (List.mem_append_right _ (List.mem_append_left _ (List.mem_of_getElem? (i := 191) rfl)) : _ ∈ lw_tbl) rfl
theorem kw192 : Cond.selects "java/lang/UnsupportedOperationException" (⟨"java/lang/Throwable", "fillInStackTrace", "()Ljava/lang/Throwable;"⟩ : MethodName) (⟨"java/lang/Throwable", "fillInStackTrace", "()Ljava/lang/Throwable;"⟩ : MethodName) ∈ xT := xT_in (List.mem_append_right _ (List.mem_append_left _ (List.mem_of_getElem? (i := 192) rfl)) : _ ∈ lw_tbl) rfl
theorem kw193 : Cond.selects "java/util/NoSuchElementException" (⟨"java/lang/Throwable", "fillInStackTrace", "()Ljava/lang/Throwable;"⟩ : MethodName) (⟨"java/lang/Throwable", "fillInStackTrace", "()Ljava/lang/Throwable;"⟩ : MethodName) ∈ xT := xT_in (List.mem_append_right _ (List.mem_append_left _ (List.mem_of_getElem? (i := 193) rfl)) : _ ∈ lw_tbl) rfl
theorem kw194 : Cond.codeSync (⟨"java/lang/Throwable", "fillInStackTrace", "()Ljava/lang/Throwable;"⟩ : MethodName) prog_17_method_18_code 1 (some (FieldType.object "java/lang/Throwable")) ∈ xT := xT_in (List.mem_append_right _ (List.mem_append_left _ (List.mem_of_getElem? (i := 194) rfl)) : _ ∈ lw_tbl) rfl
theorem kw195 : Cond.methodLink "java/lang/Throwable" 202 (⟨"java/lang/Throwable", "fillInStackTrace", "(I)Ljava/lang/Throwable;"⟩ : MethodName) ∈ xT := xT_in (List.mem_append_right _ (List.mem_append_left _ (List.mem_of_getElem? (i := 195) rfl)) : _ ∈ lw_tbl) rfl
theorem kw197 : Cond.instanceMethod (⟨"java/lang/Throwable", "fillInStackTrace", "(I)Ljava/lang/Throwable;"⟩ : MethodName) ∈ xT := xT_in (List.mem_append_right _ (List.mem_append_left _ (List.mem_of_getElem? (i := 197) rfl)) : _ ∈ lw_tbl) rfl
theorem kw198 : Cond.instantiable "java/lang/Throwable" 6 ∈ xT := xT_in (List.mem_append_right _ (List.mem_append_left _ (List.mem_of_getElem? (i := 198) rfl)) : _ ∈ lw_tbl) rfl
theorem kw199 : Cond.native (⟨"java/lang/Throwable", "fillInStackTrace", "(I)Ljava/lang/Throwable;"⟩ : MethodName) ∈ xT := xT_in (List.mem_append_right _ (List.mem_append_left _ (List.mem_of_getElem? (i := 199) rfl)) : _ ∈ lw_tbl) rfl
theorem kw201 : Cond.methodLink "ChunkStore" 192 (⟨"java/lang/IllegalArgumentException", "<init>", "(Ljava/lang/String;)V"⟩ : MethodName) ∈ xT := xT_in (List.mem_append_right _ (List.mem_append_left _ (List.mem_of_getElem? (i := 201) rfl)) : _ ∈ lw_tbl) rfl
theorem kw202 : Cond.instanceMethod (⟨"java/lang/IllegalArgumentException", "<init>", "(Ljava/lang/String;)V"⟩ : MethodName) ∈ xT := xT_in (List.mem_append_right _ (List.mem_append_left _ (List.mem_of_getElem? (i := 202) rfl)) : _ ∈ lw_tbl) rfl
theorem kw203 : Cond.code (⟨"java/lang/IllegalArgumentException", "<init>", "(Ljava/lang/String;)V"⟩ : MethodName) prog_10_method_2_code 2 none ∈ xT := xT_in (List.mem_append_right _ (List.mem_append_left _ (List.mem_of_getElem? (i := 203) rfl)) : _ ∈ lw_tbl) rfl
theorem kw204 : Cond.methodLink "java/lang/IllegalArgumentException" 7 (⟨"java/lang/RuntimeException", "<init>", "(Ljava/lang/String;)V"⟩ : MethodName) ∈ xT := xT_in (List.mem_append_right _ (List.mem_append_left _ (List.mem_of_getElem? (i := 204) rfl)) : _ ∈ lw_tbl) rfl
theorem kw205 : Cond.instanceMethod (⟨"java/lang/RuntimeException", "<init>", "(Ljava/lang/String;)V"⟩ : MethodName) ∈ xT := xT_in (List.mem_append_right _ (List.mem_append_left _ (List.mem_of_getElem? (i := 205) rfl)) : _ ∈ lw_tbl) rfl
theorem kw206 : Cond.code (⟨"java/lang/RuntimeException", "<init>", "(Ljava/lang/String;)V"⟩ : MethodName) prog_15_method_2_code 2 none ∈ xT := xT_in (List.mem_append_right _ (List.mem_append_left _ (List.mem_of_getElem? (i := 206) rfl)) : _ ∈ lw_tbl) rfl
theorem kw207 : Cond.methodLink "java/lang/RuntimeException" 7 (⟨"java/lang/Exception", "<init>", "(Ljava/lang/String;)V"⟩ : MethodName) ∈ xT := xT_in (List.mem_append_right _ (List.mem_append_left _ (List.mem_of_getElem? (i := 207) rfl)) : _ ∈ lw_tbl) rfl
theorem kw208 : Cond.instanceMethod (⟨"java/lang/Exception", "<init>", "(Ljava/lang/String;)V"⟩ : MethodName) ∈ xT := xT_in (List.mem_append_right _ (List.mem_append_left _ (List.mem_of_getElem? (i := 208) rfl)) : _ ∈ lw_tbl) rfl
theorem kw209 : Cond.code (⟨"java/lang/Exception", "<init>", "(Ljava/lang/String;)V"⟩ : MethodName) prog_9_method_2_code 2 none ∈ xT := xT_in (List.mem_append_right _ (List.mem_append_left _ (List.mem_of_getElem? (i := 209) rfl)) : _ ∈ lw_tbl) rfl
theorem kw210 : Cond.methodLink "java/lang/Exception" 7 (⟨"java/lang/Throwable", "<init>", "(Ljava/lang/String;)V"⟩ : MethodName) ∈ xT := xT_in (List.mem_append_right _ (List.mem_append_left _ (List.mem_of_getElem? (i := 210) rfl)) : _ ∈ lw_tbl) rfl
theorem kw211 : Cond.instanceMethod (⟨"java/lang/Throwable", "<init>", "(Ljava/lang/String;)V"⟩ : MethodName) ∈ xT := xT_in (List.mem_append_right _ (List.mem_append_left _ (List.mem_of_getElem? (i := 211) rfl)) : _ ∈ lw_tbl) rfl
theorem kw212 : Cond.code (⟨"java/lang/Throwable", "<init>", "(Ljava/lang/String;)V"⟩ : MethodName) prog_17_method_2_code 2 none ∈ xT := xT_in (List.mem_append_right _ (List.mem_append_left _ (List.mem_of_getElem? (i := 212) rfl)) : _ ∈ lw_tbl) rfl
theorem kw213 : Cond.fieldLink "java/lang/Throwable" 198 "java/lang/Throwable" "backtrace" "Ljava/lang/Object;" ∈ xT := xT_in (List.mem_append_right _ (List.mem_append_left _ (List.mem_of_getElem? (i := 213) rfl)) : _ ∈ lw_tbl) rfl
theorem kw214 : Cond.fieldLink "java/lang/Throwable" 31 "java/lang/Throwable" "detailMessage" "Ljava/lang/String;" ∈ xT := xT_in (List.mem_append_right _ (List.mem_append_left _ (List.mem_of_getElem? (i := 214) rfl)) : _ ∈ lw_tbl) rfl
theorem kw215 : Cond.fieldLink "java/lang/Throwable" 7 "java/lang/Throwable" "cause" "Ljava/lang/Throwable;" ∈ xT := xT_in (List.mem_append_right _ (List.mem_append_left _ (List.mem_of_getElem? (i := 215) rfl)) : _ ∈ lw_tbl) rfl
theorem kw216 : Cond.fieldLink "java/lang/Throwable" 17 "java/lang/Throwable" "stackTrace" "[Ljava/lang/StackTraceElement;" ∈ xT := xT_in (List.mem_append_right _ (List.mem_append_left _ (List.mem_of_getElem? (i := 216) rfl)) : _ ∈ lw_tbl) rfl
theorem kw217 : Cond.fieldLink "java/lang/Throwable" 24 "java/lang/Throwable" "suppressedExceptions" "Ljava/util/List;" ∈ xT := xT_in (List.mem_append_right _ (List.mem_append_left _ (List.mem_of_getElem? (i := 217) rfl)) : _ ∈ lw_tbl) rfl
theorem kw218 : Cond.soleField "java/lang/Throwable" "backtrace" ∈ xT := xT_in (List.mem_append_right _ (List.mem_append_left _ (List.mem_of_getElem? (i := 218) rfl)) : _ ∈ lw_tbl) rfl
theorem kw219 : Cond.soleField "java/lang/Throwable" "detailMessage" ∈ xT := xT_in (List.mem_append_right _ (List.mem_append_left _ (List.mem_of_getElem? (i := 219) rfl)) : _ ∈ lw_tbl) rfl
theorem kw220 : Cond.soleField "java/lang/Throwable" "cause" ∈ xT := xT_in (List.mem_append_right _ (List.mem_append_left _ (List.mem_of_getElem? (i := 220) rfl)) : _ ∈ lw_tbl) rfl
theorem kw221 : Cond.soleField "java/lang/Throwable" "stackTrace" ∈ xT := xT_in (List.mem_append_right _ (List.mem_append_left _ (List.mem_of_getElem? (i := 221) rfl)) : _ ∈ lw_tbl) rfl
theorem kw222 : Cond.lays "java/lang/IllegalArgumentException" "java/lang/Throwable" "depth" "I" ∈ xT := xT_in (List.mem_append_right _ (List.mem_append_left _ (List.mem_of_getElem? (i := 222) rfl)) : _ ∈ lw_tbl) rfl
theorem kw223 : Cond.soleField "java/lang/Throwable" "depth" ∈ xT := xT_in (List.mem_append_right _ (List.mem_append_left _ (List.mem_of_getElem? (i := 223) rfl)) : _ ∈ lw_tbl) rfl
theorem kw224 : Cond.soleField "java/lang/Throwable" "suppressedExceptions" ∈ xT := xT_in (List.mem_append_right _ (List.mem_append_left _ (List.mem_of_getElem? (i := 224) rfl)) : _ ∈ lw_tbl) rfl
theorem kw225 : Cond.superclass "java/lang/IllegalArgumentException" "java/lang/RuntimeException" ∈ xT := xT_in (List.mem_append_right _ (List.mem_append_left _ (List.mem_of_getElem? (i := 225) rfl)) : _ ∈ lw_tbl) rfl
theorem kw227 : Cond.methodLink "ChunkStore" 41 (⟨"ChunkStore", "fileNotYet", "(I)LChunkStore$FileEntry;"⟩ : MethodName) ∈ xT := xT_in (List.mem_append_right _ (List.mem_append_left _ (List.mem_of_getElem? (i := 227) rfl)) : _ ∈ lw_tbl) rfl
theorem kw229 : Cond.instanceMethod (⟨"ChunkStore", "fileNotYet", "(I)LChunkStore$FileEntry;"⟩ : MethodName) ∈ xT := xT_in (List.mem_append_right _ (List.mem_append_left _ (List.mem_of_getElem? (i := 229) rfl)) : _ ∈ lw_tbl) rfl
theorem kw230 : Cond.code (⟨"ChunkStore", "fileNotYet", "(I)LChunkStore$FileEntry;"⟩ : MethodName) prog_1_method_23_code 2 (some (FieldType.object "ChunkStore$FileEntry")) ∈ xT := xT_in (List.mem_append_right _ (List.mem_append_left _ (List.mem_of_getElem? (i := 230) rfl)) : _ ∈ lw_tbl) rfl
theorem kw231 : Cond.classLink "ChunkStore" 137 "java/lang/IllegalStateException" ∈ xT := xT_in (List.mem_append_right _ (List.mem_append_left _ (List.mem_of_getElem? (i := 231) rfl)) : _ ∈ lw_tbl) rfl
theorem kw232 : Cond.instantiable "java/lang/IllegalStateException" 6 ∈ xT := xT_in (List.mem_append_right _ (List.mem_append_left _ (List.mem_of_getElem? (i := 232) rfl)) : _ ∈ lw_tbl) rfl
theorem kn233 : Cond.castable "java/lang/IllegalStateException" "java/lang/IllegalStateException" ∈ xN := xN_in (List.mem_append_right _ (List.mem_append_left _ (List.mem_of_getElem? (i := 233) rfl)) : _ ∈ lw_tbl) rfl
theorem kw234 : Cond.selects "java/lang/IllegalStateException" (⟨"java/lang/Throwable", "fillInStackTrace", "(I)Ljava/lang/Throwable;"⟩ : MethodName) (⟨"java/lang/Throwable", "fillInStackTrace", "(I)Ljava/lang/Throwable;"⟩ : MethodName) ∈ xT := xT_in (List.mem_append_right _ (List.mem_append_left _ (List.mem_of_getElem? (i := 234) rfl)) : _ ∈ lw_tbl) rfl
theorem kw235 : Cond.lays "java/lang/IllegalStateException" "java/lang/Throwable" "cause" "Ljava/lang/Throwable;" ∈ xT := xT_in (List.mem_append_right _ (List.mem_append_left _ (List.mem_of_getElem? (i := 235) rfl)) : _ ∈ lw_tbl) rfl
theorem kw236 : Cond.lays "java/lang/IllegalStateException" "java/lang/Throwable" "stackTrace" "[Ljava/lang/StackTraceElement;" ∈ xT := xT_in (List.mem_append_right _ (List.mem_append_left _ (List.mem_of_getElem? (i := 236) rfl)) : _ ∈ lw_tbl) rfl
theorem kw237 : Cond.lays "java/lang/IllegalStateException" "java/lang/Throwable" "suppressedExceptions" "Ljava/util/List;" ∈ xT := xT_in (List.mem_append_right _ (List.mem_append_left _ (List.mem_of_getElem? (i := 237) rfl)) : _ ∈ lw_tbl) rfl
theorem kw238 : Cond.lays "java/lang/IllegalStateException" "java/lang/Throwable" "detailMessage" "Ljava/lang/String;" ∈ xT := xT_in (List.mem_append_right _ (List.mem_append_left _ (List.mem_of_getElem? (i := 238) rfl)) : _ ∈ lw_tbl) rfl
theorem kw239 : Cond.lays "java/lang/IllegalStateException" "java/lang/Throwable" "backtrace" "Ljava/lang/Object;" ∈ xT := xT_in (List.mem_append_right _ (List.mem_append_left _ (List.mem_of_getElem? (i := 239) rfl)) : _ ∈ lw_tbl) rfl
theorem kw241 : Cond.methodLink "ChunkStore" 141 (⟨"java/lang/IllegalStateException", "<init>", "(Ljava/lang/String;)V"⟩ : MethodName) ∈ xT := xT_in (List.mem_append_right _ (List.mem_append_right _ (List.mem_append_left _ (List.mem_of_getElem? (i := 1) rfl))) : _ ∈ lw_tbl) rfl
theorem kw242 : Cond.instanceMethod (⟨"java/lang/IllegalStateException", "<init>", "(Ljava/lang/String;)V"⟩ : MethodName) ∈ xT := xT_in (List.mem_append_right _ (List.mem_append_right _ (List.mem_append_left _ (List.mem_of_getElem? (i := 2) rfl))) : _ ∈ lw_tbl) rfl
theorem kw243 : Cond.code (⟨"java/lang/IllegalStateException", "<init>", "(Ljava/lang/String;)V"⟩ : MethodName) prog_11_method_2_code 2 none ∈ xT := xT_in (List.mem_append_right _ (List.mem_append_right _ (List.mem_append_left _ (List.mem_of_getElem? (i := 3) rfl))) : _ ∈ lw_tbl) rfl
theorem kw244 : Cond.methodLink "java/lang/IllegalStateException" 7 (⟨"java/lang/RuntimeException", "<init>", "(Ljava/lang/String;)V"⟩ : MethodName) ∈ xT := xT_in (List.mem_append_right _ (List.mem_append_right _ (List.mem_append_left _ (List.mem_of_getElem? (i := 4) rfl))) : _ ∈ lw_tbl) rfl
theorem kw245 : Cond.lays "java/lang/IllegalStateException" "java/lang/Throwable" "depth" "I" ∈ xT := xT_in (List.mem_append_right _ (List.mem_append_right _ (List.mem_append_left _ (List.mem_of_getElem? (i := 5) rfl))) : _ ∈ lw_tbl) rfl
theorem kw246 : Cond.superclass "java/lang/IllegalStateException" "java/lang/RuntimeException" ∈ xT := xT_in (List.mem_append_right _ (List.mem_append_right _ (List.mem_append_left _ (List.mem_of_getElem? (i := 6) rfl))) : _ ∈ lw_tbl) rfl
theorem kw247 : Cond.methodLink "ChunkStore" 49 (⟨"ChunkStore", "countThere", "()I"⟩ : MethodName) ∈ xT := xT_in (List.mem_append_right _ (List.mem_append_right _ (List.mem_append_left _ (List.mem_of_getElem? (i := 7) rfl))) : _ ∈ lw_tbl) rfl
theorem kw249 : Cond.instanceMethod (⟨"ChunkStore", "countThere", "()I"⟩ : MethodName) ∈ xT := xT_in (List.mem_append_right _ (List.mem_append_right _ (List.mem_append_left _ (List.mem_of_getElem? (i := 9) rfl))) : _ ∈ lw_tbl) rfl
theorem kw250 : Cond.code (⟨"ChunkStore", "countThere", "()I"⟩ : MethodName) prog_1_method_24_code 3 (some FieldType.int) ∈ xT := xT_in (List.mem_append_right _ (List.mem_append_right _ (List.mem_append_left _ (List.mem_of_getElem? (i := 10) rfl))) : _ ∈ lw_tbl) rfl
theorem kw251 : Cond.methodLink "ChunkStoreLaw" 94 (⟨"ChunkStoreLaw", "remove", "(LChunkStore;I[J)I"⟩ : MethodName) ∈ xT := xT_in (List.mem_append_right _ (List.mem_append_right _ (List.mem_append_left _ (List.mem_of_getElem? (i := 11) rfl))) : _ ∈ lw_tbl) rfl
theorem kw252 : Cond.static (⟨"ChunkStoreLaw", "remove", "(LChunkStore;I[J)I"⟩ : MethodName) ∈ xT := xT_in (List.mem_append_right _ (List.mem_append_right _ (List.mem_append_left _ (List.mem_of_getElem? (i := 12) rfl))) : _ ∈ lw_tbl) rfl
theorem kw253 : Cond.codeWith (⟨"ChunkStoreLaw", "remove", "(LChunkStore;I[J)I"⟩ : MethodName) method_4_code 4 (some FieldType.int) [(0, 9, 12, 13), (0, 9, 15, 20)] ∈ xT := xT_in (List.mem_append_right _ (List.mem_append_right _ (List.mem_append_left _ (List.mem_of_getElem? (i := 13) rfl))) : _ ∈ lw_tbl) rfl
theorem kw254 : Cond.classLink "ChunkStoreLaw" 20 "java/util/NoSuchElementException" ∈ xT := xT_in (List.mem_append_right _ (List.mem_append_right _ (List.mem_append_left _ (List.mem_of_getElem? (i := 14) rfl))) : _ ∈ lw_tbl) rfl
theorem kw255 : Cond.methodLink "ChunkStoreLaw" 17 (⟨"ChunkStore", "remove", "(I)I"⟩ : MethodName) ∈ xT := xT_in (List.mem_append_right _ (List.mem_append_right _ (List.mem_append_left _ (List.mem_of_getElem? (i := 15) rfl))) : _ ∈ lw_tbl) rfl
theorem kw256 : Cond.instanceMethod (⟨"ChunkStore", "remove", "(I)I"⟩ : MethodName) ∈ xT := xT_in (List.mem_append_right _ (List.mem_append_right _ (List.mem_append_left _ (List.mem_of_getElem? (i := 16) rfl))) : _ ∈ lw_tbl) rfl
theorem kw257 : Cond.selects "ChunkStore" (⟨"ChunkStore", "remove", "(I)I"⟩ : MethodName) (⟨"ChunkStore", "remove", "(I)I"⟩ : MethodName) ∈ xT := xT_in (List.mem_append_right _ (List.mem_append_right _ (List.mem_append_left _ (List.mem_of_getElem? (i := 17) rfl))) : _ ∈ lw_tbl) rfl
theorem kw258 : Cond.code (⟨"ChunkStore", "remove", "(I)I"⟩ : MethodName) prog_1_method_3_code 3 (some FieldType.int) ∈ xT := xT_in (List.mem_append_right _ (List.mem_append_right _ (List.mem_append_left _ (List.mem_of_getElem? (i := 18) rfl))) : _ ∈ lw_tbl) rfl
theorem kw259 : Cond.methodLink "ChunkStore" 53 (⟨"ChunkStore", "fileThere", "(I)LChunkStore$FileEntry;"⟩ : MethodName) ∈ xT := xT_in (List.mem_append_right _ (List.mem_append_right _ (List.mem_append_left _ (List.mem_of_getElem? (i := 19) rfl))) : _ ∈ lw_tbl) rfl
theorem kw261 : Cond.instanceMethod (⟨"ChunkStore", "fileThere", "(I)LChunkStore$FileEntry;"⟩ : MethodName) ∈ xT := xT_in (List.mem_append_right _ (List.mem_append_right _ (List.mem_append_left _ (List.mem_of_getElem? (i := 21) rfl))) : _ ∈ lw_tbl) rfl
theorem kw262 : Cond.code (⟨"ChunkStore", "fileThere", "(I)LChunkStore$FileEntry;"⟩ : MethodName) prog_1_method_22_code 2 (some (FieldType.object "ChunkStore$FileEntry")) ∈ xT := xT_in (List.mem_append_right _ (List.mem_append_right _ (List.mem_append_left _ (List.mem_of_getElem? (i := 22) rfl))) : _ ∈ lw_tbl) rfl
theorem kw263 : Cond.classLink "ChunkStore" 66 "java/util/NoSuchElementException" ∈ xT := xT_in (List.mem_append_right _ (List.mem_append_right _ (List.mem_append_left _ (List.mem_of_getElem? (i := 23) rfl))) : _ ∈ lw_tbl) rfl
theorem kw264 : Cond.instantiable "java/util/NoSuchElementException" 6 ∈ xT := xT_in (List.mem_append_right _ (List.mem_append_right _ (List.mem_append_left _ (List.mem_of_getElem? (i := 24) rfl))) : _ ∈ lw_tbl) rfl
theorem kn265 : Cond.castable "java/util/NoSuchElementException" "java/util/NoSuchElementException" ∈ xN := xN_in (List.mem_append_right _ (List.mem_append_right _ (List.mem_append_left _ (List.mem_of_getElem? (i := 25) rfl))) : _ ∈ lw_tbl) rfl
theorem kw266 : Cond.selects "java/util/NoSuchElementException" (⟨"java/lang/Throwable", "fillInStackTrace", "(I)Ljava/lang/Throwable;"⟩ : MethodName) (⟨"java/lang/Throwable", "fillInStackTrace", "(I)Ljava/lang/Throwable;"⟩ : MethodName) ∈ xT := xT_in (List.mem_append_right _ (List.mem_append_right _ (List.mem_append_left _ (List.mem_of_getElem? (i := 26) rfl))) : _ ∈ lw_tbl) rfl
theorem kw267 : Cond.lays "java/util/NoSuchElementException" "java/lang/Throwable" "cause" "Ljava/lang/Throwable;" ∈ xT := xT_in (List.mem_append_right _ (List.mem_append_right _ (List.mem_append_left _ (List.mem_of_getElem? (i := 27) rfl))) : _ ∈ lw_tbl) rfl
theorem kw268 : Cond.lays "java/util/NoSuchElementException" "java/lang/Throwable" "stackTrace" "[Ljava/lang/StackTraceElement;" ∈ xT := xT_in (List.mem_append_right _ (List.mem_append_right _ (List.mem_append_left _ (List.mem_of_getElem? (i := 28) rfl))) : _ ∈ lw_tbl) rfl
theorem kw269 : Cond.lays "java/util/NoSuchElementException" "java/lang/Throwable" "suppressedExceptions" "Ljava/util/List;" ∈ xT := xT_in (List.mem_append_right _ (List.mem_append_right _ (List.mem_append_left _ (List.mem_of_getElem? (i := 29) rfl))) : _ ∈ lw_tbl) rfl
theorem kw270 : Cond.lays "java/util/NoSuchElementException" "java/lang/Throwable" "detailMessage" "Ljava/lang/String;" ∈ xT := xT_in (List.mem_append_right _ (List.mem_append_right _ (List.mem_append_left _ (List.mem_of_getElem? (i := 30) rfl))) : _ ∈ lw_tbl) rfl
theorem kw271 : Cond.lays "java/util/NoSuchElementException" "java/lang/Throwable" "backtrace" "Ljava/lang/Object;" ∈ xT := xT_in (List.mem_append_right _ (List.mem_append_right _ (List.mem_append_left _ (List.mem_of_getElem? (i := 31) rfl))) : _ ∈ lw_tbl) rfl
theorem kw273 : Cond.methodLink "ChunkStore" 70 (⟨"java/util/NoSuchElementException", "<init>", "(Ljava/lang/String;)V"⟩ : MethodName) ∈ xT := xT_in (List.mem_append_right _ (List.mem_append_right _ (List.mem_append_left _ (List.mem_of_getElem? (i := 33) rfl))) : _ ∈ lw_tbl) rfl
theorem kw274 : Cond.instanceMethod (⟨"java/util/NoSuchElementException", "<init>", "(Ljava/lang/String;)V"⟩ : MethodName) ∈ xT := xT_in (List.mem_append_right _ (List.mem_append_right _ (List.mem_append_left _ (List.mem_of_getElem? (i := 34) rfl))) : _ ∈ lw_tbl) rfl
theorem kw275 : Cond.code (⟨"java/util/NoSuchElementException", "<init>", "(Ljava/lang/String;)V"⟩ : MethodName) prog_19_method_4_code 2 none ∈ xT := xT_in (List.mem_append_right _ (List.mem_append_right _ (List.mem_append_left _ (List.mem_of_getElem? (i := 35) rfl))) : _ ∈ lw_tbl) rfl
theorem kw276 : Cond.methodLink "java/util/NoSuchElementException" 13 (⟨"java/lang/RuntimeException", "<init>", "(Ljava/lang/String;)V"⟩ : MethodName) ∈ xT := xT_in (List.mem_append_right _ (List.mem_append_right _ (List.mem_append_left _ (List.mem_of_getElem? (i := 36) rfl))) : _ ∈ lw_tbl) rfl
theorem kw277 : Cond.lays "java/util/NoSuchElementException" "java/lang/Throwable" "depth" "I" ∈ xT := xT_in (List.mem_append_right _ (List.mem_append_right _ (List.mem_append_left _ (List.mem_of_getElem? (i := 37) rfl))) : _ ∈ lw_tbl) rfl
theorem kw278 : Cond.superclass "java/util/NoSuchElementException" "java/lang/RuntimeException" ∈ xT := xT_in (List.mem_append_right _ (List.mem_append_right _ (List.mem_append_left _ (List.mem_of_getElem? (i := 38) rfl))) : _ ∈ lw_tbl) rfl
theorem kw279 : Cond.methodLink "ChunkStoreLaw" 97 (⟨"ChunkStoreLaw", "restore", "(LChunkStore;I[J)I"⟩ : MethodName) ∈ xT := xT_in (List.mem_append_right _ (List.mem_append_right _ (List.mem_append_left _ (List.mem_of_getElem? (i := 39) rfl))) : _ ∈ lw_tbl) rfl
theorem kw280 : Cond.static (⟨"ChunkStoreLaw", "restore", "(LChunkStore;I[J)I"⟩ : MethodName) ∈ xT := xT_in (List.mem_append_right _ (List.mem_append_right _ (List.mem_append_left _ (List.mem_of_getElem? (i := 40) rfl))) : _ ∈ lw_tbl) rfl
theorem kw281 : Cond.codeWith (⟨"ChunkStoreLaw", "restore", "(LChunkStore;I[J)I"⟩ : MethodName) method_5_code 4 (some FieldType.int) [(0, 9, 12, 13), (0, 9, 15, 20)] ∈ xT := xT_in (List.mem_append_right _ (List.mem_append_right _ (List.mem_append_left _ (List.mem_of_getElem? (i := 41) rfl))) : _ ∈ lw_tbl) rfl
theorem kw282 : Cond.methodLink "ChunkStoreLaw" 22 (⟨"ChunkStore", "restore", "(I)I"⟩ : MethodName) ∈ xT := xT_in (List.mem_append_right _ (List.mem_append_right _ (List.mem_append_left _ (List.mem_of_getElem? (i := 42) rfl))) : _ ∈ lw_tbl) rfl
theorem kw283 : Cond.instanceMethod (⟨"ChunkStore", "restore", "(I)I"⟩ : MethodName) ∈ xT := xT_in (List.mem_append_right _ (List.mem_append_right _ (List.mem_append_left _ (List.mem_of_getElem? (i := 43) rfl))) : _ ∈ lw_tbl) rfl
theorem kw284 : Cond.selects "ChunkStore" (⟨"ChunkStore", "restore", "(I)I"⟩ : MethodName) (⟨"ChunkStore", "restore", "(I)I"⟩ : MethodName) ∈ xT := xT_in (List.mem_append_right _ (List.mem_append_right _ (List.mem_append_left _ (List.mem_of_getElem? (i := 44) rfl))) : _ ∈ lw_tbl) rfl
theorem kw285 : Cond.code (⟨"ChunkStore", "restore", "(I)I"⟩ : MethodName) prog_1_method_4_code 3 (some FieldType.int) ∈ xT := xT_in (List.mem_append_right _ (List.mem_append_right _ (List.mem_append_left _ (List.mem_of_getElem? (i := 45) rfl))) : _ ∈ lw_tbl) rfl
theorem kw287 : Cond.methodLink "ChunkStoreLaw" 100 (⟨"ChunkStoreLaw", "copy", "(LChunkStore;II[J)I"⟩ : MethodName) ∈ xT := xT_in (List.mem_append_right _ (List.mem_append_right _ (List.mem_append_left _ (List.mem_of_getElem? (i := 47) rfl))) : _ ∈ lw_tbl) rfl
theorem kw288 : Cond.static (⟨"ChunkStoreLaw", "copy", "(LChunkStore;II[J)I"⟩ : MethodName) ∈ xT := xT_in (List.mem_append_right _ (List.mem_append_right _ (List.mem_append_left _ (List.mem_of_getElem? (i := 48) rfl))) : _ ∈ lw_tbl) rfl
theorem kw289 : Cond.codeWith (⟨"ChunkStoreLaw", "copy", "(LChunkStore;II[J)I"⟩ : MethodName) method_6_code 5 (some FieldType.int) [(0, 10, 13, 13), (0, 10, 17, 20), (0, 10, 21, 15)] ∈ xT := xT_in (List.mem_append_right _ (List.mem_append_right _ (List.mem_append_left _ (List.mem_of_getElem? (i := 49) rfl))) : _ ∈ lw_tbl) rfl
theorem kw290 : Cond.methodLink "ChunkStoreLaw" 25 (⟨"ChunkStore", "copy", "(II)I"⟩ : MethodName) ∈ xT := xT_in (List.mem_append_right _ (List.mem_append_right _ (List.mem_append_left _ (List.mem_of_getElem? (i := 50) rfl))) : _ ∈ lw_tbl) rfl
theorem kw291 : Cond.instanceMethod (⟨"ChunkStore", "copy", "(II)I"⟩ : MethodName) ∈ xT := xT_in (List.mem_append_right _ (List.mem_append_right _ (List.mem_append_left _ (List.mem_of_getElem? (i := 51) rfl))) : _ ∈ lw_tbl) rfl
theorem kw292 : Cond.selects "ChunkStore" (⟨"ChunkStore", "copy", "(II)I"⟩ : MethodName) (⟨"ChunkStore", "copy", "(II)I"⟩ : MethodName) ∈ xT := xT_in (List.mem_append_right _ (List.mem_append_right _ (List.mem_append_left _ (List.mem_of_getElem? (i := 52) rfl))) : _ ∈ lw_tbl) rfl
theorem kw293 : Cond.code (⟨"ChunkStore", "copy", "(II)I"⟩ : MethodName) prog_1_method_5_code 7 (some FieldType.int) ∈ xT := xT_in (List.mem_append_right _ (List.mem_append_right _ (List.mem_append_left _ (List.mem_of_getElem? (i := 53) rfl))) : _ ∈ lw_tbl) rfl
theorem kn294 : Cond.methodLinkNest "ChunkStore" 83 (⟨"ChunkStore$FileEntry", "addAtEnd", "(I)V"⟩ : MethodName) "ChunkStore" ∈ xN := xN_in (List.mem_append_right _ (List.mem_append_right _ (List.mem_append_left _ (List.mem_of_getElem? (i := 54) rfl))) : _ ∈ lw_tbl) rfl
theorem kw296 : Cond.instanceMethod (⟨"ChunkStore$FileEntry", "addAtEnd", "(I)V"⟩ : MethodName) ∈ xT := xT_in (List.mem_append_right _ (List.mem_append_right _ (List.mem_append_left _ (List.mem_of_getElem? (i := 56) rfl))) : _ ∈ lw_tbl) rfl
theorem kw297 : Cond.code (⟨"ChunkStore$FileEntry", "addAtEnd", "(I)V"⟩ : MethodName) prog_3_method_2_code 2 none ∈ xT := xT_in (List.mem_append_right _ (List.mem_append_right _ (List.mem_append_left _ (List.mem_of_getElem? (i := 57) rfl))) : _ ∈ lw_tbl) rfl
theorem kw298 : Cond.methodLink "ChunkStoreLaw" 104 (⟨"ChunkStoreLaw", "extend", "(LChunkStore;I[J)I"⟩ : MethodName) ∈ xT := xT_in (List.mem_append_right _ (List.mem_append_right _ (List.mem_append_left _ (List.mem_of_getElem? (i := 58) rfl))) : _ ∈ lw_tbl) rfl
theorem kw299 : Cond.static (⟨"ChunkStoreLaw", "extend", "(LChunkStore;I[J)I"⟩ : MethodName) ∈ xT := xT_in (List.mem_append_right _ (List.mem_append_right _ (List.mem_append_left _ (List.mem_of_getElem? (i := 59) rfl))) : _ ∈ lw_tbl) rfl
theorem kw300 : Cond.codeWith (⟨"ChunkStoreLaw", "extend", "(LChunkStore;I[J)I"⟩ : MethodName) method_7_code 4 (some FieldType.int) [(0, 9, 12, 13), (0, 9, 15, 20), (0, 9, 18, 15), (0, 9, 21, 32)] ∈ xT := xT_in (List.mem_append_right _ (List.mem_append_right _ (List.mem_append_left _ (List.mem_of_getElem? (i := 60) rfl))) : _ ∈ lw_tbl) rfl
theorem kw301 : Cond.classLink "ChunkStoreLaw" 32 "java/lang/IndexOutOfBoundsException" ∈ xT := xT_in (List.mem_append_right _ (List.mem_append_right _ (List.mem_append_left _ (List.mem_of_getElem? (i := 61) rfl))) : _ ∈ lw_tbl) rfl
theorem kw302 : Cond.methodLink "ChunkStoreLaw" 29 (⟨"ChunkStore", "extend", "(I)I"⟩ : MethodName) ∈ xT := xT_in (List.mem_append_right _ (List.mem_append_right _ (List.mem_append_left _ (List.mem_of_getElem? (i := 62) rfl))) : _ ∈ lw_tbl) rfl
theorem kw303 : Cond.instanceMethod (⟨"ChunkStore", "extend", "(I)I"⟩ : MethodName) ∈ xT := xT_in (List.mem_append_right _ (List.mem_append_right _ (List.mem_append_left _ (List.mem_of_getElem? (i := 63) rfl))) : _ ∈ lw_tbl) rfl
theorem kw304 : Cond.selects "ChunkStore" (⟨"ChunkStore", "extend", "(I)I"⟩ : MethodName) (⟨"ChunkStore", "extend", "(I)I"⟩ : MethodName) ∈ xT := xT_in (List.mem_append_right _ (List.mem_append_right _ (List.mem_append_left _ (List.mem_of_getElem? (i := 64) rfl))) : _ ∈ lw_tbl) rfl
theorem kw305 : Cond.code (⟨"ChunkStore", "extend", "(I)I"⟩ : MethodName) prog_1_method_6_code 2 (some FieldType.int) ∈ xT := xT_in (List.mem_append_right _ (List.mem_append_right _ (List.mem_append_left _ (List.mem_of_getElem? (i := 65) rfl))) : _ ∈ lw_tbl) rfl
theorem kw306 : Cond.methodLink "ChunkStore" 87 (⟨"ChunkStore", "makeChunk", "(LChunkStore$FileEntry;)I"⟩ : MethodName) ∈ xT := xT_in (List.mem_append_right _ (List.mem_append_right _ (List.mem_append_left _ (List.mem_of_getElem? (i := 66) rfl))) : _ ∈ lw_tbl) rfl
theorem kw308 : Cond.instanceMethod (⟨"ChunkStore", "makeChunk", "(LChunkStore$FileEntry;)I"⟩ : MethodName) ∈ xT := xT_in (List.mem_append_right _ (List.mem_append_right _ (List.mem_append_left _ (List.mem_of_getElem? (i := 68) rfl))) : _ ∈ lw_tbl) rfl
theorem kw309 : Cond.code (⟨"ChunkStore", "makeChunk", "(LChunkStore$FileEntry;)I"⟩ : MethodName) prog_1_method_32_code 5 (some FieldType.int) ∈ xT := xT_in (List.mem_append_right _ (List.mem_append_right _ (List.mem_append_left _ (List.mem_of_getElem? (i := 69) rfl))) : _ ∈ lw_tbl) rfl
theorem kw310 : Cond.classLink "ChunkStore" 216 "java/lang/IndexOutOfBoundsException" ∈ xT := xT_in (List.mem_append_right _ (List.mem_append_right _ (List.mem_append_left _ (List.mem_of_getElem? (i := 70) rfl))) : _ ∈ lw_tbl) rfl
theorem kw311 : Cond.instantiable "java/lang/IndexOutOfBoundsException" 6 ∈ xT := xT_in (List.mem_append_right _ (List.mem_append_right _ (List.mem_append_left _ (List.mem_of_getElem? (i := 71) rfl))) : _ ∈ lw_tbl) rfl
theorem kn312 : Cond.castable "java/lang/IndexOutOfBoundsException" "java/lang/IndexOutOfBoundsException" ∈ xN := xN_in (List.mem_append_right _ (List.mem_append_right _ (List.mem_append_left _ (List.mem_of_getElem? (i := 72) rfl))) : _ ∈ lw_tbl) rfl
theorem kw313 : Cond.selects "java/lang/IndexOutOfBoundsException" (⟨"java/lang/Throwable", "fillInStackTrace", "(I)Ljava/lang/Throwable;"⟩ : MethodName) (⟨"java/lang/Throwable", "fillInStackTrace", "(I)Ljava/lang/Throwable;"⟩ : MethodName) ∈ xT := xT_in (List.mem_append_right _ (List.mem_append_right _ (List.mem_append_left _ (List.mem_of_getElem? (i := 73) rfl))) : _ ∈ lw_tbl) rfl
theorem kw314 : Cond.lays "java/lang/IndexOutOfBoundsException" "java/lang/Throwable" "cause" "Ljava/lang/Throwable;" ∈ xT := xT_in (List.mem_append_right _ (List.mem_append_right _ (List.mem_append_left _ (List.mem_of_getElem? (i := 74) rfl))) : _ ∈ lw_tbl) rfl
theorem kw315 : Cond.lays "java/lang/IndexOutOfBoundsException" "java/lang/Throwable" "stackTrace" "[Ljava/lang/StackTraceElement;" ∈ xT := xT_in (List.mem_append_right _ (List.mem_append_right _ (List.mem_append_left _ (List.mem_of_getElem? (i := 75) rfl))) : _ ∈ lw_tbl) rfl
theorem kw316 : Cond.lays "java/lang/IndexOutOfBoundsException" "java/lang/Throwable" "suppressedExceptions" "Ljava/util/List;" ∈ xT := xT_in (List.mem_append_right _ (List.mem_append_right _ (List.mem_append_left _ (List.mem_of_getElem? (i := 76) rfl))) : _ ∈ lw_tbl) rfl
theorem kw317 : Cond.lays "java/lang/IndexOutOfBoundsException" "java/lang/Throwable" "detailMessage" "Ljava/lang/String;" ∈ xT := xT_in (List.mem_append_right _ (List.mem_append_right _ (List.mem_append_left _ (List.mem_of_getElem? (i := 77) rfl))) : _ ∈ lw_tbl) rfl
theorem kw318 : Cond.lays "java/lang/IndexOutOfBoundsException" "java/lang/Throwable" "backtrace" "Ljava/lang/Object;" ∈ xT := xT_in (List.mem_append_right _ (List.mem_append_right _ (List.mem_append_left _ (List.mem_of_getElem? (i := 78) rfl))) : _ ∈ lw_tbl) rfl
theorem kw320 : Cond.methodLink "ChunkStore" 220 (⟨"java/lang/IndexOutOfBoundsException", "<init>", "(Ljava/lang/String;)V"⟩ : MethodName) ∈ xT := xT_in (List.mem_append_right _ (List.mem_append_right _ (List.mem_append_left _ (List.mem_of_getElem? (i := 80) rfl))) : _ ∈ lw_tbl) rfl
theorem kw321 : Cond.instanceMethod (⟨"java/lang/IndexOutOfBoundsException", "<init>", "(Ljava/lang/String;)V"⟩ : MethodName) ∈ xT := xT_in (List.mem_append_right _ (List.mem_append_right _ (List.mem_append_left _ (List.mem_of_getElem? (i := 81) rfl))) : _ ∈ lw_tbl) rfl
theorem kw322 : Cond.code (⟨"java/lang/IndexOutOfBoundsException", "<init>", "(Ljava/lang/String;)V"⟩ : MethodName) prog_12_method_2_code 2 none ∈ xT := xT_in (List.mem_append_right _ (List.mem_append_right _ (List.mem_append_left _ (List.mem_of_getElem? (i := 82) rfl))) : _ ∈ lw_tbl) rfl
theorem kw323 : Cond.methodLink "java/lang/IndexOutOfBoundsException" 7 (⟨"java/lang/RuntimeException", "<init>", "(Ljava/lang/String;)V"⟩ : MethodName) ∈ xT := xT_in (List.mem_append_right _ (List.mem_append_right _ (List.mem_append_left _ (List.mem_of_getElem? (i := 83) rfl))) : _ ∈ lw_tbl) rfl
theorem kw324 : Cond.lays "java/lang/IndexOutOfBoundsException" "java/lang/Throwable" "depth" "I" ∈ xT := xT_in (List.mem_append_right _ (List.mem_append_right _ (List.mem_append_left _ (List.mem_of_getElem? (i := 84) rfl))) : _ ∈ lw_tbl) rfl
theorem kw325 : Cond.superclass "java/lang/IndexOutOfBoundsException" "java/lang/RuntimeException" ∈ xT := xT_in (List.mem_append_right _ (List.mem_append_right _ (List.mem_append_left _ (List.mem_of_getElem? (i := 85) rfl))) : _ ∈ lw_tbl) rfl
theorem kw326 : Cond.methodLink "ChunkStore" 231 (⟨"ChunkStore", "choose", "(II)I"⟩ : MethodName) ∈ xT := xT_in (List.mem_append_right _ (List.mem_append_right _ (List.mem_append_left _ (List.mem_of_getElem? (i := 86) rfl))) : _ ∈ lw_tbl) rfl
theorem kw328 : Cond.instanceMethod (⟨"ChunkStore", "choose", "(II)I"⟩ : MethodName) ∈ xT := xT_in (List.mem_append_right _ (List.mem_append_right _ (List.mem_append_left _ (List.mem_of_getElem? (i := 88) rfl))) : _ ∈ lw_tbl) rfl
theorem kw329 : Cond.code (⟨"ChunkStore", "choose", "(II)I"⟩ : MethodName) prog_1_method_31_code 6 (some FieldType.int) ∈ xT := xT_in (List.mem_append_right _ (List.mem_append_right _ (List.mem_append_left _ (List.mem_of_getElem? (i := 89) rfl))) : _ ∈ lw_tbl) rfl
theorem kw330 : Cond.methodLink "ChunkStore" 164 (⟨"ChunkStore", "lightest", "(II)I"⟩ : MethodName) ∈ xT := xT_in (List.mem_append_right _ (List.mem_append_right _ (List.mem_append_left _ (List.mem_of_getElem? (i := 90) rfl))) : _ ∈ lw_tbl) rfl
theorem kw332 : Cond.instanceMethod (⟨"ChunkStore", "lightest", "(II)I"⟩ : MethodName) ∈ xT := xT_in (List.mem_append_right _ (List.mem_append_right _ (List.mem_append_left _ (List.mem_of_getElem? (i := 92) rfl))) : _ ∈ lw_tbl) rfl
theorem kw333 : Cond.code (⟨"ChunkStore", "lightest", "(II)I"⟩ : MethodName) prog_1_method_30_code 7 (some FieldType.int) ∈ xT := xT_in (List.mem_append_right _ (List.mem_append_right _ (List.mem_append_left _ (List.mem_of_getElem? (i := 93) rfl))) : _ ∈ lw_tbl) rfl
theorem kn334 : Cond.methodLinkNest "ChunkStore" 225 (⟨"ChunkStore$Server", "isFull", "()Z"⟩ : MethodName) "ChunkStore" ∈ xN := xN_in (List.mem_append_right _ (List.mem_append_right _ (List.mem_append_left _ (List.mem_of_getElem? (i := 94) rfl))) : _ ∈ lw_tbl) rfl
theorem kw336 : Cond.instanceMethod (⟨"ChunkStore$Server", "isFull", "()Z"⟩ : MethodName) ∈ xT := xT_in (List.mem_append_right _ (List.mem_append_right _ (List.mem_append_left _ (List.mem_of_getElem? (i := 96) rfl))) : _ ∈ lw_tbl) rfl
theorem kw337 : Cond.code (⟨"ChunkStore$Server", "isFull", "()Z"⟩ : MethodName) prog_5_method_3_code 1 (some FieldType.boolean) ∈ xT := xT_in (List.mem_append_right _ (List.mem_append_right _ (List.mem_append_left _ (List.mem_of_getElem? (i := 97) rfl))) : _ ∈ lw_tbl) rfl
theorem kn338 : Cond.methodLinkNest "ChunkStore" 154 (⟨"ChunkStore$Server", "has", "(I)Z"⟩ : MethodName) "ChunkStore" ∈ xN := xN_in (List.mem_append_right _ (List.mem_append_right _ (List.mem_append_left _ (List.mem_of_getElem? (i := 98) rfl))) : _ ∈ lw_tbl) rfl
theorem kw340 : Cond.instanceMethod (⟨"ChunkStore$Server", "has", "(I)Z"⟩ : MethodName) ∈ xT := xT_in (List.mem_append_right _ (List.mem_append_right _ (List.mem_append_left _ (List.mem_of_getElem? (i := 100) rfl))) : _ ∈ lw_tbl) rfl
theorem kw341 : Cond.code (⟨"ChunkStore$Server", "has", "(I)Z"⟩ : MethodName) prog_5_method_2_code 2 (some FieldType.boolean) ∈ xT := xT_in (List.mem_append_right _ (List.mem_append_right _ (List.mem_append_left _ (List.mem_of_getElem? (i := 101) rfl))) : _ ∈ lw_tbl) rfl
theorem kw342 : Cond.methodLink "ChunkStore" 118 (⟨"ChunkStore", "isIn", "(II)Z"⟩ : MethodName) ∈ xT := xT_in (List.mem_append_right _ (List.mem_append_right _ (List.mem_append_left _ (List.mem_of_getElem? (i := 102) rfl))) : _ ∈ lw_tbl) rfl
theorem kw343 : Cond.static (⟨"ChunkStore", "isIn", "(II)Z"⟩ : MethodName) ∈ xT := xT_in (List.mem_append_right _ (List.mem_append_right _ (List.mem_append_left _ (List.mem_of_getElem? (i := 103) rfl))) : _ ∈ lw_tbl) rfl
theorem kw344 : Cond.code (⟨"ChunkStore", "isIn", "(II)Z"⟩ : MethodName) prog_1_method_26_code 2 (some FieldType.boolean) ∈ xT := xT_in (List.mem_append_right _ (List.mem_append_right _ (List.mem_append_left _ (List.mem_of_getElem? (i := 104) rfl))) : _ ∈ lw_tbl) rfl
theorem kw346 : Cond.methodLink "ChunkStore" 236 (⟨"ChunkStore", "startChunk", "(I)V"⟩ : MethodName) ∈ xT := xT_in (List.mem_append_right _ (List.mem_append_right _ (List.mem_append_left _ (List.mem_of_getElem? (i := 106) rfl))) : _ ∈ lw_tbl) rfl
theorem kw348 : Cond.instanceMethod (⟨"ChunkStore", "startChunk", "(I)V"⟩ : MethodName) ∈ xT := xT_in (List.mem_append_right _ (List.mem_append_right _ (List.mem_append_left _ (List.mem_of_getElem? (i := 108) rfl))) : _ ∈ lw_tbl) rfl
theorem kw349 : Cond.code (⟨"ChunkStore", "startChunk", "(I)V"⟩ : MethodName) prog_1_method_33_code 3 none ∈ xT := xT_in (List.mem_append_right _ (List.mem_append_right _ (List.mem_append_left _ (List.mem_of_getElem? (i := 109) rfl))) : _ ∈ lw_tbl) rfl
theorem kn350 : Cond.methodLinkNest "ChunkStore" 239 (⟨"ChunkStore$Server", "addEmpty", "(I)V"⟩ : MethodName) "ChunkStore" ∈ xN := xN_in (List.mem_append_right _ (List.mem_append_right _ (List.mem_append_left _ (List.mem_of_getElem? (i := 110) rfl))) : _ ∈ lw_tbl) rfl
theorem kw352 : Cond.instanceMethod (⟨"ChunkStore$Server", "addEmpty", "(I)V"⟩ : MethodName) ∈ xT := xT_in (List.mem_append_right _ (List.mem_append_right _ (List.mem_append_left _ (List.mem_of_getElem? (i := 112) rfl))) : _ ∈ lw_tbl) rfl
theorem kw353 : Cond.code (⟨"ChunkStore$Server", "addEmpty", "(I)V"⟩ : MethodName) prog_5_method_4_code 2 none ∈ xT := xT_in (List.mem_append_right _ (List.mem_append_right _ (List.mem_append_left _ (List.mem_of_getElem? (i := 113) rfl))) : _ ∈ lw_tbl) rfl
theorem kw354 : Cond.methodLink "ChunkStoreLaw" 107 (⟨"ChunkStoreLaw", "locate", "(LChunkStore;III[J)I"⟩ : MethodName) ∈ xT := xT_in (List.mem_append_right _ (List.mem_append_right _ (List.mem_append_left _ (List.mem_of_getElem? (i := 114) rfl))) : _ ∈ lw_tbl) rfl
theorem kw355 : Cond.static (⟨"ChunkStoreLaw", "locate", "(LChunkStore;III[J)I"⟩ : MethodName) ∈ xT := xT_in (List.mem_append_right _ (List.mem_append_right _ (List.mem_append_left _ (List.mem_of_getElem? (i := 115) rfl))) : _ ∈ lw_tbl) rfl
theorem kw356 : Cond.codeWith (⟨"ChunkStoreLaw", "locate", "(LChunkStore;III[J)I"⟩ : MethodName) method_8_code 6 (some FieldType.int) [(0, 12, 15, 13), (0, 12, 19, 20), (0, 12, 23, 32)] ∈ xT := xT_in (List.mem_append_right _ (List.mem_append_right _ (List.mem_append_left _ (List.mem_of_getElem? (i := 116) rfl))) : _ ∈ lw_tbl) rfl
theorem kw357 : Cond.methodLink "ChunkStoreLaw" 34 (⟨"ChunkStore", "locate", "(III)I"⟩ : MethodName) ∈ xT := xT_in (List.mem_append_right _ (List.mem_append_right _ (List.mem_append_left _ (List.mem_of_getElem? (i := 117) rfl))) : _ ∈ lw_tbl) rfl
theorem kw358 : Cond.instanceMethod (⟨"ChunkStore", "locate", "(III)I"⟩ : MethodName) ∈ xT := xT_in (List.mem_append_right _ (List.mem_append_right _ (List.mem_append_left _ (List.mem_of_getElem? (i := 118) rfl))) : _ ∈ lw_tbl) rfl
theorem kw359 : Cond.selects "ChunkStore" (⟨"ChunkStore", "locate", "(III)I"⟩ : MethodName) (⟨"ChunkStore", "locate", "(III)I"⟩ : MethodName) ∈ xT := xT_in (List.mem_append_right _ (List.mem_append_right _ (List.mem_append_left _ (List.mem_of_getElem? (i := 119) rfl))) : _ ∈ lw_tbl) rfl
theorem kw360 : Cond.code (⟨"ChunkStore", "locate", "(III)I"⟩ : MethodName) prog_1_method_7_code 4 (some FieldType.int) ∈ xT := xT_in (List.mem_append_right _ (List.mem_append_right _ (List.mem_append_left _ (List.mem_of_getElem? (i := 120) rfl))) : _ ∈ lw_tbl) rfl
theorem kw361 : Cond.methodLink "ChunkStore" 91 (⟨"ChunkStore", "find", "(III)LChunkStore$Kept;"⟩ : MethodName) ∈ xT := xT_in (List.mem_append_right _ (List.mem_append_right _ (List.mem_append_left _ (List.mem_of_getElem? (i := 121) rfl))) : _ ∈ lw_tbl) rfl
theorem kw363 : Cond.instanceMethod (⟨"ChunkStore", "find", "(III)LChunkStore$Kept;"⟩ : MethodName) ∈ xT := xT_in (List.mem_append_right _ (List.mem_append_right _ (List.mem_append_left _ (List.mem_of_getElem? (i := 123) rfl))) : _ ∈ lw_tbl) rfl
theorem kw364 : Cond.code (⟨"ChunkStore", "find", "(III)LChunkStore$Kept;"⟩ : MethodName) prog_1_method_34_code 7 (some (FieldType.object "ChunkStore$Kept")) ∈ xT := xT_in (List.mem_append_right _ (List.mem_append_right _ (List.mem_append_left _ (List.mem_of_getElem? (i := 124) rfl))) : _ ∈ lw_tbl) rfl
theorem kw365 : Cond.methodLink "ChunkStore" 98 (⟨"ChunkStore", "checkPlace", "(LChunkStore$FileEntry;I)V"⟩ : MethodName) ∈ xT := xT_in (List.mem_append_right _ (List.mem_append_right _ (List.mem_append_left _ (List.mem_of_getElem? (i := 125) rfl))) : _ ∈ lw_tbl) rfl
theorem kw366 : Cond.static (⟨"ChunkStore", "checkPlace", "(LChunkStore$FileEntry;I)V"⟩ : MethodName) ∈ xT := xT_in (List.mem_append_right _ (List.mem_append_right _ (List.mem_append_left _ (List.mem_of_getElem? (i := 126) rfl))) : _ ∈ lw_tbl) rfl
theorem kw367 : Cond.code (⟨"ChunkStore", "checkPlace", "(LChunkStore$FileEntry;I)V"⟩ : MethodName) prog_1_method_21_code 2 none ∈ xT := xT_in (List.mem_append_right _ (List.mem_append_right _ (List.mem_append_left _ (List.mem_of_getElem? (i := 127) rfl))) : _ ∈ lw_tbl) rfl
theorem kw369 : Cond.constantDouble "ChunkStore" 245 (4617315517961601024 : UInt64) ∈ xT := xT_in (List.mem_append_right _ (List.mem_append_right _ (List.mem_append_left _ (List.mem_of_getElem? (i := 129) rfl))) : _ ∈ lw_tbl) rfl
theorem kw370 : Cond.methodLink "ChunkStoreLaw" 111 (⟨"ChunkStoreLaw", "write", "(LChunkStore;IIII[J)I"⟩ : MethodName) ∈ xT := xT_in (List.mem_append_right _ (List.mem_append_right _ (List.mem_append_left _ (List.mem_of_getElem? (i := 130) rfl))) : _ ∈ lw_tbl) rfl
theorem kw371 : Cond.static (⟨"ChunkStoreLaw", "write", "(LChunkStore;IIII[J)I"⟩ : MethodName) ∈ xT := xT_in (List.mem_append_right _ (List.mem_append_right _ (List.mem_append_left _ (List.mem_of_getElem? (i := 131) rfl))) : _ ∈ lw_tbl) rfl
theorem kw372 : Cond.codeWith (⟨"ChunkStoreLaw", "write", "(LChunkStore;IIII[J)I"⟩ : MethodName) method_9_code 7 (some FieldType.int) [(0, 14, 17, 13), (0, 14, 21, 20), (0, 14, 25, 15), (0, 14, 29, 42), (0, 14, 33, 32)] ∈ xT := xT_in (List.mem_append_right _ (List.mem_append_right _ (List.mem_append_left _ (List.mem_of_getElem? (i := 132) rfl))) : _ ∈ lw_tbl) rfl
theorem kw373 : Cond.classLink "ChunkStoreLaw" 42 "java/lang/UnsupportedOperationException" ∈ xT := xT_in (List.mem_append_right _ (List.mem_append_right _ (List.mem_append_left _ (List.mem_of_getElem? (i := 133) rfl))) : _ ∈ lw_tbl) rfl
theorem kw374 : Cond.methodLink "ChunkStoreLaw" 38 (⟨"ChunkStore", "write", "(IIII)I"⟩ : MethodName) ∈ xT := xT_in (List.mem_append_right _ (List.mem_append_right _ (List.mem_append_left _ (List.mem_of_getElem? (i := 134) rfl))) : _ ∈ lw_tbl) rfl
theorem kw375 : Cond.instanceMethod (⟨"ChunkStore", "write", "(IIII)I"⟩ : MethodName) ∈ xT := xT_in (List.mem_append_right _ (List.mem_append_right _ (List.mem_append_left _ (List.mem_of_getElem? (i := 135) rfl))) : _ ∈ lw_tbl) rfl
theorem kw376 : Cond.selects "ChunkStore" (⟨"ChunkStore", "write", "(IIII)I"⟩ : MethodName) (⟨"ChunkStore", "write", "(IIII)I"⟩ : MethodName) ∈ xT := xT_in (List.mem_append_right _ (List.mem_append_right _ (List.mem_append_left _ (List.mem_of_getElem? (i := 136) rfl))) : _ ∈ lw_tbl) rfl
theorem kw377 : Cond.code (⟨"ChunkStore", "write", "(IIII)I"⟩ : MethodName) prog_1_method_8_code 7 (some FieldType.int) ∈ xT := xT_in (List.mem_append_right _ (List.mem_append_right _ (List.mem_append_left _ (List.mem_of_getElem? (i := 137) rfl))) : _ ∈ lw_tbl) rfl
theorem kw378 : Cond.methodLink "ChunkStore" 102 (⟨"ChunkStore", "lease", "(LChunkStore$FileEntry;I)I"⟩ : MethodName) ∈ xT := xT_in (List.mem_append_right _ (List.mem_append_right _ (List.mem_append_left _ (List.mem_of_getElem? (i := 138) rfl))) : _ ∈ lw_tbl) rfl
theorem kw380 : Cond.instanceMethod (⟨"ChunkStore", "lease", "(LChunkStore$FileEntry;I)I"⟩ : MethodName) ∈ xT := xT_in (List.mem_append_right _ (List.mem_append_right _ (List.mem_append_left _ (List.mem_of_getElem? (i := 140) rfl))) : _ ∈ lw_tbl) rfl
theorem kw381 : Cond.code (⟨"ChunkStore", "lease", "(LChunkStore$FileEntry;I)I"⟩ : MethodName) prog_1_method_35_code 5 (some FieldType.int) ∈ xT := xT_in (List.mem_append_right _ (List.mem_append_right _ (List.mem_append_left _ (List.mem_of_getElem? (i := 141) rfl))) : _ ∈ lw_tbl) rfl
theorem kw382 : Cond.methodLink "ChunkStore" 167 (⟨"ChunkStore", "liveHolders", "(I)I"⟩ : MethodName) ∈ xT := xT_in (List.mem_append_right _ (List.mem_append_right _ (List.mem_append_left _ (List.mem_of_getElem? (i := 142) rfl))) : _ ∈ lw_tbl) rfl
theorem kw384 : Cond.instanceMethod (⟨"ChunkStore", "liveHolders", "(I)I"⟩ : MethodName) ∈ xT := xT_in (List.mem_append_right _ (List.mem_append_right _ (List.mem_append_left _ (List.mem_of_getElem? (i := 144) rfl))) : _ ∈ lw_tbl) rfl
theorem kw385 : Cond.code (⟨"ChunkStore", "liveHolders", "(I)I"⟩ : MethodName) prog_1_method_28_code 4 (some FieldType.int) ∈ xT := xT_in (List.mem_append_right _ (List.mem_append_right _ (List.mem_append_left _ (List.mem_of_getElem? (i := 145) rfl))) : _ ∈ lw_tbl) rfl
theorem kw386 : Cond.methodLink "ChunkStore" 210 (⟨"ChunkStore", "isLeased", "(LChunkStore$Chunk;)Z"⟩ : MethodName) ∈ xT := xT_in (List.mem_append_right _ (List.mem_append_right _ (List.mem_append_left _ (List.mem_of_getElem? (i := 146) rfl))) : _ ∈ lw_tbl) rfl
theorem kw388 : Cond.instanceMethod (⟨"ChunkStore", "isLeased", "(LChunkStore$Chunk;)Z"⟩ : MethodName) ∈ xT := xT_in (List.mem_append_right _ (List.mem_append_right _ (List.mem_append_left _ (List.mem_of_getElem? (i := 148) rfl))) : _ ∈ lw_tbl) rfl
theorem kw389 : Cond.code (⟨"ChunkStore", "isLeased", "(LChunkStore$Chunk;)Z"⟩ : MethodName) prog_1_method_29_code 2 (some FieldType.boolean) ∈ xT := xT_in (List.mem_append_right _ (List.mem_append_right _ (List.mem_append_left _ (List.mem_of_getElem? (i := 149) rfl))) : _ ∈ lw_tbl) rfl
theorem kw391 : Cond.methodLink "ChunkStore" 249 (⟨"ChunkStore", "splitOff", "(LChunkStore$FileEntry;II)I"⟩ : MethodName) ∈ xT := xT_in (List.mem_append_right _ (List.mem_append_right _ (List.mem_append_left _ (List.mem_of_getElem? (i := 151) rfl))) : _ ∈ lw_tbl) rfl
theorem kw393 : Cond.instanceMethod (⟨"ChunkStore", "splitOff", "(LChunkStore$FileEntry;II)I"⟩ : MethodName) ∈ xT := xT_in (List.mem_append_right _ (List.mem_append_right _ (List.mem_append_left _ (List.mem_of_getElem? (i := 153) rfl))) : _ ∈ lw_tbl) rfl
theorem kw394 : Cond.code (⟨"ChunkStore", "splitOff", "(LChunkStore$FileEntry;II)I"⟩ : MethodName) prog_1_method_36_code 7 (some FieldType.int) ∈ xT := xT_in (List.mem_append_right _ (List.mem_append_right _ (List.mem_append_left _ (List.mem_of_getElem? (i := 154) rfl))) : _ ∈ lw_tbl) rfl
theorem kw396 : Cond.methodLink "ChunkStore" 260 (⟨"ChunkStore", "anyFull", "(I)Z"⟩ : MethodName) ∈ xT := xT_in (List.mem_append_right _ (List.mem_append_right _ (List.mem_append_left _ (List.mem_of_getElem? (i := 156) rfl))) : _ ∈ lw_tbl) rfl
theorem kw398 : Cond.instanceMethod (⟨"ChunkStore", "anyFull", "(I)Z"⟩ : MethodName) ∈ xT := xT_in (List.mem_append_right _ (List.mem_append_right _ (List.mem_append_left _ (List.mem_of_getElem? (i := 158) rfl))) : _ ∈ lw_tbl) rfl
theorem kw399 : Cond.code (⟨"ChunkStore", "anyFull", "(I)Z"⟩ : MethodName) prog_1_method_37_code 3 (some FieldType.boolean) ∈ xT := xT_in (List.mem_append_right _ (List.mem_append_right _ (List.mem_append_left _ (List.mem_of_getElem? (i := 159) rfl))) : _ ∈ lw_tbl) rfl
theorem kw400 : Cond.classLink "ChunkStore" 122 "java/lang/UnsupportedOperationException" ∈ xT := xT_in (List.mem_append_right _ (List.mem_append_right _ (List.mem_append_left _ (List.mem_of_getElem? (i := 160) rfl))) : _ ∈ lw_tbl) rfl
theorem kw401 : Cond.instantiable "java/lang/UnsupportedOperationException" 6 ∈ xT := xT_in (List.mem_append_right _ (List.mem_append_right _ (List.mem_append_left _ (List.mem_of_getElem? (i := 161) rfl))) : _ ∈ lw_tbl) rfl
theorem kn402 : Cond.castable "java/lang/UnsupportedOperationException" "java/lang/UnsupportedOperationException" ∈ xN := xN_in (List.mem_append_right _ (List.mem_append_right _ (List.mem_append_left _ (List.mem_of_getElem? (i := 162) rfl))) : _ ∈ lw_tbl) rfl
theorem kw403 : Cond.selects "java/lang/UnsupportedOperationException" (⟨"java/lang/Throwable", "fillInStackTrace", "(I)Ljava/lang/Throwable;"⟩ : MethodName) (⟨"java/lang/Throwable", "fillInStackTrace", "(I)Ljava/lang/Throwable;"⟩ : MethodName) ∈ xT := xT_in (List.mem_append_right _ (List.mem_append_right _ (List.mem_append_left _ (List.mem_of_getElem? (i := 163) rfl))) : _ ∈ lw_tbl) rfl
theorem kw404 : Cond.lays "java/lang/UnsupportedOperationException" "java/lang/Throwable" "cause" "Ljava/lang/Throwable;" ∈ xT := xT_in (List.mem_append_right _ (List.mem_append_right _ (List.mem_append_left _ (List.mem_of_getElem? (i := 164) rfl))) : _ ∈ lw_tbl) rfl
theorem kw405 : Cond.lays "java/lang/UnsupportedOperationException" "java/lang/Throwable" "stackTrace" "[Ljava/lang/StackTraceElement;" ∈ xT := xT_in (List.mem_append_right _ (List.mem_append_right _ (List.mem_append_left _ (List.mem_of_getElem? (i := 165) rfl))) : _ ∈ lw_tbl) rfl
theorem kw406 : Cond.lays "java/lang/UnsupportedOperationException" "java/lang/Throwable" "suppressedExceptions" "Ljava/util/List;" ∈ xT := xT_in (List.mem_append_right _ (List.mem_append_right _ (List.mem_append_left _ (List.mem_of_getElem? (i := 166) rfl))) : _ ∈ lw_tbl) rfl
theorem kw407 : Cond.lays "java/lang/UnsupportedOperationException" "java/lang/Throwable" "detailMessage" "Ljava/lang/String;" ∈ xT := xT_in (List.mem_append_right _ (List.mem_append_right _ (List.mem_append_left _ (List.mem_of_getElem? (i := 167) rfl))) : _ ∈ lw_tbl) rfl
theorem kw408 : Cond.lays "java/lang/UnsupportedOperationException" "java/lang/Throwable" "backtrace" "Ljava/lang/Object;" ∈ xT := xT_in (List.mem_append_right _ (List.mem_append_right _ (List.mem_append_left _ (List.mem_of_getElem? (i := 168) rfl))) : _ ∈ lw_tbl) rfl
theorem kw410 : Cond.methodLink "ChunkStore" 126 (⟨"java/lang/UnsupportedOperationException", "<init>", "(Ljava/lang/String;)V"⟩ : MethodName) ∈ xT := xT_in (List.mem_append_right _ (List.mem_append_right _ (List.mem_append_left _ (List.mem_of_getElem? (i := 170) rfl))) : _ ∈ lw_tbl) rfl
theorem kw411 : Cond.instanceMethod (⟨"java/lang/UnsupportedOperationException", "<init>", "(Ljava/lang/String;)V"⟩ : MethodName) ∈ xT := xT_in (List.mem_append_right _ (List.mem_append_right _ (List.mem_append_left _ (List.mem_of_getElem? (i := 171) rfl))) : _ ∈ lw_tbl) rfl
theorem kw412 : Cond.code (⟨"java/lang/UnsupportedOperationException", "<init>", "(Ljava/lang/String;)V"⟩ : MethodName) prog_18_method_2_code 2 none ∈ xT := xT_in (List.mem_append_right _ (List.mem_append_right _ (List.mem_append_left _ (List.mem_of_getElem? (i := 172) rfl))) : _ ∈ lw_tbl) rfl
theorem kw413 : Cond.methodLink "java/lang/UnsupportedOperationException" 7 (⟨"java/lang/RuntimeException", "<init>", "(Ljava/lang/String;)V"⟩ : MethodName) ∈ xT := xT_in (List.mem_append_right _ (List.mem_append_right _ (List.mem_append_left _ (List.mem_of_getElem? (i := 173) rfl))) : _ ∈ lw_tbl) rfl
theorem kw414 : Cond.lays "java/lang/UnsupportedOperationException" "java/lang/Throwable" "depth" "I" ∈ xT := xT_in (List.mem_append_right _ (List.mem_append_right _ (List.mem_append_left _ (List.mem_of_getElem? (i := 174) rfl))) : _ ∈ lw_tbl) rfl
theorem kw415 : Cond.superclass "java/lang/UnsupportedOperationException" "java/lang/RuntimeException" ∈ xT := xT_in (List.mem_append_right _ (List.mem_append_right _ (List.mem_append_left _ (List.mem_of_getElem? (i := 175) rfl))) : _ ∈ lw_tbl) rfl
theorem kn416 : Cond.methodLinkNest "ChunkStore" 175 (⟨"ChunkStore$Server", "addLike", "(ILChunkStore$Server;II)V"⟩ : MethodName) "ChunkStore" ∈ xN := xN_in (List.mem_append_right _ (List.mem_append_right _ (List.mem_append_left _ (List.mem_of_getElem? (i := 176) rfl))) : _ ∈ lw_tbl) rfl
theorem kw418 : Cond.instanceMethod (⟨"ChunkStore$Server", "addLike", "(ILChunkStore$Server;II)V"⟩ : MethodName) ∈ xT := xT_in (List.mem_append_right _ (List.mem_append_right _ (List.mem_append_left _ (List.mem_of_getElem? (i := 178) rfl))) : _ ∈ lw_tbl) rfl
theorem kw419 : Cond.code (⟨"ChunkStore$Server", "addLike", "(ILChunkStore$Server;II)V"⟩ : MethodName) prog_5_method_5_code 6 none ∈ xT := xT_in (List.mem_append_right _ (List.mem_append_right _ (List.mem_append_left _ (List.mem_of_getElem? (i := 179) rfl))) : _ ∈ lw_tbl) rfl
theorem kw420 : Cond.methodLink "ChunkStore" 253 (⟨"ChunkStore", "raiseVersion", "(II)V"⟩ : MethodName) ∈ xT := xT_in (List.mem_append_right _ (List.mem_append_right _ (List.mem_append_left _ (List.mem_of_getElem? (i := 180) rfl))) : _ ∈ lw_tbl) rfl
theorem kw422 : Cond.instanceMethod (⟨"ChunkStore", "raiseVersion", "(II)V"⟩ : MethodName) ∈ xT := xT_in (List.mem_append_right _ (List.mem_append_right _ (List.mem_append_left _ (List.mem_of_getElem? (i := 182) rfl))) : _ ∈ lw_tbl) rfl
theorem kw423 : Cond.code (⟨"ChunkStore", "raiseVersion", "(II)V"⟩ : MethodName) prog_1_method_38_code 5 none ∈ xT := xT_in (List.mem_append_right _ (List.mem_append_right _ (List.mem_append_left _ (List.mem_of_getElem? (i := 183) rfl))) : _ ∈ lw_tbl) rfl
theorem kw424 : Cond.constantDouble "ChunkStore" 256 (4621819117588971520 : UInt64) ∈ xT := xT_in (List.mem_append_right _ (List.mem_append_right _ (List.mem_append_left _ (List.mem_of_getElem? (i := 184) rfl))) : _ ∈ lw_tbl) rfl
theorem kw425 : Cond.methodLink "ChunkStore" 106 (⟨"ChunkStore", "setWordAtHolders", "(III)V"⟩ : MethodName) ∈ xT := xT_in (List.mem_append_right _ (List.mem_append_right _ (List.mem_append_left _ (List.mem_of_getElem? (i := 185) rfl))) : _ ∈ lw_tbl) rfl
theorem kw427 : Cond.instanceMethod (⟨"ChunkStore", "setWordAtHolders", "(III)V"⟩ : MethodName) ∈ xT := xT_in (List.mem_append_right _ (List.mem_append_right _ (List.mem_append_left _ (List.mem_of_getElem? (i := 187) rfl))) : _ ∈ lw_tbl) rfl
theorem kw428 : Cond.code (⟨"ChunkStore", "setWordAtHolders", "(III)V"⟩ : MethodName) prog_1_method_39_code 5 none ∈ xT := xT_in (List.mem_append_right _ (List.mem_append_right _ (List.mem_append_left _ (List.mem_of_getElem? (i := 188) rfl))) : _ ∈ lw_tbl) rfl
theorem kn429 : Cond.methodLinkNest "ChunkStore" 265 (⟨"ChunkStore$Server", "setWord", "(III)V"⟩ : MethodName) "ChunkStore" ∈ xN := xN_in (List.mem_append_right _ (List.mem_append_right _ (List.mem_append_left _ (List.mem_of_getElem? (i := 189) rfl))) : _ ∈ lw_tbl) rfl
theorem kw431 : Cond.instanceMethod (⟨"ChunkStore$Server", "setWord", "(III)V"⟩ : MethodName) ∈ xT := xT_in (List.mem_append_right _ (List.mem_append_right _ (List.mem_append_left _ (List.mem_of_getElem? (i := 191) rfl))) : _ ∈ lw_tbl) rfl
theorem kw432 : Cond.code (⟨"ChunkStore$Server", "setWord", "(III)V"⟩ : MethodName) prog_5_method_8_code 4 none ∈ xT := xT_in (List.mem_append_right _ (List.mem_append_right _ (List.mem_append_left _ (List.mem_of_getElem? (i := 192) rfl))) : _ ∈ lw_tbl) rfl
theorem kw433 : Cond.methodLink "ChunkStore$Server" 29 (⟨"java/lang/Math", "max", "(II)I"⟩ : MethodName) ∈ xT := xT_in (List.mem_append_right _ (List.mem_append_right _ (List.mem_append_left _ (List.mem_of_getElem? (i := 193) rfl))) : _ ∈ lw_tbl) rfl
theorem kw434 : Cond.static (⟨"java/lang/Math", "max", "(II)I"⟩ : MethodName) ∈ xT := xT_in (List.mem_append_right _ (List.mem_append_right _ (List.mem_append_left _ (List.mem_of_getElem? (i := 194) rfl))) : _ ∈ lw_tbl) rfl
theorem kw435 : Cond.code (⟨"java/lang/Math", "max", "(II)I"⟩ : MethodName) prog_14_method_65_code 2 (some FieldType.int) ∈ xT := xT_in (List.mem_append_right _ (List.mem_append_right _ (List.mem_append_left _ (List.mem_of_getElem? (i := 195) rfl))) : _ ∈ lw_tbl) rfl
theorem kw436 : Cond.methodLink "ChunkStoreLaw" 115 (⟨"ChunkStoreLaw", "append", "(LChunkStore;II[J)I"⟩ : MethodName) ∈ xT := xT_in (List.mem_append_right _ (List.mem_append_right _ (List.mem_append_left _ (List.mem_of_getElem? (i := 196) rfl))) : _ ∈ lw_tbl) rfl
theorem kw437 : Cond.static (⟨"ChunkStoreLaw", "append", "(LChunkStore;II[J)I"⟩ : MethodName) ∈ xT := xT_in (List.mem_append_right _ (List.mem_append_right _ (List.mem_append_left _ (List.mem_of_getElem? (i := 197) rfl))) : _ ∈ lw_tbl) rfl
theorem kw438 : Cond.codeWith (⟨"ChunkStoreLaw", "append", "(LChunkStore;II[J)I"⟩ : MethodName) method_10_code 5 (some FieldType.int) [(0, 10, 13, 13), (0, 10, 17, 20), (0, 10, 21, 15), (0, 10, 25, 42), (0, 10, 29, 32)] ∈ xT := xT_in (List.mem_append_right _ (List.mem_append_right _ (List.mem_append_left _ (List.mem_of_getElem? (i := 198) rfl))) : _ ∈ lw_tbl) rfl
theorem kw439 : Cond.methodLink "ChunkStoreLaw" 44 (⟨"ChunkStore", "append", "(II)I"⟩ : MethodName) ∈ xT := xT_in (List.mem_append_right _ (List.mem_append_right _ (List.mem_append_left _ (List.mem_of_getElem? (i := 199) rfl))) : _ ∈ lw_tbl) rfl
theorem kw440 : Cond.instanceMethod (⟨"ChunkStore", "append", "(II)I"⟩ : MethodName) ∈ xT := xT_in (List.mem_append_right _ (List.mem_append_right _ (List.mem_append_left _ (List.mem_of_getElem? (i := 200) rfl))) : _ ∈ lw_tbl) rfl
theorem kw441 : Cond.selects "ChunkStore" (⟨"ChunkStore", "append", "(II)I"⟩ : MethodName) (⟨"ChunkStore", "append", "(II)I"⟩ : MethodName) ∈ xT := xT_in (List.mem_append_right _ (List.mem_append_right _ (List.mem_append_left _ (List.mem_of_getElem? (i := 201) rfl))) : _ ∈ lw_tbl) rfl
theorem kw442 : Cond.code (⟨"ChunkStore", "append", "(II)I"⟩ : MethodName) prog_1_method_9_code 7 (some FieldType.int) ∈ xT := xT_in (List.mem_append_right _ (List.mem_append_right _ (List.mem_append_left _ (List.mem_of_getElem? (i := 202) rfl))) : _ ∈ lw_tbl) rfl
theorem kw443 : Cond.methodLink "ChunkStore" 111 (⟨"ChunkStore", "usedAtFirst", "(I)I"⟩ : MethodName) ∈ xT := xT_in (List.mem_append_right _ (List.mem_append_right _ (List.mem_append_left _ (List.mem_of_getElem? (i := 203) rfl))) : _ ∈ lw_tbl) rfl
theorem kw445 : Cond.instanceMethod (⟨"ChunkStore", "usedAtFirst", "(I)I"⟩ : MethodName) ∈ xT := xT_in (List.mem_append_right _ (List.mem_append_right _ (List.mem_append_left _ (List.mem_of_getElem? (i := 205) rfl))) : _ ∈ lw_tbl) rfl
theorem kw446 : Cond.code (⟨"ChunkStore", "usedAtFirst", "(I)I"⟩ : MethodName) prog_1_method_40_code 3 (some FieldType.int) ∈ xT := xT_in (List.mem_append_right _ (List.mem_append_right _ (List.mem_append_left _ (List.mem_of_getElem? (i := 206) rfl))) : _ ∈ lw_tbl) rfl
theorem kw447 : Cond.methodLink "ChunkStore" 170 (⟨"ChunkStore", "first", "(I)I"⟩ : MethodName) ∈ xT := xT_in (List.mem_append_right _ (List.mem_append_right _ (List.mem_append_left _ (List.mem_of_getElem? (i := 207) rfl))) : _ ∈ lw_tbl) rfl
theorem kw448 : Cond.static (⟨"ChunkStore", "first", "(I)I"⟩ : MethodName) ∈ xT := xT_in (List.mem_append_right _ (List.mem_append_right _ (List.mem_append_left _ (List.mem_of_getElem? (i := 208) rfl))) : _ ∈ lw_tbl) rfl
theorem kw449 : Cond.code (⟨"ChunkStore", "first", "(I)I"⟩ : MethodName) prog_1_method_27_code 2 (some FieldType.int) ∈ xT := xT_in (List.mem_append_right _ (List.mem_append_right _ (List.mem_append_left _ (List.mem_of_getElem? (i := 209) rfl))) : _ ∈ lw_tbl) rfl
theorem kw450 : Cond.methodLink "ChunkStoreLaw" 118 (⟨"ChunkStoreLaw", "read", "(LChunkStore;IIIII[J)I"⟩ : MethodName) ∈ xT := xT_in (List.mem_append_right _ (List.mem_append_right _ (List.mem_append_left _ (List.mem_of_getElem? (i := 210) rfl))) : _ ∈ lw_tbl) rfl
theorem kw451 : Cond.static (⟨"ChunkStoreLaw", "read", "(LChunkStore;IIIII[J)I"⟩ : MethodName) ∈ xT := xT_in (List.mem_append_right _ (List.mem_append_right _ (List.mem_append_left _ (List.mem_of_getElem? (i := 211) rfl))) : _ ∈ lw_tbl) rfl
theorem kw452 : Cond.codeWith (⟨"ChunkStoreLaw", "read", "(LChunkStore;IIIII[J)I"⟩ : MethodName) method_11_code 8 (some FieldType.int) [(0, 16, 19, 13), (0, 16, 23, 20), (0, 16, 27, 15), (0, 16, 31, 42), (0, 16, 35, 32)] ∈ xT := xT_in (List.mem_append_right _ (List.mem_append_right _ (List.mem_append_left _ (List.mem_of_getElem? (i := 212) rfl))) : _ ∈ lw_tbl) rfl
theorem kw453 : Cond.methodLink "ChunkStoreLaw" 47 (⟨"ChunkStore", "read", "(IIIII)I"⟩ : MethodName) ∈ xT := xT_in (List.mem_append_right _ (List.mem_append_right _ (List.mem_append_left _ (List.mem_of_getElem? (i := 213) rfl))) : _ ∈ lw_tbl) rfl
theorem kw454 : Cond.instanceMethod (⟨"ChunkStore", "read", "(IIIII)I"⟩ : MethodName) ∈ xT := xT_in (List.mem_append_right _ (List.mem_append_right _ (List.mem_append_left _ (List.mem_of_getElem? (i := 214) rfl))) : _ ∈ lw_tbl) rfl
theorem kw455 : Cond.selects "ChunkStore" (⟨"ChunkStore", "read", "(IIIII)I"⟩ : MethodName) (⟨"ChunkStore", "read", "(IIIII)I"⟩ : MethodName) ∈ xT := xT_in (List.mem_append_right _ (List.mem_append_right _ (List.mem_append_left _ (List.mem_of_getElem? (i := 215) rfl))) : _ ∈ lw_tbl) rfl
theorem kw456 : Cond.code (⟨"ChunkStore", "read", "(IIIII)I"⟩ : MethodName) prog_1_method_10_code 8 (some FieldType.int) ∈ xT := xT_in (List.mem_append_right _ (List.mem_append_right _ (List.mem_append_left _ (List.mem_of_getElem? (i := 216) rfl))) : _ ∈ lw_tbl) rfl
theorem kn459 : Cond.methodLinkNest "ChunkStore" 142 (⟨"ChunkStore$Server", "word", "(II)I"⟩ : MethodName) "ChunkStore" ∈ xN := xN_in (List.mem_append_right _ (List.mem_append_right _ (List.mem_append_left _ (List.mem_of_getElem? (i := 219) rfl))) : _ ∈ lw_tbl) rfl
theorem kw461 : Cond.instanceMethod (⟨"ChunkStore$Server", "word", "(II)I"⟩ : MethodName) ∈ xT := xT_in (List.mem_append_right _ (List.mem_append_right _ (List.mem_append_left _ (List.mem_of_getElem? (i := 221) rfl))) : _ ∈ lw_tbl) rfl
theorem kw462 : Cond.code (⟨"ChunkStore$Server", "word", "(II)I"⟩ : MethodName) prog_5_method_7_code 3 (some FieldType.int) ∈ xT := xT_in (List.mem_append_right _ (List.mem_append_right _ (List.mem_append_left _ (List.mem_of_getElem? (i := 222) rfl))) : _ ∈ lw_tbl) rfl
theorem kw463 : Cond.methodLink "ChunkStoreLaw" 122 (⟨"ChunkStoreLaw", "up", "(LChunkStore;IZ[J)I"⟩ : MethodName) ∈ xT := xT_in (List.mem_append_right _ (List.mem_append_right _ (List.mem_append_left _ (List.mem_of_getElem? (i := 223) rfl))) : _ ∈ lw_tbl) rfl
theorem kw464 : Cond.static (⟨"ChunkStoreLaw", "up", "(LChunkStore;IZ[J)I"⟩ : MethodName) ∈ xT := xT_in (List.mem_append_right _ (List.mem_append_right _ (List.mem_append_left _ (List.mem_of_getElem? (i := 224) rfl))) : _ ∈ lw_tbl) rfl
theorem kw465 : Cond.codeWith (⟨"ChunkStoreLaw", "up", "(LChunkStore;IZ[J)I"⟩ : MethodName) method_12_code 5 (some FieldType.int) [(0, 10, 13, 13)] ∈ xT := xT_in (List.mem_append_right _ (List.mem_append_right _ (List.mem_append_left _ (List.mem_of_getElem? (i := 225) rfl))) : _ ∈ lw_tbl) rfl
theorem kw466 : Cond.methodLink "ChunkStoreLaw" 51 (⟨"ChunkStore", "up", "(IZ)I"⟩ : MethodName) ∈ xT := xT_in (List.mem_append_right _ (List.mem_append_right _ (List.mem_append_left _ (List.mem_of_getElem? (i := 226) rfl))) : _ ∈ lw_tbl) rfl
theorem kw467 : Cond.instanceMethod (⟨"ChunkStore", "up", "(IZ)I"⟩ : MethodName) ∈ xT := xT_in (List.mem_append_right _ (List.mem_append_right _ (List.mem_append_left _ (List.mem_of_getElem? (i := 227) rfl))) : _ ∈ lw_tbl) rfl
theorem kw468 : Cond.selects "ChunkStore" (⟨"ChunkStore", "up", "(IZ)I"⟩ : MethodName) (⟨"ChunkStore", "up", "(IZ)I"⟩ : MethodName) ∈ xT := xT_in (List.mem_append_right _ (List.mem_append_right _ (List.mem_append_left _ (List.mem_of_getElem? (i := 228) rfl))) : _ ∈ lw_tbl) rfl
theorem kw469 : Cond.code (⟨"ChunkStore", "up", "(IZ)I"⟩ : MethodName) prog_1_method_11_code 3 (some FieldType.int) ∈ xT := xT_in (List.mem_append_right _ (List.mem_append_right _ (List.mem_append_left _ (List.mem_of_getElem? (i := 229) rfl))) : _ ∈ lw_tbl) rfl
theorem kw470 : Cond.methodLink "ChunkStoreLaw" 126 (⟨"ChunkStoreLaw", "report", "(LChunkStore;I[J)I"⟩ : MethodName) ∈ xT := xT_in (List.mem_append_right _ (List.mem_append_right _ (List.mem_append_left _ (List.mem_of_getElem? (i := 230) rfl))) : _ ∈ lw_tbl) rfl
theorem kw471 : Cond.static (⟨"ChunkStoreLaw", "report", "(LChunkStore;I[J)I"⟩ : MethodName) ∈ xT := xT_in (List.mem_append_right _ (List.mem_append_right _ (List.mem_append_left _ (List.mem_of_getElem? (i := 231) rfl))) : _ ∈ lw_tbl) rfl
theorem kw472 : Cond.codeWith (⟨"ChunkStoreLaw", "report", "(LChunkStore;I[J)I"⟩ : MethodName) method_13_code 4 (some FieldType.int) [(0, 9, 12, 13), (0, 9, 15, 15)] ∈ xT := xT_in (List.mem_append_right _ (List.mem_append_right _ (List.mem_append_left _ (List.mem_of_getElem? (i := 232) rfl))) : _ ∈ lw_tbl) rfl
theorem kw473 : Cond.methodLink "ChunkStoreLaw" 55 (⟨"ChunkStore", "report", "(I)I"⟩ : MethodName) ∈ xT := xT_in (List.mem_append_right _ (List.mem_append_right _ (List.mem_append_left _ (List.mem_of_getElem? (i := 233) rfl))) : _ ∈ lw_tbl) rfl
theorem kw474 : Cond.instanceMethod (⟨"ChunkStore", "report", "(I)I"⟩ : MethodName) ∈ xT := xT_in (List.mem_append_right _ (List.mem_append_right _ (List.mem_append_left _ (List.mem_of_getElem? (i := 234) rfl))) : _ ∈ lw_tbl) rfl
theorem kw475 : Cond.selects "ChunkStore" (⟨"ChunkStore", "report", "(I)I"⟩ : MethodName) (⟨"ChunkStore", "report", "(I)I"⟩ : MethodName) ∈ xT := xT_in (List.mem_append_right _ (List.mem_append_right _ (List.mem_append_left _ (List.mem_of_getElem? (i := 235) rfl))) : _ ∈ lw_tbl) rfl
theorem kw476 : Cond.code (⟨"ChunkStore", "report", "(I)I"⟩ : MethodName) prog_1_method_12_code 4 (some FieldType.int) ∈ xT := xT_in (List.mem_append_right _ (List.mem_append_right _ (List.mem_append_left _ (List.mem_of_getElem? (i := 236) rfl))) : _ ∈ lw_tbl) rfl
theorem kw478 : Cond.methodLink "ChunkStore" 158 (⟨"ChunkStore", "confirmReplica", "(II)Z"⟩ : MethodName) ∈ xT := xT_in (List.mem_append_right _ (List.mem_append_right _ (List.mem_append_left _ (List.mem_of_getElem? (i := 238) rfl))) : _ ∈ lw_tbl) rfl
theorem kw480 : Cond.instanceMethod (⟨"ChunkStore", "confirmReplica", "(II)Z"⟩ : MethodName) ∈ xT := xT_in (List.mem_append_right _ (List.mem_append_right _ (List.mem_append_right _ (List.mem_append_left _ (List.mem_of_getElem? (i := 0) rfl)))) : _ ∈ lw_tbl) rfl
theorem kw481 : Cond.code (⟨"ChunkStore", "confirmReplica", "(II)Z"⟩ : MethodName) prog_1_method_41_code 4 (some FieldType.boolean) ∈ xT := xT_in (List.mem_append_right _ (List.mem_append_right _ (List.mem_append_right _ (List.mem_append_left _ (List.mem_of_getElem? (i := 1) rfl)))) : _ ∈ lw_tbl) rfl
theorem kn482 : Cond.methodLinkNest "ChunkStore" 268 (⟨"ChunkStore$Server", "drop", "(I)V"⟩ : MethodName) "ChunkStore" ∈ xN := xN_in (List.mem_append_right _ (List.mem_append_right _ (List.mem_append_right _ (List.mem_append_left _ (List.mem_of_getElem? (i := 2) rfl)))) : _ ∈ lw_tbl) rfl
theorem kw484 : Cond.instanceMethod (⟨"ChunkStore$Server", "drop", "(I)V"⟩ : MethodName) ∈ xT := xT_in (List.mem_append_right _ (List.mem_append_right _ (List.mem_append_right _ (List.mem_append_left _ (List.mem_of_getElem? (i := 4) rfl)))) : _ ∈ lw_tbl) rfl
theorem kw485 : Cond.code (⟨"ChunkStore$Server", "drop", "(I)V"⟩ : MethodName) prog_5_method_6_code 2 none ∈ xT := xT_in (List.mem_append_right _ (List.mem_append_right _ (List.mem_append_right _ (List.mem_append_left _ (List.mem_of_getElem? (i := 5) rfl)))) : _ ∈ lw_tbl) rfl
theorem kw486 : Cond.methodLink "ChunkStoreLaw" 129 (⟨"ChunkStoreLaw", "repair", "(LChunkStore;[J)I"⟩ : MethodName) ∈ xT := xT_in (List.mem_append_right _ (List.mem_append_right _ (List.mem_append_right _ (List.mem_append_left _ (List.mem_of_getElem? (i := 6) rfl)))) : _ ∈ lw_tbl) rfl
theorem kw487 : Cond.static (⟨"ChunkStoreLaw", "repair", "(LChunkStore;[J)I"⟩ : MethodName) ∈ xT := xT_in (List.mem_append_right _ (List.mem_append_right _ (List.mem_append_right _ (List.mem_append_left _ (List.mem_of_getElem? (i := 7) rfl)))) : _ ∈ lw_tbl) rfl
theorem kw488 : Cond.codeWith (⟨"ChunkStoreLaw", "repair", "(LChunkStore;[J)I"⟩ : MethodName) method_14_code 3 (some FieldType.int) [(0, 8, 11, 20)] ∈ xT := xT_in (List.mem_append_right _ (List.mem_append_right _ (List.mem_append_right _ (List.mem_append_left _ (List.mem_of_getElem? (i := 8) rfl)))) : _ ∈ lw_tbl) rfl
theorem kw489 : Cond.methodLink "ChunkStoreLaw" 58 (⟨"ChunkStore", "repair", "()I"⟩ : MethodName) ∈ xT := xT_in (List.mem_append_right _ (List.mem_append_right _ (List.mem_append_right _ (List.mem_append_left _ (List.mem_of_getElem? (i := 9) rfl)))) : _ ∈ lw_tbl) rfl
theorem kw490 : Cond.instanceMethod (⟨"ChunkStore", "repair", "()I"⟩ : MethodName) ∈ xT := xT_in (List.mem_append_right _ (List.mem_append_right _ (List.mem_append_right _ (List.mem_append_left _ (List.mem_of_getElem? (i := 10) rfl)))) : _ ∈ lw_tbl) rfl
theorem kw491 : Cond.selects "ChunkStore" (⟨"ChunkStore", "repair", "()I"⟩ : MethodName) (⟨"ChunkStore", "repair", "()I"⟩ : MethodName) ∈ xT := xT_in (List.mem_append_right _ (List.mem_append_right _ (List.mem_append_right _ (List.mem_append_left _ (List.mem_of_getElem? (i := 11) rfl)))) : _ ∈ lw_tbl) rfl
theorem kw492 : Cond.code (⟨"ChunkStore", "repair", "()I"⟩ : MethodName) prog_1_method_13_code 4 (some FieldType.int) ∈ xT := xT_in (List.mem_append_right _ (List.mem_append_right _ (List.mem_append_right _ (List.mem_append_left _ (List.mem_of_getElem? (i := 12) rfl)))) : _ ∈ lw_tbl) rfl
theorem kw493 : Cond.methodLink "ChunkStore" 161 (⟨"ChunkStore", "mostInNeed", "()I"⟩ : MethodName) ∈ xT := xT_in (List.mem_append_right _ (List.mem_append_right _ (List.mem_append_right _ (List.mem_append_left _ (List.mem_of_getElem? (i := 13) rfl)))) : _ ∈ lw_tbl) rfl
theorem kw495 : Cond.instanceMethod (⟨"ChunkStore", "mostInNeed", "()I"⟩ : MethodName) ∈ xT := xT_in (List.mem_append_right _ (List.mem_append_right _ (List.mem_append_right _ (List.mem_append_left _ (List.mem_of_getElem? (i := 15) rfl)))) : _ ∈ lw_tbl) rfl
theorem kw496 : Cond.code (⟨"ChunkStore", "mostInNeed", "()I"⟩ : MethodName) prog_1_method_42_code 6 (some FieldType.int) ∈ xT := xT_in (List.mem_append_right _ (List.mem_append_right _ (List.mem_append_right _ (List.mem_append_left _ (List.mem_of_getElem? (i := 16) rfl)))) : _ ∈ lw_tbl) rfl
theorem kw497 : Cond.methodLink "ChunkStore" 205 (⟨"java/lang/Integer", "bitCount", "(I)I"⟩ : MethodName) ∈ xT := xT_in (List.mem_append_right _ (List.mem_append_right _ (List.mem_append_right _ (List.mem_append_left _ (List.mem_of_getElem? (i := 17) rfl)))) : _ ∈ lw_tbl) rfl
theorem kw498 : Cond.static (⟨"java/lang/Integer", "bitCount", "(I)I"⟩ : MethodName) ∈ xT := xT_in (List.mem_append_right _ (List.mem_append_right _ (List.mem_append_right _ (List.mem_append_left _ (List.mem_of_getElem? (i := 18) rfl)))) : _ ∈ lw_tbl) rfl
theorem kw499 : Cond.code (⟨"java/lang/Integer", "bitCount", "(I)I"⟩ : MethodName) prog_13_method_49_code 1 (some FieldType.int) ∈ xT := xT_in (List.mem_append_right _ (List.mem_append_right _ (List.mem_append_right _ (List.mem_append_left _ (List.mem_of_getElem? (i := 19) rfl)))) : _ ∈ lw_tbl) rfl
theorem kw500 : Cond.constant "java/lang/Integer" 265 (1431655765 : Int32) ∈ xT := xT_in (List.mem_append_right _ (List.mem_append_right _ (List.mem_append_right _ (List.mem_append_left _ (List.mem_of_getElem? (i := 20) rfl)))) : _ ∈ lw_tbl) rfl
theorem kw501 : Cond.constant "java/lang/Integer" 266 (858993459 : Int32) ∈ xT := xT_in (List.mem_append_right _ (List.mem_append_right _ (List.mem_append_right _ (List.mem_append_left _ (List.mem_of_getElem? (i := 21) rfl)))) : _ ∈ lw_tbl) rfl
theorem kw502 : Cond.constant "java/lang/Integer" 267 (252645135 : Int32) ∈ xT := xT_in (List.mem_append_right _ (List.mem_append_right _ (List.mem_append_right _ (List.mem_append_left _ (List.mem_of_getElem? (i := 22) rfl)))) : _ ∈ lw_tbl) rfl
theorem kw504 : Cond.methodLink "ChunkStoreLaw" 139 (⟨"ChunkStoreLaw", "tick", "(LChunkStore;D[D)I"⟩ : MethodName) ∈ xT := xT_in (List.mem_append_right _ (List.mem_append_right _ (List.mem_append_right _ (List.mem_append_left _ (List.mem_of_getElem? (i := 24) rfl)))) : _ ∈ lw_tbl) rfl
theorem kw505 : Cond.static (⟨"ChunkStoreLaw", "tick", "(LChunkStore;D[D)I"⟩ : MethodName) ∈ xT := xT_in (List.mem_append_right _ (List.mem_append_right _ (List.mem_append_right _ (List.mem_append_left _ (List.mem_of_getElem? (i := 25) rfl)))) : _ ∈ lw_tbl) rfl
theorem kw506 : Cond.codeWith (⟨"ChunkStoreLaw", "tick", "(LChunkStore;D[D)I"⟩ : MethodName) method_15_code 5 (some FieldType.int) [(0, 8, 11, 13)] ∈ xT := xT_in (List.mem_append_right _ (List.mem_append_right _ (List.mem_append_right _ (List.mem_append_left _ (List.mem_of_getElem? (i := 26) rfl)))) : _ ∈ lw_tbl) rfl
theorem kw507 : Cond.methodLink "ChunkStoreLaw" 62 (⟨"ChunkStore", "tick", "(D)D"⟩ : MethodName) ∈ xT := xT_in (List.mem_append_right _ (List.mem_append_right _ (List.mem_append_right _ (List.mem_append_left _ (List.mem_of_getElem? (i := 27) rfl)))) : _ ∈ lw_tbl) rfl
theorem kw508 : Cond.instanceMethod (⟨"ChunkStore", "tick", "(D)D"⟩ : MethodName) ∈ xT := xT_in (List.mem_append_right _ (List.mem_append_right _ (List.mem_append_right _ (List.mem_append_left _ (List.mem_of_getElem? (i := 28) rfl)))) : _ ∈ lw_tbl) rfl
theorem kw509 : Cond.selects "ChunkStore" (⟨"ChunkStore", "tick", "(D)D"⟩ : MethodName) (⟨"ChunkStore", "tick", "(D)D"⟩ : MethodName) ∈ xT := xT_in (List.mem_append_right _ (List.mem_append_right _ (List.mem_append_right _ (List.mem_append_left _ (List.mem_of_getElem? (i := 29) rfl)))) : _ ∈ lw_tbl) rfl
theorem kw510 : Cond.code (⟨"ChunkStore", "tick", "(D)D"⟩ : MethodName) prog_1_method_15_code 3 (some FieldType.double) ∈ xT := xT_in (List.mem_append_right _ (List.mem_append_right _ (List.mem_append_right _ (List.mem_append_left _ (List.mem_of_getElem? (i := 30) rfl)))) : _ ∈ lw_tbl) rfl
theorem kw511 : Cond.constantDouble "ChunkStore" 186 (4636737291354636288 : UInt64) ∈ xT := xT_in (List.mem_append_right _ (List.mem_append_right _ (List.mem_append_right _ (List.mem_append_left _ (List.mem_of_getElem? (i := 31) rfl)))) : _ ∈ lw_tbl) rfl
theorem kw513 : Cond.methodLink "ChunkStoreLaw" 143 (⟨"ChunkStoreLaw", "load", "(LChunkStore;[D)I"⟩ : MethodName) ∈ xT := xT_in (List.mem_append_right _ (List.mem_append_right _ (List.mem_append_right _ (List.mem_append_left _ (List.mem_of_getElem? (i := 33) rfl)))) : _ ∈ lw_tbl) rfl
theorem kw514 : Cond.static (⟨"ChunkStoreLaw", "load", "(LChunkStore;[D)I"⟩ : MethodName) ∈ xT := xT_in (List.mem_append_right _ (List.mem_append_right _ (List.mem_append_right _ (List.mem_append_left _ (List.mem_of_getElem? (i := 34) rfl)))) : _ ∈ lw_tbl) rfl
theorem kw515 : Cond.codeWith (⟨"ChunkStoreLaw", "load", "(LChunkStore;[D)I"⟩ : MethodName) method_16_code 3 (some FieldType.int) [(0, 7, 10, 70)] ∈ xT := xT_in (List.mem_append_right _ (List.mem_append_right _ (List.mem_append_right _ (List.mem_append_left _ (List.mem_of_getElem? (i := 35) rfl)))) : _ ∈ lw_tbl) rfl
theorem kw516 : Cond.classLink "ChunkStoreLaw" 70 "java/lang/ArithmeticException" ∈ xT := xT_in (List.mem_append_right _ (List.mem_append_right _ (List.mem_append_right _ (List.mem_append_left _ (List.mem_of_getElem? (i := 36) rfl)))) : _ ∈ lw_tbl) rfl
theorem kw517 : Cond.methodLink "ChunkStoreLaw" 66 (⟨"ChunkStore", "load", "()D"⟩ : MethodName) ∈ xT := xT_in (List.mem_append_right _ (List.mem_append_right _ (List.mem_append_right _ (List.mem_append_left _ (List.mem_of_getElem? (i := 37) rfl)))) : _ ∈ lw_tbl) rfl
theorem kw518 : Cond.instanceMethod (⟨"ChunkStore", "load", "()D"⟩ : MethodName) ∈ xT := xT_in (List.mem_append_right _ (List.mem_append_right _ (List.mem_append_right _ (List.mem_append_left _ (List.mem_of_getElem? (i := 38) rfl)))) : _ ∈ lw_tbl) rfl
theorem kw519 : Cond.selects "ChunkStore" (⟨"ChunkStore", "load", "()D"⟩ : MethodName) (⟨"ChunkStore", "load", "()D"⟩ : MethodName) ∈ xT := xT_in (List.mem_append_right _ (List.mem_append_right _ (List.mem_append_right _ (List.mem_append_left _ (List.mem_of_getElem? (i := 39) rfl)))) : _ ∈ lw_tbl) rfl
theorem kw520 : Cond.code (⟨"ChunkStore", "load", "()D"⟩ : MethodName) prog_1_method_16_code 4 (some FieldType.double) ∈ xT := xT_in (List.mem_append_right _ (List.mem_append_right _ (List.mem_append_right _ (List.mem_append_left _ (List.mem_of_getElem? (i := 40) rfl)))) : _ ∈ lw_tbl) rfl
theorem kw521 : Cond.classLink "ChunkStore" 193 "java/lang/ArithmeticException" ∈ xT := xT_in (List.mem_append_right _ (List.mem_append_right _ (List.mem_append_right _ (List.mem_append_left _ (List.mem_of_getElem? (i := 41) rfl)))) : _ ∈ lw_tbl) rfl
theorem kw522 : Cond.instantiable "java/lang/ArithmeticException" 6 ∈ xT := xT_in (List.mem_append_right _ (List.mem_append_right _ (List.mem_append_right _ (List.mem_append_left _ (List.mem_of_getElem? (i := 42) rfl)))) : _ ∈ lw_tbl) rfl
theorem kn523 : Cond.castable "java/lang/ArithmeticException" "java/lang/ArithmeticException" ∈ xN := xN_in (List.mem_append_right _ (List.mem_append_right _ (List.mem_append_right _ (List.mem_append_left _ (List.mem_of_getElem? (i := 43) rfl)))) : _ ∈ lw_tbl) rfl
theorem kw524 : Cond.selects "java/lang/ArithmeticException" (⟨"java/lang/Throwable", "fillInStackTrace", "(I)Ljava/lang/Throwable;"⟩ : MethodName) (⟨"java/lang/Throwable", "fillInStackTrace", "(I)Ljava/lang/Throwable;"⟩ : MethodName) ∈ xT := xT_in (List.mem_append_right _ (List.mem_append_right _ (List.mem_append_right _ (List.mem_append_left _ (List.mem_of_getElem? (i := 44) rfl)))) : _ ∈ lw_tbl) rfl
theorem kw525 : Cond.lays "java/lang/ArithmeticException" "java/lang/Throwable" "cause" "Ljava/lang/Throwable;" ∈ xT := xT_in (List.mem_append_right _ (List.mem_append_right _ (List.mem_append_right _ (List.mem_append_left _ (List.mem_of_getElem? (i := 45) rfl)))) : _ ∈ lw_tbl) rfl
theorem kw526 : Cond.lays "java/lang/ArithmeticException" "java/lang/Throwable" "stackTrace" "[Ljava/lang/StackTraceElement;" ∈ xT := xT_in (List.mem_append_right _ (List.mem_append_right _ (List.mem_append_right _ (List.mem_append_left _ (List.mem_of_getElem? (i := 46) rfl)))) : _ ∈ lw_tbl) rfl
theorem kw527 : Cond.lays "java/lang/ArithmeticException" "java/lang/Throwable" "suppressedExceptions" "Ljava/util/List;" ∈ xT := xT_in (List.mem_append_right _ (List.mem_append_right _ (List.mem_append_right _ (List.mem_append_left _ (List.mem_of_getElem? (i := 47) rfl)))) : _ ∈ lw_tbl) rfl
theorem kw528 : Cond.lays "java/lang/ArithmeticException" "java/lang/Throwable" "detailMessage" "Ljava/lang/String;" ∈ xT := xT_in (List.mem_append_right _ (List.mem_append_right _ (List.mem_append_right _ (List.mem_append_left _ (List.mem_of_getElem? (i := 48) rfl)))) : _ ∈ lw_tbl) rfl
theorem kw529 : Cond.lays "java/lang/ArithmeticException" "java/lang/Throwable" "backtrace" "Ljava/lang/Object;" ∈ xT := xT_in (List.mem_append_right _ (List.mem_append_right _ (List.mem_append_right _ (List.mem_append_left _ (List.mem_of_getElem? (i := 49) rfl)))) : _ ∈ lw_tbl) rfl
theorem kw531 : Cond.methodLink "ChunkStore" 197 (⟨"java/lang/ArithmeticException", "<init>", "(Ljava/lang/String;)V"⟩ : MethodName) ∈ xT := xT_in (List.mem_append_right _ (List.mem_append_right _ (List.mem_append_right _ (List.mem_append_left _ (List.mem_of_getElem? (i := 51) rfl)))) : _ ∈ lw_tbl) rfl
theorem kw532 : Cond.instanceMethod (⟨"java/lang/ArithmeticException", "<init>", "(Ljava/lang/String;)V"⟩ : MethodName) ∈ xT := xT_in (List.mem_append_right _ (List.mem_append_right _ (List.mem_append_right _ (List.mem_append_left _ (List.mem_of_getElem? (i := 52) rfl)))) : _ ∈ lw_tbl) rfl
theorem kw533 : Cond.code (⟨"java/lang/ArithmeticException", "<init>", "(Ljava/lang/String;)V"⟩ : MethodName) prog_8_method_2_code 2 none ∈ xT := xT_in (List.mem_append_right _ (List.mem_append_right _ (List.mem_append_right _ (List.mem_append_left _ (List.mem_of_getElem? (i := 53) rfl)))) : _ ∈ lw_tbl) rfl
theorem kw534 : Cond.methodLink "java/lang/ArithmeticException" 7 (⟨"java/lang/RuntimeException", "<init>", "(Ljava/lang/String;)V"⟩ : MethodName) ∈ xT := xT_in (List.mem_append_right _ (List.mem_append_right _ (List.mem_append_right _ (List.mem_append_left _ (List.mem_of_getElem? (i := 54) rfl)))) : _ ∈ lw_tbl) rfl
theorem kw535 : Cond.lays "java/lang/ArithmeticException" "java/lang/Throwable" "depth" "I" ∈ xT := xT_in (List.mem_append_right _ (List.mem_append_right _ (List.mem_append_right _ (List.mem_append_left _ (List.mem_of_getElem? (i := 55) rfl)))) : _ ∈ lw_tbl) rfl
theorem kw536 : Cond.superclass "java/lang/ArithmeticException" "java/lang/RuntimeException" ∈ xT := xT_in (List.mem_append_right _ (List.mem_append_right _ (List.mem_append_right _ (List.mem_append_left _ (List.mem_of_getElem? (i := 56) rfl)))) : _ ∈ lw_tbl) rfl
theorem kw537 : Cond.methodLink "ChunkStoreLaw" 147 (⟨"ChunkStoreLaw", "look", "(LChunkStore;III[J)I"⟩ : MethodName) ∈ xT := xT_in (List.mem_append_right _ (List.mem_append_right _ (List.mem_append_right _ (List.mem_append_left _ (List.mem_of_getElem? (i := 57) rfl)))) : _ ∈ lw_tbl) rfl
theorem kw538 : Cond.static (⟨"ChunkStoreLaw", "look", "(LChunkStore;III[J)I"⟩ : MethodName) ∈ xT := xT_in (List.mem_append_right _ (List.mem_append_right _ (List.mem_append_right _ (List.mem_append_left _ (List.mem_of_getElem? (i := 58) rfl)))) : _ ∈ lw_tbl) rfl
theorem kw539 : Cond.codeWith (⟨"ChunkStoreLaw", "look", "(LChunkStore;III[J)I"⟩ : MethodName) method_17_code 6 (some FieldType.int) [(0, 12, 15, 13), (0, 12, 19, 20)] ∈ xT := xT_in (List.mem_append_right _ (List.mem_append_right _ (List.mem_append_right _ (List.mem_append_left _ (List.mem_of_getElem? (i := 59) rfl)))) : _ ∈ lw_tbl) rfl
theorem kw540 : Cond.methodLink "ChunkStoreLaw" 72 (⟨"ChunkStore", "look", "(III)I"⟩ : MethodName) ∈ xT := xT_in (List.mem_append_right _ (List.mem_append_right _ (List.mem_append_right _ (List.mem_append_left _ (List.mem_of_getElem? (i := 60) rfl)))) : _ ∈ lw_tbl) rfl
theorem kw541 : Cond.instanceMethod (⟨"ChunkStore", "look", "(III)I"⟩ : MethodName) ∈ xT := xT_in (List.mem_append_right _ (List.mem_append_right _ (List.mem_append_right _ (List.mem_append_left _ (List.mem_of_getElem? (i := 61) rfl)))) : _ ∈ lw_tbl) rfl
theorem kw542 : Cond.selects "ChunkStore" (⟨"ChunkStore", "look", "(III)I"⟩ : MethodName) (⟨"ChunkStore", "look", "(III)I"⟩ : MethodName) ∈ xT := xT_in (List.mem_append_right _ (List.mem_append_right _ (List.mem_append_right _ (List.mem_append_left _ (List.mem_of_getElem? (i := 62) rfl)))) : _ ∈ lw_tbl) rfl
theorem kw543 : Cond.code (⟨"ChunkStore", "look", "(III)I"⟩ : MethodName) prog_1_method_17_code 5 (some FieldType.int) ∈ xT := xT_in (List.mem_append_right _ (List.mem_append_right _ (List.mem_append_right _ (List.mem_append_left _ (List.mem_of_getElem? (i := 63) rfl)))) : _ ∈ lw_tbl) rfl
theorem kw545 : Cond.methodLink "ChunkStoreLaw" 150 (⟨"ChunkStoreLaw", "file", "(LChunkStore;II[J)I"⟩ : MethodName) ∈ xT := xT_in (List.mem_append_right _ (List.mem_append_right _ (List.mem_append_right _ (List.mem_append_left _ (List.mem_of_getElem? (i := 65) rfl)))) : _ ∈ lw_tbl) rfl
theorem kw546 : Cond.static (⟨"ChunkStoreLaw", "file", "(LChunkStore;II[J)I"⟩ : MethodName) ∈ xT := xT_in (List.mem_append_right _ (List.mem_append_right _ (List.mem_append_right _ (List.mem_append_left _ (List.mem_of_getElem? (i := 66) rfl)))) : _ ∈ lw_tbl) rfl
theorem kw547 : Cond.codeWith (⟨"ChunkStoreLaw", "file", "(LChunkStore;II[J)I"⟩ : MethodName) method_18_code 5 (some FieldType.int) [(0, 10, 13, 13)] ∈ xT := xT_in (List.mem_append_right _ (List.mem_append_right _ (List.mem_append_right _ (List.mem_append_left _ (List.mem_of_getElem? (i := 67) rfl)))) : _ ∈ lw_tbl) rfl
theorem kw548 : Cond.methodLink "ChunkStoreLaw" 75 (⟨"ChunkStore", "file", "(II)I"⟩ : MethodName) ∈ xT := xT_in (List.mem_append_right _ (List.mem_append_right _ (List.mem_append_right _ (List.mem_append_left _ (List.mem_of_getElem? (i := 68) rfl)))) : _ ∈ lw_tbl) rfl
theorem kw549 : Cond.instanceMethod (⟨"ChunkStore", "file", "(II)I"⟩ : MethodName) ∈ xT := xT_in (List.mem_append_right _ (List.mem_append_right _ (List.mem_append_right _ (List.mem_append_left _ (List.mem_of_getElem? (i := 69) rfl)))) : _ ∈ lw_tbl) rfl
theorem kw550 : Cond.selects "ChunkStore" (⟨"ChunkStore", "file", "(II)I"⟩ : MethodName) (⟨"ChunkStore", "file", "(II)I"⟩ : MethodName) ∈ xT := xT_in (List.mem_append_right _ (List.mem_append_right _ (List.mem_append_right _ (List.mem_append_left _ (List.mem_of_getElem? (i := 70) rfl)))) : _ ∈ lw_tbl) rfl
theorem kw551 : Cond.code (⟨"ChunkStore", "file", "(II)I"⟩ : MethodName) prog_1_method_18_code 4 (some FieldType.int) ∈ xT := xT_in (List.mem_append_right _ (List.mem_append_right _ (List.mem_append_right _ (List.mem_append_left _ (List.mem_of_getElem? (i := 71) rfl)))) : _ ∈ lw_tbl) rfl
theorem kw552 : Cond.methodLink "ChunkStoreLaw" 153 (⟨"ChunkStoreLaw", "chunk", "(LChunkStore;II[J)I"⟩ : MethodName) ∈ xT := xT_in (List.mem_append_right _ (List.mem_append_right _ (List.mem_append_right _ (List.mem_append_left _ (List.mem_of_getElem? (i := 72) rfl)))) : _ ∈ lw_tbl) rfl
theorem kw553 : Cond.static (⟨"ChunkStoreLaw", "chunk", "(LChunkStore;II[J)I"⟩ : MethodName) ∈ xT := xT_in (List.mem_append_right _ (List.mem_append_right _ (List.mem_append_right _ (List.mem_append_left _ (List.mem_of_getElem? (i := 73) rfl)))) : _ ∈ lw_tbl) rfl
theorem kw554 : Cond.codeWith (⟨"ChunkStoreLaw", "chunk", "(LChunkStore;II[J)I"⟩ : MethodName) method_19_code 5 (some FieldType.int) [(0, 10, 13, 13), (0, 10, 17, 20)] ∈ xT := xT_in (List.mem_append_right _ (List.mem_append_right _ (List.mem_append_right _ (List.mem_append_left _ (List.mem_of_getElem? (i := 74) rfl)))) : _ ∈ lw_tbl) rfl
theorem kw555 : Cond.methodLink "ChunkStoreLaw" 78 (⟨"ChunkStore", "chunk", "(II)I"⟩ : MethodName) ∈ xT := xT_in (List.mem_append_right _ (List.mem_append_right _ (List.mem_append_right _ (List.mem_append_left _ (List.mem_of_getElem? (i := 75) rfl)))) : _ ∈ lw_tbl) rfl
theorem kw556 : Cond.instanceMethod (⟨"ChunkStore", "chunk", "(II)I"⟩ : MethodName) ∈ xT := xT_in (List.mem_append_right _ (List.mem_append_right _ (List.mem_append_right _ (List.mem_append_left _ (List.mem_of_getElem? (i := 76) rfl)))) : _ ∈ lw_tbl) rfl
theorem kw557 : Cond.selects "ChunkStore" (⟨"ChunkStore", "chunk", "(II)I"⟩ : MethodName) (⟨"ChunkStore", "chunk", "(II)I"⟩ : MethodName) ∈ xT := xT_in (List.mem_append_right _ (List.mem_append_right _ (List.mem_append_right _ (List.mem_append_left _ (List.mem_of_getElem? (i := 77) rfl)))) : _ ∈ lw_tbl) rfl
theorem kw558 : Cond.code (⟨"ChunkStore", "chunk", "(II)I"⟩ : MethodName) prog_1_method_19_code 4 (some FieldType.int) ∈ xT := xT_in (List.mem_append_right _ (List.mem_append_right _ (List.mem_append_right _ (List.mem_append_left _ (List.mem_of_getElem? (i := 78) rfl)))) : _ ∈ lw_tbl) rfl
theorem kw560 : Cond.classLink "ChunkStoreLaw" 82 "ChunkStoreModel" ∈ xT := xT_in (List.mem_append_right _ (List.mem_append_right _ (List.mem_append_right _ (List.mem_append_left _ (List.mem_of_getElem? (i := 80) rfl)))) : _ ∈ lw_tbl) rfl
theorem kw561 : Cond.instantiable "ChunkStoreModel" 18 ∈ xT := xT_in (List.mem_append_right _ (List.mem_append_right _ (List.mem_append_right _ (List.mem_append_left _ (List.mem_of_getElem? (i := 81) rfl)))) : _ ∈ lw_tbl) rfl
theorem kw562 : Cond.methodLink "ChunkStoreLaw" 84 (⟨"ChunkStoreModel", "<init>", "()V"⟩ : MethodName) ∈ xT := xT_in (List.mem_append_right _ (List.mem_append_right _ (List.mem_append_right _ (List.mem_append_left _ (List.mem_of_getElem? (i := 82) rfl)))) : _ ∈ lw_tbl) rfl
theorem kw563 : Cond.instanceMethod (⟨"ChunkStoreModel", "<init>", "()V"⟩ : MethodName) ∈ xT := xT_in (List.mem_append_right _ (List.mem_append_right _ (List.mem_append_right _ (List.mem_append_left _ (List.mem_of_getElem? (i := 83) rfl)))) : _ ∈ lw_tbl) rfl
theorem kw564 : Cond.code (⟨"ChunkStoreModel", "<init>", "()V"⟩ : MethodName) prog_7_method_1_code 2 none ∈ xT := xT_in (List.mem_append_right _ (List.mem_append_right _ (List.mem_append_right _ (List.mem_append_left _ (List.mem_of_getElem? (i := 84) rfl)))) : _ ∈ lw_tbl) rfl
theorem kw565 : Cond.methodLink "ChunkStoreModel" 1 (⟨"java/lang/Object", "<init>", "()V"⟩ : MethodName) ∈ xT := xT_in (List.mem_append_right _ (List.mem_append_right _ (List.mem_append_right _ (List.mem_append_left _ (List.mem_of_getElem? (i := 85) rfl)))) : _ ∈ lw_tbl) rfl
theorem kw566 : Cond.constantDouble "ChunkStoreModel" 57 (13830554455654793216 : UInt64) ∈ xT := xT_in (List.mem_append_right _ (List.mem_append_right _ (List.mem_append_right _ (List.mem_append_left _ (List.mem_of_getElem? (i := 86) rfl)))) : _ ∈ lw_tbl) rfl
theorem kw567 : Cond.fieldLink "ChunkStoreModel" 59 "ChunkStoreModel" "failed" "I" ∈ xT := xT_in (List.mem_append_right _ (List.mem_append_right _ (List.mem_append_right _ (List.mem_append_left _ (List.mem_of_getElem? (i := 87) rfl)))) : _ ∈ lw_tbl) rfl
theorem kw568 : Cond.fieldLink "ChunkStoreModel" 71 "ChunkStoreModel" "time" "D" ∈ xT := xT_in (List.mem_append_right _ (List.mem_append_right _ (List.mem_append_right _ (List.mem_append_left _ (List.mem_of_getElem? (i := 88) rfl)))) : _ ∈ lw_tbl) rfl
theorem kw569 : Cond.fieldLink "ChunkStoreModel" 7 "ChunkStoreModel" "state" "[I" ∈ xT := xT_in (List.mem_append_right _ (List.mem_append_right _ (List.mem_append_right _ (List.mem_append_left _ (List.mem_of_getElem? (i := 89) rfl)))) : _ ∈ lw_tbl) rfl
theorem kw570 : Cond.fieldLink "ChunkStoreModel" 13 "ChunkStoreModel" "hidden" "[D" ∈ xT := xT_in (List.mem_append_right _ (List.mem_append_right _ (List.mem_append_right _ (List.mem_append_left _ (List.mem_of_getElem? (i := 90) rfl)))) : _ ∈ lw_tbl) rfl
theorem kw571 : Cond.fieldLink "ChunkStoreModel" 17 "ChunkStoreModel" "row" "[I" ∈ xT := xT_in (List.mem_append_right _ (List.mem_append_right _ (List.mem_append_right _ (List.mem_append_left _ (List.mem_of_getElem? (i := 91) rfl)))) : _ ∈ lw_tbl) rfl
theorem kw572 : Cond.fieldLink "ChunkStoreModel" 20 "ChunkStoreModel" "length" "[I" ∈ xT := xT_in (List.mem_append_right _ (List.mem_append_right _ (List.mem_append_right _ (List.mem_append_left _ (List.mem_of_getElem? (i := 92) rfl)))) : _ ∈ lw_tbl) rfl
theorem kw573 : Cond.fieldLink "ChunkStoreModel" 78 "ChunkStoreModel" "chunks" "I" ∈ xT := xT_in (List.mem_append_right _ (List.mem_append_right _ (List.mem_append_right _ (List.mem_append_left _ (List.mem_of_getElem? (i := 93) rfl)))) : _ ∈ lw_tbl) rfl
theorem kw574 : Cond.fieldLink "ChunkStoreModel" 23 "ChunkStoreModel" "version" "[I" ∈ xT := xT_in (List.mem_append_right _ (List.mem_append_right _ (List.mem_append_right _ (List.mem_append_left _ (List.mem_of_getElem? (i := 94) rfl)))) : _ ∈ lw_tbl) rfl
theorem kw575 : Cond.fieldLink "ChunkStoreModel" 26 "ChunkStoreModel" "holders" "[I" ∈ xT := xT_in (List.mem_append_right _ (List.mem_append_right _ (List.mem_append_right _ (List.mem_append_left _ (List.mem_of_getElem? (i := 95) rfl)))) : _ ∈ lw_tbl) rfl
theorem kw576 : Cond.fieldLink "ChunkStoreModel" 29 "ChunkStoreModel" "lease" "[D" ∈ xT := xT_in (List.mem_append_right _ (List.mem_append_right _ (List.mem_append_right _ (List.mem_append_left _ (List.mem_of_getElem? (i := 96) rfl)))) : _ ∈ lw_tbl) rfl
theorem kw577 : Cond.fieldLink "ChunkStoreModel" 32 "ChunkStoreModel" "down" "[Z" ∈ xT := xT_in (List.mem_append_right _ (List.mem_append_right _ (List.mem_append_right _ (List.mem_append_left _ (List.mem_of_getElem? (i := 97) rfl)))) : _ ∈ lw_tbl) rfl
theorem kw578 : Cond.fieldLink "ChunkStoreModel" 36 "ChunkStoreModel" "replica" "[I" ∈ xT := xT_in (List.mem_append_right _ (List.mem_append_right _ (List.mem_append_right _ (List.mem_append_left _ (List.mem_of_getElem? (i := 98) rfl)))) : _ ∈ lw_tbl) rfl
theorem kw579 : Cond.fieldLink "ChunkStoreModel" 39 "ChunkStoreModel" "used" "[I" ∈ xT := xT_in (List.mem_append_right _ (List.mem_append_right _ (List.mem_append_right _ (List.mem_append_left _ (List.mem_of_getElem? (i := 99) rfl)))) : _ ∈ lw_tbl) rfl
theorem kw580 : Cond.fieldLink "ChunkStoreModel" 42 "ChunkStoreModel" "word" "[I" ∈ xT := xT_in (List.mem_append_right _ (List.mem_append_right _ (List.mem_append_right _ (List.mem_append_left _ (List.mem_of_getElem? (i := 100) rfl)))) : _ ∈ lw_tbl) rfl
theorem kw581 : Cond.fieldLink "ChunkStoreModel" 45 "ChunkStoreModel" "keptChunk" "[I" ∈ xT := xT_in (List.mem_append_right _ (List.mem_append_right _ (List.mem_append_right _ (List.mem_append_left _ (List.mem_of_getElem? (i := 101) rfl)))) : _ ∈ lw_tbl) rfl
theorem kw582 : Cond.fieldLink "ChunkStoreModel" 48 "ChunkStoreModel" "keptVersion" "[I" ∈ xT := xT_in (List.mem_append_right _ (List.mem_append_right _ (List.mem_append_right _ (List.mem_append_left _ (List.mem_of_getElem? (i := 102) rfl)))) : _ ∈ lw_tbl) rfl
theorem kw583 : Cond.fieldLink "ChunkStoreModel" 51 "ChunkStoreModel" "keptHolders" "[I" ∈ xT := xT_in (List.mem_append_right _ (List.mem_append_right _ (List.mem_append_right _ (List.mem_append_left _ (List.mem_of_getElem? (i := 103) rfl)))) : _ ∈ lw_tbl) rfl
theorem kw584 : Cond.fieldLink "ChunkStoreModel" 54 "ChunkStoreModel" "keptEnd" "[D" ∈ xT := xT_in (List.mem_append_right _ (List.mem_append_right _ (List.mem_append_right _ (List.mem_append_left _ (List.mem_of_getElem? (i := 104) rfl)))) : _ ∈ lw_tbl) rfl
theorem kw585 : Cond.lays "ChunkStoreModel" "ChunkStoreModel" "failed" "I" ∈ xT := xT_in (List.mem_append_right _ (List.mem_append_right _ (List.mem_append_right _ (List.mem_append_left _ (List.mem_of_getElem? (i := 105) rfl)))) : _ ∈ lw_tbl) rfl
theorem kw586 : Cond.soleField "ChunkStoreModel" "failed" ∈ xT := xT_in (List.mem_append_right _ (List.mem_append_right _ (List.mem_append_right _ (List.mem_append_left _ (List.mem_of_getElem? (i := 106) rfl)))) : _ ∈ lw_tbl) rfl
theorem kw587 : Cond.lays "ChunkStoreModel" "ChunkStoreModel" "time" "D" ∈ xT := xT_in (List.mem_append_right _ (List.mem_append_right _ (List.mem_append_right _ (List.mem_append_left _ (List.mem_of_getElem? (i := 107) rfl)))) : _ ∈ lw_tbl) rfl
theorem kw588 : Cond.soleField "ChunkStoreModel" "time" ∈ xT := xT_in (List.mem_append_right _ (List.mem_append_right _ (List.mem_append_right _ (List.mem_append_left _ (List.mem_of_getElem? (i := 108) rfl)))) : _ ∈ lw_tbl) rfl
theorem kw589 : Cond.laysFinal "ChunkStoreModel" "ChunkStoreModel" "state" "[I" ∈ xT := xT_in (List.mem_append_right _ (List.mem_append_right _ (List.mem_append_right _ (List.mem_append_left _ (List.mem_of_getElem? (i := 109) rfl)))) : _ ∈ lw_tbl) rfl
theorem kw590 : Cond.soleField "ChunkStoreModel" "state" ∈ xT := xT_in (List.mem_append_right _ (List.mem_append_right _ (List.mem_append_right _ (List.mem_append_left _ (List.mem_of_getElem? (i := 110) rfl)))) : _ ∈ lw_tbl) rfl
theorem kw591 : Cond.laysFinal "ChunkStoreModel" "ChunkStoreModel" "hidden" "[D" ∈ xT := xT_in (List.mem_append_right _ (List.mem_append_right _ (List.mem_append_right _ (List.mem_append_left _ (List.mem_of_getElem? (i := 111) rfl)))) : _ ∈ lw_tbl) rfl
theorem kw592 : Cond.soleField "ChunkStoreModel" "hidden" ∈ xT := xT_in (List.mem_append_right _ (List.mem_append_right _ (List.mem_append_right _ (List.mem_append_left _ (List.mem_of_getElem? (i := 112) rfl)))) : _ ∈ lw_tbl) rfl
theorem kw593 : Cond.laysFinal "ChunkStoreModel" "ChunkStoreModel" "row" "[I" ∈ xT := xT_in (List.mem_append_right _ (List.mem_append_right _ (List.mem_append_right _ (List.mem_append_left _ (List.mem_of_getElem? (i := 113) rfl)))) : _ ∈ lw_tbl) rfl
theorem kw594 : Cond.soleField "ChunkStoreModel" "row" ∈ xT := xT_in (List.mem_append_right _ (List.mem_append_right _ (List.mem_append_right _ (List.mem_append_left _ (List.mem_of_getElem? (i := 114) rfl)))) : _ ∈ lw_tbl) rfl
theorem kw595 : Cond.laysFinal "ChunkStoreModel" "ChunkStoreModel" "length" "[I" ∈ xT := xT_in (List.mem_append_right _ (List.mem_append_right _ (List.mem_append_right _ (List.mem_append_left _ (List.mem_of_getElem? (i := 115) rfl)))) : _ ∈ lw_tbl) rfl
theorem kw596 : Cond.soleField "ChunkStoreModel" "length" ∈ xT := xT_in (List.mem_append_right _ (List.mem_append_right _ (List.mem_append_right _ (List.mem_append_left _ (List.mem_of_getElem? (i := 116) rfl)))) : _ ∈ lw_tbl) rfl
theorem kw597 : Cond.lays "ChunkStoreModel" "ChunkStoreModel" "chunks" "I" ∈ xT := xT_in (List.mem_append_right _ (List.mem_append_right _ (List.mem_append_right _ (List.mem_append_left _ (List.mem_of_getElem? (i := 117) rfl)))) : _ ∈ lw_tbl) rfl
theorem kw598 : Cond.soleField "ChunkStoreModel" "chunks" ∈ xT := xT_in (List.mem_append_right _ (List.mem_append_right _ (List.mem_append_right _ (List.mem_append_left _ (List.mem_of_getElem? (i := 118) rfl)))) : _ ∈ lw_tbl) rfl
theorem kw599 : Cond.laysFinal "ChunkStoreModel" "ChunkStoreModel" "version" "[I" ∈ xT := xT_in (List.mem_append_right _ (List.mem_append_right _ (List.mem_append_right _ (List.mem_append_left _ (List.mem_of_getElem? (i := 119) rfl)))) : _ ∈ lw_tbl) rfl
theorem kw600 : Cond.soleField "ChunkStoreModel" "version" ∈ xT := xT_in (List.mem_append_right _ (List.mem_append_right _ (List.mem_append_right _ (List.mem_append_left _ (List.mem_of_getElem? (i := 120) rfl)))) : _ ∈ lw_tbl) rfl
theorem kw601 : Cond.laysFinal "ChunkStoreModel" "ChunkStoreModel" "holders" "[I" ∈ xT := xT_in (List.mem_append_right _ (List.mem_append_right _ (List.mem_append_right _ (List.mem_append_left _ (List.mem_of_getElem? (i := 121) rfl)))) : _ ∈ lw_tbl) rfl
theorem kw602 : Cond.soleField "ChunkStoreModel" "holders" ∈ xT := xT_in (List.mem_append_right _ (List.mem_append_right _ (List.mem_append_right _ (List.mem_append_left _ (List.mem_of_getElem? (i := 122) rfl)))) : _ ∈ lw_tbl) rfl
theorem kw603 : Cond.laysFinal "ChunkStoreModel" "ChunkStoreModel" "lease" "[D" ∈ xT := xT_in (List.mem_append_right _ (List.mem_append_right _ (List.mem_append_right _ (List.mem_append_left _ (List.mem_of_getElem? (i := 123) rfl)))) : _ ∈ lw_tbl) rfl
theorem kw604 : Cond.soleField "ChunkStoreModel" "lease" ∈ xT := xT_in (List.mem_append_right _ (List.mem_append_right _ (List.mem_append_right _ (List.mem_append_left _ (List.mem_of_getElem? (i := 124) rfl)))) : _ ∈ lw_tbl) rfl
theorem kw605 : Cond.laysFinal "ChunkStoreModel" "ChunkStoreModel" "down" "[Z" ∈ xT := xT_in (List.mem_append_right _ (List.mem_append_right _ (List.mem_append_right _ (List.mem_append_left _ (List.mem_of_getElem? (i := 125) rfl)))) : _ ∈ lw_tbl) rfl
theorem kw606 : Cond.soleField "ChunkStoreModel" "down" ∈ xT := xT_in (List.mem_append_right _ (List.mem_append_right _ (List.mem_append_right _ (List.mem_append_left _ (List.mem_of_getElem? (i := 126) rfl)))) : _ ∈ lw_tbl) rfl
theorem kw607 : Cond.laysFinal "ChunkStoreModel" "ChunkStoreModel" "replica" "[I" ∈ xT := xT_in (List.mem_append_right _ (List.mem_append_right _ (List.mem_append_right _ (List.mem_append_left _ (List.mem_of_getElem? (i := 127) rfl)))) : _ ∈ lw_tbl) rfl
theorem kw608 : Cond.soleField "ChunkStoreModel" "replica" ∈ xT := xT_in (List.mem_append_right _ (List.mem_append_right _ (List.mem_append_right _ (List.mem_append_left _ (List.mem_of_getElem? (i := 128) rfl)))) : _ ∈ lw_tbl) rfl
theorem kw609 : Cond.laysFinal "ChunkStoreModel" "ChunkStoreModel" "used" "[I" ∈ xT := xT_in (List.mem_append_right _ (List.mem_append_right _ (List.mem_append_right _ (List.mem_append_left _ (List.mem_of_getElem? (i := 129) rfl)))) : _ ∈ lw_tbl) rfl
theorem kw610 : Cond.soleField "ChunkStoreModel" "used" ∈ xT := xT_in (List.mem_append_right _ (List.mem_append_right _ (List.mem_append_right _ (List.mem_append_left _ (List.mem_of_getElem? (i := 130) rfl)))) : _ ∈ lw_tbl) rfl
theorem kw611 : Cond.laysFinal "ChunkStoreModel" "ChunkStoreModel" "word" "[I" ∈ xT := xT_in (List.mem_append_right _ (List.mem_append_right _ (List.mem_append_right _ (List.mem_append_left _ (List.mem_of_getElem? (i := 131) rfl)))) : _ ∈ lw_tbl) rfl
theorem kw612 : Cond.soleField "ChunkStoreModel" "word" ∈ xT := xT_in (List.mem_append_right _ (List.mem_append_right _ (List.mem_append_right _ (List.mem_append_left _ (List.mem_of_getElem? (i := 132) rfl)))) : _ ∈ lw_tbl) rfl
theorem kw613 : Cond.laysFinal "ChunkStoreModel" "ChunkStoreModel" "keptChunk" "[I" ∈ xT := xT_in (List.mem_append_right _ (List.mem_append_right _ (List.mem_append_right _ (List.mem_append_left _ (List.mem_of_getElem? (i := 133) rfl)))) : _ ∈ lw_tbl) rfl
theorem kw614 : Cond.soleField "ChunkStoreModel" "keptChunk" ∈ xT := xT_in (List.mem_append_right _ (List.mem_append_right _ (List.mem_append_right _ (List.mem_append_left _ (List.mem_of_getElem? (i := 134) rfl)))) : _ ∈ lw_tbl) rfl
theorem kw615 : Cond.laysFinal "ChunkStoreModel" "ChunkStoreModel" "keptVersion" "[I" ∈ xT := xT_in (List.mem_append_right _ (List.mem_append_right _ (List.mem_append_right _ (List.mem_append_left _ (List.mem_of_getElem? (i := 135) rfl)))) : _ ∈ lw_tbl) rfl
theorem kw616 : Cond.soleField "ChunkStoreModel" "keptVersion" ∈ xT := xT_in (List.mem_append_right _ (List.mem_append_right _ (List.mem_append_right _ (List.mem_append_left _ (List.mem_of_getElem? (i := 136) rfl)))) : _ ∈ lw_tbl) rfl
theorem kw617 : Cond.laysFinal "ChunkStoreModel" "ChunkStoreModel" "keptHolders" "[I" ∈ xT := xT_in (List.mem_append_right _ (List.mem_append_right _ (List.mem_append_right _ (List.mem_append_left _ (List.mem_of_getElem? (i := 137) rfl)))) : _ ∈ lw_tbl) rfl
theorem kw618 : Cond.soleField "ChunkStoreModel" "keptHolders" ∈ xT := xT_in (List.mem_append_right _ (List.mem_append_right _ (List.mem_append_right _ (List.mem_append_left _ (List.mem_of_getElem? (i := 138) rfl)))) : _ ∈ lw_tbl) rfl
theorem kw619 : Cond.laysFinal "ChunkStoreModel" "ChunkStoreModel" "keptEnd" "[D" ∈ xT := xT_in (List.mem_append_right _ (List.mem_append_right _ (List.mem_append_right _ (List.mem_append_left _ (List.mem_of_getElem? (i := 139) rfl)))) : _ ∈ lw_tbl) rfl
theorem kw620 : Cond.soleField "ChunkStoreModel" "keptEnd" ∈ xT := xT_in (List.mem_append_right _ (List.mem_append_right _ (List.mem_append_right _ (List.mem_append_left _ (List.mem_of_getElem? (i := 140) rfl)))) : _ ∈ lw_tbl) rfl
theorem kw621 : Cond.superclass "ChunkStoreModel" "java/lang/Object" ∈ xT := xT_in (List.mem_append_right _ (List.mem_append_right _ (List.mem_append_right _ (List.mem_append_left _ (List.mem_of_getElem? (i := 141) rfl)))) : _ ∈ lw_tbl) rfl
theorem kw624 : Cond.methodLink "ChunkStoreLaw" 91 (⟨"ChunkStoreModel", "thrown", "()I"⟩ : MethodName) ∈ xT := xT_in (List.mem_append_right _ (List.mem_append_right _ (List.mem_append_right _ (List.mem_append_left _ (List.mem_of_getElem? (i := 144) rfl)))) : _ ∈ lw_tbl) rfl
theorem kw625 : Cond.instanceMethod (⟨"ChunkStoreModel", "thrown", "()I"⟩ : MethodName) ∈ xT := xT_in (List.mem_append_right _ (List.mem_append_right _ (List.mem_append_right _ (List.mem_append_left _ (List.mem_of_getElem? (i := 145) rfl)))) : _ ∈ lw_tbl) rfl
theorem kw626 : Cond.selects "ChunkStoreModel" (⟨"ChunkStoreModel", "thrown", "()I"⟩ : MethodName) (⟨"ChunkStoreModel", "thrown", "()I"⟩ : MethodName) ∈ xT := xT_in (List.mem_append_right _ (List.mem_append_right _ (List.mem_append_right _ (List.mem_append_left _ (List.mem_of_getElem? (i := 146) rfl)))) : _ ∈ lw_tbl) rfl
theorem kw627 : Cond.code (⟨"ChunkStoreModel", "thrown", "()I"⟩ : MethodName) prog_7_method_2_code 1 (some FieldType.int) ∈ xT := xT_in (List.mem_append_right _ (List.mem_append_right _ (List.mem_append_right _ (List.mem_append_left _ (List.mem_of_getElem? (i := 147) rfl)))) : _ ∈ lw_tbl) rfl
theorem kw628 : Cond.methodLink "ChunkStoreLaw" 90 (⟨"ChunkStoreModel", "create", "(I)I"⟩ : MethodName) ∈ xT := xT_in (List.mem_append_right _ (List.mem_append_right _ (List.mem_append_right _ (List.mem_append_left _ (List.mem_of_getElem? (i := 148) rfl)))) : _ ∈ lw_tbl) rfl
theorem kw629 : Cond.instanceMethod (⟨"ChunkStoreModel", "create", "(I)I"⟩ : MethodName) ∈ xT := xT_in (List.mem_append_right _ (List.mem_append_right _ (List.mem_append_right _ (List.mem_append_left _ (List.mem_of_getElem? (i := 149) rfl)))) : _ ∈ lw_tbl) rfl
theorem kw630 : Cond.selects "ChunkStoreModel" (⟨"ChunkStoreModel", "create", "(I)I"⟩ : MethodName) (⟨"ChunkStoreModel", "create", "(I)I"⟩ : MethodName) ∈ xT := xT_in (List.mem_append_right _ (List.mem_append_right _ (List.mem_append_right _ (List.mem_append_left _ (List.mem_of_getElem? (i := 150) rfl)))) : _ ∈ lw_tbl) rfl
theorem kw631 : Cond.code (⟨"ChunkStoreModel", "create", "(I)I"⟩ : MethodName) prog_7_method_5_code 4 (some FieldType.int) ∈ xT := xT_in (List.mem_append_right _ (List.mem_append_right _ (List.mem_append_right _ (List.mem_append_left _ (List.mem_of_getElem? (i := 151) rfl)))) : _ ∈ lw_tbl) rfl
theorem kw632 : Cond.methodLink "ChunkStoreModel" 63 (⟨"ChunkStoreModel", "out", "(II)Z"⟩ : MethodName) ∈ xT := xT_in (List.mem_append_right _ (List.mem_append_right _ (List.mem_append_right _ (List.mem_append_left _ (List.mem_of_getElem? (i := 152) rfl)))) : _ ∈ lw_tbl) rfl
theorem kw634 : Cond.instanceMethod (⟨"ChunkStoreModel", "out", "(II)Z"⟩ : MethodName) ∈ xT := xT_in (List.mem_append_right _ (List.mem_append_right _ (List.mem_append_right _ (List.mem_append_left _ (List.mem_of_getElem? (i := 154) rfl)))) : _ ∈ lw_tbl) rfl
theorem kw635 : Cond.code (⟨"ChunkStoreModel", "out", "(II)Z"⟩ : MethodName) prog_7_method_4_code 3 (some FieldType.boolean) ∈ xT := xT_in (List.mem_append_right _ (List.mem_append_right _ (List.mem_append_right _ (List.mem_append_left _ (List.mem_of_getElem? (i := 155) rfl)))) : _ ∈ lw_tbl) rfl
theorem kw636 : Cond.methodLink "ChunkStoreModel" 67 (⟨"ChunkStoreModel", "fail", "(I)I"⟩ : MethodName) ∈ xT := xT_in (List.mem_append_right _ (List.mem_append_right _ (List.mem_append_right _ (List.mem_append_left _ (List.mem_of_getElem? (i := 156) rfl)))) : _ ∈ lw_tbl) rfl
theorem kw638 : Cond.instanceMethod (⟨"ChunkStoreModel", "fail", "(I)I"⟩ : MethodName) ∈ xT := xT_in (List.mem_append_right _ (List.mem_append_right _ (List.mem_append_right _ (List.mem_append_left _ (List.mem_of_getElem? (i := 158) rfl)))) : _ ∈ lw_tbl) rfl
theorem kw639 : Cond.code (⟨"ChunkStoreModel", "fail", "(I)I"⟩ : MethodName) prog_7_method_3_code 2 (some FieldType.int) ∈ xT := xT_in (List.mem_append_right _ (List.mem_append_right _ (List.mem_append_right _ (List.mem_append_left _ (List.mem_of_getElem? (i := 159) rfl)))) : _ ∈ lw_tbl) rfl
theorem kw640 : Cond.methodLink "ChunkStoreLaw" 96 (⟨"ChunkStoreModel", "remove", "(I)I"⟩ : MethodName) ∈ xT := xT_in (List.mem_append_right _ (List.mem_append_right _ (List.mem_append_right _ (List.mem_append_left _ (List.mem_of_getElem? (i := 160) rfl)))) : _ ∈ lw_tbl) rfl
theorem kw641 : Cond.instanceMethod (⟨"ChunkStoreModel", "remove", "(I)I"⟩ : MethodName) ∈ xT := xT_in (List.mem_append_right _ (List.mem_append_right _ (List.mem_append_right _ (List.mem_append_left _ (List.mem_of_getElem? (i := 161) rfl)))) : _ ∈ lw_tbl) rfl
theorem kw642 : Cond.selects "ChunkStoreModel" (⟨"ChunkStoreModel", "remove", "(I)I"⟩ : MethodName) (⟨"ChunkStoreModel", "remove", "(I)I"⟩ : MethodName) ∈ xT := xT_in (List.mem_append_right _ (List.mem_append_right _ (List.mem_append_right _ (List.mem_append_left _ (List.mem_of_getElem? (i := 162) rfl)))) : _ ∈ lw_tbl) rfl
theorem kw643 : Cond.code (⟨"ChunkStoreModel", "remove", "(I)I"⟩ : MethodName) prog_7_method_6_code 2 (some FieldType.int) ∈ xT := xT_in (List.mem_append_right _ (List.mem_append_right _ (List.mem_append_right _ (List.mem_append_left _ (List.mem_of_getElem? (i := 163) rfl)))) : _ ∈ lw_tbl) rfl
theorem kw644 : Cond.methodLink "ChunkStoreLaw" 99 (⟨"ChunkStoreModel", "restore", "(I)I"⟩ : MethodName) ∈ xT := xT_in (List.mem_append_right _ (List.mem_append_right _ (List.mem_append_right _ (List.mem_append_left _ (List.mem_of_getElem? (i := 164) rfl)))) : _ ∈ lw_tbl) rfl
theorem kw645 : Cond.instanceMethod (⟨"ChunkStoreModel", "restore", "(I)I"⟩ : MethodName) ∈ xT := xT_in (List.mem_append_right _ (List.mem_append_right _ (List.mem_append_right _ (List.mem_append_left _ (List.mem_of_getElem? (i := 165) rfl)))) : _ ∈ lw_tbl) rfl
theorem kw646 : Cond.selects "ChunkStoreModel" (⟨"ChunkStoreModel", "restore", "(I)I"⟩ : MethodName) (⟨"ChunkStoreModel", "restore", "(I)I"⟩ : MethodName) ∈ xT := xT_in (List.mem_append_right _ (List.mem_append_right _ (List.mem_append_right _ (List.mem_append_left _ (List.mem_of_getElem? (i := 166) rfl)))) : _ ∈ lw_tbl) rfl
theorem kw647 : Cond.code (⟨"ChunkStoreModel", "restore", "(I)I"⟩ : MethodName) prog_7_method_7_code 2 (some FieldType.int) ∈ xT := xT_in (List.mem_append_right _ (List.mem_append_right _ (List.mem_append_right _ (List.mem_append_left _ (List.mem_of_getElem? (i := 167) rfl)))) : _ ∈ lw_tbl) rfl
theorem kw648 : Cond.methodLink "ChunkStoreLaw" 103 (⟨"ChunkStoreModel", "copy", "(II)I"⟩ : MethodName) ∈ xT := xT_in (List.mem_append_right _ (List.mem_append_right _ (List.mem_append_right _ (List.mem_append_left _ (List.mem_of_getElem? (i := 168) rfl)))) : _ ∈ lw_tbl) rfl
theorem kw649 : Cond.instanceMethod (⟨"ChunkStoreModel", "copy", "(II)I"⟩ : MethodName) ∈ xT := xT_in (List.mem_append_right _ (List.mem_append_right _ (List.mem_append_right _ (List.mem_append_left _ (List.mem_of_getElem? (i := 169) rfl)))) : _ ∈ lw_tbl) rfl
theorem kw650 : Cond.selects "ChunkStoreModel" (⟨"ChunkStoreModel", "copy", "(II)I"⟩ : MethodName) (⟨"ChunkStoreModel", "copy", "(II)I"⟩ : MethodName) ∈ xT := xT_in (List.mem_append_right _ (List.mem_append_right _ (List.mem_append_right _ (List.mem_append_left _ (List.mem_of_getElem? (i := 170) rfl)))) : _ ∈ lw_tbl) rfl
theorem kw651 : Cond.code (⟨"ChunkStoreModel", "copy", "(II)I"⟩ : MethodName) prog_7_method_8_code 4 (some FieldType.int) ∈ xT := xT_in (List.mem_append_right _ (List.mem_append_right _ (List.mem_append_right _ (List.mem_append_left _ (List.mem_of_getElem? (i := 171) rfl)))) : _ ∈ lw_tbl) rfl
theorem kw652 : Cond.methodLink "ChunkStoreLaw" 106 (⟨"ChunkStoreModel", "extend", "(I)I"⟩ : MethodName) ∈ xT := xT_in (List.mem_append_right _ (List.mem_append_right _ (List.mem_append_right _ (List.mem_append_left _ (List.mem_of_getElem? (i := 172) rfl)))) : _ ∈ lw_tbl) rfl
theorem kw653 : Cond.instanceMethod (⟨"ChunkStoreModel", "extend", "(I)I"⟩ : MethodName) ∈ xT := xT_in (List.mem_append_right _ (List.mem_append_right _ (List.mem_append_right _ (List.mem_append_left _ (List.mem_of_getElem? (i := 173) rfl)))) : _ ∈ lw_tbl) rfl
theorem kw654 : Cond.selects "ChunkStoreModel" (⟨"ChunkStoreModel", "extend", "(I)I"⟩ : MethodName) (⟨"ChunkStoreModel", "extend", "(I)I"⟩ : MethodName) ∈ xT := xT_in (List.mem_append_right _ (List.mem_append_right _ (List.mem_append_right _ (List.mem_append_left _ (List.mem_of_getElem? (i := 174) rfl)))) : _ ∈ lw_tbl) rfl
theorem kw655 : Cond.code (⟨"ChunkStoreModel", "extend", "(I)I"⟩ : MethodName) prog_7_method_17_code 3 (some FieldType.int) ∈ xT := xT_in (List.mem_append_right _ (List.mem_append_right _ (List.mem_append_right _ (List.mem_append_left _ (List.mem_of_getElem? (i := 175) rfl)))) : _ ∈ lw_tbl) rfl
theorem kw656 : Cond.methodLink "ChunkStoreModel" 89 (⟨"ChunkStoreModel", "makeChunk", "(I)I"⟩ : MethodName) ∈ xT := xT_in (List.mem_append_right _ (List.mem_append_right _ (List.mem_append_right _ (List.mem_append_left _ (List.mem_of_getElem? (i := 176) rfl)))) : _ ∈ lw_tbl) rfl
theorem kw658 : Cond.instanceMethod (⟨"ChunkStoreModel", "makeChunk", "(I)I"⟩ : MethodName) ∈ xT := xT_in (List.mem_append_right _ (List.mem_append_right _ (List.mem_append_right _ (List.mem_append_left _ (List.mem_of_getElem? (i := 178) rfl)))) : _ ∈ lw_tbl) rfl
theorem kw659 : Cond.code (⟨"ChunkStoreModel", "makeChunk", "(I)I"⟩ : MethodName) prog_7_method_16_code 5 (some FieldType.int) ∈ xT := xT_in (List.mem_append_right _ (List.mem_append_right _ (List.mem_append_right _ (List.mem_append_left _ (List.mem_of_getElem? (i := 179) rfl)))) : _ ∈ lw_tbl) rfl
theorem kw660 : Cond.methodLink "ChunkStoreModel" 81 (⟨"ChunkStoreModel", "choose", "(II)I"⟩ : MethodName) ∈ xT := xT_in (List.mem_append_right _ (List.mem_append_right _ (List.mem_append_right _ (List.mem_append_left _ (List.mem_of_getElem? (i := 180) rfl)))) : _ ∈ lw_tbl) rfl
theorem kw662 : Cond.instanceMethod (⟨"ChunkStoreModel", "choose", "(II)I"⟩ : MethodName) ∈ xT := xT_in (List.mem_append_right _ (List.mem_append_right _ (List.mem_append_right _ (List.mem_append_left _ (List.mem_of_getElem? (i := 182) rfl)))) : _ ∈ lw_tbl) rfl
theorem kw663 : Cond.code (⟨"ChunkStoreModel", "choose", "(II)I"⟩ : MethodName) prog_7_method_11_code 6 (some FieldType.int) ∈ xT := xT_in (List.mem_append_right _ (List.mem_append_right _ (List.mem_append_right _ (List.mem_append_left _ (List.mem_of_getElem? (i := 183) rfl)))) : _ ∈ lw_tbl) rfl
theorem kw664 : Cond.methodLink "ChunkStoreModel" 75 (⟨"ChunkStoreModel", "loadOf", "(I)I"⟩ : MethodName) ∈ xT := xT_in (List.mem_append_right _ (List.mem_append_right _ (List.mem_append_right _ (List.mem_append_left _ (List.mem_of_getElem? (i := 184) rfl)))) : _ ∈ lw_tbl) rfl
theorem kw666 : Cond.instanceMethod (⟨"ChunkStoreModel", "loadOf", "(I)I"⟩ : MethodName) ∈ xT := xT_in (List.mem_append_right _ (List.mem_append_right _ (List.mem_append_right _ (List.mem_append_left _ (List.mem_of_getElem? (i := 186) rfl)))) : _ ∈ lw_tbl) rfl
theorem kw667 : Cond.code (⟨"ChunkStoreModel", "loadOf", "(I)I"⟩ : MethodName) prog_7_method_10_code 4 (some FieldType.int) ∈ xT := xT_in (List.mem_append_right _ (List.mem_append_right _ (List.mem_append_right _ (List.mem_append_left _ (List.mem_of_getElem? (i := 187) rfl)))) : _ ∈ lw_tbl) rfl
theorem kw668 : Cond.methodLink "ChunkStoreModel" 85 (⟨"ChunkStoreModel", "place", "(III)V"⟩ : MethodName) ∈ xT := xT_in (List.mem_append_right _ (List.mem_append_right _ (List.mem_append_right _ (List.mem_append_left _ (List.mem_of_getElem? (i := 188) rfl)))) : _ ∈ lw_tbl) rfl
theorem kw670 : Cond.instanceMethod (⟨"ChunkStoreModel", "place", "(III)V"⟩ : MethodName) ∈ xT := xT_in (List.mem_append_right _ (List.mem_append_right _ (List.mem_append_right _ (List.mem_append_left _ (List.mem_of_getElem? (i := 190) rfl)))) : _ ∈ lw_tbl) rfl
theorem kw671 : Cond.code (⟨"ChunkStoreModel", "place", "(III)V"⟩ : MethodName) prog_7_method_15_code 5 none ∈ xT := xT_in (List.mem_append_right _ (List.mem_append_right _ (List.mem_append_right _ (List.mem_append_left _ (List.mem_of_getElem? (i := 191) rfl)))) : _ ∈ lw_tbl) rfl
theorem kw672 : Cond.methodLink "ChunkStoreLaw" 110 (⟨"ChunkStoreModel", "locate", "(III)I"⟩ : MethodName) ∈ xT := xT_in (List.mem_append_right _ (List.mem_append_right _ (List.mem_append_right _ (List.mem_append_left _ (List.mem_of_getElem? (i := 192) rfl)))) : _ ∈ lw_tbl) rfl
theorem kw673 : Cond.instanceMethod (⟨"ChunkStoreModel", "locate", "(III)I"⟩ : MethodName) ∈ xT := xT_in (List.mem_append_right _ (List.mem_append_right _ (List.mem_append_right _ (List.mem_append_left _ (List.mem_of_getElem? (i := 193) rfl)))) : _ ∈ lw_tbl) rfl
theorem kw674 : Cond.selects "ChunkStoreModel" (⟨"ChunkStoreModel", "locate", "(III)I"⟩ : MethodName) (⟨"ChunkStoreModel", "locate", "(III)I"⟩ : MethodName) ∈ xT := xT_in (List.mem_append_right _ (List.mem_append_right _ (List.mem_append_right _ (List.mem_append_left _ (List.mem_of_getElem? (i := 194) rfl)))) : _ ∈ lw_tbl) rfl
theorem kw675 : Cond.code (⟨"ChunkStoreModel", "locate", "(III)I"⟩ : MethodName) prog_7_method_19_code 4 (some FieldType.int) ∈ xT := xT_in (List.mem_append_right _ (List.mem_append_right _ (List.mem_append_right _ (List.mem_append_left _ (List.mem_of_getElem? (i := 195) rfl)))) : _ ∈ lw_tbl) rfl
theorem kw676 : Cond.methodLink "ChunkStoreModel" 94 (⟨"ChunkStoreModel", "find", "(III)I"⟩ : MethodName) ∈ xT := xT_in (List.mem_append_right _ (List.mem_append_right _ (List.mem_append_right _ (List.mem_append_left _ (List.mem_of_getElem? (i := 196) rfl)))) : _ ∈ lw_tbl) rfl
theorem kw678 : Cond.instanceMethod (⟨"ChunkStoreModel", "find", "(III)I"⟩ : MethodName) ∈ xT := xT_in (List.mem_append_right _ (List.mem_append_right _ (List.mem_append_right _ (List.mem_append_left _ (List.mem_of_getElem? (i := 198) rfl)))) : _ ∈ lw_tbl) rfl
theorem kw679 : Cond.code (⟨"ChunkStoreModel", "find", "(III)I"⟩ : MethodName) prog_7_method_18_code 6 (some FieldType.int) ∈ xT := xT_in (List.mem_append_right _ (List.mem_append_right _ (List.mem_append_right _ (List.mem_append_left _ (List.mem_of_getElem? (i := 199) rfl)))) : _ ∈ lw_tbl) rfl
theorem kw680 : Cond.constantDouble "ChunkStoreModel" 92 (4617315517961601024 : UInt64) ∈ xT := xT_in (List.mem_append_right _ (List.mem_append_right _ (List.mem_append_right _ (List.mem_append_left _ (List.mem_of_getElem? (i := 200) rfl)))) : _ ∈ lw_tbl) rfl
theorem kw681 : Cond.methodLink "ChunkStoreLaw" 114 (⟨"ChunkStoreModel", "write", "(IIII)I"⟩ : MethodName) ∈ xT := xT_in (List.mem_append_right _ (List.mem_append_right _ (List.mem_append_right _ (List.mem_append_left _ (List.mem_of_getElem? (i := 201) rfl)))) : _ ∈ lw_tbl) rfl
theorem kw682 : Cond.instanceMethod (⟨"ChunkStoreModel", "write", "(IIII)I"⟩ : MethodName) ∈ xT := xT_in (List.mem_append_right _ (List.mem_append_right _ (List.mem_append_right _ (List.mem_append_left _ (List.mem_of_getElem? (i := 202) rfl)))) : _ ∈ lw_tbl) rfl
theorem kw683 : Cond.selects "ChunkStoreModel" (⟨"ChunkStoreModel", "write", "(IIII)I"⟩ : MethodName) (⟨"ChunkStoreModel", "write", "(IIII)I"⟩ : MethodName) ∈ xT := xT_in (List.mem_append_right _ (List.mem_append_right _ (List.mem_append_right _ (List.mem_append_left _ (List.mem_of_getElem? (i := 203) rfl)))) : _ ∈ lw_tbl) rfl
theorem kw684 : Cond.code (⟨"ChunkStoreModel", "write", "(IIII)I"⟩ : MethodName) prog_7_method_22_code 7 (some FieldType.int) ∈ xT := xT_in (List.mem_append_right _ (List.mem_append_right _ (List.mem_append_right _ (List.mem_append_left _ (List.mem_of_getElem? (i := 204) rfl)))) : _ ∈ lw_tbl) rfl
theorem kw685 : Cond.methodLink "ChunkStoreModel" 106 (⟨"ChunkStoreModel", "takeLease", "(II)I"⟩ : MethodName) ∈ xT := xT_in (List.mem_append_right _ (List.mem_append_right _ (List.mem_append_right _ (List.mem_append_left _ (List.mem_of_getElem? (i := 205) rfl)))) : _ ∈ lw_tbl) rfl
theorem kw687 : Cond.instanceMethod (⟨"ChunkStoreModel", "takeLease", "(II)I"⟩ : MethodName) ∈ xT := xT_in (List.mem_append_right _ (List.mem_append_right _ (List.mem_append_right _ (List.mem_append_left _ (List.mem_of_getElem? (i := 207) rfl)))) : _ ∈ lw_tbl) rfl
theorem kw688 : Cond.code (⟨"ChunkStoreModel", "takeLease", "(II)I"⟩ : MethodName) prog_7_method_20_code 6 (some FieldType.int) ∈ xT := xT_in (List.mem_append_right _ (List.mem_append_right _ (List.mem_append_right _ (List.mem_append_left _ (List.mem_of_getElem? (i := 208) rfl)))) : _ ∈ lw_tbl) rfl
theorem kw689 : Cond.methodLink "ChunkStoreModel" 98 (⟨"ChunkStoreModel", "live", "(I)I"⟩ : MethodName) ∈ xT := xT_in (List.mem_append_right _ (List.mem_append_right _ (List.mem_append_right _ (List.mem_append_left _ (List.mem_of_getElem? (i := 209) rfl)))) : _ ∈ lw_tbl) rfl
theorem kw691 : Cond.instanceMethod (⟨"ChunkStoreModel", "live", "(I)I"⟩ : MethodName) ∈ xT := xT_in (List.mem_append_right _ (List.mem_append_right _ (List.mem_append_right _ (List.mem_append_left _ (List.mem_of_getElem? (i := 211) rfl)))) : _ ∈ lw_tbl) rfl
theorem kw692 : Cond.code (⟨"ChunkStoreModel", "live", "(I)I"⟩ : MethodName) prog_7_method_12_code 4 (some FieldType.int) ∈ xT := xT_in (List.mem_append_right _ (List.mem_append_right _ (List.mem_append_right _ (List.mem_append_left _ (List.mem_of_getElem? (i := 212) rfl)))) : _ ∈ lw_tbl) rfl
theorem kw693 : Cond.methodLink "ChunkStoreModel" 101 (⟨"ChunkStoreModel", "refs", "(I)I"⟩ : MethodName) ∈ xT := xT_in (List.mem_append_right _ (List.mem_append_right _ (List.mem_append_right _ (List.mem_append_left _ (List.mem_of_getElem? (i := 213) rfl)))) : _ ∈ lw_tbl) rfl
theorem kw695 : Cond.instanceMethod (⟨"ChunkStoreModel", "refs", "(I)I"⟩ : MethodName) ∈ xT := xT_in (List.mem_append_right _ (List.mem_append_right _ (List.mem_append_right _ (List.mem_append_left _ (List.mem_of_getElem? (i := 215) rfl)))) : _ ∈ lw_tbl) rfl
theorem kw696 : Cond.code (⟨"ChunkStoreModel", "refs", "(I)I"⟩ : MethodName) prog_7_method_9_code 5 (some FieldType.int) ∈ xT := xT_in (List.mem_append_right _ (List.mem_append_right _ (List.mem_append_right _ (List.mem_append_left _ (List.mem_of_getElem? (i := 216) rfl)))) : _ ∈ lw_tbl) rfl
theorem kw697 : Cond.constantDouble "ChunkStoreModel" 104 (4621819117588971520 : UInt64) ∈ xT := xT_in (List.mem_append_right _ (List.mem_append_right _ (List.mem_append_right _ (List.mem_append_left _ (List.mem_of_getElem? (i := 217) rfl)))) : _ ∈ lw_tbl) rfl
theorem kw698 : Cond.methodLink "ChunkStoreModel" 109 (⟨"ChunkStoreModel", "store", "(III)V"⟩ : MethodName) ∈ xT := xT_in (List.mem_append_right _ (List.mem_append_right _ (List.mem_append_right _ (List.mem_append_left _ (List.mem_of_getElem? (i := 218) rfl)))) : _ ∈ lw_tbl) rfl
theorem kw700 : Cond.instanceMethod (⟨"ChunkStoreModel", "store", "(III)V"⟩ : MethodName) ∈ xT := xT_in (List.mem_append_right _ (List.mem_append_right _ (List.mem_append_right _ (List.mem_append_left _ (List.mem_of_getElem? (i := 220) rfl)))) : _ ∈ lw_tbl) rfl
theorem kw701 : Cond.code (⟨"ChunkStoreModel", "store", "(III)V"⟩ : MethodName) prog_7_method_21_code 6 none ∈ xT := xT_in (List.mem_append_right _ (List.mem_append_right _ (List.mem_append_right _ (List.mem_append_left _ (List.mem_of_getElem? (i := 221) rfl)))) : _ ∈ lw_tbl) rfl
theorem kw702 : Cond.methodLink "ChunkStoreLaw" 117 (⟨"ChunkStoreModel", "append", "(II)I"⟩ : MethodName) ∈ xT := xT_in (List.mem_append_right _ (List.mem_append_right _ (List.mem_append_right _ (List.mem_append_left _ (List.mem_of_getElem? (i := 222) rfl)))) : _ ∈ lw_tbl) rfl
theorem kw703 : Cond.instanceMethod (⟨"ChunkStoreModel", "append", "(II)I"⟩ : MethodName) ∈ xT := xT_in (List.mem_append_right _ (List.mem_append_right _ (List.mem_append_right _ (List.mem_append_left _ (List.mem_of_getElem? (i := 223) rfl)))) : _ ∈ lw_tbl) rfl
theorem kw704 : Cond.selects "ChunkStoreModel" (⟨"ChunkStoreModel", "append", "(II)I"⟩ : MethodName) (⟨"ChunkStoreModel", "append", "(II)I"⟩ : MethodName) ∈ xT := xT_in (List.mem_append_right _ (List.mem_append_right _ (List.mem_append_right _ (List.mem_append_left _ (List.mem_of_getElem? (i := 224) rfl)))) : _ ∈ lw_tbl) rfl
theorem kw705 : Cond.code (⟨"ChunkStoreModel", "append", "(II)I"⟩ : MethodName) prog_7_method_24_code 7 (some FieldType.int) ∈ xT := xT_in (List.mem_append_right _ (List.mem_append_right _ (List.mem_append_right _ (List.mem_append_left _ (List.mem_of_getElem? (i := 225) rfl)))) : _ ∈ lw_tbl) rfl
theorem kw706 : Cond.methodLink "ChunkStoreModel" 115 (⟨"ChunkStoreModel", "usedIn", "(I)I"⟩ : MethodName) ∈ xT := xT_in (List.mem_append_right _ (List.mem_append_right _ (List.mem_append_right _ (List.mem_append_left _ (List.mem_of_getElem? (i := 226) rfl)))) : _ ∈ lw_tbl) rfl
theorem kw708 : Cond.instanceMethod (⟨"ChunkStoreModel", "usedIn", "(I)I"⟩ : MethodName) ∈ xT := xT_in (List.mem_append_right _ (List.mem_append_right _ (List.mem_append_right _ (List.mem_append_left _ (List.mem_of_getElem? (i := 228) rfl)))) : _ ∈ lw_tbl) rfl
theorem kw709 : Cond.code (⟨"ChunkStoreModel", "usedIn", "(I)I"⟩ : MethodName) prog_7_method_23_code 2 (some FieldType.int) ∈ xT := xT_in (List.mem_append_right _ (List.mem_append_right _ (List.mem_append_right _ (List.mem_append_left _ (List.mem_of_getElem? (i := 229) rfl)))) : _ ∈ lw_tbl) rfl
theorem kw710 : Cond.methodLink "ChunkStoreModel" 112 (⟨"ChunkStoreModel", "first", "(I)I"⟩ : MethodName) ∈ xT := xT_in (List.mem_append_right _ (List.mem_append_right _ (List.mem_append_right _ (List.mem_append_left _ (List.mem_of_getElem? (i := 230) rfl)))) : _ ∈ lw_tbl) rfl
theorem kw712 : Cond.instanceMethod (⟨"ChunkStoreModel", "first", "(I)I"⟩ : MethodName) ∈ xT := xT_in (List.mem_append_right _ (List.mem_append_right _ (List.mem_append_right _ (List.mem_append_left _ (List.mem_of_getElem? (i := 232) rfl)))) : _ ∈ lw_tbl) rfl
theorem kw713 : Cond.code (⟨"ChunkStoreModel", "first", "(I)I"⟩ : MethodName) prog_7_method_14_code 3 (some FieldType.int) ∈ xT := xT_in (List.mem_append_right _ (List.mem_append_right _ (List.mem_append_right _ (List.mem_append_left _ (List.mem_of_getElem? (i := 233) rfl)))) : _ ∈ lw_tbl) rfl
theorem kw714 : Cond.methodLink "ChunkStoreLaw" 121 (⟨"ChunkStoreModel", "read", "(IIIII)I"⟩ : MethodName) ∈ xT := xT_in (List.mem_append_right _ (List.mem_append_right _ (List.mem_append_right _ (List.mem_append_left _ (List.mem_of_getElem? (i := 234) rfl)))) : _ ∈ lw_tbl) rfl
theorem kw715 : Cond.instanceMethod (⟨"ChunkStoreModel", "read", "(IIIII)I"⟩ : MethodName) ∈ xT := xT_in (List.mem_append_right _ (List.mem_append_right _ (List.mem_append_right _ (List.mem_append_left _ (List.mem_of_getElem? (i := 235) rfl)))) : _ ∈ lw_tbl) rfl
theorem kw716 : Cond.selects "ChunkStoreModel" (⟨"ChunkStoreModel", "read", "(IIIII)I"⟩ : MethodName) (⟨"ChunkStoreModel", "read", "(IIIII)I"⟩ : MethodName) ∈ xT := xT_in (List.mem_append_right _ (List.mem_append_right _ (List.mem_append_right _ (List.mem_append_left _ (List.mem_of_getElem? (i := 236) rfl)))) : _ ∈ lw_tbl) rfl
theorem kw717 : Cond.code (⟨"ChunkStoreModel", "read", "(IIIII)I"⟩ : MethodName) prog_7_method_25_code 9 (some FieldType.int) ∈ xT := xT_in (List.mem_append_right _ (List.mem_append_right _ (List.mem_append_right _ (List.mem_append_left _ (List.mem_of_getElem? (i := 237) rfl)))) : _ ∈ lw_tbl) rfl
theorem kw718 : Cond.methodLink "ChunkStoreLaw" 125 (⟨"ChunkStoreModel", "up", "(IZ)I"⟩ : MethodName) ∈ xT := xT_in (List.mem_append_right _ (List.mem_append_right _ (List.mem_append_right _ (List.mem_append_left _ (List.mem_of_getElem? (i := 238) rfl)))) : _ ∈ lw_tbl) rfl
theorem kw719 : Cond.instanceMethod (⟨"ChunkStoreModel", "up", "(IZ)I"⟩ : MethodName) ∈ xT := xT_in (List.mem_append_right _ (List.mem_append_right _ (List.mem_append_right _ (List.mem_append_left _ (List.mem_of_getElem? (i := 239) rfl)))) : _ ∈ lw_tbl) rfl
theorem kw720 : Cond.selects "ChunkStoreModel" (⟨"ChunkStoreModel", "up", "(IZ)I"⟩ : MethodName) (⟨"ChunkStoreModel", "up", "(IZ)I"⟩ : MethodName) ∈ xT := xT_in (List.mem_append_right _ (List.mem_append_right _ (List.mem_append_right _ (List.mem_append_right _ (List.mem_of_getElem? (i := 0) rfl)))) : _ ∈ lw_tbl) rfl
theorem kw721 : Cond.code (⟨"ChunkStoreModel", "up", "(IZ)I"⟩ : MethodName) prog_7_method_26_code 3 (some FieldType.int) ∈ xT := xT_in (List.mem_append_right _ (List.mem_append_right _ (List.mem_append_right _ (List.mem_append_right _ (List.mem_of_getElem? (i := 1) rfl)))) : _ ∈ lw_tbl) rfl
theorem kw722 : Cond.methodLink "ChunkStoreLaw" 128 (⟨"ChunkStoreModel", "report", "(I)I"⟩ : MethodName) ∈ xT := xT_in (List.mem_append_right _ (List.mem_append_right _ (List.mem_append_right _ (List.mem_append_right _ (List.mem_of_getElem? (i := 2) rfl)))) : _ ∈ lw_tbl) rfl
theorem kw723 : Cond.instanceMethod (⟨"ChunkStoreModel", "report", "(I)I"⟩ : MethodName) ∈ xT := xT_in (List.mem_append_right _ (List.mem_append_right _ (List.mem_append_right _ (List.mem_append_right _ (List.mem_of_getElem? (i := 3) rfl)))) : _ ∈ lw_tbl) rfl
theorem kw724 : Cond.selects "ChunkStoreModel" (⟨"ChunkStoreModel", "report", "(I)I"⟩ : MethodName) (⟨"ChunkStoreModel", "report", "(I)I"⟩ : MethodName) ∈ xT := xT_in (List.mem_append_right _ (List.mem_append_right _ (List.mem_append_right _ (List.mem_append_right _ (List.mem_of_getElem? (i := 4) rfl)))) : _ ∈ lw_tbl) rfl
theorem kw725 : Cond.code (⟨"ChunkStoreModel", "report", "(I)I"⟩ : MethodName) prog_7_method_27_code 5 (some FieldType.int) ∈ xT := xT_in (List.mem_append_right _ (List.mem_append_right _ (List.mem_append_right _ (List.mem_append_right _ (List.mem_of_getElem? (i := 5) rfl)))) : _ ∈ lw_tbl) rfl
theorem kw726 : Cond.methodLink "ChunkStoreLaw" 132 (⟨"ChunkStoreModel", "repair", "()I"⟩ : MethodName) ∈ xT := xT_in (List.mem_append_right _ (List.mem_append_right _ (List.mem_append_right _ (List.mem_append_right _ (List.mem_of_getElem? (i := 6) rfl)))) : _ ∈ lw_tbl) rfl
theorem kw727 : Cond.instanceMethod (⟨"ChunkStoreModel", "repair", "()I"⟩ : MethodName) ∈ xT := xT_in (List.mem_append_right _ (List.mem_append_right _ (List.mem_append_right _ (List.mem_append_right _ (List.mem_of_getElem? (i := 7) rfl)))) : _ ∈ lw_tbl) rfl
theorem kw728 : Cond.selects "ChunkStoreModel" (⟨"ChunkStoreModel", "repair", "()I"⟩ : MethodName) (⟨"ChunkStoreModel", "repair", "()I"⟩ : MethodName) ∈ xT := xT_in (List.mem_append_right _ (List.mem_append_right _ (List.mem_append_right _ (List.mem_append_right _ (List.mem_of_getElem? (i := 8) rfl)))) : _ ∈ lw_tbl) rfl
theorem kw729 : Cond.code (⟨"ChunkStoreModel", "repair", "()I"⟩ : MethodName) prog_7_method_28_code 4 (some FieldType.int) ∈ xT := xT_in (List.mem_append_right _ (List.mem_append_right _ (List.mem_append_right _ (List.mem_append_right _ (List.mem_of_getElem? (i := 9) rfl)))) : _ ∈ lw_tbl) rfl
theorem kw730 : Cond.methodLink "ChunkStoreModel" 118 (⟨"ChunkStoreModel", "ones", "(I)I"⟩ : MethodName) ∈ xT := xT_in (List.mem_append_right _ (List.mem_append_right _ (List.mem_append_right _ (List.mem_append_right _ (List.mem_of_getElem? (i := 10) rfl)))) : _ ∈ lw_tbl) rfl
theorem kw732 : Cond.instanceMethod (⟨"ChunkStoreModel", "ones", "(I)I"⟩ : MethodName) ∈ xT := xT_in (List.mem_append_right _ (List.mem_append_right _ (List.mem_append_right _ (List.mem_append_right _ (List.mem_of_getElem? (i := 12) rfl)))) : _ ∈ lw_tbl) rfl
theorem kw733 : Cond.code (⟨"ChunkStoreModel", "ones", "(I)I"⟩ : MethodName) prog_7_method_13_code 4 (some FieldType.int) ∈ xT := xT_in (List.mem_append_right _ (List.mem_append_right _ (List.mem_append_right _ (List.mem_append_right _ (List.mem_of_getElem? (i := 13) rfl)))) : _ ∈ lw_tbl) rfl
theorem kw734 : Cond.methodLink "ChunkStoreLaw" 136 (⟨"ChunkStoreModel", "sweep", "()I"⟩ : MethodName) ∈ xT := xT_in (List.mem_append_right _ (List.mem_append_right _ (List.mem_append_right _ (List.mem_append_right _ (List.mem_of_getElem? (i := 14) rfl)))) : _ ∈ lw_tbl) rfl
theorem kw735 : Cond.instanceMethod (⟨"ChunkStoreModel", "sweep", "()I"⟩ : MethodName) ∈ xT := xT_in (List.mem_append_right _ (List.mem_append_right _ (List.mem_append_right _ (List.mem_append_right _ (List.mem_of_getElem? (i := 15) rfl)))) : _ ∈ lw_tbl) rfl
theorem kw736 : Cond.selects "ChunkStoreModel" (⟨"ChunkStoreModel", "sweep", "()I"⟩ : MethodName) (⟨"ChunkStoreModel", "sweep", "()I"⟩ : MethodName) ∈ xT := xT_in (List.mem_append_right _ (List.mem_append_right _ (List.mem_append_right _ (List.mem_append_right _ (List.mem_of_getElem? (i := 16) rfl)))) : _ ∈ lw_tbl) rfl
theorem kw737 : Cond.code (⟨"ChunkStoreModel", "sweep", "()I"⟩ : MethodName) prog_7_method_29_code 3 (some FieldType.int) ∈ xT := xT_in (List.mem_append_right _ (List.mem_append_right _ (List.mem_append_right _ (List.mem_append_right _ (List.mem_of_getElem? (i := 17) rfl)))) : _ ∈ lw_tbl) rfl
theorem kw738 : Cond.constantDouble "ChunkStoreModel" 121 (4629137466983448576 : UInt64) ∈ xT := xT_in (List.mem_append_right _ (List.mem_append_right _ (List.mem_append_right _ (List.mem_append_right _ (List.mem_of_getElem? (i := 18) rfl)))) : _ ∈ lw_tbl) rfl
theorem kw739 : Cond.methodLink "ChunkStoreLaw" 142 (⟨"ChunkStoreModel", "tick", "(D)D"⟩ : MethodName) ∈ xT := xT_in (List.mem_append_right _ (List.mem_append_right _ (List.mem_append_right _ (List.mem_append_right _ (List.mem_of_getElem? (i := 19) rfl)))) : _ ∈ lw_tbl) rfl
theorem kw740 : Cond.instanceMethod (⟨"ChunkStoreModel", "tick", "(D)D"⟩ : MethodName) ∈ xT := xT_in (List.mem_append_right _ (List.mem_append_right _ (List.mem_append_right _ (List.mem_append_right _ (List.mem_of_getElem? (i := 20) rfl)))) : _ ∈ lw_tbl) rfl
theorem kw741 : Cond.selects "ChunkStoreModel" (⟨"ChunkStoreModel", "tick", "(D)D"⟩ : MethodName) (⟨"ChunkStoreModel", "tick", "(D)D"⟩ : MethodName) ∈ xT := xT_in (List.mem_append_right _ (List.mem_append_right _ (List.mem_append_right _ (List.mem_append_right _ (List.mem_of_getElem? (i := 21) rfl)))) : _ ∈ lw_tbl) rfl
theorem kw742 : Cond.code (⟨"ChunkStoreModel", "tick", "(D)D"⟩ : MethodName) prog_7_method_30_code 3 (some FieldType.double) ∈ xT := xT_in (List.mem_append_right _ (List.mem_append_right _ (List.mem_append_right _ (List.mem_append_right _ (List.mem_of_getElem? (i := 22) rfl)))) : _ ∈ lw_tbl) rfl
theorem kw743 : Cond.constantDouble "ChunkStoreModel" 123 (4636737291354636288 : UInt64) ∈ xT := xT_in (List.mem_append_right _ (List.mem_append_right _ (List.mem_append_right _ (List.mem_append_right _ (List.mem_of_getElem? (i := 23) rfl)))) : _ ∈ lw_tbl) rfl
theorem kw744 : Cond.methodLink "ChunkStoreLaw" 146 (⟨"ChunkStoreModel", "load", "()D"⟩ : MethodName) ∈ xT := xT_in (List.mem_append_right _ (List.mem_append_right _ (List.mem_append_right _ (List.mem_append_right _ (List.mem_of_getElem? (i := 24) rfl)))) : _ ∈ lw_tbl) rfl
theorem kw745 : Cond.instanceMethod (⟨"ChunkStoreModel", "load", "()D"⟩ : MethodName) ∈ xT := xT_in (List.mem_append_right _ (List.mem_append_right _ (List.mem_append_right _ (List.mem_append_right _ (List.mem_of_getElem? (i := 25) rfl)))) : _ ∈ lw_tbl) rfl
theorem kw746 : Cond.selects "ChunkStoreModel" (⟨"ChunkStoreModel", "load", "()D"⟩ : MethodName) (⟨"ChunkStoreModel", "load", "()D"⟩ : MethodName) ∈ xT := xT_in (List.mem_append_right _ (List.mem_append_right _ (List.mem_append_right _ (List.mem_append_right _ (List.mem_of_getElem? (i := 26) rfl)))) : _ ∈ lw_tbl) rfl
theorem kw747 : Cond.code (⟨"ChunkStoreModel", "load", "()D"⟩ : MethodName) prog_7_method_31_code 4 (some FieldType.double) ∈ xT := xT_in (List.mem_append_right _ (List.mem_append_right _ (List.mem_append_right _ (List.mem_append_right _ (List.mem_of_getElem? (i := 27) rfl)))) : _ ∈ lw_tbl) rfl
theorem kw748 : Cond.methodLink "ChunkStoreLaw" 149 (⟨"ChunkStoreModel", "look", "(III)I"⟩ : MethodName) ∈ xT := xT_in (List.mem_append_right _ (List.mem_append_right _ (List.mem_append_right _ (List.mem_append_right _ (List.mem_of_getElem? (i := 28) rfl)))) : _ ∈ lw_tbl) rfl
theorem kw749 : Cond.instanceMethod (⟨"ChunkStoreModel", "look", "(III)I"⟩ : MethodName) ∈ xT := xT_in (List.mem_append_right _ (List.mem_append_right _ (List.mem_append_right _ (List.mem_append_right _ (List.mem_of_getElem? (i := 29) rfl)))) : _ ∈ lw_tbl) rfl
theorem kw750 : Cond.selects "ChunkStoreModel" (⟨"ChunkStoreModel", "look", "(III)I"⟩ : MethodName) (⟨"ChunkStoreModel", "look", "(III)I"⟩ : MethodName) ∈ xT := xT_in (List.mem_append_right _ (List.mem_append_right _ (List.mem_append_right _ (List.mem_append_right _ (List.mem_of_getElem? (i := 30) rfl)))) : _ ∈ lw_tbl) rfl
theorem kw751 : Cond.code (⟨"ChunkStoreModel", "look", "(III)I"⟩ : MethodName) prog_7_method_32_code 5 (some FieldType.int) ∈ xT := xT_in (List.mem_append_right _ (List.mem_append_right _ (List.mem_append_right _ (List.mem_append_right _ (List.mem_of_getElem? (i := 31) rfl)))) : _ ∈ lw_tbl) rfl
theorem kw752 : Cond.methodLink "ChunkStoreLaw" 152 (⟨"ChunkStoreModel", "file", "(II)I"⟩ : MethodName) ∈ xT := xT_in (List.mem_append_right _ (List.mem_append_right _ (List.mem_append_right _ (List.mem_append_right _ (List.mem_of_getElem? (i := 32) rfl)))) : _ ∈ lw_tbl) rfl
theorem kw753 : Cond.instanceMethod (⟨"ChunkStoreModel", "file", "(II)I"⟩ : MethodName) ∈ xT := xT_in (List.mem_append_right _ (List.mem_append_right _ (List.mem_append_right _ (List.mem_append_right _ (List.mem_of_getElem? (i := 33) rfl)))) : _ ∈ lw_tbl) rfl
theorem kw754 : Cond.selects "ChunkStoreModel" (⟨"ChunkStoreModel", "file", "(II)I"⟩ : MethodName) (⟨"ChunkStoreModel", "file", "(II)I"⟩ : MethodName) ∈ xT := xT_in (List.mem_append_right _ (List.mem_append_right _ (List.mem_append_right _ (List.mem_append_right _ (List.mem_of_getElem? (i := 34) rfl)))) : _ ∈ lw_tbl) rfl
theorem kw755 : Cond.code (⟨"ChunkStoreModel", "file", "(II)I"⟩ : MethodName) prog_7_method_33_code 3 (some FieldType.int) ∈ xT := xT_in (List.mem_append_right _ (List.mem_append_right _ (List.mem_append_right _ (List.mem_append_right _ (List.mem_of_getElem? (i := 35) rfl)))) : _ ∈ lw_tbl) rfl
theorem kw756 : Cond.methodLink "ChunkStoreLaw" 155 (⟨"ChunkStoreModel", "chunk", "(II)I"⟩ : MethodName) ∈ xT := xT_in (List.mem_append_right _ (List.mem_append_right _ (List.mem_append_right _ (List.mem_append_right _ (List.mem_of_getElem? (i := 36) rfl)))) : _ ∈ lw_tbl) rfl
theorem kw757 : Cond.instanceMethod (⟨"ChunkStoreModel", "chunk", "(II)I"⟩ : MethodName) ∈ xT := xT_in (List.mem_append_right _ (List.mem_append_right _ (List.mem_append_right _ (List.mem_append_right _ (List.mem_of_getElem? (i := 37) rfl)))) : _ ∈ lw_tbl) rfl
theorem kw758 : Cond.selects "ChunkStoreModel" (⟨"ChunkStoreModel", "chunk", "(II)I"⟩ : MethodName) (⟨"ChunkStoreModel", "chunk", "(II)I"⟩ : MethodName) ∈ xT := xT_in (List.mem_append_right _ (List.mem_append_right _ (List.mem_append_right _ (List.mem_append_right _ (List.mem_of_getElem? (i := 38) rfl)))) : _ ∈ lw_tbl) rfl
theorem kw759 : Cond.code (⟨"ChunkStoreModel", "chunk", "(II)I"⟩ : MethodName) prog_7_method_34_code 3 (some FieldType.int) ∈ xT := xT_in (List.mem_append_right _ (List.mem_append_right _ (List.mem_append_right _ (List.mem_append_right _ (List.mem_of_getElem? (i := 39) rfl)))) : _ ∈ lw_tbl) rfl
theorem kw760 : Cond.constantDouble "ChunkStoreLaw" 137 (4593671619917905920 : UInt64) ∈ xT := xT_in (List.mem_append_right _ (List.mem_append_right _ (List.mem_append_right _ (List.mem_append_right _ (List.mem_of_getElem? (i := 40) rfl)))) : _ ∈ lw_tbl) rfl
theorem ks0 : Cond.selects "ChunkStore" (⟨"ChunkStore", "forget", "(LChunkStore$FileEntry;)V"⟩ : MethodName) (⟨"ChunkStore", "forget", "(LChunkStore$FileEntry;)V"⟩ : MethodName) ∈ xT := xT_in (List.mem_append_left _ (List.mem_of_getElem? (i := 0) rfl)) rfl
theorem ks1 : Cond.selects "java/lang/Throwable" (⟨"java/lang/Throwable", "fillInStackTrace", "(I)Ljava/lang/Throwable;"⟩ : MethodName) (⟨"java/lang/Throwable", "fillInStackTrace", "(I)Ljava/lang/Throwable;"⟩ : MethodName) ∈ xT := xT_in (List.mem_append_left _ (List.mem_of_getElem? (i := 1) rfl)) rfl
theorem ks2 : Cond.selects "ChunkStore" (⟨"ChunkStore", "fileNotYet", "(I)LChunkStore$FileEntry;"⟩ : MethodName) (⟨"ChunkStore", "fileNotYet", "(I)LChunkStore$FileEntry;"⟩ : MethodName) ∈ xT := xT_in (List.mem_append_left _ (List.mem_of_getElem? (i := 2) rfl)) rfl
theorem ks3 : Cond.selects "ChunkStore" (⟨"ChunkStore", "countThere", "()I"⟩ : MethodName) (⟨"ChunkStore", "countThere", "()I"⟩ : MethodName) ∈ xT := xT_in (List.mem_append_left _ (List.mem_of_getElem? (i := 3) rfl)) rfl
theorem ks4 : Cond.selects "ChunkStore" (⟨"ChunkStore", "fileThere", "(I)LChunkStore$FileEntry;"⟩ : MethodName) (⟨"ChunkStore", "fileThere", "(I)LChunkStore$FileEntry;"⟩ : MethodName) ∈ xT := xT_in (List.mem_append_left _ (List.mem_of_getElem? (i := 4) rfl)) rfl
theorem ks5 : Cond.selects "ChunkStore$FileEntry" (⟨"ChunkStore$FileEntry", "addAtEnd", "(I)V"⟩ : MethodName) (⟨"ChunkStore$FileEntry", "addAtEnd", "(I)V"⟩ : MethodName) ∈ xT := xT_in (List.mem_append_left _ (List.mem_of_getElem? (i := 5) rfl)) rfl
theorem ks6 : Cond.selects "ChunkStore" (⟨"ChunkStore", "makeChunk", "(LChunkStore$FileEntry;)I"⟩ : MethodName) (⟨"ChunkStore", "makeChunk", "(LChunkStore$FileEntry;)I"⟩ : MethodName) ∈ xT := xT_in (List.mem_append_left _ (List.mem_of_getElem? (i := 6) rfl)) rfl
theorem ks7 : Cond.selects "ChunkStore" (⟨"ChunkStore", "choose", "(II)I"⟩ : MethodName) (⟨"ChunkStore", "choose", "(II)I"⟩ : MethodName) ∈ xT := xT_in (List.mem_append_left _ (List.mem_of_getElem? (i := 7) rfl)) rfl
theorem ks8 : Cond.selects "ChunkStore" (⟨"ChunkStore", "lightest", "(II)I"⟩ : MethodName) (⟨"ChunkStore", "lightest", "(II)I"⟩ : MethodName) ∈ xT := xT_in (List.mem_append_left _ (List.mem_of_getElem? (i := 8) rfl)) rfl
theorem ks9 : Cond.selects "ChunkStore$Server" (⟨"ChunkStore$Server", "isFull", "()Z"⟩ : MethodName) (⟨"ChunkStore$Server", "isFull", "()Z"⟩ : MethodName) ∈ xT := xT_in (List.mem_append_left _ (List.mem_of_getElem? (i := 9) rfl)) rfl
theorem ks10 : Cond.selects "ChunkStore$Server" (⟨"ChunkStore$Server", "has", "(I)Z"⟩ : MethodName) (⟨"ChunkStore$Server", "has", "(I)Z"⟩ : MethodName) ∈ xT := xT_in (List.mem_append_left _ (List.mem_of_getElem? (i := 10) rfl)) rfl
theorem ks11 : Cond.selects "ChunkStore" (⟨"ChunkStore", "startChunk", "(I)V"⟩ : MethodName) (⟨"ChunkStore", "startChunk", "(I)V"⟩ : MethodName) ∈ xT := xT_in (List.mem_append_left _ (List.mem_of_getElem? (i := 11) rfl)) rfl
theorem ks12 : Cond.selects "ChunkStore$Server" (⟨"ChunkStore$Server", "addEmpty", "(I)V"⟩ : MethodName) (⟨"ChunkStore$Server", "addEmpty", "(I)V"⟩ : MethodName) ∈ xT := xT_in (List.mem_append_left _ (List.mem_of_getElem? (i := 12) rfl)) rfl
theorem ks13 : Cond.selects "ChunkStore" (⟨"ChunkStore", "find", "(III)LChunkStore$Kept;"⟩ : MethodName) (⟨"ChunkStore", "find", "(III)LChunkStore$Kept;"⟩ : MethodName) ∈ xT := xT_in (List.mem_append_left _ (List.mem_of_getElem? (i := 13) rfl)) rfl
theorem ks14 : Cond.selects "ChunkStore" (⟨"ChunkStore", "lease", "(LChunkStore$FileEntry;I)I"⟩ : MethodName) (⟨"ChunkStore", "lease", "(LChunkStore$FileEntry;I)I"⟩ : MethodName) ∈ xT := xT_in (List.mem_append_left _ (List.mem_of_getElem? (i := 14) rfl)) rfl
theorem ks15 : Cond.selects "ChunkStore" (⟨"ChunkStore", "liveHolders", "(I)I"⟩ : MethodName) (⟨"ChunkStore", "liveHolders", "(I)I"⟩ : MethodName) ∈ xT := xT_in (List.mem_append_left _ (List.mem_of_getElem? (i := 15) rfl)) rfl
theorem ks16 : Cond.selects "ChunkStore" (⟨"ChunkStore", "isLeased", "(LChunkStore$Chunk;)Z"⟩ : MethodName) (⟨"ChunkStore", "isLeased", "(LChunkStore$Chunk;)Z"⟩ : MethodName) ∈ xT := xT_in (List.mem_append_left _ (List.mem_of_getElem? (i := 16) rfl)) rfl
theorem ks17 : Cond.selects "ChunkStore" (⟨"ChunkStore", "splitOff", "(LChunkStore$FileEntry;II)I"⟩ : MethodName) (⟨"ChunkStore", "splitOff", "(LChunkStore$FileEntry;II)I"⟩ : MethodName) ∈ xT := xT_in (List.mem_append_left _ (List.mem_of_getElem? (i := 17) rfl)) rfl
theorem ks18 : Cond.selects "ChunkStore" (⟨"ChunkStore", "anyFull", "(I)Z"⟩ : MethodName) (⟨"ChunkStore", "anyFull", "(I)Z"⟩ : MethodName) ∈ xT := xT_in (List.mem_append_left _ (List.mem_of_getElem? (i := 18) rfl)) rfl
theorem ks19 : Cond.selects "ChunkStore$Server" (⟨"ChunkStore$Server", "addLike", "(ILChunkStore$Server;II)V"⟩ : MethodName) (⟨"ChunkStore$Server", "addLike", "(ILChunkStore$Server;II)V"⟩ : MethodName) ∈ xT := xT_in (List.mem_append_left _ (List.mem_of_getElem? (i := 19) rfl)) rfl
theorem ks20 : Cond.selects "ChunkStore" (⟨"ChunkStore", "raiseVersion", "(II)V"⟩ : MethodName) (⟨"ChunkStore", "raiseVersion", "(II)V"⟩ : MethodName) ∈ xT := xT_in (List.mem_append_left _ (List.mem_of_getElem? (i := 20) rfl)) rfl
theorem ks21 : Cond.selects "ChunkStore" (⟨"ChunkStore", "setWordAtHolders", "(III)V"⟩ : MethodName) (⟨"ChunkStore", "setWordAtHolders", "(III)V"⟩ : MethodName) ∈ xT := xT_in (List.mem_append_left _ (List.mem_of_getElem? (i := 21) rfl)) rfl
theorem ks22 : Cond.selects "ChunkStore$Server" (⟨"ChunkStore$Server", "setWord", "(III)V"⟩ : MethodName) (⟨"ChunkStore$Server", "setWord", "(III)V"⟩ : MethodName) ∈ xT := xT_in (List.mem_append_left _ (List.mem_of_getElem? (i := 22) rfl)) rfl
theorem ks23 : Cond.selects "ChunkStore" (⟨"ChunkStore", "usedAtFirst", "(I)I"⟩ : MethodName) (⟨"ChunkStore", "usedAtFirst", "(I)I"⟩ : MethodName) ∈ xT := xT_in (List.mem_append_left _ (List.mem_of_getElem? (i := 23) rfl)) rfl
theorem ks24 : Cond.selects "ChunkStore$Server" (⟨"ChunkStore$Server", "word", "(II)I"⟩ : MethodName) (⟨"ChunkStore$Server", "word", "(II)I"⟩ : MethodName) ∈ xT := xT_in (List.mem_append_left _ (List.mem_of_getElem? (i := 24) rfl)) rfl
theorem ks25 : Cond.selects "ChunkStore" (⟨"ChunkStore", "confirmReplica", "(II)Z"⟩ : MethodName) (⟨"ChunkStore", "confirmReplica", "(II)Z"⟩ : MethodName) ∈ xT := xT_in (List.mem_append_left _ (List.mem_of_getElem? (i := 25) rfl)) rfl
theorem ks26 : Cond.selects "ChunkStore$Server" (⟨"ChunkStore$Server", "drop", "(I)V"⟩ : MethodName) (⟨"ChunkStore$Server", "drop", "(I)V"⟩ : MethodName) ∈ xT := xT_in (List.mem_append_left _ (List.mem_of_getElem? (i := 26) rfl)) rfl
theorem ks27 : Cond.selects "ChunkStore" (⟨"ChunkStore", "mostInNeed", "()I"⟩ : MethodName) (⟨"ChunkStore", "mostInNeed", "()I"⟩ : MethodName) ∈ xT := xT_in (List.mem_append_left _ (List.mem_of_getElem? (i := 27) rfl)) rfl
theorem ks28 : Cond.selects "ChunkStoreModel" (⟨"ChunkStoreModel", "out", "(II)Z"⟩ : MethodName) (⟨"ChunkStoreModel", "out", "(II)Z"⟩ : MethodName) ∈ xT := xT_in (List.mem_append_left _ (List.mem_of_getElem? (i := 28) rfl)) rfl
theorem ks29 : Cond.selects "ChunkStoreModel" (⟨"ChunkStoreModel", "fail", "(I)I"⟩ : MethodName) (⟨"ChunkStoreModel", "fail", "(I)I"⟩ : MethodName) ∈ xT := xT_in (List.mem_append_left _ (List.mem_of_getElem? (i := 29) rfl)) rfl
theorem ks30 : Cond.selects "ChunkStoreModel" (⟨"ChunkStoreModel", "makeChunk", "(I)I"⟩ : MethodName) (⟨"ChunkStoreModel", "makeChunk", "(I)I"⟩ : MethodName) ∈ xT := xT_in (List.mem_append_left _ (List.mem_of_getElem? (i := 30) rfl)) rfl
theorem ks31 : Cond.selects "ChunkStoreModel" (⟨"ChunkStoreModel", "choose", "(II)I"⟩ : MethodName) (⟨"ChunkStoreModel", "choose", "(II)I"⟩ : MethodName) ∈ xT := xT_in (List.mem_append_left _ (List.mem_of_getElem? (i := 31) rfl)) rfl
theorem ks32 : Cond.selects "ChunkStoreModel" (⟨"ChunkStoreModel", "loadOf", "(I)I"⟩ : MethodName) (⟨"ChunkStoreModel", "loadOf", "(I)I"⟩ : MethodName) ∈ xT := xT_in (List.mem_append_left _ (List.mem_of_getElem? (i := 32) rfl)) rfl
theorem ks33 : Cond.selects "ChunkStoreModel" (⟨"ChunkStoreModel", "place", "(III)V"⟩ : MethodName) (⟨"ChunkStoreModel", "place", "(III)V"⟩ : MethodName) ∈ xT := xT_in (List.mem_append_left _ (List.mem_of_getElem? (i := 33) rfl)) rfl
theorem ks34 : Cond.selects "ChunkStoreModel" (⟨"ChunkStoreModel", "find", "(III)I"⟩ : MethodName) (⟨"ChunkStoreModel", "find", "(III)I"⟩ : MethodName) ∈ xT := xT_in (List.mem_append_left _ (List.mem_of_getElem? (i := 34) rfl)) rfl
theorem ks35 : Cond.selects "ChunkStoreModel" (⟨"ChunkStoreModel", "takeLease", "(II)I"⟩ : MethodName) (⟨"ChunkStoreModel", "takeLease", "(II)I"⟩ : MethodName) ∈ xT := xT_in (List.mem_append_left _ (List.mem_of_getElem? (i := 35) rfl)) rfl
theorem ks36 : Cond.selects "ChunkStoreModel" (⟨"ChunkStoreModel", "live", "(I)I"⟩ : MethodName) (⟨"ChunkStoreModel", "live", "(I)I"⟩ : MethodName) ∈ xT := xT_in (List.mem_append_left _ (List.mem_of_getElem? (i := 36) rfl)) rfl
theorem ks37 : Cond.selects "ChunkStoreModel" (⟨"ChunkStoreModel", "refs", "(I)I"⟩ : MethodName) (⟨"ChunkStoreModel", "refs", "(I)I"⟩ : MethodName) ∈ xT := xT_in (List.mem_append_left _ (List.mem_of_getElem? (i := 37) rfl)) rfl
theorem ks38 : Cond.selects "ChunkStoreModel" (⟨"ChunkStoreModel", "store", "(III)V"⟩ : MethodName) (⟨"ChunkStoreModel", "store", "(III)V"⟩ : MethodName) ∈ xT := xT_in (List.mem_append_left _ (List.mem_of_getElem? (i := 38) rfl)) rfl
theorem ks39 : Cond.selects "ChunkStoreModel" (⟨"ChunkStoreModel", "usedIn", "(I)I"⟩ : MethodName) (⟨"ChunkStoreModel", "usedIn", "(I)I"⟩ : MethodName) ∈ xT := xT_in (List.mem_append_left _ (List.mem_of_getElem? (i := 39) rfl)) rfl
theorem ks40 : Cond.selects "ChunkStoreModel" (⟨"ChunkStoreModel", "first", "(I)I"⟩ : MethodName) (⟨"ChunkStoreModel", "first", "(I)I"⟩ : MethodName) ∈ xT := xT_in (List.mem_append_left _ (List.mem_of_getElem? (i := 40) rfl)) rfl
theorem ks41 : Cond.selects "ChunkStoreModel" (⟨"ChunkStoreModel", "ones", "(I)I"⟩ : MethodName) (⟨"ChunkStoreModel", "ones", "(I)I"⟩ : MethodName) ∈ xT := xT_in (List.mem_append_left _ (List.mem_of_getElem? (i := 41) rfl)) rfl
end XNM
