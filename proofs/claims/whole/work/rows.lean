section
def lw_okq (q : MethodName × Nat) : Prop := (q.1.cls ≠ "java/lang/invoke/MethodHandle" ∧ q.1.cls ≠ "java/lang/invoke/VarHandle") ∧ Cond.instantiable q.1.cls q.2 ∈ tables_1 ∧ Cond.privateMethod q.1 ∈ tables_1 ∧ Cond.instanceMethod q.1 ∈ tables_1
theorem lw_p0 : lw_okq (⟨"ChunkStore", "forget", "(LChunkStore$FileEntry;)V"⟩, 6) := ⟨⟨by decide +kernel, by decide +kernel⟩, List.mem_of_getElem? (i := 19) (by decide +kernel), List.mem_of_getElem? (i := 141) (by decide +kernel), List.mem_of_getElem? (i := 142) (by decide +kernel)⟩
theorem lw_p1 : lw_okq (⟨"java/lang/Throwable", "fillInStackTrace", "(I)Ljava/lang/Throwable;"⟩, 6) := ⟨⟨by decide +kernel, by decide +kernel⟩, List.mem_of_getElem? (i := 198) (by decide +kernel), List.mem_of_getElem? (i := 196) (by decide +kernel), List.mem_of_getElem? (i := 197) (by decide +kernel)⟩
theorem lw_p2 : lw_okq (⟨"ChunkStore", "fileNotYet", "(I)LChunkStore$FileEntry;"⟩, 6) := ⟨⟨by decide +kernel, by decide +kernel⟩, List.mem_of_getElem? (i := 19) (by decide +kernel), List.mem_of_getElem? (i := 228) (by decide +kernel), List.mem_of_getElem? (i := 229) (by decide +kernel)⟩
theorem lw_p3 : lw_okq (⟨"ChunkStore", "countThere", "()I"⟩, 6) := ⟨⟨by decide +kernel, by decide +kernel⟩, List.mem_of_getElem? (i := 19) (by decide +kernel), List.mem_of_getElem? (i := 248) (by decide +kernel), List.mem_of_getElem? (i := 249) (by decide +kernel)⟩
theorem lw_p4 : lw_okq (⟨"ChunkStore", "fileThere", "(I)LChunkStore$FileEntry;"⟩, 6) := ⟨⟨by decide +kernel, by decide +kernel⟩, List.mem_of_getElem? (i := 19) (by decide +kernel), List.mem_of_getElem? (i := 260) (by decide +kernel), List.mem_of_getElem? (i := 261) (by decide +kernel)⟩
theorem lw_p5 : lw_okq (⟨"ChunkStore$FileEntry", "addAtEnd", "(I)V"⟩, 4) := ⟨⟨by decide +kernel, by decide +kernel⟩, List.mem_of_getElem? (i := 28) (by decide +kernel), List.mem_of_getElem? (i := 295) (by decide +kernel), List.mem_of_getElem? (i := 296) (by decide +kernel)⟩
theorem lw_p6 : lw_okq (⟨"ChunkStore", "makeChunk", "(LChunkStore$FileEntry;)I"⟩, 6) := ⟨⟨by decide +kernel, by decide +kernel⟩, List.mem_of_getElem? (i := 19) (by decide +kernel), List.mem_of_getElem? (i := 307) (by decide +kernel), List.mem_of_getElem? (i := 308) (by decide +kernel)⟩
theorem lw_p7 : lw_okq (⟨"ChunkStore", "choose", "(II)I"⟩, 6) := ⟨⟨by decide +kernel, by decide +kernel⟩, List.mem_of_getElem? (i := 19) (by decide +kernel), List.mem_of_getElem? (i := 327) (by decide +kernel), List.mem_of_getElem? (i := 328) (by decide +kernel)⟩
theorem lw_p8 : lw_okq (⟨"ChunkStore", "lightest", "(II)I"⟩, 6) := ⟨⟨by decide +kernel, by decide +kernel⟩, List.mem_of_getElem? (i := 19) (by decide +kernel), List.mem_of_getElem? (i := 331) (by decide +kernel), List.mem_of_getElem? (i := 332) (by decide +kernel)⟩
theorem lw_p9 : lw_okq (⟨"ChunkStore$Server", "isFull", "()Z"⟩, 5) := ⟨⟨by decide +kernel, by decide +kernel⟩, List.mem_of_getElem? (i := 71) (by decide +kernel), List.mem_of_getElem? (i := 335) (by decide +kernel), List.mem_of_getElem? (i := 336) (by decide +kernel)⟩
theorem lw_p10 : lw_okq (⟨"ChunkStore$Server", "has", "(I)Z"⟩, 5) := ⟨⟨by decide +kernel, by decide +kernel⟩, List.mem_of_getElem? (i := 71) (by decide +kernel), List.mem_of_getElem? (i := 339) (by decide +kernel), List.mem_of_getElem? (i := 340) (by decide +kernel)⟩
theorem lw_p11 : lw_okq (⟨"ChunkStore", "startChunk", "(I)V"⟩, 6) := ⟨⟨by decide +kernel, by decide +kernel⟩, List.mem_of_getElem? (i := 19) (by decide +kernel), List.mem_of_getElem? (i := 347) (by decide +kernel), List.mem_of_getElem? (i := 348) (by decide +kernel)⟩
theorem lw_p12 : lw_okq (⟨"ChunkStore$Server", "addEmpty", "(I)V"⟩, 5) := ⟨⟨by decide +kernel, by decide +kernel⟩, List.mem_of_getElem? (i := 71) (by decide +kernel), List.mem_of_getElem? (i := 351) (by decide +kernel), List.mem_of_getElem? (i := 352) (by decide +kernel)⟩
theorem lw_p13 : lw_okq (⟨"ChunkStore", "find", "(III)LChunkStore$Kept;"⟩, 6) := ⟨⟨by decide +kernel, by decide +kernel⟩, List.mem_of_getElem? (i := 19) (by decide +kernel), List.mem_of_getElem? (i := 362) (by decide +kernel), List.mem_of_getElem? (i := 363) (by decide +kernel)⟩
theorem lw_p14 : lw_okq (⟨"ChunkStore", "lease", "(LChunkStore$FileEntry;I)I"⟩, 6) := ⟨⟨by decide +kernel, by decide +kernel⟩, List.mem_of_getElem? (i := 19) (by decide +kernel), List.mem_of_getElem? (i := 379) (by decide +kernel), List.mem_of_getElem? (i := 380) (by decide +kernel)⟩
theorem lw_p15 : lw_okq (⟨"ChunkStore", "liveHolders", "(I)I"⟩, 6) := ⟨⟨by decide +kernel, by decide +kernel⟩, List.mem_of_getElem? (i := 19) (by decide +kernel), List.mem_of_getElem? (i := 383) (by decide +kernel), List.mem_of_getElem? (i := 384) (by decide +kernel)⟩
def lw_privs_1 : List (MethodName × Nat) := [(⟨"ChunkStore", "forget", "(LChunkStore$FileEntry;)V"⟩, 6), (⟨"java/lang/Throwable", "fillInStackTrace", "(I)Ljava/lang/Throwable;"⟩, 6), (⟨"ChunkStore", "fileNotYet", "(I)LChunkStore$FileEntry;"⟩, 6), (⟨"ChunkStore", "countThere", "()I"⟩, 6), (⟨"ChunkStore", "fileThere", "(I)LChunkStore$FileEntry;"⟩, 6), (⟨"ChunkStore$FileEntry", "addAtEnd", "(I)V"⟩, 4), (⟨"ChunkStore", "makeChunk", "(LChunkStore$FileEntry;)I"⟩, 6), (⟨"ChunkStore", "choose", "(II)I"⟩, 6), (⟨"ChunkStore", "lightest", "(II)I"⟩, 6), (⟨"ChunkStore$Server", "isFull", "()Z"⟩, 5), (⟨"ChunkStore$Server", "has", "(I)Z"⟩, 5), (⟨"ChunkStore", "startChunk", "(I)V"⟩, 6), (⟨"ChunkStore$Server", "addEmpty", "(I)V"⟩, 5), (⟨"ChunkStore", "find", "(III)LChunkStore$Kept;"⟩, 6), (⟨"ChunkStore", "lease", "(LChunkStore$FileEntry;I)I"⟩, 6), (⟨"ChunkStore", "liveHolders", "(I)I"⟩, 6)]
theorem lw_r1 : ∀ q ∈ lw_privs_1, lw_okq q := List.forall_mem_cons.mpr ⟨lw_p0, List.forall_mem_cons.mpr ⟨lw_p1, List.forall_mem_cons.mpr ⟨lw_p2, List.forall_mem_cons.mpr ⟨lw_p3, List.forall_mem_cons.mpr ⟨lw_p4, List.forall_mem_cons.mpr ⟨lw_p5, List.forall_mem_cons.mpr ⟨lw_p6, List.forall_mem_cons.mpr ⟨lw_p7, List.forall_mem_cons.mpr ⟨lw_p8, List.forall_mem_cons.mpr ⟨lw_p9, List.forall_mem_cons.mpr ⟨lw_p10, List.forall_mem_cons.mpr ⟨lw_p11, List.forall_mem_cons.mpr ⟨lw_p12, List.forall_mem_cons.mpr ⟨lw_p13, List.forall_mem_cons.mpr ⟨lw_p14, List.forall_mem_cons.mpr ⟨lw_p15, fun _ h => absurd h List.not_mem_nil⟩⟩⟩⟩⟩⟩⟩⟩⟩⟩⟩⟩⟩⟩⟩⟩
theorem lw_p16 : lw_okq (⟨"ChunkStore", "isLeased", "(LChunkStore$Chunk;)Z"⟩, 6) := ⟨⟨by decide +kernel, by decide +kernel⟩, List.mem_of_getElem? (i := 19) (by decide +kernel), List.mem_of_getElem? (i := 387) (by decide +kernel), List.mem_of_getElem? (i := 388) (by decide +kernel)⟩
theorem lw_p17 : lw_okq (⟨"ChunkStore", "splitOff", "(LChunkStore$FileEntry;II)I"⟩, 6) := ⟨⟨by decide +kernel, by decide +kernel⟩, List.mem_of_getElem? (i := 19) (by decide +kernel), List.mem_of_getElem? (i := 392) (by decide +kernel), List.mem_of_getElem? (i := 393) (by decide +kernel)⟩
theorem lw_p18 : lw_okq (⟨"ChunkStore", "anyFull", "(I)Z"⟩, 6) := ⟨⟨by decide +kernel, by decide +kernel⟩, List.mem_of_getElem? (i := 19) (by decide +kernel), List.mem_of_getElem? (i := 397) (by decide +kernel), List.mem_of_getElem? (i := 398) (by decide +kernel)⟩
theorem lw_p19 : lw_okq (⟨"ChunkStore$Server", "addLike", "(ILChunkStore$Server;II)V"⟩, 5) := ⟨⟨by decide +kernel, by decide +kernel⟩, List.mem_of_getElem? (i := 71) (by decide +kernel), List.mem_of_getElem? (i := 417) (by decide +kernel), List.mem_of_getElem? (i := 418) (by decide +kernel)⟩
theorem lw_p20 : lw_okq (⟨"ChunkStore", "raiseVersion", "(II)V"⟩, 6) := ⟨⟨by decide +kernel, by decide +kernel⟩, List.mem_of_getElem? (i := 19) (by decide +kernel), List.mem_of_getElem? (i := 421) (by decide +kernel), List.mem_of_getElem? (i := 422) (by decide +kernel)⟩
theorem lw_p21 : lw_okq (⟨"ChunkStore", "setWordAtHolders", "(III)V"⟩, 6) := ⟨⟨by decide +kernel, by decide +kernel⟩, List.mem_of_getElem? (i := 19) (by decide +kernel), List.mem_of_getElem? (i := 426) (by decide +kernel), List.mem_of_getElem? (i := 427) (by decide +kernel)⟩
theorem lw_p22 : lw_okq (⟨"ChunkStore$Server", "setWord", "(III)V"⟩, 5) := ⟨⟨by decide +kernel, by decide +kernel⟩, List.mem_of_getElem? (i := 71) (by decide +kernel), List.mem_of_getElem? (i := 430) (by decide +kernel), List.mem_of_getElem? (i := 431) (by decide +kernel)⟩
theorem lw_p23 : lw_okq (⟨"ChunkStore", "usedAtFirst", "(I)I"⟩, 6) := ⟨⟨by decide +kernel, by decide +kernel⟩, List.mem_of_getElem? (i := 19) (by decide +kernel), List.mem_of_getElem? (i := 444) (by decide +kernel), List.mem_of_getElem? (i := 445) (by decide +kernel)⟩
theorem lw_p24 : lw_okq (⟨"ChunkStore$Server", "word", "(II)I"⟩, 5) := ⟨⟨by decide +kernel, by decide +kernel⟩, List.mem_of_getElem? (i := 71) (by decide +kernel), List.mem_of_getElem? (i := 460) (by decide +kernel), List.mem_of_getElem? (i := 461) (by decide +kernel)⟩
theorem lw_p25 : lw_okq (⟨"ChunkStore", "confirmReplica", "(II)Z"⟩, 6) := ⟨⟨by decide +kernel, by decide +kernel⟩, List.mem_of_getElem? (i := 19) (by decide +kernel), List.mem_of_getElem? (i := 479) (by decide +kernel), List.mem_of_getElem? (i := 480) (by decide +kernel)⟩
theorem lw_p26 : lw_okq (⟨"ChunkStore$Server", "drop", "(I)V"⟩, 5) := ⟨⟨by decide +kernel, by decide +kernel⟩, List.mem_of_getElem? (i := 71) (by decide +kernel), List.mem_of_getElem? (i := 483) (by decide +kernel), List.mem_of_getElem? (i := 484) (by decide +kernel)⟩
theorem lw_p27 : lw_okq (⟨"ChunkStore", "mostInNeed", "()I"⟩, 6) := ⟨⟨by decide +kernel, by decide +kernel⟩, List.mem_of_getElem? (i := 19) (by decide +kernel), List.mem_of_getElem? (i := 494) (by decide +kernel), List.mem_of_getElem? (i := 495) (by decide +kernel)⟩
theorem lw_p28 : lw_okq (⟨"ChunkStoreModel", "out", "(II)Z"⟩, 18) := ⟨⟨by decide +kernel, by decide +kernel⟩, List.mem_of_getElem? (i := 561) (by decide +kernel), List.mem_of_getElem? (i := 633) (by decide +kernel), List.mem_of_getElem? (i := 634) (by decide +kernel)⟩
theorem lw_p29 : lw_okq (⟨"ChunkStoreModel", "fail", "(I)I"⟩, 18) := ⟨⟨by decide +kernel, by decide +kernel⟩, List.mem_of_getElem? (i := 561) (by decide +kernel), List.mem_of_getElem? (i := 637) (by decide +kernel), List.mem_of_getElem? (i := 638) (by decide +kernel)⟩
theorem lw_p30 : lw_okq (⟨"ChunkStoreModel", "makeChunk", "(I)I"⟩, 18) := ⟨⟨by decide +kernel, by decide +kernel⟩, List.mem_of_getElem? (i := 561) (by decide +kernel), List.mem_of_getElem? (i := 657) (by decide +kernel), List.mem_of_getElem? (i := 658) (by decide +kernel)⟩
theorem lw_p31 : lw_okq (⟨"ChunkStoreModel", "choose", "(II)I"⟩, 18) := ⟨⟨by decide +kernel, by decide +kernel⟩, List.mem_of_getElem? (i := 561) (by decide +kernel), List.mem_of_getElem? (i := 661) (by decide +kernel), List.mem_of_getElem? (i := 662) (by decide +kernel)⟩
def lw_privs_2 : List (MethodName × Nat) := [(⟨"ChunkStore", "isLeased", "(LChunkStore$Chunk;)Z"⟩, 6), (⟨"ChunkStore", "splitOff", "(LChunkStore$FileEntry;II)I"⟩, 6), (⟨"ChunkStore", "anyFull", "(I)Z"⟩, 6), (⟨"ChunkStore$Server", "addLike", "(ILChunkStore$Server;II)V"⟩, 5), (⟨"ChunkStore", "raiseVersion", "(II)V"⟩, 6), (⟨"ChunkStore", "setWordAtHolders", "(III)V"⟩, 6), (⟨"ChunkStore$Server", "setWord", "(III)V"⟩, 5), (⟨"ChunkStore", "usedAtFirst", "(I)I"⟩, 6), (⟨"ChunkStore$Server", "word", "(II)I"⟩, 5), (⟨"ChunkStore", "confirmReplica", "(II)Z"⟩, 6), (⟨"ChunkStore$Server", "drop", "(I)V"⟩, 5), (⟨"ChunkStore", "mostInNeed", "()I"⟩, 6), (⟨"ChunkStoreModel", "out", "(II)Z"⟩, 18), (⟨"ChunkStoreModel", "fail", "(I)I"⟩, 18), (⟨"ChunkStoreModel", "makeChunk", "(I)I"⟩, 18), (⟨"ChunkStoreModel", "choose", "(II)I"⟩, 18)]
theorem lw_r2 : ∀ q ∈ lw_privs_2, lw_okq q := List.forall_mem_cons.mpr ⟨lw_p16, List.forall_mem_cons.mpr ⟨lw_p17, List.forall_mem_cons.mpr ⟨lw_p18, List.forall_mem_cons.mpr ⟨lw_p19, List.forall_mem_cons.mpr ⟨lw_p20, List.forall_mem_cons.mpr ⟨lw_p21, List.forall_mem_cons.mpr ⟨lw_p22, List.forall_mem_cons.mpr ⟨lw_p23, List.forall_mem_cons.mpr ⟨lw_p24, List.forall_mem_cons.mpr ⟨lw_p25, List.forall_mem_cons.mpr ⟨lw_p26, List.forall_mem_cons.mpr ⟨lw_p27, List.forall_mem_cons.mpr ⟨lw_p28, List.forall_mem_cons.mpr ⟨lw_p29, List.forall_mem_cons.mpr ⟨lw_p30, List.forall_mem_cons.mpr ⟨lw_p31, fun _ h => absurd h List.not_mem_nil⟩⟩⟩⟩⟩⟩⟩⟩⟩⟩⟩⟩⟩⟩⟩⟩
theorem lw_p32 : lw_okq (⟨"ChunkStoreModel", "loadOf", "(I)I"⟩, 18) := ⟨⟨by decide +kernel, by decide +kernel⟩, List.mem_of_getElem? (i := 561) (by decide +kernel), List.mem_of_getElem? (i := 665) (by decide +kernel), List.mem_of_getElem? (i := 666) (by decide +kernel)⟩
theorem lw_p33 : lw_okq (⟨"ChunkStoreModel", "place", "(III)V"⟩, 18) := ⟨⟨by decide +kernel, by decide +kernel⟩, List.mem_of_getElem? (i := 561) (by decide +kernel), List.mem_of_getElem? (i := 669) (by decide +kernel), List.mem_of_getElem? (i := 670) (by decide +kernel)⟩
theorem lw_p34 : lw_okq (⟨"ChunkStoreModel", "find", "(III)I"⟩, 18) := ⟨⟨by decide +kernel, by decide +kernel⟩, List.mem_of_getElem? (i := 561) (by decide +kernel), List.mem_of_getElem? (i := 677) (by decide +kernel), List.mem_of_getElem? (i := 678) (by decide +kernel)⟩
theorem lw_p35 : lw_okq (⟨"ChunkStoreModel", "takeLease", "(II)I"⟩, 18) := ⟨⟨by decide +kernel, by decide +kernel⟩, List.mem_of_getElem? (i := 561) (by decide +kernel), List.mem_of_getElem? (i := 686) (by decide +kernel), List.mem_of_getElem? (i := 687) (by decide +kernel)⟩
theorem lw_p36 : lw_okq (⟨"ChunkStoreModel", "live", "(I)I"⟩, 18) := ⟨⟨by decide +kernel, by decide +kernel⟩, List.mem_of_getElem? (i := 561) (by decide +kernel), List.mem_of_getElem? (i := 690) (by decide +kernel), List.mem_of_getElem? (i := 691) (by decide +kernel)⟩
theorem lw_p37 : lw_okq (⟨"ChunkStoreModel", "refs", "(I)I"⟩, 18) := ⟨⟨by decide +kernel, by decide +kernel⟩, List.mem_of_getElem? (i := 561) (by decide +kernel), List.mem_of_getElem? (i := 694) (by decide +kernel), List.mem_of_getElem? (i := 695) (by decide +kernel)⟩
theorem lw_p38 : lw_okq (⟨"ChunkStoreModel", "store", "(III)V"⟩, 18) := ⟨⟨by decide +kernel, by decide +kernel⟩, List.mem_of_getElem? (i := 561) (by decide +kernel), List.mem_of_getElem? (i := 699) (by decide +kernel), List.mem_of_getElem? (i := 700) (by decide +kernel)⟩
theorem lw_p39 : lw_okq (⟨"ChunkStoreModel", "usedIn", "(I)I"⟩, 18) := ⟨⟨by decide +kernel, by decide +kernel⟩, List.mem_of_getElem? (i := 561) (by decide +kernel), List.mem_of_getElem? (i := 707) (by decide +kernel), List.mem_of_getElem? (i := 708) (by decide +kernel)⟩
theorem lw_p40 : lw_okq (⟨"ChunkStoreModel", "first", "(I)I"⟩, 18) := ⟨⟨by decide +kernel, by decide +kernel⟩, List.mem_of_getElem? (i := 561) (by decide +kernel), List.mem_of_getElem? (i := 711) (by decide +kernel), List.mem_of_getElem? (i := 712) (by decide +kernel)⟩
theorem lw_p41 : lw_okq (⟨"ChunkStoreModel", "ones", "(I)I"⟩, 18) := ⟨⟨by decide +kernel, by decide +kernel⟩, List.mem_of_getElem? (i := 561) (by decide +kernel), List.mem_of_getElem? (i := 731) (by decide +kernel), List.mem_of_getElem? (i := 732) (by decide +kernel)⟩
def lw_privs_3 : List (MethodName × Nat) := [(⟨"ChunkStoreModel", "loadOf", "(I)I"⟩, 18), (⟨"ChunkStoreModel", "place", "(III)V"⟩, 18), (⟨"ChunkStoreModel", "find", "(III)I"⟩, 18), (⟨"ChunkStoreModel", "takeLease", "(II)I"⟩, 18), (⟨"ChunkStoreModel", "live", "(I)I"⟩, 18), (⟨"ChunkStoreModel", "refs", "(I)I"⟩, 18), (⟨"ChunkStoreModel", "store", "(III)V"⟩, 18), (⟨"ChunkStoreModel", "usedIn", "(I)I"⟩, 18), (⟨"ChunkStoreModel", "first", "(I)I"⟩, 18), (⟨"ChunkStoreModel", "ones", "(I)I"⟩, 18)]
theorem lw_r3 : ∀ q ∈ lw_privs_3, lw_okq q := List.forall_mem_cons.mpr ⟨lw_p32, List.forall_mem_cons.mpr ⟨lw_p33, List.forall_mem_cons.mpr ⟨lw_p34, List.forall_mem_cons.mpr ⟨lw_p35, List.forall_mem_cons.mpr ⟨lw_p36, List.forall_mem_cons.mpr ⟨lw_p37, List.forall_mem_cons.mpr ⟨lw_p38, List.forall_mem_cons.mpr ⟨lw_p39, List.forall_mem_cons.mpr ⟨lw_p40, List.forall_mem_cons.mpr ⟨lw_p41, fun _ h => absurd h List.not_mem_nil⟩⟩⟩⟩⟩⟩⟩⟩⟩⟩
def lw_privs : List (MethodName × Nat) := lw_privs_1 ++ (lw_privs_2 ++ (lw_privs_3))
def lw_tbl : List Cond := k2_sels lw_privs ++ tables_1
theorem lw_privs_ok : ∀ q ∈ lw_privs, lw_okq q := by
  show ∀ q ∈ lw_privs_1 ++ (lw_privs_2 ++ (lw_privs_3)), lw_okq q
  exact List.forall_mem_append.mpr ⟨lw_r1, List.forall_mem_append.mpr ⟨lw_r2, lw_r3⟩⟩
end
section
section XNM
def xGood (w : Cond) : Bool := w.onTables && w.keeps
def xT : List Cond := lw_tbl.filter xGood
theorem xT_in {w : Cond} (h : w ∈ lw_tbl) (hg : xGood w = true) : w ∈ xT := List.mem_filter.mpr ⟨h, hg⟩
def xIsN (w : Cond) : Bool := match w with
  | .fieldLinkNest .. => true
  | .methodLinkNest .. => true
  | .declares _ => true
  | .castable .. => true
  | _ => false
def xN : List Cond := lw_tbl.filter xIsN
theorem xN_in {w : Cond} (h : w ∈ lw_tbl) (hg : xIsN w = true) : w ∈ xN := List.mem_filter.mpr ⟨h, hg⟩
def xStr : List (String × Nat × String) := [("ChunkStore", 214, "a number out of range"), ("ChunkStore", 223, "the file is there or hidden"), ("ChunkStore", 221, "the file is not there"), ("ChunkStore", 68, "the file is not hidden"), ("ChunkStore", 229, "no chunk can be made for the row"), ("ChunkStore", 234, "no server can be chosen"), ("ChunkStore", 218, "no such place in the row"), ("ChunkStore", 247, "no holder is up"), ("ChunkStore", 258, "no more chunks can be made"), ("ChunkStore", 263, "a holder has no room for its copy"), ("ChunkStore", 124, "the server was not found as a holder"), ("ChunkStore", 139, "the server can't answer for what was found"), ("ChunkStore", 149, "the server is not up"), ("ChunkStore", 173, "no chunk can be repaired"), ("ChunkStore", 190, "a span out of range"), ("ChunkStore", 195, "no server is up"), ("ChunkStore", 198, "the server has no replica of the chunk"), ("ChunkStore", 203, "the chunk was not made")]
def xArr : List FieldType := [.int, .byte, .double, .boolean, .long]
def xOvr : List String := ["ChunkStore$FileEntry", "ChunkStore$Chunk", "ChunkStore$Server", "ChunkStore$Kept"]
def xNot : List (String × String) := [("java/lang/ArithmeticException", "java/lang/IllegalArgumentException"), ("java/lang/ArithmeticException", "java/lang/IllegalStateException"), ("java/lang/ArithmeticException", "java/lang/IndexOutOfBoundsException"), ("java/lang/ArithmeticException", "java/lang/UnsupportedOperationException"), ("java/lang/ArithmeticException", "java/util/NoSuchElementException"), ("java/lang/IllegalArgumentException", "java/lang/ArithmeticException"), ("java/lang/IllegalArgumentException", "java/lang/IllegalStateException"), ("java/lang/IllegalArgumentException", "java/lang/IndexOutOfBoundsException"), ("java/lang/IllegalArgumentException", "java/lang/UnsupportedOperationException"), ("java/lang/IllegalArgumentException", "java/util/NoSuchElementException"), ("java/lang/IllegalStateException", "java/lang/ArithmeticException"), ("java/lang/IllegalStateException", "java/lang/IllegalArgumentException"), ("java/lang/IllegalStateException", "java/lang/IndexOutOfBoundsException"), ("java/lang/IllegalStateException", "java/lang/UnsupportedOperationException"), ("java/lang/IllegalStateException", "java/util/NoSuchElementException"), ("java/lang/IndexOutOfBoundsException", "java/lang/ArithmeticException"), ("java/lang/IndexOutOfBoundsException", "java/lang/IllegalArgumentException"), ("java/lang/IndexOutOfBoundsException", "java/lang/IllegalStateException"), ("java/lang/IndexOutOfBoundsException", "java/lang/UnsupportedOperationException"), ("java/lang/IndexOutOfBoundsException", "java/util/NoSuchElementException"), ("java/lang/UnsupportedOperationException", "java/lang/ArithmeticException"), ("java/lang/UnsupportedOperationException", "java/lang/IllegalArgumentException"), ("java/lang/UnsupportedOperationException", "java/lang/IllegalStateException"), ("java/lang/UnsupportedOperationException", "java/lang/IndexOutOfBoundsException"), ("java/lang/UnsupportedOperationException", "java/util/NoSuchElementException"), ("java/util/NoSuchElementException", "java/lang/ArithmeticException"), ("java/util/NoSuchElementException", "java/lang/IllegalArgumentException"), ("java/util/NoSuchElementException", "java/lang/IllegalStateException"), ("java/util/NoSuchElementException", "java/lang/IndexOutOfBoundsException"), ("java/util/NoSuchElementException", "java/lang/UnsupportedOperationException")]
abbrev xTN : String := "java/lang/Throwable"
abbrev R_CS : String := "ChunkStore"
def F_CS : u_T := fun k => match k with
  | 0 => ("ChunkStore", "files", "[LChunkStore$FileEntry;", true)
  | 1 => ("ChunkStore", "chunks", "[LChunkStore$Chunk;", true)
  | 2 => ("ChunkStore", "servers", "[LChunkStore$Server;", true)
  | 3 => ("ChunkStore", "keeps", "[LChunkStore$Kept;", true)
  | 4 => ("ChunkStore", "made", "I", false)
  | _ => ("ChunkStore", "time", "D", false)
def t_CS : Nat → FieldType := fun k => match k with
  | 0 => .array (.object "ChunkStore$FileEntry")
  | 1 => .array (.object "ChunkStore$Chunk")
  | 2 => .array (.object "ChunkStore$Server")
  | 3 => .array (.object "ChunkStore$Kept")
  | 4 => .int
  | _ => .double
theorem n_CS : ∀ a, a < 6 → ∀ b, b < 6 → a ≠ b → (F_CS a).2.1 ≠ (F_CS b).2.1 := by decide +kernel
theorem t_CS_ok : ∀ k, k < 6 → parseFieldDescriptor (F_CS k).2.2.1 = some (t_CS k) := by decide +kernel
abbrev R_CH : String := "ChunkStore$Chunk"
def F_CH : u_T := fun k => match k with
  | 0 => ("ChunkStore$Chunk", "version", "I", false)
  | 1 => ("ChunkStore$Chunk", "refs", "I", false)
  | 2 => ("ChunkStore$Chunk", "holders", "I", false)
  | _ => ("ChunkStore$Chunk", "leaseEnd", "D", false)
def t_CH : Nat → FieldType := fun k => match k with
  | 0 => .int
  | 1 => .int
  | 2 => .int
  | _ => .double
theorem n_CH : ∀ a, a < 4 → ∀ b, b < 4 → a ≠ b → (F_CH a).2.1 ≠ (F_CH b).2.1 := by decide +kernel
theorem t_CH_ok : ∀ k, k < 4 → parseFieldDescriptor (F_CH k).2.2.1 = some (t_CH k) := by decide +kernel
abbrev R_FE : String := "ChunkStore$FileEntry"
def F_FE : u_T := fun k => match k with
  | 0 => ("ChunkStore$FileEntry", "row", "[I", true)
  | 1 => ("ChunkStore$FileEntry", "count", "I", false)
  | 2 => ("ChunkStore$FileEntry", "state", "I", false)
  | _ => ("ChunkStore$FileEntry", "hiddenSince", "D", false)
def t_FE : Nat → FieldType := fun k => match k with
  | 0 => .array .int
  | 1 => .int
  | 2 => .int
  | _ => .double
theorem n_FE : ∀ a, a < 4 → ∀ b, b < 4 → a ≠ b → (F_FE a).2.1 ≠ (F_FE b).2.1 := by decide +kernel
theorem t_FE_ok : ∀ k, k < 4 → parseFieldDescriptor (F_FE k).2.2.1 = some (t_FE k) := by decide +kernel
abbrev R_KP : String := "ChunkStore$Kept"
def F_KP : u_T := fun k => match k with
  | 0 => ("ChunkStore$Kept", "number", "I", false)
  | 1 => ("ChunkStore$Kept", "version", "I", false)
  | 2 => ("ChunkStore$Kept", "holders", "I", false)
  | _ => ("ChunkStore$Kept", "end", "D", false)
def t_KP : Nat → FieldType := fun k => match k with
  | 0 => .int
  | 1 => .int
  | 2 => .int
  | _ => .double
theorem n_KP : ∀ a, a < 4 → ∀ b, b < 4 → a ≠ b → (F_KP a).2.1 ≠ (F_KP b).2.1 := by decide +kernel
theorem t_KP_ok : ∀ k, k < 4 → parseFieldDescriptor (F_KP k).2.2.1 = some (t_KP k) := by decide +kernel
abbrev R_SV : String := "ChunkStore$Server"
def F_SV : u_T := fun k => match k with
  | 0 => ("ChunkStore$Server", "versions", "[I", true)
  | 1 => ("ChunkStore$Server", "used", "[I", true)
  | 2 => ("ChunkStore$Server", "words", "[I", true)
  | 3 => ("ChunkStore$Server", "isUp", "Z", false)
  | _ => ("ChunkStore$Server", "replicas", "I", false)
def t_SV : Nat → FieldType := fun k => match k with
  | 0 => .array .int
  | 1 => .array .int
  | 2 => .array .int
  | 3 => .boolean
  | _ => .int
theorem n_SV : ∀ a, a < 5 → ∀ b, b < 5 → a ≠ b → (F_SV a).2.1 ≠ (F_SV b).2.1 := by decide +kernel
theorem t_SV_ok : ∀ k, k < 5 → parseFieldDescriptor (F_SV k).2.2.1 = some (t_SV k) := by decide +kernel
abbrev R_MD : String := "ChunkStoreModel"
def F_MD : u_T := fun k => match k with
  | 0 => ("ChunkStoreModel", "failed", "I", false)
  | 1 => ("ChunkStoreModel", "time", "D", false)
  | 2 => ("ChunkStoreModel", "state", "[I", true)
  | 3 => ("ChunkStoreModel", "hidden", "[D", true)
  | 4 => ("ChunkStoreModel", "row", "[I", true)
  | 5 => ("ChunkStoreModel", "length", "[I", true)
  | 6 => ("ChunkStoreModel", "chunks", "I", false)
  | 7 => ("ChunkStoreModel", "version", "[I", true)
  | 8 => ("ChunkStoreModel", "holders", "[I", true)
  | 9 => ("ChunkStoreModel", "lease", "[D", true)
  | 10 => ("ChunkStoreModel", "down", "[Z", true)
  | 11 => ("ChunkStoreModel", "replica", "[I", true)
  | 12 => ("ChunkStoreModel", "used", "[I", true)
  | 13 => ("ChunkStoreModel", "word", "[I", true)
  | 14 => ("ChunkStoreModel", "keptChunk", "[I", true)
  | 15 => ("ChunkStoreModel", "keptVersion", "[I", true)
  | 16 => ("ChunkStoreModel", "keptHolders", "[I", true)
  | _ => ("ChunkStoreModel", "keptEnd", "[D", true)
def t_MD : Nat → FieldType := fun k => match k with
  | 0 => .int
  | 1 => .double
  | 2 => .array .int
  | 3 => .array .double
  | 4 => .array .int
  | 5 => .array .int
  | 6 => .int
  | 7 => .array .int
  | 8 => .array .int
  | 9 => .array .double
  | 10 => .array .boolean
  | 11 => .array .int
  | 12 => .array .int
  | 13 => .array .int
  | 14 => .array .int
  | 15 => .array .int
  | 16 => .array .int
  | _ => .array .double
theorem n_MD : ∀ a, a < 18 → ∀ b, b < 18 → a ≠ b → (F_MD a).2.1 ≠ (F_MD b).2.1 := by decide +kernel
theorem t_MD_ok : ∀ k, k < 18 → parseFieldDescriptor (F_MD k).2.2.1 = some (t_MD k) := by decide +kernel
abbrev xcl : List vw_C := [(R_CS, F_CS, 6), (R_CH, F_CH, 4), (R_FE, F_FE, 4), (R_KP, F_KP, 4), (R_SV, F_SV, 5), (R_MD, F_MD, 18)]
abbrev y_CS_init : MethodName := ⟨"ChunkStore", "<init>", "()V"⟩
abbrev b_CS_init : ByteArray := prog_1_method_1_code
abbrev y_FE_init : MethodName := ⟨"ChunkStore$FileEntry", "<init>", "()V"⟩
abbrev b_FE_init : ByteArray := prog_3_method_1_code
abbrev y_CH_init : MethodName := ⟨"ChunkStore$Chunk", "<init>", "()V"⟩
abbrev b_CH_init : ByteArray := prog_2_method_1_code
abbrev y_SV_init : MethodName := ⟨"ChunkStore$Server", "<init>", "()V"⟩
abbrev b_SV_init : ByteArray := prog_5_method_1_code
abbrev y_KP_init : MethodName := ⟨"ChunkStore$Kept", "<init>", "()V"⟩
abbrev b_KP_init : ByteArray := prog_4_method_1_code
abbrev y_CS_sweep : MethodName := ⟨"ChunkStore", "sweep", "()I"⟩
abbrev b_CS_sweep : ByteArray := prog_1_method_14_code
abbrev y_CS_forget : MethodName := ⟨"ChunkStore", "forget", "(LChunkStore$FileEntry;)V"⟩
abbrev b_CS_forget : ByteArray := prog_1_method_25_code
abbrev y_LW_create : MethodName := ⟨"ChunkStoreLaw", "create", "(LChunkStore;I[J)I"⟩
abbrev b_LW_create : ByteArray := method_3_code
abbrev y_CS_create : MethodName := ⟨"ChunkStore", "create", "(I)I"⟩
abbrev b_CS_create : ByteArray := prog_1_method_2_code
abbrev y_CS_checkRange : MethodName := ⟨"ChunkStore", "checkRange", "(II)V"⟩
abbrev b_CS_checkRange : ByteArray := prog_1_method_20_code
abbrev y_CS_fileNotYet : MethodName := ⟨"ChunkStore", "fileNotYet", "(I)LChunkStore$FileEntry;"⟩
abbrev b_CS_fileNotYet : ByteArray := prog_1_method_23_code
abbrev y_CS_countThere : MethodName := ⟨"ChunkStore", "countThere", "()I"⟩
abbrev b_CS_countThere : ByteArray := prog_1_method_24_code
abbrev y_LW_remove : MethodName := ⟨"ChunkStoreLaw", "remove", "(LChunkStore;I[J)I"⟩
abbrev b_LW_remove : ByteArray := method_4_code
abbrev y_CS_remove : MethodName := ⟨"ChunkStore", "remove", "(I)I"⟩
abbrev b_CS_remove : ByteArray := prog_1_method_3_code
abbrev y_CS_fileThere : MethodName := ⟨"ChunkStore", "fileThere", "(I)LChunkStore$FileEntry;"⟩
abbrev b_CS_fileThere : ByteArray := prog_1_method_22_code
abbrev y_LW_restore : MethodName := ⟨"ChunkStoreLaw", "restore", "(LChunkStore;I[J)I"⟩
abbrev b_LW_restore : ByteArray := method_5_code
abbrev y_CS_restore : MethodName := ⟨"ChunkStore", "restore", "(I)I"⟩
abbrev b_CS_restore : ByteArray := prog_1_method_4_code
abbrev y_LW_copy : MethodName := ⟨"ChunkStoreLaw", "copy", "(LChunkStore;II[J)I"⟩
abbrev b_LW_copy : ByteArray := method_6_code
abbrev y_CS_copy : MethodName := ⟨"ChunkStore", "copy", "(II)I"⟩
abbrev b_CS_copy : ByteArray := prog_1_method_5_code
abbrev y_FE_addAtEnd : MethodName := ⟨"ChunkStore$FileEntry", "addAtEnd", "(I)V"⟩
abbrev b_FE_addAtEnd : ByteArray := prog_3_method_2_code
abbrev y_LW_extend : MethodName := ⟨"ChunkStoreLaw", "extend", "(LChunkStore;I[J)I"⟩
abbrev b_LW_extend : ByteArray := method_7_code
abbrev y_CS_extend : MethodName := ⟨"ChunkStore", "extend", "(I)I"⟩
abbrev b_CS_extend : ByteArray := prog_1_method_6_code
abbrev y_CS_makeChunk : MethodName := ⟨"ChunkStore", "makeChunk", "(LChunkStore$FileEntry;)I"⟩
abbrev b_CS_makeChunk : ByteArray := prog_1_method_32_code
abbrev y_CS_choose : MethodName := ⟨"ChunkStore", "choose", "(II)I"⟩
abbrev b_CS_choose : ByteArray := prog_1_method_31_code
abbrev y_CS_lightest : MethodName := ⟨"ChunkStore", "lightest", "(II)I"⟩
abbrev b_CS_lightest : ByteArray := prog_1_method_30_code
abbrev y_SV_isFull : MethodName := ⟨"ChunkStore$Server", "isFull", "()Z"⟩
abbrev b_SV_isFull : ByteArray := prog_5_method_3_code
abbrev y_SV_has : MethodName := ⟨"ChunkStore$Server", "has", "(I)Z"⟩
abbrev b_SV_has : ByteArray := prog_5_method_2_code
abbrev y_CS_isIn : MethodName := ⟨"ChunkStore", "isIn", "(II)Z"⟩
abbrev b_CS_isIn : ByteArray := prog_1_method_26_code
abbrev y_CS_startChunk : MethodName := ⟨"ChunkStore", "startChunk", "(I)V"⟩
abbrev b_CS_startChunk : ByteArray := prog_1_method_33_code
abbrev y_SV_addEmpty : MethodName := ⟨"ChunkStore$Server", "addEmpty", "(I)V"⟩
abbrev b_SV_addEmpty : ByteArray := prog_5_method_4_code
abbrev y_LW_locate : MethodName := ⟨"ChunkStoreLaw", "locate", "(LChunkStore;III[J)I"⟩
abbrev b_LW_locate : ByteArray := method_8_code
abbrev y_CS_locate : MethodName := ⟨"ChunkStore", "locate", "(III)I"⟩
abbrev b_CS_locate : ByteArray := prog_1_method_7_code
abbrev y_CS_find : MethodName := ⟨"ChunkStore", "find", "(III)LChunkStore$Kept;"⟩
abbrev b_CS_find : ByteArray := prog_1_method_34_code
abbrev y_CS_checkPlace : MethodName := ⟨"ChunkStore", "checkPlace", "(LChunkStore$FileEntry;I)V"⟩
abbrev b_CS_checkPlace : ByteArray := prog_1_method_21_code
abbrev y_LW_write : MethodName := ⟨"ChunkStoreLaw", "write", "(LChunkStore;IIII[J)I"⟩
abbrev b_LW_write : ByteArray := method_9_code
abbrev y_CS_write : MethodName := ⟨"ChunkStore", "write", "(IIII)I"⟩
abbrev b_CS_write : ByteArray := prog_1_method_8_code
abbrev y_CS_lease : MethodName := ⟨"ChunkStore", "lease", "(LChunkStore$FileEntry;I)I"⟩
abbrev b_CS_lease : ByteArray := prog_1_method_35_code
abbrev y_CS_liveHolders : MethodName := ⟨"ChunkStore", "liveHolders", "(I)I"⟩
abbrev b_CS_liveHolders : ByteArray := prog_1_method_28_code
abbrev y_CS_isLeased : MethodName := ⟨"ChunkStore", "isLeased", "(LChunkStore$Chunk;)Z"⟩
abbrev b_CS_isLeased : ByteArray := prog_1_method_29_code
abbrev y_CS_splitOff : MethodName := ⟨"ChunkStore", "splitOff", "(LChunkStore$FileEntry;II)I"⟩
abbrev b_CS_splitOff : ByteArray := prog_1_method_36_code
abbrev y_CS_anyFull : MethodName := ⟨"ChunkStore", "anyFull", "(I)Z"⟩
abbrev b_CS_anyFull : ByteArray := prog_1_method_37_code
abbrev y_SV_addLike : MethodName := ⟨"ChunkStore$Server", "addLike", "(ILChunkStore$Server;II)V"⟩
abbrev b_SV_addLike : ByteArray := prog_5_method_5_code
abbrev y_CS_raiseVersion : MethodName := ⟨"ChunkStore", "raiseVersion", "(II)V"⟩
abbrev b_CS_raiseVersion : ByteArray := prog_1_method_38_code
abbrev y_CS_setWordAtHolders : MethodName := ⟨"ChunkStore", "setWordAtHolders", "(III)V"⟩
abbrev b_CS_setWordAtHolders : ByteArray := prog_1_method_39_code
abbrev y_SV_setWord : MethodName := ⟨"ChunkStore$Server", "setWord", "(III)V"⟩
abbrev b_SV_setWord : ByteArray := prog_5_method_8_code
abbrev y_MA_max : MethodName := ⟨"java/lang/Math", "max", "(II)I"⟩
abbrev b_MA_max : ByteArray := prog_14_method_65_code
abbrev y_LW_append : MethodName := ⟨"ChunkStoreLaw", "append", "(LChunkStore;II[J)I"⟩
abbrev b_LW_append : ByteArray := method_10_code
abbrev y_CS_append : MethodName := ⟨"ChunkStore", "append", "(II)I"⟩
abbrev b_CS_append : ByteArray := prog_1_method_9_code
abbrev y_CS_usedAtFirst : MethodName := ⟨"ChunkStore", "usedAtFirst", "(I)I"⟩
abbrev b_CS_usedAtFirst : ByteArray := prog_1_method_40_code
abbrev y_CS_first : MethodName := ⟨"ChunkStore", "first", "(I)I"⟩
abbrev b_CS_first : ByteArray := prog_1_method_27_code
abbrev y_LW_read : MethodName := ⟨"ChunkStoreLaw", "read", "(LChunkStore;IIIII[J)I"⟩
abbrev b_LW_read : ByteArray := method_11_code
abbrev y_CS_read : MethodName := ⟨"ChunkStore", "read", "(IIIII)I"⟩
abbrev b_CS_read : ByteArray := prog_1_method_10_code
abbrev y_SV_word : MethodName := ⟨"ChunkStore$Server", "word", "(II)I"⟩
abbrev b_SV_word : ByteArray := prog_5_method_7_code
abbrev y_LW_up : MethodName := ⟨"ChunkStoreLaw", "up", "(LChunkStore;IZ[J)I"⟩
abbrev b_LW_up : ByteArray := method_12_code
abbrev y_CS_up : MethodName := ⟨"ChunkStore", "up", "(IZ)I"⟩
abbrev b_CS_up : ByteArray := prog_1_method_11_code
abbrev y_LW_report : MethodName := ⟨"ChunkStoreLaw", "report", "(LChunkStore;I[J)I"⟩
abbrev b_LW_report : ByteArray := method_13_code
abbrev y_CS_report : MethodName := ⟨"ChunkStore", "report", "(I)I"⟩
abbrev b_CS_report : ByteArray := prog_1_method_12_code
abbrev y_CS_confirmReplica : MethodName := ⟨"ChunkStore", "confirmReplica", "(II)Z"⟩
abbrev b_CS_confirmReplica : ByteArray := prog_1_method_41_code
abbrev y_SV_drop : MethodName := ⟨"ChunkStore$Server", "drop", "(I)V"⟩
abbrev b_SV_drop : ByteArray := prog_5_method_6_code
abbrev y_LW_repair : MethodName := ⟨"ChunkStoreLaw", "repair", "(LChunkStore;[J)I"⟩
abbrev b_LW_repair : ByteArray := method_14_code
abbrev y_CS_repair : MethodName := ⟨"ChunkStore", "repair", "()I"⟩
abbrev b_CS_repair : ByteArray := prog_1_method_13_code
abbrev y_CS_mostInNeed : MethodName := ⟨"ChunkStore", "mostInNeed", "()I"⟩
abbrev b_CS_mostInNeed : ByteArray := prog_1_method_42_code
abbrev y_IN_bitCount : MethodName := ⟨"java/lang/Integer", "bitCount", "(I)I"⟩
abbrev b_IN_bitCount : ByteArray := prog_13_method_49_code
abbrev y_LW_tick : MethodName := ⟨"ChunkStoreLaw", "tick", "(LChunkStore;D[D)I"⟩
abbrev b_LW_tick : ByteArray := method_15_code
abbrev y_CS_tick : MethodName := ⟨"ChunkStore", "tick", "(D)D"⟩
abbrev b_CS_tick : ByteArray := prog_1_method_15_code
abbrev y_LW_load : MethodName := ⟨"ChunkStoreLaw", "load", "(LChunkStore;[D)I"⟩
abbrev b_LW_load : ByteArray := method_16_code
abbrev y_CS_load : MethodName := ⟨"ChunkStore", "load", "()D"⟩
abbrev b_CS_load : ByteArray := prog_1_method_16_code
abbrev y_LW_look : MethodName := ⟨"ChunkStoreLaw", "look", "(LChunkStore;III[J)I"⟩
abbrev b_LW_look : ByteArray := method_17_code
abbrev y_CS_look : MethodName := ⟨"ChunkStore", "look", "(III)I"⟩
abbrev b_CS_look : ByteArray := prog_1_method_17_code
abbrev y_LW_file : MethodName := ⟨"ChunkStoreLaw", "file", "(LChunkStore;II[J)I"⟩
abbrev b_LW_file : ByteArray := method_18_code
abbrev y_CS_file : MethodName := ⟨"ChunkStore", "file", "(II)I"⟩
abbrev b_CS_file : ByteArray := prog_1_method_18_code
abbrev y_LW_chunk : MethodName := ⟨"ChunkStoreLaw", "chunk", "(LChunkStore;II[J)I"⟩
abbrev b_LW_chunk : ByteArray := method_19_code
abbrev y_CS_chunk : MethodName := ⟨"ChunkStore", "chunk", "(II)I"⟩
abbrev b_CS_chunk : ByteArray := prog_1_method_19_code
abbrev y_MD_init : MethodName := ⟨"ChunkStoreModel", "<init>", "()V"⟩
abbrev b_MD_init : ByteArray := prog_7_method_1_code
abbrev y_MD_thrown : MethodName := ⟨"ChunkStoreModel", "thrown", "()I"⟩
abbrev b_MD_thrown : ByteArray := prog_7_method_2_code
abbrev y_MD_create : MethodName := ⟨"ChunkStoreModel", "create", "(I)I"⟩
abbrev b_MD_create : ByteArray := prog_7_method_5_code
abbrev y_MD_out : MethodName := ⟨"ChunkStoreModel", "out", "(II)Z"⟩
abbrev b_MD_out : ByteArray := prog_7_method_4_code
abbrev y_MD_fail : MethodName := ⟨"ChunkStoreModel", "fail", "(I)I"⟩
abbrev b_MD_fail : ByteArray := prog_7_method_3_code
abbrev y_MD_remove : MethodName := ⟨"ChunkStoreModel", "remove", "(I)I"⟩
abbrev b_MD_remove : ByteArray := prog_7_method_6_code
abbrev y_MD_restore : MethodName := ⟨"ChunkStoreModel", "restore", "(I)I"⟩
abbrev b_MD_restore : ByteArray := prog_7_method_7_code
abbrev y_MD_copy : MethodName := ⟨"ChunkStoreModel", "copy", "(II)I"⟩
abbrev b_MD_copy : ByteArray := prog_7_method_8_code
abbrev y_MD_extend : MethodName := ⟨"ChunkStoreModel", "extend", "(I)I"⟩
abbrev b_MD_extend : ByteArray := prog_7_method_17_code
abbrev y_MD_makeChunk : MethodName := ⟨"ChunkStoreModel", "makeChunk", "(I)I"⟩
abbrev b_MD_makeChunk : ByteArray := prog_7_method_16_code
abbrev y_MD_choose : MethodName := ⟨"ChunkStoreModel", "choose", "(II)I"⟩
abbrev b_MD_choose : ByteArray := prog_7_method_11_code
abbrev y_MD_loadOf : MethodName := ⟨"ChunkStoreModel", "loadOf", "(I)I"⟩
abbrev b_MD_loadOf : ByteArray := prog_7_method_10_code
abbrev y_MD_place : MethodName := ⟨"ChunkStoreModel", "place", "(III)V"⟩
abbrev b_MD_place : ByteArray := prog_7_method_15_code
abbrev y_MD_locate : MethodName := ⟨"ChunkStoreModel", "locate", "(III)I"⟩
abbrev b_MD_locate : ByteArray := prog_7_method_19_code
abbrev y_MD_find : MethodName := ⟨"ChunkStoreModel", "find", "(III)I"⟩
abbrev b_MD_find : ByteArray := prog_7_method_18_code
abbrev y_MD_write : MethodName := ⟨"ChunkStoreModel", "write", "(IIII)I"⟩
abbrev b_MD_write : ByteArray := prog_7_method_22_code
abbrev y_MD_takeLease : MethodName := ⟨"ChunkStoreModel", "takeLease", "(II)I"⟩
abbrev b_MD_takeLease : ByteArray := prog_7_method_20_code
abbrev y_MD_live : MethodName := ⟨"ChunkStoreModel", "live", "(I)I"⟩
abbrev b_MD_live : ByteArray := prog_7_method_12_code
abbrev y_MD_refs : MethodName := ⟨"ChunkStoreModel", "refs", "(I)I"⟩
abbrev b_MD_refs : ByteArray := prog_7_method_9_code
abbrev y_MD_store : MethodName := ⟨"ChunkStoreModel", "store", "(III)V"⟩
abbrev b_MD_store : ByteArray := prog_7_method_21_code
abbrev y_MD_append : MethodName := ⟨"ChunkStoreModel", "append", "(II)I"⟩
abbrev b_MD_append : ByteArray := prog_7_method_24_code
abbrev y_MD_usedIn : MethodName := ⟨"ChunkStoreModel", "usedIn", "(I)I"⟩
abbrev b_MD_usedIn : ByteArray := prog_7_method_23_code
abbrev y_MD_first : MethodName := ⟨"ChunkStoreModel", "first", "(I)I"⟩
abbrev b_MD_first : ByteArray := prog_7_method_14_code
abbrev y_MD_read : MethodName := ⟨"ChunkStoreModel", "read", "(IIIII)I"⟩
abbrev b_MD_read : ByteArray := prog_7_method_25_code
abbrev y_MD_up : MethodName := ⟨"ChunkStoreModel", "up", "(IZ)I"⟩
abbrev b_MD_up : ByteArray := prog_7_method_26_code
abbrev y_MD_report : MethodName := ⟨"ChunkStoreModel", "report", "(I)I"⟩
abbrev b_MD_report : ByteArray := prog_7_method_27_code
abbrev y_MD_repair : MethodName := ⟨"ChunkStoreModel", "repair", "()I"⟩
abbrev b_MD_repair : ByteArray := prog_7_method_28_code
abbrev y_MD_ones : MethodName := ⟨"ChunkStoreModel", "ones", "(I)I"⟩
abbrev b_MD_ones : ByteArray := prog_7_method_13_code
abbrev y_MD_sweep : MethodName := ⟨"ChunkStoreModel", "sweep", "()I"⟩
abbrev b_MD_sweep : ByteArray := prog_7_method_29_code
abbrev y_MD_tick : MethodName := ⟨"ChunkStoreModel", "tick", "(D)D"⟩
abbrev b_MD_tick : ByteArray := prog_7_method_30_code
abbrev y_MD_load : MethodName := ⟨"ChunkStoreModel", "load", "()D"⟩
abbrev b_MD_load : ByteArray := prog_7_method_31_code
abbrev y_MD_look : MethodName := ⟨"ChunkStoreModel", "look", "(III)I"⟩
abbrev b_MD_look : ByteArray := prog_7_method_32_code
abbrev y_MD_file : MethodName := ⟨"ChunkStoreModel", "file", "(II)I"⟩
abbrev b_MD_file : ByteArray := prog_7_method_33_code
abbrev y_MD_chunk : MethodName := ⟨"ChunkStoreModel", "chunk", "(II)I"⟩
abbrev b_MD_chunk : ByteArray := prog_7_method_34_code
theorem kw0 : Cond.initialized "ChunkStoreLaw" ∈ xT := xT_in (List.mem_append_right _ (List.mem_append_left _ (List.mem_of_getElem? (i := 0) rfl)) : _ ∈ lw_tbl) rfl
theorem kw1 : Cond.initialized "ChunkStore" ∈ xT := xT_in (List.mem_append_right _ (List.mem_append_left _ (List.mem_of_getElem? (i := 1) rfl)) : _ ∈ lw_tbl) rfl
theorem kw2 : Cond.initialized "ChunkStore$FileEntry" ∈ xT := xT_in (List.mem_append_right _ (List.mem_append_left _ (List.mem_of_getElem? (i := 2) rfl)) : _ ∈ lw_tbl) rfl
theorem kw3 : Cond.initialized "ChunkStore$Chunk" ∈ xT := xT_in (List.mem_append_right _ (List.mem_append_left _ (List.mem_of_getElem? (i := 3) rfl)) : _ ∈ lw_tbl) rfl
theorem kw4 : Cond.initialized "ChunkStore$Server" ∈ xT := xT_in (List.mem_append_right _ (List.mem_append_left _ (List.mem_of_getElem? (i := 4) rfl)) : _ ∈ lw_tbl) rfl
theorem kw5 : Cond.initialized "ChunkStore$Kept" ∈ xT := xT_in (List.mem_append_right _ (List.mem_append_left _ (List.mem_of_getElem? (i := 5) rfl)) : _ ∈ lw_tbl) rfl
theorem kw6 : Cond.initialized "ChunkStoreModel" ∈ xT := xT_in (List.mem_append_right _ (List.mem_append_left _ (List.mem_of_getElem? (i := 6) rfl)) : _ ∈ lw_tbl) rfl
theorem kw7 : Cond.initialized "java/lang/Throwable" ∈ xT := xT_in (List.mem_append_right _ (List.mem_append_left _ (List.mem_of_getElem? (i := 7) rfl)) : _ ∈ lw_tbl) rfl
theorem kw8 : Cond.initialized "java/lang/Exception" ∈ xT := xT_in (List.mem_append_right _ (List.mem_append_left _ (List.mem_of_getElem? (i := 8) rfl)) : _ ∈ lw_tbl) rfl
theorem kw9 : Cond.initialized "java/lang/RuntimeException" ∈ xT := xT_in (List.mem_append_right _ (List.mem_append_left _ (List.mem_of_getElem? (i := 9) rfl)) : _ ∈ lw_tbl) rfl
theorem kw10 : Cond.initialized "java/lang/IllegalArgumentException" ∈ xT := xT_in (List.mem_append_right _ (List.mem_append_left _ (List.mem_of_getElem? (i := 10) rfl)) : _ ∈ lw_tbl) rfl
theorem kw11 : Cond.initialized "java/lang/IllegalStateException" ∈ xT := xT_in (List.mem_append_right _ (List.mem_append_left _ (List.mem_of_getElem? (i := 11) rfl)) : _ ∈ lw_tbl) rfl
theorem kw12 : Cond.initialized "java/util/NoSuchElementException" ∈ xT := xT_in (List.mem_append_right _ (List.mem_append_left _ (List.mem_of_getElem? (i := 12) rfl)) : _ ∈ lw_tbl) rfl
theorem kw13 : Cond.initialized "java/lang/IndexOutOfBoundsException" ∈ xT := xT_in (List.mem_append_right _ (List.mem_append_left _ (List.mem_of_getElem? (i := 13) rfl)) : _ ∈ lw_tbl) rfl
theorem kw14 : Cond.initialized "java/lang/UnsupportedOperationException" ∈ xT := xT_in (List.mem_append_right _ (List.mem_append_left _ (List.mem_of_getElem? (i := 14) rfl)) : _ ∈ lw_tbl) rfl
theorem kw15 : Cond.initialized "java/lang/Math" ∈ xT := xT_in (List.mem_append_right _ (List.mem_append_left _ (List.mem_of_getElem? (i := 15) rfl)) : _ ∈ lw_tbl) rfl
theorem kw16 : Cond.initialized "java/lang/Integer" ∈ xT := xT_in (List.mem_append_right _ (List.mem_append_left _ (List.mem_of_getElem? (i := 16) rfl)) : _ ∈ lw_tbl) rfl
theorem kw17 : Cond.initialized "java/lang/ArithmeticException" ∈ xT := xT_in (List.mem_append_right _ (List.mem_append_left _ (List.mem_of_getElem? (i := 17) rfl)) : _ ∈ lw_tbl) rfl
theorem kw18 : Cond.classLink "ChunkStoreLaw" 8 "ChunkStore" ∈ xT := xT_in (List.mem_append_right _ (List.mem_append_left _ (List.mem_of_getElem? (i := 18) rfl)) : _ ∈ lw_tbl) rfl
theorem kw19 : Cond.instantiable "ChunkStore" 6 ∈ xT := xT_in (List.mem_append_right _ (List.mem_append_left _ (List.mem_of_getElem? (i := 19) rfl)) : _ ∈ lw_tbl) rfl
theorem kw20 : Cond.methodLink "ChunkStoreLaw" 81 (⟨"ChunkStore", "<init>", "()V"⟩ : MethodName) ∈ xT := xT_in (List.mem_append_right _ (List.mem_append_left _ (List.mem_of_getElem? (i := 20) rfl)) : _ ∈ lw_tbl) rfl
theorem kw21 : Cond.instanceMethod (⟨"ChunkStore", "<init>", "()V"⟩ : MethodName) ∈ xT := xT_in (List.mem_append_right _ (List.mem_append_left _ (List.mem_of_getElem? (i := 21) rfl)) : _ ∈ lw_tbl) rfl
theorem kw22 : Cond.code (⟨"ChunkStore", "<init>", "()V"⟩ : MethodName) prog_1_method_1_code 2 none ∈ xT := xT_in (List.mem_append_right _ (List.mem_append_left _ (List.mem_of_getElem? (i := 22) rfl)) : _ ∈ lw_tbl) rfl
theorem kw23 : Cond.methodLink "ChunkStore" 3 (⟨"java/lang/Object", "<init>", "()V"⟩ : MethodName) ∈ xT := xT_in (List.mem_append_right _ (List.mem_append_left _ (List.mem_of_getElem? (i := 23) rfl)) : _ ∈ lw_tbl) rfl
theorem kw24 : Cond.instanceMethod (⟨"java/lang/Object", "<init>", "()V"⟩ : MethodName) ∈ xT := xT_in (List.mem_append_right _ (List.mem_append_left _ (List.mem_of_getElem? (i := 24) rfl)) : _ ∈ lw_tbl) rfl
theorem kw25 : Cond.code (⟨"java/lang/Object", "<init>", "()V"⟩ : MethodName) object_method_1_code 1 none ∈ xT := xT_in (List.mem_append_right _ (List.mem_append_left _ (List.mem_of_getElem? (i := 25) rfl)) : _ ∈ lw_tbl) rfl
theorem kw26 : Cond.classLink "ChunkStore" 9 "ChunkStore$FileEntry" ∈ xT := xT_in (List.mem_append_right _ (List.mem_append_left _ (List.mem_of_getElem? (i := 26) rfl)) : _ ∈ lw_tbl) rfl
theorem kw28 : Cond.instantiable "ChunkStore$FileEntry" 4 ∈ xT := xT_in (List.mem_append_right _ (List.mem_append_left _ (List.mem_of_getElem? (i := 28) rfl)) : _ ∈ lw_tbl) rfl
theorem kn29 : Cond.methodLinkNest "ChunkStore" 15 (⟨"ChunkStore$FileEntry", "<init>", "()V"⟩ : MethodName) "ChunkStore" ∈ xN := xN_in (List.mem_append_right _ (List.mem_append_left _ (List.mem_of_getElem? (i := 29) rfl)) : _ ∈ lw_tbl) rfl
theorem kw30 : Cond.instanceMethod (⟨"ChunkStore$FileEntry", "<init>", "()V"⟩ : MethodName) ∈ xT := xT_in (List.mem_append_right _ (List.mem_append_left _ (List.mem_of_getElem? (i := 30) rfl)) : _ ∈ lw_tbl) rfl
theorem kw31 : Cond.code (⟨"ChunkStore$FileEntry", "<init>", "()V"⟩ : MethodName) prog_3_method_1_code 1 none ∈ xT := xT_in (List.mem_append_right _ (List.mem_append_left _ (List.mem_of_getElem? (i := 31) rfl)) : _ ∈ lw_tbl) rfl
theorem kw32 : Cond.methodLink "ChunkStore$FileEntry" 3 (⟨"java/lang/Object", "<init>", "()V"⟩ : MethodName) ∈ xT := xT_in (List.mem_append_right _ (List.mem_append_left _ (List.mem_of_getElem? (i := 32) rfl)) : _ ∈ lw_tbl) rfl
theorem kw33 : Cond.fieldLink "ChunkStore$FileEntry" 9 "ChunkStore$FileEntry" "row" "[I" ∈ xT := xT_in (List.mem_append_right _ (List.mem_append_left _ (List.mem_of_getElem? (i := 33) rfl)) : _ ∈ lw_tbl) rfl
theorem kn34 : Cond.fieldLinkNest "ChunkStore" 73 "ChunkStore$FileEntry" "row" "[I" "ChunkStore" ∈ xN := xN_in (List.mem_append_right _ (List.mem_append_left _ (List.mem_of_getElem? (i := 34) rfl)) : _ ∈ lw_tbl) rfl
theorem kw35 : Cond.fieldLink "ChunkStore$FileEntry" 15 "ChunkStore$FileEntry" "count" "I" ∈ xT := xT_in (List.mem_append_right _ (List.mem_append_left _ (List.mem_of_getElem? (i := 35) rfl)) : _ ∈ lw_tbl) rfl
theorem kn36 : Cond.fieldLinkNest "ChunkStore" 63 "ChunkStore$FileEntry" "count" "I" "ChunkStore" ∈ xN := xN_in (List.mem_append_right _ (List.mem_append_left _ (List.mem_of_getElem? (i := 36) rfl)) : _ ∈ lw_tbl) rfl
theorem kn37 : Cond.fieldLinkNest "ChunkStore" 45 "ChunkStore$FileEntry" "state" "I" "ChunkStore" ∈ xN := xN_in (List.mem_append_right _ (List.mem_append_left _ (List.mem_of_getElem? (i := 37) rfl)) : _ ∈ lw_tbl) rfl
theorem kn38 : Cond.fieldLinkNest "ChunkStore" 60 "ChunkStore$FileEntry" "hiddenSince" "D" "ChunkStore" ∈ xN := xN_in (List.mem_append_right _ (List.mem_append_left _ (List.mem_of_getElem? (i := 38) rfl)) : _ ∈ lw_tbl) rfl
theorem kw39 : Cond.laysFinal "ChunkStore$FileEntry" "ChunkStore$FileEntry" "row" "[I" ∈ xT := xT_in (List.mem_append_right _ (List.mem_append_left _ (List.mem_of_getElem? (i := 39) rfl)) : _ ∈ lw_tbl) rfl
theorem kw40 : Cond.soleField "ChunkStore$FileEntry" "row" ∈ xT := xT_in (List.mem_append_right _ (List.mem_append_left _ (List.mem_of_getElem? (i := 40) rfl)) : _ ∈ lw_tbl) rfl
theorem kw41 : Cond.lays "ChunkStore$FileEntry" "ChunkStore$FileEntry" "count" "I" ∈ xT := xT_in (List.mem_append_right _ (List.mem_append_left _ (List.mem_of_getElem? (i := 41) rfl)) : _ ∈ lw_tbl) rfl
theorem kw42 : Cond.soleField "ChunkStore$FileEntry" "count" ∈ xT := xT_in (List.mem_append_right _ (List.mem_append_left _ (List.mem_of_getElem? (i := 42) rfl)) : _ ∈ lw_tbl) rfl
theorem kw43 : Cond.lays "ChunkStore$FileEntry" "ChunkStore$FileEntry" "state" "I" ∈ xT := xT_in (List.mem_append_right _ (List.mem_append_left _ (List.mem_of_getElem? (i := 43) rfl)) : _ ∈ lw_tbl) rfl
theorem kw44 : Cond.soleField "ChunkStore$FileEntry" "state" ∈ xT := xT_in (List.mem_append_right _ (List.mem_append_left _ (List.mem_of_getElem? (i := 44) rfl)) : _ ∈ lw_tbl) rfl
theorem kw45 : Cond.lays "ChunkStore$FileEntry" "ChunkStore$FileEntry" "hiddenSince" "D" ∈ xT := xT_in (List.mem_append_right _ (List.mem_append_left _ (List.mem_of_getElem? (i := 45) rfl)) : _ ∈ lw_tbl) rfl
theorem kw46 : Cond.soleField "ChunkStore$FileEntry" "hiddenSince" ∈ xT := xT_in (List.mem_append_right _ (List.mem_append_left _ (List.mem_of_getElem? (i := 46) rfl)) : _ ∈ lw_tbl) rfl
theorem kw47 : Cond.superclass "ChunkStore$FileEntry" "java/lang/Object" ∈ xT := xT_in (List.mem_append_right _ (List.mem_append_left _ (List.mem_of_getElem? (i := 47) rfl)) : _ ∈ lw_tbl) rfl
theorem kw49 : Cond.classLink "ChunkStore" 16 "ChunkStore$Chunk" ∈ xT := xT_in (List.mem_append_right _ (List.mem_append_left _ (List.mem_of_getElem? (i := 49) rfl)) : _ ∈ lw_tbl) rfl
theorem kw51 : Cond.instantiable "ChunkStore$Chunk" 4 ∈ xT := xT_in (List.mem_append_right _ (List.mem_append_left _ (List.mem_of_getElem? (i := 51) rfl)) : _ ∈ lw_tbl) rfl
theorem kn52 : Cond.methodLinkNest "ChunkStore" 22 (⟨"ChunkStore$Chunk", "<init>", "()V"⟩ : MethodName) "ChunkStore" ∈ xN := xN_in (List.mem_append_right _ (List.mem_append_left _ (List.mem_of_getElem? (i := 52) rfl)) : _ ∈ lw_tbl) rfl
theorem kw53 : Cond.instanceMethod (⟨"ChunkStore$Chunk", "<init>", "()V"⟩ : MethodName) ∈ xT := xT_in (List.mem_append_right _ (List.mem_append_left _ (List.mem_of_getElem? (i := 53) rfl)) : _ ∈ lw_tbl) rfl
theorem kw54 : Cond.code (⟨"ChunkStore$Chunk", "<init>", "()V"⟩ : MethodName) prog_2_method_1_code 1 none ∈ xT := xT_in (List.mem_append_right _ (List.mem_append_left _ (List.mem_of_getElem? (i := 54) rfl)) : _ ∈ lw_tbl) rfl
theorem kw55 : Cond.methodLink "ChunkStore$Chunk" 1 (⟨"java/lang/Object", "<init>", "()V"⟩ : MethodName) ∈ xT := xT_in (List.mem_append_right _ (List.mem_append_left _ (List.mem_of_getElem? (i := 55) rfl)) : _ ∈ lw_tbl) rfl
theorem kn56 : Cond.fieldLinkNest "ChunkStore" 110 "ChunkStore$Chunk" "version" "I" "ChunkStore" ∈ xN := xN_in (List.mem_append_right _ (List.mem_append_left _ (List.mem_of_getElem? (i := 56) rfl)) : _ ∈ lw_tbl) rfl
theorem kn57 : Cond.fieldLinkNest "ChunkStore" 80 "ChunkStore$Chunk" "refs" "I" "ChunkStore" ∈ xN := xN_in (List.mem_append_right _ (List.mem_append_left _ (List.mem_of_getElem? (i := 57) rfl)) : _ ∈ lw_tbl) rfl
theorem kn58 : Cond.fieldLinkNest "ChunkStore" 179 "ChunkStore$Chunk" "holders" "I" "ChunkStore" ∈ xN := xN_in (List.mem_append_right _ (List.mem_append_left _ (List.mem_of_getElem? (i := 58) rfl)) : _ ∈ lw_tbl) rfl
theorem kn59 : Cond.fieldLinkNest "ChunkStore" 77 "ChunkStore$Chunk" "leaseEnd" "D" "ChunkStore" ∈ xN := xN_in (List.mem_append_right _ (List.mem_append_left _ (List.mem_of_getElem? (i := 59) rfl)) : _ ∈ lw_tbl) rfl
theorem kw60 : Cond.lays "ChunkStore$Chunk" "ChunkStore$Chunk" "version" "I" ∈ xT := xT_in (List.mem_append_right _ (List.mem_append_left _ (List.mem_of_getElem? (i := 60) rfl)) : _ ∈ lw_tbl) rfl
theorem kw61 : Cond.soleField "ChunkStore$Chunk" "version" ∈ xT := xT_in (List.mem_append_right _ (List.mem_append_left _ (List.mem_of_getElem? (i := 61) rfl)) : _ ∈ lw_tbl) rfl
theorem kw62 : Cond.lays "ChunkStore$Chunk" "ChunkStore$Chunk" "refs" "I" ∈ xT := xT_in (List.mem_append_right _ (List.mem_append_left _ (List.mem_of_getElem? (i := 62) rfl)) : _ ∈ lw_tbl) rfl
theorem kw63 : Cond.soleField "ChunkStore$Chunk" "refs" ∈ xT := xT_in (List.mem_append_right _ (List.mem_append_left _ (List.mem_of_getElem? (i := 63) rfl)) : _ ∈ lw_tbl) rfl
theorem kw64 : Cond.lays "ChunkStore$Chunk" "ChunkStore$Chunk" "holders" "I" ∈ xT := xT_in (List.mem_append_right _ (List.mem_append_left _ (List.mem_of_getElem? (i := 64) rfl)) : _ ∈ lw_tbl) rfl
theorem kw65 : Cond.soleField "ChunkStore$Chunk" "holders" ∈ xT := xT_in (List.mem_append_right _ (List.mem_append_left _ (List.mem_of_getElem? (i := 65) rfl)) : _ ∈ lw_tbl) rfl
theorem kw66 : Cond.lays "ChunkStore$Chunk" "ChunkStore$Chunk" "leaseEnd" "D" ∈ xT := xT_in (List.mem_append_right _ (List.mem_append_left _ (List.mem_of_getElem? (i := 66) rfl)) : _ ∈ lw_tbl) rfl
theorem kw67 : Cond.soleField "ChunkStore$Chunk" "leaseEnd" ∈ xT := xT_in (List.mem_append_right _ (List.mem_append_left _ (List.mem_of_getElem? (i := 67) rfl)) : _ ∈ lw_tbl) rfl
theorem kw68 : Cond.superclass "ChunkStore$Chunk" "java/lang/Object" ∈ xT := xT_in (List.mem_append_right _ (List.mem_append_left _ (List.mem_of_getElem? (i := 68) rfl)) : _ ∈ lw_tbl) rfl
theorem kw69 : Cond.classLink "ChunkStore" 23 "ChunkStore$Server" ∈ xT := xT_in (List.mem_append_right _ (List.mem_append_left _ (List.mem_of_getElem? (i := 69) rfl)) : _ ∈ lw_tbl) rfl
theorem kw71 : Cond.instantiable "ChunkStore$Server" 5 ∈ xT := xT_in (List.mem_append_right _ (List.mem_append_left _ (List.mem_of_getElem? (i := 71) rfl)) : _ ∈ lw_tbl) rfl
theorem kn72 : Cond.methodLinkNest "ChunkStore" 29 (⟨"ChunkStore$Server", "<init>", "()V"⟩ : MethodName) "ChunkStore" ∈ xN := xN_in (List.mem_append_right _ (List.mem_append_left _ (List.mem_of_getElem? (i := 72) rfl)) : _ ∈ lw_tbl) rfl
theorem kw73 : Cond.instanceMethod (⟨"ChunkStore$Server", "<init>", "()V"⟩ : MethodName) ∈ xT := xT_in (List.mem_append_right _ (List.mem_append_left _ (List.mem_of_getElem? (i := 73) rfl)) : _ ∈ lw_tbl) rfl
theorem kw74 : Cond.code (⟨"ChunkStore$Server", "<init>", "()V"⟩ : MethodName) prog_5_method_1_code 1 none ∈ xT := xT_in (List.mem_append_right _ (List.mem_append_left _ (List.mem_of_getElem? (i := 74) rfl)) : _ ∈ lw_tbl) rfl
theorem kw75 : Cond.methodLink "ChunkStore$Server" 3 (⟨"java/lang/Object", "<init>", "()V"⟩ : MethodName) ∈ xT := xT_in (List.mem_append_right _ (List.mem_append_left _ (List.mem_of_getElem? (i := 75) rfl)) : _ ∈ lw_tbl) rfl
theorem kw76 : Cond.fieldLink "ChunkStore$Server" 9 "ChunkStore$Server" "versions" "[I" ∈ xT := xT_in (List.mem_append_right _ (List.mem_append_left _ (List.mem_of_getElem? (i := 76) rfl)) : _ ∈ lw_tbl) rfl
theorem kn77 : Cond.fieldLinkNest "ChunkStore" 131 "ChunkStore$Server" "versions" "[I" "ChunkStore" ∈ xN := xN_in (List.mem_append_right _ (List.mem_append_left _ (List.mem_of_getElem? (i := 77) rfl)) : _ ∈ lw_tbl) rfl
theorem kw78 : Cond.fieldLink "ChunkStore$Server" 15 "ChunkStore$Server" "used" "[I" ∈ xT := xT_in (List.mem_append_right _ (List.mem_append_left _ (List.mem_of_getElem? (i := 78) rfl)) : _ ∈ lw_tbl) rfl
theorem kn79 : Cond.fieldLinkNest "ChunkStore" 200 "ChunkStore$Server" "used" "[I" "ChunkStore" ∈ xN := xN_in (List.mem_append_right _ (List.mem_append_left _ (List.mem_of_getElem? (i := 79) rfl)) : _ ∈ lw_tbl) rfl
theorem kw80 : Cond.fieldLink "ChunkStore$Server" 18 "ChunkStore$Server" "words" "[I" ∈ xT := xT_in (List.mem_append_right _ (List.mem_append_left _ (List.mem_of_getElem? (i := 80) rfl)) : _ ∈ lw_tbl) rfl
theorem kw81 : Cond.fieldLink "ChunkStore$Server" 21 "ChunkStore$Server" "isUp" "Z" ∈ xT := xT_in (List.mem_append_right _ (List.mem_append_left _ (List.mem_of_getElem? (i := 81) rfl)) : _ ∈ lw_tbl) rfl
theorem kn82 : Cond.fieldLinkNest "ChunkStore" 127 "ChunkStore$Server" "isUp" "Z" "ChunkStore" ∈ xN := xN_in (List.mem_append_right _ (List.mem_append_left _ (List.mem_of_getElem? (i := 82) rfl)) : _ ∈ lw_tbl) rfl
theorem kw83 : Cond.fieldLink "ChunkStore$Server" 25 "ChunkStore$Server" "replicas" "I" ∈ xT := xT_in (List.mem_append_right _ (List.mem_append_left _ (List.mem_of_getElem? (i := 83) rfl)) : _ ∈ lw_tbl) rfl
theorem kn84 : Cond.fieldLinkNest "ChunkStore" 146 "ChunkStore$Server" "replicas" "I" "ChunkStore" ∈ xN := xN_in (List.mem_append_right _ (List.mem_append_left _ (List.mem_of_getElem? (i := 84) rfl)) : _ ∈ lw_tbl) rfl
theorem kw85 : Cond.laysFinal "ChunkStore$Server" "ChunkStore$Server" "versions" "[I" ∈ xT := xT_in (List.mem_append_right _ (List.mem_append_left _ (List.mem_of_getElem? (i := 85) rfl)) : _ ∈ lw_tbl) rfl
theorem kw86 : Cond.soleField "ChunkStore$Server" "versions" ∈ xT := xT_in (List.mem_append_right _ (List.mem_append_left _ (List.mem_of_getElem? (i := 86) rfl)) : _ ∈ lw_tbl) rfl
theorem kw87 : Cond.laysFinal "ChunkStore$Server" "ChunkStore$Server" "used" "[I" ∈ xT := xT_in (List.mem_append_right _ (List.mem_append_left _ (List.mem_of_getElem? (i := 87) rfl)) : _ ∈ lw_tbl) rfl
theorem kw88 : Cond.soleField "ChunkStore$Server" "used" ∈ xT := xT_in (List.mem_append_right _ (List.mem_append_left _ (List.mem_of_getElem? (i := 88) rfl)) : _ ∈ lw_tbl) rfl
theorem kw89 : Cond.laysFinal "ChunkStore$Server" "ChunkStore$Server" "words" "[I" ∈ xT := xT_in (List.mem_append_right _ (List.mem_append_left _ (List.mem_of_getElem? (i := 89) rfl)) : _ ∈ lw_tbl) rfl
theorem kw90 : Cond.soleField "ChunkStore$Server" "words" ∈ xT := xT_in (List.mem_append_right _ (List.mem_append_left _ (List.mem_of_getElem? (i := 90) rfl)) : _ ∈ lw_tbl) rfl
theorem kw91 : Cond.lays "ChunkStore$Server" "ChunkStore$Server" "isUp" "Z" ∈ xT := xT_in (List.mem_append_right _ (List.mem_append_left _ (List.mem_of_getElem? (i := 91) rfl)) : _ ∈ lw_tbl) rfl
theorem kw92 : Cond.soleField "ChunkStore$Server" "isUp" ∈ xT := xT_in (List.mem_append_right _ (List.mem_append_left _ (List.mem_of_getElem? (i := 92) rfl)) : _ ∈ lw_tbl) rfl
theorem kw93 : Cond.lays "ChunkStore$Server" "ChunkStore$Server" "replicas" "I" ∈ xT := xT_in (List.mem_append_right _ (List.mem_append_left _ (List.mem_of_getElem? (i := 93) rfl)) : _ ∈ lw_tbl) rfl
theorem kw94 : Cond.soleField "ChunkStore$Server" "replicas" ∈ xT := xT_in (List.mem_append_right _ (List.mem_append_left _ (List.mem_of_getElem? (i := 94) rfl)) : _ ∈ lw_tbl) rfl
theorem kw95 : Cond.superclass "ChunkStore$Server" "java/lang/Object" ∈ xT := xT_in (List.mem_append_right _ (List.mem_append_left _ (List.mem_of_getElem? (i := 95) rfl)) : _ ∈ lw_tbl) rfl
theorem kw96 : Cond.classLink "ChunkStore" 30 "ChunkStore$Kept" ∈ xT := xT_in (List.mem_append_right _ (List.mem_append_left _ (List.mem_of_getElem? (i := 96) rfl)) : _ ∈ lw_tbl) rfl
theorem kw98 : Cond.instantiable "ChunkStore$Kept" 4 ∈ xT := xT_in (List.mem_append_right _ (List.mem_append_left _ (List.mem_of_getElem? (i := 98) rfl)) : _ ∈ lw_tbl) rfl
theorem kn99 : Cond.methodLinkNest "ChunkStore" 36 (⟨"ChunkStore$Kept", "<init>", "()V"⟩ : MethodName) "ChunkStore" ∈ xN := xN_in (List.mem_append_right _ (List.mem_append_left _ (List.mem_of_getElem? (i := 99) rfl)) : _ ∈ lw_tbl) rfl
theorem kw100 : Cond.instanceMethod (⟨"ChunkStore$Kept", "<init>", "()V"⟩ : MethodName) ∈ xT := xT_in (List.mem_append_right _ (List.mem_append_left _ (List.mem_of_getElem? (i := 100) rfl)) : _ ∈ lw_tbl) rfl
theorem kw101 : Cond.code (⟨"ChunkStore$Kept", "<init>", "()V"⟩ : MethodName) prog_4_method_1_code 1 none ∈ xT := xT_in (List.mem_append_right _ (List.mem_append_left _ (List.mem_of_getElem? (i := 101) rfl)) : _ ∈ lw_tbl) rfl
theorem kw102 : Cond.methodLink "ChunkStore$Kept" 1 (⟨"java/lang/Object", "<init>", "()V"⟩ : MethodName) ∈ xT := xT_in (List.mem_append_right _ (List.mem_append_left _ (List.mem_of_getElem? (i := 102) rfl)) : _ ∈ lw_tbl) rfl
theorem kn103 : Cond.fieldLinkNest "ChunkStore" 134 "ChunkStore$Kept" "number" "I" "ChunkStore" ∈ xN := xN_in (List.mem_append_right _ (List.mem_append_left _ (List.mem_of_getElem? (i := 103) rfl)) : _ ∈ lw_tbl) rfl
theorem kn104 : Cond.fieldLinkNest "ChunkStore" 95 "ChunkStore$Kept" "version" "I" "ChunkStore" ∈ xN := xN_in (List.mem_append_right _ (List.mem_append_left _ (List.mem_of_getElem? (i := 104) rfl)) : _ ∈ lw_tbl) rfl
theorem kn105 : Cond.fieldLinkNest "ChunkStore" 115 "ChunkStore$Kept" "holders" "I" "ChunkStore" ∈ xN := xN_in (List.mem_append_right _ (List.mem_append_left _ (List.mem_of_getElem? (i := 105) rfl)) : _ ∈ lw_tbl) rfl
theorem kn106 : Cond.fieldLinkNest "ChunkStore" 242 "ChunkStore$Kept" "end" "D" "ChunkStore" ∈ xN := xN_in (List.mem_append_right _ (List.mem_append_left _ (List.mem_of_getElem? (i := 106) rfl)) : _ ∈ lw_tbl) rfl
theorem kw107 : Cond.lays "ChunkStore$Kept" "ChunkStore$Kept" "number" "I" ∈ xT := xT_in (List.mem_append_right _ (List.mem_append_left _ (List.mem_of_getElem? (i := 107) rfl)) : _ ∈ lw_tbl) rfl
theorem kw108 : Cond.soleField "ChunkStore$Kept" "number" ∈ xT := xT_in (List.mem_append_right _ (List.mem_append_left _ (List.mem_of_getElem? (i := 108) rfl)) : _ ∈ lw_tbl) rfl
theorem kw109 : Cond.lays "ChunkStore$Kept" "ChunkStore$Kept" "version" "I" ∈ xT := xT_in (List.mem_append_right _ (List.mem_append_left _ (List.mem_of_getElem? (i := 109) rfl)) : _ ∈ lw_tbl) rfl
theorem kw110 : Cond.soleField "ChunkStore$Kept" "version" ∈ xT := xT_in (List.mem_append_right _ (List.mem_append_left _ (List.mem_of_getElem? (i := 110) rfl)) : _ ∈ lw_tbl) rfl
theorem kw111 : Cond.lays "ChunkStore$Kept" "ChunkStore$Kept" "holders" "I" ∈ xT := xT_in (List.mem_append_right _ (List.mem_append_left _ (List.mem_of_getElem? (i := 111) rfl)) : _ ∈ lw_tbl) rfl
theorem kw112 : Cond.soleField "ChunkStore$Kept" "holders" ∈ xT := xT_in (List.mem_append_right _ (List.mem_append_left _ (List.mem_of_getElem? (i := 112) rfl)) : _ ∈ lw_tbl) rfl
theorem kw113 : Cond.lays "ChunkStore$Kept" "ChunkStore$Kept" "end" "D" ∈ xT := xT_in (List.mem_append_right _ (List.mem_append_left _ (List.mem_of_getElem? (i := 113) rfl)) : _ ∈ lw_tbl) rfl
theorem kw114 : Cond.soleField "ChunkStore$Kept" "end" ∈ xT := xT_in (List.mem_append_right _ (List.mem_append_left _ (List.mem_of_getElem? (i := 114) rfl)) : _ ∈ lw_tbl) rfl
theorem kw115 : Cond.superclass "ChunkStore$Kept" "java/lang/Object" ∈ xT := xT_in (List.mem_append_right _ (List.mem_append_left _ (List.mem_of_getElem? (i := 115) rfl)) : _ ∈ lw_tbl) rfl
theorem kw116 : Cond.fieldLink "ChunkStore" 11 "ChunkStore" "files" "[LChunkStore$FileEntry;" ∈ xT := xT_in (List.mem_append_right _ (List.mem_append_left _ (List.mem_of_getElem? (i := 116) rfl)) : _ ∈ lw_tbl) rfl
theorem kw117 : Cond.fieldLink "ChunkStore" 18 "ChunkStore" "chunks" "[LChunkStore$Chunk;" ∈ xT := xT_in (List.mem_append_right _ (List.mem_append_left _ (List.mem_of_getElem? (i := 117) rfl)) : _ ∈ lw_tbl) rfl
theorem kw118 : Cond.fieldLink "ChunkStore" 25 "ChunkStore" "servers" "[LChunkStore$Server;" ∈ xT := xT_in (List.mem_append_right _ (List.mem_append_left _ (List.mem_of_getElem? (i := 118) rfl)) : _ ∈ lw_tbl) rfl
theorem kw119 : Cond.fieldLink "ChunkStore" 32 "ChunkStore" "keeps" "[LChunkStore$Kept;" ∈ xT := xT_in (List.mem_append_right _ (List.mem_append_left _ (List.mem_of_getElem? (i := 119) rfl)) : _ ∈ lw_tbl) rfl
theorem kw120 : Cond.fieldLink "ChunkStore" 151 "ChunkStore" "made" "I" ∈ xT := xT_in (List.mem_append_right _ (List.mem_append_left _ (List.mem_of_getElem? (i := 120) rfl)) : _ ∈ lw_tbl) rfl
theorem kw121 : Cond.fieldLink "ChunkStore" 56 "ChunkStore" "time" "D" ∈ xT := xT_in (List.mem_append_right _ (List.mem_append_left _ (List.mem_of_getElem? (i := 121) rfl)) : _ ∈ lw_tbl) rfl
theorem kw122 : Cond.laysFinal "ChunkStore" "ChunkStore" "files" "[LChunkStore$FileEntry;" ∈ xT := xT_in (List.mem_append_right _ (List.mem_append_left _ (List.mem_of_getElem? (i := 122) rfl)) : _ ∈ lw_tbl) rfl
theorem kw123 : Cond.soleField "ChunkStore" "files" ∈ xT := xT_in (List.mem_append_right _ (List.mem_append_left _ (List.mem_of_getElem? (i := 123) rfl)) : _ ∈ lw_tbl) rfl
theorem kw124 : Cond.laysFinal "ChunkStore" "ChunkStore" "chunks" "[LChunkStore$Chunk;" ∈ xT := xT_in (List.mem_append_right _ (List.mem_append_left _ (List.mem_of_getElem? (i := 124) rfl)) : _ ∈ lw_tbl) rfl
theorem kw125 : Cond.soleField "ChunkStore" "chunks" ∈ xT := xT_in (List.mem_append_right _ (List.mem_append_left _ (List.mem_of_getElem? (i := 125) rfl)) : _ ∈ lw_tbl) rfl
theorem kw126 : Cond.laysFinal "ChunkStore" "ChunkStore" "servers" "[LChunkStore$Server;" ∈ xT := xT_in (List.mem_append_right _ (List.mem_append_left _ (List.mem_of_getElem? (i := 126) rfl)) : _ ∈ lw_tbl) rfl
theorem kw127 : Cond.soleField "ChunkStore" "servers" ∈ xT := xT_in (List.mem_append_right _ (List.mem_append_left _ (List.mem_of_getElem? (i := 127) rfl)) : _ ∈ lw_tbl) rfl
theorem kw128 : Cond.laysFinal "ChunkStore" "ChunkStore" "keeps" "[LChunkStore$Kept;" ∈ xT := xT_in (List.mem_append_right _ (List.mem_append_left _ (List.mem_of_getElem? (i := 128) rfl)) : _ ∈ lw_tbl) rfl
theorem kw129 : Cond.soleField "ChunkStore" "keeps" ∈ xT := xT_in (List.mem_append_right _ (List.mem_append_left _ (List.mem_of_getElem? (i := 129) rfl)) : _ ∈ lw_tbl) rfl
theorem kw130 : Cond.lays "ChunkStore" "ChunkStore" "made" "I" ∈ xT := xT_in (List.mem_append_right _ (List.mem_append_left _ (List.mem_of_getElem? (i := 130) rfl)) : _ ∈ lw_tbl) rfl
theorem kw131 : Cond.soleField "ChunkStore" "made" ∈ xT := xT_in (List.mem_append_right _ (List.mem_append_left _ (List.mem_of_getElem? (i := 131) rfl)) : _ ∈ lw_tbl) rfl
theorem kw132 : Cond.lays "ChunkStore" "ChunkStore" "time" "D" ∈ xT := xT_in (List.mem_append_right _ (List.mem_append_left _ (List.mem_of_getElem? (i := 132) rfl)) : _ ∈ lw_tbl) rfl
theorem kw133 : Cond.soleField "ChunkStore" "time" ∈ xT := xT_in (List.mem_append_right _ (List.mem_append_left _ (List.mem_of_getElem? (i := 133) rfl)) : _ ∈ lw_tbl) rfl
theorem kw134 : Cond.superclass "ChunkStore" "java/lang/Object" ∈ xT := xT_in (List.mem_append_right _ (List.mem_append_left _ (List.mem_of_getElem? (i := 134) rfl)) : _ ∈ lw_tbl) rfl
theorem kw135 : Cond.methodLink "ChunkStoreLaw" 133 (⟨"ChunkStore", "sweep", "()I"⟩ : MethodName) ∈ xT := xT_in (List.mem_append_right _ (List.mem_append_left _ (List.mem_of_getElem? (i := 135) rfl)) : _ ∈ lw_tbl) rfl
theorem kw136 : Cond.instanceMethod (⟨"ChunkStore", "sweep", "()I"⟩ : MethodName) ∈ xT := xT_in (List.mem_append_right _ (List.mem_append_left _ (List.mem_of_getElem? (i := 136) rfl)) : _ ∈ lw_tbl) rfl
theorem kw137 : Cond.selects "ChunkStore" (⟨"ChunkStore", "sweep", "()I"⟩ : MethodName) (⟨"ChunkStore", "sweep", "()I"⟩ : MethodName) ∈ xT := xT_in (List.mem_append_right _ (List.mem_append_left _ (List.mem_of_getElem? (i := 137) rfl)) : _ ∈ lw_tbl) rfl
theorem kw138 : Cond.code (⟨"ChunkStore", "sweep", "()I"⟩ : MethodName) prog_1_method_14_code 3 (some FieldType.int) ∈ xT := xT_in (List.mem_append_right _ (List.mem_append_left _ (List.mem_of_getElem? (i := 138) rfl)) : _ ∈ lw_tbl) rfl
theorem kw139 : Cond.constantDouble "ChunkStore" 180 (4629137466983448576 : UInt64) ∈ xT := xT_in (List.mem_append_right _ (List.mem_append_left _ (List.mem_of_getElem? (i := 139) rfl)) : _ ∈ lw_tbl) rfl
theorem kw140 : Cond.methodLink "ChunkStore" 182 (⟨"ChunkStore", "forget", "(LChunkStore$FileEntry;)V"⟩ : MethodName) ∈ xT := xT_in (List.mem_append_right _ (List.mem_append_left _ (List.mem_of_getElem? (i := 140) rfl)) : _ ∈ lw_tbl) rfl
theorem kw142 : Cond.instanceMethod (⟨"ChunkStore", "forget", "(LChunkStore$FileEntry;)V"⟩ : MethodName) ∈ xT := xT_in (List.mem_append_right _ (List.mem_append_left _ (List.mem_of_getElem? (i := 142) rfl)) : _ ∈ lw_tbl) rfl
theorem kw143 : Cond.code (⟨"ChunkStore", "forget", "(LChunkStore$FileEntry;)V"⟩ : MethodName) prog_1_method_25_code 3 none ∈ xT := xT_in (List.mem_append_right _ (List.mem_append_left _ (List.mem_of_getElem? (i := 143) rfl)) : _ ∈ lw_tbl) rfl
theorem kw144 : Cond.methodLink "ChunkStoreLaw" 85 (⟨"ChunkStoreLaw", "create", "(LChunkStore;I[J)I"⟩ : MethodName) ∈ xT := xT_in (List.mem_append_right _ (List.mem_append_left _ (List.mem_of_getElem? (i := 144) rfl)) : _ ∈ lw_tbl) rfl
theorem kw145 : Cond.static (⟨"ChunkStoreLaw", "create", "(LChunkStore;I[J)I"⟩ : MethodName) ∈ xT := xT_in (List.mem_append_right _ (List.mem_append_left _ (List.mem_of_getElem? (i := 145) rfl)) : _ ∈ lw_tbl) rfl
theorem kw146 : Cond.codeWith (⟨"ChunkStoreLaw", "create", "(LChunkStore;I[J)I"⟩ : MethodName) method_3_code 4 (some FieldType.int) [(0, 9, 12, 13), (0, 9, 15, 15)] ∈ xT := xT_in (List.mem_append_right _ (List.mem_append_left _ (List.mem_of_getElem? (i := 146) rfl)) : _ ∈ lw_tbl) rfl
theorem kw147 : Cond.classLink "ChunkStoreLaw" 13 "java/lang/IllegalArgumentException" ∈ xT := xT_in (List.mem_append_right _ (List.mem_append_left _ (List.mem_of_getElem? (i := 147) rfl)) : _ ∈ lw_tbl) rfl
theorem kw148 : Cond.classLink "ChunkStoreLaw" 15 "java/lang/IllegalStateException" ∈ xT := xT_in (List.mem_append_right _ (List.mem_append_left _ (List.mem_of_getElem? (i := 148) rfl)) : _ ∈ lw_tbl) rfl
theorem kw149 : Cond.methodLink "ChunkStoreLaw" 7 (⟨"ChunkStore", "create", "(I)I"⟩ : MethodName) ∈ xT := xT_in (List.mem_append_right _ (List.mem_append_left _ (List.mem_of_getElem? (i := 149) rfl)) : _ ∈ lw_tbl) rfl
theorem kw150 : Cond.instanceMethod (⟨"ChunkStore", "create", "(I)I"⟩ : MethodName) ∈ xT := xT_in (List.mem_append_right _ (List.mem_append_left _ (List.mem_of_getElem? (i := 150) rfl)) : _ ∈ lw_tbl) rfl
theorem kw151 : Cond.selects "ChunkStore" (⟨"ChunkStore", "create", "(I)I"⟩ : MethodName) (⟨"ChunkStore", "create", "(I)I"⟩ : MethodName) ∈ xT := xT_in (List.mem_append_right _ (List.mem_append_left _ (List.mem_of_getElem? (i := 151) rfl)) : _ ∈ lw_tbl) rfl
theorem kw152 : Cond.code (⟨"ChunkStore", "create", "(I)I"⟩ : MethodName) prog_1_method_2_code 3 (some FieldType.int) ∈ xT := xT_in (List.mem_append_right _ (List.mem_append_left _ (List.mem_of_getElem? (i := 152) rfl)) : _ ∈ lw_tbl) rfl
theorem kw153 : Cond.methodLink "ChunkStore" 37 (⟨"ChunkStore", "checkRange", "(II)V"⟩ : MethodName) ∈ xT := xT_in (List.mem_append_right _ (List.mem_append_left _ (List.mem_of_getElem? (i := 153) rfl)) : _ ∈ lw_tbl) rfl
theorem kw154 : Cond.static (⟨"ChunkStore", "checkRange", "(II)V"⟩ : MethodName) ∈ xT := xT_in (List.mem_append_right _ (List.mem_append_left _ (List.mem_of_getElem? (i := 154) rfl)) : _ ∈ lw_tbl) rfl
theorem kw155 : Cond.code (⟨"ChunkStore", "checkRange", "(II)V"⟩ : MethodName) prog_1_method_20_code 2 none ∈ xT := xT_in (List.mem_append_right _ (List.mem_append_left _ (List.mem_of_getElem? (i := 155) rfl)) : _ ∈ lw_tbl) rfl
theorem kw156 : Cond.classLink "ChunkStore" 188 "java/lang/IllegalArgumentException" ∈ xT := xT_in (List.mem_append_right _ (List.mem_append_left _ (List.mem_of_getElem? (i := 156) rfl)) : _ ∈ lw_tbl) rfl
theorem kw157 : Cond.instantiable "java/lang/IllegalArgumentException" 6 ∈ xT := xT_in (List.mem_append_right _ (List.mem_append_left _ (List.mem_of_getElem? (i := 157) rfl)) : _ ∈ lw_tbl) rfl
theorem kn158 : Cond.castable "java/lang/IllegalArgumentException" "java/lang/IllegalArgumentException" ∈ xN := xN_in (List.mem_append_right _ (List.mem_append_left _ (List.mem_of_getElem? (i := 158) rfl)) : _ ∈ lw_tbl) rfl
theorem kn159 : Cond.declares (⟨"java/lang/RuntimeException", "<init>", "()V"⟩ : MethodName) ∈ xN := xN_in (List.mem_append_right _ (List.mem_append_left _ (List.mem_of_getElem? (i := 159) rfl)) : _ ∈ lw_tbl) rfl
theorem kn160 : Cond.declares (⟨"java/lang/RuntimeException", "<init>", "(Ljava/lang/String;)V"⟩ : MethodName) ∈ xN := xN_in (List.mem_append_right _ (List.mem_append_left _ (List.mem_of_getElem? (i := 160) rfl)) : _ ∈ lw_tbl) rfl
theorem kn161 : Cond.declares (⟨"java/lang/Exception", "<init>", "()V"⟩ : MethodName) ∈ xN := xN_in (List.mem_append_right _ (List.mem_append_left _ (List.mem_of_getElem? (i := 161) rfl)) : _ ∈ lw_tbl) rfl
theorem kn162 : Cond.declares (⟨"java/lang/Exception", "<init>", "(Ljava/lang/String;)V"⟩ : MethodName) ∈ xN := xN_in (List.mem_append_right _ (List.mem_append_left _ (List.mem_of_getElem? (i := 162) rfl)) : _ ∈ lw_tbl) rfl
theorem kn163 : Cond.declares (⟨"java/lang/Throwable", "<init>", "()V"⟩ : MethodName) ∈ xN := xN_in (List.mem_append_right _ (List.mem_append_left _ (List.mem_of_getElem? (i := 163) rfl)) : _ ∈ lw_tbl) rfl
theorem kn164 : Cond.declares (⟨"java/lang/Throwable", "<init>", "(Ljava/lang/String;)V"⟩ : MethodName) ∈ xN := xN_in (List.mem_append_right _ (List.mem_append_left _ (List.mem_of_getElem? (i := 164) rfl)) : _ ∈ lw_tbl) rfl
theorem kw165 : Cond.selects "java/lang/IllegalArgumentException" (⟨"java/lang/Throwable", "fillInStackTrace", "(I)Ljava/lang/Throwable;"⟩ : MethodName) (⟨"java/lang/Throwable", "fillInStackTrace", "(I)Ljava/lang/Throwable;"⟩ : MethodName) ∈ xT := xT_in (List.mem_append_right _ (List.mem_append_left _ (List.mem_of_getElem? (i := 165) rfl)) : _ ∈ lw_tbl) rfl
theorem kw166 : Cond.selects "java/lang/IllegalArgumentException" (⟨"java/lang/Throwable", "fillInStackTrace", "()Ljava/lang/Throwable;"⟩ : MethodName) (⟨"java/lang/Throwable", "fillInStackTrace", "()Ljava/lang/Throwable;"⟩ : MethodName) ∈ xT := xT_in (List.mem_append_right _ (List.mem_append_left _ (List.mem_of_getElem? (i := 166) rfl)) : _ ∈ lw_tbl) rfl
theorem kw167 : Cond.lays "java/lang/IllegalArgumentException" "java/lang/Throwable" "cause" "Ljava/lang/Throwable;" ∈ xT := xT_in (List.mem_append_right _ (List.mem_append_left _ (List.mem_of_getElem? (i := 167) rfl)) : _ ∈ lw_tbl) rfl
theorem kw168 : Cond.lays "java/lang/Throwable" "java/lang/Throwable" "cause" "Ljava/lang/Throwable;" ∈ xT := xT_in (List.mem_append_right _ (List.mem_append_left _ (List.mem_of_getElem? (i := 168) rfl)) : _ ∈ lw_tbl) rfl
theorem kw169 : Cond.lays "java/lang/IllegalArgumentException" "java/lang/Throwable" "stackTrace" "[Ljava/lang/StackTraceElement;" ∈ xT := xT_in (List.mem_append_right _ (List.mem_append_left _ (List.mem_of_getElem? (i := 169) rfl)) : _ ∈ lw_tbl) rfl
theorem kw170 : Cond.lays "java/lang/Throwable" "java/lang/Throwable" "stackTrace" "[Ljava/lang/StackTraceElement;" ∈ xT := xT_in (List.mem_append_right _ (List.mem_append_left _ (List.mem_of_getElem? (i := 170) rfl)) : _ ∈ lw_tbl) rfl
theorem kw171 : Cond.lays "java/lang/IllegalArgumentException" "java/lang/Throwable" "suppressedExceptions" "Ljava/util/List;" ∈ xT := xT_in (List.mem_append_right _ (List.mem_append_left _ (List.mem_of_getElem? (i := 171) rfl)) : _ ∈ lw_tbl) rfl
theorem kw172 : Cond.lays "java/lang/Throwable" "java/lang/Throwable" "suppressedExceptions" "Ljava/util/List;" ∈ xT := xT_in (List.mem_append_right _ (List.mem_append_left _ (List.mem_of_getElem? (i := 172) rfl)) : _ ∈ lw_tbl) rfl
theorem kw173 : Cond.lays "java/lang/IllegalArgumentException" "java/lang/Throwable" "detailMessage" "Ljava/lang/String;" ∈ xT := xT_in (List.mem_append_right _ (List.mem_append_left _ (List.mem_of_getElem? (i := 173) rfl)) : _ ∈ lw_tbl) rfl
theorem kw174 : Cond.lays "java/lang/Throwable" "java/lang/Throwable" "detailMessage" "Ljava/lang/String;" ∈ xT := xT_in (List.mem_append_right _ (List.mem_append_left _ (List.mem_of_getElem? (i := 174) rfl)) : _ ∈ lw_tbl) rfl
theorem kw175 : Cond.lays "java/lang/IllegalArgumentException" "java/lang/Throwable" "backtrace" "Ljava/lang/Object;" ∈ xT := xT_in (List.mem_append_right _ (List.mem_append_left _ (List.mem_of_getElem? (i := 175) rfl)) : _ ∈ lw_tbl) rfl
theorem kw176 : Cond.lays "java/lang/Throwable" "java/lang/Throwable" "backtrace" "Ljava/lang/Object;" ∈ xT := xT_in (List.mem_append_right _ (List.mem_append_left _ (List.mem_of_getElem? (i := 176) rfl)) : _ ∈ lw_tbl) rfl
theorem kw177 : Cond.fieldLink "java/lang/Throwable" 198 "java/lang/Throwable" "backtrace" "Ljava/lang/Object;" ∈ xT := xT_in (List.mem_append_right _ (List.mem_append_left _ (List.mem_of_getElem? (i := 177) rfl)) : _ ∈ lw_tbl) rfl
theorem kw178 : Cond.superclass "java/lang/Throwable" "java/lang/Object" ∈ xT := xT_in (List.mem_append_right _ (List.mem_append_left _ (List.mem_of_getElem? (i := 178) rfl)) : _ ∈ lw_tbl) rfl
theorem kw179 : Cond.instanceMethod (⟨"java/lang/Throwable", "<init>", "()V"⟩ : MethodName) ∈ xT := xT_in (List.mem_append_right _ (List.mem_append_left _ (List.mem_of_getElem? (i := 179) rfl)) : _ ∈ lw_tbl) rfl
theorem kw180 : Cond.code (⟨"java/lang/Throwable", "<init>", "()V"⟩ : MethodName) prog_17_method_1_code 1 none ∈ xT := xT_in (List.mem_append_right _ (List.mem_append_left _ (List.mem_of_getElem? (i := 180) rfl)) : _ ∈ lw_tbl) rfl
theorem kw181 : Cond.methodLink "java/lang/Throwable" 1 (⟨"java/lang/Object", "<init>", "()V"⟩ : MethodName) ∈ xT := xT_in (List.mem_append_right _ (List.mem_append_left _ (List.mem_of_getElem? (i := 181) rfl)) : _ ∈ lw_tbl) rfl
theorem kw182 : Cond.fieldLink "java/lang/Throwable" 13 "java/lang/Throwable" "UNASSIGNED_STACK" "[Ljava/lang/StackTraceElement;" ∈ xT := xT_in (List.mem_append_right _ (List.mem_append_left _ (List.mem_of_getElem? (i := 182) rfl)) : _ ∈ lw_tbl) rfl
theorem kw184 : Cond.fieldLink "java/lang/Throwable" 20 "java/lang/Throwable" "SUPPRESSED_SENTINEL" "Ljava/util/List;" ∈ xT := xT_in (List.mem_append_right _ (List.mem_append_left _ (List.mem_of_getElem? (i := 184) rfl)) : _ ∈ lw_tbl) rfl
theorem kw186 : Cond.methodLink "java/lang/Throwable" 27 (⟨"java/lang/Throwable", "fillInStackTrace", "()Ljava/lang/Throwable;"⟩ : MethodName) ∈ xT := xT_in (List.mem_append_right _ (List.mem_append_left _ (List.mem_of_getElem? (i := 186) rfl)) : _ ∈ lw_tbl) rfl
theorem kw187 : Cond.instanceMethod (⟨"java/lang/Throwable", "fillInStackTrace", "()Ljava/lang/Throwable;"⟩ : MethodName) ∈ xT := xT_in (List.mem_append_right _ (List.mem_append_left _ (List.mem_of_getElem? (i := 187) rfl)) : _ ∈ lw_tbl) rfl
theorem kw189 : Cond.selects "java/lang/ArithmeticException" (⟨"java/lang/Throwable", "fillInStackTrace", "()Ljava/lang/Throwable;"⟩ : MethodName) (⟨"java/lang/Throwable", "fillInStackTrace", "()Ljava/lang/Throwable;"⟩ : MethodName) ∈ xT := xT_in (List.mem_append_right _ (List.mem_append_left _ (List.mem_of_getElem? (i := 189) rfl)) : _ ∈ lw_tbl) rfl
theorem kw190 : Cond.selects "java/lang/IllegalStateException" (⟨"java/lang/Throwable", "fillInStackTrace", "()Ljava/lang/Throwable;"⟩ : MethodName) (⟨"java/lang/Throwable", "fillInStackTrace", "()Ljava/lang/Throwable;"⟩ : MethodName) ∈ xT := xT_in (List.mem_append_right _ (List.mem_append_left _ (List.mem_of_getElem? (i := 190) rfl)) : _ ∈ lw_tbl) rfl
theorem kw191 : Cond.selects "java/lang/IndexOutOfBoundsException" (⟨"java/lang/Throwable", "fillInStackTrace", "()Ljava/lang/Throwable;"⟩ : MethodName) (⟨"java/lang/Throwable", "fillInStackTrace", "()Ljava/lang/Throwable;"⟩ : MethodName) ∈ xT := xT_in (List.mem_append_right _ (List.mem_append_left _ (List.mem_of_getElem? (i := 191) rfl)) : _ ∈ lw_tbl) rfl
theorem kw192 : Cond.selects "java/lang/UnsupportedOperationException" (⟨"java/lang/Throwable", "fillInStackTrace", "()Ljava/lang/Throwable;"⟩ : MethodName) (⟨"java/lang/Throwable", "fillInStackTrace", "()Ljava/lang/Throwable;"⟩ : MethodName) ∈ xT := xT_in (List.mem_append_right _ (List.mem_append_left _ (List.mem_of_getElem? (i := 192) rfl)) : _ ∈ lw_tbl) rfl
theorem kw193 : Cond.selects "java/util/NoSuchElementException" (⟨"java/lang/Throwable", "fillInStackTrace", "()Ljava/lang/Throwable;"⟩ : MethodName) (⟨"java/lang/Throwable", "fillInStackTrace", "()Ljava/lang/Throwable;"⟩ : MethodName) ∈ xT := xT_in (List.mem_append_right _ (List.mem_append_left _ (List.mem_of_getElem? (i := 193) rfl)) : _ ∈ lw_tbl) rfl
theorem kw194 : Cond.codeSync (⟨"java/lang/Throwable", "fillInStackTrace", "()Ljava/lang/Throwable;"⟩ : MethodName) prog_17_method_18_code 1 (some (FieldType.object "java/lang/Throwable")) ∈ xT := xT_in (List.mem_append_right _ (List.mem_append_left _ (List.mem_of_getElem? (i := 194) rfl)) : _ ∈ lw_tbl) rfl
theorem kw195 : Cond.methodLink "java/lang/Throwable" 202 (⟨"java/lang/Throwable", "fillInStackTrace", "(I)Ljava/lang/Throwable;"⟩ : MethodName) ∈ xT := xT_in (List.mem_append_right _ (List.mem_append_left _ (List.mem_of_getElem? (i := 195) rfl)) : _ ∈ lw_tbl) rfl
theorem kw197 : Cond.instanceMethod (⟨"java/lang/Throwable", "fillInStackTrace", "(I)Ljava/lang/Throwable;"⟩ : MethodName) ∈ xT := xT_in (List.mem_append_right _ (List.mem_append_left _ (List.mem_of_getElem? (i := 197) rfl)) : _ ∈ lw_tbl) rfl
theorem kw198 : Cond.instantiable "java/lang/Throwable" 6 ∈ xT := xT_in (List.mem_append_right _ (List.mem_append_left _ (List.mem_of_getElem? (i := 198) rfl)) : _ ∈ lw_tbl) rfl
theorem kw199 : Cond.native (⟨"java/lang/Throwable", "fillInStackTrace", "(I)Ljava/lang/Throwable;"⟩ : MethodName) ∈ xT := xT_in (List.mem_append_right _ (List.mem_append_left _ (List.mem_of_getElem? (i := 199) rfl)) : _ ∈ lw_tbl) rfl
theorem kw201 : Cond.methodLink "ChunkStore" 192 (⟨"java/lang/IllegalArgumentException", "<init>", "(Ljava/lang/String;)V"⟩ : MethodName) ∈ xT := xT_in (List.mem_append_right _ (List.mem_append_left _ (List.mem_of_getElem? (i := 201) rfl)) : _ ∈ lw_tbl) rfl
theorem kw202 : Cond.instanceMethod (⟨"java/lang/IllegalArgumentException", "<init>", "(Ljava/lang/String;)V"⟩ : MethodName) ∈ xT := xT_in (List.mem_append_right _ (List.mem_append_left _ (List.mem_of_getElem? (i := 202) rfl)) : _ ∈ lw_tbl) rfl
theorem kw203 : Cond.code (⟨"java/lang/IllegalArgumentException", "<init>", "(Ljava/lang/String;)V"⟩ : MethodName) prog_10_method_2_code 2 none ∈ xT := xT_in (List.mem_append_right _ (List.mem_append_left _ (List.mem_of_getElem? (i := 203) rfl)) : _ ∈ lw_tbl) rfl
theorem kw204 : Cond.methodLink "java/lang/IllegalArgumentException" 7 (⟨"java/lang/RuntimeException", "<init>", "(Ljava/lang/String;)V"⟩ : MethodName) ∈ xT := xT_in (List.mem_append_right _ (List.mem_append_left _ (List.mem_of_getElem? (i := 204) rfl)) : _ ∈ lw_tbl) rfl
theorem kw205 : Cond.instanceMethod (⟨"java/lang/RuntimeException", "<init>", "(Ljava/lang/String;)V"⟩ : MethodName) ∈ xT := xT_in (List.mem_append_right _ (List.mem_append_left _ (List.mem_of_getElem? (i := 205) rfl)) : _ ∈ lw_tbl) rfl
theorem kw206 : Cond.code (⟨"java/lang/RuntimeException", "<init>", "(Ljava/lang/String;)V"⟩ : MethodName) prog_15_method_2_code 2 none ∈ xT := xT_in (List.mem_append_right _ (List.mem_append_left _ (List.mem_of_getElem? (i := 206) rfl)) : _ ∈ lw_tbl) rfl
theorem kw207 : Cond.methodLink "java/lang/RuntimeException" 7 (⟨"java/lang/Exception", "<init>", "(Ljava/lang/String;)V"⟩ : MethodName) ∈ xT := xT_in (List.mem_append_right _ (List.mem_append_left _ (List.mem_of_getElem? (i := 207) rfl)) : _ ∈ lw_tbl) rfl
theorem kw208 : Cond.instanceMethod (⟨"java/lang/Exception", "<init>", "(Ljava/lang/String;)V"⟩ : MethodName) ∈ xT := xT_in (List.mem_append_right _ (List.mem_append_left _ (List.mem_of_getElem? (i := 208) rfl)) : _ ∈ lw_tbl) rfl
theorem kw209 : Cond.code (⟨"java/lang/Exception", "<init>", "(Ljava/lang/String;)V"⟩ : MethodName) prog_9_method_2_code 2 none ∈ xT := xT_in (List.mem_append_right _ (List.mem_append_left _ (List.mem_of_getElem? (i := 209) rfl)) : _ ∈ lw_tbl) rfl
theorem kw210 : Cond.methodLink "java/lang/Exception" 7 (⟨"java/lang/Throwable", "<init>", "(Ljava/lang/String;)V"⟩ : MethodName) ∈ xT := xT_in (List.mem_append_right _ (List.mem_append_left _ (List.mem_of_getElem? (i := 210) rfl)) : _ ∈ lw_tbl) rfl
theorem kw211 : Cond.instanceMethod (⟨"java/lang/Throwable", "<init>", "(Ljava/lang/String;)V"⟩ : MethodName) ∈ xT := xT_in (List.mem_append_right _ (List.mem_append_left _ (List.mem_of_getElem? (i := 211) rfl)) : _ ∈ lw_tbl) rfl
theorem kw212 : Cond.code (⟨"java/lang/Throwable", "<init>", "(Ljava/lang/String;)V"⟩ : MethodName) prog_17_method_2_code 2 none ∈ xT := xT_in (List.mem_append_right _ (List.mem_append_left _ (List.mem_of_getElem? (i := 212) rfl)) : _ ∈ lw_tbl) rfl
theorem kw213 : Cond.fieldLink "java/lang/Throwable" 198 "java/lang/Throwable" "backtrace" "Ljava/lang/Object;" ∈ xT := xT_in (List.mem_append_right _ (List.mem_append_left _ (List.mem_of_getElem? (i := 213) rfl)) : _ ∈ lw_tbl) rfl
theorem kw214 : Cond.fieldLink "java/lang/Throwable" 31 "java/lang/Throwable" "detailMessage" "Ljava/lang/String;" ∈ xT := xT_in (List.mem_append_right _ (List.mem_append_left _ (List.mem_of_getElem? (i := 214) rfl)) : _ ∈ lw_tbl) rfl
theorem kw215 : Cond.fieldLink "java/lang/Throwable" 7 "java/lang/Throwable" "cause" "Ljava/lang/Throwable;" ∈ xT := xT_in (List.mem_append_right _ (List.mem_append_left _ (List.mem_of_getElem? (i := 215) rfl)) : _ ∈ lw_tbl) rfl
theorem kw216 : Cond.fieldLink "java/lang/Throwable" 17 "java/lang/Throwable" "stackTrace" "[Ljava/lang/StackTraceElement;" ∈ xT := xT_in (List.mem_append_right _ (List.mem_append_left _ (List.mem_of_getElem? (i := 216) rfl)) : _ ∈ lw_tbl) rfl
theorem kw217 : Cond.fieldLink "java/lang/Throwable" 24 "java/lang/Throwable" "suppressedExceptions" "Ljava/util/List;" ∈ xT := xT_in (List.mem_append_right _ (List.mem_append_left _ (List.mem_of_getElem? (i := 217) rfl)) : _ ∈ lw_tbl) rfl
theorem kw218 : Cond.soleField "java/lang/Throwable" "backtrace" ∈ xT := xT_in (List.mem_append_right _ (List.mem_append_left _ (List.mem_of_getElem? (i := 218) rfl)) : _ ∈ lw_tbl) rfl
theorem kw219 : Cond.soleField "java/lang/Throwable" "detailMessage" ∈ xT := xT_in (List.mem_append_right _ (List.mem_append_left _ (List.mem_of_getElem? (i := 219) rfl)) : _ ∈ lw_tbl) rfl
theorem kw220 : Cond.soleField "java/lang/Throwable" "cause" ∈ xT := xT_in (List.mem_append_right _ (List.mem_append_left _ (List.mem_of_getElem? (i := 220) rfl)) : _ ∈ lw_tbl) rfl
theorem kw221 : Cond.soleField "java/lang/Throwable" "stackTrace" ∈ xT := xT_in (List.mem_append_right _ (List.mem_append_left _ (List.mem_of_getElem? (i := 221) rfl)) : _ ∈ lw_tbl) rfl
theorem kw222 : Cond.lays "java/lang/IllegalArgumentException" "java/lang/Throwable" "depth" "I" ∈ xT := xT_in (List.mem_append_right _ (List.mem_append_left _ (List.mem_of_getElem? (i := 222) rfl)) : _ ∈ lw_tbl) rfl
theorem kw223 : Cond.soleField "java/lang/Throwable" "depth" ∈ xT := xT_in (List.mem_append_right _ (List.mem_append_left _ (List.mem_of_getElem? (i := 223) rfl)) : _ ∈ lw_tbl) rfl
theorem kw224 : Cond.soleField "java/lang/Throwable" "suppressedExceptions" ∈ xT := xT_in (List.mem_append_right _ (List.mem_append_left _ (List.mem_of_getElem? (i := 224) rfl)) : _ ∈ lw_tbl) rfl
theorem kw225 : Cond.superclass "java/lang/IllegalArgumentException" "java/lang/RuntimeException" ∈ xT := xT_in (List.mem_append_right _ (List.mem_append_left _ (List.mem_of_getElem? (i := 225) rfl)) : _ ∈ lw_tbl) rfl
theorem kw227 : Cond.methodLink "ChunkStore" 41 (⟨"ChunkStore", "fileNotYet", "(I)LChunkStore$FileEntry;"⟩ : MethodName) ∈ xT := xT_in (List.mem_append_right _ (List.mem_append_left _ (List.mem_of_getElem? (i := 227) rfl)) : _ ∈ lw_tbl) rfl
theorem kw229 : Cond.instanceMethod (⟨"ChunkStore", "fileNotYet", "(I)LChunkStore$FileEntry;"⟩ : MethodName) ∈ xT := xT_in (List.mem_append_right _ (List.mem_append_left _ (List.mem_of_getElem? (i := 229) rfl)) : _ ∈ lw_tbl) rfl
theorem kw230 : Cond.code (⟨"ChunkStore", "fileNotYet", "(I)LChunkStore$FileEntry;"⟩ : MethodName) prog_1_method_23_code 2 (some (FieldType.object "ChunkStore$FileEntry")) ∈ xT := xT_in (List.mem_append_right _ (List.mem_append_left _ (List.mem_of_getElem? (i := 230) rfl)) : _ ∈ lw_tbl) rfl
theorem kw231 : Cond.classLink "ChunkStore" 137 "java/lang/IllegalStateException" ∈ xT := xT_in (List.mem_append_right _ (List.mem_append_left _ (List.mem_of_getElem? (i := 231) rfl)) : _ ∈ lw_tbl) rfl
theorem kw232 : Cond.instantiable "java/lang/IllegalStateException" 6 ∈ xT := xT_in (List.mem_append_right _ (List.mem_append_left _ (List.mem_of_getElem? (i := 232) rfl)) : _ ∈ lw_tbl) rfl
theorem kn233 : Cond.castable "java/lang/IllegalStateException" "java/lang/IllegalStateException" ∈ xN := xN_in (List.mem_append_right _ (List.mem_append_left _ (List.mem_of_getElem? (i := 233) rfl)) : _ ∈ lw_tbl) rfl
theorem kw234 : Cond.selects "java/lang/IllegalStateException" (⟨"java/lang/Throwable", "fillInStackTrace", "(I)Ljava/lang/Throwable;"⟩ : MethodName) (⟨"java/lang/Throwable", "fillInStackTrace", "(I)Ljava/lang/Throwable;"⟩ : MethodName) ∈ xT := xT_in (List.mem_append_right _ (List.mem_append_left _ (List.mem_of_getElem? (i := 234) rfl)) : _ ∈ lw_tbl) rfl
theorem kw235 : Cond.lays "java/lang/IllegalStateException" "java/lang/Throwable" "cause" "Ljava/lang/Throwable;" ∈ xT := xT_in (List.mem_append_right _ (List.mem_append_left _ (List.mem_of_getElem? (i := 235) rfl)) : _ ∈ lw_tbl) rfl
theorem kw236 : Cond.lays "java/lang/IllegalStateException" "java/lang/Throwable" "stackTrace" "[Ljava/lang/StackTraceElement;" ∈ xT := xT_in (List.mem_append_right _ (List.mem_append_left _ (List.mem_of_getElem? (i := 236) rfl)) : _ ∈ lw_tbl) rfl
theorem kw237 : Cond.lays "java/lang/IllegalStateException" "java/lang/Throwable" "suppressedExceptions" "Ljava/util/List;" ∈ xT := xT_in (List.mem_append_right _ (List.mem_append_left _ (List.mem_of_getElem? (i := 237) rfl)) : _ ∈ lw_tbl) rfl
theorem kw238 : Cond.lays "java/lang/IllegalStateException" "java/lang/Throwable" "detailMessage" "Ljava/lang/String;" ∈ xT := xT_in (List.mem_append_right _ (List.mem_append_left _ (List.mem_of_getElem? (i := 238) rfl)) : _ ∈ lw_tbl) rfl
theorem kw239 : Cond.lays "java/lang/IllegalStateException" "java/lang/Throwable" "backtrace" "Ljava/lang/Object;" ∈ xT := xT_in (List.mem_append_right _ (List.mem_append_left _ (List.mem_of_getElem? (i := 239) rfl)) : _ ∈ lw_tbl) rfl
theorem kw241 : Cond.methodLink "ChunkStore" 141 (⟨"java/lang/IllegalStateException", "<init>", "(Ljava/lang/String;)V"⟩ : MethodName) ∈ xT := xT_in (List.mem_append_right _ (List.mem_append_right _ (List.mem_append_left _ (List.mem_of_getElem? (i := 1) rfl))) : _ ∈ lw_tbl) rfl
theorem kw242 : Cond.instanceMethod (⟨"java/lang/IllegalStateException", "<init>", "(Ljava/lang/String;)V"⟩ : MethodName) ∈ xT := xT_in (List.mem_append_right _ (List.mem_append_right _ (List.mem_append_left _ (List.mem_of_getElem? (i := 2) rfl))) : _ ∈ lw_tbl) rfl
theorem kw243 : Cond.code (⟨"java/lang/IllegalStateException", "<init>", "(Ljava/lang/String;)V"⟩ : MethodName) prog_11_method_2_code 2 none ∈ xT := xT_in (List.mem_append_right _ (List.mem_append_right _ (List.mem_append_left _ (List.mem_of_getElem? (i := 3) rfl))) : _ ∈ lw_tbl) rfl
theorem kw244 : Cond.methodLink "java/lang/IllegalStateException" 7 (⟨"java/lang/RuntimeException", "<init>", "(Ljava/lang/String;)V"⟩ : MethodName) ∈ xT := xT_in (List.mem_append_right _ (List.mem_append_right _ (List.mem_append_left _ (List.mem_of_getElem? (i := 4) rfl))) : _ ∈ lw_tbl) rfl
theorem kw245 : Cond.lays "java/lang/IllegalStateException" "java/lang/Throwable" "depth" "I" ∈ xT := xT_in (List.mem_append_right _ (List.mem_append_right _ (List.mem_append_left _ (List.mem_of_getElem? (i := 5) rfl))) : _ ∈ lw_tbl) rfl
theorem kw246 : Cond.superclass "java/lang/IllegalStateException" "java/lang/RuntimeException" ∈ xT := xT_in (List.mem_append_right _ (List.mem_append_right _ (List.mem_append_left _ (List.mem_of_getElem? (i := 6) rfl))) : _ ∈ lw_tbl) rfl
theorem kw247 : Cond.methodLink "ChunkStore" 49 (⟨"ChunkStore", "countThere", "()I"⟩ : MethodName) ∈ xT := xT_in (List.mem_append_right _ (List.mem_append_right _ (List.mem_append_left _ (List.mem_of_getElem? (i := 7) rfl))) : _ ∈ lw_tbl) rfl
theorem kw249 : Cond.instanceMethod (⟨"ChunkStore", "countThere", "()I"⟩ : MethodName) ∈ xT := xT_in (List.mem_append_right _ (List.mem_append_right _ (List.mem_append_left _ (List.mem_of_getElem? (i := 9) rfl))) : _ ∈ lw_tbl) rfl
theorem kw250 : Cond.code (⟨"ChunkStore", "countThere", "()I"⟩ : MethodName) prog_1_method_24_code 3 (some FieldType.int) ∈ xT := xT_in (List.mem_append_right _ (List.mem_append_right _ (List.mem_append_left _ (List.mem_of_getElem? (i := 10) rfl))) : _ ∈ lw_tbl) rfl
theorem kw251 : Cond.methodLink "ChunkStoreLaw" 94 (⟨"ChunkStoreLaw", "remove", "(LChunkStore;I[J)I"⟩ : MethodName) ∈ xT := xT_in (List.mem_append_right _ (List.mem_append_right _ (List.mem_append_left _ (List.mem_of_getElem? (i := 11) rfl))) : _ ∈ lw_tbl) rfl
theorem kw252 : Cond.static (⟨"ChunkStoreLaw", "remove", "(LChunkStore;I[J)I"⟩ : MethodName) ∈ xT := xT_in (List.mem_append_right _ (List.mem_append_right _ (List.mem_append_left _ (List.mem_of_getElem? (i := 12) rfl))) : _ ∈ lw_tbl) rfl
theorem kw253 : Cond.codeWith (⟨"ChunkStoreLaw", "remove", "(LChunkStore;I[J)I"⟩ : MethodName) method_4_code 4 (some FieldType.int) [(0, 9, 12, 13), (0, 9, 15, 20)] ∈ xT := xT_in (List.mem_append_right _ (List.mem_append_right _ (List.mem_append_left _ (List.mem_of_getElem? (i := 13) rfl))) : _ ∈ lw_tbl) rfl
theorem kw254 : Cond.classLink "ChunkStoreLaw" 20 "java/util/NoSuchElementException" ∈ xT := xT_in (List.mem_append_right _ (List.mem_append_right _ (List.mem_append_left _ (List.mem_of_getElem? (i := 14) rfl))) : _ ∈ lw_tbl) rfl
theorem kw255 : Cond.methodLink "ChunkStoreLaw" 17 (⟨"ChunkStore", "remove", "(I)I"⟩ : MethodName) ∈ xT := xT_in (List.mem_append_right _ (List.mem_append_right _ (List.mem_append_left _ (List.mem_of_getElem? (i := 15) rfl))) : _ ∈ lw_tbl) rfl
theorem kw256 : Cond.instanceMethod (⟨"ChunkStore", "remove", "(I)I"⟩ : MethodName) ∈ xT := xT_in (List.mem_append_right _ (List.mem_append_right _ (List.mem_append_left _ (List.mem_of_getElem? (i := 16) rfl))) : _ ∈ lw_tbl) rfl
theorem kw257 : Cond.selects "ChunkStore" (⟨"ChunkStore", "remove", "(I)I"⟩ : MethodName) (⟨"ChunkStore", "remove", "(I)I"⟩ : MethodName) ∈ xT := xT_in (List.mem_append_right _ (List.mem_append_right _ (List.mem_append_left _ (List.mem_of_getElem? (i := 17) rfl))) : _ ∈ lw_tbl) rfl
theorem kw258 : Cond.code (⟨"ChunkStore", "remove", "(I)I"⟩ : MethodName) prog_1_method_3_code 3 (some FieldType.int) ∈ xT := xT_in (List.mem_append_right _ (List.mem_append_right _ (List.mem_append_left _ (List.mem_of_getElem? (i := 18) rfl))) : _ ∈ lw_tbl) rfl
theorem kw259 : Cond.methodLink "ChunkStore" 53 (⟨"ChunkStore", "fileThere", "(I)LChunkStore$FileEntry;"⟩ : MethodName) ∈ xT := xT_in (List.mem_append_right _ (List.mem_append_right _ (List.mem_append_left _ (List.mem_of_getElem? (i := 19) rfl))) : _ ∈ lw_tbl) rfl
theorem kw261 : Cond.instanceMethod (⟨"ChunkStore", "fileThere", "(I)LChunkStore$FileEntry;"⟩ : MethodName) ∈ xT := xT_in (List.mem_append_right _ (List.mem_append_right _ (List.mem_append_left _ (List.mem_of_getElem? (i := 21) rfl))) : _ ∈ lw_tbl) rfl
theorem kw262 : Cond.code (⟨"ChunkStore", "fileThere", "(I)LChunkStore$FileEntry;"⟩ : MethodName) prog_1_method_22_code 2 (some (FieldType.object "ChunkStore$FileEntry")) ∈ xT := xT_in (List.mem_append_right _ (List.mem_append_right _ (List.mem_append_left _ (List.mem_of_getElem? (i := 22) rfl))) : _ ∈ lw_tbl) rfl
theorem kw263 : Cond.classLink "ChunkStore" 66 "java/util/NoSuchElementException" ∈ xT := xT_in (List.mem_append_right _ (List.mem_append_right _ (List.mem_append_left _ (List.mem_of_getElem? (i := 23) rfl))) : _ ∈ lw_tbl) rfl
theorem kw264 : Cond.instantiable "java/util/NoSuchElementException" 6 ∈ xT := xT_in (List.mem_append_right _ (List.mem_append_right _ (List.mem_append_left _ (List.mem_of_getElem? (i := 24) rfl))) : _ ∈ lw_tbl) rfl
theorem kn265 : Cond.castable "java/util/NoSuchElementException" "java/util/NoSuchElementException" ∈ xN := xN_in (List.mem_append_right _ (List.mem_append_right _ (List.mem_append_left _ (List.mem_of_getElem? (i := 25) rfl))) : _ ∈ lw_tbl) rfl
theorem kw266 : Cond.selects "java/util/NoSuchElementException" (⟨"java/lang/Throwable", "fillInStackTrace", "(I)Ljava/lang/Throwable;"⟩ : MethodName) (⟨"java/lang/Throwable", "fillInStackTrace", "(I)Ljava/lang/Throwable;"⟩ : MethodName) ∈ xT := xT_in (List.mem_append_right _ (List.mem_append_right _ (List.mem_append_left _ (List.mem_of_getElem? (i := 26) rfl))) : _ ∈ lw_tbl) rfl
theorem kw267 : Cond.lays "java/util/NoSuchElementException" "java/lang/Throwable" "cause" "Ljava/lang/Throwable;" ∈ xT := xT_in (List.mem_append_right _ (List.mem_append_right _ (List.mem_append_left _ (List.mem_of_getElem? (i := 27) rfl))) : _ ∈ lw_tbl) rfl
theorem kw268 : Cond.lays "java/util/NoSuchElementException" "java/lang/Throwable" "stackTrace" "[Ljava/lang/StackTraceElement;" ∈ xT := xT_in (List.mem_append_right _ (List.mem_append_right _ (List.mem_append_left _ (List.mem_of_getElem? (i := 28) rfl))) : _ ∈ lw_tbl) rfl
theorem kw269 : Cond.lays "java/util/NoSuchElementException" "java/lang/Throwable" "suppressedExceptions" "Ljava/util/List;" ∈ xT := xT_in (List.mem_append_right _ (List.mem_append_right _ (List.mem_append_left _ (List.mem_of_getElem? (i := 29) rfl))) : _ ∈ lw_tbl) rfl
theorem kw270 : Cond.lays "java/util/NoSuchElementException" "java/lang/Throwable" "detailMessage" "Ljava/lang/String;" ∈ xT := xT_in (List.mem_append_right _ (List.mem_append_right _ (List.mem_append_left _ (List.mem_of_getElem? (i := 30) rfl))) : _ ∈ lw_tbl) rfl
theorem kw271 : Cond.lays "java/util/NoSuchElementException" "java/lang/Throwable" "backtrace" "Ljava/lang/Object;" ∈ xT := xT_in (List.mem_append_right _ (List.mem_append_right _ (List.mem_append_left _ (List.mem_of_getElem? (i := 31) rfl))) : _ ∈ lw_tbl) rfl
theorem kw273 : Cond.methodLink "ChunkStore" 70 (⟨"java/util/NoSuchElementException", "<init>", "(Ljava/lang/String;)V"⟩ : MethodName) ∈ xT := xT_in (List.mem_append_right _ (List.mem_append_right _ (List.mem_append_left _ (List.mem_of_getElem? (i := 33) rfl))) : _ ∈ lw_tbl) rfl
theorem kw274 : Cond.instanceMethod (⟨"java/util/NoSuchElementException", "<init>", "(Ljava/lang/String;)V"⟩ : MethodName) ∈ xT := xT_in (List.mem_append_right _ (List.mem_append_right _ (List.mem_append_left _ (List.mem_of_getElem? (i := 34) rfl))) : _ ∈ lw_tbl) rfl
theorem kw275 : Cond.code (⟨"java/util/NoSuchElementException", "<init>", "(Ljava/lang/String;)V"⟩ : MethodName) prog_19_method_4_code 2 none ∈ xT := xT_in (List.mem_append_right _ (List.mem_append_right _ (List.mem_append_left _ (List.mem_of_getElem? (i := 35) rfl))) : _ ∈ lw_tbl) rfl
theorem kw276 : Cond.methodLink "java/util/NoSuchElementException" 13 (⟨"java/lang/RuntimeException", "<init>", "(Ljava/lang/String;)V"⟩ : MethodName) ∈ xT := xT_in (List.mem_append_right _ (List.mem_append_right _ (List.mem_append_left _ (List.mem_of_getElem? (i := 36) rfl))) : _ ∈ lw_tbl) rfl
theorem kw277 : Cond.lays "java/util/NoSuchElementException" "java/lang/Throwable" "depth" "I" ∈ xT := xT_in (List.mem_append_right _ (List.mem_append_right _ (List.mem_append_left _ (List.mem_of_getElem? (i := 37) rfl))) : _ ∈ lw_tbl) rfl
theorem kw278 : Cond.superclass "java/util/NoSuchElementException" "java/lang/RuntimeException" ∈ xT := xT_in (List.mem_append_right _ (List.mem_append_right _ (List.mem_append_left _ (List.mem_of_getElem? (i := 38) rfl))) : _ ∈ lw_tbl) rfl
theorem kw279 : Cond.methodLink "ChunkStoreLaw" 97 (⟨"ChunkStoreLaw", "restore", "(LChunkStore;I[J)I"⟩ : MethodName) ∈ xT := xT_in (List.mem_append_right _ (List.mem_append_right _ (List.mem_append_left _ (List.mem_of_getElem? (i := 39) rfl))) : _ ∈ lw_tbl) rfl
theorem kw280 : Cond.static (⟨"ChunkStoreLaw", "restore", "(LChunkStore;I[J)I"⟩ : MethodName) ∈ xT := xT_in (List.mem_append_right _ (List.mem_append_right _ (List.mem_append_left _ (List.mem_of_getElem? (i := 40) rfl))) : _ ∈ lw_tbl) rfl
theorem kw281 : Cond.codeWith (⟨"ChunkStoreLaw", "restore", "(LChunkStore;I[J)I"⟩ : MethodName) method_5_code 4 (some FieldType.int) [(0, 9, 12, 13), (0, 9, 15, 20)] ∈ xT := xT_in (List.mem_append_right _ (List.mem_append_right _ (List.mem_append_left _ (List.mem_of_getElem? (i := 41) rfl))) : _ ∈ lw_tbl) rfl
theorem kw282 : Cond.methodLink "ChunkStoreLaw" 22 (⟨"ChunkStore", "restore", "(I)I"⟩ : MethodName) ∈ xT := xT_in (List.mem_append_right _ (List.mem_append_right _ (List.mem_append_left _ (List.mem_of_getElem? (i := 42) rfl))) : _ ∈ lw_tbl) rfl
theorem kw283 : Cond.instanceMethod (⟨"ChunkStore", "restore", "(I)I"⟩ : MethodName) ∈ xT := xT_in (List.mem_append_right _ (List.mem_append_right _ (List.mem_append_left _ (List.mem_of_getElem? (i := 43) rfl))) : _ ∈ lw_tbl) rfl
theorem kw284 : Cond.selects "ChunkStore" (⟨"ChunkStore", "restore", "(I)I"⟩ : MethodName) (⟨"ChunkStore", "restore", "(I)I"⟩ : MethodName) ∈ xT := xT_in (List.mem_append_right _ (List.mem_append_right _ (List.mem_append_left _ (List.mem_of_getElem? (i := 44) rfl))) : _ ∈ lw_tbl) rfl
theorem kw285 : Cond.code (⟨"ChunkStore", "restore", "(I)I"⟩ : MethodName) prog_1_method_4_code 3 (some FieldType.int) ∈ xT := xT_in (List.mem_append_right _ (List.mem_append_right _ (List.mem_append_left _ (List.mem_of_getElem? (i := 45) rfl))) : _ ∈ lw_tbl) rfl
theorem kw287 : Cond.methodLink "ChunkStoreLaw" 100 (⟨"ChunkStoreLaw", "copy", "(LChunkStore;II[J)I"⟩ : MethodName) ∈ xT := xT_in (List.mem_append_right _ (List.mem_append_right _ (List.mem_append_left _ (List.mem_of_getElem? (i := 47) rfl))) : _ ∈ lw_tbl) rfl
theorem kw288 : Cond.static (⟨"ChunkStoreLaw", "copy", "(LChunkStore;II[J)I"⟩ : MethodName) ∈ xT := xT_in (List.mem_append_right _ (List.mem_append_right _ (List.mem_append_left _ (List.mem_of_getElem? (i := 48) rfl))) : _ ∈ lw_tbl) rfl
theorem kw289 : Cond.codeWith (⟨"ChunkStoreLaw", "copy", "(LChunkStore;II[J)I"⟩ : MethodName) method_6_code 5 (some FieldType.int) [(0, 10, 13, 13), (0, 10, 17, 20), (0, 10, 21, 15)] ∈ xT := xT_in (List.mem_append_right _ (List.mem_append_right _ (List.mem_append_left _ (List.mem_of_getElem? (i := 49) rfl))) : _ ∈ lw_tbl) rfl
theorem kw290 : Cond.methodLink "ChunkStoreLaw" 25 (⟨"ChunkStore", "copy", "(II)I"⟩ : MethodName) ∈ xT := xT_in (List.mem_append_right _ (List.mem_append_right _ (List.mem_append_left _ (List.mem_of_getElem? (i := 50) rfl))) : _ ∈ lw_tbl) rfl
theorem kw291 : Cond.instanceMethod (⟨"ChunkStore", "copy", "(II)I"⟩ : MethodName) ∈ xT := xT_in (List.mem_append_right _ (List.mem_append_right _ (List.mem_append_left _ (List.mem_of_getElem? (i := 51) rfl))) : _ ∈ lw_tbl) rfl
theorem kw292 : Cond.selects "ChunkStore" (⟨"ChunkStore", "copy", "(II)I"⟩ : MethodName) (⟨"ChunkStore", "copy", "(II)I"⟩ : MethodName) ∈ xT := xT_in (List.mem_append_right _ (List.mem_append_right _ (List.mem_append_left _ (List.mem_of_getElem? (i := 52) rfl))) : _ ∈ lw_tbl) rfl
theorem kw293 : Cond.code (⟨"ChunkStore", "copy", "(II)I"⟩ : MethodName) prog_1_method_5_code 7 (some FieldType.int) ∈ xT := xT_in (List.mem_append_right _ (List.mem_append_right _ (List.mem_append_left _ (List.mem_of_getElem? (i := 53) rfl))) : _ ∈ lw_tbl) rfl
theorem kn294 : Cond.methodLinkNest "ChunkStore" 83 (⟨"ChunkStore$FileEntry", "addAtEnd", "(I)V"⟩ : MethodName) "ChunkStore" ∈ xN := xN_in (List.mem_append_right _ (List.mem_append_right _ (List.mem_append_left _ (List.mem_of_getElem? (i := 54) rfl))) : _ ∈ lw_tbl) rfl
theorem kw296 : Cond.instanceMethod (⟨"ChunkStore$FileEntry", "addAtEnd", "(I)V"⟩ : MethodName) ∈ xT := xT_in (List.mem_append_right _ (List.mem_append_right _ (List.mem_append_left _ (List.mem_of_getElem? (i := 56) rfl))) : _ ∈ lw_tbl) rfl
theorem kw297 : Cond.code (⟨"ChunkStore$FileEntry", "addAtEnd", "(I)V"⟩ : MethodName) prog_3_method_2_code 2 none ∈ xT := xT_in (List.mem_append_right _ (List.mem_append_right _ (List.mem_append_left _ (List.mem_of_getElem? (i := 57) rfl))) : _ ∈ lw_tbl) rfl
theorem kw298 : Cond.methodLink "ChunkStoreLaw" 104 (⟨"ChunkStoreLaw", "extend", "(LChunkStore;I[J)I"⟩ : MethodName) ∈ xT := xT_in (List.mem_append_right _ (List.mem_append_right _ (List.mem_append_left _ (List.mem_of_getElem? (i := 58) rfl))) : _ ∈ lw_tbl) rfl
theorem kw299 : Cond.static (⟨"ChunkStoreLaw", "extend", "(LChunkStore;I[J)I"⟩ : MethodName) ∈ xT := xT_in (List.mem_append_right _ (List.mem_append_right _ (List.mem_append_left _ (List.mem_of_getElem? (i := 59) rfl))) : _ ∈ lw_tbl) rfl
theorem kw300 : Cond.codeWith (⟨"ChunkStoreLaw", "extend", "(LChunkStore;I[J)I"⟩ : MethodName) method_7_code 4 (some FieldType.int) [(0, 9, 12, 13), (0, 9, 15, 20), (0, 9, 18, 15), (0, 9, 21, 32)] ∈ xT := xT_in (List.mem_append_right _ (List.mem_append_right _ (List.mem_append_left _ (List.mem_of_getElem? (i := 60) rfl))) : _ ∈ lw_tbl) rfl
theorem kw301 : Cond.classLink "ChunkStoreLaw" 32 "java/lang/IndexOutOfBoundsException" ∈ xT := xT_in (List.mem_append_right _ (List.mem_append_right _ (List.mem_append_left _ (List.mem_of_getElem? (i := 61) rfl))) : _ ∈ lw_tbl) rfl
theorem kw302 : Cond.methodLink "ChunkStoreLaw" 29 (⟨"ChunkStore", "extend", "(I)I"⟩ : MethodName) ∈ xT := xT_in (List.mem_append_right _ (List.mem_append_right _ (List.mem_append_left _ (List.mem_of_getElem? (i := 62) rfl))) : _ ∈ lw_tbl) rfl
theorem kw303 : Cond.instanceMethod (⟨"ChunkStore", "extend", "(I)I"⟩ : MethodName) ∈ xT := xT_in (List.mem_append_right _ (List.mem_append_right _ (List.mem_append_left _ (List.mem_of_getElem? (i := 63) rfl))) : _ ∈ lw_tbl) rfl
theorem kw304 : Cond.selects "ChunkStore" (⟨"ChunkStore", "extend", "(I)I"⟩ : MethodName) (⟨"ChunkStore", "extend", "(I)I"⟩ : MethodName) ∈ xT := xT_in (List.mem_append_right _ (List.mem_append_right _ (List.mem_append_left _ (List.mem_of_getElem? (i := 64) rfl))) : _ ∈ lw_tbl) rfl
theorem kw305 : Cond.code (⟨"ChunkStore", "extend", "(I)I"⟩ : MethodName) prog_1_method_6_code 2 (some FieldType.int) ∈ xT := xT_in (List.mem_append_right _ (List.mem_append_right _ (List.mem_append_left _ (List.mem_of_getElem? (i := 65) rfl))) : _ ∈ lw_tbl) rfl
theorem kw306 : Cond.methodLink "ChunkStore" 87 (⟨"ChunkStore", "makeChunk", "(LChunkStore$FileEntry;)I"⟩ : MethodName) ∈ xT := xT_in (List.mem_append_right _ (List.mem_append_right _ (List.mem_append_left _ (List.mem_of_getElem? (i := 66) rfl))) : _ ∈ lw_tbl) rfl
theorem kw308 : Cond.instanceMethod (⟨"ChunkStore", "makeChunk", "(LChunkStore$FileEntry;)I"⟩ : MethodName) ∈ xT := xT_in (List.mem_append_right _ (List.mem_append_right _ (List.mem_append_left _ (List.mem_of_getElem? (i := 68) rfl))) : _ ∈ lw_tbl) rfl
theorem kw309 : Cond.code (⟨"ChunkStore", "makeChunk", "(LChunkStore$FileEntry;)I"⟩ : MethodName) prog_1_method_32_code 5 (some FieldType.int) ∈ xT := xT_in (List.mem_append_right _ (List.mem_append_right _ (List.mem_append_left _ (List.mem_of_getElem? (i := 69) rfl))) : _ ∈ lw_tbl) rfl
theorem kw310 : Cond.classLink "ChunkStore" 216 "java/lang/IndexOutOfBoundsException" ∈ xT := xT_in (List.mem_append_right _ (List.mem_append_right _ (List.mem_append_left _ (List.mem_of_getElem? (i := 70) rfl))) : _ ∈ lw_tbl) rfl
theorem kw311 : Cond.instantiable "java/lang/IndexOutOfBoundsException" 6 ∈ xT := xT_in (List.mem_append_right _ (List.mem_append_right _ (List.mem_append_left _ (List.mem_of_getElem? (i := 71) rfl))) : _ ∈ lw_tbl) rfl
theorem kn312 : Cond.castable "java/lang/IndexOutOfBoundsException" "java/lang/IndexOutOfBoundsException" ∈ xN := xN_in (List.mem_append_right _ (List.mem_append_right _ (List.mem_append_left _ (List.mem_of_getElem? (i := 72) rfl))) : _ ∈ lw_tbl) rfl
theorem kw313 : Cond.selects "java/lang/IndexOutOfBoundsException" (⟨"java/lang/Throwable", "fillInStackTrace", "(I)Ljava/lang/Throwable;"⟩ : MethodName) (⟨"java/lang/Throwable", "fillInStackTrace", "(I)Ljava/lang/Throwable;"⟩ : MethodName) ∈ xT := xT_in (List.mem_append_right _ (List.mem_append_right _ (List.mem_append_left _ (List.mem_of_getElem? (i := 73) rfl))) : _ ∈ lw_tbl) rfl
theorem kw314 : Cond.lays "java/lang/IndexOutOfBoundsException" "java/lang/Throwable" "cause" "Ljava/lang/Throwable;" ∈ xT := xT_in (List.mem_append_right _ (List.mem_append_right _ (List.mem_append_left _ (List.mem_of_getElem? (i := 74) rfl))) : _ ∈ lw_tbl) rfl
theorem kw315 : Cond.lays "java/lang/IndexOutOfBoundsException" "java/lang/Throwable" "stackTrace" "[Ljava/lang/StackTraceElement;" ∈ xT := xT_in (List.mem_append_right _ (List.mem_append_right _ (List.mem_append_left _ (List.mem_of_getElem? (i := 75) rfl))) : _ ∈ lw_tbl) rfl
theorem kw316 : Cond.lays "java/lang/IndexOutOfBoundsException" "java/lang/Throwable" "suppressedExceptions" "Ljava/util/List;" ∈ xT := xT_in (List.mem_append_right _ (List.mem_append_right _ (List.mem_append_left _ (List.mem_of_getElem? (i := 76) rfl))) : _ ∈ lw_tbl) rfl
theorem kw317 : Cond.lays "java/lang/IndexOutOfBoundsException" "java/lang/Throwable" "detailMessage" "Ljava/lang/String;" ∈ xT := xT_in (List.mem_append_right _ (List.mem_append_right _ (List.mem_append_left _ (List.mem_of_getElem? (i := 77) rfl))) : _ ∈ lw_tbl) rfl
theorem kw318 : Cond.lays "java/lang/IndexOutOfBoundsException" "java/lang/Throwable" "backtrace" "Ljava/lang/Object;" ∈ xT := xT_in (List.mem_append_right _ (List.mem_append_right _ (List.mem_append_left _ (List.mem_of_getElem? (i := 78) rfl))) : _ ∈ lw_tbl) rfl
theorem kw320 : Cond.methodLink "ChunkStore" 220 (⟨"java/lang/IndexOutOfBoundsException", "<init>", "(Ljava/lang/String;)V"⟩ : MethodName) ∈ xT := xT_in (List.mem_append_right _ (List.mem_append_right _ (List.mem_append_left _ (List.mem_of_getElem? (i := 80) rfl))) : _ ∈ lw_tbl) rfl
theorem kw321 : Cond.instanceMethod (⟨"java/lang/IndexOutOfBoundsException", "<init>", "(Ljava/lang/String;)V"⟩ : MethodName) ∈ xT := xT_in (List.mem_append_right _ (List.mem_append_right _ (List.mem_append_left _ (List.mem_of_getElem? (i := 81) rfl))) : _ ∈ lw_tbl) rfl
theorem kw322 : Cond.code (⟨"java/lang/IndexOutOfBoundsException", "<init>", "(Ljava/lang/String;)V"⟩ : MethodName) prog_12_method_2_code 2 none ∈ xT := xT_in (List.mem_append_right _ (List.mem_append_right _ (List.mem_append_left _ (List.mem_of_getElem? (i := 82) rfl))) : _ ∈ lw_tbl) rfl
theorem kw323 : Cond.methodLink "java/lang/IndexOutOfBoundsException" 7 (⟨"java/lang/RuntimeException", "<init>", "(Ljava/lang/String;)V"⟩ : MethodName) ∈ xT := xT_in (List.mem_append_right _ (List.mem_append_right _ (List.mem_append_left _ (List.mem_of_getElem? (i := 83) rfl))) : _ ∈ lw_tbl) rfl
theorem kw324 : Cond.lays "java/lang/IndexOutOfBoundsException" "java/lang/Throwable" "depth" "I" ∈ xT := xT_in (List.mem_append_right _ (List.mem_append_right _ (List.mem_append_left _ (List.mem_of_getElem? (i := 84) rfl))) : _ ∈ lw_tbl) rfl
theorem kw325 : Cond.superclass "java/lang/IndexOutOfBoundsException" "java/lang/RuntimeException" ∈ xT := xT_in (List.mem_append_right _ (List.mem_append_right _ (List.mem_append_left _ (List.mem_of_getElem? (i := 85) rfl))) : _ ∈ lw_tbl) rfl
theorem kw326 : Cond.methodLink "ChunkStore" 231 (⟨"ChunkStore", "choose", "(II)I"⟩ : MethodName) ∈ xT := xT_in (List.mem_append_right _ (List.mem_append_right _ (List.mem_append_left _ (List.mem_of_getElem? (i := 86) rfl))) : _ ∈ lw_tbl) rfl
theorem kw328 : Cond.instanceMethod (⟨"ChunkStore", "choose", "(II)I"⟩ : MethodName) ∈ xT := xT_in (List.mem_append_right _ (List.mem_append_right _ (List.mem_append_left _ (List.mem_of_getElem? (i := 88) rfl))) : _ ∈ lw_tbl) rfl
theorem kw329 : Cond.code (⟨"ChunkStore", "choose", "(II)I"⟩ : MethodName) prog_1_method_31_code 6 (some FieldType.int) ∈ xT := xT_in (List.mem_append_right _ (List.mem_append_right _ (List.mem_append_left _ (List.mem_of_getElem? (i := 89) rfl))) : _ ∈ lw_tbl) rfl
theorem kw330 : Cond.methodLink "ChunkStore" 164 (⟨"ChunkStore", "lightest", "(II)I"⟩ : MethodName) ∈ xT := xT_in (List.mem_append_right _ (List.mem_append_right _ (List.mem_append_left _ (List.mem_of_getElem? (i := 90) rfl))) : _ ∈ lw_tbl) rfl
theorem kw332 : Cond.instanceMethod (⟨"ChunkStore", "lightest", "(II)I"⟩ : MethodName) ∈ xT := xT_in (List.mem_append_right _ (List.mem_append_right _ (List.mem_append_left _ (List.mem_of_getElem? (i := 92) rfl))) : _ ∈ lw_tbl) rfl
theorem kw333 : Cond.code (⟨"ChunkStore", "lightest", "(II)I"⟩ : MethodName) prog_1_method_30_code 7 (some FieldType.int) ∈ xT := xT_in (List.mem_append_right _ (List.mem_append_right _ (List.mem_append_left _ (List.mem_of_getElem? (i := 93) rfl))) : _ ∈ lw_tbl) rfl
theorem kn334 : Cond.methodLinkNest "ChunkStore" 225 (⟨"ChunkStore$Server", "isFull", "()Z"⟩ : MethodName) "ChunkStore" ∈ xN := xN_in (List.mem_append_right _ (List.mem_append_right _ (List.mem_append_left _ (List.mem_of_getElem? (i := 94) rfl))) : _ ∈ lw_tbl) rfl
theorem kw336 : Cond.instanceMethod (⟨"ChunkStore$Server", "isFull", "()Z"⟩ : MethodName) ∈ xT := xT_in (List.mem_append_right _ (List.mem_append_right _ (List.mem_append_left _ (List.mem_of_getElem? (i := 96) rfl))) : _ ∈ lw_tbl) rfl
theorem kw337 : Cond.code (⟨"ChunkStore$Server", "isFull", "()Z"⟩ : MethodName) prog_5_method_3_code 1 (some FieldType.boolean) ∈ xT := xT_in (List.mem_append_right _ (List.mem_append_right _ (List.mem_append_left _ (List.mem_of_getElem? (i := 97) rfl))) : _ ∈ lw_tbl) rfl
theorem kn338 : Cond.methodLinkNest "ChunkStore" 154 (⟨"ChunkStore$Server", "has", "(I)Z"⟩ : MethodName) "ChunkStore" ∈ xN := xN_in (List.mem_append_right _ (List.mem_append_right _ (List.mem_append_left _ (List.mem_of_getElem? (i := 98) rfl))) : _ ∈ lw_tbl) rfl
theorem kw340 : Cond.instanceMethod (⟨"ChunkStore$Server", "has", "(I)Z"⟩ : MethodName) ∈ xT := xT_in (List.mem_append_right _ (List.mem_append_right _ (List.mem_append_left _ (List.mem_of_getElem? (i := 100) rfl))) : _ ∈ lw_tbl) rfl
theorem kw341 : Cond.code (⟨"ChunkStore$Server", "has", "(I)Z"⟩ : MethodName) prog_5_method_2_code 2 (some FieldType.boolean) ∈ xT := xT_in (List.mem_append_right _ (List.mem_append_right _ (List.mem_append_left _ (List.mem_of_getElem? (i := 101) rfl))) : _ ∈ lw_tbl) rfl
theorem kw342 : Cond.methodLink "ChunkStore" 118 (⟨"ChunkStore", "isIn", "(II)Z"⟩ : MethodName) ∈ xT := xT_in (List.mem_append_right _ (List.mem_append_right _ (List.mem_append_left _ (List.mem_of_getElem? (i := 102) rfl))) : _ ∈ lw_tbl) rfl
theorem kw343 : Cond.static (⟨"ChunkStore", "isIn", "(II)Z"⟩ : MethodName) ∈ xT := xT_in (List.mem_append_right _ (List.mem_append_right _ (List.mem_append_left _ (List.mem_of_getElem? (i := 103) rfl))) : _ ∈ lw_tbl) rfl
theorem kw344 : Cond.code (⟨"ChunkStore", "isIn", "(II)Z"⟩ : MethodName) prog_1_method_26_code 2 (some FieldType.boolean) ∈ xT := xT_in (List.mem_append_right _ (List.mem_append_right _ (List.mem_append_left _ (List.mem_of_getElem? (i := 104) rfl))) : _ ∈ lw_tbl) rfl
theorem kw346 : Cond.methodLink "ChunkStore" 236 (⟨"ChunkStore", "startChunk", "(I)V"⟩ : MethodName) ∈ xT := xT_in (List.mem_append_right _ (List.mem_append_right _ (List.mem_append_left _ (List.mem_of_getElem? (i := 106) rfl))) : _ ∈ lw_tbl) rfl
theorem kw348 : Cond.instanceMethod (⟨"ChunkStore", "startChunk", "(I)V"⟩ : MethodName) ∈ xT := xT_in (List.mem_append_right _ (List.mem_append_right _ (List.mem_append_left _ (List.mem_of_getElem? (i := 108) rfl))) : _ ∈ lw_tbl) rfl
theorem kw349 : Cond.code (⟨"ChunkStore", "startChunk", "(I)V"⟩ : MethodName) prog_1_method_33_code 3 none ∈ xT := xT_in (List.mem_append_right _ (List.mem_append_right _ (List.mem_append_left _ (List.mem_of_getElem? (i := 109) rfl))) : _ ∈ lw_tbl) rfl
theorem kn350 : Cond.methodLinkNest "ChunkStore" 239 (⟨"ChunkStore$Server", "addEmpty", "(I)V"⟩ : MethodName) "ChunkStore" ∈ xN := xN_in (List.mem_append_right _ (List.mem_append_right _ (List.mem_append_left _ (List.mem_of_getElem? (i := 110) rfl))) : _ ∈ lw_tbl) rfl
theorem kw352 : Cond.instanceMethod (⟨"ChunkStore$Server", "addEmpty", "(I)V"⟩ : MethodName) ∈ xT := xT_in (List.mem_append_right _ (List.mem_append_right _ (List.mem_append_left _ (List.mem_of_getElem? (i := 112) rfl))) : _ ∈ lw_tbl) rfl
theorem kw353 : Cond.code (⟨"ChunkStore$Server", "addEmpty", "(I)V"⟩ : MethodName) prog_5_method_4_code 2 none ∈ xT := xT_in (List.mem_append_right _ (List.mem_append_right _ (List.mem_append_left _ (List.mem_of_getElem? (i := 113) rfl))) : _ ∈ lw_tbl) rfl
theorem kw354 : Cond.methodLink "ChunkStoreLaw" 107 (⟨"ChunkStoreLaw", "locate", "(LChunkStore;III[J)I"⟩ : MethodName) ∈ xT := xT_in (List.mem_append_right _ (List.mem_append_right _ (List.mem_append_left _ (List.mem_of_getElem? (i := 114) rfl))) : _ ∈ lw_tbl) rfl
theorem kw355 : Cond.static (⟨"ChunkStoreLaw", "locate", "(LChunkStore;III[J)I"⟩ : MethodName) ∈ xT := xT_in (List.mem_append_right _ (List.mem_append_right _ (List.mem_append_left _ (List.mem_of_getElem? (i := 115) rfl))) : _ ∈ lw_tbl) rfl
theorem kw356 : Cond.codeWith (⟨"ChunkStoreLaw", "locate", "(LChunkStore;III[J)I"⟩ : MethodName) method_8_code 6 (some FieldType.int) [(0, 12, 15, 13), (0, 12, 19, 20), (0, 12, 23, 32)] ∈ xT := xT_in (List.mem_append_right _ (List.mem_append_right _ (List.mem_append_left _ (List.mem_of_getElem? (i := 116) rfl))) : _ ∈ lw_tbl) rfl
theorem kw357 : Cond.methodLink "ChunkStoreLaw" 34 (⟨"ChunkStore", "locate", "(III)I"⟩ : MethodName) ∈ xT := xT_in (List.mem_append_right _ (List.mem_append_right _ (List.mem_append_left _ (List.mem_of_getElem? (i := 117) rfl))) : _ ∈ lw_tbl) rfl
theorem kw358 : Cond.instanceMethod (⟨"ChunkStore", "locate", "(III)I"⟩ : MethodName) ∈ xT := xT_in (List.mem_append_right _ (List.mem_append_right _ (List.mem_append_left _ (List.mem_of_getElem? (i := 118) rfl))) : _ ∈ lw_tbl) rfl
theorem kw359 : Cond.selects "ChunkStore" (⟨"ChunkStore", "locate", "(III)I"⟩ : MethodName) (⟨"ChunkStore", "locate", "(III)I"⟩ : MethodName) ∈ xT := xT_in (List.mem_append_right _ (List.mem_append_right _ (List.mem_append_left _ (List.mem_of_getElem? (i := 119) rfl))) : _ ∈ lw_tbl) rfl
theorem kw360 : Cond.code (⟨"ChunkStore", "locate", "(III)I"⟩ : MethodName) prog_1_method_7_code 4 (some FieldType.int) ∈ xT := xT_in (List.mem_append_right _ (List.mem_append_right _ (List.mem_append_left _ (List.mem_of_getElem? (i := 120) rfl))) : _ ∈ lw_tbl) rfl
theorem kw361 : Cond.methodLink "ChunkStore" 91 (⟨"ChunkStore", "find", "(III)LChunkStore$Kept;"⟩ : MethodName) ∈ xT := xT_in (List.mem_append_right _ (List.mem_append_right _ (List.mem_append_left _ (List.mem_of_getElem? (i := 121) rfl))) : _ ∈ lw_tbl) rfl
theorem kw363 : Cond.instanceMethod (⟨"ChunkStore", "find", "(III)LChunkStore$Kept;"⟩ : MethodName) ∈ xT := xT_in (List.mem_append_right _ (List.mem_append_right _ (List.mem_append_left _ (List.mem_of_getElem? (i := 123) rfl))) : _ ∈ lw_tbl) rfl
theorem kw364 : Cond.code (⟨"ChunkStore", "find", "(III)LChunkStore$Kept;"⟩ : MethodName) prog_1_method_34_code 7 (some (FieldType.object "ChunkStore$Kept")) ∈ xT := xT_in (List.mem_append_right _ (List.mem_append_right _ (List.mem_append_left _ (List.mem_of_getElem? (i := 124) rfl))) : _ ∈ lw_tbl) rfl
theorem kw365 : Cond.methodLink "ChunkStore" 98 (⟨"ChunkStore", "checkPlace", "(LChunkStore$FileEntry;I)V"⟩ : MethodName) ∈ xT := xT_in (List.mem_append_right _ (List.mem_append_right _ (List.mem_append_left _ (List.mem_of_getElem? (i := 125) rfl))) : _ ∈ lw_tbl) rfl
theorem kw366 : Cond.static (⟨"ChunkStore", "checkPlace", "(LChunkStore$FileEntry;I)V"⟩ : MethodName) ∈ xT := xT_in (List.mem_append_right _ (List.mem_append_right _ (List.mem_append_left _ (List.mem_of_getElem? (i := 126) rfl))) : _ ∈ lw_tbl) rfl
theorem kw367 : Cond.code (⟨"ChunkStore", "checkPlace", "(LChunkStore$FileEntry;I)V"⟩ : MethodName) prog_1_method_21_code 2 none ∈ xT := xT_in (List.mem_append_right _ (List.mem_append_right _ (List.mem_append_left _ (List.mem_of_getElem? (i := 127) rfl))) : _ ∈ lw_tbl) rfl
theorem kw369 : Cond.constantDouble "ChunkStore" 245 (4617315517961601024 : UInt64) ∈ xT := xT_in (List.mem_append_right _ (List.mem_append_right _ (List.mem_append_left _ (List.mem_of_getElem? (i := 129) rfl))) : _ ∈ lw_tbl) rfl
theorem kw370 : Cond.methodLink "ChunkStoreLaw" 111 (⟨"ChunkStoreLaw", "write", "(LChunkStore;IIII[J)I"⟩ : MethodName) ∈ xT := xT_in (List.mem_append_right _ (List.mem_append_right _ (List.mem_append_left _ (List.mem_of_getElem? (i := 130) rfl))) : _ ∈ lw_tbl) rfl
theorem kw371 : Cond.static (⟨"ChunkStoreLaw", "write", "(LChunkStore;IIII[J)I"⟩ : MethodName) ∈ xT := xT_in (List.mem_append_right _ (List.mem_append_right _ (List.mem_append_left _ (List.mem_of_getElem? (i := 131) rfl))) : _ ∈ lw_tbl) rfl
theorem kw372 : Cond.codeWith (⟨"ChunkStoreLaw", "write", "(LChunkStore;IIII[J)I"⟩ : MethodName) method_9_code 7 (some FieldType.int) [(0, 14, 17, 13), (0, 14, 21, 20), (0, 14, 25, 15), (0, 14, 29, 42), (0, 14, 33, 32)] ∈ xT := xT_in (List.mem_append_right _ (List.mem_append_right _ (List.mem_append_left _ (List.mem_of_getElem? (i := 132) rfl))) : _ ∈ lw_tbl) rfl
theorem kw373 : Cond.classLink "ChunkStoreLaw" 42 "java/lang/UnsupportedOperationException" ∈ xT := xT_in (List.mem_append_right _ (List.mem_append_right _ (List.mem_append_left _ (List.mem_of_getElem? (i := 133) rfl))) : _ ∈ lw_tbl) rfl
theorem kw374 : Cond.methodLink "ChunkStoreLaw" 38 (⟨"ChunkStore", "write", "(IIII)I"⟩ : MethodName) ∈ xT := xT_in (List.mem_append_right _ (List.mem_append_right _ (List.mem_append_left _ (List.mem_of_getElem? (i := 134) rfl))) : _ ∈ lw_tbl) rfl
theorem kw375 : Cond.instanceMethod (⟨"ChunkStore", "write", "(IIII)I"⟩ : MethodName) ∈ xT := xT_in (List.mem_append_right _ (List.mem_append_right _ (List.mem_append_left _ (List.mem_of_getElem? (i := 135) rfl))) : _ ∈ lw_tbl) rfl
theorem kw376 : Cond.selects "ChunkStore" (⟨"ChunkStore", "write", "(IIII)I"⟩ : MethodName) (⟨"ChunkStore", "write", "(IIII)I"⟩ : MethodName) ∈ xT := xT_in (List.mem_append_right _ (List.mem_append_right _ (List.mem_append_left _ (List.mem_of_getElem? (i := 136) rfl))) : _ ∈ lw_tbl) rfl
theorem kw377 : Cond.code (⟨"ChunkStore", "write", "(IIII)I"⟩ : MethodName) prog_1_method_8_code 7 (some FieldType.int) ∈ xT := xT_in (List.mem_append_right _ (List.mem_append_right _ (List.mem_append_left _ (List.mem_of_getElem? (i := 137) rfl))) : _ ∈ lw_tbl) rfl
theorem kw378 : Cond.methodLink "ChunkStore" 102 (⟨"ChunkStore", "lease", "(LChunkStore$FileEntry;I)I"⟩ : MethodName) ∈ xT := xT_in (List.mem_append_right _ (List.mem_append_right _ (List.mem_append_left _ (List.mem_of_getElem? (i := 138) rfl))) : _ ∈ lw_tbl) rfl
theorem kw380 : Cond.instanceMethod (⟨"ChunkStore", "lease", "(LChunkStore$FileEntry;I)I"⟩ : MethodName) ∈ xT := xT_in (List.mem_append_right _ (List.mem_append_right _ (List.mem_append_left _ (List.mem_of_getElem? (i := 140) rfl))) : _ ∈ lw_tbl) rfl
theorem kw381 : Cond.code (⟨"ChunkStore", "lease", "(LChunkStore$FileEntry;I)I"⟩ : MethodName) prog_1_method_35_code 5 (some FieldType.int) ∈ xT := xT_in (List.mem_append_right _ (List.mem_append_right _ (List.mem_append_left _ (List.mem_of_getElem? (i := 141) rfl))) : _ ∈ lw_tbl) rfl
theorem kw382 : Cond.methodLink "ChunkStore" 167 (⟨"ChunkStore", "liveHolders", "(I)I"⟩ : MethodName) ∈ xT := xT_in (List.mem_append_right _ (List.mem_append_right _ (List.mem_append_left _ (List.mem_of_getElem? (i := 142) rfl))) : _ ∈ lw_tbl) rfl
theorem kw384 : Cond.instanceMethod (⟨"ChunkStore", "liveHolders", "(I)I"⟩ : MethodName) ∈ xT := xT_in (List.mem_append_right _ (List.mem_append_right _ (List.mem_append_left _ (List.mem_of_getElem? (i := 144) rfl))) : _ ∈ lw_tbl) rfl
theorem kw385 : Cond.code (⟨"ChunkStore", "liveHolders", "(I)I"⟩ : MethodName) prog_1_method_28_code 4 (some FieldType.int) ∈ xT := xT_in (List.mem_append_right _ (List.mem_append_right _ (List.mem_append_left _ (List.mem_of_getElem? (i := 145) rfl))) : _ ∈ lw_tbl) rfl
theorem kw386 : Cond.methodLink "ChunkStore" 210 (⟨"ChunkStore", "isLeased", "(LChunkStore$Chunk;)Z"⟩ : MethodName) ∈ xT := xT_in (List.mem_append_right _ (List.mem_append_right _ (List.mem_append_left _ (List.mem_of_getElem? (i := 146) rfl))) : _ ∈ lw_tbl) rfl
theorem kw388 : Cond.instanceMethod (⟨"ChunkStore", "isLeased", "(LChunkStore$Chunk;)Z"⟩ : MethodName) ∈ xT := xT_in (List.mem_append_right _ (List.mem_append_right _ (List.mem_append_left _ (List.mem_of_getElem? (i := 148) rfl))) : _ ∈ lw_tbl) rfl
theorem kw389 : Cond.code (⟨"ChunkStore", "isLeased", "(LChunkStore$Chunk;)Z"⟩ : MethodName) prog_1_method_29_code 2 (some FieldType.boolean) ∈ xT := xT_in (List.mem_append_right _ (List.mem_append_right _ (List.mem_append_left _ (List.mem_of_getElem? (i := 149) rfl))) : _ ∈ lw_tbl) rfl
theorem kw391 : Cond.methodLink "ChunkStore" 249 (⟨"ChunkStore", "splitOff", "(LChunkStore$FileEntry;II)I"⟩ : MethodName) ∈ xT := xT_in (List.mem_append_right _ (List.mem_append_right _ (List.mem_append_left _ (List.mem_of_getElem? (i := 151) rfl))) : _ ∈ lw_tbl) rfl
theorem kw393 : Cond.instanceMethod (⟨"ChunkStore", "splitOff", "(LChunkStore$FileEntry;II)I"⟩ : MethodName) ∈ xT := xT_in (List.mem_append_right _ (List.mem_append_right _ (List.mem_append_left _ (List.mem_of_getElem? (i := 153) rfl))) : _ ∈ lw_tbl) rfl
theorem kw394 : Cond.code (⟨"ChunkStore", "splitOff", "(LChunkStore$FileEntry;II)I"⟩ : MethodName) prog_1_method_36_code 7 (some FieldType.int) ∈ xT := xT_in (List.mem_append_right _ (List.mem_append_right _ (List.mem_append_left _ (List.mem_of_getElem? (i := 154) rfl))) : _ ∈ lw_tbl) rfl
theorem kw396 : Cond.methodLink "ChunkStore" 260 (⟨"ChunkStore", "anyFull", "(I)Z"⟩ : MethodName) ∈ xT := xT_in (List.mem_append_right _ (List.mem_append_right _ (List.mem_append_left _ (List.mem_of_getElem? (i := 156) rfl))) : _ ∈ lw_tbl) rfl
theorem kw398 : Cond.instanceMethod (⟨"ChunkStore", "anyFull", "(I)Z"⟩ : MethodName) ∈ xT := xT_in (List.mem_append_right _ (List.mem_append_right _ (List.mem_append_left _ (List.mem_of_getElem? (i := 158) rfl))) : _ ∈ lw_tbl) rfl
theorem kw399 : Cond.code (⟨"ChunkStore", "anyFull", "(I)Z"⟩ : MethodName) prog_1_method_37_code 3 (some FieldType.boolean) ∈ xT := xT_in (List.mem_append_right _ (List.mem_append_right _ (List.mem_append_left _ (List.mem_of_getElem? (i := 159) rfl))) : _ ∈ lw_tbl) rfl
theorem kw400 : Cond.classLink "ChunkStore" 122 "java/lang/UnsupportedOperationException" ∈ xT := xT_in (List.mem_append_right _ (List.mem_append_right _ (List.mem_append_left _ (List.mem_of_getElem? (i := 160) rfl))) : _ ∈ lw_tbl) rfl
theorem kw401 : Cond.instantiable "java/lang/UnsupportedOperationException" 6 ∈ xT := xT_in (List.mem_append_right _ (List.mem_append_right _ (List.mem_append_left _ (List.mem_of_getElem? (i := 161) rfl))) : _ ∈ lw_tbl) rfl
theorem kn402 : Cond.castable "java/lang/UnsupportedOperationException" "java/lang/UnsupportedOperationException" ∈ xN := xN_in (List.mem_append_right _ (List.mem_append_right _ (List.mem_append_left _ (List.mem_of_getElem? (i := 162) rfl))) : _ ∈ lw_tbl) rfl
theorem kw403 : Cond.selects "java/lang/UnsupportedOperationException" (⟨"java/lang/Throwable", "fillInStackTrace", "(I)Ljava/lang/Throwable;"⟩ : MethodName) (⟨"java/lang/Throwable", "fillInStackTrace", "(I)Ljava/lang/Throwable;"⟩ : MethodName) ∈ xT := xT_in (List.mem_append_right _ (List.mem_append_right _ (List.mem_append_left _ (List.mem_of_getElem? (i := 163) rfl))) : _ ∈ lw_tbl) rfl
theorem kw404 : Cond.lays "java/lang/UnsupportedOperationException" "java/lang/Throwable" "cause" "Ljava/lang/Throwable;" ∈ xT := xT_in (List.mem_append_right _ (List.mem_append_right _ (List.mem_append_left _ (List.mem_of_getElem? (i := 164) rfl))) : _ ∈ lw_tbl) rfl
theorem kw405 : Cond.lays "java/lang/UnsupportedOperationException" "java/lang/Throwable" "stackTrace" "[Ljava/lang/StackTraceElement;" ∈ xT := xT_in (List.mem_append_right _ (List.mem_append_right _ (List.mem_append_left _ (List.mem_of_getElem? (i := 165) rfl))) : _ ∈ lw_tbl) rfl
theorem kw406 : Cond.lays "java/lang/UnsupportedOperationException" "java/lang/Throwable" "suppressedExceptions" "Ljava/util/List;" ∈ xT := xT_in (List.mem_append_right _ (List.mem_append_right _ (List.mem_append_left _ (List.mem_of_getElem? (i := 166) rfl))) : _ ∈ lw_tbl) rfl
theorem kw407 : Cond.lays "java/lang/UnsupportedOperationException" "java/lang/Throwable" "detailMessage" "Ljava/lang/String;" ∈ xT := xT_in (List.mem_append_right _ (List.mem_append_right _ (List.mem_append_left _ (List.mem_of_getElem? (i := 167) rfl))) : _ ∈ lw_tbl) rfl
theorem kw408 : Cond.lays "java/lang/UnsupportedOperationException" "java/lang/Throwable" "backtrace" "Ljava/lang/Object;" ∈ xT := xT_in (List.mem_append_right _ (List.mem_append_right _ (List.mem_append_left _ (List.mem_of_getElem? (i := 168) rfl))) : _ ∈ lw_tbl) rfl
theorem kw410 : Cond.methodLink "ChunkStore" 126 (⟨"java/lang/UnsupportedOperationException", "<init>", "(Ljava/lang/String;)V"⟩ : MethodName) ∈ xT := xT_in (List.mem_append_right _ (List.mem_append_right _ (List.mem_append_left _ (List.mem_of_getElem? (i := 170) rfl))) : _ ∈ lw_tbl) rfl
theorem kw411 : Cond.instanceMethod (⟨"java/lang/UnsupportedOperationException", "<init>", "(Ljava/lang/String;)V"⟩ : MethodName) ∈ xT := xT_in (List.mem_append_right _ (List.mem_append_right _ (List.mem_append_left _ (List.mem_of_getElem? (i := 171) rfl))) : _ ∈ lw_tbl) rfl
theorem kw412 : Cond.code (⟨"java/lang/UnsupportedOperationException", "<init>", "(Ljava/lang/String;)V"⟩ : MethodName) prog_18_method_2_code 2 none ∈ xT := xT_in (List.mem_append_right _ (List.mem_append_right _ (List.mem_append_left _ (List.mem_of_getElem? (i := 172) rfl))) : _ ∈ lw_tbl) rfl
theorem kw413 : Cond.methodLink "java/lang/UnsupportedOperationException" 7 (⟨"java/lang/RuntimeException", "<init>", "(Ljava/lang/String;)V"⟩ : MethodName) ∈ xT := xT_in (List.mem_append_right _ (List.mem_append_right _ (List.mem_append_left _ (List.mem_of_getElem? (i := 173) rfl))) : _ ∈ lw_tbl) rfl
theorem kw414 : Cond.lays "java/lang/UnsupportedOperationException" "java/lang/Throwable" "depth" "I" ∈ xT := xT_in (List.mem_append_right _ (List.mem_append_right _ (List.mem_append_left _ (List.mem_of_getElem? (i := 174) rfl))) : _ ∈ lw_tbl) rfl
theorem kw415 : Cond.superclass "java/lang/UnsupportedOperationException" "java/lang/RuntimeException" ∈ xT := xT_in (List.mem_append_right _ (List.mem_append_right _ (List.mem_append_left _ (List.mem_of_getElem? (i := 175) rfl))) : _ ∈ lw_tbl) rfl
theorem kn416 : Cond.methodLinkNest "ChunkStore" 175 (⟨"ChunkStore$Server", "addLike", "(ILChunkStore$Server;II)V"⟩ : MethodName) "ChunkStore" ∈ xN := xN_in (List.mem_append_right _ (List.mem_append_right _ (List.mem_append_left _ (List.mem_of_getElem? (i := 176) rfl))) : _ ∈ lw_tbl) rfl
theorem kw418 : Cond.instanceMethod (⟨"ChunkStore$Server", "addLike", "(ILChunkStore$Server;II)V"⟩ : MethodName) ∈ xT := xT_in (List.mem_append_right _ (List.mem_append_right _ (List.mem_append_left _ (List.mem_of_getElem? (i := 178) rfl))) : _ ∈ lw_tbl) rfl
theorem kw419 : Cond.code (⟨"ChunkStore$Server", "addLike", "(ILChunkStore$Server;II)V"⟩ : MethodName) prog_5_method_5_code 6 none ∈ xT := xT_in (List.mem_append_right _ (List.mem_append_right _ (List.mem_append_left _ (List.mem_of_getElem? (i := 179) rfl))) : _ ∈ lw_tbl) rfl
theorem kw420 : Cond.methodLink "ChunkStore" 253 (⟨"ChunkStore", "raiseVersion", "(II)V"⟩ : MethodName) ∈ xT := xT_in (List.mem_append_right _ (List.mem_append_right _ (List.mem_append_left _ (List.mem_of_getElem? (i := 180) rfl))) : _ ∈ lw_tbl) rfl
theorem kw422 : Cond.instanceMethod (⟨"ChunkStore", "raiseVersion", "(II)V"⟩ : MethodName) ∈ xT := xT_in (List.mem_append_right _ (List.mem_append_right _ (List.mem_append_left _ (List.mem_of_getElem? (i := 182) rfl))) : _ ∈ lw_tbl) rfl
theorem kw423 : Cond.code (⟨"ChunkStore", "raiseVersion", "(II)V"⟩ : MethodName) prog_1_method_38_code 5 none ∈ xT := xT_in (List.mem_append_right _ (List.mem_append_right _ (List.mem_append_left _ (List.mem_of_getElem? (i := 183) rfl))) : _ ∈ lw_tbl) rfl
theorem kw424 : Cond.constantDouble "ChunkStore" 256 (4621819117588971520 : UInt64) ∈ xT := xT_in (List.mem_append_right _ (List.mem_append_right _ (List.mem_append_left _ (List.mem_of_getElem? (i := 184) rfl))) : _ ∈ lw_tbl) rfl
theorem kw425 : Cond.methodLink "ChunkStore" 106 (⟨"ChunkStore", "setWordAtHolders", "(III)V"⟩ : MethodName) ∈ xT := xT_in (List.mem_append_right _ (List.mem_append_right _ (List.mem_append_left _ (List.mem_of_getElem? (i := 185) rfl))) : _ ∈ lw_tbl) rfl
theorem kw427 : Cond.instanceMethod (⟨"ChunkStore", "setWordAtHolders", "(III)V"⟩ : MethodName) ∈ xT := xT_in (List.mem_append_right _ (List.mem_append_right _ (List.mem_append_left _ (List.mem_of_getElem? (i := 187) rfl))) : _ ∈ lw_tbl) rfl
theorem kw428 : Cond.code (⟨"ChunkStore", "setWordAtHolders", "(III)V"⟩ : MethodName) prog_1_method_39_code 5 none ∈ xT := xT_in (List.mem_append_right _ (List.mem_append_right _ (List.mem_append_left _ (List.mem_of_getElem? (i := 188) rfl))) : _ ∈ lw_tbl) rfl
theorem kn429 : Cond.methodLinkNest "ChunkStore" 265 (⟨"ChunkStore$Server", "setWord", "(III)V"⟩ : MethodName) "ChunkStore" ∈ xN := xN_in (List.mem_append_right _ (List.mem_append_right _ (List.mem_append_left _ (List.mem_of_getElem? (i := 189) rfl))) : _ ∈ lw_tbl) rfl
theorem kw431 : Cond.instanceMethod (⟨"ChunkStore$Server", "setWord", "(III)V"⟩ : MethodName) ∈ xT := xT_in (List.mem_append_right _ (List.mem_append_right _ (List.mem_append_left _ (List.mem_of_getElem? (i := 191) rfl))) : _ ∈ lw_tbl) rfl
theorem kw432 : Cond.code (⟨"ChunkStore$Server", "setWord", "(III)V"⟩ : MethodName) prog_5_method_8_code 4 none ∈ xT := xT_in (List.mem_append_right _ (List.mem_append_right _ (List.mem_append_left _ (List.mem_of_getElem? (i := 192) rfl))) : _ ∈ lw_tbl) rfl
theorem kw433 : Cond.methodLink "ChunkStore$Server" 29 (⟨"java/lang/Math", "max", "(II)I"⟩ : MethodName) ∈ xT := xT_in (List.mem_append_right _ (List.mem_append_right _ (List.mem_append_left _ (List.mem_of_getElem? (i := 193) rfl))) : _ ∈ lw_tbl) rfl
theorem kw434 : Cond.static (⟨"java/lang/Math", "max", "(II)I"⟩ : MethodName) ∈ xT := xT_in (List.mem_append_right _ (List.mem_append_right _ (List.mem_append_left _ (List.mem_of_getElem? (i := 194) rfl))) : _ ∈ lw_tbl) rfl
theorem kw435 : Cond.code (⟨"java/lang/Math", "max", "(II)I"⟩ : MethodName) prog_14_method_65_code 2 (some FieldType.int) ∈ xT := xT_in (List.mem_append_right _ (List.mem_append_right _ (List.mem_append_left _ (List.mem_of_getElem? (i := 195) rfl))) : _ ∈ lw_tbl) rfl
theorem kw436 : Cond.methodLink "ChunkStoreLaw" 115 (⟨"ChunkStoreLaw", "append", "(LChunkStore;II[J)I"⟩ : MethodName) ∈ xT := xT_in (List.mem_append_right _ (List.mem_append_right _ (List.mem_append_left _ (List.mem_of_getElem? (i := 196) rfl))) : _ ∈ lw_tbl) rfl
theorem kw437 : Cond.static (⟨"ChunkStoreLaw", "append", "(LChunkStore;II[J)I"⟩ : MethodName) ∈ xT := xT_in (List.mem_append_right _ (List.mem_append_right _ (List.mem_append_left _ (List.mem_of_getElem? (i := 197) rfl))) : _ ∈ lw_tbl) rfl
theorem kw438 : Cond.codeWith (⟨"ChunkStoreLaw", "append", "(LChunkStore;II[J)I"⟩ : MethodName) method_10_code 5 (some FieldType.int) [(0, 10, 13, 13), (0, 10, 17, 20), (0, 10, 21, 15), (0, 10, 25, 42), (0, 10, 29, 32)] ∈ xT := xT_in (List.mem_append_right _ (List.mem_append_right _ (List.mem_append_left _ (List.mem_of_getElem? (i := 198) rfl))) : _ ∈ lw_tbl) rfl
theorem kw439 : Cond.methodLink "ChunkStoreLaw" 44 (⟨"ChunkStore", "append", "(II)I"⟩ : MethodName) ∈ xT := xT_in (List.mem_append_right _ (List.mem_append_right _ (List.mem_append_left _ (List.mem_of_getElem? (i := 199) rfl))) : _ ∈ lw_tbl) rfl
theorem kw440 : Cond.instanceMethod (⟨"ChunkStore", "append", "(II)I"⟩ : MethodName) ∈ xT := xT_in (List.mem_append_right _ (List.mem_append_right _ (List.mem_append_left _ (List.mem_of_getElem? (i := 200) rfl))) : _ ∈ lw_tbl) rfl
theorem kw441 : Cond.selects "ChunkStore" (⟨"ChunkStore", "append", "(II)I"⟩ : MethodName) (⟨"ChunkStore", "append", "(II)I"⟩ : MethodName) ∈ xT := xT_in (List.mem_append_right _ (List.mem_append_right _ (List.mem_append_left _ (List.mem_of_getElem? (i := 201) rfl))) : _ ∈ lw_tbl) rfl
theorem kw442 : Cond.code (⟨"ChunkStore", "append", "(II)I"⟩ : MethodName) prog_1_method_9_code 7 (some FieldType.int) ∈ xT := xT_in (List.mem_append_right _ (List.mem_append_right _ (List.mem_append_left _ (List.mem_of_getElem? (i := 202) rfl))) : _ ∈ lw_tbl) rfl
theorem kw443 : Cond.methodLink "ChunkStore" 111 (⟨"ChunkStore", "usedAtFirst", "(I)I"⟩ : MethodName) ∈ xT := xT_in (List.mem_append_right _ (List.mem_append_right _ (List.mem_append_left _ (List.mem_of_getElem? (i := 203) rfl))) : _ ∈ lw_tbl) rfl
theorem kw445 : Cond.instanceMethod (⟨"ChunkStore", "usedAtFirst", "(I)I"⟩ : MethodName) ∈ xT := xT_in (List.mem_append_right _ (List.mem_append_right _ (List.mem_append_left _ (List.mem_of_getElem? (i := 205) rfl))) : _ ∈ lw_tbl) rfl
theorem kw446 : Cond.code (⟨"ChunkStore", "usedAtFirst", "(I)I"⟩ : MethodName) prog_1_method_40_code 3 (some FieldType.int) ∈ xT := xT_in (List.mem_append_right _ (List.mem_append_right _ (List.mem_append_left _ (List.mem_of_getElem? (i := 206) rfl))) : _ ∈ lw_tbl) rfl
theorem kw447 : Cond.methodLink "ChunkStore" 170 (⟨"ChunkStore", "first", "(I)I"⟩ : MethodName) ∈ xT := xT_in (List.mem_append_right _ (List.mem_append_right _ (List.mem_append_left _ (List.mem_of_getElem? (i := 207) rfl))) : _ ∈ lw_tbl) rfl
theorem kw448 : Cond.static (⟨"ChunkStore", "first", "(I)I"⟩ : MethodName) ∈ xT := xT_in (List.mem_append_right _ (List.mem_append_right _ (List.mem_append_left _ (List.mem_of_getElem? (i := 208) rfl))) : _ ∈ lw_tbl) rfl
theorem kw449 : Cond.code (⟨"ChunkStore", "first", "(I)I"⟩ : MethodName) prog_1_method_27_code 2 (some FieldType.int) ∈ xT := xT_in (List.mem_append_right _ (List.mem_append_right _ (List.mem_append_left _ (List.mem_of_getElem? (i := 209) rfl))) : _ ∈ lw_tbl) rfl
theorem kw450 : Cond.methodLink "ChunkStoreLaw" 118 (⟨"ChunkStoreLaw", "read", "(LChunkStore;IIIII[J)I"⟩ : MethodName) ∈ xT := xT_in (List.mem_append_right _ (List.mem_append_right _ (List.mem_append_left _ (List.mem_of_getElem? (i := 210) rfl))) : _ ∈ lw_tbl) rfl
theorem kw451 : Cond.static (⟨"ChunkStoreLaw", "read", "(LChunkStore;IIIII[J)I"⟩ : MethodName) ∈ xT := xT_in (List.mem_append_right _ (List.mem_append_right _ (List.mem_append_left _ (List.mem_of_getElem? (i := 211) rfl))) : _ ∈ lw_tbl) rfl
theorem kw452 : Cond.codeWith (⟨"ChunkStoreLaw", "read", "(LChunkStore;IIIII[J)I"⟩ : MethodName) method_11_code 8 (some FieldType.int) [(0, 16, 19, 13), (0, 16, 23, 20), (0, 16, 27, 15), (0, 16, 31, 42), (0, 16, 35, 32)] ∈ xT := xT_in (List.mem_append_right _ (List.mem_append_right _ (List.mem_append_left _ (List.mem_of_getElem? (i := 212) rfl))) : _ ∈ lw_tbl) rfl
theorem kw453 : Cond.methodLink "ChunkStoreLaw" 47 (⟨"ChunkStore", "read", "(IIIII)I"⟩ : MethodName) ∈ xT := xT_in (List.mem_append_right _ (List.mem_append_right _ (List.mem_append_left _ (List.mem_of_getElem? (i := 213) rfl))) : _ ∈ lw_tbl) rfl
theorem kw454 : Cond.instanceMethod (⟨"ChunkStore", "read", "(IIIII)I"⟩ : MethodName) ∈ xT := xT_in (List.mem_append_right _ (List.mem_append_right _ (List.mem_append_left _ (List.mem_of_getElem? (i := 214) rfl))) : _ ∈ lw_tbl) rfl
theorem kw455 : Cond.selects "ChunkStore" (⟨"ChunkStore", "read", "(IIIII)I"⟩ : MethodName) (⟨"ChunkStore", "read", "(IIIII)I"⟩ : MethodName) ∈ xT := xT_in (List.mem_append_right _ (List.mem_append_right _ (List.mem_append_left _ (List.mem_of_getElem? (i := 215) rfl))) : _ ∈ lw_tbl) rfl
theorem kw456 : Cond.code (⟨"ChunkStore", "read", "(IIIII)I"⟩ : MethodName) prog_1_method_10_code 8 (some FieldType.int) ∈ xT := xT_in (List.mem_append_right _ (List.mem_append_right _ (List.mem_append_left _ (List.mem_of_getElem? (i := 216) rfl))) : _ ∈ lw_tbl) rfl
theorem kn459 : Cond.methodLinkNest "ChunkStore" 142 (⟨"ChunkStore$Server", "word", "(II)I"⟩ : MethodName) "ChunkStore" ∈ xN := xN_in (List.mem_append_right _ (List.mem_append_right _ (List.mem_append_left _ (List.mem_of_getElem? (i := 219) rfl))) : _ ∈ lw_tbl) rfl
theorem kw461 : Cond.instanceMethod (⟨"ChunkStore$Server", "word", "(II)I"⟩ : MethodName) ∈ xT := xT_in (List.mem_append_right _ (List.mem_append_right _ (List.mem_append_left _ (List.mem_of_getElem? (i := 221) rfl))) : _ ∈ lw_tbl) rfl
theorem kw462 : Cond.code (⟨"ChunkStore$Server", "word", "(II)I"⟩ : MethodName) prog_5_method_7_code 3 (some FieldType.int) ∈ xT := xT_in (List.mem_append_right _ (List.mem_append_right _ (List.mem_append_left _ (List.mem_of_getElem? (i := 222) rfl))) : _ ∈ lw_tbl) rfl
theorem kw463 : Cond.methodLink "ChunkStoreLaw" 122 (⟨"ChunkStoreLaw", "up", "(LChunkStore;IZ[J)I"⟩ : MethodName) ∈ xT := xT_in (List.mem_append_right _ (List.mem_append_right _ (List.mem_append_left _ (List.mem_of_getElem? (i := 223) rfl))) : _ ∈ lw_tbl) rfl
theorem kw464 : Cond.static (⟨"ChunkStoreLaw", "up", "(LChunkStore;IZ[J)I"⟩ : MethodName) ∈ xT := xT_in (List.mem_append_right _ (List.mem_append_right _ (List.mem_append_left _ (List.mem_of_getElem? (i := 224) rfl))) : _ ∈ lw_tbl) rfl
theorem kw465 : Cond.codeWith (⟨"ChunkStoreLaw", "up", "(LChunkStore;IZ[J)I"⟩ : MethodName) method_12_code 5 (some FieldType.int) [(0, 10, 13, 13)] ∈ xT := xT_in (List.mem_append_right _ (List.mem_append_right _ (List.mem_append_left _ (List.mem_of_getElem? (i := 225) rfl))) : _ ∈ lw_tbl) rfl
theorem kw466 : Cond.methodLink "ChunkStoreLaw" 51 (⟨"ChunkStore", "up", "(IZ)I"⟩ : MethodName) ∈ xT := xT_in (List.mem_append_right _ (List.mem_append_right _ (List.mem_append_left _ (List.mem_of_getElem? (i := 226) rfl))) : _ ∈ lw_tbl) rfl
theorem kw467 : Cond.instanceMethod (⟨"ChunkStore", "up", "(IZ)I"⟩ : MethodName) ∈ xT := xT_in (List.mem_append_right _ (List.mem_append_right _ (List.mem_append_left _ (List.mem_of_getElem? (i := 227) rfl))) : _ ∈ lw_tbl) rfl
theorem kw468 : Cond.selects "ChunkStore" (⟨"ChunkStore", "up", "(IZ)I"⟩ : MethodName) (⟨"ChunkStore", "up", "(IZ)I"⟩ : MethodName) ∈ xT := xT_in (List.mem_append_right _ (List.mem_append_right _ (List.mem_append_left _ (List.mem_of_getElem? (i := 228) rfl))) : _ ∈ lw_tbl) rfl
theorem kw469 : Cond.code (⟨"ChunkStore", "up", "(IZ)I"⟩ : MethodName) prog_1_method_11_code 3 (some FieldType.int) ∈ xT := xT_in (List.mem_append_right _ (List.mem_append_right _ (List.mem_append_left _ (List.mem_of_getElem? (i := 229) rfl))) : _ ∈ lw_tbl) rfl
theorem kw470 : Cond.methodLink "ChunkStoreLaw" 126 (⟨"ChunkStoreLaw", "report", "(LChunkStore;I[J)I"⟩ : MethodName) ∈ xT := xT_in (List.mem_append_right _ (List.mem_append_right _ (List.mem_append_left _ (List.mem_of_getElem? (i := 230) rfl))) : _ ∈ lw_tbl) rfl
theorem kw471 : Cond.static (⟨"ChunkStoreLaw", "report", "(LChunkStore;I[J)I"⟩ : MethodName) ∈ xT := xT_in (List.mem_append_right _ (List.mem_append_right _ (List.mem_append_left _ (List.mem_of_getElem? (i := 231) rfl))) : _ ∈ lw_tbl) rfl
theorem kw472 : Cond.codeWith (⟨"ChunkStoreLaw", "report", "(LChunkStore;I[J)I"⟩ : MethodName) method_13_code 4 (some FieldType.int) [(0, 9, 12, 13), (0, 9, 15, 15)] ∈ xT := xT_in (List.mem_append_right _ (List.mem_append_right _ (List.mem_append_left _ (List.mem_of_getElem? (i := 232) rfl))) : _ ∈ lw_tbl) rfl
theorem kw473 : Cond.methodLink "ChunkStoreLaw" 55 (⟨"ChunkStore", "report", "(I)I"⟩ : MethodName) ∈ xT := xT_in (List.mem_append_right _ (List.mem_append_right _ (List.mem_append_left _ (List.mem_of_getElem? (i := 233) rfl))) : _ ∈ lw_tbl) rfl
theorem kw474 : Cond.instanceMethod (⟨"ChunkStore", "report", "(I)I"⟩ : MethodName) ∈ xT := xT_in (List.mem_append_right _ (List.mem_append_right _ (List.mem_append_left _ (List.mem_of_getElem? (i := 234) rfl))) : _ ∈ lw_tbl) rfl
theorem kw475 : Cond.selects "ChunkStore" (⟨"ChunkStore", "report", "(I)I"⟩ : MethodName) (⟨"ChunkStore", "report", "(I)I"⟩ : MethodName) ∈ xT := xT_in (List.mem_append_right _ (List.mem_append_right _ (List.mem_append_left _ (List.mem_of_getElem? (i := 235) rfl))) : _ ∈ lw_tbl) rfl
theorem kw476 : Cond.code (⟨"ChunkStore", "report", "(I)I"⟩ : MethodName) prog_1_method_12_code 4 (some FieldType.int) ∈ xT := xT_in (List.mem_append_right _ (List.mem_append_right _ (List.mem_append_left _ (List.mem_of_getElem? (i := 236) rfl))) : _ ∈ lw_tbl) rfl
theorem kw478 : Cond.methodLink "ChunkStore" 158 (⟨"ChunkStore", "confirmReplica", "(II)Z"⟩ : MethodName) ∈ xT := xT_in (List.mem_append_right _ (List.mem_append_right _ (List.mem_append_left _ (List.mem_of_getElem? (i := 238) rfl))) : _ ∈ lw_tbl) rfl
theorem kw480 : Cond.instanceMethod (⟨"ChunkStore", "confirmReplica", "(II)Z"⟩ : MethodName) ∈ xT := xT_in (List.mem_append_right _ (List.mem_append_right _ (List.mem_append_right _ (List.mem_append_left _ (List.mem_of_getElem? (i := 0) rfl)))) : _ ∈ lw_tbl) rfl
theorem kw481 : Cond.code (⟨"ChunkStore", "confirmReplica", "(II)Z"⟩ : MethodName) prog_1_method_41_code 4 (some FieldType.boolean) ∈ xT := xT_in (List.mem_append_right _ (List.mem_append_right _ (List.mem_append_right _ (List.mem_append_left _ (List.mem_of_getElem? (i := 1) rfl)))) : _ ∈ lw_tbl) rfl
theorem kn482 : Cond.methodLinkNest "ChunkStore" 268 (⟨"ChunkStore$Server", "drop", "(I)V"⟩ : MethodName) "ChunkStore" ∈ xN := xN_in (List.mem_append_right _ (List.mem_append_right _ (List.mem_append_right _ (List.mem_append_left _ (List.mem_of_getElem? (i := 2) rfl)))) : _ ∈ lw_tbl) rfl
theorem kw484 : Cond.instanceMethod (⟨"ChunkStore$Server", "drop", "(I)V"⟩ : MethodName) ∈ xT := xT_in (List.mem_append_right _ (List.mem_append_right _ (List.mem_append_right _ (List.mem_append_left _ (List.mem_of_getElem? (i := 4) rfl)))) : _ ∈ lw_tbl) rfl
theorem kw485 : Cond.code (⟨"ChunkStore$Server", "drop", "(I)V"⟩ : MethodName) prog_5_method_6_code 2 none ∈ xT := xT_in (List.mem_append_right _ (List.mem_append_right _ (List.mem_append_right _ (List.mem_append_left _ (List.mem_of_getElem? (i := 5) rfl)))) : _ ∈ lw_tbl) rfl
theorem kw486 : Cond.methodLink "ChunkStoreLaw" 129 (⟨"ChunkStoreLaw", "repair", "(LChunkStore;[J)I"⟩ : MethodName) ∈ xT := xT_in (List.mem_append_right _ (List.mem_append_right _ (List.mem_append_right _ (List.mem_append_left _ (List.mem_of_getElem? (i := 6) rfl)))) : _ ∈ lw_tbl) rfl
theorem kw487 : Cond.static (⟨"ChunkStoreLaw", "repair", "(LChunkStore;[J)I"⟩ : MethodName) ∈ xT := xT_in (List.mem_append_right _ (List.mem_append_right _ (List.mem_append_right _ (List.mem_append_left _ (List.mem_of_getElem? (i := 7) rfl)))) : _ ∈ lw_tbl) rfl
theorem kw488 : Cond.codeWith (⟨"ChunkStoreLaw", "repair", "(LChunkStore;[J)I"⟩ : MethodName) method_14_code 3 (some FieldType.int) [(0, 8, 11, 20)] ∈ xT := xT_in (List.mem_append_right _ (List.mem_append_right _ (List.mem_append_right _ (List.mem_append_left _ (List.mem_of_getElem? (i := 8) rfl)))) : _ ∈ lw_tbl) rfl
theorem kw489 : Cond.methodLink "ChunkStoreLaw" 58 (⟨"ChunkStore", "repair", "()I"⟩ : MethodName) ∈ xT := xT_in (List.mem_append_right _ (List.mem_append_right _ (List.mem_append_right _ (List.mem_append_left _ (List.mem_of_getElem? (i := 9) rfl)))) : _ ∈ lw_tbl) rfl
theorem kw490 : Cond.instanceMethod (⟨"ChunkStore", "repair", "()I"⟩ : MethodName) ∈ xT := xT_in (List.mem_append_right _ (List.mem_append_right _ (List.mem_append_right _ (List.mem_append_left _ (List.mem_of_getElem? (i := 10) rfl)))) : _ ∈ lw_tbl) rfl
theorem kw491 : Cond.selects "ChunkStore" (⟨"ChunkStore", "repair", "()I"⟩ : MethodName) (⟨"ChunkStore", "repair", "()I"⟩ : MethodName) ∈ xT := xT_in (List.mem_append_right _ (List.mem_append_right _ (List.mem_append_right _ (List.mem_append_left _ (List.mem_of_getElem? (i := 11) rfl)))) : _ ∈ lw_tbl) rfl
theorem kw492 : Cond.code (⟨"ChunkStore", "repair", "()I"⟩ : MethodName) prog_1_method_13_code 4 (some FieldType.int) ∈ xT := xT_in (List.mem_append_right _ (List.mem_append_right _ (List.mem_append_right _ (List.mem_append_left _ (List.mem_of_getElem? (i := 12) rfl)))) : _ ∈ lw_tbl) rfl
theorem kw493 : Cond.methodLink "ChunkStore" 161 (⟨"ChunkStore", "mostInNeed", "()I"⟩ : MethodName) ∈ xT := xT_in (List.mem_append_right _ (List.mem_append_right _ (List.mem_append_right _ (List.mem_append_left _ (List.mem_of_getElem? (i := 13) rfl)))) : _ ∈ lw_tbl) rfl
theorem kw495 : Cond.instanceMethod (⟨"ChunkStore", "mostInNeed", "()I"⟩ : MethodName) ∈ xT := xT_in (List.mem_append_right _ (List.mem_append_right _ (List.mem_append_right _ (List.mem_append_left _ (List.mem_of_getElem? (i := 15) rfl)))) : _ ∈ lw_tbl) rfl
theorem kw496 : Cond.code (⟨"ChunkStore", "mostInNeed", "()I"⟩ : MethodName) prog_1_method_42_code 6 (some FieldType.int) ∈ xT := xT_in (List.mem_append_right _ (List.mem_append_right _ (List.mem_append_right _ (List.mem_append_left _ (List.mem_of_getElem? (i := 16) rfl)))) : _ ∈ lw_tbl) rfl
theorem kw497 : Cond.methodLink "ChunkStore" 205 (⟨"java/lang/Integer", "bitCount", "(I)I"⟩ : MethodName) ∈ xT := xT_in (List.mem_append_right _ (List.mem_append_right _ (List.mem_append_right _ (List.mem_append_left _ (List.mem_of_getElem? (i := 17) rfl)))) : _ ∈ lw_tbl) rfl
theorem kw498 : Cond.static (⟨"java/lang/Integer", "bitCount", "(I)I"⟩ : MethodName) ∈ xT := xT_in (List.mem_append_right _ (List.mem_append_right _ (List.mem_append_right _ (List.mem_append_left _ (List.mem_of_getElem? (i := 18) rfl)))) : _ ∈ lw_tbl) rfl
theorem kw499 : Cond.code (⟨"java/lang/Integer", "bitCount", "(I)I"⟩ : MethodName) prog_13_method_49_code 1 (some FieldType.int) ∈ xT := xT_in (List.mem_append_right _ (List.mem_append_right _ (List.mem_append_right _ (List.mem_append_left _ (List.mem_of_getElem? (i := 19) rfl)))) : _ ∈ lw_tbl) rfl
theorem kw500 : Cond.constant "java/lang/Integer" 265 (1431655765 : Int32) ∈ xT := xT_in (List.mem_append_right _ (List.mem_append_right _ (List.mem_append_right _ (List.mem_append_left _ (List.mem_of_getElem? (i := 20) rfl)))) : _ ∈ lw_tbl) rfl
theorem kw501 : Cond.constant "java/lang/Integer" 266 (858993459 : Int32) ∈ xT := xT_in (List.mem_append_right _ (List.mem_append_right _ (List.mem_append_right _ (List.mem_append_left _ (List.mem_of_getElem? (i := 21) rfl)))) : _ ∈ lw_tbl) rfl
theorem kw502 : Cond.constant "java/lang/Integer" 267 (252645135 : Int32) ∈ xT := xT_in (List.mem_append_right _ (List.mem_append_right _ (List.mem_append_right _ (List.mem_append_left _ (List.mem_of_getElem? (i := 22) rfl)))) : _ ∈ lw_tbl) rfl
theorem kw504 : Cond.methodLink "ChunkStoreLaw" 139 (⟨"ChunkStoreLaw", "tick", "(LChunkStore;D[D)I"⟩ : MethodName) ∈ xT := xT_in (List.mem_append_right _ (List.mem_append_right _ (List.mem_append_right _ (List.mem_append_left _ (List.mem_of_getElem? (i := 24) rfl)))) : _ ∈ lw_tbl) rfl
theorem kw505 : Cond.static (⟨"ChunkStoreLaw", "tick", "(LChunkStore;D[D)I"⟩ : MethodName) ∈ xT := xT_in (List.mem_append_right _ (List.mem_append_right _ (List.mem_append_right _ (List.mem_append_left _ (List.mem_of_getElem? (i := 25) rfl)))) : _ ∈ lw_tbl) rfl
theorem kw506 : Cond.codeWith (⟨"ChunkStoreLaw", "tick", "(LChunkStore;D[D)I"⟩ : MethodName) method_15_code 5 (some FieldType.int) [(0, 8, 11, 13)] ∈ xT := xT_in (List.mem_append_right _ (List.mem_append_right _ (List.mem_append_right _ (List.mem_append_left _ (List.mem_of_getElem? (i := 26) rfl)))) : _ ∈ lw_tbl) rfl
theorem kw507 : Cond.methodLink "ChunkStoreLaw" 62 (⟨"ChunkStore", "tick", "(D)D"⟩ : MethodName) ∈ xT := xT_in (List.mem_append_right _ (List.mem_append_right _ (List.mem_append_right _ (List.mem_append_left _ (List.mem_of_getElem? (i := 27) rfl)))) : _ ∈ lw_tbl) rfl
theorem kw508 : Cond.instanceMethod (⟨"ChunkStore", "tick", "(D)D"⟩ : MethodName) ∈ xT := xT_in (List.mem_append_right _ (List.mem_append_right _ (List.mem_append_right _ (List.mem_append_left _ (List.mem_of_getElem? (i := 28) rfl)))) : _ ∈ lw_tbl) rfl
theorem kw509 : Cond.selects "ChunkStore" (⟨"ChunkStore", "tick", "(D)D"⟩ : MethodName) (⟨"ChunkStore", "tick", "(D)D"⟩ : MethodName) ∈ xT := xT_in (List.mem_append_right _ (List.mem_append_right _ (List.mem_append_right _ (List.mem_append_left _ (List.mem_of_getElem? (i := 29) rfl)))) : _ ∈ lw_tbl) rfl
theorem kw510 : Cond.code (⟨"ChunkStore", "tick", "(D)D"⟩ : MethodName) prog_1_method_15_code 3 (some FieldType.double) ∈ xT := xT_in (List.mem_append_right _ (List.mem_append_right _ (List.mem_append_right _ (List.mem_append_left _ (List.mem_of_getElem? (i := 30) rfl)))) : _ ∈ lw_tbl) rfl
theorem kw511 : Cond.constantDouble "ChunkStore" 186 (4636737291354636288 : UInt64) ∈ xT := xT_in (List.mem_append_right _ (List.mem_append_right _ (List.mem_append_right _ (List.mem_append_left _ (List.mem_of_getElem? (i := 31) rfl)))) : _ ∈ lw_tbl) rfl
theorem kw513 : Cond.methodLink "ChunkStoreLaw" 143 (⟨"ChunkStoreLaw", "load", "(LChunkStore;[D)I"⟩ : MethodName) ∈ xT := xT_in (List.mem_append_right _ (List.mem_append_right _ (List.mem_append_right _ (List.mem_append_left _ (List.mem_of_getElem? (i := 33) rfl)))) : _ ∈ lw_tbl) rfl
theorem kw514 : Cond.static (⟨"ChunkStoreLaw", "load", "(LChunkStore;[D)I"⟩ : MethodName) ∈ xT := xT_in (List.mem_append_right _ (List.mem_append_right _ (List.mem_append_right _ (List.mem_append_left _ (List.mem_of_getElem? (i := 34) rfl)))) : _ ∈ lw_tbl) rfl
theorem kw515 : Cond.codeWith (⟨"ChunkStoreLaw", "load", "(LChunkStore;[D)I"⟩ : MethodName) method_16_code 3 (some FieldType.int) [(0, 7, 10, 70)] ∈ xT := xT_in (List.mem_append_right _ (List.mem_append_right _ (List.mem_append_right _ (List.mem_append_left _ (List.mem_of_getElem? (i := 35) rfl)))) : _ ∈ lw_tbl) rfl
theorem kw516 : Cond.classLink "ChunkStoreLaw" 70 "java/lang/ArithmeticException" ∈ xT := xT_in (List.mem_append_right _ (List.mem_append_right _ (List.mem_append_right _ (List.mem_append_left _ (List.mem_of_getElem? (i := 36) rfl)))) : _ ∈ lw_tbl) rfl
theorem kw517 : Cond.methodLink "ChunkStoreLaw" 66 (⟨"ChunkStore", "load", "()D"⟩ : MethodName) ∈ xT := xT_in (List.mem_append_right _ (List.mem_append_right _ (List.mem_append_right _ (List.mem_append_left _ (List.mem_of_getElem? (i := 37) rfl)))) : _ ∈ lw_tbl) rfl
theorem kw518 : Cond.instanceMethod (⟨"ChunkStore", "load", "()D"⟩ : MethodName) ∈ xT := xT_in (List.mem_append_right _ (List.mem_append_right _ (List.mem_append_right _ (List.mem_append_left _ (List.mem_of_getElem? (i := 38) rfl)))) : _ ∈ lw_tbl) rfl
theorem kw519 : Cond.selects "ChunkStore" (⟨"ChunkStore", "load", "()D"⟩ : MethodName) (⟨"ChunkStore", "load", "()D"⟩ : MethodName) ∈ xT := xT_in (List.mem_append_right _ (List.mem_append_right _ (List.mem_append_right _ (List.mem_append_left _ (List.mem_of_getElem? (i := 39) rfl)))) : _ ∈ lw_tbl) rfl
theorem kw520 : Cond.code (⟨"ChunkStore", "load", "()D"⟩ : MethodName) prog_1_method_16_code 4 (some FieldType.double) ∈ xT := xT_in (List.mem_append_right _ (List.mem_append_right _ (List.mem_append_right _ (List.mem_append_left _ (List.mem_of_getElem? (i := 40) rfl)))) : _ ∈ lw_tbl) rfl
theorem kw521 : Cond.classLink "ChunkStore" 193 "java/lang/ArithmeticException" ∈ xT := xT_in (List.mem_append_right _ (List.mem_append_right _ (List.mem_append_right _ (List.mem_append_left _ (List.mem_of_getElem? (i := 41) rfl)))) : _ ∈ lw_tbl) rfl
theorem kw522 : Cond.instantiable "java/lang/ArithmeticException" 6 ∈ xT := xT_in (List.mem_append_right _ (List.mem_append_right _ (List.mem_append_right _ (List.mem_append_left _ (List.mem_of_getElem? (i := 42) rfl)))) : _ ∈ lw_tbl) rfl
theorem kn523 : Cond.castable "java/lang/ArithmeticException" "java/lang/ArithmeticException" ∈ xN := xN_in (List.mem_append_right _ (List.mem_append_right _ (List.mem_append_right _ (List.mem_append_left _ (List.mem_of_getElem? (i := 43) rfl)))) : _ ∈ lw_tbl) rfl
theorem kw524 : Cond.selects "java/lang/ArithmeticException" (⟨"java/lang/Throwable", "fillInStackTrace", "(I)Ljava/lang/Throwable;"⟩ : MethodName) (⟨"java/lang/Throwable", "fillInStackTrace", "(I)Ljava/lang/Throwable;"⟩ : MethodName) ∈ xT := xT_in (List.mem_append_right _ (List.mem_append_right _ (List.mem_append_right _ (List.mem_append_left _ (List.mem_of_getElem? (i := 44) rfl)))) : _ ∈ lw_tbl) rfl
theorem kw525 : Cond.lays "java/lang/ArithmeticException" "java/lang/Throwable" "cause" "Ljava/lang/Throwable;" ∈ xT := xT_in (List.mem_append_right _ (List.mem_append_right _ (List.mem_append_right _ (List.mem_append_left _ (List.mem_of_getElem? (i := 45) rfl)))) : _ ∈ lw_tbl) rfl
theorem kw526 : Cond.lays "java/lang/ArithmeticException" "java/lang/Throwable" "stackTrace" "[Ljava/lang/StackTraceElement;" ∈ xT := xT_in (List.mem_append_right _ (List.mem_append_right _ (List.mem_append_right _ (List.mem_append_left _ (List.mem_of_getElem? (i := 46) rfl)))) : _ ∈ lw_tbl) rfl
theorem kw527 : Cond.lays "java/lang/ArithmeticException" "java/lang/Throwable" "suppressedExceptions" "Ljava/util/List;" ∈ xT := xT_in (List.mem_append_right _ (List.mem_append_right _ (List.mem_append_right _ (List.mem_append_left _ (List.mem_of_getElem? (i := 47) rfl)))) : _ ∈ lw_tbl) rfl
theorem kw528 : Cond.lays "java/lang/ArithmeticException" "java/lang/Throwable" "detailMessage" "Ljava/lang/String;" ∈ xT := xT_in (List.mem_append_right _ (List.mem_append_right _ (List.mem_append_right _ (List.mem_append_left _ (List.mem_of_getElem? (i := 48) rfl)))) : _ ∈ lw_tbl) rfl
theorem kw529 : Cond.lays "java/lang/ArithmeticException" "java/lang/Throwable" "backtrace" "Ljava/lang/Object;" ∈ xT := xT_in (List.mem_append_right _ (List.mem_append_right _ (List.mem_append_right _ (List.mem_append_left _ (List.mem_of_getElem? (i := 49) rfl)))) : _ ∈ lw_tbl) rfl
theorem kw531 : Cond.methodLink "ChunkStore" 197 (⟨"java/lang/ArithmeticException", "<init>", "(Ljava/lang/String;)V"⟩ : MethodName) ∈ xT := xT_in (List.mem_append_right _ (List.mem_append_right _ (List.mem_append_right _ (List.mem_append_left _ (List.mem_of_getElem? (i := 51) rfl)))) : _ ∈ lw_tbl) rfl
theorem kw532 : Cond.instanceMethod (⟨"java/lang/ArithmeticException", "<init>", "(Ljava/lang/String;)V"⟩ : MethodName) ∈ xT := xT_in (List.mem_append_right _ (List.mem_append_right _ (List.mem_append_right _ (List.mem_append_left _ (List.mem_of_getElem? (i := 52) rfl)))) : _ ∈ lw_tbl) rfl
theorem kw533 : Cond.code (⟨"java/lang/ArithmeticException", "<init>", "(Ljava/lang/String;)V"⟩ : MethodName) prog_8_method_2_code 2 none ∈ xT := xT_in (List.mem_append_right _ (List.mem_append_right _ (List.mem_append_right _ (List.mem_append_left _ (List.mem_of_getElem? (i := 53) rfl)))) : _ ∈ lw_tbl) rfl
theorem kw534 : Cond.methodLink "java/lang/ArithmeticException" 7 (⟨"java/lang/RuntimeException", "<init>", "(Ljava/lang/String;)V"⟩ : MethodName) ∈ xT := xT_in (List.mem_append_right _ (List.mem_append_right _ (List.mem_append_right _ (List.mem_append_left _ (List.mem_of_getElem? (i := 54) rfl)))) : _ ∈ lw_tbl) rfl
theorem kw535 : Cond.lays "java/lang/ArithmeticException" "java/lang/Throwable" "depth" "I" ∈ xT := xT_in (List.mem_append_right _ (List.mem_append_right _ (List.mem_append_right _ (List.mem_append_left _ (List.mem_of_getElem? (i := 55) rfl)))) : _ ∈ lw_tbl) rfl
theorem kw536 : Cond.superclass "java/lang/ArithmeticException" "java/lang/RuntimeException" ∈ xT := xT_in (List.mem_append_right _ (List.mem_append_right _ (List.mem_append_right _ (List.mem_append_left _ (List.mem_of_getElem? (i := 56) rfl)))) : _ ∈ lw_tbl) rfl
theorem kw537 : Cond.methodLink "ChunkStoreLaw" 147 (⟨"ChunkStoreLaw", "look", "(LChunkStore;III[J)I"⟩ : MethodName) ∈ xT := xT_in (List.mem_append_right _ (List.mem_append_right _ (List.mem_append_right _ (List.mem_append_left _ (List.mem_of_getElem? (i := 57) rfl)))) : _ ∈ lw_tbl) rfl
theorem kw538 : Cond.static (⟨"ChunkStoreLaw", "look", "(LChunkStore;III[J)I"⟩ : MethodName) ∈ xT := xT_in (List.mem_append_right _ (List.mem_append_right _ (List.mem_append_right _ (List.mem_append_left _ (List.mem_of_getElem? (i := 58) rfl)))) : _ ∈ lw_tbl) rfl
theorem kw539 : Cond.codeWith (⟨"ChunkStoreLaw", "look", "(LChunkStore;III[J)I"⟩ : MethodName) method_17_code 6 (some FieldType.int) [(0, 12, 15, 13), (0, 12, 19, 20)] ∈ xT := xT_in (List.mem_append_right _ (List.mem_append_right _ (List.mem_append_right _ (List.mem_append_left _ (List.mem_of_getElem? (i := 59) rfl)))) : _ ∈ lw_tbl) rfl
theorem kw540 : Cond.methodLink "ChunkStoreLaw" 72 (⟨"ChunkStore", "look", "(III)I"⟩ : MethodName) ∈ xT := xT_in (List.mem_append_right _ (List.mem_append_right _ (List.mem_append_right _ (List.mem_append_left _ (List.mem_of_getElem? (i := 60) rfl)))) : _ ∈ lw_tbl) rfl
theorem kw541 : Cond.instanceMethod (⟨"ChunkStore", "look", "(III)I"⟩ : MethodName) ∈ xT := xT_in (List.mem_append_right _ (List.mem_append_right _ (List.mem_append_right _ (List.mem_append_left _ (List.mem_of_getElem? (i := 61) rfl)))) : _ ∈ lw_tbl) rfl
theorem kw542 : Cond.selects "ChunkStore" (⟨"ChunkStore", "look", "(III)I"⟩ : MethodName) (⟨"ChunkStore", "look", "(III)I"⟩ : MethodName) ∈ xT := xT_in (List.mem_append_right _ (List.mem_append_right _ (List.mem_append_right _ (List.mem_append_left _ (List.mem_of_getElem? (i := 62) rfl)))) : _ ∈ lw_tbl) rfl
theorem kw543 : Cond.code (⟨"ChunkStore", "look", "(III)I"⟩ : MethodName) prog_1_method_17_code 5 (some FieldType.int) ∈ xT := xT_in (List.mem_append_right _ (List.mem_append_right _ (List.mem_append_right _ (List.mem_append_left _ (List.mem_of_getElem? (i := 63) rfl)))) : _ ∈ lw_tbl) rfl
theorem kw545 : Cond.methodLink "ChunkStoreLaw" 150 (⟨"ChunkStoreLaw", "file", "(LChunkStore;II[J)I"⟩ : MethodName) ∈ xT := xT_in (List.mem_append_right _ (List.mem_append_right _ (List.mem_append_right _ (List.mem_append_left _ (List.mem_of_getElem? (i := 65) rfl)))) : _ ∈ lw_tbl) rfl
theorem kw546 : Cond.static (⟨"ChunkStoreLaw", "file", "(LChunkStore;II[J)I"⟩ : MethodName) ∈ xT := xT_in (List.mem_append_right _ (List.mem_append_right _ (List.mem_append_right _ (List.mem_append_left _ (List.mem_of_getElem? (i := 66) rfl)))) : _ ∈ lw_tbl) rfl
theorem kw547 : Cond.codeWith (⟨"ChunkStoreLaw", "file", "(LChunkStore;II[J)I"⟩ : MethodName) method_18_code 5 (some FieldType.int) [(0, 10, 13, 13)] ∈ xT := xT_in (List.mem_append_right _ (List.mem_append_right _ (List.mem_append_right _ (List.mem_append_left _ (List.mem_of_getElem? (i := 67) rfl)))) : _ ∈ lw_tbl) rfl
theorem kw548 : Cond.methodLink "ChunkStoreLaw" 75 (⟨"ChunkStore", "file", "(II)I"⟩ : MethodName) ∈ xT := xT_in (List.mem_append_right _ (List.mem_append_right _ (List.mem_append_right _ (List.mem_append_left _ (List.mem_of_getElem? (i := 68) rfl)))) : _ ∈ lw_tbl) rfl
theorem kw549 : Cond.instanceMethod (⟨"ChunkStore", "file", "(II)I"⟩ : MethodName) ∈ xT := xT_in (List.mem_append_right _ (List.mem_append_right _ (List.mem_append_right _ (List.mem_append_left _ (List.mem_of_getElem? (i := 69) rfl)))) : _ ∈ lw_tbl) rfl
theorem kw550 : Cond.selects "ChunkStore" (⟨"ChunkStore", "file", "(II)I"⟩ : MethodName) (⟨"ChunkStore", "file", "(II)I"⟩ : MethodName) ∈ xT := xT_in (List.mem_append_right _ (List.mem_append_right _ (List.mem_append_right _ (List.mem_append_left _ (List.mem_of_getElem? (i := 70) rfl)))) : _ ∈ lw_tbl) rfl
theorem kw551 : Cond.code (⟨"ChunkStore", "file", "(II)I"⟩ : MethodName) prog_1_method_18_code 4 (some FieldType.int) ∈ xT := xT_in (List.mem_append_right _ (List.mem_append_right _ (List.mem_append_right _ (List.mem_append_left _ (List.mem_of_getElem? (i := 71) rfl)))) : _ ∈ lw_tbl) rfl
theorem kw552 : Cond.methodLink "ChunkStoreLaw" 153 (⟨"ChunkStoreLaw", "chunk", "(LChunkStore;II[J)I"⟩ : MethodName) ∈ xT := xT_in (List.mem_append_right _ (List.mem_append_right _ (List.mem_append_right _ (List.mem_append_left _ (List.mem_of_getElem? (i := 72) rfl)))) : _ ∈ lw_tbl) rfl
theorem kw553 : Cond.static (⟨"ChunkStoreLaw", "chunk", "(LChunkStore;II[J)I"⟩ : MethodName) ∈ xT := xT_in (List.mem_append_right _ (List.mem_append_right _ (List.mem_append_right _ (List.mem_append_left _ (List.mem_of_getElem? (i := 73) rfl)))) : _ ∈ lw_tbl) rfl
theorem kw554 : Cond.codeWith (⟨"ChunkStoreLaw", "chunk", "(LChunkStore;II[J)I"⟩ : MethodName) method_19_code 5 (some FieldType.int) [(0, 10, 13, 13), (0, 10, 17, 20)] ∈ xT := xT_in (List.mem_append_right _ (List.mem_append_right _ (List.mem_append_right _ (List.mem_append_left _ (List.mem_of_getElem? (i := 74) rfl)))) : _ ∈ lw_tbl) rfl
theorem kw555 : Cond.methodLink "ChunkStoreLaw" 78 (⟨"ChunkStore", "chunk", "(II)I"⟩ : MethodName) ∈ xT := xT_in (List.mem_append_right _ (List.mem_append_right _ (List.mem_append_right _ (List.mem_append_left _ (List.mem_of_getElem? (i := 75) rfl)))) : _ ∈ lw_tbl) rfl
theorem kw556 : Cond.instanceMethod (⟨"ChunkStore", "chunk", "(II)I"⟩ : MethodName) ∈ xT := xT_in (List.mem_append_right _ (List.mem_append_right _ (List.mem_append_right _ (List.mem_append_left _ (List.mem_of_getElem? (i := 76) rfl)))) : _ ∈ lw_tbl) rfl
theorem kw557 : Cond.selects "ChunkStore" (⟨"ChunkStore", "chunk", "(II)I"⟩ : MethodName) (⟨"ChunkStore", "chunk", "(II)I"⟩ : MethodName) ∈ xT := xT_in (List.mem_append_right _ (List.mem_append_right _ (List.mem_append_right _ (List.mem_append_left _ (List.mem_of_getElem? (i := 77) rfl)))) : _ ∈ lw_tbl) rfl
theorem kw558 : Cond.code (⟨"ChunkStore", "chunk", "(II)I"⟩ : MethodName) prog_1_method_19_code 4 (some FieldType.int) ∈ xT := xT_in (List.mem_append_right _ (List.mem_append_right _ (List.mem_append_right _ (List.mem_append_left _ (List.mem_of_getElem? (i := 78) rfl)))) : _ ∈ lw_tbl) rfl
theorem kw560 : Cond.classLink "ChunkStoreLaw" 82 "ChunkStoreModel" ∈ xT := xT_in (List.mem_append_right _ (List.mem_append_right _ (List.mem_append_right _ (List.mem_append_left _ (List.mem_of_getElem? (i := 80) rfl)))) : _ ∈ lw_tbl) rfl
theorem kw561 : Cond.instantiable "ChunkStoreModel" 18 ∈ xT := xT_in (List.mem_append_right _ (List.mem_append_right _ (List.mem_append_right _ (List.mem_append_left _ (List.mem_of_getElem? (i := 81) rfl)))) : _ ∈ lw_tbl) rfl
theorem kw562 : Cond.methodLink "ChunkStoreLaw" 84 (⟨"ChunkStoreModel", "<init>", "()V"⟩ : MethodName) ∈ xT := xT_in (List.mem_append_right _ (List.mem_append_right _ (List.mem_append_right _ (List.mem_append_left _ (List.mem_of_getElem? (i := 82) rfl)))) : _ ∈ lw_tbl) rfl
theorem kw563 : Cond.instanceMethod (⟨"ChunkStoreModel", "<init>", "()V"⟩ : MethodName) ∈ xT := xT_in (List.mem_append_right _ (List.mem_append_right _ (List.mem_append_right _ (List.mem_append_left _ (List.mem_of_getElem? (i := 83) rfl)))) : _ ∈ lw_tbl) rfl
theorem kw564 : Cond.code (⟨"ChunkStoreModel", "<init>", "()V"⟩ : MethodName) prog_7_method_1_code 2 none ∈ xT := xT_in (List.mem_append_right _ (List.mem_append_right _ (List.mem_append_right _ (List.mem_append_left _ (List.mem_of_getElem? (i := 84) rfl)))) : _ ∈ lw_tbl) rfl
theorem kw565 : Cond.methodLink "ChunkStoreModel" 1 (⟨"java/lang/Object", "<init>", "()V"⟩ : MethodName) ∈ xT := xT_in (List.mem_append_right _ (List.mem_append_right _ (List.mem_append_right _ (List.mem_append_left _ (List.mem_of_getElem? (i := 85) rfl)))) : _ ∈ lw_tbl) rfl
theorem kw566 : Cond.constantDouble "ChunkStoreModel" 57 (13830554455654793216 : UInt64) ∈ xT := xT_in (List.mem_append_right _ (List.mem_append_right _ (List.mem_append_right _ (List.mem_append_left _ (List.mem_of_getElem? (i := 86) rfl)))) : _ ∈ lw_tbl) rfl
theorem kw567 : Cond.fieldLink "ChunkStoreModel" 59 "ChunkStoreModel" "failed" "I" ∈ xT := xT_in (List.mem_append_right _ (List.mem_append_right _ (List.mem_append_right _ (List.mem_append_left _ (List.mem_of_getElem? (i := 87) rfl)))) : _ ∈ lw_tbl) rfl
theorem kw568 : Cond.fieldLink "ChunkStoreModel" 71 "ChunkStoreModel" "time" "D" ∈ xT := xT_in (List.mem_append_right _ (List.mem_append_right _ (List.mem_append_right _ (List.mem_append_left _ (List.mem_of_getElem? (i := 88) rfl)))) : _ ∈ lw_tbl) rfl
theorem kw569 : Cond.fieldLink "ChunkStoreModel" 7 "ChunkStoreModel" "state" "[I" ∈ xT := xT_in (List.mem_append_right _ (List.mem_append_right _ (List.mem_append_right _ (List.mem_append_left _ (List.mem_of_getElem? (i := 89) rfl)))) : _ ∈ lw_tbl) rfl
theorem kw570 : Cond.fieldLink "ChunkStoreModel" 13 "ChunkStoreModel" "hidden" "[D" ∈ xT := xT_in (List.mem_append_right _ (List.mem_append_right _ (List.mem_append_right _ (List.mem_append_left _ (List.mem_of_getElem? (i := 90) rfl)))) : _ ∈ lw_tbl) rfl
theorem kw571 : Cond.fieldLink "ChunkStoreModel" 17 "ChunkStoreModel" "row" "[I" ∈ xT := xT_in (List.mem_append_right _ (List.mem_append_right _ (List.mem_append_right _ (List.mem_append_left _ (List.mem_of_getElem? (i := 91) rfl)))) : _ ∈ lw_tbl) rfl
theorem kw572 : Cond.fieldLink "ChunkStoreModel" 20 "ChunkStoreModel" "length" "[I" ∈ xT := xT_in (List.mem_append_right _ (List.mem_append_right _ (List.mem_append_right _ (List.mem_append_left _ (List.mem_of_getElem? (i := 92) rfl)))) : _ ∈ lw_tbl) rfl
theorem kw573 : Cond.fieldLink "ChunkStoreModel" 78 "ChunkStoreModel" "chunks" "I" ∈ xT := xT_in (List.mem_append_right _ (List.mem_append_right _ (List.mem_append_right _ (List.mem_append_left _ (List.mem_of_getElem? (i := 93) rfl)))) : _ ∈ lw_tbl) rfl
theorem kw574 : Cond.fieldLink "ChunkStoreModel" 23 "ChunkStoreModel" "version" "[I" ∈ xT := xT_in (List.mem_append_right _ (List.mem_append_right _ (List.mem_append_right _ (List.mem_append_left _ (List.mem_of_getElem? (i := 94) rfl)))) : _ ∈ lw_tbl) rfl
theorem kw575 : Cond.fieldLink "ChunkStoreModel" 26 "ChunkStoreModel" "holders" "[I" ∈ xT := xT_in (List.mem_append_right _ (List.mem_append_right _ (List.mem_append_right _ (List.mem_append_left _ (List.mem_of_getElem? (i := 95) rfl)))) : _ ∈ lw_tbl) rfl
theorem kw576 : Cond.fieldLink "ChunkStoreModel" 29 "ChunkStoreModel" "lease" "[D" ∈ xT := xT_in (List.mem_append_right _ (List.mem_append_right _ (List.mem_append_right _ (List.mem_append_left _ (List.mem_of_getElem? (i := 96) rfl)))) : _ ∈ lw_tbl) rfl
theorem kw577 : Cond.fieldLink "ChunkStoreModel" 32 "ChunkStoreModel" "down" "[Z" ∈ xT := xT_in (List.mem_append_right _ (List.mem_append_right _ (List.mem_append_right _ (List.mem_append_left _ (List.mem_of_getElem? (i := 97) rfl)))) : _ ∈ lw_tbl) rfl
theorem kw578 : Cond.fieldLink "ChunkStoreModel" 36 "ChunkStoreModel" "replica" "[I" ∈ xT := xT_in (List.mem_append_right _ (List.mem_append_right _ (List.mem_append_right _ (List.mem_append_left _ (List.mem_of_getElem? (i := 98) rfl)))) : _ ∈ lw_tbl) rfl
theorem kw579 : Cond.fieldLink "ChunkStoreModel" 39 "ChunkStoreModel" "used" "[I" ∈ xT := xT_in (List.mem_append_right _ (List.mem_append_right _ (List.mem_append_right _ (List.mem_append_left _ (List.mem_of_getElem? (i := 99) rfl)))) : _ ∈ lw_tbl) rfl
theorem kw580 : Cond.fieldLink "ChunkStoreModel" 42 "ChunkStoreModel" "word" "[I" ∈ xT := xT_in (List.mem_append_right _ (List.mem_append_right _ (List.mem_append_right _ (List.mem_append_left _ (List.mem_of_getElem? (i := 100) rfl)))) : _ ∈ lw_tbl) rfl
theorem kw581 : Cond.fieldLink "ChunkStoreModel" 45 "ChunkStoreModel" "keptChunk" "[I" ∈ xT := xT_in (List.mem_append_right _ (List.mem_append_right _ (List.mem_append_right _ (List.mem_append_left _ (List.mem_of_getElem? (i := 101) rfl)))) : _ ∈ lw_tbl) rfl
theorem kw582 : Cond.fieldLink "ChunkStoreModel" 48 "ChunkStoreModel" "keptVersion" "[I" ∈ xT := xT_in (List.mem_append_right _ (List.mem_append_right _ (List.mem_append_right _ (List.mem_append_left _ (List.mem_of_getElem? (i := 102) rfl)))) : _ ∈ lw_tbl) rfl
theorem kw583 : Cond.fieldLink "ChunkStoreModel" 51 "ChunkStoreModel" "keptHolders" "[I" ∈ xT := xT_in (List.mem_append_right _ (List.mem_append_right _ (List.mem_append_right _ (List.mem_append_left _ (List.mem_of_getElem? (i := 103) rfl)))) : _ ∈ lw_tbl) rfl
theorem kw584 : Cond.fieldLink "ChunkStoreModel" 54 "ChunkStoreModel" "keptEnd" "[D" ∈ xT := xT_in (List.mem_append_right _ (List.mem_append_right _ (List.mem_append_right _ (List.mem_append_left _ (List.mem_of_getElem? (i := 104) rfl)))) : _ ∈ lw_tbl) rfl
theorem kw585 : Cond.lays "ChunkStoreModel" "ChunkStoreModel" "failed" "I" ∈ xT := xT_in (List.mem_append_right _ (List.mem_append_right _ (List.mem_append_right _ (List.mem_append_left _ (List.mem_of_getElem? (i := 105) rfl)))) : _ ∈ lw_tbl) rfl
theorem kw586 : Cond.soleField "ChunkStoreModel" "failed" ∈ xT := xT_in (List.mem_append_right _ (List.mem_append_right _ (List.mem_append_right _ (List.mem_append_left _ (List.mem_of_getElem? (i := 106) rfl)))) : _ ∈ lw_tbl) rfl
theorem kw587 : Cond.lays "ChunkStoreModel" "ChunkStoreModel" "time" "D" ∈ xT := xT_in (List.mem_append_right _ (List.mem_append_right _ (List.mem_append_right _ (List.mem_append_left _ (List.mem_of_getElem? (i := 107) rfl)))) : _ ∈ lw_tbl) rfl
theorem kw588 : Cond.soleField "ChunkStoreModel" "time" ∈ xT := xT_in (List.mem_append_right _ (List.mem_append_right _ (List.mem_append_right _ (List.mem_append_left _ (List.mem_of_getElem? (i := 108) rfl)))) : _ ∈ lw_tbl) rfl
theorem kw589 : Cond.laysFinal "ChunkStoreModel" "ChunkStoreModel" "state" "[I" ∈ xT := xT_in (List.mem_append_right _ (List.mem_append_right _ (List.mem_append_right _ (List.mem_append_left _ (List.mem_of_getElem? (i := 109) rfl)))) : _ ∈ lw_tbl) rfl
theorem kw590 : Cond.soleField "ChunkStoreModel" "state" ∈ xT := xT_in (List.mem_append_right _ (List.mem_append_right _ (List.mem_append_right _ (List.mem_append_left _ (List.mem_of_getElem? (i := 110) rfl)))) : _ ∈ lw_tbl) rfl
theorem kw591 : Cond.laysFinal "ChunkStoreModel" "ChunkStoreModel" "hidden" "[D" ∈ xT := xT_in (List.mem_append_right _ (List.mem_append_right _ (List.mem_append_right _ (List.mem_append_left _ (List.mem_of_getElem? (i := 111) rfl)))) : _ ∈ lw_tbl) rfl
theorem kw592 : Cond.soleField "ChunkStoreModel" "hidden" ∈ xT := xT_in (List.mem_append_right _ (List.mem_append_right _ (List.mem_append_right _ (List.mem_append_left _ (List.mem_of_getElem? (i := 112) rfl)))) : _ ∈ lw_tbl) rfl
theorem kw593 : Cond.laysFinal "ChunkStoreModel" "ChunkStoreModel" "row" "[I" ∈ xT := xT_in (List.mem_append_right _ (List.mem_append_right _ (List.mem_append_right _ (List.mem_append_left _ (List.mem_of_getElem? (i := 113) rfl)))) : _ ∈ lw_tbl) rfl
theorem kw594 : Cond.soleField "ChunkStoreModel" "row" ∈ xT := xT_in (List.mem_append_right _ (List.mem_append_right _ (List.mem_append_right _ (List.mem_append_left _ (List.mem_of_getElem? (i := 114) rfl)))) : _ ∈ lw_tbl) rfl
theorem kw595 : Cond.laysFinal "ChunkStoreModel" "ChunkStoreModel" "length" "[I" ∈ xT := xT_in (List.mem_append_right _ (List.mem_append_right _ (List.mem_append_right _ (List.mem_append_left _ (List.mem_of_getElem? (i := 115) rfl)))) : _ ∈ lw_tbl) rfl
theorem kw596 : Cond.soleField "ChunkStoreModel" "length" ∈ xT := xT_in (List.mem_append_right _ (List.mem_append_right _ (List.mem_append_right _ (List.mem_append_left _ (List.mem_of_getElem? (i := 116) rfl)))) : _ ∈ lw_tbl) rfl
theorem kw597 : Cond.lays "ChunkStoreModel" "ChunkStoreModel" "chunks" "I" ∈ xT := xT_in (List.mem_append_right _ (List.mem_append_right _ (List.mem_append_right _ (List.mem_append_left _ (List.mem_of_getElem? (i := 117) rfl)))) : _ ∈ lw_tbl) rfl
theorem kw598 : Cond.soleField "ChunkStoreModel" "chunks" ∈ xT := xT_in (List.mem_append_right _ (List.mem_append_right _ (List.mem_append_right _ (List.mem_append_left _ (List.mem_of_getElem? (i := 118) rfl)))) : _ ∈ lw_tbl) rfl
theorem kw599 : Cond.laysFinal "ChunkStoreModel" "ChunkStoreModel" "version" "[I" ∈ xT := xT_in (List.mem_append_right _ (List.mem_append_right _ (List.mem_append_right _ (List.mem_append_left _ (List.mem_of_getElem? (i := 119) rfl)))) : _ ∈ lw_tbl) rfl
theorem kw600 : Cond.soleField "ChunkStoreModel" "version" ∈ xT := xT_in (List.mem_append_right _ (List.mem_append_right _ (List.mem_append_right _ (List.mem_append_left _ (List.mem_of_getElem? (i := 120) rfl)))) : _ ∈ lw_tbl) rfl
theorem kw601 : Cond.laysFinal "ChunkStoreModel" "ChunkStoreModel" "holders" "[I" ∈ xT := xT_in (List.mem_append_right _ (List.mem_append_right _ (List.mem_append_right _ (List.mem_append_left _ (List.mem_of_getElem? (i := 121) rfl)))) : _ ∈ lw_tbl) rfl
theorem kw602 : Cond.soleField "ChunkStoreModel" "holders" ∈ xT := xT_in (List.mem_append_right _ (List.mem_append_right _ (List.mem_append_right _ (List.mem_append_left _ (List.mem_of_getElem? (i := 122) rfl)))) : _ ∈ lw_tbl) rfl
theorem kw603 : Cond.laysFinal "ChunkStoreModel" "ChunkStoreModel" "lease" "[D" ∈ xT := xT_in (List.mem_append_right _ (List.mem_append_right _ (List.mem_append_right _ (List.mem_append_left _ (List.mem_of_getElem? (i := 123) rfl)))) : _ ∈ lw_tbl) rfl
theorem kw604 : Cond.soleField "ChunkStoreModel" "lease" ∈ xT := xT_in (List.mem_append_right _ (List.mem_append_right _ (List.mem_append_right _ (List.mem_append_left _ (List.mem_of_getElem? (i := 124) rfl)))) : _ ∈ lw_tbl) rfl
theorem kw605 : Cond.laysFinal "ChunkStoreModel" "ChunkStoreModel" "down" "[Z" ∈ xT := xT_in (List.mem_append_right _ (List.mem_append_right _ (List.mem_append_right _ (List.mem_append_left _ (List.mem_of_getElem? (i := 125) rfl)))) : _ ∈ lw_tbl) rfl
theorem kw606 : Cond.soleField "ChunkStoreModel" "down" ∈ xT := xT_in (List.mem_append_right _ (List.mem_append_right _ (List.mem_append_right _ (List.mem_append_left _ (List.mem_of_getElem? (i := 126) rfl)))) : _ ∈ lw_tbl) rfl
theorem kw607 : Cond.laysFinal "ChunkStoreModel" "ChunkStoreModel" "replica" "[I" ∈ xT := xT_in (List.mem_append_right _ (List.mem_append_right _ (List.mem_append_right _ (List.mem_append_left _ (List.mem_of_getElem? (i := 127) rfl)))) : _ ∈ lw_tbl) rfl
theorem kw608 : Cond.soleField "ChunkStoreModel" "replica" ∈ xT := xT_in (List.mem_append_right _ (List.mem_append_right _ (List.mem_append_right _ (List.mem_append_left _ (List.mem_of_getElem? (i := 128) rfl)))) : _ ∈ lw_tbl) rfl
theorem kw609 : Cond.laysFinal "ChunkStoreModel" "ChunkStoreModel" "used" "[I" ∈ xT := xT_in (List.mem_append_right _ (List.mem_append_right _ (List.mem_append_right _ (List.mem_append_left _ (List.mem_of_getElem? (i := 129) rfl)))) : _ ∈ lw_tbl) rfl
theorem kw610 : Cond.soleField "ChunkStoreModel" "used" ∈ xT := xT_in (List.mem_append_right _ (List.mem_append_right _ (List.mem_append_right _ (List.mem_append_left _ (List.mem_of_getElem? (i := 130) rfl)))) : _ ∈ lw_tbl) rfl
theorem kw611 : Cond.laysFinal "ChunkStoreModel" "ChunkStoreModel" "word" "[I" ∈ xT := xT_in (List.mem_append_right _ (List.mem_append_right _ (List.mem_append_right _ (List.mem_append_left _ (List.mem_of_getElem? (i := 131) rfl)))) : _ ∈ lw_tbl) rfl
theorem kw612 : Cond.soleField "ChunkStoreModel" "word" ∈ xT := xT_in (List.mem_append_right _ (List.mem_append_right _ (List.mem_append_right _ (List.mem_append_left _ (List.mem_of_getElem? (i := 132) rfl)))) : _ ∈ lw_tbl) rfl
theorem kw613 : Cond.laysFinal "ChunkStoreModel" "ChunkStoreModel" "keptChunk" "[I" ∈ xT := xT_in (List.mem_append_right _ (List.mem_append_right _ (List.mem_append_right _ (List.mem_append_left _ (List.mem_of_getElem? (i := 133) rfl)))) : _ ∈ lw_tbl) rfl
theorem kw614 : Cond.soleField "ChunkStoreModel" "keptChunk" ∈ xT := xT_in (List.mem_append_right _ (List.mem_append_right _ (List.mem_append_right _ (List.mem_append_left _ (List.mem_of_getElem? (i := 134) rfl)))) : _ ∈ lw_tbl) rfl
theorem kw615 : Cond.laysFinal "ChunkStoreModel" "ChunkStoreModel" "keptVersion" "[I" ∈ xT := xT_in (List.mem_append_right _ (List.mem_append_right _ (List.mem_append_right _ (List.mem_append_left _ (List.mem_of_getElem? (i := 135) rfl)))) : _ ∈ lw_tbl) rfl
theorem kw616 : Cond.soleField "ChunkStoreModel" "keptVersion" ∈ xT := xT_in (List.mem_append_right _ (List.mem_append_right _ (List.mem_append_right _ (List.mem_append_left _ (List.mem_of_getElem? (i := 136) rfl)))) : _ ∈ lw_tbl) rfl
theorem kw617 : Cond.laysFinal "ChunkStoreModel" "ChunkStoreModel" "keptHolders" "[I" ∈ xT := xT_in (List.mem_append_right _ (List.mem_append_right _ (List.mem_append_right _ (List.mem_append_left _ (List.mem_of_getElem? (i := 137) rfl)))) : _ ∈ lw_tbl) rfl
theorem kw618 : Cond.soleField "ChunkStoreModel" "keptHolders" ∈ xT := xT_in (List.mem_append_right _ (List.mem_append_right _ (List.mem_append_right _ (List.mem_append_left _ (List.mem_of_getElem? (i := 138) rfl)))) : _ ∈ lw_tbl) rfl
theorem kw619 : Cond.laysFinal "ChunkStoreModel" "ChunkStoreModel" "keptEnd" "[D" ∈ xT := xT_in (List.mem_append_right _ (List.mem_append_right _ (List.mem_append_right _ (List.mem_append_left _ (List.mem_of_getElem? (i := 139) rfl)))) : _ ∈ lw_tbl) rfl
theorem kw620 : Cond.soleField "ChunkStoreModel" "keptEnd" ∈ xT := xT_in (List.mem_append_right _ (List.mem_append_right _ (List.mem_append_right _ (List.mem_append_left _ (List.mem_of_getElem? (i := 140) rfl)))) : _ ∈ lw_tbl) rfl
theorem kw621 : Cond.superclass "ChunkStoreModel" "java/lang/Object" ∈ xT := xT_in (List.mem_append_right _ (List.mem_append_right _ (List.mem_append_right _ (List.mem_append_left _ (List.mem_of_getElem? (i := 141) rfl)))) : _ ∈ lw_tbl) rfl
theorem kw624 : Cond.methodLink "ChunkStoreLaw" 91 (⟨"ChunkStoreModel", "thrown", "()I"⟩ : MethodName) ∈ xT := xT_in (List.mem_append_right _ (List.mem_append_right _ (List.mem_append_right _ (List.mem_append_left _ (List.mem_of_getElem? (i := 144) rfl)))) : _ ∈ lw_tbl) rfl
theorem kw625 : Cond.instanceMethod (⟨"ChunkStoreModel", "thrown", "()I"⟩ : MethodName) ∈ xT := xT_in (List.mem_append_right _ (List.mem_append_right _ (List.mem_append_right _ (List.mem_append_left _ (List.mem_of_getElem? (i := 145) rfl)))) : _ ∈ lw_tbl) rfl
theorem kw626 : Cond.selects "ChunkStoreModel" (⟨"ChunkStoreModel", "thrown", "()I"⟩ : MethodName) (⟨"ChunkStoreModel", "thrown", "()I"⟩ : MethodName) ∈ xT := xT_in (List.mem_append_right _ (List.mem_append_right _ (List.mem_append_right _ (List.mem_append_left _ (List.mem_of_getElem? (i := 146) rfl)))) : _ ∈ lw_tbl) rfl
theorem kw627 : Cond.code (⟨"ChunkStoreModel", "thrown", "()I"⟩ : MethodName) prog_7_method_2_code 1 (some FieldType.int) ∈ xT := xT_in (List.mem_append_right _ (List.mem_append_right _ (List.mem_append_right _ (List.mem_append_left _ (List.mem_of_getElem? (i := 147) rfl)))) : _ ∈ lw_tbl) rfl
theorem kw628 : Cond.methodLink "ChunkStoreLaw" 90 (⟨"ChunkStoreModel", "create", "(I)I"⟩ : MethodName) ∈ xT := xT_in (List.mem_append_right _ (List.mem_append_right _ (List.mem_append_right _ (List.mem_append_left _ (List.mem_of_getElem? (i := 148) rfl)))) : _ ∈ lw_tbl) rfl
theorem kw629 : Cond.instanceMethod (⟨"ChunkStoreModel", "create", "(I)I"⟩ : MethodName) ∈ xT := xT_in (List.mem_append_right _ (List.mem_append_right _ (List.mem_append_right _ (List.mem_append_left _ (List.mem_of_getElem? (i := 149) rfl)))) : _ ∈ lw_tbl) rfl
theorem kw630 : Cond.selects "ChunkStoreModel" (⟨"ChunkStoreModel", "create", "(I)I"⟩ : MethodName) (⟨"ChunkStoreModel", "create", "(I)I"⟩ : MethodName) ∈ xT := xT_in (List.mem_append_right _ (List.mem_append_right _ (List.mem_append_right _ (List.mem_append_left _ (List.mem_of_getElem? (i := 150) rfl)))) : _ ∈ lw_tbl) rfl
theorem kw631 : Cond.code (⟨"ChunkStoreModel", "create", "(I)I"⟩ : MethodName) prog_7_method_5_code 4 (some FieldType.int) ∈ xT := xT_in (List.mem_append_right _ (List.mem_append_right _ (List.mem_append_right _ (List.mem_append_left _ (List.mem_of_getElem? (i := 151) rfl)))) : _ ∈ lw_tbl) rfl
theorem kw632 : Cond.methodLink "ChunkStoreModel" 63 (⟨"ChunkStoreModel", "out", "(II)Z"⟩ : MethodName) ∈ xT := xT_in (List.mem_append_right _ (List.mem_append_right _ (List.mem_append_right _ (List.mem_append_left _ (List.mem_of_getElem? (i := 152) rfl)))) : _ ∈ lw_tbl) rfl
theorem kw634 : Cond.instanceMethod (⟨"ChunkStoreModel", "out", "(II)Z"⟩ : MethodName) ∈ xT := xT_in (List.mem_append_right _ (List.mem_append_right _ (List.mem_append_right _ (List.mem_append_left _ (List.mem_of_getElem? (i := 154) rfl)))) : _ ∈ lw_tbl) rfl
theorem kw635 : Cond.code (⟨"ChunkStoreModel", "out", "(II)Z"⟩ : MethodName) prog_7_method_4_code 3 (some FieldType.boolean) ∈ xT := xT_in (List.mem_append_right _ (List.mem_append_right _ (List.mem_append_right _ (List.mem_append_left _ (List.mem_of_getElem? (i := 155) rfl)))) : _ ∈ lw_tbl) rfl
theorem kw636 : Cond.methodLink "ChunkStoreModel" 67 (⟨"ChunkStoreModel", "fail", "(I)I"⟩ : MethodName) ∈ xT := xT_in (List.mem_append_right _ (List.mem_append_right _ (List.mem_append_right _ (List.mem_append_left _ (List.mem_of_getElem? (i := 156) rfl)))) : _ ∈ lw_tbl) rfl
theorem kw638 : Cond.instanceMethod (⟨"ChunkStoreModel", "fail", "(I)I"⟩ : MethodName) ∈ xT := xT_in (List.mem_append_right _ (List.mem_append_right _ (List.mem_append_right _ (List.mem_append_left _ (List.mem_of_getElem? (i := 158) rfl)))) : _ ∈ lw_tbl) rfl
theorem kw639 : Cond.code (⟨"ChunkStoreModel", "fail", "(I)I"⟩ : MethodName) prog_7_method_3_code 2 (some FieldType.int) ∈ xT := xT_in (List.mem_append_right _ (List.mem_append_right _ (List.mem_append_right _ (List.mem_append_left _ (List.mem_of_getElem? (i := 159) rfl)))) : _ ∈ lw_tbl) rfl
theorem kw640 : Cond.methodLink "ChunkStoreLaw" 96 (⟨"ChunkStoreModel", "remove", "(I)I"⟩ : MethodName) ∈ xT := xT_in (List.mem_append_right _ (List.mem_append_right _ (List.mem_append_right _ (List.mem_append_left _ (List.mem_of_getElem? (i := 160) rfl)))) : _ ∈ lw_tbl) rfl
theorem kw641 : Cond.instanceMethod (⟨"ChunkStoreModel", "remove", "(I)I"⟩ : MethodName) ∈ xT := xT_in (List.mem_append_right _ (List.mem_append_right _ (List.mem_append_right _ (List.mem_append_left _ (List.mem_of_getElem? (i := 161) rfl)))) : _ ∈ lw_tbl) rfl
theorem kw642 : Cond.selects "ChunkStoreModel" (⟨"ChunkStoreModel", "remove", "(I)I"⟩ : MethodName) (⟨"ChunkStoreModel", "remove", "(I)I"⟩ : MethodName) ∈ xT := xT_in (List.mem_append_right _ (List.mem_append_right _ (List.mem_append_right _ (List.mem_append_left _ (List.mem_of_getElem? (i := 162) rfl)))) : _ ∈ lw_tbl) rfl
theorem kw643 : Cond.code (⟨"ChunkStoreModel", "remove", "(I)I"⟩ : MethodName) prog_7_method_6_code 2 (some FieldType.int) ∈ xT := xT_in (List.mem_append_right _ (List.mem_append_right _ (List.mem_append_right _ (List.mem_append_left _ (List.mem_of_getElem? (i := 163) rfl)))) : _ ∈ lw_tbl) rfl
theorem kw644 : Cond.methodLink "ChunkStoreLaw" 99 (⟨"ChunkStoreModel", "restore", "(I)I"⟩ : MethodName) ∈ xT := xT_in (List.mem_append_right _ (List.mem_append_right _ (List.mem_append_right _ (List.mem_append_left _ (List.mem_of_getElem? (i := 164) rfl)))) : _ ∈ lw_tbl) rfl
theorem kw645 : Cond.instanceMethod (⟨"ChunkStoreModel", "restore", "(I)I"⟩ : MethodName) ∈ xT := xT_in (List.mem_append_right _ (List.mem_append_right _ (List.mem_append_right _ (List.mem_append_left _ (List.mem_of_getElem? (i := 165) rfl)))) : _ ∈ lw_tbl) rfl
theorem kw646 : Cond.selects "ChunkStoreModel" (⟨"ChunkStoreModel", "restore", "(I)I"⟩ : MethodName) (⟨"ChunkStoreModel", "restore", "(I)I"⟩ : MethodName) ∈ xT := xT_in (List.mem_append_right _ (List.mem_append_right _ (List.mem_append_right _ (List.mem_append_left _ (List.mem_of_getElem? (i := 166) rfl)))) : _ ∈ lw_tbl) rfl
theorem kw647 : Cond.code (⟨"ChunkStoreModel", "restore", "(I)I"⟩ : MethodName) prog_7_method_7_code 2 (some FieldType.int) ∈ xT := xT_in (List.mem_append_right _ (List.mem_append_right _ (List.mem_append_right _ (List.mem_append_left _ (List.mem_of_getElem? (i := 167) rfl)))) : _ ∈ lw_tbl) rfl
theorem kw648 : Cond.methodLink "ChunkStoreLaw" 103 (⟨"ChunkStoreModel", "copy", "(II)I"⟩ : MethodName) ∈ xT := xT_in (List.mem_append_right _ (List.mem_append_right _ (List.mem_append_right _ (List.mem_append_left _ (List.mem_of_getElem? (i := 168) rfl)))) : _ ∈ lw_tbl) rfl
theorem kw649 : Cond.instanceMethod (⟨"ChunkStoreModel", "copy", "(II)I"⟩ : MethodName) ∈ xT := xT_in (List.mem_append_right _ (List.mem_append_right _ (List.mem_append_right _ (List.mem_append_left _ (List.mem_of_getElem? (i := 169) rfl)))) : _ ∈ lw_tbl) rfl
theorem kw650 : Cond.selects "ChunkStoreModel" (⟨"ChunkStoreModel", "copy", "(II)I"⟩ : MethodName) (⟨"ChunkStoreModel", "copy", "(II)I"⟩ : MethodName) ∈ xT := xT_in (List.mem_append_right _ (List.mem_append_right _ (List.mem_append_right _ (List.mem_append_left _ (List.mem_of_getElem? (i := 170) rfl)))) : _ ∈ lw_tbl) rfl
theorem kw651 : Cond.code (⟨"ChunkStoreModel", "copy", "(II)I"⟩ : MethodName) prog_7_method_8_code 4 (some FieldType.int) ∈ xT := xT_in (List.mem_append_right _ (List.mem_append_right _ (List.mem_append_right _ (List.mem_append_left _ (List.mem_of_getElem? (i := 171) rfl)))) : _ ∈ lw_tbl) rfl
theorem kw652 : Cond.methodLink "ChunkStoreLaw" 106 (⟨"ChunkStoreModel", "extend", "(I)I"⟩ : MethodName) ∈ xT := xT_in (List.mem_append_right _ (List.mem_append_right _ (List.mem_append_right _ (List.mem_append_left _ (List.mem_of_getElem? (i := 172) rfl)))) : _ ∈ lw_tbl) rfl
theorem kw653 : Cond.instanceMethod (⟨"ChunkStoreModel", "extend", "(I)I"⟩ : MethodName) ∈ xT := xT_in (List.mem_append_right _ (List.mem_append_right _ (List.mem_append_right _ (List.mem_append_left _ (List.mem_of_getElem? (i := 173) rfl)))) : _ ∈ lw_tbl) rfl
theorem kw654 : Cond.selects "ChunkStoreModel" (⟨"ChunkStoreModel", "extend", "(I)I"⟩ : MethodName) (⟨"ChunkStoreModel", "extend", "(I)I"⟩ : MethodName) ∈ xT := xT_in (List.mem_append_right _ (List.mem_append_right _ (List.mem_append_right _ (List.mem_append_left _ (List.mem_of_getElem? (i := 174) rfl)))) : _ ∈ lw_tbl) rfl
theorem kw655 : Cond.code (⟨"ChunkStoreModel", "extend", "(I)I"⟩ : MethodName) prog_7_method_17_code 3 (some FieldType.int) ∈ xT := xT_in (List.mem_append_right _ (List.mem_append_right _ (List.mem_append_right _ (List.mem_append_left _ (List.mem_of_getElem? (i := 175) rfl)))) : _ ∈ lw_tbl) rfl
theorem kw656 : Cond.methodLink "ChunkStoreModel" 89 (⟨"ChunkStoreModel", "makeChunk", "(I)I"⟩ : MethodName) ∈ xT := xT_in (List.mem_append_right _ (List.mem_append_right _ (List.mem_append_right _ (List.mem_append_left _ (List.mem_of_getElem? (i := 176) rfl)))) : _ ∈ lw_tbl) rfl
theorem kw658 : Cond.instanceMethod (⟨"ChunkStoreModel", "makeChunk", "(I)I"⟩ : MethodName) ∈ xT := xT_in (List.mem_append_right _ (List.mem_append_right _ (List.mem_append_right _ (List.mem_append_left _ (List.mem_of_getElem? (i := 178) rfl)))) : _ ∈ lw_tbl) rfl
theorem kw659 : Cond.code (⟨"ChunkStoreModel", "makeChunk", "(I)I"⟩ : MethodName) prog_7_method_16_code 5 (some FieldType.int) ∈ xT := xT_in (List.mem_append_right _ (List.mem_append_right _ (List.mem_append_right _ (List.mem_append_left _ (List.mem_of_getElem? (i := 179) rfl)))) : _ ∈ lw_tbl) rfl
theorem kw660 : Cond.methodLink "ChunkStoreModel" 81 (⟨"ChunkStoreModel", "choose", "(II)I"⟩ : MethodName) ∈ xT := xT_in (List.mem_append_right _ (List.mem_append_right _ (List.mem_append_right _ (List.mem_append_left _ (List.mem_of_getElem? (i := 180) rfl)))) : _ ∈ lw_tbl) rfl
theorem kw662 : Cond.instanceMethod (⟨"ChunkStoreModel", "choose", "(II)I"⟩ : MethodName) ∈ xT := xT_in (List.mem_append_right _ (List.mem_append_right _ (List.mem_append_right _ (List.mem_append_left _ (List.mem_of_getElem? (i := 182) rfl)))) : _ ∈ lw_tbl) rfl
theorem kw663 : Cond.code (⟨"ChunkStoreModel", "choose", "(II)I"⟩ : MethodName) prog_7_method_11_code 6 (some FieldType.int) ∈ xT := xT_in (List.mem_append_right _ (List.mem_append_right _ (List.mem_append_right _ (List.mem_append_left _ (List.mem_of_getElem? (i := 183) rfl)))) : _ ∈ lw_tbl) rfl
theorem kw664 : Cond.methodLink "ChunkStoreModel" 75 (⟨"ChunkStoreModel", "loadOf", "(I)I"⟩ : MethodName) ∈ xT := xT_in (List.mem_append_right _ (List.mem_append_right _ (List.mem_append_right _ (List.mem_append_left _ (List.mem_of_getElem? (i := 184) rfl)))) : _ ∈ lw_tbl) rfl
theorem kw666 : Cond.instanceMethod (⟨"ChunkStoreModel", "loadOf", "(I)I"⟩ : MethodName) ∈ xT := xT_in (List.mem_append_right _ (List.mem_append_right _ (List.mem_append_right _ (List.mem_append_left _ (List.mem_of_getElem? (i := 186) rfl)))) : _ ∈ lw_tbl) rfl
theorem kw667 : Cond.code (⟨"ChunkStoreModel", "loadOf", "(I)I"⟩ : MethodName) prog_7_method_10_code 4 (some FieldType.int) ∈ xT := xT_in (List.mem_append_right _ (List.mem_append_right _ (List.mem_append_right _ (List.mem_append_left _ (List.mem_of_getElem? (i := 187) rfl)))) : _ ∈ lw_tbl) rfl
theorem kw668 : Cond.methodLink "ChunkStoreModel" 85 (⟨"ChunkStoreModel", "place", "(III)V"⟩ : MethodName) ∈ xT := xT_in (List.mem_append_right _ (List.mem_append_right _ (List.mem_append_right _ (List.mem_append_left _ (List.mem_of_getElem? (i := 188) rfl)))) : _ ∈ lw_tbl) rfl
theorem kw670 : Cond.instanceMethod (⟨"ChunkStoreModel", "place", "(III)V"⟩ : MethodName) ∈ xT := xT_in (List.mem_append_right _ (List.mem_append_right _ (List.mem_append_right _ (List.mem_append_left _ (List.mem_of_getElem? (i := 190) rfl)))) : _ ∈ lw_tbl) rfl
theorem kw671 : Cond.code (⟨"ChunkStoreModel", "place", "(III)V"⟩ : MethodName) prog_7_method_15_code 5 none ∈ xT := xT_in (List.mem_append_right _ (List.mem_append_right _ (List.mem_append_right _ (List.mem_append_left _ (List.mem_of_getElem? (i := 191) rfl)))) : _ ∈ lw_tbl) rfl
theorem kw672 : Cond.methodLink "ChunkStoreLaw" 110 (⟨"ChunkStoreModel", "locate", "(III)I"⟩ : MethodName) ∈ xT := xT_in (List.mem_append_right _ (List.mem_append_right _ (List.mem_append_right _ (List.mem_append_left _ (List.mem_of_getElem? (i := 192) rfl)))) : _ ∈ lw_tbl) rfl
theorem kw673 : Cond.instanceMethod (⟨"ChunkStoreModel", "locate", "(III)I"⟩ : MethodName) ∈ xT := xT_in (List.mem_append_right _ (List.mem_append_right _ (List.mem_append_right _ (List.mem_append_left _ (List.mem_of_getElem? (i := 193) rfl)))) : _ ∈ lw_tbl) rfl
theorem kw674 : Cond.selects "ChunkStoreModel" (⟨"ChunkStoreModel", "locate", "(III)I"⟩ : MethodName) (⟨"ChunkStoreModel", "locate", "(III)I"⟩ : MethodName) ∈ xT := xT_in (List.mem_append_right _ (List.mem_append_right _ (List.mem_append_right _ (List.mem_append_left _ (List.mem_of_getElem? (i := 194) rfl)))) : _ ∈ lw_tbl) rfl
theorem kw675 : Cond.code (⟨"ChunkStoreModel", "locate", "(III)I"⟩ : MethodName) prog_7_method_19_code 4 (some FieldType.int) ∈ xT := xT_in (List.mem_append_right _ (List.mem_append_right _ (List.mem_append_right _ (List.mem_append_left _ (List.mem_of_getElem? (i := 195) rfl)))) : _ ∈ lw_tbl) rfl
theorem kw676 : Cond.methodLink "ChunkStoreModel" 94 (⟨"ChunkStoreModel", "find", "(III)I"⟩ : MethodName) ∈ xT := xT_in (List.mem_append_right _ (List.mem_append_right _ (List.mem_append_right _ (List.mem_append_left _ (List.mem_of_getElem? (i := 196) rfl)))) : _ ∈ lw_tbl) rfl
theorem kw678 : Cond.instanceMethod (⟨"ChunkStoreModel", "find", "(III)I"⟩ : MethodName) ∈ xT := xT_in (List.mem_append_right _ (List.mem_append_right _ (List.mem_append_right _ (List.mem_append_left _ (List.mem_of_getElem? (i := 198) rfl)))) : _ ∈ lw_tbl) rfl
theorem kw679 : Cond.code (⟨"ChunkStoreModel", "find", "(III)I"⟩ : MethodName) prog_7_method_18_code 6 (some FieldType.int) ∈ xT := xT_in (List.mem_append_right _ (List.mem_append_right _ (List.mem_append_right _ (List.mem_append_left _ (List.mem_of_getElem? (i := 199) rfl)))) : _ ∈ lw_tbl) rfl
theorem kw680 : Cond.constantDouble "ChunkStoreModel" 92 (4617315517961601024 : UInt64) ∈ xT := xT_in (List.mem_append_right _ (List.mem_append_right _ (List.mem_append_right _ (List.mem_append_left _ (List.mem_of_getElem? (i := 200) rfl)))) : _ ∈ lw_tbl) rfl
theorem kw681 : Cond.methodLink "ChunkStoreLaw" 114 (⟨"ChunkStoreModel", "write", "(IIII)I"⟩ : MethodName) ∈ xT := xT_in (List.mem_append_right _ (List.mem_append_right _ (List.mem_append_right _ (List.mem_append_left _ (List.mem_of_getElem? (i := 201) rfl)))) : _ ∈ lw_tbl) rfl
theorem kw682 : Cond.instanceMethod (⟨"ChunkStoreModel", "write", "(IIII)I"⟩ : MethodName) ∈ xT := xT_in (List.mem_append_right _ (List.mem_append_right _ (List.mem_append_right _ (List.mem_append_left _ (List.mem_of_getElem? (i := 202) rfl)))) : _ ∈ lw_tbl) rfl
theorem kw683 : Cond.selects "ChunkStoreModel" (⟨"ChunkStoreModel", "write", "(IIII)I"⟩ : MethodName) (⟨"ChunkStoreModel", "write", "(IIII)I"⟩ : MethodName) ∈ xT := xT_in (List.mem_append_right _ (List.mem_append_right _ (List.mem_append_right _ (List.mem_append_left _ (List.mem_of_getElem? (i := 203) rfl)))) : _ ∈ lw_tbl) rfl
theorem kw684 : Cond.code (⟨"ChunkStoreModel", "write", "(IIII)I"⟩ : MethodName) prog_7_method_22_code 7 (some FieldType.int) ∈ xT := xT_in (List.mem_append_right _ (List.mem_append_right _ (List.mem_append_right _ (List.mem_append_left _ (List.mem_of_getElem? (i := 204) rfl)))) : _ ∈ lw_tbl) rfl
theorem kw685 : Cond.methodLink "ChunkStoreModel" 106 (⟨"ChunkStoreModel", "takeLease", "(II)I"⟩ : MethodName) ∈ xT := xT_in (List.mem_append_right _ (List.mem_append_right _ (List.mem_append_right _ (List.mem_append_left _ (List.mem_of_getElem? (i := 205) rfl)))) : _ ∈ lw_tbl) rfl
theorem kw687 : Cond.instanceMethod (⟨"ChunkStoreModel", "takeLease", "(II)I"⟩ : MethodName) ∈ xT := xT_in (List.mem_append_right _ (List.mem_append_right _ (List.mem_append_right _ (List.mem_append_left _ (List.mem_of_getElem? (i := 207) rfl)))) : _ ∈ lw_tbl) rfl
theorem kw688 : Cond.code (⟨"ChunkStoreModel", "takeLease", "(II)I"⟩ : MethodName) prog_7_method_20_code 6 (some FieldType.int) ∈ xT := xT_in (List.mem_append_right _ (List.mem_append_right _ (List.mem_append_right _ (List.mem_append_left _ (List.mem_of_getElem? (i := 208) rfl)))) : _ ∈ lw_tbl) rfl
theorem kw689 : Cond.methodLink "ChunkStoreModel" 98 (⟨"ChunkStoreModel", "live", "(I)I"⟩ : MethodName) ∈ xT := xT_in (List.mem_append_right _ (List.mem_append_right _ (List.mem_append_right _ (List.mem_append_left _ (List.mem_of_getElem? (i := 209) rfl)))) : _ ∈ lw_tbl) rfl
theorem kw691 : Cond.instanceMethod (⟨"ChunkStoreModel", "live", "(I)I"⟩ : MethodName) ∈ xT := xT_in (List.mem_append_right _ (List.mem_append_right _ (List.mem_append_right _ (List.mem_append_left _ (List.mem_of_getElem? (i := 211) rfl)))) : _ ∈ lw_tbl) rfl
theorem kw692 : Cond.code (⟨"ChunkStoreModel", "live", "(I)I"⟩ : MethodName) prog_7_method_12_code 4 (some FieldType.int) ∈ xT := xT_in (List.mem_append_right _ (List.mem_append_right _ (List.mem_append_right _ (List.mem_append_left _ (List.mem_of_getElem? (i := 212) rfl)))) : _ ∈ lw_tbl) rfl
theorem kw693 : Cond.methodLink "ChunkStoreModel" 101 (⟨"ChunkStoreModel", "refs", "(I)I"⟩ : MethodName) ∈ xT := xT_in (List.mem_append_right _ (List.mem_append_right _ (List.mem_append_right _ (List.mem_append_left _ (List.mem_of_getElem? (i := 213) rfl)))) : _ ∈ lw_tbl) rfl
theorem kw695 : Cond.instanceMethod (⟨"ChunkStoreModel", "refs", "(I)I"⟩ : MethodName) ∈ xT := xT_in (List.mem_append_right _ (List.mem_append_right _ (List.mem_append_right _ (List.mem_append_left _ (List.mem_of_getElem? (i := 215) rfl)))) : _ ∈ lw_tbl) rfl
theorem kw696 : Cond.code (⟨"ChunkStoreModel", "refs", "(I)I"⟩ : MethodName) prog_7_method_9_code 5 (some FieldType.int) ∈ xT := xT_in (List.mem_append_right _ (List.mem_append_right _ (List.mem_append_right _ (List.mem_append_left _ (List.mem_of_getElem? (i := 216) rfl)))) : _ ∈ lw_tbl) rfl
theorem kw697 : Cond.constantDouble "ChunkStoreModel" 104 (4621819117588971520 : UInt64) ∈ xT := xT_in (List.mem_append_right _ (List.mem_append_right _ (List.mem_append_right _ (List.mem_append_left _ (List.mem_of_getElem? (i := 217) rfl)))) : _ ∈ lw_tbl) rfl
theorem kw698 : Cond.methodLink "ChunkStoreModel" 109 (⟨"ChunkStoreModel", "store", "(III)V"⟩ : MethodName) ∈ xT := xT_in (List.mem_append_right _ (List.mem_append_right _ (List.mem_append_right _ (List.mem_append_left _ (List.mem_of_getElem? (i := 218) rfl)))) : _ ∈ lw_tbl) rfl
theorem kw700 : Cond.instanceMethod (⟨"ChunkStoreModel", "store", "(III)V"⟩ : MethodName) ∈ xT := xT_in (List.mem_append_right _ (List.mem_append_right _ (List.mem_append_right _ (List.mem_append_left _ (List.mem_of_getElem? (i := 220) rfl)))) : _ ∈ lw_tbl) rfl
theorem kw701 : Cond.code (⟨"ChunkStoreModel", "store", "(III)V"⟩ : MethodName) prog_7_method_21_code 6 none ∈ xT := xT_in (List.mem_append_right _ (List.mem_append_right _ (List.mem_append_right _ (List.mem_append_left _ (List.mem_of_getElem? (i := 221) rfl)))) : _ ∈ lw_tbl) rfl
theorem kw702 : Cond.methodLink "ChunkStoreLaw" 117 (⟨"ChunkStoreModel", "append", "(II)I"⟩ : MethodName) ∈ xT := xT_in (List.mem_append_right _ (List.mem_append_right _ (List.mem_append_right _ (List.mem_append_left _ (List.mem_of_getElem? (i := 222) rfl)))) : _ ∈ lw_tbl) rfl
theorem kw703 : Cond.instanceMethod (⟨"ChunkStoreModel", "append", "(II)I"⟩ : MethodName) ∈ xT := xT_in (List.mem_append_right _ (List.mem_append_right _ (List.mem_append_right _ (List.mem_append_left _ (List.mem_of_getElem? (i := 223) rfl)))) : _ ∈ lw_tbl) rfl
theorem kw704 : Cond.selects "ChunkStoreModel" (⟨"ChunkStoreModel", "append", "(II)I"⟩ : MethodName) (⟨"ChunkStoreModel", "append", "(II)I"⟩ : MethodName) ∈ xT := xT_in (List.mem_append_right _ (List.mem_append_right _ (List.mem_append_right _ (List.mem_append_left _ (List.mem_of_getElem? (i := 224) rfl)))) : _ ∈ lw_tbl) rfl
theorem kw705 : Cond.code (⟨"ChunkStoreModel", "append", "(II)I"⟩ : MethodName) prog_7_method_24_code 7 (some FieldType.int) ∈ xT := xT_in (List.mem_append_right _ (List.mem_append_right _ (List.mem_append_right _ (List.mem_append_left _ (List.mem_of_getElem? (i := 225) rfl)))) : _ ∈ lw_tbl) rfl
theorem kw706 : Cond.methodLink "ChunkStoreModel" 115 (⟨"ChunkStoreModel", "usedIn", "(I)I"⟩ : MethodName) ∈ xT := xT_in (List.mem_append_right _ (List.mem_append_right _ (List.mem_append_right _ (List.mem_append_left _ (List.mem_of_getElem? (i := 226) rfl)))) : _ ∈ lw_tbl) rfl
theorem kw708 : Cond.instanceMethod (⟨"ChunkStoreModel", "usedIn", "(I)I"⟩ : MethodName) ∈ xT := xT_in (List.mem_append_right _ (List.mem_append_right _ (List.mem_append_right _ (List.mem_append_left _ (List.mem_of_getElem? (i := 228) rfl)))) : _ ∈ lw_tbl) rfl
theorem kw709 : Cond.code (⟨"ChunkStoreModel", "usedIn", "(I)I"⟩ : MethodName) prog_7_method_23_code 2 (some FieldType.int) ∈ xT := xT_in (List.mem_append_right _ (List.mem_append_right _ (List.mem_append_right _ (List.mem_append_left _ (List.mem_of_getElem? (i := 229) rfl)))) : _ ∈ lw_tbl) rfl
theorem kw710 : Cond.methodLink "ChunkStoreModel" 112 (⟨"ChunkStoreModel", "first", "(I)I"⟩ : MethodName) ∈ xT := xT_in (List.mem_append_right _ (List.mem_append_right _ (List.mem_append_right _ (List.mem_append_left _ (List.mem_of_getElem? (i := 230) rfl)))) : _ ∈ lw_tbl) rfl
theorem kw712 : Cond.instanceMethod (⟨"ChunkStoreModel", "first", "(I)I"⟩ : MethodName) ∈ xT := xT_in (List.mem_append_right _ (List.mem_append_right _ (List.mem_append_right _ (List.mem_append_left _ (List.mem_of_getElem? (i := 232) rfl)))) : _ ∈ lw_tbl) rfl
theorem kw713 : Cond.code (⟨"ChunkStoreModel", "first", "(I)I"⟩ : MethodName) prog_7_method_14_code 3 (some FieldType.int) ∈ xT := xT_in (List.mem_append_right _ (List.mem_append_right _ (List.mem_append_right _ (List.mem_append_left _ (List.mem_of_getElem? (i := 233) rfl)))) : _ ∈ lw_tbl) rfl
theorem kw714 : Cond.methodLink "ChunkStoreLaw" 121 (⟨"ChunkStoreModel", "read", "(IIIII)I"⟩ : MethodName) ∈ xT := xT_in (List.mem_append_right _ (List.mem_append_right _ (List.mem_append_right _ (List.mem_append_left _ (List.mem_of_getElem? (i := 234) rfl)))) : _ ∈ lw_tbl) rfl
theorem kw715 : Cond.instanceMethod (⟨"ChunkStoreModel", "read", "(IIIII)I"⟩ : MethodName) ∈ xT := xT_in (List.mem_append_right _ (List.mem_append_right _ (List.mem_append_right _ (List.mem_append_left _ (List.mem_of_getElem? (i := 235) rfl)))) : _ ∈ lw_tbl) rfl
theorem kw716 : Cond.selects "ChunkStoreModel" (⟨"ChunkStoreModel", "read", "(IIIII)I"⟩ : MethodName) (⟨"ChunkStoreModel", "read", "(IIIII)I"⟩ : MethodName) ∈ xT := xT_in (List.mem_append_right _ (List.mem_append_right _ (List.mem_append_right _ (List.mem_append_left _ (List.mem_of_getElem? (i := 236) rfl)))) : _ ∈ lw_tbl) rfl
theorem kw717 : Cond.code (⟨"ChunkStoreModel", "read", "(IIIII)I"⟩ : MethodName) prog_7_method_25_code 9 (some FieldType.int) ∈ xT := xT_in (List.mem_append_right _ (List.mem_append_right _ (List.mem_append_right _ (List.mem_append_left _ (List.mem_of_getElem? (i := 237) rfl)))) : _ ∈ lw_tbl) rfl
theorem kw718 : Cond.methodLink "ChunkStoreLaw" 125 (⟨"ChunkStoreModel", "up", "(IZ)I"⟩ : MethodName) ∈ xT := xT_in (List.mem_append_right _ (List.mem_append_right _ (List.mem_append_right _ (List.mem_append_left _ (List.mem_of_getElem? (i := 238) rfl)))) : _ ∈ lw_tbl) rfl
theorem kw719 : Cond.instanceMethod (⟨"ChunkStoreModel", "up", "(IZ)I"⟩ : MethodName) ∈ xT := xT_in (List.mem_append_right _ (List.mem_append_right _ (List.mem_append_right _ (List.mem_append_left _ (List.mem_of_getElem? (i := 239) rfl)))) : _ ∈ lw_tbl) rfl
theorem kw720 : Cond.selects "ChunkStoreModel" (⟨"ChunkStoreModel", "up", "(IZ)I"⟩ : MethodName) (⟨"ChunkStoreModel", "up", "(IZ)I"⟩ : MethodName) ∈ xT := xT_in (List.mem_append_right _ (List.mem_append_right _ (List.mem_append_right _ (List.mem_append_right _ (List.mem_of_getElem? (i := 0) rfl)))) : _ ∈ lw_tbl) rfl
theorem kw721 : Cond.code (⟨"ChunkStoreModel", "up", "(IZ)I"⟩ : MethodName) prog_7_method_26_code 3 (some FieldType.int) ∈ xT := xT_in (List.mem_append_right _ (List.mem_append_right _ (List.mem_append_right _ (List.mem_append_right _ (List.mem_of_getElem? (i := 1) rfl)))) : _ ∈ lw_tbl) rfl
theorem kw722 : Cond.methodLink "ChunkStoreLaw" 128 (⟨"ChunkStoreModel", "report", "(I)I"⟩ : MethodName) ∈ xT := xT_in (List.mem_append_right _ (List.mem_append_right _ (List.mem_append_right _ (List.mem_append_right _ (List.mem_of_getElem? (i := 2) rfl)))) : _ ∈ lw_tbl) rfl
theorem kw723 : Cond.instanceMethod (⟨"ChunkStoreModel", "report", "(I)I"⟩ : MethodName) ∈ xT := xT_in (List.mem_append_right _ (List.mem_append_right _ (List.mem_append_right _ (List.mem_append_right _ (List.mem_of_getElem? (i := 3) rfl)))) : _ ∈ lw_tbl) rfl
theorem kw724 : Cond.selects "ChunkStoreModel" (⟨"ChunkStoreModel", "report", "(I)I"⟩ : MethodName) (⟨"ChunkStoreModel", "report", "(I)I"⟩ : MethodName) ∈ xT := xT_in (List.mem_append_right _ (List.mem_append_right _ (List.mem_append_right _ (List.mem_append_right _ (List.mem_of_getElem? (i := 4) rfl)))) : _ ∈ lw_tbl) rfl
theorem kw725 : Cond.code (⟨"ChunkStoreModel", "report", "(I)I"⟩ : MethodName) prog_7_method_27_code 5 (some FieldType.int) ∈ xT := xT_in (List.mem_append_right _ (List.mem_append_right _ (List.mem_append_right _ (List.mem_append_right _ (List.mem_of_getElem? (i := 5) rfl)))) : _ ∈ lw_tbl) rfl
theorem kw726 : Cond.methodLink "ChunkStoreLaw" 132 (⟨"ChunkStoreModel", "repair", "()I"⟩ : MethodName) ∈ xT := xT_in (List.mem_append_right _ (List.mem_append_right _ (List.mem_append_right _ (List.mem_append_right _ (List.mem_of_getElem? (i := 6) rfl)))) : _ ∈ lw_tbl) rfl
theorem kw727 : Cond.instanceMethod (⟨"ChunkStoreModel", "repair", "()I"⟩ : MethodName) ∈ xT := xT_in (List.mem_append_right _ (List.mem_append_right _ (List.mem_append_right _ (List.mem_append_right _ (List.mem_of_getElem? (i := 7) rfl)))) : _ ∈ lw_tbl) rfl
theorem kw728 : Cond.selects "ChunkStoreModel" (⟨"ChunkStoreModel", "repair", "()I"⟩ : MethodName) (⟨"ChunkStoreModel", "repair", "()I"⟩ : MethodName) ∈ xT := xT_in (List.mem_append_right _ (List.mem_append_right _ (List.mem_append_right _ (List.mem_append_right _ (List.mem_of_getElem? (i := 8) rfl)))) : _ ∈ lw_tbl) rfl
theorem kw729 : Cond.code (⟨"ChunkStoreModel", "repair", "()I"⟩ : MethodName) prog_7_method_28_code 4 (some FieldType.int) ∈ xT := xT_in (List.mem_append_right _ (List.mem_append_right _ (List.mem_append_right _ (List.mem_append_right _ (List.mem_of_getElem? (i := 9) rfl)))) : _ ∈ lw_tbl) rfl
theorem kw730 : Cond.methodLink "ChunkStoreModel" 118 (⟨"ChunkStoreModel", "ones", "(I)I"⟩ : MethodName) ∈ xT := xT_in (List.mem_append_right _ (List.mem_append_right _ (List.mem_append_right _ (List.mem_append_right _ (List.mem_of_getElem? (i := 10) rfl)))) : _ ∈ lw_tbl) rfl
theorem kw732 : Cond.instanceMethod (⟨"ChunkStoreModel", "ones", "(I)I"⟩ : MethodName) ∈ xT := xT_in (List.mem_append_right _ (List.mem_append_right _ (List.mem_append_right _ (List.mem_append_right _ (List.mem_of_getElem? (i := 12) rfl)))) : _ ∈ lw_tbl) rfl
theorem kw733 : Cond.code (⟨"ChunkStoreModel", "ones", "(I)I"⟩ : MethodName) prog_7_method_13_code 4 (some FieldType.int) ∈ xT := xT_in (List.mem_append_right _ (List.mem_append_right _ (List.mem_append_right _ (List.mem_append_right _ (List.mem_of_getElem? (i := 13) rfl)))) : _ ∈ lw_tbl) rfl
theorem kw734 : Cond.methodLink "ChunkStoreLaw" 136 (⟨"ChunkStoreModel", "sweep", "()I"⟩ : MethodName) ∈ xT := xT_in (List.mem_append_right _ (List.mem_append_right _ (List.mem_append_right _ (List.mem_append_right _ (List.mem_of_getElem? (i := 14) rfl)))) : _ ∈ lw_tbl) rfl
theorem kw735 : Cond.instanceMethod (⟨"ChunkStoreModel", "sweep", "()I"⟩ : MethodName) ∈ xT := xT_in (List.mem_append_right _ (List.mem_append_right _ (List.mem_append_right _ (List.mem_append_right _ (List.mem_of_getElem? (i := 15) rfl)))) : _ ∈ lw_tbl) rfl
theorem kw736 : Cond.selects "ChunkStoreModel" (⟨"ChunkStoreModel", "sweep", "()I"⟩ : MethodName) (⟨"ChunkStoreModel", "sweep", "()I"⟩ : MethodName) ∈ xT := xT_in (List.mem_append_right _ (List.mem_append_right _ (List.mem_append_right _ (List.mem_append_right _ (List.mem_of_getElem? (i := 16) rfl)))) : _ ∈ lw_tbl) rfl
theorem kw737 : Cond.code (⟨"ChunkStoreModel", "sweep", "()I"⟩ : MethodName) prog_7_method_29_code 3 (some FieldType.int) ∈ xT := xT_in (List.mem_append_right _ (List.mem_append_right _ (List.mem_append_right _ (List.mem_append_right _ (List.mem_of_getElem? (i := 17) rfl)))) : _ ∈ lw_tbl) rfl
theorem kw738 : Cond.constantDouble "ChunkStoreModel" 121 (4629137466983448576 : UInt64) ∈ xT := xT_in (List.mem_append_right _ (List.mem_append_right _ (List.mem_append_right _ (List.mem_append_right _ (List.mem_of_getElem? (i := 18) rfl)))) : _ ∈ lw_tbl) rfl
theorem kw739 : Cond.methodLink "ChunkStoreLaw" 142 (⟨"ChunkStoreModel", "tick", "(D)D"⟩ : MethodName) ∈ xT := xT_in (List.mem_append_right _ (List.mem_append_right _ (List.mem_append_right _ (List.mem_append_right _ (List.mem_of_getElem? (i := 19) rfl)))) : _ ∈ lw_tbl) rfl
theorem kw740 : Cond.instanceMethod (⟨"ChunkStoreModel", "tick", "(D)D"⟩ : MethodName) ∈ xT := xT_in (List.mem_append_right _ (List.mem_append_right _ (List.mem_append_right _ (List.mem_append_right _ (List.mem_of_getElem? (i := 20) rfl)))) : _ ∈ lw_tbl) rfl
theorem kw741 : Cond.selects "ChunkStoreModel" (⟨"ChunkStoreModel", "tick", "(D)D"⟩ : MethodName) (⟨"ChunkStoreModel", "tick", "(D)D"⟩ : MethodName) ∈ xT := xT_in (List.mem_append_right _ (List.mem_append_right _ (List.mem_append_right _ (List.mem_append_right _ (List.mem_of_getElem? (i := 21) rfl)))) : _ ∈ lw_tbl) rfl
theorem kw742 : Cond.code (⟨"ChunkStoreModel", "tick", "(D)D"⟩ : MethodName) prog_7_method_30_code 3 (some FieldType.double) ∈ xT := xT_in (List.mem_append_right _ (List.mem_append_right _ (List.mem_append_right _ (List.mem_append_right _ (List.mem_of_getElem? (i := 22) rfl)))) : _ ∈ lw_tbl) rfl
theorem kw743 : Cond.constantDouble "ChunkStoreModel" 123 (4636737291354636288 : UInt64) ∈ xT := xT_in (List.mem_append_right _ (List.mem_append_right _ (List.mem_append_right _ (List.mem_append_right _ (List.mem_of_getElem? (i := 23) rfl)))) : _ ∈ lw_tbl) rfl
theorem kw744 : Cond.methodLink "ChunkStoreLaw" 146 (⟨"ChunkStoreModel", "load", "()D"⟩ : MethodName) ∈ xT := xT_in (List.mem_append_right _ (List.mem_append_right _ (List.mem_append_right _ (List.mem_append_right _ (List.mem_of_getElem? (i := 24) rfl)))) : _ ∈ lw_tbl) rfl
theorem kw745 : Cond.instanceMethod (⟨"ChunkStoreModel", "load", "()D"⟩ : MethodName) ∈ xT := xT_in (List.mem_append_right _ (List.mem_append_right _ (List.mem_append_right _ (List.mem_append_right _ (List.mem_of_getElem? (i := 25) rfl)))) : _ ∈ lw_tbl) rfl
theorem kw746 : Cond.selects "ChunkStoreModel" (⟨"ChunkStoreModel", "load", "()D"⟩ : MethodName) (⟨"ChunkStoreModel", "load", "()D"⟩ : MethodName) ∈ xT := xT_in (List.mem_append_right _ (List.mem_append_right _ (List.mem_append_right _ (List.mem_append_right _ (List.mem_of_getElem? (i := 26) rfl)))) : _ ∈ lw_tbl) rfl
theorem kw747 : Cond.code (⟨"ChunkStoreModel", "load", "()D"⟩ : MethodName) prog_7_method_31_code 4 (some FieldType.double) ∈ xT := xT_in (List.mem_append_right _ (List.mem_append_right _ (List.mem_append_right _ (List.mem_append_right _ (List.mem_of_getElem? (i := 27) rfl)))) : _ ∈ lw_tbl) rfl
theorem kw748 : Cond.methodLink "ChunkStoreLaw" 149 (⟨"ChunkStoreModel", "look", "(III)I"⟩ : MethodName) ∈ xT := xT_in (List.mem_append_right _ (List.mem_append_right _ (List.mem_append_right _ (List.mem_append_right _ (List.mem_of_getElem? (i := 28) rfl)))) : _ ∈ lw_tbl) rfl
theorem kw749 : Cond.instanceMethod (⟨"ChunkStoreModel", "look", "(III)I"⟩ : MethodName) ∈ xT := xT_in (List.mem_append_right _ (List.mem_append_right _ (List.mem_append_right _ (List.mem_append_right _ (List.mem_of_getElem? (i := 29) rfl)))) : _ ∈ lw_tbl) rfl
theorem kw750 : Cond.selects "ChunkStoreModel" (⟨"ChunkStoreModel", "look", "(III)I"⟩ : MethodName) (⟨"ChunkStoreModel", "look", "(III)I"⟩ : MethodName) ∈ xT := xT_in (List.mem_append_right _ (List.mem_append_right _ (List.mem_append_right _ (List.mem_append_right _ (List.mem_of_getElem? (i := 30) rfl)))) : _ ∈ lw_tbl) rfl
theorem kw751 : Cond.code (⟨"ChunkStoreModel", "look", "(III)I"⟩ : MethodName) prog_7_method_32_code 5 (some FieldType.int) ∈ xT := xT_in (List.mem_append_right _ (List.mem_append_right _ (List.mem_append_right _ (List.mem_append_right _ (List.mem_of_getElem? (i := 31) rfl)))) : _ ∈ lw_tbl) rfl
theorem kw752 : Cond.methodLink "ChunkStoreLaw" 152 (⟨"ChunkStoreModel", "file", "(II)I"⟩ : MethodName) ∈ xT := xT_in (List.mem_append_right _ (List.mem_append_right _ (List.mem_append_right _ (List.mem_append_right _ (List.mem_of_getElem? (i := 32) rfl)))) : _ ∈ lw_tbl) rfl
theorem kw753 : Cond.instanceMethod (⟨"ChunkStoreModel", "file", "(II)I"⟩ : MethodName) ∈ xT := xT_in (List.mem_append_right _ (List.mem_append_right _ (List.mem_append_right _ (List.mem_append_right _ (List.mem_of_getElem? (i := 33) rfl)))) : _ ∈ lw_tbl) rfl
theorem kw754 : Cond.selects "ChunkStoreModel" (⟨"ChunkStoreModel", "file", "(II)I"⟩ : MethodName) (⟨"ChunkStoreModel", "file", "(II)I"⟩ : MethodName) ∈ xT := xT_in (List.mem_append_right _ (List.mem_append_right _ (List.mem_append_right _ (List.mem_append_right _ (List.mem_of_getElem? (i := 34) rfl)))) : _ ∈ lw_tbl) rfl
theorem kw755 : Cond.code (⟨"ChunkStoreModel", "file", "(II)I"⟩ : MethodName) prog_7_method_33_code 3 (some FieldType.int) ∈ xT := xT_in (List.mem_append_right _ (List.mem_append_right _ (List.mem_append_right _ (List.mem_append_right _ (List.mem_of_getElem? (i := 35) rfl)))) : _ ∈ lw_tbl) rfl
theorem kw756 : Cond.methodLink "ChunkStoreLaw" 155 (⟨"ChunkStoreModel", "chunk", "(II)I"⟩ : MethodName) ∈ xT := xT_in (List.mem_append_right _ (List.mem_append_right _ (List.mem_append_right _ (List.mem_append_right _ (List.mem_of_getElem? (i := 36) rfl)))) : _ ∈ lw_tbl) rfl
theorem kw757 : Cond.instanceMethod (⟨"ChunkStoreModel", "chunk", "(II)I"⟩ : MethodName) ∈ xT := xT_in (List.mem_append_right _ (List.mem_append_right _ (List.mem_append_right _ (List.mem_append_right _ (List.mem_of_getElem? (i := 37) rfl)))) : _ ∈ lw_tbl) rfl
theorem kw758 : Cond.selects "ChunkStoreModel" (⟨"ChunkStoreModel", "chunk", "(II)I"⟩ : MethodName) (⟨"ChunkStoreModel", "chunk", "(II)I"⟩ : MethodName) ∈ xT := xT_in (List.mem_append_right _ (List.mem_append_right _ (List.mem_append_right _ (List.mem_append_right _ (List.mem_of_getElem? (i := 38) rfl)))) : _ ∈ lw_tbl) rfl
theorem kw759 : Cond.code (⟨"ChunkStoreModel", "chunk", "(II)I"⟩ : MethodName) prog_7_method_34_code 3 (some FieldType.int) ∈ xT := xT_in (List.mem_append_right _ (List.mem_append_right _ (List.mem_append_right _ (List.mem_append_right _ (List.mem_of_getElem? (i := 39) rfl)))) : _ ∈ lw_tbl) rfl
theorem kw760 : Cond.constantDouble "ChunkStoreLaw" 137 (4593671619917905920 : UInt64) ∈ xT := xT_in (List.mem_append_right _ (List.mem_append_right _ (List.mem_append_right _ (List.mem_append_right _ (List.mem_of_getElem? (i := 40) rfl)))) : _ ∈ lw_tbl) rfl
theorem ks0 : Cond.selects "ChunkStore" (⟨"ChunkStore", "forget", "(LChunkStore$FileEntry;)V"⟩ : MethodName) (⟨"ChunkStore", "forget", "(LChunkStore$FileEntry;)V"⟩ : MethodName) ∈ xT := xT_in (List.mem_append_left _ (List.mem_of_getElem? (i := 0) rfl)) rfl
theorem ks1 : Cond.selects "java/lang/Throwable" (⟨"java/lang/Throwable", "fillInStackTrace", "(I)Ljava/lang/Throwable;"⟩ : MethodName) (⟨"java/lang/Throwable", "fillInStackTrace", "(I)Ljava/lang/Throwable;"⟩ : MethodName) ∈ xT := xT_in (List.mem_append_left _ (List.mem_of_getElem? (i := 1) rfl)) rfl
theorem ks2 : Cond.selects "ChunkStore" (⟨"ChunkStore", "fileNotYet", "(I)LChunkStore$FileEntry;"⟩ : MethodName) (⟨"ChunkStore", "fileNotYet", "(I)LChunkStore$FileEntry;"⟩ : MethodName) ∈ xT := xT_in (List.mem_append_left _ (List.mem_of_getElem? (i := 2) rfl)) rfl
theorem ks3 : Cond.selects "ChunkStore" (⟨"ChunkStore", "countThere", "()I"⟩ : MethodName) (⟨"ChunkStore", "countThere", "()I"⟩ : MethodName) ∈ xT := xT_in (List.mem_append_left _ (List.mem_of_getElem? (i := 3) rfl)) rfl
theorem ks4 : Cond.selects "ChunkStore" (⟨"ChunkStore", "fileThere", "(I)LChunkStore$FileEntry;"⟩ : MethodName) (⟨"ChunkStore", "fileThere", "(I)LChunkStore$FileEntry;"⟩ : MethodName) ∈ xT := xT_in (List.mem_append_left _ (List.mem_of_getElem? (i := 4) rfl)) rfl
theorem ks5 : Cond.selects "ChunkStore$FileEntry" (⟨"ChunkStore$FileEntry", "addAtEnd", "(I)V"⟩ : MethodName) (⟨"ChunkStore$FileEntry", "addAtEnd", "(I)V"⟩ : MethodName) ∈ xT := xT_in (List.mem_append_left _ (List.mem_of_getElem? (i := 5) rfl)) rfl
theorem ks6 : Cond.selects "ChunkStore" (⟨"ChunkStore", "makeChunk", "(LChunkStore$FileEntry;)I"⟩ : MethodName) (⟨"ChunkStore", "makeChunk", "(LChunkStore$FileEntry;)I"⟩ : MethodName) ∈ xT := xT_in (List.mem_append_left _ (List.mem_of_getElem? (i := 6) rfl)) rfl
theorem ks7 : Cond.selects "ChunkStore" (⟨"ChunkStore", "choose", "(II)I"⟩ : MethodName) (⟨"ChunkStore", "choose", "(II)I"⟩ : MethodName) ∈ xT := xT_in (List.mem_append_left _ (List.mem_of_getElem? (i := 7) rfl)) rfl
theorem ks8 : Cond.selects "ChunkStore" (⟨"ChunkStore", "lightest", "(II)I"⟩ : MethodName) (⟨"ChunkStore", "lightest", "(II)I"⟩ : MethodName) ∈ xT := xT_in (List.mem_append_left _ (List.mem_of_getElem? (i := 8) rfl)) rfl
theorem ks9 : Cond.selects "ChunkStore$Server" (⟨"ChunkStore$Server", "isFull", "()Z"⟩ : MethodName) (⟨"ChunkStore$Server", "isFull", "()Z"⟩ : MethodName) ∈ xT := xT_in (List.mem_append_left _ (List.mem_of_getElem? (i := 9) rfl)) rfl
theorem ks10 : Cond.selects "ChunkStore$Server" (⟨"ChunkStore$Server", "has", "(I)Z"⟩ : MethodName) (⟨"ChunkStore$Server", "has", "(I)Z"⟩ : MethodName) ∈ xT := xT_in (List.mem_append_left _ (List.mem_of_getElem? (i := 10) rfl)) rfl
theorem ks11 : Cond.selects "ChunkStore" (⟨"ChunkStore", "startChunk", "(I)V"⟩ : MethodName) (⟨"ChunkStore", "startChunk", "(I)V"⟩ : MethodName) ∈ xT := xT_in (List.mem_append_left _ (List.mem_of_getElem? (i := 11) rfl)) rfl
theorem ks12 : Cond.selects "ChunkStore$Server" (⟨"ChunkStore$Server", "addEmpty", "(I)V"⟩ : MethodName) (⟨"ChunkStore$Server", "addEmpty", "(I)V"⟩ : MethodName) ∈ xT := xT_in (List.mem_append_left _ (List.mem_of_getElem? (i := 12) rfl)) rfl
theorem ks13 : Cond.selects "ChunkStore" (⟨"ChunkStore", "find", "(III)LChunkStore$Kept;"⟩ : MethodName) (⟨"ChunkStore", "find", "(III)LChunkStore$Kept;"⟩ : MethodName) ∈ xT := xT_in (List.mem_append_left _ (List.mem_of_getElem? (i := 13) rfl)) rfl
theorem ks14 : Cond.selects "ChunkStore" (⟨"ChunkStore", "lease", "(LChunkStore$FileEntry;I)I"⟩ : MethodName) (⟨"ChunkStore", "lease", "(LChunkStore$FileEntry;I)I"⟩ : MethodName) ∈ xT := xT_in (List.mem_append_left _ (List.mem_of_getElem? (i := 14) rfl)) rfl
theorem ks15 : Cond.selects "ChunkStore" (⟨"ChunkStore", "liveHolders", "(I)I"⟩ : MethodName) (⟨"ChunkStore", "liveHolders", "(I)I"⟩ : MethodName) ∈ xT := xT_in (List.mem_append_left _ (List.mem_of_getElem? (i := 15) rfl)) rfl
theorem ks16 : Cond.selects "ChunkStore" (⟨"ChunkStore", "isLeased", "(LChunkStore$Chunk;)Z"⟩ : MethodName) (⟨"ChunkStore", "isLeased", "(LChunkStore$Chunk;)Z"⟩ : MethodName) ∈ xT := xT_in (List.mem_append_left _ (List.mem_of_getElem? (i := 16) rfl)) rfl
theorem ks17 : Cond.selects "ChunkStore" (⟨"ChunkStore", "splitOff", "(LChunkStore$FileEntry;II)I"⟩ : MethodName) (⟨"ChunkStore", "splitOff", "(LChunkStore$FileEntry;II)I"⟩ : MethodName) ∈ xT := xT_in (List.mem_append_left _ (List.mem_of_getElem? (i := 17) rfl)) rfl
theorem ks18 : Cond.selects "ChunkStore" (⟨"ChunkStore", "anyFull", "(I)Z"⟩ : MethodName) (⟨"ChunkStore", "anyFull", "(I)Z"⟩ : MethodName) ∈ xT := xT_in (List.mem_append_left _ (List.mem_of_getElem? (i := 18) rfl)) rfl
theorem ks19 : Cond.selects "ChunkStore$Server" (⟨"ChunkStore$Server", "addLike", "(ILChunkStore$Server;II)V"⟩ : MethodName) (⟨"ChunkStore$Server", "addLike", "(ILChunkStore$Server;II)V"⟩ : MethodName) ∈ xT := xT_in (List.mem_append_left _ (List.mem_of_getElem? (i := 19) rfl)) rfl
theorem ks20 : Cond.selects "ChunkStore" (⟨"ChunkStore", "raiseVersion", "(II)V"⟩ : MethodName) (⟨"ChunkStore", "raiseVersion", "(II)V"⟩ : MethodName) ∈ xT := xT_in (List.mem_append_left _ (List.mem_of_getElem? (i := 20) rfl)) rfl
theorem ks21 : Cond.selects "ChunkStore" (⟨"ChunkStore", "setWordAtHolders", "(III)V"⟩ : MethodName) (⟨"ChunkStore", "setWordAtHolders", "(III)V"⟩ : MethodName) ∈ xT := xT_in (List.mem_append_left _ (List.mem_of_getElem? (i := 21) rfl)) rfl
theorem ks22 : Cond.selects "ChunkStore$Server" (⟨"ChunkStore$Server", "setWord", "(III)V"⟩ : MethodName) (⟨"ChunkStore$Server", "setWord", "(III)V"⟩ : MethodName) ∈ xT := xT_in (List.mem_append_left _ (List.mem_of_getElem? (i := 22) rfl)) rfl
theorem ks23 : Cond.selects "ChunkStore" (⟨"ChunkStore", "usedAtFirst", "(I)I"⟩ : MethodName) (⟨"ChunkStore", "usedAtFirst", "(I)I"⟩ : MethodName) ∈ xT := xT_in (List.mem_append_left _ (List.mem_of_getElem? (i := 23) rfl)) rfl
theorem ks24 : Cond.selects "ChunkStore$Server" (⟨"ChunkStore$Server", "word", "(II)I"⟩ : MethodName) (⟨"ChunkStore$Server", "word", "(II)I"⟩ : MethodName) ∈ xT := xT_in (List.mem_append_left _ (List.mem_of_getElem? (i := 24) rfl)) rfl
theorem ks25 : Cond.selects "ChunkStore" (⟨"ChunkStore", "confirmReplica", "(II)Z"⟩ : MethodName) (⟨"ChunkStore", "confirmReplica", "(II)Z"⟩ : MethodName) ∈ xT := xT_in (List.mem_append_left _ (List.mem_of_getElem? (i := 25) rfl)) rfl
theorem ks26 : Cond.selects "ChunkStore$Server" (⟨"ChunkStore$Server", "drop", "(I)V"⟩ : MethodName) (⟨"ChunkStore$Server", "drop", "(I)V"⟩ : MethodName) ∈ xT := xT_in (List.mem_append_left _ (List.mem_of_getElem? (i := 26) rfl)) rfl
theorem ks27 : Cond.selects "ChunkStore" (⟨"ChunkStore", "mostInNeed", "()I"⟩ : MethodName) (⟨"ChunkStore", "mostInNeed", "()I"⟩ : MethodName) ∈ xT := xT_in (List.mem_append_left _ (List.mem_of_getElem? (i := 27) rfl)) rfl
theorem ks28 : Cond.selects "ChunkStoreModel" (⟨"ChunkStoreModel", "out", "(II)Z"⟩ : MethodName) (⟨"ChunkStoreModel", "out", "(II)Z"⟩ : MethodName) ∈ xT := xT_in (List.mem_append_left _ (List.mem_of_getElem? (i := 28) rfl)) rfl
theorem ks29 : Cond.selects "ChunkStoreModel" (⟨"ChunkStoreModel", "fail", "(I)I"⟩ : MethodName) (⟨"ChunkStoreModel", "fail", "(I)I"⟩ : MethodName) ∈ xT := xT_in (List.mem_append_left _ (List.mem_of_getElem? (i := 29) rfl)) rfl
theorem ks30 : Cond.selects "ChunkStoreModel" (⟨"ChunkStoreModel", "makeChunk", "(I)I"⟩ : MethodName) (⟨"ChunkStoreModel", "makeChunk", "(I)I"⟩ : MethodName) ∈ xT := xT_in (List.mem_append_left _ (List.mem_of_getElem? (i := 30) rfl)) rfl
theorem ks31 : Cond.selects "ChunkStoreModel" (⟨"ChunkStoreModel", "choose", "(II)I"⟩ : MethodName) (⟨"ChunkStoreModel", "choose", "(II)I"⟩ : MethodName) ∈ xT := xT_in (List.mem_append_left _ (List.mem_of_getElem? (i := 31) rfl)) rfl
theorem ks32 : Cond.selects "ChunkStoreModel" (⟨"ChunkStoreModel", "loadOf", "(I)I"⟩ : MethodName) (⟨"ChunkStoreModel", "loadOf", "(I)I"⟩ : MethodName) ∈ xT := xT_in (List.mem_append_left _ (List.mem_of_getElem? (i := 32) rfl)) rfl
theorem ks33 : Cond.selects "ChunkStoreModel" (⟨"ChunkStoreModel", "place", "(III)V"⟩ : MethodName) (⟨"ChunkStoreModel", "place", "(III)V"⟩ : MethodName) ∈ xT := xT_in (List.mem_append_left _ (List.mem_of_getElem? (i := 33) rfl)) rfl
theorem ks34 : Cond.selects "ChunkStoreModel" (⟨"ChunkStoreModel", "find", "(III)I"⟩ : MethodName) (⟨"ChunkStoreModel", "find", "(III)I"⟩ : MethodName) ∈ xT := xT_in (List.mem_append_left _ (List.mem_of_getElem? (i := 34) rfl)) rfl
theorem ks35 : Cond.selects "ChunkStoreModel" (⟨"ChunkStoreModel", "takeLease", "(II)I"⟩ : MethodName) (⟨"ChunkStoreModel", "takeLease", "(II)I"⟩ : MethodName) ∈ xT := xT_in (List.mem_append_left _ (List.mem_of_getElem? (i := 35) rfl)) rfl
theorem ks36 : Cond.selects "ChunkStoreModel" (⟨"ChunkStoreModel", "live", "(I)I"⟩ : MethodName) (⟨"ChunkStoreModel", "live", "(I)I"⟩ : MethodName) ∈ xT := xT_in (List.mem_append_left _ (List.mem_of_getElem? (i := 36) rfl)) rfl
theorem ks37 : Cond.selects "ChunkStoreModel" (⟨"ChunkStoreModel", "refs", "(I)I"⟩ : MethodName) (⟨"ChunkStoreModel", "refs", "(I)I"⟩ : MethodName) ∈ xT := xT_in (List.mem_append_left _ (List.mem_of_getElem? (i := 37) rfl)) rfl
theorem ks38 : Cond.selects "ChunkStoreModel" (⟨"ChunkStoreModel", "store", "(III)V"⟩ : MethodName) (⟨"ChunkStoreModel", "store", "(III)V"⟩ : MethodName) ∈ xT := xT_in (List.mem_append_left _ (List.mem_of_getElem? (i := 38) rfl)) rfl
theorem ks39 : Cond.selects "ChunkStoreModel" (⟨"ChunkStoreModel", "usedIn", "(I)I"⟩ : MethodName) (⟨"ChunkStoreModel", "usedIn", "(I)I"⟩ : MethodName) ∈ xT := xT_in (List.mem_append_left _ (List.mem_of_getElem? (i := 39) rfl)) rfl
theorem ks40 : Cond.selects "ChunkStoreModel" (⟨"ChunkStoreModel", "first", "(I)I"⟩ : MethodName) (⟨"ChunkStoreModel", "first", "(I)I"⟩ : MethodName) ∈ xT := xT_in (List.mem_append_left _ (List.mem_of_getElem? (i := 40) rfl)) rfl
theorem ks41 : Cond.selects "ChunkStoreModel" (⟨"ChunkStoreModel", "ones", "(I)I"⟩ : MethodName) (⟨"ChunkStoreModel", "ones", "(I)I"⟩ : MethodName) ∈ xT := xT_in (List.mem_append_left _ (List.mem_of_getElem? (i := 41) rfl)) rfl
end XNM
end
section
section XDEC
theorem d_CS_init_0 : decode b_CS_init 0 = .ok (.aload_n 0, 1) := by decide +kernel
theorem d_CS_init_1 : decode b_CS_init 1 = .ok (.invokespecial 3, 3) := by decide +kernel
theorem d_CS_init_4 : decode b_CS_init 4 = .ok (.aload_n 0, 1) := by decide +kernel
theorem d_CS_init_5 : decode b_CS_init 5 = .ok (.bipush 8, 2) := by decide +kernel
theorem d_CS_init_7 : decode b_CS_init 7 = .ok (.anewarray 9, 3) := by decide +kernel
theorem d_CS_init_10 : decode b_CS_init 10 = .ok (.putfield 11, 3) := by decide +kernel
theorem d_CS_init_13 : decode b_CS_init 13 = .ok (.iconst 0, 1) := by decide +kernel
theorem d_CS_init_14 : decode b_CS_init 14 = .ok (.istore_n 1, 1) := by decide +kernel
theorem d_CS_init_15 : decode b_CS_init 15 = .ok (.iload_n 1, 1) := by decide +kernel
theorem d_CS_init_16 : decode b_CS_init 16 = .ok (.bipush 8, 2) := by decide +kernel
theorem d_CS_init_18 : decode b_CS_init 18 = .ok (.if_icmp .ge 22, 3) := by decide +kernel
theorem d_CS_init_21 : decode b_CS_init 21 = .ok (.aload_n 0, 1) := by decide +kernel
theorem d_CS_init_22 : decode b_CS_init 22 = .ok (.getfield 11, 3) := by decide +kernel
theorem d_CS_init_25 : decode b_CS_init 25 = .ok (.iload_n 1, 1) := by decide +kernel
theorem d_CS_init_26 : decode b_CS_init 26 = .ok (.new 9, 3) := by decide +kernel
theorem d_CS_init_29 : decode b_CS_init 29 = .ok (.dup, 1) := by decide +kernel
theorem d_CS_init_30 : decode b_CS_init 30 = .ok (.invokespecial 15, 3) := by decide +kernel
theorem d_CS_init_33 : decode b_CS_init 33 = .ok (.aastore, 1) := by decide +kernel
theorem d_CS_init_34 : decode b_CS_init 34 = .ok (.iinc 1 1, 3) := by decide +kernel
theorem d_CS_init_37 : decode b_CS_init 37 = .ok (.goto (-22), 3) := by decide +kernel
theorem d_CS_init_40 : decode b_CS_init 40 = .ok (.aload_n 0, 1) := by decide +kernel
theorem d_CS_init_41 : decode b_CS_init 41 = .ok (.bipush 30, 2) := by decide +kernel
theorem d_CS_init_43 : decode b_CS_init 43 = .ok (.anewarray 16, 3) := by decide +kernel
theorem d_CS_init_46 : decode b_CS_init 46 = .ok (.putfield 18, 3) := by decide +kernel
theorem d_CS_init_49 : decode b_CS_init 49 = .ok (.iconst 0, 1) := by decide +kernel
theorem d_CS_init_50 : decode b_CS_init 50 = .ok (.istore_n 1, 1) := by decide +kernel
theorem d_CS_init_51 : decode b_CS_init 51 = .ok (.iload_n 1, 1) := by decide +kernel
theorem d_CS_init_52 : decode b_CS_init 52 = .ok (.bipush 30, 2) := by decide +kernel
theorem d_CS_init_54 : decode b_CS_init 54 = .ok (.if_icmp .ge 22, 3) := by decide +kernel
theorem d_CS_init_57 : decode b_CS_init 57 = .ok (.aload_n 0, 1) := by decide +kernel
theorem d_CS_init_58 : decode b_CS_init 58 = .ok (.getfield 18, 3) := by decide +kernel
theorem d_CS_init_61 : decode b_CS_init 61 = .ok (.iload_n 1, 1) := by decide +kernel
theorem d_CS_init_62 : decode b_CS_init 62 = .ok (.new 16, 3) := by decide +kernel
theorem d_CS_init_65 : decode b_CS_init 65 = .ok (.dup, 1) := by decide +kernel
theorem d_CS_init_66 : decode b_CS_init 66 = .ok (.invokespecial 22, 3) := by decide +kernel
theorem d_CS_init_69 : decode b_CS_init 69 = .ok (.aastore, 1) := by decide +kernel
theorem d_CS_init_70 : decode b_CS_init 70 = .ok (.iinc 1 1, 3) := by decide +kernel
theorem d_CS_init_73 : decode b_CS_init 73 = .ok (.goto (-22), 3) := by decide +kernel
theorem d_CS_init_76 : decode b_CS_init 76 = .ok (.aload_n 0, 1) := by decide +kernel
theorem d_CS_init_77 : decode b_CS_init 77 = .ok (.iconst 5, 1) := by decide +kernel
theorem d_CS_init_78 : decode b_CS_init 78 = .ok (.anewarray 23, 3) := by decide +kernel
theorem d_CS_init_81 : decode b_CS_init 81 = .ok (.putfield 25, 3) := by decide +kernel
theorem d_CS_init_84 : decode b_CS_init 84 = .ok (.iconst 0, 1) := by decide +kernel
theorem d_CS_init_85 : decode b_CS_init 85 = .ok (.istore_n 1, 1) := by decide +kernel
theorem d_CS_init_86 : decode b_CS_init 86 = .ok (.iload_n 1, 1) := by decide +kernel
theorem d_CS_init_87 : decode b_CS_init 87 = .ok (.iconst 5, 1) := by decide +kernel
theorem d_CS_init_88 : decode b_CS_init 88 = .ok (.if_icmp .ge 22, 3) := by decide +kernel
theorem d_CS_init_91 : decode b_CS_init 91 = .ok (.aload_n 0, 1) := by decide +kernel
theorem d_CS_init_92 : decode b_CS_init 92 = .ok (.getfield 25, 3) := by decide +kernel
theorem d_CS_init_95 : decode b_CS_init 95 = .ok (.iload_n 1, 1) := by decide +kernel
theorem d_CS_init_96 : decode b_CS_init 96 = .ok (.new 23, 3) := by decide +kernel
theorem d_CS_init_99 : decode b_CS_init 99 = .ok (.dup, 1) := by decide +kernel
theorem d_CS_init_100 : decode b_CS_init 100 = .ok (.invokespecial 29, 3) := by decide +kernel
theorem d_CS_init_103 : decode b_CS_init 103 = .ok (.aastore, 1) := by decide +kernel
theorem d_CS_init_104 : decode b_CS_init 104 = .ok (.iinc 1 1, 3) := by decide +kernel
theorem d_CS_init_107 : decode b_CS_init 107 = .ok (.goto (-21), 3) := by decide +kernel
theorem d_CS_init_110 : decode b_CS_init 110 = .ok (.aload_n 0, 1) := by decide +kernel
theorem d_CS_init_111 : decode b_CS_init 111 = .ok (.bipush 72, 2) := by decide +kernel
theorem d_CS_init_113 : decode b_CS_init 113 = .ok (.anewarray 30, 3) := by decide +kernel
theorem d_CS_init_116 : decode b_CS_init 116 = .ok (.putfield 32, 3) := by decide +kernel
theorem d_CS_init_119 : decode b_CS_init 119 = .ok (.iconst 0, 1) := by decide +kernel
theorem d_CS_init_120 : decode b_CS_init 120 = .ok (.istore_n 1, 1) := by decide +kernel
theorem d_CS_init_121 : decode b_CS_init 121 = .ok (.iload_n 1, 1) := by decide +kernel
theorem d_CS_init_122 : decode b_CS_init 122 = .ok (.bipush 72, 2) := by decide +kernel
theorem d_CS_init_124 : decode b_CS_init 124 = .ok (.if_icmp .ge 22, 3) := by decide +kernel
theorem d_CS_init_127 : decode b_CS_init 127 = .ok (.aload_n 0, 1) := by decide +kernel
theorem d_CS_init_128 : decode b_CS_init 128 = .ok (.getfield 32, 3) := by decide +kernel
theorem d_CS_init_131 : decode b_CS_init 131 = .ok (.iload_n 1, 1) := by decide +kernel
theorem d_CS_init_132 : decode b_CS_init 132 = .ok (.new 30, 3) := by decide +kernel
theorem d_CS_init_135 : decode b_CS_init 135 = .ok (.dup, 1) := by decide +kernel
theorem d_CS_init_136 : decode b_CS_init 136 = .ok (.invokespecial 36, 3) := by decide +kernel
theorem d_CS_init_139 : decode b_CS_init 139 = .ok (.aastore, 1) := by decide +kernel
theorem d_CS_init_140 : decode b_CS_init 140 = .ok (.iinc 1 1, 3) := by decide +kernel
theorem d_CS_init_143 : decode b_CS_init 143 = .ok (.goto (-22), 3) := by decide +kernel
theorem d_CS_init_146 : decode b_CS_init 146 = .ok (.return_, 1) := by decide +kernel
theorem d_FE_init_0 : decode b_FE_init 0 = .ok (.aload_n 0, 1) := by decide +kernel
theorem d_FE_init_1 : decode b_FE_init 1 = .ok (.invokespecial 3, 3) := by decide +kernel
theorem d_FE_init_4 : decode b_FE_init 4 = .ok (.aload_n 0, 1) := by decide +kernel
theorem d_FE_init_5 : decode b_FE_init 5 = .ok (.iconst 3, 1) := by decide +kernel
theorem d_FE_init_6 : decode b_FE_init 6 = .ok (.newarray .int, 2) := by decide +kernel
theorem d_FE_init_8 : decode b_FE_init 8 = .ok (.putfield 9, 3) := by decide +kernel
theorem d_FE_init_11 : decode b_FE_init 11 = .ok (.return_, 1) := by decide +kernel
theorem d_CH_init_0 : decode b_CH_init 0 = .ok (.aload_n 0, 1) := by decide +kernel
theorem d_CH_init_1 : decode b_CH_init 1 = .ok (.invokespecial 1, 3) := by decide +kernel
theorem d_CH_init_4 : decode b_CH_init 4 = .ok (.return_, 1) := by decide +kernel
theorem d_SV_init_0 : decode b_SV_init 0 = .ok (.aload_n 0, 1) := by decide +kernel
theorem d_SV_init_1 : decode b_SV_init 1 = .ok (.invokespecial 3, 3) := by decide +kernel
theorem d_SV_init_4 : decode b_SV_init 4 = .ok (.aload_n 0, 1) := by decide +kernel
theorem d_SV_init_5 : decode b_SV_init 5 = .ok (.bipush 30, 2) := by decide +kernel
theorem d_SV_init_7 : decode b_SV_init 7 = .ok (.newarray .int, 2) := by decide +kernel
theorem d_SV_init_9 : decode b_SV_init 9 = .ok (.putfield 9, 3) := by decide +kernel
theorem d_SV_init_12 : decode b_SV_init 12 = .ok (.aload_n 0, 1) := by decide +kernel
theorem d_SV_init_13 : decode b_SV_init 13 = .ok (.bipush 30, 2) := by decide +kernel
theorem d_SV_init_15 : decode b_SV_init 15 = .ok (.newarray .int, 2) := by decide +kernel
theorem d_SV_init_17 : decode b_SV_init 17 = .ok (.putfield 15, 3) := by decide +kernel
theorem d_SV_init_20 : decode b_SV_init 20 = .ok (.aload_n 0, 1) := by decide +kernel
theorem d_SV_init_21 : decode b_SV_init 21 = .ok (.bipush 120, 2) := by decide +kernel
theorem d_SV_init_23 : decode b_SV_init 23 = .ok (.newarray .int, 2) := by decide +kernel
theorem d_SV_init_25 : decode b_SV_init 25 = .ok (.putfield 18, 3) := by decide +kernel
theorem d_SV_init_28 : decode b_SV_init 28 = .ok (.aload_n 0, 1) := by decide +kernel
theorem d_SV_init_29 : decode b_SV_init 29 = .ok (.iconst 1, 1) := by decide +kernel
theorem d_SV_init_30 : decode b_SV_init 30 = .ok (.putfield 21, 3) := by decide +kernel
theorem d_SV_init_33 : decode b_SV_init 33 = .ok (.return_, 1) := by decide +kernel
theorem d_KP_init_0 : decode b_KP_init 0 = .ok (.aload_n 0, 1) := by decide +kernel
theorem d_KP_init_1 : decode b_KP_init 1 = .ok (.invokespecial 1, 3) := by decide +kernel
theorem d_KP_init_4 : decode b_KP_init 4 = .ok (.return_, 1) := by decide +kernel
theorem d_CS_sweep_0 : decode b_CS_sweep 0 = .ok (.iconst 0, 1) := by decide +kernel
theorem d_CS_sweep_1 : decode b_CS_sweep 1 = .ok (.istore_n 1, 1) := by decide +kernel
theorem d_CS_sweep_2 : decode b_CS_sweep 2 = .ok (.iconst 0, 1) := by decide +kernel
theorem d_CS_sweep_3 : decode b_CS_sweep 3 = .ok (.istore_n 2, 1) := by decide +kernel
theorem d_CS_sweep_4 : decode b_CS_sweep 4 = .ok (.iload_n 2, 1) := by decide +kernel
theorem d_CS_sweep_5 : decode b_CS_sweep 5 = .ok (.bipush 8, 2) := by decide +kernel
theorem d_CS_sweep_7 : decode b_CS_sweep 7 = .ok (.if_icmp .ge 56, 3) := by decide +kernel
theorem d_CS_sweep_10 : decode b_CS_sweep 10 = .ok (.aload_n 0, 1) := by decide +kernel
theorem d_CS_sweep_11 : decode b_CS_sweep 11 = .ok (.getfield 11, 3) := by decide +kernel
theorem d_CS_sweep_14 : decode b_CS_sweep 14 = .ok (.iload_n 2, 1) := by decide +kernel
theorem d_CS_sweep_15 : decode b_CS_sweep 15 = .ok (.aaload, 1) := by decide +kernel
theorem d_CS_sweep_16 : decode b_CS_sweep 16 = .ok (.getfield 45, 3) := by decide +kernel
theorem d_CS_sweep_19 : decode b_CS_sweep 19 = .ok (.iconst 2, 1) := by decide +kernel
theorem d_CS_sweep_20 : decode b_CS_sweep 20 = .ok (.if_icmp .ne 37, 3) := by decide +kernel
theorem d_CS_sweep_23 : decode b_CS_sweep 23 = .ok (.aload_n 0, 1) := by decide +kernel
theorem d_CS_sweep_24 : decode b_CS_sweep 24 = .ok (.getfield 56, 3) := by decide +kernel
theorem d_CS_sweep_27 : decode b_CS_sweep 27 = .ok (.aload_n 0, 1) := by decide +kernel
theorem d_CS_sweep_28 : decode b_CS_sweep 28 = .ok (.getfield 11, 3) := by decide +kernel
theorem d_CS_sweep_31 : decode b_CS_sweep 31 = .ok (.iload_n 2, 1) := by decide +kernel
theorem d_CS_sweep_32 : decode b_CS_sweep 32 = .ok (.aaload, 1) := by decide +kernel
theorem d_CS_sweep_33 : decode b_CS_sweep 33 = .ok (.getfield 60, 3) := by decide +kernel
theorem d_CS_sweep_36 : decode b_CS_sweep 36 = .ok (.dsub, 1) := by decide +kernel
theorem d_CS_sweep_37 : decode b_CS_sweep 37 = .ok (.ldc2_w 180, 3) := by decide +kernel
theorem d_CS_sweep_40 : decode b_CS_sweep 40 = .ok (.dcmp .l, 1) := by decide +kernel
theorem d_CS_sweep_41 : decode b_CS_sweep 41 = .ok (.ifCond .lt 16, 3) := by decide +kernel
theorem d_CS_sweep_44 : decode b_CS_sweep 44 = .ok (.aload_n 0, 1) := by decide +kernel
theorem d_CS_sweep_45 : decode b_CS_sweep 45 = .ok (.aload_n 0, 1) := by decide +kernel
theorem d_CS_sweep_46 : decode b_CS_sweep 46 = .ok (.getfield 11, 3) := by decide +kernel
theorem d_CS_sweep_49 : decode b_CS_sweep 49 = .ok (.iload_n 2, 1) := by decide +kernel
theorem d_CS_sweep_50 : decode b_CS_sweep 50 = .ok (.aaload, 1) := by decide +kernel
theorem d_CS_sweep_51 : decode b_CS_sweep 51 = .ok (.invokevirtual 182, 3) := by decide +kernel
theorem d_CS_sweep_54 : decode b_CS_sweep 54 = .ok (.iinc 1 1, 3) := by decide +kernel
theorem d_CS_sweep_57 : decode b_CS_sweep 57 = .ok (.iinc 2 1, 3) := by decide +kernel
theorem d_CS_sweep_60 : decode b_CS_sweep 60 = .ok (.goto (-56), 3) := by decide +kernel
theorem d_CS_sweep_63 : decode b_CS_sweep 63 = .ok (.iload_n 1, 1) := by decide +kernel
theorem d_CS_sweep_64 : decode b_CS_sweep 64 = .ok (.ireturn, 1) := by decide +kernel
theorem d_CS_forget_0 : decode b_CS_forget 0 = .ok (.iconst 0, 1) := by decide +kernel
theorem d_CS_forget_1 : decode b_CS_forget 1 = .ok (.istore_n 2, 1) := by decide +kernel
theorem d_CS_forget_2 : decode b_CS_forget 2 = .ok (.iload_n 2, 1) := by decide +kernel
theorem d_CS_forget_3 : decode b_CS_forget 3 = .ok (.aload_n 1, 1) := by decide +kernel
theorem d_CS_forget_4 : decode b_CS_forget 4 = .ok (.getfield 63, 3) := by decide +kernel
theorem d_CS_forget_7 : decode b_CS_forget 7 = .ok (.if_icmp .ge 29, 3) := by decide +kernel
theorem d_CS_forget_10 : decode b_CS_forget 10 = .ok (.aload_n 0, 1) := by decide +kernel
theorem d_CS_forget_11 : decode b_CS_forget 11 = .ok (.getfield 18, 3) := by decide +kernel
theorem d_CS_forget_14 : decode b_CS_forget 14 = .ok (.aload_n 1, 1) := by decide +kernel
theorem d_CS_forget_15 : decode b_CS_forget 15 = .ok (.getfield 73, 3) := by decide +kernel
theorem d_CS_forget_18 : decode b_CS_forget 18 = .ok (.iload_n 2, 1) := by decide +kernel
theorem d_CS_forget_19 : decode b_CS_forget 19 = .ok (.iaload, 1) := by decide +kernel
theorem d_CS_forget_20 : decode b_CS_forget 20 = .ok (.aaload, 1) := by decide +kernel
theorem d_CS_forget_21 : decode b_CS_forget 21 = .ok (.dup, 1) := by decide +kernel
theorem d_CS_forget_22 : decode b_CS_forget 22 = .ok (.getfield 80, 3) := by decide +kernel
theorem d_CS_forget_25 : decode b_CS_forget 25 = .ok (.iconst 1, 1) := by decide +kernel
theorem d_CS_forget_26 : decode b_CS_forget 26 = .ok (.isub, 1) := by decide +kernel
theorem d_CS_forget_27 : decode b_CS_forget 27 = .ok (.putfield 80, 3) := by decide +kernel
theorem d_CS_forget_30 : decode b_CS_forget 30 = .ok (.iinc 2 1, 3) := by decide +kernel
theorem d_CS_forget_33 : decode b_CS_forget 33 = .ok (.goto (-31), 3) := by decide +kernel
theorem d_CS_forget_36 : decode b_CS_forget 36 = .ok (.aload_n 1, 1) := by decide +kernel
theorem d_CS_forget_37 : decode b_CS_forget 37 = .ok (.iconst 0, 1) := by decide +kernel
theorem d_CS_forget_38 : decode b_CS_forget 38 = .ok (.putfield 63, 3) := by decide +kernel
theorem d_CS_forget_41 : decode b_CS_forget 41 = .ok (.aload_n 1, 1) := by decide +kernel
theorem d_CS_forget_42 : decode b_CS_forget 42 = .ok (.iconst 0, 1) := by decide +kernel
theorem d_CS_forget_43 : decode b_CS_forget 43 = .ok (.putfield 45, 3) := by decide +kernel
theorem d_CS_forget_46 : decode b_CS_forget 46 = .ok (.return_, 1) := by decide +kernel
theorem d_CS_create_0 : decode b_CS_create 0 = .ok (.iload_n 1, 1) := by decide +kernel
theorem d_CS_create_1 : decode b_CS_create 1 = .ok (.bipush 8, 2) := by decide +kernel
theorem d_CS_create_3 : decode b_CS_create 3 = .ok (.invokestatic 37, 3) := by decide +kernel
theorem d_CS_create_6 : decode b_CS_create 6 = .ok (.aload_n 0, 1) := by decide +kernel
theorem d_CS_create_7 : decode b_CS_create 7 = .ok (.iload_n 1, 1) := by decide +kernel
theorem d_CS_create_8 : decode b_CS_create 8 = .ok (.invokevirtual 41, 3) := by decide +kernel
theorem d_CS_create_11 : decode b_CS_create 11 = .ok (.astore_n 2, 1) := by decide +kernel
theorem d_CS_create_12 : decode b_CS_create 12 = .ok (.aload_n 2, 1) := by decide +kernel
theorem d_CS_create_13 : decode b_CS_create 13 = .ok (.iconst 1, 1) := by decide +kernel
theorem d_CS_create_14 : decode b_CS_create 14 = .ok (.putfield 45, 3) := by decide +kernel
theorem d_CS_create_17 : decode b_CS_create 17 = .ok (.aload_n 0, 1) := by decide +kernel
theorem d_CS_create_18 : decode b_CS_create 18 = .ok (.invokevirtual 49, 3) := by decide +kernel
theorem d_CS_create_21 : decode b_CS_create 21 = .ok (.ireturn, 1) := by decide +kernel
theorem d_CS_checkRange_0 : decode b_CS_checkRange 0 = .ok (.iload_n 0, 1) := by decide +kernel
theorem d_CS_checkRange_1 : decode b_CS_checkRange 1 = .ok (.ifCond .lt 8, 3) := by decide +kernel
theorem d_CS_checkRange_4 : decode b_CS_checkRange 4 = .ok (.iload_n 0, 1) := by decide +kernel
theorem d_CS_checkRange_5 : decode b_CS_checkRange 5 = .ok (.iload_n 1, 1) := by decide +kernel
theorem d_CS_checkRange_6 : decode b_CS_checkRange 6 = .ok (.if_icmp .lt 13, 3) := by decide +kernel
theorem d_CS_checkRange_9 : decode b_CS_checkRange 9 = .ok (.new 188, 3) := by decide +kernel
theorem d_CS_checkRange_12 : decode b_CS_checkRange 12 = .ok (.dup, 1) := by decide +kernel
theorem d_CS_checkRange_13 : decode b_CS_checkRange 13 = .ok (.ldc 214, 2) := by decide +kernel
theorem d_CS_checkRange_15 : decode b_CS_checkRange 15 = .ok (.invokespecial 192, 3) := by decide +kernel
theorem d_CS_checkRange_18 : decode b_CS_checkRange 18 = .ok (.athrow, 1) := by decide +kernel
theorem d_CS_checkRange_19 : decode b_CS_checkRange 19 = .ok (.return_, 1) := by decide +kernel
theorem d_CS_fileNotYet_0 : decode b_CS_fileNotYet 0 = .ok (.aload_n 0, 1) := by decide +kernel
theorem d_CS_fileNotYet_1 : decode b_CS_fileNotYet 1 = .ok (.getfield 11, 3) := by decide +kernel
theorem d_CS_fileNotYet_4 : decode b_CS_fileNotYet 4 = .ok (.iload_n 1, 1) := by decide +kernel
theorem d_CS_fileNotYet_5 : decode b_CS_fileNotYet 5 = .ok (.aaload, 1) := by decide +kernel
theorem d_CS_fileNotYet_6 : decode b_CS_fileNotYet 6 = .ok (.getfield 45, 3) := by decide +kernel
theorem d_CS_fileNotYet_9 : decode b_CS_fileNotYet 9 = .ok (.ifCond .eq 13, 3) := by decide +kernel
theorem d_CS_fileNotYet_12 : decode b_CS_fileNotYet 12 = .ok (.new 137, 3) := by decide +kernel
theorem d_CS_fileNotYet_15 : decode b_CS_fileNotYet 15 = .ok (.dup, 1) := by decide +kernel
theorem d_CS_fileNotYet_16 : decode b_CS_fileNotYet 16 = .ok (.ldc 223, 2) := by decide +kernel
theorem d_CS_fileNotYet_18 : decode b_CS_fileNotYet 18 = .ok (.invokespecial 141, 3) := by decide +kernel
theorem d_CS_fileNotYet_21 : decode b_CS_fileNotYet 21 = .ok (.athrow, 1) := by decide +kernel
theorem d_CS_fileNotYet_22 : decode b_CS_fileNotYet 22 = .ok (.aload_n 0, 1) := by decide +kernel
theorem d_CS_fileNotYet_23 : decode b_CS_fileNotYet 23 = .ok (.getfield 11, 3) := by decide +kernel
theorem d_CS_fileNotYet_26 : decode b_CS_fileNotYet 26 = .ok (.iload_n 1, 1) := by decide +kernel
theorem d_CS_fileNotYet_27 : decode b_CS_fileNotYet 27 = .ok (.aaload, 1) := by decide +kernel
theorem d_CS_fileNotYet_28 : decode b_CS_fileNotYet 28 = .ok (.areturn, 1) := by decide +kernel
theorem d_CS_countThere_0 : decode b_CS_countThere 0 = .ok (.iconst 0, 1) := by decide +kernel
theorem d_CS_countThere_1 : decode b_CS_countThere 1 = .ok (.istore_n 1, 1) := by decide +kernel
theorem d_CS_countThere_2 : decode b_CS_countThere 2 = .ok (.iconst 0, 1) := by decide +kernel
theorem d_CS_countThere_3 : decode b_CS_countThere 3 = .ok (.istore_n 2, 1) := by decide +kernel
theorem d_CS_countThere_4 : decode b_CS_countThere 4 = .ok (.iload_n 2, 1) := by decide +kernel
theorem d_CS_countThere_5 : decode b_CS_countThere 5 = .ok (.bipush 8, 2) := by decide +kernel
theorem d_CS_countThere_7 : decode b_CS_countThere 7 = .ok (.if_icmp .ge 25, 3) := by decide +kernel
theorem d_CS_countThere_10 : decode b_CS_countThere 10 = .ok (.aload_n 0, 1) := by decide +kernel
theorem d_CS_countThere_11 : decode b_CS_countThere 11 = .ok (.getfield 11, 3) := by decide +kernel
theorem d_CS_countThere_14 : decode b_CS_countThere 14 = .ok (.iload_n 2, 1) := by decide +kernel
theorem d_CS_countThere_15 : decode b_CS_countThere 15 = .ok (.aaload, 1) := by decide +kernel
theorem d_CS_countThere_16 : decode b_CS_countThere 16 = .ok (.getfield 45, 3) := by decide +kernel
theorem d_CS_countThere_19 : decode b_CS_countThere 19 = .ok (.iconst 1, 1) := by decide +kernel
theorem d_CS_countThere_20 : decode b_CS_countThere 20 = .ok (.if_icmp .ne 6, 3) := by decide +kernel
theorem d_CS_countThere_23 : decode b_CS_countThere 23 = .ok (.iinc 1 1, 3) := by decide +kernel
theorem d_CS_countThere_26 : decode b_CS_countThere 26 = .ok (.iinc 2 1, 3) := by decide +kernel
theorem d_CS_countThere_29 : decode b_CS_countThere 29 = .ok (.goto (-25), 3) := by decide +kernel
theorem d_CS_countThere_32 : decode b_CS_countThere 32 = .ok (.iload_n 1, 1) := by decide +kernel
theorem d_CS_countThere_33 : decode b_CS_countThere 33 = .ok (.ireturn, 1) := by decide +kernel
theorem d_CS_remove_0 : decode b_CS_remove 0 = .ok (.iload_n 1, 1) := by decide +kernel
theorem d_CS_remove_1 : decode b_CS_remove 1 = .ok (.bipush 8, 2) := by decide +kernel
theorem d_CS_remove_3 : decode b_CS_remove 3 = .ok (.invokestatic 37, 3) := by decide +kernel
theorem d_CS_remove_6 : decode b_CS_remove 6 = .ok (.aload_n 0, 1) := by decide +kernel
theorem d_CS_remove_7 : decode b_CS_remove 7 = .ok (.iload_n 1, 1) := by decide +kernel
theorem d_CS_remove_8 : decode b_CS_remove 8 = .ok (.invokevirtual 53, 3) := by decide +kernel
theorem d_CS_remove_11 : decode b_CS_remove 11 = .ok (.astore_n 2, 1) := by decide +kernel
theorem d_CS_remove_12 : decode b_CS_remove 12 = .ok (.aload_n 2, 1) := by decide +kernel
theorem d_CS_remove_13 : decode b_CS_remove 13 = .ok (.iconst 2, 1) := by decide +kernel
theorem d_CS_remove_14 : decode b_CS_remove 14 = .ok (.putfield 45, 3) := by decide +kernel
theorem d_CS_remove_17 : decode b_CS_remove 17 = .ok (.aload_n 2, 1) := by decide +kernel
theorem d_CS_remove_18 : decode b_CS_remove 18 = .ok (.aload_n 0, 1) := by decide +kernel
theorem d_CS_remove_19 : decode b_CS_remove 19 = .ok (.getfield 56, 3) := by decide +kernel
theorem d_CS_remove_22 : decode b_CS_remove 22 = .ok (.putfield 60, 3) := by decide +kernel
theorem d_CS_remove_25 : decode b_CS_remove 25 = .ok (.aload_n 2, 1) := by decide +kernel
theorem d_CS_remove_26 : decode b_CS_remove 26 = .ok (.getfield 63, 3) := by decide +kernel
theorem d_CS_remove_29 : decode b_CS_remove 29 = .ok (.ireturn, 1) := by decide +kernel
theorem d_CS_fileThere_0 : decode b_CS_fileThere 0 = .ok (.aload_n 0, 1) := by decide +kernel
theorem d_CS_fileThere_1 : decode b_CS_fileThere 1 = .ok (.getfield 11, 3) := by decide +kernel
theorem d_CS_fileThere_4 : decode b_CS_fileThere 4 = .ok (.iload_n 1, 1) := by decide +kernel
theorem d_CS_fileThere_5 : decode b_CS_fileThere 5 = .ok (.aaload, 1) := by decide +kernel
theorem d_CS_fileThere_6 : decode b_CS_fileThere 6 = .ok (.getfield 45, 3) := by decide +kernel
theorem d_CS_fileThere_9 : decode b_CS_fileThere 9 = .ok (.iconst 1, 1) := by decide +kernel
theorem d_CS_fileThere_10 : decode b_CS_fileThere 10 = .ok (.if_icmp .eq 13, 3) := by decide +kernel
theorem d_CS_fileThere_13 : decode b_CS_fileThere 13 = .ok (.new 66, 3) := by decide +kernel
theorem d_CS_fileThere_16 : decode b_CS_fileThere 16 = .ok (.dup, 1) := by decide +kernel
theorem d_CS_fileThere_17 : decode b_CS_fileThere 17 = .ok (.ldc 221, 2) := by decide +kernel
theorem d_CS_fileThere_19 : decode b_CS_fileThere 19 = .ok (.invokespecial 70, 3) := by decide +kernel
theorem d_CS_fileThere_22 : decode b_CS_fileThere 22 = .ok (.athrow, 1) := by decide +kernel
theorem d_CS_fileThere_23 : decode b_CS_fileThere 23 = .ok (.aload_n 0, 1) := by decide +kernel
theorem d_CS_fileThere_24 : decode b_CS_fileThere 24 = .ok (.getfield 11, 3) := by decide +kernel
theorem d_CS_fileThere_27 : decode b_CS_fileThere 27 = .ok (.iload_n 1, 1) := by decide +kernel
theorem d_CS_fileThere_28 : decode b_CS_fileThere 28 = .ok (.aaload, 1) := by decide +kernel
theorem d_CS_fileThere_29 : decode b_CS_fileThere 29 = .ok (.areturn, 1) := by decide +kernel
theorem d_CS_restore_0 : decode b_CS_restore 0 = .ok (.iload_n 1, 1) := by decide +kernel
theorem d_CS_restore_1 : decode b_CS_restore 1 = .ok (.bipush 8, 2) := by decide +kernel
theorem d_CS_restore_3 : decode b_CS_restore 3 = .ok (.invokestatic 37, 3) := by decide +kernel
theorem d_CS_restore_6 : decode b_CS_restore 6 = .ok (.aload_n 0, 1) := by decide +kernel
theorem d_CS_restore_7 : decode b_CS_restore 7 = .ok (.getfield 11, 3) := by decide +kernel
theorem d_CS_restore_10 : decode b_CS_restore 10 = .ok (.iload_n 1, 1) := by decide +kernel
theorem d_CS_restore_11 : decode b_CS_restore 11 = .ok (.aaload, 1) := by decide +kernel
theorem d_CS_restore_12 : decode b_CS_restore 12 = .ok (.astore_n 2, 1) := by decide +kernel
theorem d_CS_restore_13 : decode b_CS_restore 13 = .ok (.aload_n 2, 1) := by decide +kernel
theorem d_CS_restore_14 : decode b_CS_restore 14 = .ok (.getfield 45, 3) := by decide +kernel
theorem d_CS_restore_17 : decode b_CS_restore 17 = .ok (.iconst 2, 1) := by decide +kernel
theorem d_CS_restore_18 : decode b_CS_restore 18 = .ok (.if_icmp .eq 13, 3) := by decide +kernel
theorem d_CS_restore_21 : decode b_CS_restore 21 = .ok (.new 66, 3) := by decide +kernel
theorem d_CS_restore_24 : decode b_CS_restore 24 = .ok (.dup, 1) := by decide +kernel
theorem d_CS_restore_25 : decode b_CS_restore 25 = .ok (.ldc 68, 2) := by decide +kernel
theorem d_CS_restore_27 : decode b_CS_restore 27 = .ok (.invokespecial 70, 3) := by decide +kernel
theorem d_CS_restore_30 : decode b_CS_restore 30 = .ok (.athrow, 1) := by decide +kernel
theorem d_CS_restore_31 : decode b_CS_restore 31 = .ok (.aload_n 2, 1) := by decide +kernel
theorem d_CS_restore_32 : decode b_CS_restore 32 = .ok (.iconst 1, 1) := by decide +kernel
theorem d_CS_restore_33 : decode b_CS_restore 33 = .ok (.putfield 45, 3) := by decide +kernel
theorem d_CS_restore_36 : decode b_CS_restore 36 = .ok (.aload_n 2, 1) := by decide +kernel
theorem d_CS_restore_37 : decode b_CS_restore 37 = .ok (.getfield 63, 3) := by decide +kernel
theorem d_CS_restore_40 : decode b_CS_restore 40 = .ok (.ireturn, 1) := by decide +kernel
theorem d_CS_copy_0 : decode b_CS_copy 0 = .ok (.iload_n 1, 1) := by decide +kernel
theorem d_CS_copy_1 : decode b_CS_copy 1 = .ok (.bipush 8, 2) := by decide +kernel
theorem d_CS_copy_3 : decode b_CS_copy 3 = .ok (.invokestatic 37, 3) := by decide +kernel
theorem d_CS_copy_6 : decode b_CS_copy 6 = .ok (.iload_n 2, 1) := by decide +kernel
theorem d_CS_copy_7 : decode b_CS_copy 7 = .ok (.bipush 8, 2) := by decide +kernel
theorem d_CS_copy_9 : decode b_CS_copy 9 = .ok (.invokestatic 37, 3) := by decide +kernel
theorem d_CS_copy_12 : decode b_CS_copy 12 = .ok (.aload_n 0, 1) := by decide +kernel
theorem d_CS_copy_13 : decode b_CS_copy 13 = .ok (.iload_n 1, 1) := by decide +kernel
theorem d_CS_copy_14 : decode b_CS_copy 14 = .ok (.invokevirtual 53, 3) := by decide +kernel
theorem d_CS_copy_17 : decode b_CS_copy 17 = .ok (.astore_n 3, 1) := by decide +kernel
theorem d_CS_copy_18 : decode b_CS_copy 18 = .ok (.aload_n 0, 1) := by decide +kernel
theorem d_CS_copy_19 : decode b_CS_copy 19 = .ok (.iload_n 2, 1) := by decide +kernel
theorem d_CS_copy_20 : decode b_CS_copy 20 = .ok (.invokevirtual 41, 3) := by decide +kernel
theorem d_CS_copy_23 : decode b_CS_copy 23 = .ok (.astore 4, 2) := by decide +kernel
theorem d_CS_copy_25 : decode b_CS_copy 25 = .ok (.aload 4, 2) := by decide +kernel
theorem d_CS_copy_27 : decode b_CS_copy 27 = .ok (.iconst 1, 1) := by decide +kernel
theorem d_CS_copy_28 : decode b_CS_copy 28 = .ok (.putfield 45, 3) := by decide +kernel
theorem d_CS_copy_31 : decode b_CS_copy 31 = .ok (.iconst 0, 1) := by decide +kernel
theorem d_CS_copy_32 : decode b_CS_copy 32 = .ok (.istore 5, 2) := by decide +kernel
theorem d_CS_copy_34 : decode b_CS_copy 34 = .ok (.iload 5, 2) := by decide +kernel
theorem d_CS_copy_36 : decode b_CS_copy 36 = .ok (.aload_n 3, 1) := by decide +kernel
theorem d_CS_copy_37 : decode b_CS_copy 37 = .ok (.getfield 63, 3) := by decide +kernel
theorem d_CS_copy_40 : decode b_CS_copy 40 = .ok (.if_icmp .ge 52, 3) := by decide +kernel
theorem d_CS_copy_43 : decode b_CS_copy 43 = .ok (.aload_n 0, 1) := by decide +kernel
theorem d_CS_copy_44 : decode b_CS_copy 44 = .ok (.getfield 18, 3) := by decide +kernel
theorem d_CS_copy_47 : decode b_CS_copy 47 = .ok (.aload_n 3, 1) := by decide +kernel
theorem d_CS_copy_48 : decode b_CS_copy 48 = .ok (.getfield 73, 3) := by decide +kernel
theorem d_CS_copy_51 : decode b_CS_copy 51 = .ok (.iload 5, 2) := by decide +kernel
theorem d_CS_copy_53 : decode b_CS_copy 53 = .ok (.iaload, 1) := by decide +kernel
theorem d_CS_copy_54 : decode b_CS_copy 54 = .ok (.aaload, 1) := by decide +kernel
theorem d_CS_copy_55 : decode b_CS_copy 55 = .ok (.astore 6, 2) := by decide +kernel
theorem d_CS_copy_57 : decode b_CS_copy 57 = .ok (.aload 6, 2) := by decide +kernel
theorem d_CS_copy_59 : decode b_CS_copy 59 = .ok (.dconst 0, 1) := by decide +kernel
theorem d_CS_copy_60 : decode b_CS_copy 60 = .ok (.putfield 77, 3) := by decide +kernel
theorem d_CS_copy_63 : decode b_CS_copy 63 = .ok (.aload 6, 2) := by decide +kernel
theorem d_CS_copy_65 : decode b_CS_copy 65 = .ok (.dup, 1) := by decide +kernel
theorem d_CS_copy_66 : decode b_CS_copy 66 = .ok (.getfield 80, 3) := by decide +kernel
theorem d_CS_copy_69 : decode b_CS_copy 69 = .ok (.iconst 1, 1) := by decide +kernel
theorem d_CS_copy_70 : decode b_CS_copy 70 = .ok (.iadd, 1) := by decide +kernel
theorem d_CS_copy_71 : decode b_CS_copy 71 = .ok (.putfield 80, 3) := by decide +kernel
theorem d_CS_copy_74 : decode b_CS_copy 74 = .ok (.aload 4, 2) := by decide +kernel
theorem d_CS_copy_76 : decode b_CS_copy 76 = .ok (.aload_n 3, 1) := by decide +kernel
theorem d_CS_copy_77 : decode b_CS_copy 77 = .ok (.getfield 73, 3) := by decide +kernel
theorem d_CS_copy_80 : decode b_CS_copy 80 = .ok (.iload 5, 2) := by decide +kernel
theorem d_CS_copy_82 : decode b_CS_copy 82 = .ok (.iaload, 1) := by decide +kernel
theorem d_CS_copy_83 : decode b_CS_copy 83 = .ok (.invokevirtual 83, 3) := by decide +kernel
theorem d_CS_copy_86 : decode b_CS_copy 86 = .ok (.iinc 5 1, 3) := by decide +kernel
theorem d_CS_copy_89 : decode b_CS_copy 89 = .ok (.goto (-55), 3) := by decide +kernel
theorem d_CS_copy_92 : decode b_CS_copy 92 = .ok (.aload 4, 2) := by decide +kernel
theorem d_CS_copy_94 : decode b_CS_copy 94 = .ok (.getfield 63, 3) := by decide +kernel
theorem d_CS_copy_97 : decode b_CS_copy 97 = .ok (.ireturn, 1) := by decide +kernel
theorem d_FE_addAtEnd_0 : decode b_FE_addAtEnd 0 = .ok (.aload_n 0, 1) := by decide +kernel
theorem d_FE_addAtEnd_1 : decode b_FE_addAtEnd 1 = .ok (.getfield 15, 3) := by decide +kernel
theorem d_FE_addAtEnd_4 : decode b_FE_addAtEnd 4 = .ok (.iconst 3, 1) := by decide +kernel
theorem d_FE_addAtEnd_5 : decode b_FE_addAtEnd 5 = .ok (.if_icmp .ge 23, 3) := by decide +kernel
theorem d_FE_addAtEnd_8 : decode b_FE_addAtEnd 8 = .ok (.aload_n 0, 1) := by decide +kernel
theorem d_FE_addAtEnd_9 : decode b_FE_addAtEnd 9 = .ok (.getfield 9, 3) := by decide +kernel
theorem d_FE_addAtEnd_12 : decode b_FE_addAtEnd 12 = .ok (.aload_n 0, 1) := by decide +kernel
theorem d_FE_addAtEnd_13 : decode b_FE_addAtEnd 13 = .ok (.getfield 15, 3) := by decide +kernel
theorem d_FE_addAtEnd_16 : decode b_FE_addAtEnd 16 = .ok (.iload_n 1, 1) := by decide +kernel
theorem d_FE_addAtEnd_17 : decode b_FE_addAtEnd 17 = .ok (.iastore, 1) := by decide +kernel
theorem d_FE_addAtEnd_18 : decode b_FE_addAtEnd 18 = .ok (.aload_n 0, 1) := by decide +kernel
theorem d_FE_addAtEnd_19 : decode b_FE_addAtEnd 19 = .ok (.dup, 1) := by decide +kernel
theorem d_FE_addAtEnd_20 : decode b_FE_addAtEnd 20 = .ok (.getfield 15, 3) := by decide +kernel
theorem d_FE_addAtEnd_23 : decode b_FE_addAtEnd 23 = .ok (.iconst 1, 1) := by decide +kernel
theorem d_FE_addAtEnd_24 : decode b_FE_addAtEnd 24 = .ok (.iadd, 1) := by decide +kernel
theorem d_FE_addAtEnd_25 : decode b_FE_addAtEnd 25 = .ok (.putfield 15, 3) := by decide +kernel
theorem d_FE_addAtEnd_28 : decode b_FE_addAtEnd 28 = .ok (.return_, 1) := by decide +kernel
theorem d_CS_extend_0 : decode b_CS_extend 0 = .ok (.iload_n 1, 1) := by decide +kernel
theorem d_CS_extend_1 : decode b_CS_extend 1 = .ok (.bipush 8, 2) := by decide +kernel
theorem d_CS_extend_3 : decode b_CS_extend 3 = .ok (.invokestatic 37, 3) := by decide +kernel
theorem d_CS_extend_6 : decode b_CS_extend 6 = .ok (.aload_n 0, 1) := by decide +kernel
theorem d_CS_extend_7 : decode b_CS_extend 7 = .ok (.aload_n 0, 1) := by decide +kernel
theorem d_CS_extend_8 : decode b_CS_extend 8 = .ok (.iload_n 1, 1) := by decide +kernel
theorem d_CS_extend_9 : decode b_CS_extend 9 = .ok (.invokevirtual 53, 3) := by decide +kernel
theorem d_CS_extend_12 : decode b_CS_extend 12 = .ok (.invokevirtual 87, 3) := by decide +kernel
theorem d_CS_extend_15 : decode b_CS_extend 15 = .ok (.ireturn, 1) := by decide +kernel
theorem d_CS_makeChunk_0 : decode b_CS_makeChunk 0 = .ok (.aload_n 0, 1) := by decide +kernel
theorem d_CS_makeChunk_1 : decode b_CS_makeChunk 1 = .ok (.getfield 151, 3) := by decide +kernel
theorem d_CS_makeChunk_4 : decode b_CS_makeChunk 4 = .ok (.bipush 30, 2) := by decide +kernel
theorem d_CS_makeChunk_6 : decode b_CS_makeChunk 6 = .ok (.if_icmp .ge 11, 3) := by decide +kernel
theorem d_CS_makeChunk_9 : decode b_CS_makeChunk 9 = .ok (.aload_n 1, 1) := by decide +kernel
theorem d_CS_makeChunk_10 : decode b_CS_makeChunk 10 = .ok (.getfield 63, 3) := by decide +kernel
theorem d_CS_makeChunk_13 : decode b_CS_makeChunk 13 = .ok (.iconst 3, 1) := by decide +kernel
theorem d_CS_makeChunk_14 : decode b_CS_makeChunk 14 = .ok (.if_icmp .lt 13, 3) := by decide +kernel
theorem d_CS_makeChunk_17 : decode b_CS_makeChunk 17 = .ok (.new 216, 3) := by decide +kernel
theorem d_CS_makeChunk_20 : decode b_CS_makeChunk 20 = .ok (.dup, 1) := by decide +kernel
theorem d_CS_makeChunk_21 : decode b_CS_makeChunk 21 = .ok (.ldc 229, 2) := by decide +kernel
theorem d_CS_makeChunk_23 : decode b_CS_makeChunk 23 = .ok (.invokespecial 220, 3) := by decide +kernel
theorem d_CS_makeChunk_26 : decode b_CS_makeChunk 26 = .ok (.athrow, 1) := by decide +kernel
theorem d_CS_makeChunk_27 : decode b_CS_makeChunk 27 = .ok (.aload_n 0, 1) := by decide +kernel
theorem d_CS_makeChunk_28 : decode b_CS_makeChunk 28 = .ok (.getfield 151, 3) := by decide +kernel
theorem d_CS_makeChunk_31 : decode b_CS_makeChunk 31 = .ok (.istore_n 2, 1) := by decide +kernel
theorem d_CS_makeChunk_32 : decode b_CS_makeChunk 32 = .ok (.aload_n 0, 1) := by decide +kernel
theorem d_CS_makeChunk_33 : decode b_CS_makeChunk 33 = .ok (.iload_n 2, 1) := by decide +kernel
theorem d_CS_makeChunk_34 : decode b_CS_makeChunk 34 = .ok (.iconst 3, 1) := by decide +kernel
theorem d_CS_makeChunk_35 : decode b_CS_makeChunk 35 = .ok (.invokevirtual 231, 3) := by decide +kernel
theorem d_CS_makeChunk_38 : decode b_CS_makeChunk 38 = .ok (.istore_n 3, 1) := by decide +kernel
theorem d_CS_makeChunk_39 : decode b_CS_makeChunk 39 = .ok (.iload_n 3, 1) := by decide +kernel
theorem d_CS_makeChunk_40 : decode b_CS_makeChunk 40 = .ok (.ifCond .ne 13, 3) := by decide +kernel
theorem d_CS_makeChunk_43 : decode b_CS_makeChunk 43 = .ok (.new 137, 3) := by decide +kernel
theorem d_CS_makeChunk_46 : decode b_CS_makeChunk 46 = .ok (.dup, 1) := by decide +kernel
theorem d_CS_makeChunk_47 : decode b_CS_makeChunk 47 = .ok (.ldc 234, 2) := by decide +kernel
theorem d_CS_makeChunk_49 : decode b_CS_makeChunk 49 = .ok (.invokespecial 141, 3) := by decide +kernel
theorem d_CS_makeChunk_52 : decode b_CS_makeChunk 52 = .ok (.athrow, 1) := by decide +kernel
theorem d_CS_makeChunk_53 : decode b_CS_makeChunk 53 = .ok (.aload_n 0, 1) := by decide +kernel
theorem d_CS_makeChunk_54 : decode b_CS_makeChunk 54 = .ok (.iload_n 3, 1) := by decide +kernel
theorem d_CS_makeChunk_55 : decode b_CS_makeChunk 55 = .ok (.invokevirtual 236, 3) := by decide +kernel
theorem d_CS_makeChunk_58 : decode b_CS_makeChunk 58 = .ok (.iconst 0, 1) := by decide +kernel
theorem d_CS_makeChunk_59 : decode b_CS_makeChunk 59 = .ok (.istore 4, 2) := by decide +kernel
theorem d_CS_makeChunk_61 : decode b_CS_makeChunk 61 = .ok (.iload 4, 2) := by decide +kernel
theorem d_CS_makeChunk_63 : decode b_CS_makeChunk 63 = .ok (.iconst 5, 1) := by decide +kernel
theorem d_CS_makeChunk_64 : decode b_CS_makeChunk 64 = .ok (.if_icmp .ge 29, 3) := by decide +kernel
theorem d_CS_makeChunk_67 : decode b_CS_makeChunk 67 = .ok (.iload_n 3, 1) := by decide +kernel
theorem d_CS_makeChunk_68 : decode b_CS_makeChunk 68 = .ok (.iload 4, 2) := by decide +kernel
theorem d_CS_makeChunk_70 : decode b_CS_makeChunk 70 = .ok (.invokestatic 118, 3) := by decide +kernel
theorem d_CS_makeChunk_73 : decode b_CS_makeChunk 73 = .ok (.ifCond .eq 14, 3) := by decide +kernel
theorem d_CS_makeChunk_76 : decode b_CS_makeChunk 76 = .ok (.aload_n 0, 1) := by decide +kernel
theorem d_CS_makeChunk_77 : decode b_CS_makeChunk 77 = .ok (.getfield 25, 3) := by decide +kernel
theorem d_CS_makeChunk_80 : decode b_CS_makeChunk 80 = .ok (.iload 4, 2) := by decide +kernel
theorem d_CS_makeChunk_82 : decode b_CS_makeChunk 82 = .ok (.aaload, 1) := by decide +kernel
theorem d_CS_makeChunk_83 : decode b_CS_makeChunk 83 = .ok (.iload_n 2, 1) := by decide +kernel
theorem d_CS_makeChunk_84 : decode b_CS_makeChunk 84 = .ok (.invokevirtual 239, 3) := by decide +kernel
theorem d_CS_makeChunk_87 : decode b_CS_makeChunk 87 = .ok (.iinc 4 1, 3) := by decide +kernel
theorem d_CS_makeChunk_90 : decode b_CS_makeChunk 90 = .ok (.goto (-29), 3) := by decide +kernel
theorem d_CS_makeChunk_93 : decode b_CS_makeChunk 93 = .ok (.aload_n 1, 1) := by decide +kernel
theorem d_CS_makeChunk_94 : decode b_CS_makeChunk 94 = .ok (.iload_n 2, 1) := by decide +kernel
theorem d_CS_makeChunk_95 : decode b_CS_makeChunk 95 = .ok (.invokevirtual 83, 3) := by decide +kernel
theorem d_CS_makeChunk_98 : decode b_CS_makeChunk 98 = .ok (.iload_n 2, 1) := by decide +kernel
theorem d_CS_makeChunk_99 : decode b_CS_makeChunk 99 = .ok (.ireturn, 1) := by decide +kernel
theorem d_CS_choose_0 : decode b_CS_choose 0 = .ok (.iconst 0, 1) := by decide +kernel
theorem d_CS_choose_1 : decode b_CS_choose 1 = .ok (.istore_n 3, 1) := by decide +kernel
theorem d_CS_choose_2 : decode b_CS_choose 2 = .ok (.iconst 0, 1) := by decide +kernel
theorem d_CS_choose_3 : decode b_CS_choose 3 = .ok (.istore 4, 2) := by decide +kernel
theorem d_CS_choose_5 : decode b_CS_choose 5 = .ok (.iload 4, 2) := by decide +kernel
theorem d_CS_choose_7 : decode b_CS_choose 7 = .ok (.iload_n 2, 1) := by decide +kernel
theorem d_CS_choose_8 : decode b_CS_choose 8 = .ok (.if_icmp .ge 30, 3) := by decide +kernel
theorem d_CS_choose_11 : decode b_CS_choose 11 = .ok (.aload_n 0, 1) := by decide +kernel
theorem d_CS_choose_12 : decode b_CS_choose 12 = .ok (.iload_n 1, 1) := by decide +kernel
theorem d_CS_choose_13 : decode b_CS_choose 13 = .ok (.iload_n 3, 1) := by decide +kernel
theorem d_CS_choose_14 : decode b_CS_choose 14 = .ok (.invokevirtual 164, 3) := by decide +kernel
theorem d_CS_choose_17 : decode b_CS_choose 17 = .ok (.istore 5, 2) := by decide +kernel
theorem d_CS_choose_19 : decode b_CS_choose 19 = .ok (.iload 5, 2) := by decide +kernel
theorem d_CS_choose_21 : decode b_CS_choose 21 = .ok (.iconst (-1), 1) := by decide +kernel
theorem d_CS_choose_22 : decode b_CS_choose 22 = .ok (.if_icmp .eq 10, 3) := by decide +kernel
theorem d_CS_choose_25 : decode b_CS_choose 25 = .ok (.iload_n 3, 1) := by decide +kernel
theorem d_CS_choose_26 : decode b_CS_choose 26 = .ok (.iconst 1, 1) := by decide +kernel
theorem d_CS_choose_27 : decode b_CS_choose 27 = .ok (.iload 5, 2) := by decide +kernel
theorem d_CS_choose_29 : decode b_CS_choose 29 = .ok (.ishl, 1) := by decide +kernel
theorem d_CS_choose_30 : decode b_CS_choose 30 = .ok (.ior, 1) := by decide +kernel
theorem d_CS_choose_31 : decode b_CS_choose 31 = .ok (.istore_n 3, 1) := by decide +kernel
theorem d_CS_choose_32 : decode b_CS_choose 32 = .ok (.iinc 4 1, 3) := by decide +kernel
theorem d_CS_choose_35 : decode b_CS_choose 35 = .ok (.goto (-30), 3) := by decide +kernel
theorem d_CS_choose_38 : decode b_CS_choose 38 = .ok (.iload_n 3, 1) := by decide +kernel
theorem d_CS_choose_39 : decode b_CS_choose 39 = .ok (.ireturn, 1) := by decide +kernel
theorem d_CS_lightest_0 : decode b_CS_lightest 0 = .ok (.iconst (-1), 1) := by decide +kernel
theorem d_CS_lightest_1 : decode b_CS_lightest 1 = .ok (.istore_n 3, 1) := by decide +kernel
theorem d_CS_lightest_2 : decode b_CS_lightest 2 = .ok (.iconst 0, 1) := by decide +kernel
theorem d_CS_lightest_3 : decode b_CS_lightest 3 = .ok (.istore 4, 2) := by decide +kernel
theorem d_CS_lightest_5 : decode b_CS_lightest 5 = .ok (.iload 4, 2) := by decide +kernel
theorem d_CS_lightest_7 : decode b_CS_lightest 7 = .ok (.iconst 5, 1) := by decide +kernel
theorem d_CS_lightest_8 : decode b_CS_lightest 8 = .ok (.if_icmp .ge 89, 3) := by decide +kernel
theorem d_CS_lightest_11 : decode b_CS_lightest 11 = .ok (.aload_n 0, 1) := by decide +kernel
theorem d_CS_lightest_12 : decode b_CS_lightest 12 = .ok (.getfield 25, 3) := by decide +kernel
theorem d_CS_lightest_15 : decode b_CS_lightest 15 = .ok (.iload 4, 2) := by decide +kernel
theorem d_CS_lightest_17 : decode b_CS_lightest 17 = .ok (.aaload, 1) := by decide +kernel
theorem d_CS_lightest_18 : decode b_CS_lightest 18 = .ok (.astore 5, 2) := by decide +kernel
theorem d_CS_lightest_20 : decode b_CS_lightest 20 = .ok (.aload 5, 2) := by decide +kernel
theorem d_CS_lightest_22 : decode b_CS_lightest 22 = .ok (.getfield 127, 3) := by decide +kernel
theorem d_CS_lightest_25 : decode b_CS_lightest 25 = .ok (.ifCond .eq 33, 3) := by decide +kernel
theorem d_CS_lightest_28 : decode b_CS_lightest 28 = .ok (.aload 5, 2) := by decide +kernel
theorem d_CS_lightest_30 : decode b_CS_lightest 30 = .ok (.invokevirtual 225, 3) := by decide +kernel
theorem d_CS_lightest_33 : decode b_CS_lightest 33 = .ok (.ifCond .ne 25, 3) := by decide +kernel
theorem d_CS_lightest_36 : decode b_CS_lightest 36 = .ok (.aload 5, 2) := by decide +kernel
theorem d_CS_lightest_38 : decode b_CS_lightest 38 = .ok (.iload_n 1, 1) := by decide +kernel
theorem d_CS_lightest_39 : decode b_CS_lightest 39 = .ok (.invokevirtual 154, 3) := by decide +kernel
theorem d_CS_lightest_42 : decode b_CS_lightest 42 = .ok (.ifCond .ne 16, 3) := by decide +kernel
theorem d_CS_lightest_45 : decode b_CS_lightest 45 = .ok (.iload_n 2, 1) := by decide +kernel
theorem d_CS_lightest_46 : decode b_CS_lightest 46 = .ok (.iload 4, 2) := by decide +kernel
theorem d_CS_lightest_48 : decode b_CS_lightest 48 = .ok (.invokestatic 118, 3) := by decide +kernel
theorem d_CS_lightest_51 : decode b_CS_lightest 51 = .ok (.ifCond .ne 7, 3) := by decide +kernel
theorem d_CS_lightest_54 : decode b_CS_lightest 54 = .ok (.iconst 1, 1) := by decide +kernel
theorem d_CS_lightest_55 : decode b_CS_lightest 55 = .ok (.goto 4, 3) := by decide +kernel
theorem d_CS_lightest_58 : decode b_CS_lightest 58 = .ok (.iconst 0, 1) := by decide +kernel
theorem d_CS_lightest_59 : decode b_CS_lightest 59 = .ok (.istore 6, 2) := by decide +kernel
theorem d_CS_lightest_61 : decode b_CS_lightest 61 = .ok (.iload 6, 2) := by decide +kernel
theorem d_CS_lightest_63 : decode b_CS_lightest 63 = .ok (.ifCond .eq 28, 3) := by decide +kernel
theorem d_CS_lightest_66 : decode b_CS_lightest 66 = .ok (.iload_n 3, 1) := by decide +kernel
theorem d_CS_lightest_67 : decode b_CS_lightest 67 = .ok (.iconst (-1), 1) := by decide +kernel
theorem d_CS_lightest_68 : decode b_CS_lightest 68 = .ok (.if_icmp .eq 20, 3) := by decide +kernel
theorem d_CS_lightest_71 : decode b_CS_lightest 71 = .ok (.aload 5, 2) := by decide +kernel
theorem d_CS_lightest_73 : decode b_CS_lightest 73 = .ok (.getfield 146, 3) := by decide +kernel
theorem d_CS_lightest_76 : decode b_CS_lightest 76 = .ok (.aload_n 0, 1) := by decide +kernel
theorem d_CS_lightest_77 : decode b_CS_lightest 77 = .ok (.getfield 25, 3) := by decide +kernel
theorem d_CS_lightest_80 : decode b_CS_lightest 80 = .ok (.iload_n 3, 1) := by decide +kernel
theorem d_CS_lightest_81 : decode b_CS_lightest 81 = .ok (.aaload, 1) := by decide +kernel
theorem d_CS_lightest_82 : decode b_CS_lightest 82 = .ok (.getfield 146, 3) := by decide +kernel
theorem d_CS_lightest_85 : decode b_CS_lightest 85 = .ok (.if_icmp .ge 6, 3) := by decide +kernel
theorem d_CS_lightest_88 : decode b_CS_lightest 88 = .ok (.iload 4, 2) := by decide +kernel
theorem d_CS_lightest_90 : decode b_CS_lightest 90 = .ok (.istore_n 3, 1) := by decide +kernel
theorem d_CS_lightest_91 : decode b_CS_lightest 91 = .ok (.iinc 4 1, 3) := by decide +kernel
theorem d_CS_lightest_94 : decode b_CS_lightest 94 = .ok (.goto (-89), 3) := by decide +kernel
theorem d_CS_lightest_97 : decode b_CS_lightest 97 = .ok (.iload_n 3, 1) := by decide +kernel
theorem d_CS_lightest_98 : decode b_CS_lightest 98 = .ok (.ireturn, 1) := by decide +kernel
theorem d_SV_isFull_0 : decode b_SV_isFull 0 = .ok (.aload_n 0, 1) := by decide +kernel
theorem d_SV_isFull_1 : decode b_SV_isFull 1 = .ok (.getfield 25, 3) := by decide +kernel
theorem d_SV_isFull_4 : decode b_SV_isFull 4 = .ok (.bipush 12, 2) := by decide +kernel
theorem d_SV_isFull_6 : decode b_SV_isFull 6 = .ok (.if_icmp .lt 7, 3) := by decide +kernel
theorem d_SV_isFull_9 : decode b_SV_isFull 9 = .ok (.iconst 1, 1) := by decide +kernel
theorem d_SV_isFull_10 : decode b_SV_isFull 10 = .ok (.goto 4, 3) := by decide +kernel
theorem d_SV_isFull_13 : decode b_SV_isFull 13 = .ok (.iconst 0, 1) := by decide +kernel
theorem d_SV_isFull_14 : decode b_SV_isFull 14 = .ok (.ireturn, 1) := by decide +kernel
theorem d_SV_has_0 : decode b_SV_has 0 = .ok (.aload_n 0, 1) := by decide +kernel
theorem d_SV_has_1 : decode b_SV_has 1 = .ok (.getfield 9, 3) := by decide +kernel
theorem d_SV_has_4 : decode b_SV_has 4 = .ok (.iload_n 1, 1) := by decide +kernel
theorem d_SV_has_5 : decode b_SV_has 5 = .ok (.iaload, 1) := by decide +kernel
theorem d_SV_has_6 : decode b_SV_has 6 = .ok (.ifCond .le 7, 3) := by decide +kernel
theorem d_SV_has_9 : decode b_SV_has 9 = .ok (.iconst 1, 1) := by decide +kernel
theorem d_SV_has_10 : decode b_SV_has 10 = .ok (.goto 4, 3) := by decide +kernel
theorem d_SV_has_13 : decode b_SV_has 13 = .ok (.iconst 0, 1) := by decide +kernel
theorem d_SV_has_14 : decode b_SV_has 14 = .ok (.ireturn, 1) := by decide +kernel
theorem d_CS_isIn_0 : decode b_CS_isIn 0 = .ok (.iload_n 0, 1) := by decide +kernel
theorem d_CS_isIn_1 : decode b_CS_isIn 1 = .ok (.iconst 1, 1) := by decide +kernel
theorem d_CS_isIn_2 : decode b_CS_isIn 2 = .ok (.iload_n 1, 1) := by decide +kernel
theorem d_CS_isIn_3 : decode b_CS_isIn 3 = .ok (.ishl, 1) := by decide +kernel
theorem d_CS_isIn_4 : decode b_CS_isIn 4 = .ok (.iand, 1) := by decide +kernel
theorem d_CS_isIn_5 : decode b_CS_isIn 5 = .ok (.ifCond .eq 7, 3) := by decide +kernel
theorem d_CS_isIn_8 : decode b_CS_isIn 8 = .ok (.iconst 1, 1) := by decide +kernel
theorem d_CS_isIn_9 : decode b_CS_isIn 9 = .ok (.goto 4, 3) := by decide +kernel
theorem d_CS_isIn_12 : decode b_CS_isIn 12 = .ok (.iconst 0, 1) := by decide +kernel
theorem d_CS_isIn_13 : decode b_CS_isIn 13 = .ok (.ireturn, 1) := by decide +kernel
theorem d_CS_startChunk_0 : decode b_CS_startChunk 0 = .ok (.aload_n 0, 1) := by decide +kernel
theorem d_CS_startChunk_1 : decode b_CS_startChunk 1 = .ok (.getfield 18, 3) := by decide +kernel
theorem d_CS_startChunk_4 : decode b_CS_startChunk 4 = .ok (.aload_n 0, 1) := by decide +kernel
theorem d_CS_startChunk_5 : decode b_CS_startChunk 5 = .ok (.getfield 151, 3) := by decide +kernel
theorem d_CS_startChunk_8 : decode b_CS_startChunk 8 = .ok (.aaload, 1) := by decide +kernel
theorem d_CS_startChunk_9 : decode b_CS_startChunk 9 = .ok (.astore_n 2, 1) := by decide +kernel
theorem d_CS_startChunk_10 : decode b_CS_startChunk 10 = .ok (.aload_n 2, 1) := by decide +kernel
theorem d_CS_startChunk_11 : decode b_CS_startChunk 11 = .ok (.iconst 1, 1) := by decide +kernel
theorem d_CS_startChunk_12 : decode b_CS_startChunk 12 = .ok (.putfield 110, 3) := by decide +kernel
theorem d_CS_startChunk_15 : decode b_CS_startChunk 15 = .ok (.aload_n 2, 1) := by decide +kernel
theorem d_CS_startChunk_16 : decode b_CS_startChunk 16 = .ok (.iconst 1, 1) := by decide +kernel
theorem d_CS_startChunk_17 : decode b_CS_startChunk 17 = .ok (.putfield 80, 3) := by decide +kernel
theorem d_CS_startChunk_20 : decode b_CS_startChunk 20 = .ok (.aload_n 2, 1) := by decide +kernel
theorem d_CS_startChunk_21 : decode b_CS_startChunk 21 = .ok (.iload_n 1, 1) := by decide +kernel
theorem d_CS_startChunk_22 : decode b_CS_startChunk 22 = .ok (.putfield 179, 3) := by decide +kernel
theorem d_CS_startChunk_25 : decode b_CS_startChunk 25 = .ok (.aload_n 0, 1) := by decide +kernel
theorem d_CS_startChunk_26 : decode b_CS_startChunk 26 = .ok (.dup, 1) := by decide +kernel
theorem d_CS_startChunk_27 : decode b_CS_startChunk 27 = .ok (.getfield 151, 3) := by decide +kernel
theorem d_CS_startChunk_30 : decode b_CS_startChunk 30 = .ok (.iconst 1, 1) := by decide +kernel
theorem d_CS_startChunk_31 : decode b_CS_startChunk 31 = .ok (.iadd, 1) := by decide +kernel
theorem d_CS_startChunk_32 : decode b_CS_startChunk 32 = .ok (.putfield 151, 3) := by decide +kernel
theorem d_CS_startChunk_35 : decode b_CS_startChunk 35 = .ok (.return_, 1) := by decide +kernel
theorem d_SV_addEmpty_0 : decode b_SV_addEmpty 0 = .ok (.aload_n 0, 1) := by decide +kernel
theorem d_SV_addEmpty_1 : decode b_SV_addEmpty 1 = .ok (.getfield 9, 3) := by decide +kernel
theorem d_SV_addEmpty_4 : decode b_SV_addEmpty 4 = .ok (.iload_n 1, 1) := by decide +kernel
theorem d_SV_addEmpty_5 : decode b_SV_addEmpty 5 = .ok (.iconst 1, 1) := by decide +kernel
theorem d_SV_addEmpty_6 : decode b_SV_addEmpty 6 = .ok (.iastore, 1) := by decide +kernel
theorem d_SV_addEmpty_7 : decode b_SV_addEmpty 7 = .ok (.aload_n 0, 1) := by decide +kernel
theorem d_SV_addEmpty_8 : decode b_SV_addEmpty 8 = .ok (.dup, 1) := by decide +kernel
theorem d_SV_addEmpty_9 : decode b_SV_addEmpty 9 = .ok (.getfield 25, 3) := by decide +kernel
theorem d_SV_addEmpty_12 : decode b_SV_addEmpty 12 = .ok (.iconst 1, 1) := by decide +kernel
theorem d_SV_addEmpty_13 : decode b_SV_addEmpty 13 = .ok (.iadd, 1) := by decide +kernel
theorem d_SV_addEmpty_14 : decode b_SV_addEmpty 14 = .ok (.putfield 25, 3) := by decide +kernel
theorem d_SV_addEmpty_17 : decode b_SV_addEmpty 17 = .ok (.return_, 1) := by decide +kernel
theorem d_CS_locate_0 : decode b_CS_locate 0 = .ok (.iload_n 1, 1) := by decide +kernel
theorem d_CS_locate_1 : decode b_CS_locate 1 = .ok (.iconst 3, 1) := by decide +kernel
theorem d_CS_locate_2 : decode b_CS_locate 2 = .ok (.invokestatic 37, 3) := by decide +kernel
theorem d_CS_locate_5 : decode b_CS_locate 5 = .ok (.iload_n 2, 1) := by decide +kernel
theorem d_CS_locate_6 : decode b_CS_locate 6 = .ok (.bipush 8, 2) := by decide +kernel
theorem d_CS_locate_8 : decode b_CS_locate 8 = .ok (.invokestatic 37, 3) := by decide +kernel
theorem d_CS_locate_11 : decode b_CS_locate 11 = .ok (.iload_n 3, 1) := by decide +kernel
theorem d_CS_locate_12 : decode b_CS_locate 12 = .ok (.iconst 3, 1) := by decide +kernel
theorem d_CS_locate_13 : decode b_CS_locate 13 = .ok (.invokestatic 37, 3) := by decide +kernel
theorem d_CS_locate_16 : decode b_CS_locate 16 = .ok (.aload_n 0, 1) := by decide +kernel
theorem d_CS_locate_17 : decode b_CS_locate 17 = .ok (.iload_n 1, 1) := by decide +kernel
theorem d_CS_locate_18 : decode b_CS_locate 18 = .ok (.iload_n 2, 1) := by decide +kernel
theorem d_CS_locate_19 : decode b_CS_locate 19 = .ok (.iload_n 3, 1) := by decide +kernel
theorem d_CS_locate_20 : decode b_CS_locate 20 = .ok (.invokevirtual 91, 3) := by decide +kernel
theorem d_CS_locate_23 : decode b_CS_locate 23 = .ok (.getfield 95, 3) := by decide +kernel
theorem d_CS_locate_26 : decode b_CS_locate 26 = .ok (.ireturn, 1) := by decide +kernel
theorem d_CS_find_0 : decode b_CS_find 0 = .ok (.aload_n 0, 1) := by decide +kernel
theorem d_CS_find_1 : decode b_CS_find 1 = .ok (.iload_n 2, 1) := by decide +kernel
theorem d_CS_find_2 : decode b_CS_find 2 = .ok (.invokevirtual 53, 3) := by decide +kernel
theorem d_CS_find_5 : decode b_CS_find 5 = .ok (.astore 4, 2) := by decide +kernel
theorem d_CS_find_7 : decode b_CS_find 7 = .ok (.aload 4, 2) := by decide +kernel
theorem d_CS_find_9 : decode b_CS_find 9 = .ok (.iload_n 3, 1) := by decide +kernel
theorem d_CS_find_10 : decode b_CS_find 10 = .ok (.invokestatic 98, 3) := by decide +kernel
theorem d_CS_find_13 : decode b_CS_find 13 = .ok (.aload_n 0, 1) := by decide +kernel
theorem d_CS_find_14 : decode b_CS_find 14 = .ok (.getfield 32, 3) := by decide +kernel
theorem d_CS_find_17 : decode b_CS_find 17 = .ok (.iload_n 1, 1) := by decide +kernel
theorem d_CS_find_18 : decode b_CS_find 18 = .ok (.bipush 8, 2) := by decide +kernel
theorem d_CS_find_20 : decode b_CS_find 20 = .ok (.imul, 1) := by decide +kernel
theorem d_CS_find_21 : decode b_CS_find 21 = .ok (.iload_n 2, 1) := by decide +kernel
theorem d_CS_find_22 : decode b_CS_find 22 = .ok (.iadd, 1) := by decide +kernel
theorem d_CS_find_23 : decode b_CS_find 23 = .ok (.iconst 3, 1) := by decide +kernel
theorem d_CS_find_24 : decode b_CS_find 24 = .ok (.imul, 1) := by decide +kernel
theorem d_CS_find_25 : decode b_CS_find 25 = .ok (.iload_n 3, 1) := by decide +kernel
theorem d_CS_find_26 : decode b_CS_find 26 = .ok (.iadd, 1) := by decide +kernel
theorem d_CS_find_27 : decode b_CS_find 27 = .ok (.aaload, 1) := by decide +kernel
theorem d_CS_find_28 : decode b_CS_find 28 = .ok (.astore 5, 2) := by decide +kernel
theorem d_CS_find_30 : decode b_CS_find 30 = .ok (.aload 5, 2) := by decide +kernel
theorem d_CS_find_32 : decode b_CS_find 32 = .ok (.getfield 242, 3) := by decide +kernel
theorem d_CS_find_35 : decode b_CS_find 35 = .ok (.aload_n 0, 1) := by decide +kernel
theorem d_CS_find_36 : decode b_CS_find 36 = .ok (.getfield 56, 3) := by decide +kernel
theorem d_CS_find_39 : decode b_CS_find 39 = .ok (.dcmp .l, 1) := by decide +kernel
theorem d_CS_find_40 : decode b_CS_find 40 = .ok (.ifCond .gt 62, 3) := by decide +kernel
theorem d_CS_find_43 : decode b_CS_find 43 = .ok (.aload_n 0, 1) := by decide +kernel
theorem d_CS_find_44 : decode b_CS_find 44 = .ok (.getfield 18, 3) := by decide +kernel
theorem d_CS_find_47 : decode b_CS_find 47 = .ok (.aload 4, 2) := by decide +kernel
theorem d_CS_find_49 : decode b_CS_find 49 = .ok (.getfield 73, 3) := by decide +kernel
theorem d_CS_find_52 : decode b_CS_find 52 = .ok (.iload_n 3, 1) := by decide +kernel
theorem d_CS_find_53 : decode b_CS_find 53 = .ok (.iaload, 1) := by decide +kernel
theorem d_CS_find_54 : decode b_CS_find 54 = .ok (.aaload, 1) := by decide +kernel
theorem d_CS_find_55 : decode b_CS_find 55 = .ok (.astore 6, 2) := by decide +kernel
theorem d_CS_find_57 : decode b_CS_find 57 = .ok (.aload 5, 2) := by decide +kernel
theorem d_CS_find_59 : decode b_CS_find 59 = .ok (.aload 4, 2) := by decide +kernel
theorem d_CS_find_61 : decode b_CS_find 61 = .ok (.getfield 73, 3) := by decide +kernel
theorem d_CS_find_64 : decode b_CS_find 64 = .ok (.iload_n 3, 1) := by decide +kernel
theorem d_CS_find_65 : decode b_CS_find 65 = .ok (.iaload, 1) := by decide +kernel
theorem d_CS_find_66 : decode b_CS_find 66 = .ok (.putfield 134, 3) := by decide +kernel
theorem d_CS_find_69 : decode b_CS_find 69 = .ok (.aload 5, 2) := by decide +kernel
theorem d_CS_find_71 : decode b_CS_find 71 = .ok (.aload 6, 2) := by decide +kernel
theorem d_CS_find_73 : decode b_CS_find 73 = .ok (.getfield 110, 3) := by decide +kernel
theorem d_CS_find_76 : decode b_CS_find 76 = .ok (.putfield 95, 3) := by decide +kernel
theorem d_CS_find_79 : decode b_CS_find 79 = .ok (.aload 5, 2) := by decide +kernel
theorem d_CS_find_81 : decode b_CS_find 81 = .ok (.aload 6, 2) := by decide +kernel
theorem d_CS_find_83 : decode b_CS_find 83 = .ok (.getfield 179, 3) := by decide +kernel
theorem d_CS_find_86 : decode b_CS_find 86 = .ok (.putfield 115, 3) := by decide +kernel
theorem d_CS_find_89 : decode b_CS_find 89 = .ok (.aload 5, 2) := by decide +kernel
theorem d_CS_find_91 : decode b_CS_find 91 = .ok (.aload_n 0, 1) := by decide +kernel
theorem d_CS_find_92 : decode b_CS_find 92 = .ok (.getfield 56, 3) := by decide +kernel
theorem d_CS_find_95 : decode b_CS_find 95 = .ok (.ldc2_w 245, 3) := by decide +kernel
theorem d_CS_find_98 : decode b_CS_find 98 = .ok (.dadd, 1) := by decide +kernel
theorem d_CS_find_99 : decode b_CS_find 99 = .ok (.putfield 242, 3) := by decide +kernel
theorem d_CS_find_102 : decode b_CS_find 102 = .ok (.aload 5, 2) := by decide +kernel
theorem d_CS_find_104 : decode b_CS_find 104 = .ok (.areturn, 1) := by decide +kernel
theorem d_CS_checkPlace_0 : decode b_CS_checkPlace 0 = .ok (.iload_n 1, 1) := by decide +kernel
theorem d_CS_checkPlace_1 : decode b_CS_checkPlace 1 = .ok (.aload_n 0, 1) := by decide +kernel
theorem d_CS_checkPlace_2 : decode b_CS_checkPlace 2 = .ok (.getfield 63, 3) := by decide +kernel
theorem d_CS_checkPlace_5 : decode b_CS_checkPlace 5 = .ok (.if_icmp .lt 13, 3) := by decide +kernel
theorem d_CS_checkPlace_8 : decode b_CS_checkPlace 8 = .ok (.new 216, 3) := by decide +kernel
theorem d_CS_checkPlace_11 : decode b_CS_checkPlace 11 = .ok (.dup, 1) := by decide +kernel
theorem d_CS_checkPlace_12 : decode b_CS_checkPlace 12 = .ok (.ldc 218, 2) := by decide +kernel
theorem d_CS_checkPlace_14 : decode b_CS_checkPlace 14 = .ok (.invokespecial 220, 3) := by decide +kernel
theorem d_CS_checkPlace_17 : decode b_CS_checkPlace 17 = .ok (.athrow, 1) := by decide +kernel
theorem d_CS_checkPlace_18 : decode b_CS_checkPlace 18 = .ok (.return_, 1) := by decide +kernel
theorem d_CS_write_0 : decode b_CS_write 0 = .ok (.iload_n 1, 1) := by decide +kernel
theorem d_CS_write_1 : decode b_CS_write 1 = .ok (.bipush 8, 2) := by decide +kernel
theorem d_CS_write_3 : decode b_CS_write 3 = .ok (.invokestatic 37, 3) := by decide +kernel
theorem d_CS_write_6 : decode b_CS_write 6 = .ok (.iload_n 2, 1) := by decide +kernel
theorem d_CS_write_7 : decode b_CS_write 7 = .ok (.iconst 3, 1) := by decide +kernel
theorem d_CS_write_8 : decode b_CS_write 8 = .ok (.invokestatic 37, 3) := by decide +kernel
theorem d_CS_write_11 : decode b_CS_write 11 = .ok (.iload_n 3, 1) := by decide +kernel
theorem d_CS_write_12 : decode b_CS_write 12 = .ok (.iconst 4, 1) := by decide +kernel
theorem d_CS_write_13 : decode b_CS_write 13 = .ok (.invokestatic 37, 3) := by decide +kernel
theorem d_CS_write_16 : decode b_CS_write 16 = .ok (.aload_n 0, 1) := by decide +kernel
theorem d_CS_write_17 : decode b_CS_write 17 = .ok (.iload_n 1, 1) := by decide +kernel
theorem d_CS_write_18 : decode b_CS_write 18 = .ok (.invokevirtual 53, 3) := by decide +kernel
theorem d_CS_write_21 : decode b_CS_write 21 = .ok (.astore 5, 2) := by decide +kernel
theorem d_CS_write_23 : decode b_CS_write 23 = .ok (.aload 5, 2) := by decide +kernel
theorem d_CS_write_25 : decode b_CS_write 25 = .ok (.iload_n 2, 1) := by decide +kernel
theorem d_CS_write_26 : decode b_CS_write 26 = .ok (.invokestatic 98, 3) := by decide +kernel
theorem d_CS_write_29 : decode b_CS_write 29 = .ok (.aload_n 0, 1) := by decide +kernel
theorem d_CS_write_30 : decode b_CS_write 30 = .ok (.aload 5, 2) := by decide +kernel
theorem d_CS_write_32 : decode b_CS_write 32 = .ok (.iload_n 2, 1) := by decide +kernel
theorem d_CS_write_33 : decode b_CS_write 33 = .ok (.invokevirtual 102, 3) := by decide +kernel
theorem d_CS_write_36 : decode b_CS_write 36 = .ok (.istore 6, 2) := by decide +kernel
theorem d_CS_write_38 : decode b_CS_write 38 = .ok (.aload_n 0, 1) := by decide +kernel
theorem d_CS_write_39 : decode b_CS_write 39 = .ok (.iload 6, 2) := by decide +kernel
theorem d_CS_write_41 : decode b_CS_write 41 = .ok (.iload_n 3, 1) := by decide +kernel
theorem d_CS_write_42 : decode b_CS_write 42 = .ok (.iload 4, 2) := by decide +kernel
theorem d_CS_write_44 : decode b_CS_write 44 = .ok (.invokevirtual 106, 3) := by decide +kernel
theorem d_CS_write_47 : decode b_CS_write 47 = .ok (.aload_n 0, 1) := by decide +kernel
theorem d_CS_write_48 : decode b_CS_write 48 = .ok (.getfield 18, 3) := by decide +kernel
theorem d_CS_write_51 : decode b_CS_write 51 = .ok (.iload 6, 2) := by decide +kernel
theorem d_CS_write_53 : decode b_CS_write 53 = .ok (.aaload, 1) := by decide +kernel
theorem d_CS_write_54 : decode b_CS_write 54 = .ok (.getfield 110, 3) := by decide +kernel
theorem d_CS_write_57 : decode b_CS_write 57 = .ok (.ireturn, 1) := by decide +kernel
theorem d_CS_lease_0 : decode b_CS_lease 0 = .ok (.aload_n 1, 1) := by decide +kernel
theorem d_CS_lease_1 : decode b_CS_lease 1 = .ok (.getfield 73, 3) := by decide +kernel
theorem d_CS_lease_4 : decode b_CS_lease 4 = .ok (.iload_n 2, 1) := by decide +kernel
theorem d_CS_lease_5 : decode b_CS_lease 5 = .ok (.iaload, 1) := by decide +kernel
theorem d_CS_lease_6 : decode b_CS_lease 6 = .ok (.istore_n 3, 1) := by decide +kernel
theorem d_CS_lease_7 : decode b_CS_lease 7 = .ok (.aload_n 0, 1) := by decide +kernel
theorem d_CS_lease_8 : decode b_CS_lease 8 = .ok (.iload_n 3, 1) := by decide +kernel
theorem d_CS_lease_9 : decode b_CS_lease 9 = .ok (.invokevirtual 167, 3) := by decide +kernel
theorem d_CS_lease_12 : decode b_CS_lease 12 = .ok (.istore 4, 2) := by decide +kernel
theorem d_CS_lease_14 : decode b_CS_lease 14 = .ok (.aload_n 0, 1) := by decide +kernel
theorem d_CS_lease_15 : decode b_CS_lease 15 = .ok (.aload_n 0, 1) := by decide +kernel
theorem d_CS_lease_16 : decode b_CS_lease 16 = .ok (.getfield 18, 3) := by decide +kernel
theorem d_CS_lease_19 : decode b_CS_lease 19 = .ok (.iload_n 3, 1) := by decide +kernel
theorem d_CS_lease_20 : decode b_CS_lease 20 = .ok (.aaload, 1) := by decide +kernel
theorem d_CS_lease_21 : decode b_CS_lease 21 = .ok (.invokevirtual 210, 3) := by decide +kernel
theorem d_CS_lease_24 : decode b_CS_lease 24 = .ok (.ifCond .eq 19, 3) := by decide +kernel
theorem d_CS_lease_27 : decode b_CS_lease 27 = .ok (.iload 4, 2) := by decide +kernel
theorem d_CS_lease_29 : decode b_CS_lease 29 = .ok (.aload_n 0, 1) := by decide +kernel
theorem d_CS_lease_30 : decode b_CS_lease 30 = .ok (.getfield 18, 3) := by decide +kernel
theorem d_CS_lease_33 : decode b_CS_lease 33 = .ok (.iload_n 3, 1) := by decide +kernel
theorem d_CS_lease_34 : decode b_CS_lease 34 = .ok (.aaload, 1) := by decide +kernel
theorem d_CS_lease_35 : decode b_CS_lease 35 = .ok (.getfield 179, 3) := by decide +kernel
theorem d_CS_lease_38 : decode b_CS_lease 38 = .ok (.if_icmp .ne 5, 3) := by decide +kernel
theorem d_CS_lease_41 : decode b_CS_lease 41 = .ok (.iload_n 3, 1) := by decide +kernel
theorem d_CS_lease_42 : decode b_CS_lease 42 = .ok (.ireturn, 1) := by decide +kernel
theorem d_CS_lease_43 : decode b_CS_lease 43 = .ok (.iload 4, 2) := by decide +kernel
theorem d_CS_lease_45 : decode b_CS_lease 45 = .ok (.ifCond .ne 13, 3) := by decide +kernel
theorem d_CS_lease_48 : decode b_CS_lease 48 = .ok (.new 137, 3) := by decide +kernel
theorem d_CS_lease_51 : decode b_CS_lease 51 = .ok (.dup, 1) := by decide +kernel
theorem d_CS_lease_52 : decode b_CS_lease 52 = .ok (.ldc 247, 2) := by decide +kernel
theorem d_CS_lease_54 : decode b_CS_lease 54 = .ok (.invokespecial 141, 3) := by decide +kernel
theorem d_CS_lease_57 : decode b_CS_lease 57 = .ok (.athrow, 1) := by decide +kernel
theorem d_CS_lease_58 : decode b_CS_lease 58 = .ok (.aload_n 0, 1) := by decide +kernel
theorem d_CS_lease_59 : decode b_CS_lease 59 = .ok (.getfield 18, 3) := by decide +kernel
theorem d_CS_lease_62 : decode b_CS_lease 62 = .ok (.iload_n 3, 1) := by decide +kernel
theorem d_CS_lease_63 : decode b_CS_lease 63 = .ok (.aaload, 1) := by decide +kernel
theorem d_CS_lease_64 : decode b_CS_lease 64 = .ok (.getfield 80, 3) := by decide +kernel
theorem d_CS_lease_67 : decode b_CS_lease 67 = .ok (.iconst 2, 1) := by decide +kernel
theorem d_CS_lease_68 : decode b_CS_lease 68 = .ok (.if_icmp .lt 15, 3) := by decide +kernel
theorem d_CS_lease_71 : decode b_CS_lease 71 = .ok (.aload_n 0, 1) := by decide +kernel
theorem d_CS_lease_72 : decode b_CS_lease 72 = .ok (.aload_n 1, 1) := by decide +kernel
theorem d_CS_lease_73 : decode b_CS_lease 73 = .ok (.iload_n 2, 1) := by decide +kernel
theorem d_CS_lease_74 : decode b_CS_lease 74 = .ok (.iload 4, 2) := by decide +kernel
theorem d_CS_lease_76 : decode b_CS_lease 76 = .ok (.invokevirtual 249, 3) := by decide +kernel
theorem d_CS_lease_79 : decode b_CS_lease 79 = .ok (.istore_n 3, 1) := by decide +kernel
theorem d_CS_lease_80 : decode b_CS_lease 80 = .ok (.goto 10, 3) := by decide +kernel
theorem d_CS_lease_83 : decode b_CS_lease 83 = .ok (.aload_n 0, 1) := by decide +kernel
theorem d_CS_lease_84 : decode b_CS_lease 84 = .ok (.iload_n 3, 1) := by decide +kernel
theorem d_CS_lease_85 : decode b_CS_lease 85 = .ok (.iload 4, 2) := by decide +kernel
theorem d_CS_lease_87 : decode b_CS_lease 87 = .ok (.invokevirtual 253, 3) := by decide +kernel
theorem d_CS_lease_90 : decode b_CS_lease 90 = .ok (.aload_n 0, 1) := by decide +kernel
theorem d_CS_lease_91 : decode b_CS_lease 91 = .ok (.getfield 18, 3) := by decide +kernel
theorem d_CS_lease_94 : decode b_CS_lease 94 = .ok (.iload_n 3, 1) := by decide +kernel
theorem d_CS_lease_95 : decode b_CS_lease 95 = .ok (.aaload, 1) := by decide +kernel
theorem d_CS_lease_96 : decode b_CS_lease 96 = .ok (.aload_n 0, 1) := by decide +kernel
theorem d_CS_lease_97 : decode b_CS_lease 97 = .ok (.getfield 56, 3) := by decide +kernel
theorem d_CS_lease_100 : decode b_CS_lease 100 = .ok (.ldc2_w 256, 3) := by decide +kernel
theorem d_CS_lease_103 : decode b_CS_lease 103 = .ok (.dadd, 1) := by decide +kernel
theorem d_CS_lease_104 : decode b_CS_lease 104 = .ok (.putfield 77, 3) := by decide +kernel
theorem d_CS_lease_107 : decode b_CS_lease 107 = .ok (.iload_n 3, 1) := by decide +kernel
theorem d_CS_lease_108 : decode b_CS_lease 108 = .ok (.ireturn, 1) := by decide +kernel
theorem d_CS_liveHolders_0 : decode b_CS_liveHolders 0 = .ok (.iconst 0, 1) := by decide +kernel
theorem d_CS_liveHolders_1 : decode b_CS_liveHolders 1 = .ok (.istore_n 2, 1) := by decide +kernel
theorem d_CS_liveHolders_2 : decode b_CS_liveHolders 2 = .ok (.iconst 0, 1) := by decide +kernel
theorem d_CS_liveHolders_3 : decode b_CS_liveHolders 3 = .ok (.istore_n 3, 1) := by decide +kernel
theorem d_CS_liveHolders_4 : decode b_CS_liveHolders 4 = .ok (.iload_n 3, 1) := by decide +kernel
theorem d_CS_liveHolders_5 : decode b_CS_liveHolders 5 = .ok (.iconst 5, 1) := by decide +kernel
theorem d_CS_liveHolders_6 : decode b_CS_liveHolders 6 = .ok (.if_icmp .ge 43, 3) := by decide +kernel
theorem d_CS_liveHolders_9 : decode b_CS_liveHolders 9 = .ok (.aload_n 0, 1) := by decide +kernel
theorem d_CS_liveHolders_10 : decode b_CS_liveHolders 10 = .ok (.getfield 25, 3) := by decide +kernel
theorem d_CS_liveHolders_13 : decode b_CS_liveHolders 13 = .ok (.iload_n 3, 1) := by decide +kernel
theorem d_CS_liveHolders_14 : decode b_CS_liveHolders 14 = .ok (.aaload, 1) := by decide +kernel
theorem d_CS_liveHolders_15 : decode b_CS_liveHolders 15 = .ok (.getfield 127, 3) := by decide +kernel
theorem d_CS_liveHolders_18 : decode b_CS_liveHolders 18 = .ok (.ifCond .eq 25, 3) := by decide +kernel
theorem d_CS_liveHolders_21 : decode b_CS_liveHolders 21 = .ok (.aload_n 0, 1) := by decide +kernel
theorem d_CS_liveHolders_22 : decode b_CS_liveHolders 22 = .ok (.getfield 18, 3) := by decide +kernel
theorem d_CS_liveHolders_25 : decode b_CS_liveHolders 25 = .ok (.iload_n 1, 1) := by decide +kernel
theorem d_CS_liveHolders_26 : decode b_CS_liveHolders 26 = .ok (.aaload, 1) := by decide +kernel
theorem d_CS_liveHolders_27 : decode b_CS_liveHolders 27 = .ok (.getfield 179, 3) := by decide +kernel
theorem d_CS_liveHolders_30 : decode b_CS_liveHolders 30 = .ok (.iload_n 3, 1) := by decide +kernel
theorem d_CS_liveHolders_31 : decode b_CS_liveHolders 31 = .ok (.invokestatic 118, 3) := by decide +kernel
theorem d_CS_liveHolders_34 : decode b_CS_liveHolders 34 = .ok (.ifCond .eq 9, 3) := by decide +kernel
theorem d_CS_liveHolders_37 : decode b_CS_liveHolders 37 = .ok (.iload_n 2, 1) := by decide +kernel
theorem d_CS_liveHolders_38 : decode b_CS_liveHolders 38 = .ok (.iconst 1, 1) := by decide +kernel
theorem d_CS_liveHolders_39 : decode b_CS_liveHolders 39 = .ok (.iload_n 3, 1) := by decide +kernel
theorem d_CS_liveHolders_40 : decode b_CS_liveHolders 40 = .ok (.ishl, 1) := by decide +kernel
theorem d_CS_liveHolders_41 : decode b_CS_liveHolders 41 = .ok (.ior, 1) := by decide +kernel
theorem d_CS_liveHolders_42 : decode b_CS_liveHolders 42 = .ok (.istore_n 2, 1) := by decide +kernel
theorem d_CS_liveHolders_43 : decode b_CS_liveHolders 43 = .ok (.iinc 3 1, 3) := by decide +kernel
theorem d_CS_liveHolders_46 : decode b_CS_liveHolders 46 = .ok (.goto (-42), 3) := by decide +kernel
theorem d_CS_liveHolders_49 : decode b_CS_liveHolders 49 = .ok (.iload_n 2, 1) := by decide +kernel
theorem d_CS_liveHolders_50 : decode b_CS_liveHolders 50 = .ok (.ireturn, 1) := by decide +kernel
theorem d_CS_isLeased_0 : decode b_CS_isLeased 0 = .ok (.aload_n 1, 1) := by decide +kernel
theorem d_CS_isLeased_1 : decode b_CS_isLeased 1 = .ok (.getfield 77, 3) := by decide +kernel
theorem d_CS_isLeased_4 : decode b_CS_isLeased 4 = .ok (.aload_n 0, 1) := by decide +kernel
theorem d_CS_isLeased_5 : decode b_CS_isLeased 5 = .ok (.getfield 56, 3) := by decide +kernel
theorem d_CS_isLeased_8 : decode b_CS_isLeased 8 = .ok (.dcmp .l, 1) := by decide +kernel
theorem d_CS_isLeased_9 : decode b_CS_isLeased 9 = .ok (.ifCond .le 7, 3) := by decide +kernel
theorem d_CS_isLeased_12 : decode b_CS_isLeased 12 = .ok (.iconst 1, 1) := by decide +kernel
theorem d_CS_isLeased_13 : decode b_CS_isLeased 13 = .ok (.goto 4, 3) := by decide +kernel
theorem d_CS_isLeased_16 : decode b_CS_isLeased 16 = .ok (.iconst 0, 1) := by decide +kernel
theorem d_CS_isLeased_17 : decode b_CS_isLeased 17 = .ok (.ireturn, 1) := by decide +kernel
theorem d_CS_splitOff_0 : decode b_CS_splitOff 0 = .ok (.aload_n 0, 1) := by decide +kernel
theorem d_CS_splitOff_1 : decode b_CS_splitOff 1 = .ok (.getfield 151, 3) := by decide +kernel
theorem d_CS_splitOff_4 : decode b_CS_splitOff 4 = .ok (.bipush 30, 2) := by decide +kernel
theorem d_CS_splitOff_6 : decode b_CS_splitOff 6 = .ok (.if_icmp .lt 14, 3) := by decide +kernel
theorem d_CS_splitOff_9 : decode b_CS_splitOff 9 = .ok (.new 216, 3) := by decide +kernel
theorem d_CS_splitOff_12 : decode b_CS_splitOff 12 = .ok (.dup, 1) := by decide +kernel
theorem d_CS_splitOff_13 : decode b_CS_splitOff 13 = .ok (.ldc_w 258, 3) := by decide +kernel
theorem d_CS_splitOff_16 : decode b_CS_splitOff 16 = .ok (.invokespecial 220, 3) := by decide +kernel
theorem d_CS_splitOff_19 : decode b_CS_splitOff 19 = .ok (.athrow, 1) := by decide +kernel
theorem d_CS_splitOff_20 : decode b_CS_splitOff 20 = .ok (.aload_n 0, 1) := by decide +kernel
theorem d_CS_splitOff_21 : decode b_CS_splitOff 21 = .ok (.iload_n 3, 1) := by decide +kernel
theorem d_CS_splitOff_22 : decode b_CS_splitOff 22 = .ok (.invokevirtual 260, 3) := by decide +kernel
theorem d_CS_splitOff_25 : decode b_CS_splitOff 25 = .ok (.ifCond .eq 14, 3) := by decide +kernel
theorem d_CS_splitOff_28 : decode b_CS_splitOff 28 = .ok (.new 122, 3) := by decide +kernel
theorem d_CS_splitOff_31 : decode b_CS_splitOff 31 = .ok (.dup, 1) := by decide +kernel
theorem d_CS_splitOff_32 : decode b_CS_splitOff 32 = .ok (.ldc_w 263, 3) := by decide +kernel
theorem d_CS_splitOff_35 : decode b_CS_splitOff 35 = .ok (.invokespecial 126, 3) := by decide +kernel
theorem d_CS_splitOff_38 : decode b_CS_splitOff 38 = .ok (.athrow, 1) := by decide +kernel
theorem d_CS_splitOff_39 : decode b_CS_splitOff 39 = .ok (.aload_n 1, 1) := by decide +kernel
theorem d_CS_splitOff_40 : decode b_CS_splitOff 40 = .ok (.getfield 73, 3) := by decide +kernel
theorem d_CS_splitOff_43 : decode b_CS_splitOff 43 = .ok (.iload_n 2, 1) := by decide +kernel
theorem d_CS_splitOff_44 : decode b_CS_splitOff 44 = .ok (.iaload, 1) := by decide +kernel
theorem d_CS_splitOff_45 : decode b_CS_splitOff 45 = .ok (.istore 4, 2) := by decide +kernel
theorem d_CS_splitOff_47 : decode b_CS_splitOff 47 = .ok (.aload_n 0, 1) := by decide +kernel
theorem d_CS_splitOff_48 : decode b_CS_splitOff 48 = .ok (.getfield 151, 3) := by decide +kernel
theorem d_CS_splitOff_51 : decode b_CS_splitOff 51 = .ok (.istore 5, 2) := by decide +kernel
theorem d_CS_splitOff_53 : decode b_CS_splitOff 53 = .ok (.aload_n 0, 1) := by decide +kernel
theorem d_CS_splitOff_54 : decode b_CS_splitOff 54 = .ok (.iload_n 3, 1) := by decide +kernel
theorem d_CS_splitOff_55 : decode b_CS_splitOff 55 = .ok (.invokevirtual 236, 3) := by decide +kernel
theorem d_CS_splitOff_58 : decode b_CS_splitOff 58 = .ok (.iconst 0, 1) := by decide +kernel
theorem d_CS_splitOff_59 : decode b_CS_splitOff 59 = .ok (.istore 6, 2) := by decide +kernel
theorem d_CS_splitOff_61 : decode b_CS_splitOff 61 = .ok (.iload 6, 2) := by decide +kernel
theorem d_CS_splitOff_63 : decode b_CS_splitOff 63 = .ok (.iconst 5, 1) := by decide +kernel
theorem d_CS_splitOff_64 : decode b_CS_splitOff 64 = .ok (.if_icmp .ge 40, 3) := by decide +kernel
theorem d_CS_splitOff_67 : decode b_CS_splitOff 67 = .ok (.iload_n 3, 1) := by decide +kernel
theorem d_CS_splitOff_68 : decode b_CS_splitOff 68 = .ok (.iload 6, 2) := by decide +kernel
theorem d_CS_splitOff_70 : decode b_CS_splitOff 70 = .ok (.invokestatic 118, 3) := by decide +kernel
theorem d_CS_splitOff_73 : decode b_CS_splitOff 73 = .ok (.ifCond .eq 25, 3) := by decide +kernel
theorem d_CS_splitOff_76 : decode b_CS_splitOff 76 = .ok (.aload_n 0, 1) := by decide +kernel
theorem d_CS_splitOff_77 : decode b_CS_splitOff 77 = .ok (.getfield 25, 3) := by decide +kernel
theorem d_CS_splitOff_80 : decode b_CS_splitOff 80 = .ok (.iload 6, 2) := by decide +kernel
theorem d_CS_splitOff_82 : decode b_CS_splitOff 82 = .ok (.aaload, 1) := by decide +kernel
theorem d_CS_splitOff_83 : decode b_CS_splitOff 83 = .ok (.iload 5, 2) := by decide +kernel
theorem d_CS_splitOff_85 : decode b_CS_splitOff 85 = .ok (.aload_n 0, 1) := by decide +kernel
theorem d_CS_splitOff_86 : decode b_CS_splitOff 86 = .ok (.getfield 25, 3) := by decide +kernel
theorem d_CS_splitOff_89 : decode b_CS_splitOff 89 = .ok (.iload 6, 2) := by decide +kernel
theorem d_CS_splitOff_91 : decode b_CS_splitOff 91 = .ok (.aaload, 1) := by decide +kernel
theorem d_CS_splitOff_92 : decode b_CS_splitOff 92 = .ok (.iload 4, 2) := by decide +kernel
theorem d_CS_splitOff_94 : decode b_CS_splitOff 94 = .ok (.iconst 1, 1) := by decide +kernel
theorem d_CS_splitOff_95 : decode b_CS_splitOff 95 = .ok (.invokevirtual 175, 3) := by decide +kernel
theorem d_CS_splitOff_98 : decode b_CS_splitOff 98 = .ok (.iinc 6 1, 3) := by decide +kernel
theorem d_CS_splitOff_101 : decode b_CS_splitOff 101 = .ok (.goto (-40), 3) := by decide +kernel
theorem d_CS_splitOff_104 : decode b_CS_splitOff 104 = .ok (.aload_n 0, 1) := by decide +kernel
theorem d_CS_splitOff_105 : decode b_CS_splitOff 105 = .ok (.getfield 18, 3) := by decide +kernel
theorem d_CS_splitOff_108 : decode b_CS_splitOff 108 = .ok (.iload 4, 2) := by decide +kernel
theorem d_CS_splitOff_110 : decode b_CS_splitOff 110 = .ok (.aaload, 1) := by decide +kernel
theorem d_CS_splitOff_111 : decode b_CS_splitOff 111 = .ok (.dup, 1) := by decide +kernel
theorem d_CS_splitOff_112 : decode b_CS_splitOff 112 = .ok (.getfield 80, 3) := by decide +kernel
theorem d_CS_splitOff_115 : decode b_CS_splitOff 115 = .ok (.iconst 1, 1) := by decide +kernel
theorem d_CS_splitOff_116 : decode b_CS_splitOff 116 = .ok (.isub, 1) := by decide +kernel
theorem d_CS_splitOff_117 : decode b_CS_splitOff 117 = .ok (.putfield 80, 3) := by decide +kernel
theorem d_CS_splitOff_120 : decode b_CS_splitOff 120 = .ok (.aload_n 1, 1) := by decide +kernel
theorem d_CS_splitOff_121 : decode b_CS_splitOff 121 = .ok (.getfield 73, 3) := by decide +kernel
theorem d_CS_splitOff_124 : decode b_CS_splitOff 124 = .ok (.iload_n 2, 1) := by decide +kernel
theorem d_CS_splitOff_125 : decode b_CS_splitOff 125 = .ok (.iload 5, 2) := by decide +kernel
theorem d_CS_splitOff_127 : decode b_CS_splitOff 127 = .ok (.iastore, 1) := by decide +kernel
theorem d_CS_splitOff_128 : decode b_CS_splitOff 128 = .ok (.iload 5, 2) := by decide +kernel
theorem d_CS_splitOff_130 : decode b_CS_splitOff 130 = .ok (.ireturn, 1) := by decide +kernel
theorem d_CS_anyFull_0 : decode b_CS_anyFull 0 = .ok (.iconst 0, 1) := by decide +kernel
theorem d_CS_anyFull_1 : decode b_CS_anyFull 1 = .ok (.istore_n 2, 1) := by decide +kernel
theorem d_CS_anyFull_2 : decode b_CS_anyFull 2 = .ok (.iload_n 2, 1) := by decide +kernel
theorem d_CS_anyFull_3 : decode b_CS_anyFull 3 = .ok (.iconst 5, 1) := by decide +kernel
theorem d_CS_anyFull_4 : decode b_CS_anyFull 4 = .ok (.if_icmp .ge 31, 3) := by decide +kernel
theorem d_CS_anyFull_7 : decode b_CS_anyFull 7 = .ok (.iload_n 1, 1) := by decide +kernel
theorem d_CS_anyFull_8 : decode b_CS_anyFull 8 = .ok (.iload_n 2, 1) := by decide +kernel
theorem d_CS_anyFull_9 : decode b_CS_anyFull 9 = .ok (.invokestatic 118, 3) := by decide +kernel
theorem d_CS_anyFull_12 : decode b_CS_anyFull 12 = .ok (.ifCond .eq 17, 3) := by decide +kernel
theorem d_CS_anyFull_15 : decode b_CS_anyFull 15 = .ok (.aload_n 0, 1) := by decide +kernel
theorem d_CS_anyFull_16 : decode b_CS_anyFull 16 = .ok (.getfield 25, 3) := by decide +kernel
theorem d_CS_anyFull_19 : decode b_CS_anyFull 19 = .ok (.iload_n 2, 1) := by decide +kernel
theorem d_CS_anyFull_20 : decode b_CS_anyFull 20 = .ok (.aaload, 1) := by decide +kernel
theorem d_CS_anyFull_21 : decode b_CS_anyFull 21 = .ok (.invokevirtual 225, 3) := by decide +kernel
theorem d_CS_anyFull_24 : decode b_CS_anyFull 24 = .ok (.ifCond .eq 5, 3) := by decide +kernel
theorem d_CS_anyFull_27 : decode b_CS_anyFull 27 = .ok (.iconst 1, 1) := by decide +kernel
theorem d_CS_anyFull_28 : decode b_CS_anyFull 28 = .ok (.ireturn, 1) := by decide +kernel
theorem d_CS_anyFull_29 : decode b_CS_anyFull 29 = .ok (.iinc 2 1, 3) := by decide +kernel
theorem d_CS_anyFull_32 : decode b_CS_anyFull 32 = .ok (.goto (-30), 3) := by decide +kernel
theorem d_CS_anyFull_35 : decode b_CS_anyFull 35 = .ok (.iconst 0, 1) := by decide +kernel
theorem d_CS_anyFull_36 : decode b_CS_anyFull 36 = .ok (.ireturn, 1) := by decide +kernel
theorem d_SV_addLike_0 : decode b_SV_addLike 0 = .ok (.aload_n 0, 1) := by decide +kernel
theorem d_SV_addLike_1 : decode b_SV_addLike 1 = .ok (.getfield 9, 3) := by decide +kernel
theorem d_SV_addLike_4 : decode b_SV_addLike 4 = .ok (.iload_n 1, 1) := by decide +kernel
theorem d_SV_addLike_5 : decode b_SV_addLike 5 = .ok (.iload 4, 2) := by decide +kernel
theorem d_SV_addLike_7 : decode b_SV_addLike 7 = .ok (.iastore, 1) := by decide +kernel
theorem d_SV_addLike_8 : decode b_SV_addLike 8 = .ok (.aload_n 0, 1) := by decide +kernel
theorem d_SV_addLike_9 : decode b_SV_addLike 9 = .ok (.getfield 15, 3) := by decide +kernel
theorem d_SV_addLike_12 : decode b_SV_addLike 12 = .ok (.iload_n 1, 1) := by decide +kernel
theorem d_SV_addLike_13 : decode b_SV_addLike 13 = .ok (.aload_n 2, 1) := by decide +kernel
theorem d_SV_addLike_14 : decode b_SV_addLike 14 = .ok (.getfield 15, 3) := by decide +kernel
theorem d_SV_addLike_17 : decode b_SV_addLike 17 = .ok (.iload_n 3, 1) := by decide +kernel
theorem d_SV_addLike_18 : decode b_SV_addLike 18 = .ok (.iaload, 1) := by decide +kernel
theorem d_SV_addLike_19 : decode b_SV_addLike 19 = .ok (.iastore, 1) := by decide +kernel
theorem d_SV_addLike_20 : decode b_SV_addLike 20 = .ok (.iconst 0, 1) := by decide +kernel
theorem d_SV_addLike_21 : decode b_SV_addLike 21 = .ok (.istore 5, 2) := by decide +kernel
theorem d_SV_addLike_23 : decode b_SV_addLike 23 = .ok (.iload 5, 2) := by decide +kernel
theorem d_SV_addLike_25 : decode b_SV_addLike 25 = .ok (.iconst 4, 1) := by decide +kernel
theorem d_SV_addLike_26 : decode b_SV_addLike 26 = .ok (.if_icmp .ge 31, 3) := by decide +kernel
theorem d_SV_addLike_29 : decode b_SV_addLike 29 = .ok (.aload_n 0, 1) := by decide +kernel
theorem d_SV_addLike_30 : decode b_SV_addLike 30 = .ok (.getfield 18, 3) := by decide +kernel
theorem d_SV_addLike_33 : decode b_SV_addLike 33 = .ok (.iload_n 1, 1) := by decide +kernel
theorem d_SV_addLike_34 : decode b_SV_addLike 34 = .ok (.iconst 4, 1) := by decide +kernel
theorem d_SV_addLike_35 : decode b_SV_addLike 35 = .ok (.imul, 1) := by decide +kernel
theorem d_SV_addLike_36 : decode b_SV_addLike 36 = .ok (.iload 5, 2) := by decide +kernel
theorem d_SV_addLike_38 : decode b_SV_addLike 38 = .ok (.iadd, 1) := by decide +kernel
theorem d_SV_addLike_39 : decode b_SV_addLike 39 = .ok (.aload_n 2, 1) := by decide +kernel
theorem d_SV_addLike_40 : decode b_SV_addLike 40 = .ok (.getfield 18, 3) := by decide +kernel
theorem d_SV_addLike_43 : decode b_SV_addLike 43 = .ok (.iload_n 3, 1) := by decide +kernel
theorem d_SV_addLike_44 : decode b_SV_addLike 44 = .ok (.iconst 4, 1) := by decide +kernel
theorem d_SV_addLike_45 : decode b_SV_addLike 45 = .ok (.imul, 1) := by decide +kernel
theorem d_SV_addLike_46 : decode b_SV_addLike 46 = .ok (.iload 5, 2) := by decide +kernel
theorem d_SV_addLike_48 : decode b_SV_addLike 48 = .ok (.iadd, 1) := by decide +kernel
theorem d_SV_addLike_49 : decode b_SV_addLike 49 = .ok (.iaload, 1) := by decide +kernel
theorem d_SV_addLike_50 : decode b_SV_addLike 50 = .ok (.iastore, 1) := by decide +kernel
theorem d_SV_addLike_51 : decode b_SV_addLike 51 = .ok (.iinc 5 1, 3) := by decide +kernel
theorem d_SV_addLike_54 : decode b_SV_addLike 54 = .ok (.goto (-31), 3) := by decide +kernel
theorem d_SV_addLike_57 : decode b_SV_addLike 57 = .ok (.aload_n 0, 1) := by decide +kernel
theorem d_SV_addLike_58 : decode b_SV_addLike 58 = .ok (.dup, 1) := by decide +kernel
theorem d_SV_addLike_59 : decode b_SV_addLike 59 = .ok (.getfield 25, 3) := by decide +kernel
theorem d_SV_addLike_62 : decode b_SV_addLike 62 = .ok (.iconst 1, 1) := by decide +kernel
theorem d_SV_addLike_63 : decode b_SV_addLike 63 = .ok (.iadd, 1) := by decide +kernel
theorem d_SV_addLike_64 : decode b_SV_addLike 64 = .ok (.putfield 25, 3) := by decide +kernel
theorem d_SV_addLike_67 : decode b_SV_addLike 67 = .ok (.return_, 1) := by decide +kernel
theorem d_CS_raiseVersion_0 : decode b_CS_raiseVersion 0 = .ok (.aload_n 0, 1) := by decide +kernel
theorem d_CS_raiseVersion_1 : decode b_CS_raiseVersion 1 = .ok (.getfield 18, 3) := by decide +kernel
theorem d_CS_raiseVersion_4 : decode b_CS_raiseVersion 4 = .ok (.iload_n 1, 1) := by decide +kernel
theorem d_CS_raiseVersion_5 : decode b_CS_raiseVersion 5 = .ok (.aaload, 1) := by decide +kernel
theorem d_CS_raiseVersion_6 : decode b_CS_raiseVersion 6 = .ok (.astore_n 3, 1) := by decide +kernel
theorem d_CS_raiseVersion_7 : decode b_CS_raiseVersion 7 = .ok (.aload_n 3, 1) := by decide +kernel
theorem d_CS_raiseVersion_8 : decode b_CS_raiseVersion 8 = .ok (.dup, 1) := by decide +kernel
theorem d_CS_raiseVersion_9 : decode b_CS_raiseVersion 9 = .ok (.getfield 110, 3) := by decide +kernel
theorem d_CS_raiseVersion_12 : decode b_CS_raiseVersion 12 = .ok (.iconst 1, 1) := by decide +kernel
theorem d_CS_raiseVersion_13 : decode b_CS_raiseVersion 13 = .ok (.iadd, 1) := by decide +kernel
theorem d_CS_raiseVersion_14 : decode b_CS_raiseVersion 14 = .ok (.putfield 110, 3) := by decide +kernel
theorem d_CS_raiseVersion_17 : decode b_CS_raiseVersion 17 = .ok (.aload_n 3, 1) := by decide +kernel
theorem d_CS_raiseVersion_18 : decode b_CS_raiseVersion 18 = .ok (.iload_n 2, 1) := by decide +kernel
theorem d_CS_raiseVersion_19 : decode b_CS_raiseVersion 19 = .ok (.putfield 179, 3) := by decide +kernel
theorem d_CS_raiseVersion_22 : decode b_CS_raiseVersion 22 = .ok (.iconst 0, 1) := by decide +kernel
theorem d_CS_raiseVersion_23 : decode b_CS_raiseVersion 23 = .ok (.istore 4, 2) := by decide +kernel
theorem d_CS_raiseVersion_25 : decode b_CS_raiseVersion 25 = .ok (.iload 4, 2) := by decide +kernel
theorem d_CS_raiseVersion_27 : decode b_CS_raiseVersion 27 = .ok (.iconst 5, 1) := by decide +kernel
theorem d_CS_raiseVersion_28 : decode b_CS_raiseVersion 28 = .ok (.if_icmp .ge 34, 3) := by decide +kernel
theorem d_CS_raiseVersion_31 : decode b_CS_raiseVersion 31 = .ok (.iload_n 2, 1) := by decide +kernel
theorem d_CS_raiseVersion_32 : decode b_CS_raiseVersion 32 = .ok (.iload 4, 2) := by decide +kernel
theorem d_CS_raiseVersion_34 : decode b_CS_raiseVersion 34 = .ok (.invokestatic 118, 3) := by decide +kernel
theorem d_CS_raiseVersion_37 : decode b_CS_raiseVersion 37 = .ok (.ifCond .eq 19, 3) := by decide +kernel
theorem d_CS_raiseVersion_40 : decode b_CS_raiseVersion 40 = .ok (.aload_n 0, 1) := by decide +kernel
theorem d_CS_raiseVersion_41 : decode b_CS_raiseVersion 41 = .ok (.getfield 25, 3) := by decide +kernel
theorem d_CS_raiseVersion_44 : decode b_CS_raiseVersion 44 = .ok (.iload 4, 2) := by decide +kernel
theorem d_CS_raiseVersion_46 : decode b_CS_raiseVersion 46 = .ok (.aaload, 1) := by decide +kernel
theorem d_CS_raiseVersion_47 : decode b_CS_raiseVersion 47 = .ok (.getfield 131, 3) := by decide +kernel
theorem d_CS_raiseVersion_50 : decode b_CS_raiseVersion 50 = .ok (.iload_n 1, 1) := by decide +kernel
theorem d_CS_raiseVersion_51 : decode b_CS_raiseVersion 51 = .ok (.aload_n 3, 1) := by decide +kernel
theorem d_CS_raiseVersion_52 : decode b_CS_raiseVersion 52 = .ok (.getfield 110, 3) := by decide +kernel
theorem d_CS_raiseVersion_55 : decode b_CS_raiseVersion 55 = .ok (.iastore, 1) := by decide +kernel
theorem d_CS_raiseVersion_56 : decode b_CS_raiseVersion 56 = .ok (.iinc 4 1, 3) := by decide +kernel
theorem d_CS_raiseVersion_59 : decode b_CS_raiseVersion 59 = .ok (.goto (-34), 3) := by decide +kernel
theorem d_CS_raiseVersion_62 : decode b_CS_raiseVersion 62 = .ok (.return_, 1) := by decide +kernel
theorem d_CS_setWordAtHolders_0 : decode b_CS_setWordAtHolders 0 = .ok (.iconst 0, 1) := by decide +kernel
theorem d_CS_setWordAtHolders_1 : decode b_CS_setWordAtHolders 1 = .ok (.istore 4, 2) := by decide +kernel
theorem d_CS_setWordAtHolders_3 : decode b_CS_setWordAtHolders 3 = .ok (.iload 4, 2) := by decide +kernel
theorem d_CS_setWordAtHolders_5 : decode b_CS_setWordAtHolders 5 = .ok (.iconst 5, 1) := by decide +kernel
theorem d_CS_setWordAtHolders_6 : decode b_CS_setWordAtHolders 6 = .ok (.if_icmp .ge 39, 3) := by decide +kernel
theorem d_CS_setWordAtHolders_9 : decode b_CS_setWordAtHolders 9 = .ok (.aload_n 0, 1) := by decide +kernel
theorem d_CS_setWordAtHolders_10 : decode b_CS_setWordAtHolders 10 = .ok (.getfield 18, 3) := by decide +kernel
theorem d_CS_setWordAtHolders_13 : decode b_CS_setWordAtHolders 13 = .ok (.iload_n 1, 1) := by decide +kernel
theorem d_CS_setWordAtHolders_14 : decode b_CS_setWordAtHolders 14 = .ok (.aaload, 1) := by decide +kernel
theorem d_CS_setWordAtHolders_15 : decode b_CS_setWordAtHolders 15 = .ok (.getfield 179, 3) := by decide +kernel
theorem d_CS_setWordAtHolders_18 : decode b_CS_setWordAtHolders 18 = .ok (.iload 4, 2) := by decide +kernel
theorem d_CS_setWordAtHolders_20 : decode b_CS_setWordAtHolders 20 = .ok (.invokestatic 118, 3) := by decide +kernel
theorem d_CS_setWordAtHolders_23 : decode b_CS_setWordAtHolders 23 = .ok (.ifCond .eq 16, 3) := by decide +kernel
theorem d_CS_setWordAtHolders_26 : decode b_CS_setWordAtHolders 26 = .ok (.aload_n 0, 1) := by decide +kernel
theorem d_CS_setWordAtHolders_27 : decode b_CS_setWordAtHolders 27 = .ok (.getfield 25, 3) := by decide +kernel
theorem d_CS_setWordAtHolders_30 : decode b_CS_setWordAtHolders 30 = .ok (.iload 4, 2) := by decide +kernel
theorem d_CS_setWordAtHolders_32 : decode b_CS_setWordAtHolders 32 = .ok (.aaload, 1) := by decide +kernel
theorem d_CS_setWordAtHolders_33 : decode b_CS_setWordAtHolders 33 = .ok (.iload_n 1, 1) := by decide +kernel
theorem d_CS_setWordAtHolders_34 : decode b_CS_setWordAtHolders 34 = .ok (.iload_n 2, 1) := by decide +kernel
theorem d_CS_setWordAtHolders_35 : decode b_CS_setWordAtHolders 35 = .ok (.iload_n 3, 1) := by decide +kernel
theorem d_CS_setWordAtHolders_36 : decode b_CS_setWordAtHolders 36 = .ok (.invokevirtual 265, 3) := by decide +kernel
theorem d_CS_setWordAtHolders_39 : decode b_CS_setWordAtHolders 39 = .ok (.iinc 4 1, 3) := by decide +kernel
theorem d_CS_setWordAtHolders_42 : decode b_CS_setWordAtHolders 42 = .ok (.goto (-39), 3) := by decide +kernel
theorem d_CS_setWordAtHolders_45 : decode b_CS_setWordAtHolders 45 = .ok (.return_, 1) := by decide +kernel
theorem d_SV_setWord_0 : decode b_SV_setWord 0 = .ok (.iload_n 2, 1) := by decide +kernel
theorem d_SV_setWord_1 : decode b_SV_setWord 1 = .ok (.iconst 4, 1) := by decide +kernel
theorem d_SV_setWord_2 : decode b_SV_setWord 2 = .ok (.if_icmp .ge 32, 3) := by decide +kernel
theorem d_SV_setWord_5 : decode b_SV_setWord 5 = .ok (.aload_n 0, 1) := by decide +kernel
theorem d_SV_setWord_6 : decode b_SV_setWord 6 = .ok (.getfield 18, 3) := by decide +kernel
theorem d_SV_setWord_9 : decode b_SV_setWord 9 = .ok (.iload_n 1, 1) := by decide +kernel
theorem d_SV_setWord_10 : decode b_SV_setWord 10 = .ok (.iconst 4, 1) := by decide +kernel
theorem d_SV_setWord_11 : decode b_SV_setWord 11 = .ok (.imul, 1) := by decide +kernel
theorem d_SV_setWord_12 : decode b_SV_setWord 12 = .ok (.iload_n 2, 1) := by decide +kernel
theorem d_SV_setWord_13 : decode b_SV_setWord 13 = .ok (.iadd, 1) := by decide +kernel
theorem d_SV_setWord_14 : decode b_SV_setWord 14 = .ok (.iload_n 3, 1) := by decide +kernel
theorem d_SV_setWord_15 : decode b_SV_setWord 15 = .ok (.iastore, 1) := by decide +kernel
theorem d_SV_setWord_16 : decode b_SV_setWord 16 = .ok (.aload_n 0, 1) := by decide +kernel
theorem d_SV_setWord_17 : decode b_SV_setWord 17 = .ok (.getfield 15, 3) := by decide +kernel
theorem d_SV_setWord_20 : decode b_SV_setWord 20 = .ok (.iload_n 1, 1) := by decide +kernel
theorem d_SV_setWord_21 : decode b_SV_setWord 21 = .ok (.aload_n 0, 1) := by decide +kernel
theorem d_SV_setWord_22 : decode b_SV_setWord 22 = .ok (.getfield 15, 3) := by decide +kernel
theorem d_SV_setWord_25 : decode b_SV_setWord 25 = .ok (.iload_n 1, 1) := by decide +kernel
theorem d_SV_setWord_26 : decode b_SV_setWord 26 = .ok (.iaload, 1) := by decide +kernel
theorem d_SV_setWord_27 : decode b_SV_setWord 27 = .ok (.iload_n 2, 1) := by decide +kernel
theorem d_SV_setWord_28 : decode b_SV_setWord 28 = .ok (.iconst 1, 1) := by decide +kernel
theorem d_SV_setWord_29 : decode b_SV_setWord 29 = .ok (.iadd, 1) := by decide +kernel
theorem d_SV_setWord_30 : decode b_SV_setWord 30 = .ok (.invokestatic 29, 3) := by decide +kernel
theorem d_SV_setWord_33 : decode b_SV_setWord 33 = .ok (.iastore, 1) := by decide +kernel
theorem d_SV_setWord_34 : decode b_SV_setWord 34 = .ok (.return_, 1) := by decide +kernel
theorem d_MA_max_0 : decode b_MA_max 0 = .ok (.iload_n 0, 1) := by decide +kernel
theorem d_MA_max_1 : decode b_MA_max 1 = .ok (.iload_n 1, 1) := by decide +kernel
theorem d_MA_max_2 : decode b_MA_max 2 = .ok (.if_icmp .lt 7, 3) := by decide +kernel
theorem d_MA_max_5 : decode b_MA_max 5 = .ok (.iload_n 0, 1) := by decide +kernel
theorem d_MA_max_6 : decode b_MA_max 6 = .ok (.goto 4, 3) := by decide +kernel
theorem d_MA_max_9 : decode b_MA_max 9 = .ok (.iload_n 1, 1) := by decide +kernel
theorem d_MA_max_10 : decode b_MA_max 10 = .ok (.ireturn, 1) := by decide +kernel
theorem d_CS_append_0 : decode b_CS_append 0 = .ok (.iload_n 1, 1) := by decide +kernel
theorem d_CS_append_1 : decode b_CS_append 1 = .ok (.bipush 8, 2) := by decide +kernel
theorem d_CS_append_3 : decode b_CS_append 3 = .ok (.invokestatic 37, 3) := by decide +kernel
theorem d_CS_append_6 : decode b_CS_append 6 = .ok (.aload_n 0, 1) := by decide +kernel
theorem d_CS_append_7 : decode b_CS_append 7 = .ok (.iload_n 1, 1) := by decide +kernel
theorem d_CS_append_8 : decode b_CS_append 8 = .ok (.invokevirtual 53, 3) := by decide +kernel
theorem d_CS_append_11 : decode b_CS_append 11 = .ok (.astore_n 3, 1) := by decide +kernel
theorem d_CS_append_12 : decode b_CS_append 12 = .ok (.aload_n 3, 1) := by decide +kernel
theorem d_CS_append_13 : decode b_CS_append 13 = .ok (.getfield 63, 3) := by decide +kernel
theorem d_CS_append_16 : decode b_CS_append 16 = .ok (.ifCond .eq 22, 3) := by decide +kernel
theorem d_CS_append_19 : decode b_CS_append 19 = .ok (.aload_n 0, 1) := by decide +kernel
theorem d_CS_append_20 : decode b_CS_append 20 = .ok (.aload_n 3, 1) := by decide +kernel
theorem d_CS_append_21 : decode b_CS_append 21 = .ok (.getfield 73, 3) := by decide +kernel
theorem d_CS_append_24 : decode b_CS_append 24 = .ok (.aload_n 3, 1) := by decide +kernel
theorem d_CS_append_25 : decode b_CS_append 25 = .ok (.getfield 63, 3) := by decide +kernel
theorem d_CS_append_28 : decode b_CS_append 28 = .ok (.iconst 1, 1) := by decide +kernel
theorem d_CS_append_29 : decode b_CS_append 29 = .ok (.isub, 1) := by decide +kernel
theorem d_CS_append_30 : decode b_CS_append 30 = .ok (.iaload, 1) := by decide +kernel
theorem d_CS_append_31 : decode b_CS_append 31 = .ok (.invokevirtual 111, 3) := by decide +kernel
theorem d_CS_append_34 : decode b_CS_append 34 = .ok (.iconst 4, 1) := by decide +kernel
theorem d_CS_append_35 : decode b_CS_append 35 = .ok (.if_icmp .lt 9, 3) := by decide +kernel
theorem d_CS_append_38 : decode b_CS_append 38 = .ok (.aload_n 0, 1) := by decide +kernel
theorem d_CS_append_39 : decode b_CS_append 39 = .ok (.aload_n 3, 1) := by decide +kernel
theorem d_CS_append_40 : decode b_CS_append 40 = .ok (.invokevirtual 87, 3) := by decide +kernel
theorem d_CS_append_43 : decode b_CS_append 43 = .ok (.pop, 1) := by decide +kernel
theorem d_CS_append_44 : decode b_CS_append 44 = .ok (.aload_n 3, 1) := by decide +kernel
theorem d_CS_append_45 : decode b_CS_append 45 = .ok (.getfield 63, 3) := by decide +kernel
theorem d_CS_append_48 : decode b_CS_append 48 = .ok (.iconst 1, 1) := by decide +kernel
theorem d_CS_append_49 : decode b_CS_append 49 = .ok (.isub, 1) := by decide +kernel
theorem d_CS_append_50 : decode b_CS_append 50 = .ok (.istore 4, 2) := by decide +kernel
theorem d_CS_append_52 : decode b_CS_append 52 = .ok (.aload_n 0, 1) := by decide +kernel
theorem d_CS_append_53 : decode b_CS_append 53 = .ok (.aload_n 3, 1) := by decide +kernel
theorem d_CS_append_54 : decode b_CS_append 54 = .ok (.iload 4, 2) := by decide +kernel
theorem d_CS_append_56 : decode b_CS_append 56 = .ok (.invokevirtual 102, 3) := by decide +kernel
theorem d_CS_append_59 : decode b_CS_append 59 = .ok (.istore 5, 2) := by decide +kernel
theorem d_CS_append_61 : decode b_CS_append 61 = .ok (.aload_n 0, 1) := by decide +kernel
theorem d_CS_append_62 : decode b_CS_append 62 = .ok (.iload 5, 2) := by decide +kernel
theorem d_CS_append_64 : decode b_CS_append 64 = .ok (.invokevirtual 111, 3) := by decide +kernel
theorem d_CS_append_67 : decode b_CS_append 67 = .ok (.istore 6, 2) := by decide +kernel
theorem d_CS_append_69 : decode b_CS_append 69 = .ok (.aload_n 0, 1) := by decide +kernel
theorem d_CS_append_70 : decode b_CS_append 70 = .ok (.iload 5, 2) := by decide +kernel
theorem d_CS_append_72 : decode b_CS_append 72 = .ok (.iload 6, 2) := by decide +kernel
theorem d_CS_append_74 : decode b_CS_append 74 = .ok (.iload_n 2, 1) := by decide +kernel
theorem d_CS_append_75 : decode b_CS_append 75 = .ok (.invokevirtual 106, 3) := by decide +kernel
theorem d_CS_append_78 : decode b_CS_append 78 = .ok (.iconst 4, 1) := by decide +kernel
theorem d_CS_append_79 : decode b_CS_append 79 = .ok (.iload 4, 2) := by decide +kernel
theorem d_CS_append_81 : decode b_CS_append 81 = .ok (.imul, 1) := by decide +kernel
theorem d_CS_append_82 : decode b_CS_append 82 = .ok (.iload 6, 2) := by decide +kernel
theorem d_CS_append_84 : decode b_CS_append 84 = .ok (.iadd, 1) := by decide +kernel
theorem d_CS_append_85 : decode b_CS_append 85 = .ok (.ireturn, 1) := by decide +kernel
theorem d_CS_usedAtFirst_0 : decode b_CS_usedAtFirst 0 = .ok (.aload_n 0, 1) := by decide +kernel
theorem d_CS_usedAtFirst_1 : decode b_CS_usedAtFirst 1 = .ok (.getfield 18, 3) := by decide +kernel
theorem d_CS_usedAtFirst_4 : decode b_CS_usedAtFirst 4 = .ok (.iload_n 1, 1) := by decide +kernel
theorem d_CS_usedAtFirst_5 : decode b_CS_usedAtFirst 5 = .ok (.aaload, 1) := by decide +kernel
theorem d_CS_usedAtFirst_6 : decode b_CS_usedAtFirst 6 = .ok (.getfield 179, 3) := by decide +kernel
theorem d_CS_usedAtFirst_9 : decode b_CS_usedAtFirst 9 = .ok (.invokestatic 170, 3) := by decide +kernel
theorem d_CS_usedAtFirst_12 : decode b_CS_usedAtFirst 12 = .ok (.istore_n 2, 1) := by decide +kernel
theorem d_CS_usedAtFirst_13 : decode b_CS_usedAtFirst 13 = .ok (.iload_n 2, 1) := by decide +kernel
theorem d_CS_usedAtFirst_14 : decode b_CS_usedAtFirst 14 = .ok (.iconst (-1), 1) := by decide +kernel
theorem d_CS_usedAtFirst_15 : decode b_CS_usedAtFirst 15 = .ok (.if_icmp .ne 7, 3) := by decide +kernel
theorem d_CS_usedAtFirst_18 : decode b_CS_usedAtFirst 18 = .ok (.iconst 0, 1) := by decide +kernel
theorem d_CS_usedAtFirst_19 : decode b_CS_usedAtFirst 19 = .ok (.goto 14, 3) := by decide +kernel
theorem d_CS_usedAtFirst_22 : decode b_CS_usedAtFirst 22 = .ok (.aload_n 0, 1) := by decide +kernel
theorem d_CS_usedAtFirst_23 : decode b_CS_usedAtFirst 23 = .ok (.getfield 25, 3) := by decide +kernel
theorem d_CS_usedAtFirst_26 : decode b_CS_usedAtFirst 26 = .ok (.iload_n 2, 1) := by decide +kernel
theorem d_CS_usedAtFirst_27 : decode b_CS_usedAtFirst 27 = .ok (.aaload, 1) := by decide +kernel
theorem d_CS_usedAtFirst_28 : decode b_CS_usedAtFirst 28 = .ok (.getfield 200, 3) := by decide +kernel
theorem d_CS_usedAtFirst_31 : decode b_CS_usedAtFirst 31 = .ok (.iload_n 1, 1) := by decide +kernel
theorem d_CS_usedAtFirst_32 : decode b_CS_usedAtFirst 32 = .ok (.iaload, 1) := by decide +kernel
theorem d_CS_usedAtFirst_33 : decode b_CS_usedAtFirst 33 = .ok (.ireturn, 1) := by decide +kernel
theorem d_CS_first_0 : decode b_CS_first 0 = .ok (.iconst 0, 1) := by decide +kernel
theorem d_CS_first_1 : decode b_CS_first 1 = .ok (.istore_n 1, 1) := by decide +kernel
theorem d_CS_first_2 : decode b_CS_first 2 = .ok (.iload_n 1, 1) := by decide +kernel
theorem d_CS_first_3 : decode b_CS_first 3 = .ok (.iconst 5, 1) := by decide +kernel
theorem d_CS_first_4 : decode b_CS_first 4 = .ok (.if_icmp .ge 19, 3) := by decide +kernel
theorem d_CS_first_7 : decode b_CS_first 7 = .ok (.iload_n 0, 1) := by decide +kernel
theorem d_CS_first_8 : decode b_CS_first 8 = .ok (.iload_n 1, 1) := by decide +kernel
theorem d_CS_first_9 : decode b_CS_first 9 = .ok (.invokestatic 118, 3) := by decide +kernel
theorem d_CS_first_12 : decode b_CS_first 12 = .ok (.ifCond .eq 5, 3) := by decide +kernel
theorem d_CS_first_15 : decode b_CS_first 15 = .ok (.iload_n 1, 1) := by decide +kernel
theorem d_CS_first_16 : decode b_CS_first 16 = .ok (.ireturn, 1) := by decide +kernel
theorem d_CS_first_17 : decode b_CS_first 17 = .ok (.iinc 1 1, 3) := by decide +kernel
theorem d_CS_first_20 : decode b_CS_first 20 = .ok (.goto (-18), 3) := by decide +kernel
theorem d_CS_first_23 : decode b_CS_first 23 = .ok (.iconst (-1), 1) := by decide +kernel
theorem d_CS_first_24 : decode b_CS_first 24 = .ok (.ireturn, 1) := by decide +kernel
theorem d_CS_read_0 : decode b_CS_read 0 = .ok (.iload_n 1, 1) := by decide +kernel
theorem d_CS_read_1 : decode b_CS_read 1 = .ok (.iconst 3, 1) := by decide +kernel
theorem d_CS_read_2 : decode b_CS_read 2 = .ok (.invokestatic 37, 3) := by decide +kernel
theorem d_CS_read_5 : decode b_CS_read 5 = .ok (.iload_n 2, 1) := by decide +kernel
theorem d_CS_read_6 : decode b_CS_read 6 = .ok (.bipush 8, 2) := by decide +kernel
theorem d_CS_read_8 : decode b_CS_read 8 = .ok (.invokestatic 37, 3) := by decide +kernel
theorem d_CS_read_11 : decode b_CS_read 11 = .ok (.iload_n 3, 1) := by decide +kernel
theorem d_CS_read_12 : decode b_CS_read 12 = .ok (.iconst 3, 1) := by decide +kernel
theorem d_CS_read_13 : decode b_CS_read 13 = .ok (.invokestatic 37, 3) := by decide +kernel
theorem d_CS_read_16 : decode b_CS_read 16 = .ok (.iload 4, 2) := by decide +kernel
theorem d_CS_read_18 : decode b_CS_read 18 = .ok (.iconst 4, 1) := by decide +kernel
theorem d_CS_read_19 : decode b_CS_read 19 = .ok (.invokestatic 37, 3) := by decide +kernel
theorem d_CS_read_22 : decode b_CS_read 22 = .ok (.iload 5, 2) := by decide +kernel
theorem d_CS_read_24 : decode b_CS_read 24 = .ok (.iconst 5, 1) := by decide +kernel
theorem d_CS_read_25 : decode b_CS_read 25 = .ok (.invokestatic 37, 3) := by decide +kernel
theorem d_CS_read_28 : decode b_CS_read 28 = .ok (.aload_n 0, 1) := by decide +kernel
theorem d_CS_read_29 : decode b_CS_read 29 = .ok (.iload_n 1, 1) := by decide +kernel
theorem d_CS_read_30 : decode b_CS_read 30 = .ok (.iload_n 2, 1) := by decide +kernel
theorem d_CS_read_31 : decode b_CS_read 31 = .ok (.iload_n 3, 1) := by decide +kernel
theorem d_CS_read_32 : decode b_CS_read 32 = .ok (.invokevirtual 91, 3) := by decide +kernel
theorem d_CS_read_35 : decode b_CS_read 35 = .ok (.astore 6, 2) := by decide +kernel
theorem d_CS_read_37 : decode b_CS_read 37 = .ok (.aload 6, 2) := by decide +kernel
theorem d_CS_read_39 : decode b_CS_read 39 = .ok (.getfield 115, 3) := by decide +kernel
theorem d_CS_read_42 : decode b_CS_read 42 = .ok (.iload 5, 2) := by decide +kernel
theorem d_CS_read_44 : decode b_CS_read 44 = .ok (.invokestatic 118, 3) := by decide +kernel
theorem d_CS_read_47 : decode b_CS_read 47 = .ok (.ifCond .ne 13, 3) := by decide +kernel
theorem d_CS_read_50 : decode b_CS_read 50 = .ok (.new 122, 3) := by decide +kernel
theorem d_CS_read_53 : decode b_CS_read 53 = .ok (.dup, 1) := by decide +kernel
theorem d_CS_read_54 : decode b_CS_read 54 = .ok (.ldc 124, 2) := by decide +kernel
theorem d_CS_read_56 : decode b_CS_read 56 = .ok (.invokespecial 126, 3) := by decide +kernel
theorem d_CS_read_59 : decode b_CS_read 59 = .ok (.athrow, 1) := by decide +kernel
theorem d_CS_read_60 : decode b_CS_read 60 = .ok (.aload_n 0, 1) := by decide +kernel
theorem d_CS_read_61 : decode b_CS_read 61 = .ok (.getfield 25, 3) := by decide +kernel
theorem d_CS_read_64 : decode b_CS_read 64 = .ok (.iload 5, 2) := by decide +kernel
theorem d_CS_read_66 : decode b_CS_read 66 = .ok (.aaload, 1) := by decide +kernel
theorem d_CS_read_67 : decode b_CS_read 67 = .ok (.astore 7, 2) := by decide +kernel
theorem d_CS_read_69 : decode b_CS_read 69 = .ok (.aload 7, 2) := by decide +kernel
theorem d_CS_read_71 : decode b_CS_read 71 = .ok (.getfield 127, 3) := by decide +kernel
theorem d_CS_read_74 : decode b_CS_read 74 = .ok (.ifCond .eq 22, 3) := by decide +kernel
theorem d_CS_read_77 : decode b_CS_read 77 = .ok (.aload 7, 2) := by decide +kernel
theorem d_CS_read_79 : decode b_CS_read 79 = .ok (.getfield 131, 3) := by decide +kernel
theorem d_CS_read_82 : decode b_CS_read 82 = .ok (.aload 6, 2) := by decide +kernel
theorem d_CS_read_84 : decode b_CS_read 84 = .ok (.getfield 134, 3) := by decide +kernel
theorem d_CS_read_87 : decode b_CS_read 87 = .ok (.iaload, 1) := by decide +kernel
theorem d_CS_read_88 : decode b_CS_read 88 = .ok (.aload 6, 2) := by decide +kernel
theorem d_CS_read_90 : decode b_CS_read 90 = .ok (.getfield 95, 3) := by decide +kernel
theorem d_CS_read_93 : decode b_CS_read 93 = .ok (.if_icmp .ge 13, 3) := by decide +kernel
theorem d_CS_read_96 : decode b_CS_read 96 = .ok (.new 137, 3) := by decide +kernel
theorem d_CS_read_99 : decode b_CS_read 99 = .ok (.dup, 1) := by decide +kernel
theorem d_CS_read_100 : decode b_CS_read 100 = .ok (.ldc 139, 2) := by decide +kernel
theorem d_CS_read_102 : decode b_CS_read 102 = .ok (.invokespecial 141, 3) := by decide +kernel
theorem d_CS_read_105 : decode b_CS_read 105 = .ok (.athrow, 1) := by decide +kernel
theorem d_CS_read_106 : decode b_CS_read 106 = .ok (.aload 7, 2) := by decide +kernel
theorem d_CS_read_108 : decode b_CS_read 108 = .ok (.aload 6, 2) := by decide +kernel
theorem d_CS_read_110 : decode b_CS_read 110 = .ok (.getfield 134, 3) := by decide +kernel
theorem d_CS_read_113 : decode b_CS_read 113 = .ok (.iload 4, 2) := by decide +kernel
theorem d_CS_read_115 : decode b_CS_read 115 = .ok (.invokevirtual 142, 3) := by decide +kernel
theorem d_CS_read_118 : decode b_CS_read 118 = .ok (.ireturn, 1) := by decide +kernel
theorem d_SV_word_0 : decode b_SV_word 0 = .ok (.aload_n 0, 1) := by decide +kernel
theorem d_SV_word_1 : decode b_SV_word 1 = .ok (.getfield 18, 3) := by decide +kernel
theorem d_SV_word_4 : decode b_SV_word 4 = .ok (.iload_n 1, 1) := by decide +kernel
theorem d_SV_word_5 : decode b_SV_word 5 = .ok (.iconst 4, 1) := by decide +kernel
theorem d_SV_word_6 : decode b_SV_word 6 = .ok (.imul, 1) := by decide +kernel
theorem d_SV_word_7 : decode b_SV_word 7 = .ok (.iload_n 2, 1) := by decide +kernel
theorem d_SV_word_8 : decode b_SV_word 8 = .ok (.iadd, 1) := by decide +kernel
theorem d_SV_word_9 : decode b_SV_word 9 = .ok (.iaload, 1) := by decide +kernel
theorem d_SV_word_10 : decode b_SV_word 10 = .ok (.ireturn, 1) := by decide +kernel
theorem d_CS_up_0 : decode b_CS_up 0 = .ok (.iload_n 1, 1) := by decide +kernel
theorem d_CS_up_1 : decode b_CS_up 1 = .ok (.iconst 5, 1) := by decide +kernel
theorem d_CS_up_2 : decode b_CS_up 2 = .ok (.invokestatic 37, 3) := by decide +kernel
theorem d_CS_up_5 : decode b_CS_up 5 = .ok (.aload_n 0, 1) := by decide +kernel
theorem d_CS_up_6 : decode b_CS_up 6 = .ok (.getfield 25, 3) := by decide +kernel
theorem d_CS_up_9 : decode b_CS_up 9 = .ok (.iload_n 1, 1) := by decide +kernel
theorem d_CS_up_10 : decode b_CS_up 10 = .ok (.aaload, 1) := by decide +kernel
theorem d_CS_up_11 : decode b_CS_up 11 = .ok (.iload_n 2, 1) := by decide +kernel
theorem d_CS_up_12 : decode b_CS_up 12 = .ok (.putfield 127, 3) := by decide +kernel
theorem d_CS_up_15 : decode b_CS_up 15 = .ok (.aload_n 0, 1) := by decide +kernel
theorem d_CS_up_16 : decode b_CS_up 16 = .ok (.getfield 25, 3) := by decide +kernel
theorem d_CS_up_19 : decode b_CS_up 19 = .ok (.iload_n 1, 1) := by decide +kernel
theorem d_CS_up_20 : decode b_CS_up 20 = .ok (.aaload, 1) := by decide +kernel
theorem d_CS_up_21 : decode b_CS_up 21 = .ok (.getfield 146, 3) := by decide +kernel
theorem d_CS_up_24 : decode b_CS_up 24 = .ok (.ireturn, 1) := by decide +kernel
theorem d_CS_report_0 : decode b_CS_report 0 = .ok (.iload_n 1, 1) := by decide +kernel
theorem d_CS_report_1 : decode b_CS_report 1 = .ok (.iconst 5, 1) := by decide +kernel
theorem d_CS_report_2 : decode b_CS_report 2 = .ok (.invokestatic 37, 3) := by decide +kernel
theorem d_CS_report_5 : decode b_CS_report 5 = .ok (.aload_n 0, 1) := by decide +kernel
theorem d_CS_report_6 : decode b_CS_report 6 = .ok (.getfield 25, 3) := by decide +kernel
theorem d_CS_report_9 : decode b_CS_report 9 = .ok (.iload_n 1, 1) := by decide +kernel
theorem d_CS_report_10 : decode b_CS_report 10 = .ok (.aaload, 1) := by decide +kernel
theorem d_CS_report_11 : decode b_CS_report 11 = .ok (.getfield 127, 3) := by decide +kernel
theorem d_CS_report_14 : decode b_CS_report 14 = .ok (.ifCond .ne 13, 3) := by decide +kernel
theorem d_CS_report_17 : decode b_CS_report 17 = .ok (.new 137, 3) := by decide +kernel
theorem d_CS_report_20 : decode b_CS_report 20 = .ok (.dup, 1) := by decide +kernel
theorem d_CS_report_21 : decode b_CS_report 21 = .ok (.ldc 149, 2) := by decide +kernel
theorem d_CS_report_23 : decode b_CS_report 23 = .ok (.invokespecial 141, 3) := by decide +kernel
theorem d_CS_report_26 : decode b_CS_report 26 = .ok (.athrow, 1) := by decide +kernel
theorem d_CS_report_27 : decode b_CS_report 27 = .ok (.iconst 0, 1) := by decide +kernel
theorem d_CS_report_28 : decode b_CS_report 28 = .ok (.istore_n 2, 1) := by decide +kernel
theorem d_CS_report_29 : decode b_CS_report 29 = .ok (.iconst 0, 1) := by decide +kernel
theorem d_CS_report_30 : decode b_CS_report 30 = .ok (.istore_n 3, 1) := by decide +kernel
theorem d_CS_report_31 : decode b_CS_report 31 = .ok (.iload_n 3, 1) := by decide +kernel
theorem d_CS_report_32 : decode b_CS_report 32 = .ok (.aload_n 0, 1) := by decide +kernel
theorem d_CS_report_33 : decode b_CS_report 33 = .ok (.getfield 151, 3) := by decide +kernel
theorem d_CS_report_36 : decode b_CS_report 36 = .ok (.if_icmp .ge 34, 3) := by decide +kernel
theorem d_CS_report_39 : decode b_CS_report 39 = .ok (.aload_n 0, 1) := by decide +kernel
theorem d_CS_report_40 : decode b_CS_report 40 = .ok (.getfield 25, 3) := by decide +kernel
theorem d_CS_report_43 : decode b_CS_report 43 = .ok (.iload_n 1, 1) := by decide +kernel
theorem d_CS_report_44 : decode b_CS_report 44 = .ok (.aaload, 1) := by decide +kernel
theorem d_CS_report_45 : decode b_CS_report 45 = .ok (.iload_n 3, 1) := by decide +kernel
theorem d_CS_report_46 : decode b_CS_report 46 = .ok (.invokevirtual 154, 3) := by decide +kernel
theorem d_CS_report_49 : decode b_CS_report 49 = .ok (.ifCond .eq 15, 3) := by decide +kernel
theorem d_CS_report_52 : decode b_CS_report 52 = .ok (.aload_n 0, 1) := by decide +kernel
theorem d_CS_report_53 : decode b_CS_report 53 = .ok (.iload_n 1, 1) := by decide +kernel
theorem d_CS_report_54 : decode b_CS_report 54 = .ok (.iload_n 3, 1) := by decide +kernel
theorem d_CS_report_55 : decode b_CS_report 55 = .ok (.invokevirtual 158, 3) := by decide +kernel
theorem d_CS_report_58 : decode b_CS_report 58 = .ok (.ifCond .ne 6, 3) := by decide +kernel
theorem d_CS_report_61 : decode b_CS_report 61 = .ok (.iinc 2 1, 3) := by decide +kernel
theorem d_CS_report_64 : decode b_CS_report 64 = .ok (.iinc 3 1, 3) := by decide +kernel
theorem d_CS_report_67 : decode b_CS_report 67 = .ok (.goto (-36), 3) := by decide +kernel
theorem d_CS_report_70 : decode b_CS_report 70 = .ok (.iload_n 2, 1) := by decide +kernel
theorem d_CS_report_71 : decode b_CS_report 71 = .ok (.ireturn, 1) := by decide +kernel
theorem d_CS_confirmReplica_0 : decode b_CS_confirmReplica 0 = .ok (.aload_n 0, 1) := by decide +kernel
theorem d_CS_confirmReplica_1 : decode b_CS_confirmReplica 1 = .ok (.getfield 18, 3) := by decide +kernel
theorem d_CS_confirmReplica_4 : decode b_CS_confirmReplica 4 = .ok (.iload_n 2, 1) := by decide +kernel
theorem d_CS_confirmReplica_5 : decode b_CS_confirmReplica 5 = .ok (.aaload, 1) := by decide +kernel
theorem d_CS_confirmReplica_6 : decode b_CS_confirmReplica 6 = .ok (.astore_n 3, 1) := by decide +kernel
theorem d_CS_confirmReplica_7 : decode b_CS_confirmReplica 7 = .ok (.aload_n 3, 1) := by decide +kernel
theorem d_CS_confirmReplica_8 : decode b_CS_confirmReplica 8 = .ok (.getfield 80, 3) := by decide +kernel
theorem d_CS_confirmReplica_11 : decode b_CS_confirmReplica 11 = .ok (.ifCond .eq 21, 3) := by decide +kernel
theorem d_CS_confirmReplica_14 : decode b_CS_confirmReplica 14 = .ok (.aload_n 3, 1) := by decide +kernel
theorem d_CS_confirmReplica_15 : decode b_CS_confirmReplica 15 = .ok (.getfield 110, 3) := by decide +kernel
theorem d_CS_confirmReplica_18 : decode b_CS_confirmReplica 18 = .ok (.aload_n 0, 1) := by decide +kernel
theorem d_CS_confirmReplica_19 : decode b_CS_confirmReplica 19 = .ok (.getfield 25, 3) := by decide +kernel
theorem d_CS_confirmReplica_22 : decode b_CS_confirmReplica 22 = .ok (.iload_n 1, 1) := by decide +kernel
theorem d_CS_confirmReplica_23 : decode b_CS_confirmReplica 23 = .ok (.aaload, 1) := by decide +kernel
theorem d_CS_confirmReplica_24 : decode b_CS_confirmReplica 24 = .ok (.getfield 131, 3) := by decide +kernel
theorem d_CS_confirmReplica_27 : decode b_CS_confirmReplica 27 = .ok (.iload_n 2, 1) := by decide +kernel
theorem d_CS_confirmReplica_28 : decode b_CS_confirmReplica 28 = .ok (.iaload, 1) := by decide +kernel
theorem d_CS_confirmReplica_29 : decode b_CS_confirmReplica 29 = .ok (.if_icmp .le 29, 3) := by decide +kernel
theorem d_CS_confirmReplica_32 : decode b_CS_confirmReplica 32 = .ok (.aload_n 0, 1) := by decide +kernel
theorem d_CS_confirmReplica_33 : decode b_CS_confirmReplica 33 = .ok (.getfield 25, 3) := by decide +kernel
theorem d_CS_confirmReplica_36 : decode b_CS_confirmReplica 36 = .ok (.iload_n 1, 1) := by decide +kernel
theorem d_CS_confirmReplica_37 : decode b_CS_confirmReplica 37 = .ok (.aaload, 1) := by decide +kernel
theorem d_CS_confirmReplica_38 : decode b_CS_confirmReplica 38 = .ok (.iload_n 2, 1) := by decide +kernel
theorem d_CS_confirmReplica_39 : decode b_CS_confirmReplica 39 = .ok (.invokevirtual 268, 3) := by decide +kernel
theorem d_CS_confirmReplica_42 : decode b_CS_confirmReplica 42 = .ok (.aload_n 3, 1) := by decide +kernel
theorem d_CS_confirmReplica_43 : decode b_CS_confirmReplica 43 = .ok (.dup, 1) := by decide +kernel
theorem d_CS_confirmReplica_44 : decode b_CS_confirmReplica 44 = .ok (.getfield 179, 3) := by decide +kernel
theorem d_CS_confirmReplica_47 : decode b_CS_confirmReplica 47 = .ok (.iconst 1, 1) := by decide +kernel
theorem d_CS_confirmReplica_48 : decode b_CS_confirmReplica 48 = .ok (.iload_n 1, 1) := by decide +kernel
theorem d_CS_confirmReplica_49 : decode b_CS_confirmReplica 49 = .ok (.ishl, 1) := by decide +kernel
theorem d_CS_confirmReplica_50 : decode b_CS_confirmReplica 50 = .ok (.iconst (-1), 1) := by decide +kernel
theorem d_CS_confirmReplica_51 : decode b_CS_confirmReplica 51 = .ok (.ixor, 1) := by decide +kernel
theorem d_CS_confirmReplica_52 : decode b_CS_confirmReplica 52 = .ok (.iand, 1) := by decide +kernel
theorem d_CS_confirmReplica_53 : decode b_CS_confirmReplica 53 = .ok (.putfield 179, 3) := by decide +kernel
theorem d_CS_confirmReplica_56 : decode b_CS_confirmReplica 56 = .ok (.iconst 0, 1) := by decide +kernel
theorem d_CS_confirmReplica_57 : decode b_CS_confirmReplica 57 = .ok (.ireturn, 1) := by decide +kernel
theorem d_CS_confirmReplica_58 : decode b_CS_confirmReplica 58 = .ok (.aload_n 3, 1) := by decide +kernel
theorem d_CS_confirmReplica_59 : decode b_CS_confirmReplica 59 = .ok (.dup, 1) := by decide +kernel
theorem d_CS_confirmReplica_60 : decode b_CS_confirmReplica 60 = .ok (.getfield 179, 3) := by decide +kernel
theorem d_CS_confirmReplica_63 : decode b_CS_confirmReplica 63 = .ok (.iconst 1, 1) := by decide +kernel
theorem d_CS_confirmReplica_64 : decode b_CS_confirmReplica 64 = .ok (.iload_n 1, 1) := by decide +kernel
theorem d_CS_confirmReplica_65 : decode b_CS_confirmReplica 65 = .ok (.ishl, 1) := by decide +kernel
theorem d_CS_confirmReplica_66 : decode b_CS_confirmReplica 66 = .ok (.ior, 1) := by decide +kernel
theorem d_CS_confirmReplica_67 : decode b_CS_confirmReplica 67 = .ok (.putfield 179, 3) := by decide +kernel
theorem d_CS_confirmReplica_70 : decode b_CS_confirmReplica 70 = .ok (.iconst 1, 1) := by decide +kernel
theorem d_CS_confirmReplica_71 : decode b_CS_confirmReplica 71 = .ok (.ireturn, 1) := by decide +kernel
theorem d_SV_drop_0 : decode b_SV_drop 0 = .ok (.aload_n 0, 1) := by decide +kernel
theorem d_SV_drop_1 : decode b_SV_drop 1 = .ok (.getfield 9, 3) := by decide +kernel
theorem d_SV_drop_4 : decode b_SV_drop 4 = .ok (.iload_n 1, 1) := by decide +kernel
theorem d_SV_drop_5 : decode b_SV_drop 5 = .ok (.iconst 0, 1) := by decide +kernel
theorem d_SV_drop_6 : decode b_SV_drop 6 = .ok (.iastore, 1) := by decide +kernel
theorem d_SV_drop_7 : decode b_SV_drop 7 = .ok (.aload_n 0, 1) := by decide +kernel
theorem d_SV_drop_8 : decode b_SV_drop 8 = .ok (.dup, 1) := by decide +kernel
theorem d_SV_drop_9 : decode b_SV_drop 9 = .ok (.getfield 25, 3) := by decide +kernel
theorem d_SV_drop_12 : decode b_SV_drop 12 = .ok (.iconst 1, 1) := by decide +kernel
theorem d_SV_drop_13 : decode b_SV_drop 13 = .ok (.isub, 1) := by decide +kernel
theorem d_SV_drop_14 : decode b_SV_drop 14 = .ok (.putfield 25, 3) := by decide +kernel
theorem d_SV_drop_17 : decode b_SV_drop 17 = .ok (.return_, 1) := by decide +kernel
theorem d_CS_repair_0 : decode b_CS_repair 0 = .ok (.aload_n 0, 1) := by decide +kernel
theorem d_CS_repair_1 : decode b_CS_repair 1 = .ok (.invokevirtual 161, 3) := by decide +kernel
theorem d_CS_repair_4 : decode b_CS_repair 4 = .ok (.istore_n 1, 1) := by decide +kernel
theorem d_CS_repair_5 : decode b_CS_repair 5 = .ok (.iload_n 1, 1) := by decide +kernel
theorem d_CS_repair_6 : decode b_CS_repair 6 = .ok (.iconst (-1), 1) := by decide +kernel
theorem d_CS_repair_7 : decode b_CS_repair 7 = .ok (.if_icmp .ne 7, 3) := by decide +kernel
theorem d_CS_repair_10 : decode b_CS_repair 10 = .ok (.iconst (-1), 1) := by decide +kernel
theorem d_CS_repair_11 : decode b_CS_repair 11 = .ok (.goto 9, 3) := by decide +kernel
theorem d_CS_repair_14 : decode b_CS_repair 14 = .ok (.aload_n 0, 1) := by decide +kernel
theorem d_CS_repair_15 : decode b_CS_repair 15 = .ok (.iload_n 1, 1) := by decide +kernel
theorem d_CS_repair_16 : decode b_CS_repair 16 = .ok (.iconst 0, 1) := by decide +kernel
theorem d_CS_repair_17 : decode b_CS_repair 17 = .ok (.invokevirtual 164, 3) := by decide +kernel
theorem d_CS_repair_20 : decode b_CS_repair 20 = .ok (.istore_n 2, 1) := by decide +kernel
theorem d_CS_repair_21 : decode b_CS_repair 21 = .ok (.iload_n 1, 1) := by decide +kernel
theorem d_CS_repair_22 : decode b_CS_repair 22 = .ok (.iconst (-1), 1) := by decide +kernel
theorem d_CS_repair_23 : decode b_CS_repair 23 = .ok (.if_icmp .ne 7, 3) := by decide +kernel
theorem d_CS_repair_26 : decode b_CS_repair 26 = .ok (.iconst (-1), 1) := by decide +kernel
theorem d_CS_repair_27 : decode b_CS_repair 27 = .ok (.goto 11, 3) := by decide +kernel
theorem d_CS_repair_30 : decode b_CS_repair 30 = .ok (.aload_n 0, 1) := by decide +kernel
theorem d_CS_repair_31 : decode b_CS_repair 31 = .ok (.iload_n 1, 1) := by decide +kernel
theorem d_CS_repair_32 : decode b_CS_repair 32 = .ok (.invokevirtual 167, 3) := by decide +kernel
theorem d_CS_repair_35 : decode b_CS_repair 35 = .ok (.invokestatic 170, 3) := by decide +kernel
theorem d_CS_repair_38 : decode b_CS_repair 38 = .ok (.istore_n 3, 1) := by decide +kernel
theorem d_CS_repair_39 : decode b_CS_repair 39 = .ok (.iload_n 2, 1) := by decide +kernel
theorem d_CS_repair_40 : decode b_CS_repair 40 = .ok (.iconst (-1), 1) := by decide +kernel
theorem d_CS_repair_41 : decode b_CS_repair 41 = .ok (.if_icmp .eq 8, 3) := by decide +kernel
theorem d_CS_repair_44 : decode b_CS_repair 44 = .ok (.iload_n 3, 1) := by decide +kernel
theorem d_CS_repair_45 : decode b_CS_repair 45 = .ok (.iconst (-1), 1) := by decide +kernel
theorem d_CS_repair_46 : decode b_CS_repair 46 = .ok (.if_icmp .ne 13, 3) := by decide +kernel
theorem d_CS_repair_49 : decode b_CS_repair 49 = .ok (.new 66, 3) := by decide +kernel
theorem d_CS_repair_52 : decode b_CS_repair 52 = .ok (.dup, 1) := by decide +kernel
theorem d_CS_repair_53 : decode b_CS_repair 53 = .ok (.ldc 173, 2) := by decide +kernel
theorem d_CS_repair_55 : decode b_CS_repair 55 = .ok (.invokespecial 70, 3) := by decide +kernel
theorem d_CS_repair_58 : decode b_CS_repair 58 = .ok (.athrow, 1) := by decide +kernel
theorem d_CS_repair_59 : decode b_CS_repair 59 = .ok (.aload_n 0, 1) := by decide +kernel
theorem d_CS_repair_60 : decode b_CS_repair 60 = .ok (.getfield 25, 3) := by decide +kernel
theorem d_CS_repair_63 : decode b_CS_repair 63 = .ok (.iload_n 2, 1) := by decide +kernel
theorem d_CS_repair_64 : decode b_CS_repair 64 = .ok (.aaload, 1) := by decide +kernel
theorem d_CS_repair_65 : decode b_CS_repair 65 = .ok (.iload_n 1, 1) := by decide +kernel
theorem d_CS_repair_66 : decode b_CS_repair 66 = .ok (.aload_n 0, 1) := by decide +kernel
theorem d_CS_repair_67 : decode b_CS_repair 67 = .ok (.getfield 25, 3) := by decide +kernel
theorem d_CS_repair_70 : decode b_CS_repair 70 = .ok (.iload_n 3, 1) := by decide +kernel
theorem d_CS_repair_71 : decode b_CS_repair 71 = .ok (.aaload, 1) := by decide +kernel
theorem d_CS_repair_72 : decode b_CS_repair 72 = .ok (.iload_n 1, 1) := by decide +kernel
theorem d_CS_repair_73 : decode b_CS_repair 73 = .ok (.aload_n 0, 1) := by decide +kernel
theorem d_CS_repair_74 : decode b_CS_repair 74 = .ok (.getfield 25, 3) := by decide +kernel
theorem d_CS_repair_77 : decode b_CS_repair 77 = .ok (.iload_n 3, 1) := by decide +kernel
theorem d_CS_repair_78 : decode b_CS_repair 78 = .ok (.aaload, 1) := by decide +kernel
theorem d_CS_repair_79 : decode b_CS_repair 79 = .ok (.getfield 131, 3) := by decide +kernel
theorem d_CS_repair_82 : decode b_CS_repair 82 = .ok (.iload_n 1, 1) := by decide +kernel
theorem d_CS_repair_83 : decode b_CS_repair 83 = .ok (.iaload, 1) := by decide +kernel
theorem d_CS_repair_84 : decode b_CS_repair 84 = .ok (.invokevirtual 175, 3) := by decide +kernel
theorem d_CS_repair_87 : decode b_CS_repair 87 = .ok (.aload_n 0, 1) := by decide +kernel
theorem d_CS_repair_88 : decode b_CS_repair 88 = .ok (.getfield 18, 3) := by decide +kernel
theorem d_CS_repair_91 : decode b_CS_repair 91 = .ok (.iload_n 1, 1) := by decide +kernel
theorem d_CS_repair_92 : decode b_CS_repair 92 = .ok (.aaload, 1) := by decide +kernel
theorem d_CS_repair_93 : decode b_CS_repair 93 = .ok (.dup, 1) := by decide +kernel
theorem d_CS_repair_94 : decode b_CS_repair 94 = .ok (.getfield 179, 3) := by decide +kernel
theorem d_CS_repair_97 : decode b_CS_repair 97 = .ok (.iconst 1, 1) := by decide +kernel
theorem d_CS_repair_98 : decode b_CS_repair 98 = .ok (.iload_n 2, 1) := by decide +kernel
theorem d_CS_repair_99 : decode b_CS_repair 99 = .ok (.ishl, 1) := by decide +kernel
theorem d_CS_repair_100 : decode b_CS_repair 100 = .ok (.ior, 1) := by decide +kernel
theorem d_CS_repair_101 : decode b_CS_repair 101 = .ok (.putfield 179, 3) := by decide +kernel
theorem d_CS_repair_104 : decode b_CS_repair 104 = .ok (.bipush 10, 2) := by decide +kernel
theorem d_CS_repair_106 : decode b_CS_repair 106 = .ok (.iload_n 1, 1) := by decide +kernel
theorem d_CS_repair_107 : decode b_CS_repair 107 = .ok (.imul, 1) := by decide +kernel
theorem d_CS_repair_108 : decode b_CS_repair 108 = .ok (.iload_n 2, 1) := by decide +kernel
theorem d_CS_repair_109 : decode b_CS_repair 109 = .ok (.iadd, 1) := by decide +kernel
theorem d_CS_repair_110 : decode b_CS_repair 110 = .ok (.ireturn, 1) := by decide +kernel
theorem d_CS_mostInNeed_0 : decode b_CS_mostInNeed 0 = .ok (.iconst (-1), 1) := by decide +kernel
theorem d_CS_mostInNeed_1 : decode b_CS_mostInNeed 1 = .ok (.istore_n 1, 1) := by decide +kernel
theorem d_CS_mostInNeed_2 : decode b_CS_mostInNeed 2 = .ok (.iconst 3, 1) := by decide +kernel
theorem d_CS_mostInNeed_3 : decode b_CS_mostInNeed 3 = .ok (.istore_n 2, 1) := by decide +kernel
theorem d_CS_mostInNeed_4 : decode b_CS_mostInNeed 4 = .ok (.iconst 0, 1) := by decide +kernel
theorem d_CS_mostInNeed_5 : decode b_CS_mostInNeed 5 = .ok (.istore_n 3, 1) := by decide +kernel
theorem d_CS_mostInNeed_6 : decode b_CS_mostInNeed 6 = .ok (.iload_n 3, 1) := by decide +kernel
theorem d_CS_mostInNeed_7 : decode b_CS_mostInNeed 7 = .ok (.aload_n 0, 1) := by decide +kernel
theorem d_CS_mostInNeed_8 : decode b_CS_mostInNeed 8 = .ok (.getfield 151, 3) := by decide +kernel
theorem d_CS_mostInNeed_11 : decode b_CS_mostInNeed 11 = .ok (.if_icmp .ge 70, 3) := by decide +kernel
theorem d_CS_mostInNeed_14 : decode b_CS_mostInNeed 14 = .ok (.aload_n 0, 1) := by decide +kernel
theorem d_CS_mostInNeed_15 : decode b_CS_mostInNeed 15 = .ok (.iload_n 3, 1) := by decide +kernel
theorem d_CS_mostInNeed_16 : decode b_CS_mostInNeed 16 = .ok (.invokevirtual 167, 3) := by decide +kernel
theorem d_CS_mostInNeed_19 : decode b_CS_mostInNeed 19 = .ok (.invokestatic 205, 3) := by decide +kernel
theorem d_CS_mostInNeed_22 : decode b_CS_mostInNeed 22 = .ok (.istore 4, 2) := by decide +kernel
theorem d_CS_mostInNeed_24 : decode b_CS_mostInNeed 24 = .ok (.aload_n 0, 1) := by decide +kernel
theorem d_CS_mostInNeed_25 : decode b_CS_mostInNeed 25 = .ok (.getfield 18, 3) := by decide +kernel
theorem d_CS_mostInNeed_28 : decode b_CS_mostInNeed 28 = .ok (.iload_n 3, 1) := by decide +kernel
theorem d_CS_mostInNeed_29 : decode b_CS_mostInNeed 29 = .ok (.aaload, 1) := by decide +kernel
theorem d_CS_mostInNeed_30 : decode b_CS_mostInNeed 30 = .ok (.getfield 80, 3) := by decide +kernel
theorem d_CS_mostInNeed_33 : decode b_CS_mostInNeed 33 = .ok (.ifCond .le 19, 3) := by decide +kernel
theorem d_CS_mostInNeed_36 : decode b_CS_mostInNeed 36 = .ok (.iload 4, 2) := by decide +kernel
theorem d_CS_mostInNeed_38 : decode b_CS_mostInNeed 38 = .ok (.iconst 1, 1) := by decide +kernel
theorem d_CS_mostInNeed_39 : decode b_CS_mostInNeed 39 = .ok (.if_icmp .lt 13, 3) := by decide +kernel
theorem d_CS_mostInNeed_42 : decode b_CS_mostInNeed 42 = .ok (.iload 4, 2) := by decide +kernel
theorem d_CS_mostInNeed_44 : decode b_CS_mostInNeed 44 = .ok (.iload_n 2, 1) := by decide +kernel
theorem d_CS_mostInNeed_45 : decode b_CS_mostInNeed 45 = .ok (.if_icmp .ge 7, 3) := by decide +kernel
theorem d_CS_mostInNeed_48 : decode b_CS_mostInNeed 48 = .ok (.iconst 1, 1) := by decide +kernel
theorem d_CS_mostInNeed_49 : decode b_CS_mostInNeed 49 = .ok (.goto 4, 3) := by decide +kernel
theorem d_CS_mostInNeed_52 : decode b_CS_mostInNeed 52 = .ok (.iconst 0, 1) := by decide +kernel
theorem d_CS_mostInNeed_53 : decode b_CS_mostInNeed 53 = .ok (.istore 5, 2) := by decide +kernel
theorem d_CS_mostInNeed_55 : decode b_CS_mostInNeed 55 = .ok (.iload 5, 2) := by decide +kernel
theorem d_CS_mostInNeed_57 : decode b_CS_mostInNeed 57 = .ok (.ifCond .eq 18, 3) := by decide +kernel
theorem d_CS_mostInNeed_60 : decode b_CS_mostInNeed 60 = .ok (.aload_n 0, 1) := by decide +kernel
theorem d_CS_mostInNeed_61 : decode b_CS_mostInNeed 61 = .ok (.iload_n 3, 1) := by decide +kernel
theorem d_CS_mostInNeed_62 : decode b_CS_mostInNeed 62 = .ok (.iconst 0, 1) := by decide +kernel
theorem d_CS_mostInNeed_63 : decode b_CS_mostInNeed 63 = .ok (.invokevirtual 164, 3) := by decide +kernel
theorem d_CS_mostInNeed_66 : decode b_CS_mostInNeed 66 = .ok (.iconst (-1), 1) := by decide +kernel
theorem d_CS_mostInNeed_67 : decode b_CS_mostInNeed 67 = .ok (.if_icmp .eq 8, 3) := by decide +kernel
theorem d_CS_mostInNeed_70 : decode b_CS_mostInNeed 70 = .ok (.iload_n 3, 1) := by decide +kernel
theorem d_CS_mostInNeed_71 : decode b_CS_mostInNeed 71 = .ok (.istore_n 1, 1) := by decide +kernel
theorem d_CS_mostInNeed_72 : decode b_CS_mostInNeed 72 = .ok (.iload 4, 2) := by decide +kernel
theorem d_CS_mostInNeed_74 : decode b_CS_mostInNeed 74 = .ok (.istore_n 2, 1) := by decide +kernel
theorem d_CS_mostInNeed_75 : decode b_CS_mostInNeed 75 = .ok (.iinc 3 1, 3) := by decide +kernel
theorem d_CS_mostInNeed_78 : decode b_CS_mostInNeed 78 = .ok (.goto (-72), 3) := by decide +kernel
theorem d_CS_mostInNeed_81 : decode b_CS_mostInNeed 81 = .ok (.iload_n 1, 1) := by decide +kernel
theorem d_CS_mostInNeed_82 : decode b_CS_mostInNeed 82 = .ok (.ireturn, 1) := by decide +kernel
theorem d_IN_bitCount_0 : decode b_IN_bitCount 0 = .ok (.iload_n 0, 1) := by decide +kernel
theorem d_IN_bitCount_1 : decode b_IN_bitCount 1 = .ok (.iload_n 0, 1) := by decide +kernel
theorem d_IN_bitCount_2 : decode b_IN_bitCount 2 = .ok (.iconst 1, 1) := by decide +kernel
theorem d_IN_bitCount_3 : decode b_IN_bitCount 3 = .ok (.iushr, 1) := by decide +kernel
theorem d_IN_bitCount_4 : decode b_IN_bitCount 4 = .ok (.ldc_w 265, 3) := by decide +kernel
theorem d_IN_bitCount_7 : decode b_IN_bitCount 7 = .ok (.iand, 1) := by decide +kernel
theorem d_IN_bitCount_8 : decode b_IN_bitCount 8 = .ok (.isub, 1) := by decide +kernel
theorem d_IN_bitCount_9 : decode b_IN_bitCount 9 = .ok (.istore_n 0, 1) := by decide +kernel
theorem d_IN_bitCount_10 : decode b_IN_bitCount 10 = .ok (.iload_n 0, 1) := by decide +kernel
theorem d_IN_bitCount_11 : decode b_IN_bitCount 11 = .ok (.ldc_w 266, 3) := by decide +kernel
theorem d_IN_bitCount_14 : decode b_IN_bitCount 14 = .ok (.iand, 1) := by decide +kernel
theorem d_IN_bitCount_15 : decode b_IN_bitCount 15 = .ok (.iload_n 0, 1) := by decide +kernel
theorem d_IN_bitCount_16 : decode b_IN_bitCount 16 = .ok (.iconst 2, 1) := by decide +kernel
theorem d_IN_bitCount_17 : decode b_IN_bitCount 17 = .ok (.iushr, 1) := by decide +kernel
theorem d_IN_bitCount_18 : decode b_IN_bitCount 18 = .ok (.ldc_w 266, 3) := by decide +kernel
theorem d_IN_bitCount_21 : decode b_IN_bitCount 21 = .ok (.iand, 1) := by decide +kernel
theorem d_IN_bitCount_22 : decode b_IN_bitCount 22 = .ok (.iadd, 1) := by decide +kernel
theorem d_IN_bitCount_23 : decode b_IN_bitCount 23 = .ok (.istore_n 0, 1) := by decide +kernel
theorem d_IN_bitCount_24 : decode b_IN_bitCount 24 = .ok (.iload_n 0, 1) := by decide +kernel
theorem d_IN_bitCount_25 : decode b_IN_bitCount 25 = .ok (.iload_n 0, 1) := by decide +kernel
theorem d_IN_bitCount_26 : decode b_IN_bitCount 26 = .ok (.iconst 4, 1) := by decide +kernel
theorem d_IN_bitCount_27 : decode b_IN_bitCount 27 = .ok (.iushr, 1) := by decide +kernel
theorem d_IN_bitCount_28 : decode b_IN_bitCount 28 = .ok (.iadd, 1) := by decide +kernel
theorem d_IN_bitCount_29 : decode b_IN_bitCount 29 = .ok (.ldc_w 267, 3) := by decide +kernel
theorem d_IN_bitCount_32 : decode b_IN_bitCount 32 = .ok (.iand, 1) := by decide +kernel
theorem d_IN_bitCount_33 : decode b_IN_bitCount 33 = .ok (.istore_n 0, 1) := by decide +kernel
theorem d_IN_bitCount_34 : decode b_IN_bitCount 34 = .ok (.iload_n 0, 1) := by decide +kernel
theorem d_IN_bitCount_35 : decode b_IN_bitCount 35 = .ok (.iload_n 0, 1) := by decide +kernel
theorem d_IN_bitCount_36 : decode b_IN_bitCount 36 = .ok (.bipush 8, 2) := by decide +kernel
theorem d_IN_bitCount_38 : decode b_IN_bitCount 38 = .ok (.iushr, 1) := by decide +kernel
theorem d_IN_bitCount_39 : decode b_IN_bitCount 39 = .ok (.iadd, 1) := by decide +kernel
theorem d_IN_bitCount_40 : decode b_IN_bitCount 40 = .ok (.istore_n 0, 1) := by decide +kernel
theorem d_IN_bitCount_41 : decode b_IN_bitCount 41 = .ok (.iload_n 0, 1) := by decide +kernel
theorem d_IN_bitCount_42 : decode b_IN_bitCount 42 = .ok (.iload_n 0, 1) := by decide +kernel
theorem d_IN_bitCount_43 : decode b_IN_bitCount 43 = .ok (.bipush 16, 2) := by decide +kernel
theorem d_IN_bitCount_45 : decode b_IN_bitCount 45 = .ok (.iushr, 1) := by decide +kernel
theorem d_IN_bitCount_46 : decode b_IN_bitCount 46 = .ok (.iadd, 1) := by decide +kernel
theorem d_IN_bitCount_47 : decode b_IN_bitCount 47 = .ok (.istore_n 0, 1) := by decide +kernel
theorem d_IN_bitCount_48 : decode b_IN_bitCount 48 = .ok (.iload_n 0, 1) := by decide +kernel
theorem d_IN_bitCount_49 : decode b_IN_bitCount 49 = .ok (.bipush 63, 2) := by decide +kernel
theorem d_IN_bitCount_51 : decode b_IN_bitCount 51 = .ok (.iand, 1) := by decide +kernel
theorem d_IN_bitCount_52 : decode b_IN_bitCount 52 = .ok (.ireturn, 1) := by decide +kernel
theorem d_CS_tick_0 : decode b_CS_tick 0 = .ok (.dload_n 1, 1) := by decide +kernel
theorem d_CS_tick_1 : decode b_CS_tick 1 = .ok (.dconst 0, 1) := by decide +kernel
theorem d_CS_tick_2 : decode b_CS_tick 2 = .ok (.dcmp .l, 1) := by decide +kernel
theorem d_CS_tick_3 : decode b_CS_tick 3 = .ok (.ifCond .lt 11, 3) := by decide +kernel
theorem d_CS_tick_6 : decode b_CS_tick 6 = .ok (.dload_n 1, 1) := by decide +kernel
theorem d_CS_tick_7 : decode b_CS_tick 7 = .ok (.ldc2_w 186, 3) := by decide +kernel
theorem d_CS_tick_10 : decode b_CS_tick 10 = .ok (.dcmp .g, 1) := by decide +kernel
theorem d_CS_tick_11 : decode b_CS_tick 11 = .ok (.ifCond .le 13, 3) := by decide +kernel
theorem d_CS_tick_14 : decode b_CS_tick 14 = .ok (.new 188, 3) := by decide +kernel
theorem d_CS_tick_17 : decode b_CS_tick 17 = .ok (.dup, 1) := by decide +kernel
theorem d_CS_tick_18 : decode b_CS_tick 18 = .ok (.ldc 190, 2) := by decide +kernel
theorem d_CS_tick_20 : decode b_CS_tick 20 = .ok (.invokespecial 192, 3) := by decide +kernel
theorem d_CS_tick_23 : decode b_CS_tick 23 = .ok (.athrow, 1) := by decide +kernel
theorem d_CS_tick_24 : decode b_CS_tick 24 = .ok (.aload_n 0, 1) := by decide +kernel
theorem d_CS_tick_25 : decode b_CS_tick 25 = .ok (.dup, 1) := by decide +kernel
theorem d_CS_tick_26 : decode b_CS_tick 26 = .ok (.getfield 56, 3) := by decide +kernel
theorem d_CS_tick_29 : decode b_CS_tick 29 = .ok (.dload_n 1, 1) := by decide +kernel
theorem d_CS_tick_30 : decode b_CS_tick 30 = .ok (.dadd, 1) := by decide +kernel
theorem d_CS_tick_31 : decode b_CS_tick 31 = .ok (.putfield 56, 3) := by decide +kernel
theorem d_CS_tick_34 : decode b_CS_tick 34 = .ok (.aload_n 0, 1) := by decide +kernel
theorem d_CS_tick_35 : decode b_CS_tick 35 = .ok (.getfield 56, 3) := by decide +kernel
theorem d_CS_tick_38 : decode b_CS_tick 38 = .ok (.dreturn, 1) := by decide +kernel
theorem d_CS_load_0 : decode b_CS_load 0 = .ok (.iconst 0, 1) := by decide +kernel
theorem d_CS_load_1 : decode b_CS_load 1 = .ok (.istore_n 1, 1) := by decide +kernel
theorem d_CS_load_2 : decode b_CS_load 2 = .ok (.iconst 0, 1) := by decide +kernel
theorem d_CS_load_3 : decode b_CS_load 3 = .ok (.istore_n 2, 1) := by decide +kernel
theorem d_CS_load_4 : decode b_CS_load 4 = .ok (.iconst 0, 1) := by decide +kernel
theorem d_CS_load_5 : decode b_CS_load 5 = .ok (.istore_n 3, 1) := by decide +kernel
theorem d_CS_load_6 : decode b_CS_load 6 = .ok (.iload_n 3, 1) := by decide +kernel
theorem d_CS_load_7 : decode b_CS_load 7 = .ok (.iconst 5, 1) := by decide +kernel
theorem d_CS_load_8 : decode b_CS_load 8 = .ok (.if_icmp .ge 36, 3) := by decide +kernel
theorem d_CS_load_11 : decode b_CS_load 11 = .ok (.aload_n 0, 1) := by decide +kernel
theorem d_CS_load_12 : decode b_CS_load 12 = .ok (.getfield 25, 3) := by decide +kernel
theorem d_CS_load_15 : decode b_CS_load 15 = .ok (.iload_n 3, 1) := by decide +kernel
theorem d_CS_load_16 : decode b_CS_load 16 = .ok (.aaload, 1) := by decide +kernel
theorem d_CS_load_17 : decode b_CS_load 17 = .ok (.getfield 127, 3) := by decide +kernel
theorem d_CS_load_20 : decode b_CS_load 20 = .ok (.ifCond .eq 18, 3) := by decide +kernel
theorem d_CS_load_23 : decode b_CS_load 23 = .ok (.iinc 1 1, 3) := by decide +kernel
theorem d_CS_load_26 : decode b_CS_load 26 = .ok (.iload_n 2, 1) := by decide +kernel
theorem d_CS_load_27 : decode b_CS_load 27 = .ok (.aload_n 0, 1) := by decide +kernel
theorem d_CS_load_28 : decode b_CS_load 28 = .ok (.getfield 25, 3) := by decide +kernel
theorem d_CS_load_31 : decode b_CS_load 31 = .ok (.iload_n 3, 1) := by decide +kernel
theorem d_CS_load_32 : decode b_CS_load 32 = .ok (.aaload, 1) := by decide +kernel
theorem d_CS_load_33 : decode b_CS_load 33 = .ok (.getfield 146, 3) := by decide +kernel
theorem d_CS_load_36 : decode b_CS_load 36 = .ok (.iadd, 1) := by decide +kernel
theorem d_CS_load_37 : decode b_CS_load 37 = .ok (.istore_n 2, 1) := by decide +kernel
theorem d_CS_load_38 : decode b_CS_load 38 = .ok (.iinc 3 1, 3) := by decide +kernel
theorem d_CS_load_41 : decode b_CS_load 41 = .ok (.goto (-35), 3) := by decide +kernel
theorem d_CS_load_44 : decode b_CS_load 44 = .ok (.iload_n 1, 1) := by decide +kernel
theorem d_CS_load_45 : decode b_CS_load 45 = .ok (.ifCond .ne 13, 3) := by decide +kernel
theorem d_CS_load_48 : decode b_CS_load 48 = .ok (.new 193, 3) := by decide +kernel
theorem d_CS_load_51 : decode b_CS_load 51 = .ok (.dup, 1) := by decide +kernel
theorem d_CS_load_52 : decode b_CS_load 52 = .ok (.ldc 195, 2) := by decide +kernel
theorem d_CS_load_54 : decode b_CS_load 54 = .ok (.invokespecial 197, 3) := by decide +kernel
theorem d_CS_load_57 : decode b_CS_load 57 = .ok (.athrow, 1) := by decide +kernel
theorem d_CS_load_58 : decode b_CS_load 58 = .ok (.iload_n 2, 1) := by decide +kernel
theorem d_CS_load_59 : decode b_CS_load 59 = .ok (.i2d, 1) := by decide +kernel
theorem d_CS_load_60 : decode b_CS_load 60 = .ok (.iload_n 1, 1) := by decide +kernel
theorem d_CS_load_61 : decode b_CS_load 61 = .ok (.i2d, 1) := by decide +kernel
theorem d_CS_load_62 : decode b_CS_load 62 = .ok (.ddiv, 1) := by decide +kernel
theorem d_CS_load_63 : decode b_CS_load 63 = .ok (.dreturn, 1) := by decide +kernel
theorem d_CS_look_0 : decode b_CS_look 0 = .ok (.iload_n 1, 1) := by decide +kernel
theorem d_CS_look_1 : decode b_CS_look 1 = .ok (.iconst 5, 1) := by decide +kernel
theorem d_CS_look_2 : decode b_CS_look 2 = .ok (.invokestatic 37, 3) := by decide +kernel
theorem d_CS_look_5 : decode b_CS_look 5 = .ok (.iload_n 2, 1) := by decide +kernel
theorem d_CS_look_6 : decode b_CS_look 6 = .ok (.bipush 30, 2) := by decide +kernel
theorem d_CS_look_8 : decode b_CS_look 8 = .ok (.invokestatic 37, 3) := by decide +kernel
theorem d_CS_look_11 : decode b_CS_look 11 = .ok (.iload_n 3, 1) := by decide +kernel
theorem d_CS_look_12 : decode b_CS_look 12 = .ok (.bipush 6, 2) := by decide +kernel
theorem d_CS_look_14 : decode b_CS_look 14 = .ok (.invokestatic 37, 3) := by decide +kernel
theorem d_CS_look_17 : decode b_CS_look 17 = .ok (.aload_n 0, 1) := by decide +kernel
theorem d_CS_look_18 : decode b_CS_look 18 = .ok (.getfield 25, 3) := by decide +kernel
theorem d_CS_look_21 : decode b_CS_look 21 = .ok (.iload_n 1, 1) := by decide +kernel
theorem d_CS_look_22 : decode b_CS_look 22 = .ok (.aaload, 1) := by decide +kernel
theorem d_CS_look_23 : decode b_CS_look 23 = .ok (.astore 4, 2) := by decide +kernel
theorem d_CS_look_25 : decode b_CS_look 25 = .ok (.aload 4, 2) := by decide +kernel
theorem d_CS_look_27 : decode b_CS_look 27 = .ok (.iload_n 2, 1) := by decide +kernel
theorem d_CS_look_28 : decode b_CS_look 28 = .ok (.invokevirtual 154, 3) := by decide +kernel
theorem d_CS_look_31 : decode b_CS_look 31 = .ok (.ifCond .ne 13, 3) := by decide +kernel
theorem d_CS_look_34 : decode b_CS_look 34 = .ok (.new 66, 3) := by decide +kernel
theorem d_CS_look_37 : decode b_CS_look 37 = .ok (.dup, 1) := by decide +kernel
theorem d_CS_look_38 : decode b_CS_look 38 = .ok (.ldc 198, 2) := by decide +kernel
theorem d_CS_look_40 : decode b_CS_look 40 = .ok (.invokespecial 70, 3) := by decide +kernel
theorem d_CS_look_43 : decode b_CS_look 43 = .ok (.athrow, 1) := by decide +kernel
theorem d_CS_look_44 : decode b_CS_look 44 = .ok (.iload_n 3, 1) := by decide +kernel
theorem d_CS_look_45 : decode b_CS_look 45 = .ok (.ifCond .ne 11, 3) := by decide +kernel
theorem d_CS_look_48 : decode b_CS_look 48 = .ok (.aload 4, 2) := by decide +kernel
theorem d_CS_look_50 : decode b_CS_look 50 = .ok (.getfield 131, 3) := by decide +kernel
theorem d_CS_look_53 : decode b_CS_look 53 = .ok (.iload_n 2, 1) := by decide +kernel
theorem d_CS_look_54 : decode b_CS_look 54 = .ok (.iaload, 1) := by decide +kernel
theorem d_CS_look_55 : decode b_CS_look 55 = .ok (.ireturn, 1) := by decide +kernel
theorem d_CS_look_56 : decode b_CS_look 56 = .ok (.iload_n 3, 1) := by decide +kernel
theorem d_CS_look_57 : decode b_CS_look 57 = .ok (.iconst 1, 1) := by decide +kernel
theorem d_CS_look_58 : decode b_CS_look 58 = .ok (.if_icmp .ne 13, 3) := by decide +kernel
theorem d_CS_look_61 : decode b_CS_look 61 = .ok (.aload 4, 2) := by decide +kernel
theorem d_CS_look_63 : decode b_CS_look 63 = .ok (.getfield 200, 3) := by decide +kernel
theorem d_CS_look_66 : decode b_CS_look 66 = .ok (.iload_n 2, 1) := by decide +kernel
theorem d_CS_look_67 : decode b_CS_look 67 = .ok (.iaload, 1) := by decide +kernel
theorem d_CS_look_68 : decode b_CS_look 68 = .ok (.goto 12, 3) := by decide +kernel
theorem d_CS_look_71 : decode b_CS_look 71 = .ok (.aload 4, 2) := by decide +kernel
theorem d_CS_look_73 : decode b_CS_look 73 = .ok (.iload_n 2, 1) := by decide +kernel
theorem d_CS_look_74 : decode b_CS_look 74 = .ok (.iload_n 3, 1) := by decide +kernel
theorem d_CS_look_75 : decode b_CS_look 75 = .ok (.iconst 2, 1) := by decide +kernel
theorem d_CS_look_76 : decode b_CS_look 76 = .ok (.isub, 1) := by decide +kernel
theorem d_CS_look_77 : decode b_CS_look 77 = .ok (.invokevirtual 142, 3) := by decide +kernel
theorem d_CS_look_80 : decode b_CS_look 80 = .ok (.ireturn, 1) := by decide +kernel
theorem d_CS_file_0 : decode b_CS_file 0 = .ok (.iload_n 1, 1) := by decide +kernel
theorem d_CS_file_1 : decode b_CS_file 1 = .ok (.bipush 8, 2) := by decide +kernel
theorem d_CS_file_3 : decode b_CS_file 3 = .ok (.invokestatic 37, 3) := by decide +kernel
theorem d_CS_file_6 : decode b_CS_file 6 = .ok (.iload_n 2, 1) := by decide +kernel
theorem d_CS_file_7 : decode b_CS_file 7 = .ok (.iconst 5, 1) := by decide +kernel
theorem d_CS_file_8 : decode b_CS_file 8 = .ok (.invokestatic 37, 3) := by decide +kernel
theorem d_CS_file_11 : decode b_CS_file 11 = .ok (.aload_n 0, 1) := by decide +kernel
theorem d_CS_file_12 : decode b_CS_file 12 = .ok (.getfield 11, 3) := by decide +kernel
theorem d_CS_file_15 : decode b_CS_file 15 = .ok (.iload_n 1, 1) := by decide +kernel
theorem d_CS_file_16 : decode b_CS_file 16 = .ok (.aaload, 1) := by decide +kernel
theorem d_CS_file_17 : decode b_CS_file 17 = .ok (.astore_n 3, 1) := by decide +kernel
theorem d_CS_file_18 : decode b_CS_file 18 = .ok (.iload_n 2, 1) := by decide +kernel
theorem d_CS_file_19 : decode b_CS_file 19 = .ok (.ifCond .ne 8, 3) := by decide +kernel
theorem d_CS_file_22 : decode b_CS_file 22 = .ok (.aload_n 3, 1) := by decide +kernel
theorem d_CS_file_23 : decode b_CS_file 23 = .ok (.getfield 45, 3) := by decide +kernel
theorem d_CS_file_26 : decode b_CS_file 26 = .ok (.ireturn, 1) := by decide +kernel
theorem d_CS_file_27 : decode b_CS_file 27 = .ok (.iload_n 2, 1) := by decide +kernel
theorem d_CS_file_28 : decode b_CS_file 28 = .ok (.iconst 1, 1) := by decide +kernel
theorem d_CS_file_29 : decode b_CS_file 29 = .ok (.if_icmp .ne 8, 3) := by decide +kernel
theorem d_CS_file_32 : decode b_CS_file 32 = .ok (.aload_n 3, 1) := by decide +kernel
theorem d_CS_file_33 : decode b_CS_file 33 = .ok (.getfield 63, 3) := by decide +kernel
theorem d_CS_file_36 : decode b_CS_file 36 = .ok (.ireturn, 1) := by decide +kernel
theorem d_CS_file_37 : decode b_CS_file 37 = .ok (.iload_n 2, 1) := by decide +kernel
theorem d_CS_file_38 : decode b_CS_file 38 = .ok (.iconst 2, 1) := by decide +kernel
theorem d_CS_file_39 : decode b_CS_file 39 = .ok (.isub, 1) := by decide +kernel
theorem d_CS_file_40 : decode b_CS_file 40 = .ok (.aload_n 3, 1) := by decide +kernel
theorem d_CS_file_41 : decode b_CS_file 41 = .ok (.getfield 63, 3) := by decide +kernel
theorem d_CS_file_44 : decode b_CS_file 44 = .ok (.if_icmp .ge 14, 3) := by decide +kernel
theorem d_CS_file_47 : decode b_CS_file 47 = .ok (.aload_n 3, 1) := by decide +kernel
theorem d_CS_file_48 : decode b_CS_file 48 = .ok (.getfield 73, 3) := by decide +kernel
theorem d_CS_file_51 : decode b_CS_file 51 = .ok (.iload_n 2, 1) := by decide +kernel
theorem d_CS_file_52 : decode b_CS_file 52 = .ok (.iconst 2, 1) := by decide +kernel
theorem d_CS_file_53 : decode b_CS_file 53 = .ok (.isub, 1) := by decide +kernel
theorem d_CS_file_54 : decode b_CS_file 54 = .ok (.iaload, 1) := by decide +kernel
theorem d_CS_file_55 : decode b_CS_file 55 = .ok (.goto 4, 3) := by decide +kernel
theorem d_CS_file_58 : decode b_CS_file 58 = .ok (.iconst (-1), 1) := by decide +kernel
theorem d_CS_file_59 : decode b_CS_file 59 = .ok (.ireturn, 1) := by decide +kernel
theorem d_CS_chunk_0 : decode b_CS_chunk 0 = .ok (.iload_n 1, 1) := by decide +kernel
theorem d_CS_chunk_1 : decode b_CS_chunk 1 = .ok (.bipush 30, 2) := by decide +kernel
theorem d_CS_chunk_3 : decode b_CS_chunk 3 = .ok (.invokestatic 37, 3) := by decide +kernel
theorem d_CS_chunk_6 : decode b_CS_chunk 6 = .ok (.iload_n 2, 1) := by decide +kernel
theorem d_CS_chunk_7 : decode b_CS_chunk 7 = .ok (.iconst 5, 1) := by decide +kernel
theorem d_CS_chunk_8 : decode b_CS_chunk 8 = .ok (.invokestatic 37, 3) := by decide +kernel
theorem d_CS_chunk_11 : decode b_CS_chunk 11 = .ok (.iload_n 1, 1) := by decide +kernel
theorem d_CS_chunk_12 : decode b_CS_chunk 12 = .ok (.aload_n 0, 1) := by decide +kernel
theorem d_CS_chunk_13 : decode b_CS_chunk 13 = .ok (.getfield 151, 3) := by decide +kernel
theorem d_CS_chunk_16 : decode b_CS_chunk 16 = .ok (.if_icmp .lt 13, 3) := by decide +kernel
theorem d_CS_chunk_19 : decode b_CS_chunk 19 = .ok (.new 66, 3) := by decide +kernel
theorem d_CS_chunk_22 : decode b_CS_chunk 22 = .ok (.dup, 1) := by decide +kernel
theorem d_CS_chunk_23 : decode b_CS_chunk 23 = .ok (.ldc 203, 2) := by decide +kernel
theorem d_CS_chunk_25 : decode b_CS_chunk 25 = .ok (.invokespecial 70, 3) := by decide +kernel
theorem d_CS_chunk_28 : decode b_CS_chunk 28 = .ok (.athrow, 1) := by decide +kernel
theorem d_CS_chunk_29 : decode b_CS_chunk 29 = .ok (.aload_n 0, 1) := by decide +kernel
theorem d_CS_chunk_30 : decode b_CS_chunk 30 = .ok (.getfield 18, 3) := by decide +kernel
theorem d_CS_chunk_33 : decode b_CS_chunk 33 = .ok (.iload_n 1, 1) := by decide +kernel
theorem d_CS_chunk_34 : decode b_CS_chunk 34 = .ok (.aaload, 1) := by decide +kernel
theorem d_CS_chunk_35 : decode b_CS_chunk 35 = .ok (.astore_n 3, 1) := by decide +kernel
theorem d_CS_chunk_36 : decode b_CS_chunk 36 = .ok (.iload_n 2, 1) := by decide +kernel
theorem d_CS_chunk_37 : decode b_CS_chunk 37 = .ok (.tableswitch 55 0 3 #[31, 36, 41, 46], 31) := by decide +kernel
theorem d_CS_chunk_68 : decode b_CS_chunk 68 = .ok (.aload_n 3, 1) := by decide +kernel
theorem d_CS_chunk_69 : decode b_CS_chunk 69 = .ok (.getfield 110, 3) := by decide +kernel
theorem d_CS_chunk_72 : decode b_CS_chunk 72 = .ok (.ireturn, 1) := by decide +kernel
theorem d_CS_chunk_73 : decode b_CS_chunk 73 = .ok (.aload_n 3, 1) := by decide +kernel
theorem d_CS_chunk_74 : decode b_CS_chunk 74 = .ok (.getfield 80, 3) := by decide +kernel
theorem d_CS_chunk_77 : decode b_CS_chunk 77 = .ok (.ireturn, 1) := by decide +kernel
theorem d_CS_chunk_78 : decode b_CS_chunk 78 = .ok (.aload_n 3, 1) := by decide +kernel
theorem d_CS_chunk_79 : decode b_CS_chunk 79 = .ok (.getfield 179, 3) := by decide +kernel
theorem d_CS_chunk_82 : decode b_CS_chunk 82 = .ok (.ireturn, 1) := by decide +kernel
theorem d_CS_chunk_83 : decode b_CS_chunk 83 = .ok (.aload_n 0, 1) := by decide +kernel
theorem d_CS_chunk_84 : decode b_CS_chunk 84 = .ok (.iload_n 1, 1) := by decide +kernel
theorem d_CS_chunk_85 : decode b_CS_chunk 85 = .ok (.invokevirtual 167, 3) := by decide +kernel
theorem d_CS_chunk_88 : decode b_CS_chunk 88 = .ok (.invokestatic 205, 3) := by decide +kernel
theorem d_CS_chunk_91 : decode b_CS_chunk 91 = .ok (.ireturn, 1) := by decide +kernel
theorem d_CS_chunk_92 : decode b_CS_chunk 92 = .ok (.aload_n 0, 1) := by decide +kernel
theorem d_CS_chunk_93 : decode b_CS_chunk 93 = .ok (.aload_n 3, 1) := by decide +kernel
theorem d_CS_chunk_94 : decode b_CS_chunk 94 = .ok (.invokevirtual 210, 3) := by decide +kernel
theorem d_CS_chunk_97 : decode b_CS_chunk 97 = .ok (.ifCond .eq 7, 3) := by decide +kernel
theorem d_CS_chunk_100 : decode b_CS_chunk 100 = .ok (.iconst 1, 1) := by decide +kernel
theorem d_CS_chunk_101 : decode b_CS_chunk 101 = .ok (.goto 4, 3) := by decide +kernel
theorem d_CS_chunk_104 : decode b_CS_chunk 104 = .ok (.iconst 0, 1) := by decide +kernel
theorem d_CS_chunk_105 : decode b_CS_chunk 105 = .ok (.ireturn, 1) := by decide +kernel
end XDEC
end
section
section XDEC
theorem d_MD_init_0 : decode b_MD_init 0 = .ok (.aload_n 0, 1) := by decide +kernel
theorem d_MD_init_1 : decode b_MD_init 1 = .ok (.invokespecial 1, 3) := by decide +kernel
theorem d_MD_init_4 : decode b_MD_init 4 = .ok (.aload_n 0, 1) := by decide +kernel
theorem d_MD_init_5 : decode b_MD_init 5 = .ok (.bipush 8, 2) := by decide +kernel
theorem d_MD_init_7 : decode b_MD_init 7 = .ok (.newarray .int, 2) := by decide +kernel
theorem d_MD_init_9 : decode b_MD_init 9 = .ok (.putfield 7, 3) := by decide +kernel
theorem d_MD_init_12 : decode b_MD_init 12 = .ok (.aload_n 0, 1) := by decide +kernel
theorem d_MD_init_13 : decode b_MD_init 13 = .ok (.bipush 8, 2) := by decide +kernel
theorem d_MD_init_15 : decode b_MD_init 15 = .ok (.newarray .double, 2) := by decide +kernel
theorem d_MD_init_17 : decode b_MD_init 17 = .ok (.putfield 13, 3) := by decide +kernel
theorem d_MD_init_20 : decode b_MD_init 20 = .ok (.aload_n 0, 1) := by decide +kernel
theorem d_MD_init_21 : decode b_MD_init 21 = .ok (.bipush 24, 2) := by decide +kernel
theorem d_MD_init_23 : decode b_MD_init 23 = .ok (.newarray .int, 2) := by decide +kernel
theorem d_MD_init_25 : decode b_MD_init 25 = .ok (.putfield 17, 3) := by decide +kernel
theorem d_MD_init_28 : decode b_MD_init 28 = .ok (.aload_n 0, 1) := by decide +kernel
theorem d_MD_init_29 : decode b_MD_init 29 = .ok (.bipush 8, 2) := by decide +kernel
theorem d_MD_init_31 : decode b_MD_init 31 = .ok (.newarray .int, 2) := by decide +kernel
theorem d_MD_init_33 : decode b_MD_init 33 = .ok (.putfield 20, 3) := by decide +kernel
theorem d_MD_init_36 : decode b_MD_init 36 = .ok (.aload_n 0, 1) := by decide +kernel
theorem d_MD_init_37 : decode b_MD_init 37 = .ok (.bipush 30, 2) := by decide +kernel
theorem d_MD_init_39 : decode b_MD_init 39 = .ok (.newarray .int, 2) := by decide +kernel
theorem d_MD_init_41 : decode b_MD_init 41 = .ok (.putfield 23, 3) := by decide +kernel
theorem d_MD_init_44 : decode b_MD_init 44 = .ok (.aload_n 0, 1) := by decide +kernel
theorem d_MD_init_45 : decode b_MD_init 45 = .ok (.bipush 30, 2) := by decide +kernel
theorem d_MD_init_47 : decode b_MD_init 47 = .ok (.newarray .int, 2) := by decide +kernel
theorem d_MD_init_49 : decode b_MD_init 49 = .ok (.putfield 26, 3) := by decide +kernel
theorem d_MD_init_52 : decode b_MD_init 52 = .ok (.aload_n 0, 1) := by decide +kernel
theorem d_MD_init_53 : decode b_MD_init 53 = .ok (.bipush 30, 2) := by decide +kernel
theorem d_MD_init_55 : decode b_MD_init 55 = .ok (.newarray .double, 2) := by decide +kernel
theorem d_MD_init_57 : decode b_MD_init 57 = .ok (.putfield 29, 3) := by decide +kernel
theorem d_MD_init_60 : decode b_MD_init 60 = .ok (.aload_n 0, 1) := by decide +kernel
theorem d_MD_init_61 : decode b_MD_init 61 = .ok (.iconst 5, 1) := by decide +kernel
theorem d_MD_init_62 : decode b_MD_init 62 = .ok (.newarray .boolean, 2) := by decide +kernel
theorem d_MD_init_64 : decode b_MD_init 64 = .ok (.putfield 32, 3) := by decide +kernel
theorem d_MD_init_67 : decode b_MD_init 67 = .ok (.aload_n 0, 1) := by decide +kernel
theorem d_MD_init_68 : decode b_MD_init 68 = .ok (.sipush 150, 3) := by decide +kernel
theorem d_MD_init_71 : decode b_MD_init 71 = .ok (.newarray .int, 2) := by decide +kernel
theorem d_MD_init_73 : decode b_MD_init 73 = .ok (.putfield 36, 3) := by decide +kernel
theorem d_MD_init_76 : decode b_MD_init 76 = .ok (.aload_n 0, 1) := by decide +kernel
theorem d_MD_init_77 : decode b_MD_init 77 = .ok (.sipush 150, 3) := by decide +kernel
theorem d_MD_init_80 : decode b_MD_init 80 = .ok (.newarray .int, 2) := by decide +kernel
theorem d_MD_init_82 : decode b_MD_init 82 = .ok (.putfield 39, 3) := by decide +kernel
theorem d_MD_init_85 : decode b_MD_init 85 = .ok (.aload_n 0, 1) := by decide +kernel
theorem d_MD_init_86 : decode b_MD_init 86 = .ok (.sipush 600, 3) := by decide +kernel
theorem d_MD_init_89 : decode b_MD_init 89 = .ok (.newarray .int, 2) := by decide +kernel
theorem d_MD_init_91 : decode b_MD_init 91 = .ok (.putfield 42, 3) := by decide +kernel
theorem d_MD_init_94 : decode b_MD_init 94 = .ok (.aload_n 0, 1) := by decide +kernel
theorem d_MD_init_95 : decode b_MD_init 95 = .ok (.bipush 72, 2) := by decide +kernel
theorem d_MD_init_97 : decode b_MD_init 97 = .ok (.newarray .int, 2) := by decide +kernel
theorem d_MD_init_99 : decode b_MD_init 99 = .ok (.putfield 45, 3) := by decide +kernel
theorem d_MD_init_102 : decode b_MD_init 102 = .ok (.aload_n 0, 1) := by decide +kernel
theorem d_MD_init_103 : decode b_MD_init 103 = .ok (.bipush 72, 2) := by decide +kernel
theorem d_MD_init_105 : decode b_MD_init 105 = .ok (.newarray .int, 2) := by decide +kernel
theorem d_MD_init_107 : decode b_MD_init 107 = .ok (.putfield 48, 3) := by decide +kernel
theorem d_MD_init_110 : decode b_MD_init 110 = .ok (.aload_n 0, 1) := by decide +kernel
theorem d_MD_init_111 : decode b_MD_init 111 = .ok (.bipush 72, 2) := by decide +kernel
theorem d_MD_init_113 : decode b_MD_init 113 = .ok (.newarray .int, 2) := by decide +kernel
theorem d_MD_init_115 : decode b_MD_init 115 = .ok (.putfield 51, 3) := by decide +kernel
theorem d_MD_init_118 : decode b_MD_init 118 = .ok (.aload_n 0, 1) := by decide +kernel
theorem d_MD_init_119 : decode b_MD_init 119 = .ok (.bipush 72, 2) := by decide +kernel
theorem d_MD_init_121 : decode b_MD_init 121 = .ok (.newarray .double, 2) := by decide +kernel
theorem d_MD_init_123 : decode b_MD_init 123 = .ok (.putfield 54, 3) := by decide +kernel
theorem d_MD_init_126 : decode b_MD_init 126 = .ok (.iconst 0, 1) := by decide +kernel
theorem d_MD_init_127 : decode b_MD_init 127 = .ok (.istore_n 1, 1) := by decide +kernel
theorem d_MD_init_128 : decode b_MD_init 128 = .ok (.iload_n 1, 1) := by decide +kernel
theorem d_MD_init_129 : decode b_MD_init 129 = .ok (.bipush 30, 2) := by decide +kernel
theorem d_MD_init_131 : decode b_MD_init 131 = .ok (.if_icmp .ge 18, 3) := by decide +kernel
theorem d_MD_init_134 : decode b_MD_init 134 = .ok (.aload_n 0, 1) := by decide +kernel
theorem d_MD_init_135 : decode b_MD_init 135 = .ok (.getfield 29, 3) := by decide +kernel
theorem d_MD_init_138 : decode b_MD_init 138 = .ok (.iload_n 1, 1) := by decide +kernel
theorem d_MD_init_139 : decode b_MD_init 139 = .ok (.ldc2_w 57, 3) := by decide +kernel
theorem d_MD_init_142 : decode b_MD_init 142 = .ok (.dastore, 1) := by decide +kernel
theorem d_MD_init_143 : decode b_MD_init 143 = .ok (.iinc 1 1, 3) := by decide +kernel
theorem d_MD_init_146 : decode b_MD_init 146 = .ok (.goto (-18), 3) := by decide +kernel
theorem d_MD_init_149 : decode b_MD_init 149 = .ok (.iconst 0, 1) := by decide +kernel
theorem d_MD_init_150 : decode b_MD_init 150 = .ok (.istore_n 1, 1) := by decide +kernel
theorem d_MD_init_151 : decode b_MD_init 151 = .ok (.iload_n 1, 1) := by decide +kernel
theorem d_MD_init_152 : decode b_MD_init 152 = .ok (.bipush 72, 2) := by decide +kernel
theorem d_MD_init_154 : decode b_MD_init 154 = .ok (.if_icmp .ge 18, 3) := by decide +kernel
theorem d_MD_init_157 : decode b_MD_init 157 = .ok (.aload_n 0, 1) := by decide +kernel
theorem d_MD_init_158 : decode b_MD_init 158 = .ok (.getfield 54, 3) := by decide +kernel
theorem d_MD_init_161 : decode b_MD_init 161 = .ok (.iload_n 1, 1) := by decide +kernel
theorem d_MD_init_162 : decode b_MD_init 162 = .ok (.ldc2_w 57, 3) := by decide +kernel
theorem d_MD_init_165 : decode b_MD_init 165 = .ok (.dastore, 1) := by decide +kernel
theorem d_MD_init_166 : decode b_MD_init 166 = .ok (.iinc 1 1, 3) := by decide +kernel
theorem d_MD_init_169 : decode b_MD_init 169 = .ok (.goto (-18), 3) := by decide +kernel
theorem d_MD_init_172 : decode b_MD_init 172 = .ok (.return_, 1) := by decide +kernel
theorem d_MD_thrown_0 : decode b_MD_thrown 0 = .ok (.aload_n 0, 1) := by decide +kernel
theorem d_MD_thrown_1 : decode b_MD_thrown 1 = .ok (.getfield 59, 3) := by decide +kernel
theorem d_MD_thrown_4 : decode b_MD_thrown 4 = .ok (.ireturn, 1) := by decide +kernel
theorem d_MD_create_0 : decode b_MD_create 0 = .ok (.aload_n 0, 1) := by decide +kernel
theorem d_MD_create_1 : decode b_MD_create 1 = .ok (.iconst 0, 1) := by decide +kernel
theorem d_MD_create_2 : decode b_MD_create 2 = .ok (.putfield 59, 3) := by decide +kernel
theorem d_MD_create_5 : decode b_MD_create 5 = .ok (.aload_n 0, 1) := by decide +kernel
theorem d_MD_create_6 : decode b_MD_create 6 = .ok (.iload_n 1, 1) := by decide +kernel
theorem d_MD_create_7 : decode b_MD_create 7 = .ok (.bipush 8, 2) := by decide +kernel
theorem d_MD_create_9 : decode b_MD_create 9 = .ok (.invokevirtual 63, 3) := by decide +kernel
theorem d_MD_create_12 : decode b_MD_create 12 = .ok (.ifCond .eq 9, 3) := by decide +kernel
theorem d_MD_create_15 : decode b_MD_create 15 = .ok (.aload_n 0, 1) := by decide +kernel
theorem d_MD_create_16 : decode b_MD_create 16 = .ok (.iconst 1, 1) := by decide +kernel
theorem d_MD_create_17 : decode b_MD_create 17 = .ok (.invokevirtual 67, 3) := by decide +kernel
theorem d_MD_create_20 : decode b_MD_create 20 = .ok (.ireturn, 1) := by decide +kernel
theorem d_MD_create_21 : decode b_MD_create 21 = .ok (.aload_n 0, 1) := by decide +kernel
theorem d_MD_create_22 : decode b_MD_create 22 = .ok (.getfield 7, 3) := by decide +kernel
theorem d_MD_create_25 : decode b_MD_create 25 = .ok (.iload_n 1, 1) := by decide +kernel
theorem d_MD_create_26 : decode b_MD_create 26 = .ok (.iaload, 1) := by decide +kernel
theorem d_MD_create_27 : decode b_MD_create 27 = .ok (.ifCond .eq 9, 3) := by decide +kernel
theorem d_MD_create_30 : decode b_MD_create 30 = .ok (.aload_n 0, 1) := by decide +kernel
theorem d_MD_create_31 : decode b_MD_create 31 = .ok (.iconst 2, 1) := by decide +kernel
theorem d_MD_create_32 : decode b_MD_create 32 = .ok (.invokevirtual 67, 3) := by decide +kernel
theorem d_MD_create_35 : decode b_MD_create 35 = .ok (.ireturn, 1) := by decide +kernel
theorem d_MD_create_36 : decode b_MD_create 36 = .ok (.aload_n 0, 1) := by decide +kernel
theorem d_MD_create_37 : decode b_MD_create 37 = .ok (.getfield 7, 3) := by decide +kernel
theorem d_MD_create_40 : decode b_MD_create 40 = .ok (.iload_n 1, 1) := by decide +kernel
theorem d_MD_create_41 : decode b_MD_create 41 = .ok (.iconst 1, 1) := by decide +kernel
theorem d_MD_create_42 : decode b_MD_create 42 = .ok (.iastore, 1) := by decide +kernel
theorem d_MD_create_43 : decode b_MD_create 43 = .ok (.aload_n 0, 1) := by decide +kernel
theorem d_MD_create_44 : decode b_MD_create 44 = .ok (.getfield 20, 3) := by decide +kernel
theorem d_MD_create_47 : decode b_MD_create 47 = .ok (.iload_n 1, 1) := by decide +kernel
theorem d_MD_create_48 : decode b_MD_create 48 = .ok (.iconst 0, 1) := by decide +kernel
theorem d_MD_create_49 : decode b_MD_create 49 = .ok (.iastore, 1) := by decide +kernel
theorem d_MD_create_50 : decode b_MD_create 50 = .ok (.iconst 0, 1) := by decide +kernel
theorem d_MD_create_51 : decode b_MD_create 51 = .ok (.istore_n 2, 1) := by decide +kernel
theorem d_MD_create_52 : decode b_MD_create 52 = .ok (.iconst 0, 1) := by decide +kernel
theorem d_MD_create_53 : decode b_MD_create 53 = .ok (.istore_n 3, 1) := by decide +kernel
theorem d_MD_create_54 : decode b_MD_create 54 = .ok (.iload_n 3, 1) := by decide +kernel
theorem d_MD_create_55 : decode b_MD_create 55 = .ok (.bipush 8, 2) := by decide +kernel
theorem d_MD_create_57 : decode b_MD_create 57 = .ok (.if_icmp .ge 27, 3) := by decide +kernel
theorem d_MD_create_60 : decode b_MD_create 60 = .ok (.iload_n 2, 1) := by decide +kernel
theorem d_MD_create_61 : decode b_MD_create 61 = .ok (.aload_n 0, 1) := by decide +kernel
theorem d_MD_create_62 : decode b_MD_create 62 = .ok (.getfield 7, 3) := by decide +kernel
theorem d_MD_create_65 : decode b_MD_create 65 = .ok (.iload_n 3, 1) := by decide +kernel
theorem d_MD_create_66 : decode b_MD_create 66 = .ok (.iaload, 1) := by decide +kernel
theorem d_MD_create_67 : decode b_MD_create 67 = .ok (.iconst 1, 1) := by decide +kernel
theorem d_MD_create_68 : decode b_MD_create 68 = .ok (.if_icmp .ne 7, 3) := by decide +kernel
theorem d_MD_create_71 : decode b_MD_create 71 = .ok (.iconst 1, 1) := by decide +kernel
theorem d_MD_create_72 : decode b_MD_create 72 = .ok (.goto 4, 3) := by decide +kernel
theorem d_MD_create_75 : decode b_MD_create 75 = .ok (.iconst 0, 1) := by decide +kernel
theorem d_MD_create_76 : decode b_MD_create 76 = .ok (.iadd, 1) := by decide +kernel
theorem d_MD_create_77 : decode b_MD_create 77 = .ok (.istore_n 2, 1) := by decide +kernel
theorem d_MD_create_78 : decode b_MD_create 78 = .ok (.iinc 3 1, 3) := by decide +kernel
theorem d_MD_create_81 : decode b_MD_create 81 = .ok (.goto (-27), 3) := by decide +kernel
theorem d_MD_create_84 : decode b_MD_create 84 = .ok (.iload_n 2, 1) := by decide +kernel
theorem d_MD_create_85 : decode b_MD_create 85 = .ok (.ireturn, 1) := by decide +kernel
theorem d_MD_out_0 : decode b_MD_out 0 = .ok (.iload_n 1, 1) := by decide +kernel
theorem d_MD_out_1 : decode b_MD_out 1 = .ok (.ifCond .lt 8, 3) := by decide +kernel
theorem d_MD_out_4 : decode b_MD_out 4 = .ok (.iload_n 1, 1) := by decide +kernel
theorem d_MD_out_5 : decode b_MD_out 5 = .ok (.iload_n 2, 1) := by decide +kernel
theorem d_MD_out_6 : decode b_MD_out 6 = .ok (.if_icmp .lt 7, 3) := by decide +kernel
theorem d_MD_out_9 : decode b_MD_out 9 = .ok (.iconst 1, 1) := by decide +kernel
theorem d_MD_out_10 : decode b_MD_out 10 = .ok (.goto 4, 3) := by decide +kernel
theorem d_MD_out_13 : decode b_MD_out 13 = .ok (.iconst 0, 1) := by decide +kernel
theorem d_MD_out_14 : decode b_MD_out 14 = .ok (.ireturn, 1) := by decide +kernel
theorem d_MD_fail_0 : decode b_MD_fail 0 = .ok (.aload_n 0, 1) := by decide +kernel
theorem d_MD_fail_1 : decode b_MD_fail 1 = .ok (.iload_n 1, 1) := by decide +kernel
theorem d_MD_fail_2 : decode b_MD_fail 2 = .ok (.putfield 59, 3) := by decide +kernel
theorem d_MD_fail_5 : decode b_MD_fail 5 = .ok (.iconst 0, 1) := by decide +kernel
theorem d_MD_fail_6 : decode b_MD_fail 6 = .ok (.ireturn, 1) := by decide +kernel
theorem d_MD_remove_0 : decode b_MD_remove 0 = .ok (.aload_n 0, 1) := by decide +kernel
theorem d_MD_remove_1 : decode b_MD_remove 1 = .ok (.iconst 0, 1) := by decide +kernel
theorem d_MD_remove_2 : decode b_MD_remove 2 = .ok (.putfield 59, 3) := by decide +kernel
theorem d_MD_remove_5 : decode b_MD_remove 5 = .ok (.aload_n 0, 1) := by decide +kernel
theorem d_MD_remove_6 : decode b_MD_remove 6 = .ok (.iload_n 1, 1) := by decide +kernel
theorem d_MD_remove_7 : decode b_MD_remove 7 = .ok (.bipush 8, 2) := by decide +kernel
theorem d_MD_remove_9 : decode b_MD_remove 9 = .ok (.invokevirtual 63, 3) := by decide +kernel
theorem d_MD_remove_12 : decode b_MD_remove 12 = .ok (.ifCond .eq 9, 3) := by decide +kernel
theorem d_MD_remove_15 : decode b_MD_remove 15 = .ok (.aload_n 0, 1) := by decide +kernel
theorem d_MD_remove_16 : decode b_MD_remove 16 = .ok (.iconst 1, 1) := by decide +kernel
theorem d_MD_remove_17 : decode b_MD_remove 17 = .ok (.invokevirtual 67, 3) := by decide +kernel
theorem d_MD_remove_20 : decode b_MD_remove 20 = .ok (.ireturn, 1) := by decide +kernel
theorem d_MD_remove_21 : decode b_MD_remove 21 = .ok (.aload_n 0, 1) := by decide +kernel
theorem d_MD_remove_22 : decode b_MD_remove 22 = .ok (.getfield 7, 3) := by decide +kernel
theorem d_MD_remove_25 : decode b_MD_remove 25 = .ok (.iload_n 1, 1) := by decide +kernel
theorem d_MD_remove_26 : decode b_MD_remove 26 = .ok (.iaload, 1) := by decide +kernel
theorem d_MD_remove_27 : decode b_MD_remove 27 = .ok (.iconst 1, 1) := by decide +kernel
theorem d_MD_remove_28 : decode b_MD_remove 28 = .ok (.if_icmp .eq 9, 3) := by decide +kernel
theorem d_MD_remove_31 : decode b_MD_remove 31 = .ok (.aload_n 0, 1) := by decide +kernel
theorem d_MD_remove_32 : decode b_MD_remove 32 = .ok (.iconst 2, 1) := by decide +kernel
theorem d_MD_remove_33 : decode b_MD_remove 33 = .ok (.invokevirtual 67, 3) := by decide +kernel
theorem d_MD_remove_36 : decode b_MD_remove 36 = .ok (.ireturn, 1) := by decide +kernel
theorem d_MD_remove_37 : decode b_MD_remove 37 = .ok (.aload_n 0, 1) := by decide +kernel
theorem d_MD_remove_38 : decode b_MD_remove 38 = .ok (.getfield 7, 3) := by decide +kernel
theorem d_MD_remove_41 : decode b_MD_remove 41 = .ok (.iload_n 1, 1) := by decide +kernel
theorem d_MD_remove_42 : decode b_MD_remove 42 = .ok (.iconst 2, 1) := by decide +kernel
theorem d_MD_remove_43 : decode b_MD_remove 43 = .ok (.iastore, 1) := by decide +kernel
theorem d_MD_remove_44 : decode b_MD_remove 44 = .ok (.aload_n 0, 1) := by decide +kernel
theorem d_MD_remove_45 : decode b_MD_remove 45 = .ok (.getfield 13, 3) := by decide +kernel
theorem d_MD_remove_48 : decode b_MD_remove 48 = .ok (.iload_n 1, 1) := by decide +kernel
theorem d_MD_remove_49 : decode b_MD_remove 49 = .ok (.aload_n 0, 1) := by decide +kernel
theorem d_MD_remove_50 : decode b_MD_remove 50 = .ok (.getfield 71, 3) := by decide +kernel
theorem d_MD_remove_53 : decode b_MD_remove 53 = .ok (.dastore, 1) := by decide +kernel
theorem d_MD_remove_54 : decode b_MD_remove 54 = .ok (.aload_n 0, 1) := by decide +kernel
theorem d_MD_remove_55 : decode b_MD_remove 55 = .ok (.getfield 20, 3) := by decide +kernel
theorem d_MD_remove_58 : decode b_MD_remove 58 = .ok (.iload_n 1, 1) := by decide +kernel
theorem d_MD_remove_59 : decode b_MD_remove 59 = .ok (.iaload, 1) := by decide +kernel
theorem d_MD_remove_60 : decode b_MD_remove 60 = .ok (.ireturn, 1) := by decide +kernel
theorem d_MD_restore_0 : decode b_MD_restore 0 = .ok (.aload_n 0, 1) := by decide +kernel
theorem d_MD_restore_1 : decode b_MD_restore 1 = .ok (.iconst 0, 1) := by decide +kernel
theorem d_MD_restore_2 : decode b_MD_restore 2 = .ok (.putfield 59, 3) := by decide +kernel
theorem d_MD_restore_5 : decode b_MD_restore 5 = .ok (.aload_n 0, 1) := by decide +kernel
theorem d_MD_restore_6 : decode b_MD_restore 6 = .ok (.iload_n 1, 1) := by decide +kernel
theorem d_MD_restore_7 : decode b_MD_restore 7 = .ok (.bipush 8, 2) := by decide +kernel
theorem d_MD_restore_9 : decode b_MD_restore 9 = .ok (.invokevirtual 63, 3) := by decide +kernel
theorem d_MD_restore_12 : decode b_MD_restore 12 = .ok (.ifCond .eq 9, 3) := by decide +kernel
theorem d_MD_restore_15 : decode b_MD_restore 15 = .ok (.aload_n 0, 1) := by decide +kernel
theorem d_MD_restore_16 : decode b_MD_restore 16 = .ok (.iconst 1, 1) := by decide +kernel
theorem d_MD_restore_17 : decode b_MD_restore 17 = .ok (.invokevirtual 67, 3) := by decide +kernel
theorem d_MD_restore_20 : decode b_MD_restore 20 = .ok (.ireturn, 1) := by decide +kernel
theorem d_MD_restore_21 : decode b_MD_restore 21 = .ok (.aload_n 0, 1) := by decide +kernel
theorem d_MD_restore_22 : decode b_MD_restore 22 = .ok (.getfield 7, 3) := by decide +kernel
theorem d_MD_restore_25 : decode b_MD_restore 25 = .ok (.iload_n 1, 1) := by decide +kernel
theorem d_MD_restore_26 : decode b_MD_restore 26 = .ok (.iaload, 1) := by decide +kernel
theorem d_MD_restore_27 : decode b_MD_restore 27 = .ok (.iconst 2, 1) := by decide +kernel
theorem d_MD_restore_28 : decode b_MD_restore 28 = .ok (.if_icmp .eq 9, 3) := by decide +kernel
theorem d_MD_restore_31 : decode b_MD_restore 31 = .ok (.aload_n 0, 1) := by decide +kernel
theorem d_MD_restore_32 : decode b_MD_restore 32 = .ok (.iconst 2, 1) := by decide +kernel
theorem d_MD_restore_33 : decode b_MD_restore 33 = .ok (.invokevirtual 67, 3) := by decide +kernel
theorem d_MD_restore_36 : decode b_MD_restore 36 = .ok (.ireturn, 1) := by decide +kernel
theorem d_MD_restore_37 : decode b_MD_restore 37 = .ok (.aload_n 0, 1) := by decide +kernel
theorem d_MD_restore_38 : decode b_MD_restore 38 = .ok (.getfield 7, 3) := by decide +kernel
theorem d_MD_restore_41 : decode b_MD_restore 41 = .ok (.iload_n 1, 1) := by decide +kernel
theorem d_MD_restore_42 : decode b_MD_restore 42 = .ok (.iconst 1, 1) := by decide +kernel
theorem d_MD_restore_43 : decode b_MD_restore 43 = .ok (.iastore, 1) := by decide +kernel
theorem d_MD_restore_44 : decode b_MD_restore 44 = .ok (.aload_n 0, 1) := by decide +kernel
theorem d_MD_restore_45 : decode b_MD_restore 45 = .ok (.getfield 20, 3) := by decide +kernel
theorem d_MD_restore_48 : decode b_MD_restore 48 = .ok (.iload_n 1, 1) := by decide +kernel
theorem d_MD_restore_49 : decode b_MD_restore 49 = .ok (.iaload, 1) := by decide +kernel
theorem d_MD_restore_50 : decode b_MD_restore 50 = .ok (.ireturn, 1) := by decide +kernel
theorem d_MD_copy_0 : decode b_MD_copy 0 = .ok (.aload_n 0, 1) := by decide +kernel
theorem d_MD_copy_1 : decode b_MD_copy 1 = .ok (.iconst 0, 1) := by decide +kernel
theorem d_MD_copy_2 : decode b_MD_copy 2 = .ok (.putfield 59, 3) := by decide +kernel
theorem d_MD_copy_5 : decode b_MD_copy 5 = .ok (.aload_n 0, 1) := by decide +kernel
theorem d_MD_copy_6 : decode b_MD_copy 6 = .ok (.iload_n 1, 1) := by decide +kernel
theorem d_MD_copy_7 : decode b_MD_copy 7 = .ok (.bipush 8, 2) := by decide +kernel
theorem d_MD_copy_9 : decode b_MD_copy 9 = .ok (.invokevirtual 63, 3) := by decide +kernel
theorem d_MD_copy_12 : decode b_MD_copy 12 = .ok (.ifCond .ne 13, 3) := by decide +kernel
theorem d_MD_copy_15 : decode b_MD_copy 15 = .ok (.aload_n 0, 1) := by decide +kernel
theorem d_MD_copy_16 : decode b_MD_copy 16 = .ok (.iload_n 2, 1) := by decide +kernel
theorem d_MD_copy_17 : decode b_MD_copy 17 = .ok (.bipush 8, 2) := by decide +kernel
theorem d_MD_copy_19 : decode b_MD_copy 19 = .ok (.invokevirtual 63, 3) := by decide +kernel
theorem d_MD_copy_22 : decode b_MD_copy 22 = .ok (.ifCond .eq 9, 3) := by decide +kernel
theorem d_MD_copy_25 : decode b_MD_copy 25 = .ok (.aload_n 0, 1) := by decide +kernel
theorem d_MD_copy_26 : decode b_MD_copy 26 = .ok (.iconst 1, 1) := by decide +kernel
theorem d_MD_copy_27 : decode b_MD_copy 27 = .ok (.invokevirtual 67, 3) := by decide +kernel
theorem d_MD_copy_30 : decode b_MD_copy 30 = .ok (.ireturn, 1) := by decide +kernel
theorem d_MD_copy_31 : decode b_MD_copy 31 = .ok (.aload_n 0, 1) := by decide +kernel
theorem d_MD_copy_32 : decode b_MD_copy 32 = .ok (.getfield 7, 3) := by decide +kernel
theorem d_MD_copy_35 : decode b_MD_copy 35 = .ok (.iload_n 1, 1) := by decide +kernel
theorem d_MD_copy_36 : decode b_MD_copy 36 = .ok (.iaload, 1) := by decide +kernel
theorem d_MD_copy_37 : decode b_MD_copy 37 = .ok (.iconst 1, 1) := by decide +kernel
theorem d_MD_copy_38 : decode b_MD_copy 38 = .ok (.if_icmp .eq 9, 3) := by decide +kernel
theorem d_MD_copy_41 : decode b_MD_copy 41 = .ok (.aload_n 0, 1) := by decide +kernel
theorem d_MD_copy_42 : decode b_MD_copy 42 = .ok (.iconst 2, 1) := by decide +kernel
theorem d_MD_copy_43 : decode b_MD_copy 43 = .ok (.invokevirtual 67, 3) := by decide +kernel
theorem d_MD_copy_46 : decode b_MD_copy 46 = .ok (.ireturn, 1) := by decide +kernel
theorem d_MD_copy_47 : decode b_MD_copy 47 = .ok (.aload_n 0, 1) := by decide +kernel
theorem d_MD_copy_48 : decode b_MD_copy 48 = .ok (.getfield 7, 3) := by decide +kernel
theorem d_MD_copy_51 : decode b_MD_copy 51 = .ok (.iload_n 2, 1) := by decide +kernel
theorem d_MD_copy_52 : decode b_MD_copy 52 = .ok (.iaload, 1) := by decide +kernel
theorem d_MD_copy_53 : decode b_MD_copy 53 = .ok (.ifCond .eq 9, 3) := by decide +kernel
theorem d_MD_copy_56 : decode b_MD_copy 56 = .ok (.aload_n 0, 1) := by decide +kernel
theorem d_MD_copy_57 : decode b_MD_copy 57 = .ok (.iconst 3, 1) := by decide +kernel
theorem d_MD_copy_58 : decode b_MD_copy 58 = .ok (.invokevirtual 67, 3) := by decide +kernel
theorem d_MD_copy_61 : decode b_MD_copy 61 = .ok (.ireturn, 1) := by decide +kernel
theorem d_MD_copy_62 : decode b_MD_copy 62 = .ok (.aload_n 0, 1) := by decide +kernel
theorem d_MD_copy_63 : decode b_MD_copy 63 = .ok (.getfield 7, 3) := by decide +kernel
theorem d_MD_copy_66 : decode b_MD_copy 66 = .ok (.iload_n 2, 1) := by decide +kernel
theorem d_MD_copy_67 : decode b_MD_copy 67 = .ok (.iconst 1, 1) := by decide +kernel
theorem d_MD_copy_68 : decode b_MD_copy 68 = .ok (.iastore, 1) := by decide +kernel
theorem d_MD_copy_69 : decode b_MD_copy 69 = .ok (.aload_n 0, 1) := by decide +kernel
theorem d_MD_copy_70 : decode b_MD_copy 70 = .ok (.getfield 20, 3) := by decide +kernel
theorem d_MD_copy_73 : decode b_MD_copy 73 = .ok (.iload_n 2, 1) := by decide +kernel
theorem d_MD_copy_74 : decode b_MD_copy 74 = .ok (.aload_n 0, 1) := by decide +kernel
theorem d_MD_copy_75 : decode b_MD_copy 75 = .ok (.getfield 20, 3) := by decide +kernel
theorem d_MD_copy_78 : decode b_MD_copy 78 = .ok (.iload_n 1, 1) := by decide +kernel
theorem d_MD_copy_79 : decode b_MD_copy 79 = .ok (.iaload, 1) := by decide +kernel
theorem d_MD_copy_80 : decode b_MD_copy 80 = .ok (.iastore, 1) := by decide +kernel
theorem d_MD_copy_81 : decode b_MD_copy 81 = .ok (.iconst 0, 1) := by decide +kernel
theorem d_MD_copy_82 : decode b_MD_copy 82 = .ok (.istore_n 3, 1) := by decide +kernel
theorem d_MD_copy_83 : decode b_MD_copy 83 = .ok (.iload_n 3, 1) := by decide +kernel
theorem d_MD_copy_84 : decode b_MD_copy 84 = .ok (.aload_n 0, 1) := by decide +kernel
theorem d_MD_copy_85 : decode b_MD_copy 85 = .ok (.getfield 20, 3) := by decide +kernel
theorem d_MD_copy_88 : decode b_MD_copy 88 = .ok (.iload_n 1, 1) := by decide +kernel
theorem d_MD_copy_89 : decode b_MD_copy 89 = .ok (.iaload, 1) := by decide +kernel
theorem d_MD_copy_90 : decode b_MD_copy 90 = .ok (.if_icmp .ge 47, 3) := by decide +kernel
theorem d_MD_copy_93 : decode b_MD_copy 93 = .ok (.aload_n 0, 1) := by decide +kernel
theorem d_MD_copy_94 : decode b_MD_copy 94 = .ok (.getfield 17, 3) := by decide +kernel
theorem d_MD_copy_97 : decode b_MD_copy 97 = .ok (.iconst 3, 1) := by decide +kernel
theorem d_MD_copy_98 : decode b_MD_copy 98 = .ok (.iload_n 2, 1) := by decide +kernel
theorem d_MD_copy_99 : decode b_MD_copy 99 = .ok (.imul, 1) := by decide +kernel
theorem d_MD_copy_100 : decode b_MD_copy 100 = .ok (.iload_n 3, 1) := by decide +kernel
theorem d_MD_copy_101 : decode b_MD_copy 101 = .ok (.iadd, 1) := by decide +kernel
theorem d_MD_copy_102 : decode b_MD_copy 102 = .ok (.aload_n 0, 1) := by decide +kernel
theorem d_MD_copy_103 : decode b_MD_copy 103 = .ok (.getfield 17, 3) := by decide +kernel
theorem d_MD_copy_106 : decode b_MD_copy 106 = .ok (.iconst 3, 1) := by decide +kernel
theorem d_MD_copy_107 : decode b_MD_copy 107 = .ok (.iload_n 1, 1) := by decide +kernel
theorem d_MD_copy_108 : decode b_MD_copy 108 = .ok (.imul, 1) := by decide +kernel
theorem d_MD_copy_109 : decode b_MD_copy 109 = .ok (.iload_n 3, 1) := by decide +kernel
theorem d_MD_copy_110 : decode b_MD_copy 110 = .ok (.iadd, 1) := by decide +kernel
theorem d_MD_copy_111 : decode b_MD_copy 111 = .ok (.iaload, 1) := by decide +kernel
theorem d_MD_copy_112 : decode b_MD_copy 112 = .ok (.iastore, 1) := by decide +kernel
theorem d_MD_copy_113 : decode b_MD_copy 113 = .ok (.aload_n 0, 1) := by decide +kernel
theorem d_MD_copy_114 : decode b_MD_copy 114 = .ok (.getfield 29, 3) := by decide +kernel
theorem d_MD_copy_117 : decode b_MD_copy 117 = .ok (.aload_n 0, 1) := by decide +kernel
theorem d_MD_copy_118 : decode b_MD_copy 118 = .ok (.getfield 17, 3) := by decide +kernel
theorem d_MD_copy_121 : decode b_MD_copy 121 = .ok (.iconst 3, 1) := by decide +kernel
theorem d_MD_copy_122 : decode b_MD_copy 122 = .ok (.iload_n 1, 1) := by decide +kernel
theorem d_MD_copy_123 : decode b_MD_copy 123 = .ok (.imul, 1) := by decide +kernel
theorem d_MD_copy_124 : decode b_MD_copy 124 = .ok (.iload_n 3, 1) := by decide +kernel
theorem d_MD_copy_125 : decode b_MD_copy 125 = .ok (.iadd, 1) := by decide +kernel
theorem d_MD_copy_126 : decode b_MD_copy 126 = .ok (.iaload, 1) := by decide +kernel
theorem d_MD_copy_127 : decode b_MD_copy 127 = .ok (.ldc2_w 57, 3) := by decide +kernel
theorem d_MD_copy_130 : decode b_MD_copy 130 = .ok (.dastore, 1) := by decide +kernel
theorem d_MD_copy_131 : decode b_MD_copy 131 = .ok (.iinc 3 1, 3) := by decide +kernel
theorem d_MD_copy_134 : decode b_MD_copy 134 = .ok (.goto (-51), 3) := by decide +kernel
theorem d_MD_copy_137 : decode b_MD_copy 137 = .ok (.aload_n 0, 1) := by decide +kernel
theorem d_MD_copy_138 : decode b_MD_copy 138 = .ok (.getfield 20, 3) := by decide +kernel
theorem d_MD_copy_141 : decode b_MD_copy 141 = .ok (.iload_n 2, 1) := by decide +kernel
theorem d_MD_copy_142 : decode b_MD_copy 142 = .ok (.iaload, 1) := by decide +kernel
theorem d_MD_copy_143 : decode b_MD_copy 143 = .ok (.ireturn, 1) := by decide +kernel
theorem d_MD_extend_0 : decode b_MD_extend 0 = .ok (.aload_n 0, 1) := by decide +kernel
theorem d_MD_extend_1 : decode b_MD_extend 1 = .ok (.iconst 0, 1) := by decide +kernel
theorem d_MD_extend_2 : decode b_MD_extend 2 = .ok (.putfield 59, 3) := by decide +kernel
theorem d_MD_extend_5 : decode b_MD_extend 5 = .ok (.aload_n 0, 1) := by decide +kernel
theorem d_MD_extend_6 : decode b_MD_extend 6 = .ok (.iload_n 1, 1) := by decide +kernel
theorem d_MD_extend_7 : decode b_MD_extend 7 = .ok (.bipush 8, 2) := by decide +kernel
theorem d_MD_extend_9 : decode b_MD_extend 9 = .ok (.invokevirtual 63, 3) := by decide +kernel
theorem d_MD_extend_12 : decode b_MD_extend 12 = .ok (.ifCond .eq 9, 3) := by decide +kernel
theorem d_MD_extend_15 : decode b_MD_extend 15 = .ok (.aload_n 0, 1) := by decide +kernel
theorem d_MD_extend_16 : decode b_MD_extend 16 = .ok (.iconst 1, 1) := by decide +kernel
theorem d_MD_extend_17 : decode b_MD_extend 17 = .ok (.invokevirtual 67, 3) := by decide +kernel
theorem d_MD_extend_20 : decode b_MD_extend 20 = .ok (.ireturn, 1) := by decide +kernel
theorem d_MD_extend_21 : decode b_MD_extend 21 = .ok (.aload_n 0, 1) := by decide +kernel
theorem d_MD_extend_22 : decode b_MD_extend 22 = .ok (.getfield 7, 3) := by decide +kernel
theorem d_MD_extend_25 : decode b_MD_extend 25 = .ok (.iload_n 1, 1) := by decide +kernel
theorem d_MD_extend_26 : decode b_MD_extend 26 = .ok (.iaload, 1) := by decide +kernel
theorem d_MD_extend_27 : decode b_MD_extend 27 = .ok (.iconst 1, 1) := by decide +kernel
theorem d_MD_extend_28 : decode b_MD_extend 28 = .ok (.if_icmp .eq 9, 3) := by decide +kernel
theorem d_MD_extend_31 : decode b_MD_extend 31 = .ok (.aload_n 0, 1) := by decide +kernel
theorem d_MD_extend_32 : decode b_MD_extend 32 = .ok (.iconst 2, 1) := by decide +kernel
theorem d_MD_extend_33 : decode b_MD_extend 33 = .ok (.invokevirtual 67, 3) := by decide +kernel
theorem d_MD_extend_36 : decode b_MD_extend 36 = .ok (.ireturn, 1) := by decide +kernel
theorem d_MD_extend_37 : decode b_MD_extend 37 = .ok (.aload_n 0, 1) := by decide +kernel
theorem d_MD_extend_38 : decode b_MD_extend 38 = .ok (.iload_n 1, 1) := by decide +kernel
theorem d_MD_extend_39 : decode b_MD_extend 39 = .ok (.invokevirtual 89, 3) := by decide +kernel
theorem d_MD_extend_42 : decode b_MD_extend 42 = .ok (.istore_n 2, 1) := by decide +kernel
theorem d_MD_extend_43 : decode b_MD_extend 43 = .ok (.iload_n 2, 1) := by decide +kernel
theorem d_MD_extend_44 : decode b_MD_extend 44 = .ok (.ifCond .le 18, 3) := by decide +kernel
theorem d_MD_extend_47 : decode b_MD_extend 47 = .ok (.aload_n 0, 1) := by decide +kernel
theorem d_MD_extend_48 : decode b_MD_extend 48 = .ok (.iload_n 2, 1) := by decide +kernel
theorem d_MD_extend_49 : decode b_MD_extend 49 = .ok (.iconst 1, 1) := by decide +kernel
theorem d_MD_extend_50 : decode b_MD_extend 50 = .ok (.if_icmp .ne 7, 3) := by decide +kernel
theorem d_MD_extend_53 : decode b_MD_extend 53 = .ok (.iconst 4, 1) := by decide +kernel
theorem d_MD_extend_54 : decode b_MD_extend 54 = .ok (.goto 4, 3) := by decide +kernel
theorem d_MD_extend_57 : decode b_MD_extend 57 = .ok (.iconst 3, 1) := by decide +kernel
theorem d_MD_extend_58 : decode b_MD_extend 58 = .ok (.invokevirtual 67, 3) := by decide +kernel
theorem d_MD_extend_61 : decode b_MD_extend 61 = .ok (.ireturn, 1) := by decide +kernel
theorem d_MD_extend_62 : decode b_MD_extend 62 = .ok (.aload_n 0, 1) := by decide +kernel
theorem d_MD_extend_63 : decode b_MD_extend 63 = .ok (.getfield 78, 3) := by decide +kernel
theorem d_MD_extend_66 : decode b_MD_extend 66 = .ok (.iconst 1, 1) := by decide +kernel
theorem d_MD_extend_67 : decode b_MD_extend 67 = .ok (.isub, 1) := by decide +kernel
theorem d_MD_extend_68 : decode b_MD_extend 68 = .ok (.ireturn, 1) := by decide +kernel
theorem d_MD_makeChunk_0 : decode b_MD_makeChunk 0 = .ok (.aload_n 0, 1) := by decide +kernel
theorem d_MD_makeChunk_1 : decode b_MD_makeChunk 1 = .ok (.getfield 78, 3) := by decide +kernel
theorem d_MD_makeChunk_4 : decode b_MD_makeChunk 4 = .ok (.bipush 30, 2) := by decide +kernel
theorem d_MD_makeChunk_6 : decode b_MD_makeChunk 6 = .ok (.if_icmp .eq 13, 3) := by decide +kernel
theorem d_MD_makeChunk_9 : decode b_MD_makeChunk 9 = .ok (.aload_n 0, 1) := by decide +kernel
theorem d_MD_makeChunk_10 : decode b_MD_makeChunk 10 = .ok (.getfield 20, 3) := by decide +kernel
theorem d_MD_makeChunk_13 : decode b_MD_makeChunk 13 = .ok (.iload_n 1, 1) := by decide +kernel
theorem d_MD_makeChunk_14 : decode b_MD_makeChunk 14 = .ok (.iaload, 1) := by decide +kernel
theorem d_MD_makeChunk_15 : decode b_MD_makeChunk 15 = .ok (.iconst 3, 1) := by decide +kernel
theorem d_MD_makeChunk_16 : decode b_MD_makeChunk 16 = .ok (.if_icmp .ne 5, 3) := by decide +kernel
theorem d_MD_makeChunk_19 : decode b_MD_makeChunk 19 = .ok (.iconst 1, 1) := by decide +kernel
theorem d_MD_makeChunk_20 : decode b_MD_makeChunk 20 = .ok (.ireturn, 1) := by decide +kernel
theorem d_MD_makeChunk_21 : decode b_MD_makeChunk 21 = .ok (.iconst 0, 1) := by decide +kernel
theorem d_MD_makeChunk_22 : decode b_MD_makeChunk 22 = .ok (.istore_n 2, 1) := by decide +kernel
theorem d_MD_makeChunk_23 : decode b_MD_makeChunk 23 = .ok (.iconst 0, 1) := by decide +kernel
theorem d_MD_makeChunk_24 : decode b_MD_makeChunk 24 = .ok (.istore_n 3, 1) := by decide +kernel
theorem d_MD_makeChunk_25 : decode b_MD_makeChunk 25 = .ok (.iload_n 3, 1) := by decide +kernel
theorem d_MD_makeChunk_26 : decode b_MD_makeChunk 26 = .ok (.iconst 3, 1) := by decide +kernel
theorem d_MD_makeChunk_27 : decode b_MD_makeChunk 27 = .ok (.if_icmp .ge 30, 3) := by decide +kernel
theorem d_MD_makeChunk_30 : decode b_MD_makeChunk 30 = .ok (.aload_n 0, 1) := by decide +kernel
theorem d_MD_makeChunk_31 : decode b_MD_makeChunk 31 = .ok (.bipush 30, 2) := by decide +kernel
theorem d_MD_makeChunk_33 : decode b_MD_makeChunk 33 = .ok (.iload_n 2, 1) := by decide +kernel
theorem d_MD_makeChunk_34 : decode b_MD_makeChunk 34 = .ok (.invokevirtual 81, 3) := by decide +kernel
theorem d_MD_makeChunk_37 : decode b_MD_makeChunk 37 = .ok (.istore 4, 2) := by decide +kernel
theorem d_MD_makeChunk_39 : decode b_MD_makeChunk 39 = .ok (.iload 4, 2) := by decide +kernel
theorem d_MD_makeChunk_41 : decode b_MD_makeChunk 41 = .ok (.ifCond .lt 10, 3) := by decide +kernel
theorem d_MD_makeChunk_44 : decode b_MD_makeChunk 44 = .ok (.iload_n 2, 1) := by decide +kernel
theorem d_MD_makeChunk_45 : decode b_MD_makeChunk 45 = .ok (.iconst 1, 1) := by decide +kernel
theorem d_MD_makeChunk_46 : decode b_MD_makeChunk 46 = .ok (.iload 4, 2) := by decide +kernel
theorem d_MD_makeChunk_48 : decode b_MD_makeChunk 48 = .ok (.ishl, 1) := by decide +kernel
theorem d_MD_makeChunk_49 : decode b_MD_makeChunk 49 = .ok (.ior, 1) := by decide +kernel
theorem d_MD_makeChunk_50 : decode b_MD_makeChunk 50 = .ok (.istore_n 2, 1) := by decide +kernel
theorem d_MD_makeChunk_51 : decode b_MD_makeChunk 51 = .ok (.iinc 3 1, 3) := by decide +kernel
theorem d_MD_makeChunk_54 : decode b_MD_makeChunk 54 = .ok (.goto (-29), 3) := by decide +kernel
theorem d_MD_makeChunk_57 : decode b_MD_makeChunk 57 = .ok (.iload_n 2, 1) := by decide +kernel
theorem d_MD_makeChunk_58 : decode b_MD_makeChunk 58 = .ok (.ifCond .ne 5, 3) := by decide +kernel
theorem d_MD_makeChunk_61 : decode b_MD_makeChunk 61 = .ok (.iconst 2, 1) := by decide +kernel
theorem d_MD_makeChunk_62 : decode b_MD_makeChunk 62 = .ok (.ireturn, 1) := by decide +kernel
theorem d_MD_makeChunk_63 : decode b_MD_makeChunk 63 = .ok (.aload_n 0, 1) := by decide +kernel
theorem d_MD_makeChunk_64 : decode b_MD_makeChunk 64 = .ok (.getfield 23, 3) := by decide +kernel
theorem d_MD_makeChunk_67 : decode b_MD_makeChunk 67 = .ok (.aload_n 0, 1) := by decide +kernel
theorem d_MD_makeChunk_68 : decode b_MD_makeChunk 68 = .ok (.getfield 78, 3) := by decide +kernel
theorem d_MD_makeChunk_71 : decode b_MD_makeChunk 71 = .ok (.iconst 1, 1) := by decide +kernel
theorem d_MD_makeChunk_72 : decode b_MD_makeChunk 72 = .ok (.iastore, 1) := by decide +kernel
theorem d_MD_makeChunk_73 : decode b_MD_makeChunk 73 = .ok (.aload_n 0, 1) := by decide +kernel
theorem d_MD_makeChunk_74 : decode b_MD_makeChunk 74 = .ok (.getfield 26, 3) := by decide +kernel
theorem d_MD_makeChunk_77 : decode b_MD_makeChunk 77 = .ok (.aload_n 0, 1) := by decide +kernel
theorem d_MD_makeChunk_78 : decode b_MD_makeChunk 78 = .ok (.getfield 78, 3) := by decide +kernel
theorem d_MD_makeChunk_81 : decode b_MD_makeChunk 81 = .ok (.iload_n 2, 1) := by decide +kernel
theorem d_MD_makeChunk_82 : decode b_MD_makeChunk 82 = .ok (.iastore, 1) := by decide +kernel
theorem d_MD_makeChunk_83 : decode b_MD_makeChunk 83 = .ok (.iconst 0, 1) := by decide +kernel
theorem d_MD_makeChunk_84 : decode b_MD_makeChunk 84 = .ok (.istore_n 3, 1) := by decide +kernel
theorem d_MD_makeChunk_85 : decode b_MD_makeChunk 85 = .ok (.iload_n 3, 1) := by decide +kernel
theorem d_MD_makeChunk_86 : decode b_MD_makeChunk 86 = .ok (.iconst 5, 1) := by decide +kernel
theorem d_MD_makeChunk_87 : decode b_MD_makeChunk 87 = .ok (.if_icmp .ge 32, 3) := by decide +kernel
theorem d_MD_makeChunk_90 : decode b_MD_makeChunk 90 = .ok (.iload_n 2, 1) := by decide +kernel
theorem d_MD_makeChunk_91 : decode b_MD_makeChunk 91 = .ok (.iload_n 3, 1) := by decide +kernel
theorem d_MD_makeChunk_92 : decode b_MD_makeChunk 92 = .ok (.ishr, 1) := by decide +kernel
theorem d_MD_makeChunk_93 : decode b_MD_makeChunk 93 = .ok (.iconst 1, 1) := by decide +kernel
theorem d_MD_makeChunk_94 : decode b_MD_makeChunk 94 = .ok (.iand, 1) := by decide +kernel
theorem d_MD_makeChunk_95 : decode b_MD_makeChunk 95 = .ok (.ifCond .eq 18, 3) := by decide +kernel
theorem d_MD_makeChunk_98 : decode b_MD_makeChunk 98 = .ok (.aload_n 0, 1) := by decide +kernel
theorem d_MD_makeChunk_99 : decode b_MD_makeChunk 99 = .ok (.bipush 30, 2) := by decide +kernel
theorem d_MD_makeChunk_101 : decode b_MD_makeChunk 101 = .ok (.iload_n 3, 1) := by decide +kernel
theorem d_MD_makeChunk_102 : decode b_MD_makeChunk 102 = .ok (.imul, 1) := by decide +kernel
theorem d_MD_makeChunk_103 : decode b_MD_makeChunk 103 = .ok (.aload_n 0, 1) := by decide +kernel
theorem d_MD_makeChunk_104 : decode b_MD_makeChunk 104 = .ok (.getfield 78, 3) := by decide +kernel
theorem d_MD_makeChunk_107 : decode b_MD_makeChunk 107 = .ok (.iadd, 1) := by decide +kernel
theorem d_MD_makeChunk_108 : decode b_MD_makeChunk 108 = .ok (.iconst (-1), 1) := by decide +kernel
theorem d_MD_makeChunk_109 : decode b_MD_makeChunk 109 = .ok (.iconst 1, 1) := by decide +kernel
theorem d_MD_makeChunk_110 : decode b_MD_makeChunk 110 = .ok (.invokevirtual 85, 3) := by decide +kernel
theorem d_MD_makeChunk_113 : decode b_MD_makeChunk 113 = .ok (.iinc 3 1, 3) := by decide +kernel
theorem d_MD_makeChunk_116 : decode b_MD_makeChunk 116 = .ok (.goto (-31), 3) := by decide +kernel
theorem d_MD_makeChunk_119 : decode b_MD_makeChunk 119 = .ok (.aload_n 0, 1) := by decide +kernel
theorem d_MD_makeChunk_120 : decode b_MD_makeChunk 120 = .ok (.getfield 17, 3) := by decide +kernel
theorem d_MD_makeChunk_123 : decode b_MD_makeChunk 123 = .ok (.iconst 3, 1) := by decide +kernel
theorem d_MD_makeChunk_124 : decode b_MD_makeChunk 124 = .ok (.iload_n 1, 1) := by decide +kernel
theorem d_MD_makeChunk_125 : decode b_MD_makeChunk 125 = .ok (.imul, 1) := by decide +kernel
theorem d_MD_makeChunk_126 : decode b_MD_makeChunk 126 = .ok (.aload_n 0, 1) := by decide +kernel
theorem d_MD_makeChunk_127 : decode b_MD_makeChunk 127 = .ok (.getfield 20, 3) := by decide +kernel
theorem d_MD_makeChunk_130 : decode b_MD_makeChunk 130 = .ok (.iload_n 1, 1) := by decide +kernel
theorem d_MD_makeChunk_131 : decode b_MD_makeChunk 131 = .ok (.iaload, 1) := by decide +kernel
theorem d_MD_makeChunk_132 : decode b_MD_makeChunk 132 = .ok (.iadd, 1) := by decide +kernel
theorem d_MD_makeChunk_133 : decode b_MD_makeChunk 133 = .ok (.aload_n 0, 1) := by decide +kernel
theorem d_MD_makeChunk_134 : decode b_MD_makeChunk 134 = .ok (.getfield 78, 3) := by decide +kernel
theorem d_MD_makeChunk_137 : decode b_MD_makeChunk 137 = .ok (.iastore, 1) := by decide +kernel
theorem d_MD_makeChunk_138 : decode b_MD_makeChunk 138 = .ok (.aload_n 0, 1) := by decide +kernel
theorem d_MD_makeChunk_139 : decode b_MD_makeChunk 139 = .ok (.getfield 20, 3) := by decide +kernel
theorem d_MD_makeChunk_142 : decode b_MD_makeChunk 142 = .ok (.iload_n 1, 1) := by decide +kernel
theorem d_MD_makeChunk_143 : decode b_MD_makeChunk 143 = .ok (.dup2, 1) := by decide +kernel
theorem d_MD_makeChunk_144 : decode b_MD_makeChunk 144 = .ok (.iaload, 1) := by decide +kernel
theorem d_MD_makeChunk_145 : decode b_MD_makeChunk 145 = .ok (.iconst 1, 1) := by decide +kernel
theorem d_MD_makeChunk_146 : decode b_MD_makeChunk 146 = .ok (.iadd, 1) := by decide +kernel
theorem d_MD_makeChunk_147 : decode b_MD_makeChunk 147 = .ok (.iastore, 1) := by decide +kernel
theorem d_MD_makeChunk_148 : decode b_MD_makeChunk 148 = .ok (.aload_n 0, 1) := by decide +kernel
theorem d_MD_makeChunk_149 : decode b_MD_makeChunk 149 = .ok (.dup, 1) := by decide +kernel
theorem d_MD_makeChunk_150 : decode b_MD_makeChunk 150 = .ok (.getfield 78, 3) := by decide +kernel
theorem d_MD_makeChunk_153 : decode b_MD_makeChunk 153 = .ok (.iconst 1, 1) := by decide +kernel
theorem d_MD_makeChunk_154 : decode b_MD_makeChunk 154 = .ok (.iadd, 1) := by decide +kernel
theorem d_MD_makeChunk_155 : decode b_MD_makeChunk 155 = .ok (.putfield 78, 3) := by decide +kernel
theorem d_MD_makeChunk_158 : decode b_MD_makeChunk 158 = .ok (.iconst 0, 1) := by decide +kernel
theorem d_MD_makeChunk_159 : decode b_MD_makeChunk 159 = .ok (.ireturn, 1) := by decide +kernel
theorem d_MD_choose_0 : decode b_MD_choose 0 = .ok (.iconst (-1), 1) := by decide +kernel
theorem d_MD_choose_1 : decode b_MD_choose 1 = .ok (.istore_n 3, 1) := by decide +kernel
theorem d_MD_choose_2 : decode b_MD_choose 2 = .ok (.iconst 0, 1) := by decide +kernel
theorem d_MD_choose_3 : decode b_MD_choose 3 = .ok (.istore 4, 2) := by decide +kernel
theorem d_MD_choose_5 : decode b_MD_choose 5 = .ok (.iload 4, 2) := by decide +kernel
theorem d_MD_choose_7 : decode b_MD_choose 7 = .ok (.iconst 5, 1) := by decide +kernel
theorem d_MD_choose_8 : decode b_MD_choose 8 = .ok (.if_icmp .ge 93, 3) := by decide +kernel
theorem d_MD_choose_11 : decode b_MD_choose 11 = .ok (.aload_n 0, 1) := by decide +kernel
theorem d_MD_choose_12 : decode b_MD_choose 12 = .ok (.getfield 32, 3) := by decide +kernel
theorem d_MD_choose_15 : decode b_MD_choose 15 = .ok (.iload 4, 2) := by decide +kernel
theorem d_MD_choose_17 : decode b_MD_choose 17 = .ok (.baload, 1) := by decide +kernel
theorem d_MD_choose_18 : decode b_MD_choose 18 = .ok (.ifCond .ne 48, 3) := by decide +kernel
theorem d_MD_choose_21 : decode b_MD_choose 21 = .ok (.aload_n 0, 1) := by decide +kernel
theorem d_MD_choose_22 : decode b_MD_choose 22 = .ok (.iload 4, 2) := by decide +kernel
theorem d_MD_choose_24 : decode b_MD_choose 24 = .ok (.invokevirtual 75, 3) := by decide +kernel
theorem d_MD_choose_27 : decode b_MD_choose 27 = .ok (.bipush 12, 2) := by decide +kernel
theorem d_MD_choose_29 : decode b_MD_choose 29 = .ok (.if_icmp .ge 37, 3) := by decide +kernel
theorem d_MD_choose_32 : decode b_MD_choose 32 = .ok (.iload_n 2, 1) := by decide +kernel
theorem d_MD_choose_33 : decode b_MD_choose 33 = .ok (.iload 4, 2) := by decide +kernel
theorem d_MD_choose_35 : decode b_MD_choose 35 = .ok (.ishr, 1) := by decide +kernel
theorem d_MD_choose_36 : decode b_MD_choose 36 = .ok (.iconst 1, 1) := by decide +kernel
theorem d_MD_choose_37 : decode b_MD_choose 37 = .ok (.iand, 1) := by decide +kernel
theorem d_MD_choose_38 : decode b_MD_choose 38 = .ok (.ifCond .ne 28, 3) := by decide +kernel
theorem d_MD_choose_41 : decode b_MD_choose 41 = .ok (.iload_n 1, 1) := by decide +kernel
theorem d_MD_choose_42 : decode b_MD_choose 42 = .ok (.bipush 30, 2) := by decide +kernel
theorem d_MD_choose_44 : decode b_MD_choose 44 = .ok (.if_icmp .eq 18, 3) := by decide +kernel
theorem d_MD_choose_47 : decode b_MD_choose 47 = .ok (.aload_n 0, 1) := by decide +kernel
theorem d_MD_choose_48 : decode b_MD_choose 48 = .ok (.getfield 36, 3) := by decide +kernel
theorem d_MD_choose_51 : decode b_MD_choose 51 = .ok (.bipush 30, 2) := by decide +kernel
theorem d_MD_choose_53 : decode b_MD_choose 53 = .ok (.iload 4, 2) := by decide +kernel
theorem d_MD_choose_55 : decode b_MD_choose 55 = .ok (.imul, 1) := by decide +kernel
theorem d_MD_choose_56 : decode b_MD_choose 56 = .ok (.iload_n 1, 1) := by decide +kernel
theorem d_MD_choose_57 : decode b_MD_choose 57 = .ok (.iadd, 1) := by decide +kernel
theorem d_MD_choose_58 : decode b_MD_choose 58 = .ok (.iaload, 1) := by decide +kernel
theorem d_MD_choose_59 : decode b_MD_choose 59 = .ok (.ifCond .ne 7, 3) := by decide +kernel
theorem d_MD_choose_62 : decode b_MD_choose 62 = .ok (.iconst 1, 1) := by decide +kernel
theorem d_MD_choose_63 : decode b_MD_choose 63 = .ok (.goto 4, 3) := by decide +kernel
theorem d_MD_choose_66 : decode b_MD_choose 66 = .ok (.iconst 0, 1) := by decide +kernel
theorem d_MD_choose_67 : decode b_MD_choose 67 = .ok (.istore 5, 2) := by decide +kernel
theorem d_MD_choose_69 : decode b_MD_choose 69 = .ok (.iload 5, 2) := by decide +kernel
theorem d_MD_choose_71 : decode b_MD_choose 71 = .ok (.ifCond .eq 24, 3) := by decide +kernel
theorem d_MD_choose_74 : decode b_MD_choose 74 = .ok (.iload_n 3, 1) := by decide +kernel
theorem d_MD_choose_75 : decode b_MD_choose 75 = .ok (.ifCond .lt 17, 3) := by decide +kernel
theorem d_MD_choose_78 : decode b_MD_choose 78 = .ok (.aload_n 0, 1) := by decide +kernel
theorem d_MD_choose_79 : decode b_MD_choose 79 = .ok (.iload 4, 2) := by decide +kernel
theorem d_MD_choose_81 : decode b_MD_choose 81 = .ok (.invokevirtual 75, 3) := by decide +kernel
theorem d_MD_choose_84 : decode b_MD_choose 84 = .ok (.aload_n 0, 1) := by decide +kernel
theorem d_MD_choose_85 : decode b_MD_choose 85 = .ok (.iload_n 3, 1) := by decide +kernel
theorem d_MD_choose_86 : decode b_MD_choose 86 = .ok (.invokevirtual 75, 3) := by decide +kernel
theorem d_MD_choose_89 : decode b_MD_choose 89 = .ok (.if_icmp .ge 6, 3) := by decide +kernel
theorem d_MD_choose_92 : decode b_MD_choose 92 = .ok (.iload 4, 2) := by decide +kernel
theorem d_MD_choose_94 : decode b_MD_choose 94 = .ok (.istore_n 3, 1) := by decide +kernel
theorem d_MD_choose_95 : decode b_MD_choose 95 = .ok (.iinc 4 1, 3) := by decide +kernel
theorem d_MD_choose_98 : decode b_MD_choose 98 = .ok (.goto (-93), 3) := by decide +kernel
theorem d_MD_choose_101 : decode b_MD_choose 101 = .ok (.iload_n 3, 1) := by decide +kernel
theorem d_MD_choose_102 : decode b_MD_choose 102 = .ok (.ireturn, 1) := by decide +kernel
theorem d_MD_loadOf_0 : decode b_MD_loadOf 0 = .ok (.iconst 0, 1) := by decide +kernel
theorem d_MD_loadOf_1 : decode b_MD_loadOf 1 = .ok (.istore_n 2, 1) := by decide +kernel
theorem d_MD_loadOf_2 : decode b_MD_loadOf 2 = .ok (.iconst 0, 1) := by decide +kernel
theorem d_MD_loadOf_3 : decode b_MD_loadOf 3 = .ok (.istore_n 3, 1) := by decide +kernel
theorem d_MD_loadOf_4 : decode b_MD_loadOf 4 = .ok (.iload_n 3, 1) := by decide +kernel
theorem d_MD_loadOf_5 : decode b_MD_loadOf 5 = .ok (.bipush 30, 2) := by decide +kernel
theorem d_MD_loadOf_7 : decode b_MD_loadOf 7 = .ok (.if_icmp .ge 31, 3) := by decide +kernel
theorem d_MD_loadOf_10 : decode b_MD_loadOf 10 = .ok (.iload_n 2, 1) := by decide +kernel
theorem d_MD_loadOf_11 : decode b_MD_loadOf 11 = .ok (.aload_n 0, 1) := by decide +kernel
theorem d_MD_loadOf_12 : decode b_MD_loadOf 12 = .ok (.getfield 36, 3) := by decide +kernel
theorem d_MD_loadOf_15 : decode b_MD_loadOf 15 = .ok (.bipush 30, 2) := by decide +kernel
theorem d_MD_loadOf_17 : decode b_MD_loadOf 17 = .ok (.iload_n 1, 1) := by decide +kernel
theorem d_MD_loadOf_18 : decode b_MD_loadOf 18 = .ok (.imul, 1) := by decide +kernel
theorem d_MD_loadOf_19 : decode b_MD_loadOf 19 = .ok (.iload_n 3, 1) := by decide +kernel
theorem d_MD_loadOf_20 : decode b_MD_loadOf 20 = .ok (.iadd, 1) := by decide +kernel
theorem d_MD_loadOf_21 : decode b_MD_loadOf 21 = .ok (.iaload, 1) := by decide +kernel
theorem d_MD_loadOf_22 : decode b_MD_loadOf 22 = .ok (.ifCond .le 7, 3) := by decide +kernel
theorem d_MD_loadOf_25 : decode b_MD_loadOf 25 = .ok (.iconst 1, 1) := by decide +kernel
theorem d_MD_loadOf_26 : decode b_MD_loadOf 26 = .ok (.goto 4, 3) := by decide +kernel
theorem d_MD_loadOf_29 : decode b_MD_loadOf 29 = .ok (.iconst 0, 1) := by decide +kernel
theorem d_MD_loadOf_30 : decode b_MD_loadOf 30 = .ok (.iadd, 1) := by decide +kernel
theorem d_MD_loadOf_31 : decode b_MD_loadOf 31 = .ok (.istore_n 2, 1) := by decide +kernel
theorem d_MD_loadOf_32 : decode b_MD_loadOf 32 = .ok (.iinc 3 1, 3) := by decide +kernel
theorem d_MD_loadOf_35 : decode b_MD_loadOf 35 = .ok (.goto (-31), 3) := by decide +kernel
theorem d_MD_loadOf_38 : decode b_MD_loadOf 38 = .ok (.iload_n 2, 1) := by decide +kernel
theorem d_MD_loadOf_39 : decode b_MD_loadOf 39 = .ok (.ireturn, 1) := by decide +kernel
theorem d_MD_place_0 : decode b_MD_place 0 = .ok (.aload_n 0, 1) := by decide +kernel
theorem d_MD_place_1 : decode b_MD_place 1 = .ok (.getfield 36, 3) := by decide +kernel
theorem d_MD_place_4 : decode b_MD_place 4 = .ok (.iload_n 1, 1) := by decide +kernel
theorem d_MD_place_5 : decode b_MD_place 5 = .ok (.iload_n 3, 1) := by decide +kernel
theorem d_MD_place_6 : decode b_MD_place 6 = .ok (.iastore, 1) := by decide +kernel
theorem d_MD_place_7 : decode b_MD_place 7 = .ok (.aload_n 0, 1) := by decide +kernel
theorem d_MD_place_8 : decode b_MD_place 8 = .ok (.getfield 39, 3) := by decide +kernel
theorem d_MD_place_11 : decode b_MD_place 11 = .ok (.iload_n 1, 1) := by decide +kernel
theorem d_MD_place_12 : decode b_MD_place 12 = .ok (.iload_n 2, 1) := by decide +kernel
theorem d_MD_place_13 : decode b_MD_place 13 = .ok (.ifCond .ge 7, 3) := by decide +kernel
theorem d_MD_place_16 : decode b_MD_place 16 = .ok (.iconst 0, 1) := by decide +kernel
theorem d_MD_place_17 : decode b_MD_place 17 = .ok (.goto 9, 3) := by decide +kernel
theorem d_MD_place_20 : decode b_MD_place 20 = .ok (.aload_n 0, 1) := by decide +kernel
theorem d_MD_place_21 : decode b_MD_place 21 = .ok (.getfield 39, 3) := by decide +kernel
theorem d_MD_place_24 : decode b_MD_place 24 = .ok (.iload_n 2, 1) := by decide +kernel
theorem d_MD_place_25 : decode b_MD_place 25 = .ok (.iaload, 1) := by decide +kernel
theorem d_MD_place_26 : decode b_MD_place 26 = .ok (.iastore, 1) := by decide +kernel
theorem d_MD_place_27 : decode b_MD_place 27 = .ok (.iconst 0, 1) := by decide +kernel
theorem d_MD_place_28 : decode b_MD_place 28 = .ok (.istore 4, 2) := by decide +kernel
theorem d_MD_place_30 : decode b_MD_place 30 = .ok (.iload 4, 2) := by decide +kernel
theorem d_MD_place_32 : decode b_MD_place 32 = .ok (.iconst 4, 1) := by decide +kernel
theorem d_MD_place_33 : decode b_MD_place 33 = .ok (.if_icmp .ge 39, 3) := by decide +kernel
theorem d_MD_place_36 : decode b_MD_place 36 = .ok (.aload_n 0, 1) := by decide +kernel
theorem d_MD_place_37 : decode b_MD_place 37 = .ok (.getfield 42, 3) := by decide +kernel
theorem d_MD_place_40 : decode b_MD_place 40 = .ok (.iconst 4, 1) := by decide +kernel
theorem d_MD_place_41 : decode b_MD_place 41 = .ok (.iload_n 1, 1) := by decide +kernel
theorem d_MD_place_42 : decode b_MD_place 42 = .ok (.imul, 1) := by decide +kernel
theorem d_MD_place_43 : decode b_MD_place 43 = .ok (.iload 4, 2) := by decide +kernel
theorem d_MD_place_45 : decode b_MD_place 45 = .ok (.iadd, 1) := by decide +kernel
theorem d_MD_place_46 : decode b_MD_place 46 = .ok (.iload_n 2, 1) := by decide +kernel
theorem d_MD_place_47 : decode b_MD_place 47 = .ok (.ifCond .ge 7, 3) := by decide +kernel
theorem d_MD_place_50 : decode b_MD_place 50 = .ok (.iconst 0, 1) := by decide +kernel
theorem d_MD_place_51 : decode b_MD_place 51 = .ok (.goto 14, 3) := by decide +kernel
theorem d_MD_place_54 : decode b_MD_place 54 = .ok (.aload_n 0, 1) := by decide +kernel
theorem d_MD_place_55 : decode b_MD_place 55 = .ok (.getfield 42, 3) := by decide +kernel
theorem d_MD_place_58 : decode b_MD_place 58 = .ok (.iconst 4, 1) := by decide +kernel
theorem d_MD_place_59 : decode b_MD_place 59 = .ok (.iload_n 2, 1) := by decide +kernel
theorem d_MD_place_60 : decode b_MD_place 60 = .ok (.imul, 1) := by decide +kernel
theorem d_MD_place_61 : decode b_MD_place 61 = .ok (.iload 4, 2) := by decide +kernel
theorem d_MD_place_63 : decode b_MD_place 63 = .ok (.iadd, 1) := by decide +kernel
theorem d_MD_place_64 : decode b_MD_place 64 = .ok (.iaload, 1) := by decide +kernel
theorem d_MD_place_65 : decode b_MD_place 65 = .ok (.iastore, 1) := by decide +kernel
theorem d_MD_place_66 : decode b_MD_place 66 = .ok (.iinc 4 1, 3) := by decide +kernel
theorem d_MD_place_69 : decode b_MD_place 69 = .ok (.goto (-39), 3) := by decide +kernel
theorem d_MD_place_72 : decode b_MD_place 72 = .ok (.return_, 1) := by decide +kernel
theorem d_MD_locate_0 : decode b_MD_locate 0 = .ok (.aload_n 0, 1) := by decide +kernel
theorem d_MD_locate_1 : decode b_MD_locate 1 = .ok (.aload_n 0, 1) := by decide +kernel
theorem d_MD_locate_2 : decode b_MD_locate 2 = .ok (.iload_n 1, 1) := by decide +kernel
theorem d_MD_locate_3 : decode b_MD_locate 3 = .ok (.iconst 3, 1) := by decide +kernel
theorem d_MD_locate_4 : decode b_MD_locate 4 = .ok (.invokevirtual 63, 3) := by decide +kernel
theorem d_MD_locate_7 : decode b_MD_locate 7 = .ok (.ifCond .ne 22, 3) := by decide +kernel
theorem d_MD_locate_10 : decode b_MD_locate 10 = .ok (.aload_n 0, 1) := by decide +kernel
theorem d_MD_locate_11 : decode b_MD_locate 11 = .ok (.iload_n 2, 1) := by decide +kernel
theorem d_MD_locate_12 : decode b_MD_locate 12 = .ok (.bipush 8, 2) := by decide +kernel
theorem d_MD_locate_14 : decode b_MD_locate 14 = .ok (.invokevirtual 63, 3) := by decide +kernel
theorem d_MD_locate_17 : decode b_MD_locate 17 = .ok (.ifCond .ne 12, 3) := by decide +kernel
theorem d_MD_locate_20 : decode b_MD_locate 20 = .ok (.aload_n 0, 1) := by decide +kernel
theorem d_MD_locate_21 : decode b_MD_locate 21 = .ok (.iload_n 3, 1) := by decide +kernel
theorem d_MD_locate_22 : decode b_MD_locate 22 = .ok (.iconst 3, 1) := by decide +kernel
theorem d_MD_locate_23 : decode b_MD_locate 23 = .ok (.invokevirtual 63, 3) := by decide +kernel
theorem d_MD_locate_26 : decode b_MD_locate 26 = .ok (.ifCond .eq 7, 3) := by decide +kernel
theorem d_MD_locate_29 : decode b_MD_locate 29 = .ok (.iconst 1, 1) := by decide +kernel
theorem d_MD_locate_30 : decode b_MD_locate 30 = .ok (.goto 10, 3) := by decide +kernel
theorem d_MD_locate_33 : decode b_MD_locate 33 = .ok (.aload_n 0, 1) := by decide +kernel
theorem d_MD_locate_34 : decode b_MD_locate 34 = .ok (.iload_n 1, 1) := by decide +kernel
theorem d_MD_locate_35 : decode b_MD_locate 35 = .ok (.iload_n 2, 1) := by decide +kernel
theorem d_MD_locate_36 : decode b_MD_locate 36 = .ok (.iload_n 3, 1) := by decide +kernel
theorem d_MD_locate_37 : decode b_MD_locate 37 = .ok (.invokevirtual 94, 3) := by decide +kernel
theorem d_MD_locate_40 : decode b_MD_locate 40 = .ok (.putfield 59, 3) := by decide +kernel
theorem d_MD_locate_43 : decode b_MD_locate 43 = .ok (.aload_n 0, 1) := by decide +kernel
theorem d_MD_locate_44 : decode b_MD_locate 44 = .ok (.getfield 59, 3) := by decide +kernel
theorem d_MD_locate_47 : decode b_MD_locate 47 = .ok (.ifCond .le 7, 3) := by decide +kernel
theorem d_MD_locate_50 : decode b_MD_locate 50 = .ok (.iconst 0, 1) := by decide +kernel
theorem d_MD_locate_51 : decode b_MD_locate 51 = .ok (.goto 18, 3) := by decide +kernel
theorem d_MD_locate_54 : decode b_MD_locate 54 = .ok (.aload_n 0, 1) := by decide +kernel
theorem d_MD_locate_55 : decode b_MD_locate 55 = .ok (.getfield 48, 3) := by decide +kernel
theorem d_MD_locate_58 : decode b_MD_locate 58 = .ok (.bipush 24, 2) := by decide +kernel
theorem d_MD_locate_60 : decode b_MD_locate 60 = .ok (.iload_n 1, 1) := by decide +kernel
theorem d_MD_locate_61 : decode b_MD_locate 61 = .ok (.imul, 1) := by decide +kernel
theorem d_MD_locate_62 : decode b_MD_locate 62 = .ok (.iconst 3, 1) := by decide +kernel
theorem d_MD_locate_63 : decode b_MD_locate 63 = .ok (.iload_n 2, 1) := by decide +kernel
theorem d_MD_locate_64 : decode b_MD_locate 64 = .ok (.imul, 1) := by decide +kernel
theorem d_MD_locate_65 : decode b_MD_locate 65 = .ok (.iadd, 1) := by decide +kernel
theorem d_MD_locate_66 : decode b_MD_locate 66 = .ok (.iload_n 3, 1) := by decide +kernel
theorem d_MD_locate_67 : decode b_MD_locate 67 = .ok (.iadd, 1) := by decide +kernel
theorem d_MD_locate_68 : decode b_MD_locate 68 = .ok (.iaload, 1) := by decide +kernel
theorem d_MD_locate_69 : decode b_MD_locate 69 = .ok (.ireturn, 1) := by decide +kernel
theorem d_MD_find_0 : decode b_MD_find 0 = .ok (.aload_n 0, 1) := by decide +kernel
theorem d_MD_find_1 : decode b_MD_find 1 = .ok (.getfield 7, 3) := by decide +kernel
theorem d_MD_find_4 : decode b_MD_find 4 = .ok (.iload_n 2, 1) := by decide +kernel
theorem d_MD_find_5 : decode b_MD_find 5 = .ok (.iaload, 1) := by decide +kernel
theorem d_MD_find_6 : decode b_MD_find 6 = .ok (.iconst 1, 1) := by decide +kernel
theorem d_MD_find_7 : decode b_MD_find 7 = .ok (.if_icmp .eq 5, 3) := by decide +kernel
theorem d_MD_find_10 : decode b_MD_find 10 = .ok (.iconst 2, 1) := by decide +kernel
theorem d_MD_find_11 : decode b_MD_find 11 = .ok (.ireturn, 1) := by decide +kernel
theorem d_MD_find_12 : decode b_MD_find 12 = .ok (.iload_n 3, 1) := by decide +kernel
theorem d_MD_find_13 : decode b_MD_find 13 = .ok (.aload_n 0, 1) := by decide +kernel
theorem d_MD_find_14 : decode b_MD_find 14 = .ok (.getfield 20, 3) := by decide +kernel
theorem d_MD_find_17 : decode b_MD_find 17 = .ok (.iload_n 2, 1) := by decide +kernel
theorem d_MD_find_18 : decode b_MD_find 18 = .ok (.iaload, 1) := by decide +kernel
theorem d_MD_find_19 : decode b_MD_find 19 = .ok (.if_icmp .lt 5, 3) := by decide +kernel
theorem d_MD_find_22 : decode b_MD_find 22 = .ok (.iconst 3, 1) := by decide +kernel
theorem d_MD_find_23 : decode b_MD_find 23 = .ok (.ireturn, 1) := by decide +kernel
theorem d_MD_find_24 : decode b_MD_find 24 = .ok (.bipush 24, 2) := by decide +kernel
theorem d_MD_find_26 : decode b_MD_find 26 = .ok (.iload_n 1, 1) := by decide +kernel
theorem d_MD_find_27 : decode b_MD_find 27 = .ok (.imul, 1) := by decide +kernel
theorem d_MD_find_28 : decode b_MD_find 28 = .ok (.iconst 3, 1) := by decide +kernel
theorem d_MD_find_29 : decode b_MD_find 29 = .ok (.iload_n 2, 1) := by decide +kernel
theorem d_MD_find_30 : decode b_MD_find 30 = .ok (.imul, 1) := by decide +kernel
theorem d_MD_find_31 : decode b_MD_find 31 = .ok (.iadd, 1) := by decide +kernel
theorem d_MD_find_32 : decode b_MD_find 32 = .ok (.iload_n 3, 1) := by decide +kernel
theorem d_MD_find_33 : decode b_MD_find 33 = .ok (.iadd, 1) := by decide +kernel
theorem d_MD_find_34 : decode b_MD_find 34 = .ok (.istore 4, 2) := by decide +kernel
theorem d_MD_find_36 : decode b_MD_find 36 = .ok (.aload_n 0, 1) := by decide +kernel
theorem d_MD_find_37 : decode b_MD_find 37 = .ok (.getfield 54, 3) := by decide +kernel
theorem d_MD_find_40 : decode b_MD_find 40 = .ok (.iload 4, 2) := by decide +kernel
theorem d_MD_find_42 : decode b_MD_find 42 = .ok (.daload, 1) := by decide +kernel
theorem d_MD_find_43 : decode b_MD_find 43 = .ok (.aload_n 0, 1) := by decide +kernel
theorem d_MD_find_44 : decode b_MD_find 44 = .ok (.getfield 71, 3) := by decide +kernel
theorem d_MD_find_47 : decode b_MD_find 47 = .ok (.dcmp .l, 1) := by decide +kernel
theorem d_MD_find_48 : decode b_MD_find 48 = .ok (.ifCond .le 5, 3) := by decide +kernel
theorem d_MD_find_51 : decode b_MD_find 51 = .ok (.iconst 0, 1) := by decide +kernel
theorem d_MD_find_52 : decode b_MD_find 52 = .ok (.ireturn, 1) := by decide +kernel
theorem d_MD_find_53 : decode b_MD_find 53 = .ok (.aload_n 0, 1) := by decide +kernel
theorem d_MD_find_54 : decode b_MD_find 54 = .ok (.getfield 17, 3) := by decide +kernel
theorem d_MD_find_57 : decode b_MD_find 57 = .ok (.iconst 3, 1) := by decide +kernel
theorem d_MD_find_58 : decode b_MD_find 58 = .ok (.iload_n 2, 1) := by decide +kernel
theorem d_MD_find_59 : decode b_MD_find 59 = .ok (.imul, 1) := by decide +kernel
theorem d_MD_find_60 : decode b_MD_find 60 = .ok (.iload_n 3, 1) := by decide +kernel
theorem d_MD_find_61 : decode b_MD_find 61 = .ok (.iadd, 1) := by decide +kernel
theorem d_MD_find_62 : decode b_MD_find 62 = .ok (.iaload, 1) := by decide +kernel
theorem d_MD_find_63 : decode b_MD_find 63 = .ok (.istore 5, 2) := by decide +kernel
theorem d_MD_find_65 : decode b_MD_find 65 = .ok (.aload_n 0, 1) := by decide +kernel
theorem d_MD_find_66 : decode b_MD_find 66 = .ok (.getfield 45, 3) := by decide +kernel
theorem d_MD_find_69 : decode b_MD_find 69 = .ok (.iload 4, 2) := by decide +kernel
theorem d_MD_find_71 : decode b_MD_find 71 = .ok (.iload 5, 2) := by decide +kernel
theorem d_MD_find_73 : decode b_MD_find 73 = .ok (.iastore, 1) := by decide +kernel
theorem d_MD_find_74 : decode b_MD_find 74 = .ok (.aload_n 0, 1) := by decide +kernel
theorem d_MD_find_75 : decode b_MD_find 75 = .ok (.getfield 48, 3) := by decide +kernel
theorem d_MD_find_78 : decode b_MD_find 78 = .ok (.iload 4, 2) := by decide +kernel
theorem d_MD_find_80 : decode b_MD_find 80 = .ok (.aload_n 0, 1) := by decide +kernel
theorem d_MD_find_81 : decode b_MD_find 81 = .ok (.getfield 23, 3) := by decide +kernel
theorem d_MD_find_84 : decode b_MD_find 84 = .ok (.iload 5, 2) := by decide +kernel
theorem d_MD_find_86 : decode b_MD_find 86 = .ok (.iaload, 1) := by decide +kernel
theorem d_MD_find_87 : decode b_MD_find 87 = .ok (.iastore, 1) := by decide +kernel
theorem d_MD_find_88 : decode b_MD_find 88 = .ok (.aload_n 0, 1) := by decide +kernel
theorem d_MD_find_89 : decode b_MD_find 89 = .ok (.getfield 51, 3) := by decide +kernel
theorem d_MD_find_92 : decode b_MD_find 92 = .ok (.iload 4, 2) := by decide +kernel
theorem d_MD_find_94 : decode b_MD_find 94 = .ok (.aload_n 0, 1) := by decide +kernel
theorem d_MD_find_95 : decode b_MD_find 95 = .ok (.getfield 26, 3) := by decide +kernel
theorem d_MD_find_98 : decode b_MD_find 98 = .ok (.iload 5, 2) := by decide +kernel
theorem d_MD_find_100 : decode b_MD_find 100 = .ok (.iaload, 1) := by decide +kernel
theorem d_MD_find_101 : decode b_MD_find 101 = .ok (.iastore, 1) := by decide +kernel
theorem d_MD_find_102 : decode b_MD_find 102 = .ok (.aload_n 0, 1) := by decide +kernel
theorem d_MD_find_103 : decode b_MD_find 103 = .ok (.getfield 54, 3) := by decide +kernel
theorem d_MD_find_106 : decode b_MD_find 106 = .ok (.iload 4, 2) := by decide +kernel
theorem d_MD_find_108 : decode b_MD_find 108 = .ok (.aload_n 0, 1) := by decide +kernel
theorem d_MD_find_109 : decode b_MD_find 109 = .ok (.getfield 71, 3) := by decide +kernel
theorem d_MD_find_112 : decode b_MD_find 112 = .ok (.ldc2_w 92, 3) := by decide +kernel
theorem d_MD_find_115 : decode b_MD_find 115 = .ok (.dadd, 1) := by decide +kernel
theorem d_MD_find_116 : decode b_MD_find 116 = .ok (.dastore, 1) := by decide +kernel
theorem d_MD_find_117 : decode b_MD_find 117 = .ok (.iconst 0, 1) := by decide +kernel
theorem d_MD_find_118 : decode b_MD_find 118 = .ok (.ireturn, 1) := by decide +kernel
theorem d_MD_write_0 : decode b_MD_write 0 = .ok (.aload_n 0, 1) := by decide +kernel
theorem d_MD_write_1 : decode b_MD_write 1 = .ok (.iconst 0, 1) := by decide +kernel
theorem d_MD_write_2 : decode b_MD_write 2 = .ok (.putfield 59, 3) := by decide +kernel
theorem d_MD_write_5 : decode b_MD_write 5 = .ok (.aload_n 0, 1) := by decide +kernel
theorem d_MD_write_6 : decode b_MD_write 6 = .ok (.iload_n 1, 1) := by decide +kernel
theorem d_MD_write_7 : decode b_MD_write 7 = .ok (.bipush 8, 2) := by decide +kernel
theorem d_MD_write_9 : decode b_MD_write 9 = .ok (.invokevirtual 63, 3) := by decide +kernel
theorem d_MD_write_12 : decode b_MD_write 12 = .ok (.ifCond .ne 21, 3) := by decide +kernel
theorem d_MD_write_15 : decode b_MD_write 15 = .ok (.aload_n 0, 1) := by decide +kernel
theorem d_MD_write_16 : decode b_MD_write 16 = .ok (.iload_n 2, 1) := by decide +kernel
theorem d_MD_write_17 : decode b_MD_write 17 = .ok (.iconst 3, 1) := by decide +kernel
theorem d_MD_write_18 : decode b_MD_write 18 = .ok (.invokevirtual 63, 3) := by decide +kernel
theorem d_MD_write_21 : decode b_MD_write 21 = .ok (.ifCond .ne 12, 3) := by decide +kernel
theorem d_MD_write_24 : decode b_MD_write 24 = .ok (.aload_n 0, 1) := by decide +kernel
theorem d_MD_write_25 : decode b_MD_write 25 = .ok (.iload_n 3, 1) := by decide +kernel
theorem d_MD_write_26 : decode b_MD_write 26 = .ok (.iconst 4, 1) := by decide +kernel
theorem d_MD_write_27 : decode b_MD_write 27 = .ok (.invokevirtual 63, 3) := by decide +kernel
theorem d_MD_write_30 : decode b_MD_write 30 = .ok (.ifCond .eq 9, 3) := by decide +kernel
theorem d_MD_write_33 : decode b_MD_write 33 = .ok (.aload_n 0, 1) := by decide +kernel
theorem d_MD_write_34 : decode b_MD_write 34 = .ok (.iconst 1, 1) := by decide +kernel
theorem d_MD_write_35 : decode b_MD_write 35 = .ok (.invokevirtual 67, 3) := by decide +kernel
theorem d_MD_write_38 : decode b_MD_write 38 = .ok (.ireturn, 1) := by decide +kernel
theorem d_MD_write_39 : decode b_MD_write 39 = .ok (.aload_n 0, 1) := by decide +kernel
theorem d_MD_write_40 : decode b_MD_write 40 = .ok (.getfield 7, 3) := by decide +kernel
theorem d_MD_write_43 : decode b_MD_write 43 = .ok (.iload_n 1, 1) := by decide +kernel
theorem d_MD_write_44 : decode b_MD_write 44 = .ok (.iaload, 1) := by decide +kernel
theorem d_MD_write_45 : decode b_MD_write 45 = .ok (.iconst 1, 1) := by decide +kernel
theorem d_MD_write_46 : decode b_MD_write 46 = .ok (.if_icmp .eq 9, 3) := by decide +kernel
theorem d_MD_write_49 : decode b_MD_write 49 = .ok (.aload_n 0, 1) := by decide +kernel
theorem d_MD_write_50 : decode b_MD_write 50 = .ok (.iconst 2, 1) := by decide +kernel
theorem d_MD_write_51 : decode b_MD_write 51 = .ok (.invokevirtual 67, 3) := by decide +kernel
theorem d_MD_write_54 : decode b_MD_write 54 = .ok (.ireturn, 1) := by decide +kernel
theorem d_MD_write_55 : decode b_MD_write 55 = .ok (.iload_n 2, 1) := by decide +kernel
theorem d_MD_write_56 : decode b_MD_write 56 = .ok (.aload_n 0, 1) := by decide +kernel
theorem d_MD_write_57 : decode b_MD_write 57 = .ok (.getfield 20, 3) := by decide +kernel
theorem d_MD_write_60 : decode b_MD_write 60 = .ok (.iload_n 1, 1) := by decide +kernel
theorem d_MD_write_61 : decode b_MD_write 61 = .ok (.iaload, 1) := by decide +kernel
theorem d_MD_write_62 : decode b_MD_write 62 = .ok (.if_icmp .lt 9, 3) := by decide +kernel
theorem d_MD_write_65 : decode b_MD_write 65 = .ok (.aload_n 0, 1) := by decide +kernel
theorem d_MD_write_66 : decode b_MD_write 66 = .ok (.iconst 5, 1) := by decide +kernel
theorem d_MD_write_67 : decode b_MD_write 67 = .ok (.invokevirtual 67, 3) := by decide +kernel
theorem d_MD_write_70 : decode b_MD_write 70 = .ok (.ireturn, 1) := by decide +kernel
theorem d_MD_write_71 : decode b_MD_write 71 = .ok (.aload_n 0, 1) := by decide +kernel
theorem d_MD_write_72 : decode b_MD_write 72 = .ok (.iload_n 1, 1) := by decide +kernel
theorem d_MD_write_73 : decode b_MD_write 73 = .ok (.iload_n 2, 1) := by decide +kernel
theorem d_MD_write_74 : decode b_MD_write 74 = .ok (.invokevirtual 106, 3) := by decide +kernel
theorem d_MD_write_77 : decode b_MD_write 77 = .ok (.istore 5, 2) := by decide +kernel
theorem d_MD_write_79 : decode b_MD_write 79 = .ok (.iload 5, 2) := by decide +kernel
theorem d_MD_write_81 : decode b_MD_write 81 = .ok (.ifCond .le 10, 3) := by decide +kernel
theorem d_MD_write_84 : decode b_MD_write 84 = .ok (.aload_n 0, 1) := by decide +kernel
theorem d_MD_write_85 : decode b_MD_write 85 = .ok (.iload 5, 2) := by decide +kernel
theorem d_MD_write_87 : decode b_MD_write 87 = .ok (.invokevirtual 67, 3) := by decide +kernel
theorem d_MD_write_90 : decode b_MD_write 90 = .ok (.ireturn, 1) := by decide +kernel
theorem d_MD_write_91 : decode b_MD_write 91 = .ok (.aload_n 0, 1) := by decide +kernel
theorem d_MD_write_92 : decode b_MD_write 92 = .ok (.getfield 17, 3) := by decide +kernel
theorem d_MD_write_95 : decode b_MD_write 95 = .ok (.iconst 3, 1) := by decide +kernel
theorem d_MD_write_96 : decode b_MD_write 96 = .ok (.iload_n 1, 1) := by decide +kernel
theorem d_MD_write_97 : decode b_MD_write 97 = .ok (.imul, 1) := by decide +kernel
theorem d_MD_write_98 : decode b_MD_write 98 = .ok (.iload_n 2, 1) := by decide +kernel
theorem d_MD_write_99 : decode b_MD_write 99 = .ok (.iadd, 1) := by decide +kernel
theorem d_MD_write_100 : decode b_MD_write 100 = .ok (.iaload, 1) := by decide +kernel
theorem d_MD_write_101 : decode b_MD_write 101 = .ok (.istore 6, 2) := by decide +kernel
theorem d_MD_write_103 : decode b_MD_write 103 = .ok (.aload_n 0, 1) := by decide +kernel
theorem d_MD_write_104 : decode b_MD_write 104 = .ok (.iload 6, 2) := by decide +kernel
theorem d_MD_write_106 : decode b_MD_write 106 = .ok (.iload_n 3, 1) := by decide +kernel
theorem d_MD_write_107 : decode b_MD_write 107 = .ok (.iload 4, 2) := by decide +kernel
theorem d_MD_write_109 : decode b_MD_write 109 = .ok (.invokevirtual 109, 3) := by decide +kernel
theorem d_MD_write_112 : decode b_MD_write 112 = .ok (.aload_n 0, 1) := by decide +kernel
theorem d_MD_write_113 : decode b_MD_write 113 = .ok (.getfield 23, 3) := by decide +kernel
theorem d_MD_write_116 : decode b_MD_write 116 = .ok (.iload 6, 2) := by decide +kernel
theorem d_MD_write_118 : decode b_MD_write 118 = .ok (.iaload, 1) := by decide +kernel
theorem d_MD_write_119 : decode b_MD_write 119 = .ok (.ireturn, 1) := by decide +kernel
theorem d_MD_takeLease_0 : decode b_MD_takeLease 0 = .ok (.aload_n 0, 1) := by decide +kernel
theorem d_MD_takeLease_1 : decode b_MD_takeLease 1 = .ok (.getfield 17, 3) := by decide +kernel
theorem d_MD_takeLease_4 : decode b_MD_takeLease 4 = .ok (.iconst 3, 1) := by decide +kernel
theorem d_MD_takeLease_5 : decode b_MD_takeLease 5 = .ok (.iload_n 1, 1) := by decide +kernel
theorem d_MD_takeLease_6 : decode b_MD_takeLease 6 = .ok (.imul, 1) := by decide +kernel
theorem d_MD_takeLease_7 : decode b_MD_takeLease 7 = .ok (.iload_n 2, 1) := by decide +kernel
theorem d_MD_takeLease_8 : decode b_MD_takeLease 8 = .ok (.iadd, 1) := by decide +kernel
theorem d_MD_takeLease_9 : decode b_MD_takeLease 9 = .ok (.iaload, 1) := by decide +kernel
theorem d_MD_takeLease_10 : decode b_MD_takeLease 10 = .ok (.istore_n 3, 1) := by decide +kernel
theorem d_MD_takeLease_11 : decode b_MD_takeLease 11 = .ok (.aload_n 0, 1) := by decide +kernel
theorem d_MD_takeLease_12 : decode b_MD_takeLease 12 = .ok (.iload_n 3, 1) := by decide +kernel
theorem d_MD_takeLease_13 : decode b_MD_takeLease 13 = .ok (.invokevirtual 98, 3) := by decide +kernel
theorem d_MD_takeLease_16 : decode b_MD_takeLease 16 = .ok (.istore 4, 2) := by decide +kernel
theorem d_MD_takeLease_18 : decode b_MD_takeLease 18 = .ok (.aload_n 0, 1) := by decide +kernel
theorem d_MD_takeLease_19 : decode b_MD_takeLease 19 = .ok (.getfield 29, 3) := by decide +kernel
theorem d_MD_takeLease_22 : decode b_MD_takeLease 22 = .ok (.iload_n 3, 1) := by decide +kernel
theorem d_MD_takeLease_23 : decode b_MD_takeLease 23 = .ok (.daload, 1) := by decide +kernel
theorem d_MD_takeLease_24 : decode b_MD_takeLease 24 = .ok (.aload_n 0, 1) := by decide +kernel
theorem d_MD_takeLease_25 : decode b_MD_takeLease 25 = .ok (.getfield 71, 3) := by decide +kernel
theorem d_MD_takeLease_28 : decode b_MD_takeLease 28 = .ok (.dcmp .l, 1) := by decide +kernel
theorem d_MD_takeLease_29 : decode b_MD_takeLease 29 = .ok (.ifCond .le 16, 3) := by decide +kernel
theorem d_MD_takeLease_32 : decode b_MD_takeLease 32 = .ok (.iload 4, 2) := by decide +kernel
theorem d_MD_takeLease_34 : decode b_MD_takeLease 34 = .ok (.aload_n 0, 1) := by decide +kernel
theorem d_MD_takeLease_35 : decode b_MD_takeLease 35 = .ok (.getfield 26, 3) := by decide +kernel
theorem d_MD_takeLease_38 : decode b_MD_takeLease 38 = .ok (.iload_n 3, 1) := by decide +kernel
theorem d_MD_takeLease_39 : decode b_MD_takeLease 39 = .ok (.iaload, 1) := by decide +kernel
theorem d_MD_takeLease_40 : decode b_MD_takeLease 40 = .ok (.if_icmp .ne 5, 3) := by decide +kernel
theorem d_MD_takeLease_43 : decode b_MD_takeLease 43 = .ok (.iconst 0, 1) := by decide +kernel
theorem d_MD_takeLease_44 : decode b_MD_takeLease 44 = .ok (.ireturn, 1) := by decide +kernel
theorem d_MD_takeLease_45 : decode b_MD_takeLease 45 = .ok (.iload 4, 2) := by decide +kernel
theorem d_MD_takeLease_47 : decode b_MD_takeLease 47 = .ok (.ifCond .ne 5, 3) := by decide +kernel
theorem d_MD_takeLease_50 : decode b_MD_takeLease 50 = .ok (.iconst 3, 1) := by decide +kernel
theorem d_MD_takeLease_51 : decode b_MD_takeLease 51 = .ok (.ireturn, 1) := by decide +kernel
theorem d_MD_takeLease_52 : decode b_MD_takeLease 52 = .ok (.aload_n 0, 1) := by decide +kernel
theorem d_MD_takeLease_53 : decode b_MD_takeLease 53 = .ok (.iload_n 3, 1) := by decide +kernel
theorem d_MD_takeLease_54 : decode b_MD_takeLease 54 = .ok (.invokevirtual 101, 3) := by decide +kernel
theorem d_MD_takeLease_57 : decode b_MD_takeLease 57 = .ok (.iconst 1, 1) := by decide +kernel
theorem d_MD_takeLease_58 : decode b_MD_takeLease 58 = .ok (.if_icmp .le 152, 3) := by decide +kernel
theorem d_MD_takeLease_61 : decode b_MD_takeLease 61 = .ok (.aload_n 0, 1) := by decide +kernel
theorem d_MD_takeLease_62 : decode b_MD_takeLease 62 = .ok (.getfield 78, 3) := by decide +kernel
theorem d_MD_takeLease_65 : decode b_MD_takeLease 65 = .ok (.bipush 30, 2) := by decide +kernel
theorem d_MD_takeLease_67 : decode b_MD_takeLease 67 = .ok (.if_icmp .ne 5, 3) := by decide +kernel
theorem d_MD_takeLease_70 : decode b_MD_takeLease 70 = .ok (.iconst 5, 1) := by decide +kernel
theorem d_MD_takeLease_71 : decode b_MD_takeLease 71 = .ok (.ireturn, 1) := by decide +kernel
theorem d_MD_takeLease_72 : decode b_MD_takeLease 72 = .ok (.iconst 0, 1) := by decide +kernel
theorem d_MD_takeLease_73 : decode b_MD_takeLease 73 = .ok (.istore 5, 2) := by decide +kernel
theorem d_MD_takeLease_75 : decode b_MD_takeLease 75 = .ok (.iload 5, 2) := by decide +kernel
theorem d_MD_takeLease_77 : decode b_MD_takeLease 77 = .ok (.iconst 5, 1) := by decide +kernel
theorem d_MD_takeLease_78 : decode b_MD_takeLease 78 = .ok (.if_icmp .ge 32, 3) := by decide +kernel
theorem d_MD_takeLease_81 : decode b_MD_takeLease 81 = .ok (.iload 4, 2) := by decide +kernel
theorem d_MD_takeLease_83 : decode b_MD_takeLease 83 = .ok (.iload 5, 2) := by decide +kernel
theorem d_MD_takeLease_85 : decode b_MD_takeLease 85 = .ok (.ishr, 1) := by decide +kernel
theorem d_MD_takeLease_86 : decode b_MD_takeLease 86 = .ok (.iconst 1, 1) := by decide +kernel
theorem d_MD_takeLease_87 : decode b_MD_takeLease 87 = .ok (.iand, 1) := by decide +kernel
theorem d_MD_takeLease_88 : decode b_MD_takeLease 88 = .ok (.ifCond .eq 16, 3) := by decide +kernel
theorem d_MD_takeLease_91 : decode b_MD_takeLease 91 = .ok (.aload_n 0, 1) := by decide +kernel
theorem d_MD_takeLease_92 : decode b_MD_takeLease 92 = .ok (.iload 5, 2) := by decide +kernel
theorem d_MD_takeLease_94 : decode b_MD_takeLease 94 = .ok (.invokevirtual 75, 3) := by decide +kernel
theorem d_MD_takeLease_97 : decode b_MD_takeLease 97 = .ok (.bipush 12, 2) := by decide +kernel
theorem d_MD_takeLease_99 : decode b_MD_takeLease 99 = .ok (.if_icmp .ne 5, 3) := by decide +kernel
theorem d_MD_takeLease_102 : decode b_MD_takeLease 102 = .ok (.iconst 4, 1) := by decide +kernel
theorem d_MD_takeLease_103 : decode b_MD_takeLease 103 = .ok (.ireturn, 1) := by decide +kernel
theorem d_MD_takeLease_104 : decode b_MD_takeLease 104 = .ok (.iinc 5 1, 3) := by decide +kernel
theorem d_MD_takeLease_107 : decode b_MD_takeLease 107 = .ok (.goto (-32), 3) := by decide +kernel
theorem d_MD_takeLease_110 : decode b_MD_takeLease 110 = .ok (.iconst 0, 1) := by decide +kernel
theorem d_MD_takeLease_111 : decode b_MD_takeLease 111 = .ok (.istore 5, 2) := by decide +kernel
theorem d_MD_takeLease_113 : decode b_MD_takeLease 113 = .ok (.iload 5, 2) := by decide +kernel
theorem d_MD_takeLease_115 : decode b_MD_takeLease 115 = .ok (.iconst 5, 1) := by decide +kernel
theorem d_MD_takeLease_116 : decode b_MD_takeLease 116 = .ok (.if_icmp .ge 41, 3) := by decide +kernel
theorem d_MD_takeLease_119 : decode b_MD_takeLease 119 = .ok (.iload 4, 2) := by decide +kernel
theorem d_MD_takeLease_121 : decode b_MD_takeLease 121 = .ok (.iload 5, 2) := by decide +kernel
theorem d_MD_takeLease_123 : decode b_MD_takeLease 123 = .ok (.ishr, 1) := by decide +kernel
theorem d_MD_takeLease_124 : decode b_MD_takeLease 124 = .ok (.iconst 1, 1) := by decide +kernel
theorem d_MD_takeLease_125 : decode b_MD_takeLease 125 = .ok (.iand, 1) := by decide +kernel
theorem d_MD_takeLease_126 : decode b_MD_takeLease 126 = .ok (.ifCond .eq 25, 3) := by decide +kernel
theorem d_MD_takeLease_129 : decode b_MD_takeLease 129 = .ok (.aload_n 0, 1) := by decide +kernel
theorem d_MD_takeLease_130 : decode b_MD_takeLease 130 = .ok (.bipush 30, 2) := by decide +kernel
theorem d_MD_takeLease_132 : decode b_MD_takeLease 132 = .ok (.iload 5, 2) := by decide +kernel
theorem d_MD_takeLease_134 : decode b_MD_takeLease 134 = .ok (.imul, 1) := by decide +kernel
theorem d_MD_takeLease_135 : decode b_MD_takeLease 135 = .ok (.aload_n 0, 1) := by decide +kernel
theorem d_MD_takeLease_136 : decode b_MD_takeLease 136 = .ok (.getfield 78, 3) := by decide +kernel
theorem d_MD_takeLease_139 : decode b_MD_takeLease 139 = .ok (.iadd, 1) := by decide +kernel
theorem d_MD_takeLease_140 : decode b_MD_takeLease 140 = .ok (.bipush 30, 2) := by decide +kernel
theorem d_MD_takeLease_142 : decode b_MD_takeLease 142 = .ok (.iload 5, 2) := by decide +kernel
theorem d_MD_takeLease_144 : decode b_MD_takeLease 144 = .ok (.imul, 1) := by decide +kernel
theorem d_MD_takeLease_145 : decode b_MD_takeLease 145 = .ok (.iload_n 3, 1) := by decide +kernel
theorem d_MD_takeLease_146 : decode b_MD_takeLease 146 = .ok (.iadd, 1) := by decide +kernel
theorem d_MD_takeLease_147 : decode b_MD_takeLease 147 = .ok (.iconst 1, 1) := by decide +kernel
theorem d_MD_takeLease_148 : decode b_MD_takeLease 148 = .ok (.invokevirtual 85, 3) := by decide +kernel
theorem d_MD_takeLease_151 : decode b_MD_takeLease 151 = .ok (.iinc 5 1, 3) := by decide +kernel
theorem d_MD_takeLease_154 : decode b_MD_takeLease 154 = .ok (.goto (-41), 3) := by decide +kernel
theorem d_MD_takeLease_157 : decode b_MD_takeLease 157 = .ok (.aload_n 0, 1) := by decide +kernel
theorem d_MD_takeLease_158 : decode b_MD_takeLease 158 = .ok (.getfield 23, 3) := by decide +kernel
theorem d_MD_takeLease_161 : decode b_MD_takeLease 161 = .ok (.aload_n 0, 1) := by decide +kernel
theorem d_MD_takeLease_162 : decode b_MD_takeLease 162 = .ok (.getfield 78, 3) := by decide +kernel
theorem d_MD_takeLease_165 : decode b_MD_takeLease 165 = .ok (.iconst 1, 1) := by decide +kernel
theorem d_MD_takeLease_166 : decode b_MD_takeLease 166 = .ok (.iastore, 1) := by decide +kernel
theorem d_MD_takeLease_167 : decode b_MD_takeLease 167 = .ok (.aload_n 0, 1) := by decide +kernel
theorem d_MD_takeLease_168 : decode b_MD_takeLease 168 = .ok (.getfield 26, 3) := by decide +kernel
theorem d_MD_takeLease_171 : decode b_MD_takeLease 171 = .ok (.aload_n 0, 1) := by decide +kernel
theorem d_MD_takeLease_172 : decode b_MD_takeLease 172 = .ok (.getfield 78, 3) := by decide +kernel
theorem d_MD_takeLease_175 : decode b_MD_takeLease 175 = .ok (.iload 4, 2) := by decide +kernel
theorem d_MD_takeLease_177 : decode b_MD_takeLease 177 = .ok (.iastore, 1) := by decide +kernel
theorem d_MD_takeLease_178 : decode b_MD_takeLease 178 = .ok (.aload_n 0, 1) := by decide +kernel
theorem d_MD_takeLease_179 : decode b_MD_takeLease 179 = .ok (.getfield 17, 3) := by decide +kernel
theorem d_MD_takeLease_182 : decode b_MD_takeLease 182 = .ok (.iconst 3, 1) := by decide +kernel
theorem d_MD_takeLease_183 : decode b_MD_takeLease 183 = .ok (.iload_n 1, 1) := by decide +kernel
theorem d_MD_takeLease_184 : decode b_MD_takeLease 184 = .ok (.imul, 1) := by decide +kernel
theorem d_MD_takeLease_185 : decode b_MD_takeLease 185 = .ok (.iload_n 2, 1) := by decide +kernel
theorem d_MD_takeLease_186 : decode b_MD_takeLease 186 = .ok (.iadd, 1) := by decide +kernel
theorem d_MD_takeLease_187 : decode b_MD_takeLease 187 = .ok (.aload_n 0, 1) := by decide +kernel
theorem d_MD_takeLease_188 : decode b_MD_takeLease 188 = .ok (.getfield 78, 3) := by decide +kernel
theorem d_MD_takeLease_191 : decode b_MD_takeLease 191 = .ok (.iastore, 1) := by decide +kernel
theorem d_MD_takeLease_192 : decode b_MD_takeLease 192 = .ok (.aload_n 0, 1) := by decide +kernel
theorem d_MD_takeLease_193 : decode b_MD_takeLease 193 = .ok (.getfield 78, 3) := by decide +kernel
theorem d_MD_takeLease_196 : decode b_MD_takeLease 196 = .ok (.istore_n 3, 1) := by decide +kernel
theorem d_MD_takeLease_197 : decode b_MD_takeLease 197 = .ok (.aload_n 0, 1) := by decide +kernel
theorem d_MD_takeLease_198 : decode b_MD_takeLease 198 = .ok (.dup, 1) := by decide +kernel
theorem d_MD_takeLease_199 : decode b_MD_takeLease 199 = .ok (.getfield 78, 3) := by decide +kernel
theorem d_MD_takeLease_202 : decode b_MD_takeLease 202 = .ok (.iconst 1, 1) := by decide +kernel
theorem d_MD_takeLease_203 : decode b_MD_takeLease 203 = .ok (.iadd, 1) := by decide +kernel
theorem d_MD_takeLease_204 : decode b_MD_takeLease 204 = .ok (.putfield 78, 3) := by decide +kernel
theorem d_MD_takeLease_207 : decode b_MD_takeLease 207 = .ok (.goto 64, 3) := by decide +kernel
theorem d_MD_takeLease_210 : decode b_MD_takeLease 210 = .ok (.aload_n 0, 1) := by decide +kernel
theorem d_MD_takeLease_211 : decode b_MD_takeLease 211 = .ok (.getfield 23, 3) := by decide +kernel
theorem d_MD_takeLease_214 : decode b_MD_takeLease 214 = .ok (.iload_n 3, 1) := by decide +kernel
theorem d_MD_takeLease_215 : decode b_MD_takeLease 215 = .ok (.dup2, 1) := by decide +kernel
theorem d_MD_takeLease_216 : decode b_MD_takeLease 216 = .ok (.iaload, 1) := by decide +kernel
theorem d_MD_takeLease_217 : decode b_MD_takeLease 217 = .ok (.iconst 1, 1) := by decide +kernel
theorem d_MD_takeLease_218 : decode b_MD_takeLease 218 = .ok (.iadd, 1) := by decide +kernel
theorem d_MD_takeLease_219 : decode b_MD_takeLease 219 = .ok (.iastore, 1) := by decide +kernel
theorem d_MD_takeLease_220 : decode b_MD_takeLease 220 = .ok (.aload_n 0, 1) := by decide +kernel
theorem d_MD_takeLease_221 : decode b_MD_takeLease 221 = .ok (.getfield 26, 3) := by decide +kernel
theorem d_MD_takeLease_224 : decode b_MD_takeLease 224 = .ok (.iload_n 3, 1) := by decide +kernel
theorem d_MD_takeLease_225 : decode b_MD_takeLease 225 = .ok (.iload 4, 2) := by decide +kernel
theorem d_MD_takeLease_227 : decode b_MD_takeLease 227 = .ok (.iastore, 1) := by decide +kernel
theorem d_MD_takeLease_228 : decode b_MD_takeLease 228 = .ok (.iconst 0, 1) := by decide +kernel
theorem d_MD_takeLease_229 : decode b_MD_takeLease 229 = .ok (.istore 5, 2) := by decide +kernel
theorem d_MD_takeLease_231 : decode b_MD_takeLease 231 = .ok (.iload 5, 2) := by decide +kernel
theorem d_MD_takeLease_233 : decode b_MD_takeLease 233 = .ok (.iconst 5, 1) := by decide +kernel
theorem d_MD_takeLease_234 : decode b_MD_takeLease 234 = .ok (.if_icmp .ge 37, 3) := by decide +kernel
theorem d_MD_takeLease_237 : decode b_MD_takeLease 237 = .ok (.iload 4, 2) := by decide +kernel
theorem d_MD_takeLease_239 : decode b_MD_takeLease 239 = .ok (.iload 5, 2) := by decide +kernel
theorem d_MD_takeLease_241 : decode b_MD_takeLease 241 = .ok (.ishr, 1) := by decide +kernel
theorem d_MD_takeLease_242 : decode b_MD_takeLease 242 = .ok (.iconst 1, 1) := by decide +kernel
theorem d_MD_takeLease_243 : decode b_MD_takeLease 243 = .ok (.iand, 1) := by decide +kernel
theorem d_MD_takeLease_244 : decode b_MD_takeLease 244 = .ok (.ifCond .eq 21, 3) := by decide +kernel
theorem d_MD_takeLease_247 : decode b_MD_takeLease 247 = .ok (.aload_n 0, 1) := by decide +kernel
theorem d_MD_takeLease_248 : decode b_MD_takeLease 248 = .ok (.getfield 36, 3) := by decide +kernel
theorem d_MD_takeLease_251 : decode b_MD_takeLease 251 = .ok (.bipush 30, 2) := by decide +kernel
theorem d_MD_takeLease_253 : decode b_MD_takeLease 253 = .ok (.iload 5, 2) := by decide +kernel
theorem d_MD_takeLease_255 : decode b_MD_takeLease 255 = .ok (.imul, 1) := by decide +kernel
theorem d_MD_takeLease_256 : decode b_MD_takeLease 256 = .ok (.iload_n 3, 1) := by decide +kernel
theorem d_MD_takeLease_257 : decode b_MD_takeLease 257 = .ok (.iadd, 1) := by decide +kernel
theorem d_MD_takeLease_258 : decode b_MD_takeLease 258 = .ok (.aload_n 0, 1) := by decide +kernel
theorem d_MD_takeLease_259 : decode b_MD_takeLease 259 = .ok (.getfield 23, 3) := by decide +kernel
theorem d_MD_takeLease_262 : decode b_MD_takeLease 262 = .ok (.iload_n 3, 1) := by decide +kernel
theorem d_MD_takeLease_263 : decode b_MD_takeLease 263 = .ok (.iaload, 1) := by decide +kernel
theorem d_MD_takeLease_264 : decode b_MD_takeLease 264 = .ok (.iastore, 1) := by decide +kernel
theorem d_MD_takeLease_265 : decode b_MD_takeLease 265 = .ok (.iinc 5 1, 3) := by decide +kernel
theorem d_MD_takeLease_268 : decode b_MD_takeLease 268 = .ok (.goto (-37), 3) := by decide +kernel
theorem d_MD_takeLease_271 : decode b_MD_takeLease 271 = .ok (.aload_n 0, 1) := by decide +kernel
theorem d_MD_takeLease_272 : decode b_MD_takeLease 272 = .ok (.getfield 29, 3) := by decide +kernel
theorem d_MD_takeLease_275 : decode b_MD_takeLease 275 = .ok (.iload_n 3, 1) := by decide +kernel
theorem d_MD_takeLease_276 : decode b_MD_takeLease 276 = .ok (.aload_n 0, 1) := by decide +kernel
theorem d_MD_takeLease_277 : decode b_MD_takeLease 277 = .ok (.getfield 71, 3) := by decide +kernel
theorem d_MD_takeLease_280 : decode b_MD_takeLease 280 = .ok (.ldc2_w 104, 3) := by decide +kernel
theorem d_MD_takeLease_283 : decode b_MD_takeLease 283 = .ok (.dadd, 1) := by decide +kernel
theorem d_MD_takeLease_284 : decode b_MD_takeLease 284 = .ok (.dastore, 1) := by decide +kernel
theorem d_MD_takeLease_285 : decode b_MD_takeLease 285 = .ok (.iconst 0, 1) := by decide +kernel
theorem d_MD_takeLease_286 : decode b_MD_takeLease 286 = .ok (.ireturn, 1) := by decide +kernel
theorem d_MD_live_0 : decode b_MD_live 0 = .ok (.iconst 0, 1) := by decide +kernel
theorem d_MD_live_1 : decode b_MD_live 1 = .ok (.istore_n 2, 1) := by decide +kernel
theorem d_MD_live_2 : decode b_MD_live 2 = .ok (.iconst 0, 1) := by decide +kernel
theorem d_MD_live_3 : decode b_MD_live 3 = .ok (.istore_n 3, 1) := by decide +kernel
theorem d_MD_live_4 : decode b_MD_live 4 = .ok (.iload_n 3, 1) := by decide +kernel
theorem d_MD_live_5 : decode b_MD_live 5 = .ok (.iconst 5, 1) := by decide +kernel
theorem d_MD_live_6 : decode b_MD_live 6 = .ok (.if_icmp .ge 31, 3) := by decide +kernel
theorem d_MD_live_9 : decode b_MD_live 9 = .ok (.aload_n 0, 1) := by decide +kernel
theorem d_MD_live_10 : decode b_MD_live 10 = .ok (.getfield 32, 3) := by decide +kernel
theorem d_MD_live_13 : decode b_MD_live 13 = .ok (.iload_n 3, 1) := by decide +kernel
theorem d_MD_live_14 : decode b_MD_live 14 = .ok (.baload, 1) := by decide +kernel
theorem d_MD_live_15 : decode b_MD_live 15 = .ok (.ifCond .ne 16, 3) := by decide +kernel
theorem d_MD_live_18 : decode b_MD_live 18 = .ok (.iload_n 2, 1) := by decide +kernel
theorem d_MD_live_19 : decode b_MD_live 19 = .ok (.aload_n 0, 1) := by decide +kernel
theorem d_MD_live_20 : decode b_MD_live 20 = .ok (.getfield 26, 3) := by decide +kernel
theorem d_MD_live_23 : decode b_MD_live 23 = .ok (.iload_n 1, 1) := by decide +kernel
theorem d_MD_live_24 : decode b_MD_live 24 = .ok (.iaload, 1) := by decide +kernel
theorem d_MD_live_25 : decode b_MD_live 25 = .ok (.iconst 1, 1) := by decide +kernel
theorem d_MD_live_26 : decode b_MD_live 26 = .ok (.iload_n 3, 1) := by decide +kernel
theorem d_MD_live_27 : decode b_MD_live 27 = .ok (.ishl, 1) := by decide +kernel
theorem d_MD_live_28 : decode b_MD_live 28 = .ok (.iand, 1) := by decide +kernel
theorem d_MD_live_29 : decode b_MD_live 29 = .ok (.ior, 1) := by decide +kernel
theorem d_MD_live_30 : decode b_MD_live 30 = .ok (.istore_n 2, 1) := by decide +kernel
theorem d_MD_live_31 : decode b_MD_live 31 = .ok (.iinc 3 1, 3) := by decide +kernel
theorem d_MD_live_34 : decode b_MD_live 34 = .ok (.goto (-30), 3) := by decide +kernel
theorem d_MD_live_37 : decode b_MD_live 37 = .ok (.iload_n 2, 1) := by decide +kernel
theorem d_MD_live_38 : decode b_MD_live 38 = .ok (.ireturn, 1) := by decide +kernel
theorem d_MD_refs_0 : decode b_MD_refs 0 = .ok (.iconst 0, 1) := by decide +kernel
theorem d_MD_refs_1 : decode b_MD_refs 1 = .ok (.istore_n 2, 1) := by decide +kernel
theorem d_MD_refs_2 : decode b_MD_refs 2 = .ok (.iconst 0, 1) := by decide +kernel
theorem d_MD_refs_3 : decode b_MD_refs 3 = .ok (.istore_n 3, 1) := by decide +kernel
theorem d_MD_refs_4 : decode b_MD_refs 4 = .ok (.iload_n 3, 1) := by decide +kernel
theorem d_MD_refs_5 : decode b_MD_refs 5 = .ok (.bipush 8, 2) := by decide +kernel
theorem d_MD_refs_7 : decode b_MD_refs 7 = .ok (.if_icmp .ge 67, 3) := by decide +kernel
theorem d_MD_refs_10 : decode b_MD_refs 10 = .ok (.iconst 0, 1) := by decide +kernel
theorem d_MD_refs_11 : decode b_MD_refs 11 = .ok (.istore 4, 2) := by decide +kernel
theorem d_MD_refs_13 : decode b_MD_refs 13 = .ok (.iload 4, 2) := by decide +kernel
theorem d_MD_refs_15 : decode b_MD_refs 15 = .ok (.iconst 3, 1) := by decide +kernel
theorem d_MD_refs_16 : decode b_MD_refs 16 = .ok (.if_icmp .ge 52, 3) := by decide +kernel
theorem d_MD_refs_19 : decode b_MD_refs 19 = .ok (.iload_n 2, 1) := by decide +kernel
theorem d_MD_refs_20 : decode b_MD_refs 20 = .ok (.aload_n 0, 1) := by decide +kernel
theorem d_MD_refs_21 : decode b_MD_refs 21 = .ok (.getfield 7, 3) := by decide +kernel
theorem d_MD_refs_24 : decode b_MD_refs 24 = .ok (.iload_n 3, 1) := by decide +kernel
theorem d_MD_refs_25 : decode b_MD_refs 25 = .ok (.iaload, 1) := by decide +kernel
theorem d_MD_refs_26 : decode b_MD_refs 26 = .ok (.ifCond .eq 33, 3) := by decide +kernel
theorem d_MD_refs_29 : decode b_MD_refs 29 = .ok (.iload 4, 2) := by decide +kernel
theorem d_MD_refs_31 : decode b_MD_refs 31 = .ok (.aload_n 0, 1) := by decide +kernel
theorem d_MD_refs_32 : decode b_MD_refs 32 = .ok (.getfield 20, 3) := by decide +kernel
theorem d_MD_refs_35 : decode b_MD_refs 35 = .ok (.iload_n 3, 1) := by decide +kernel
theorem d_MD_refs_36 : decode b_MD_refs 36 = .ok (.iaload, 1) := by decide +kernel
theorem d_MD_refs_37 : decode b_MD_refs 37 = .ok (.if_icmp .ge 22, 3) := by decide +kernel
theorem d_MD_refs_40 : decode b_MD_refs 40 = .ok (.aload_n 0, 1) := by decide +kernel
theorem d_MD_refs_41 : decode b_MD_refs 41 = .ok (.getfield 17, 3) := by decide +kernel
theorem d_MD_refs_44 : decode b_MD_refs 44 = .ok (.iconst 3, 1) := by decide +kernel
theorem d_MD_refs_45 : decode b_MD_refs 45 = .ok (.iload_n 3, 1) := by decide +kernel
theorem d_MD_refs_46 : decode b_MD_refs 46 = .ok (.imul, 1) := by decide +kernel
theorem d_MD_refs_47 : decode b_MD_refs 47 = .ok (.iload 4, 2) := by decide +kernel
theorem d_MD_refs_49 : decode b_MD_refs 49 = .ok (.iadd, 1) := by decide +kernel
theorem d_MD_refs_50 : decode b_MD_refs 50 = .ok (.iaload, 1) := by decide +kernel
theorem d_MD_refs_51 : decode b_MD_refs 51 = .ok (.iload_n 1, 1) := by decide +kernel
theorem d_MD_refs_52 : decode b_MD_refs 52 = .ok (.if_icmp .ne 7, 3) := by decide +kernel
theorem d_MD_refs_55 : decode b_MD_refs 55 = .ok (.iconst 1, 1) := by decide +kernel
theorem d_MD_refs_56 : decode b_MD_refs 56 = .ok (.goto 4, 3) := by decide +kernel
theorem d_MD_refs_59 : decode b_MD_refs 59 = .ok (.iconst 0, 1) := by decide +kernel
theorem d_MD_refs_60 : decode b_MD_refs 60 = .ok (.iadd, 1) := by decide +kernel
theorem d_MD_refs_61 : decode b_MD_refs 61 = .ok (.istore_n 2, 1) := by decide +kernel
theorem d_MD_refs_62 : decode b_MD_refs 62 = .ok (.iinc 4 1, 3) := by decide +kernel
theorem d_MD_refs_65 : decode b_MD_refs 65 = .ok (.goto (-52), 3) := by decide +kernel
theorem d_MD_refs_68 : decode b_MD_refs 68 = .ok (.iinc 3 1, 3) := by decide +kernel
theorem d_MD_refs_71 : decode b_MD_refs 71 = .ok (.goto (-67), 3) := by decide +kernel
theorem d_MD_refs_74 : decode b_MD_refs 74 = .ok (.iload_n 2, 1) := by decide +kernel
theorem d_MD_refs_75 : decode b_MD_refs 75 = .ok (.ireturn, 1) := by decide +kernel
theorem d_MD_store_0 : decode b_MD_store 0 = .ok (.iconst 0, 1) := by decide +kernel
theorem d_MD_store_1 : decode b_MD_store 1 = .ok (.istore 4, 2) := by decide +kernel
theorem d_MD_store_3 : decode b_MD_store 3 = .ok (.iload 4, 2) := by decide +kernel
theorem d_MD_store_5 : decode b_MD_store 5 = .ok (.iconst 5, 1) := by decide +kernel
theorem d_MD_store_6 : decode b_MD_store 6 = .ok (.if_icmp .ge 70, 3) := by decide +kernel
theorem d_MD_store_9 : decode b_MD_store 9 = .ok (.aload_n 0, 1) := by decide +kernel
theorem d_MD_store_10 : decode b_MD_store 10 = .ok (.getfield 26, 3) := by decide +kernel
theorem d_MD_store_13 : decode b_MD_store 13 = .ok (.iload_n 1, 1) := by decide +kernel
theorem d_MD_store_14 : decode b_MD_store 14 = .ok (.iaload, 1) := by decide +kernel
theorem d_MD_store_15 : decode b_MD_store 15 = .ok (.iload 4, 2) := by decide +kernel
theorem d_MD_store_17 : decode b_MD_store 17 = .ok (.ishr, 1) := by decide +kernel
theorem d_MD_store_18 : decode b_MD_store 18 = .ok (.iconst 1, 1) := by decide +kernel
theorem d_MD_store_19 : decode b_MD_store 19 = .ok (.iand, 1) := by decide +kernel
theorem d_MD_store_20 : decode b_MD_store 20 = .ok (.ifCond .ne 6, 3) := by decide +kernel
theorem d_MD_store_23 : decode b_MD_store 23 = .ok (.goto 47, 3) := by decide +kernel
theorem d_MD_store_26 : decode b_MD_store 26 = .ok (.bipush 30, 2) := by decide +kernel
theorem d_MD_store_28 : decode b_MD_store 28 = .ok (.iload 4, 2) := by decide +kernel
theorem d_MD_store_30 : decode b_MD_store 30 = .ok (.imul, 1) := by decide +kernel
theorem d_MD_store_31 : decode b_MD_store 31 = .ok (.iload_n 1, 1) := by decide +kernel
theorem d_MD_store_32 : decode b_MD_store 32 = .ok (.iadd, 1) := by decide +kernel
theorem d_MD_store_33 : decode b_MD_store 33 = .ok (.istore 5, 2) := by decide +kernel
theorem d_MD_store_35 : decode b_MD_store 35 = .ok (.aload_n 0, 1) := by decide +kernel
theorem d_MD_store_36 : decode b_MD_store 36 = .ok (.getfield 42, 3) := by decide +kernel
theorem d_MD_store_39 : decode b_MD_store 39 = .ok (.iconst 4, 1) := by decide +kernel
theorem d_MD_store_40 : decode b_MD_store 40 = .ok (.iload 5, 2) := by decide +kernel
theorem d_MD_store_42 : decode b_MD_store 42 = .ok (.imul, 1) := by decide +kernel
theorem d_MD_store_43 : decode b_MD_store 43 = .ok (.iload_n 2, 1) := by decide +kernel
theorem d_MD_store_44 : decode b_MD_store 44 = .ok (.iadd, 1) := by decide +kernel
theorem d_MD_store_45 : decode b_MD_store 45 = .ok (.iload_n 3, 1) := by decide +kernel
theorem d_MD_store_46 : decode b_MD_store 46 = .ok (.iastore, 1) := by decide +kernel
theorem d_MD_store_47 : decode b_MD_store 47 = .ok (.aload_n 0, 1) := by decide +kernel
theorem d_MD_store_48 : decode b_MD_store 48 = .ok (.getfield 39, 3) := by decide +kernel
theorem d_MD_store_51 : decode b_MD_store 51 = .ok (.iload 5, 2) := by decide +kernel
theorem d_MD_store_53 : decode b_MD_store 53 = .ok (.iaload, 1) := by decide +kernel
theorem d_MD_store_54 : decode b_MD_store 54 = .ok (.iload_n 2, 1) := by decide +kernel
theorem d_MD_store_55 : decode b_MD_store 55 = .ok (.iconst 1, 1) := by decide +kernel
theorem d_MD_store_56 : decode b_MD_store 56 = .ok (.iadd, 1) := by decide +kernel
theorem d_MD_store_57 : decode b_MD_store 57 = .ok (.if_icmp .ge 13, 3) := by decide +kernel
theorem d_MD_store_60 : decode b_MD_store 60 = .ok (.aload_n 0, 1) := by decide +kernel
theorem d_MD_store_61 : decode b_MD_store 61 = .ok (.getfield 39, 3) := by decide +kernel
theorem d_MD_store_64 : decode b_MD_store 64 = .ok (.iload 5, 2) := by decide +kernel
theorem d_MD_store_66 : decode b_MD_store 66 = .ok (.iload_n 2, 1) := by decide +kernel
theorem d_MD_store_67 : decode b_MD_store 67 = .ok (.iconst 1, 1) := by decide +kernel
theorem d_MD_store_68 : decode b_MD_store 68 = .ok (.iadd, 1) := by decide +kernel
theorem d_MD_store_69 : decode b_MD_store 69 = .ok (.iastore, 1) := by decide +kernel
theorem d_MD_store_70 : decode b_MD_store 70 = .ok (.iinc 4 1, 3) := by decide +kernel
theorem d_MD_store_73 : decode b_MD_store 73 = .ok (.goto (-70), 3) := by decide +kernel
theorem d_MD_store_76 : decode b_MD_store 76 = .ok (.return_, 1) := by decide +kernel
theorem d_MD_append_0 : decode b_MD_append 0 = .ok (.aload_n 0, 1) := by decide +kernel
theorem d_MD_append_1 : decode b_MD_append 1 = .ok (.iconst 0, 1) := by decide +kernel
theorem d_MD_append_2 : decode b_MD_append 2 = .ok (.putfield 59, 3) := by decide +kernel
theorem d_MD_append_5 : decode b_MD_append 5 = .ok (.aload_n 0, 1) := by decide +kernel
theorem d_MD_append_6 : decode b_MD_append 6 = .ok (.iload_n 1, 1) := by decide +kernel
theorem d_MD_append_7 : decode b_MD_append 7 = .ok (.bipush 8, 2) := by decide +kernel
theorem d_MD_append_9 : decode b_MD_append 9 = .ok (.invokevirtual 63, 3) := by decide +kernel
theorem d_MD_append_12 : decode b_MD_append 12 = .ok (.ifCond .eq 9, 3) := by decide +kernel
theorem d_MD_append_15 : decode b_MD_append 15 = .ok (.aload_n 0, 1) := by decide +kernel
theorem d_MD_append_16 : decode b_MD_append 16 = .ok (.iconst 1, 1) := by decide +kernel
theorem d_MD_append_17 : decode b_MD_append 17 = .ok (.invokevirtual 67, 3) := by decide +kernel
theorem d_MD_append_20 : decode b_MD_append 20 = .ok (.ireturn, 1) := by decide +kernel
theorem d_MD_append_21 : decode b_MD_append 21 = .ok (.aload_n 0, 1) := by decide +kernel
theorem d_MD_append_22 : decode b_MD_append 22 = .ok (.getfield 7, 3) := by decide +kernel
theorem d_MD_append_25 : decode b_MD_append 25 = .ok (.iload_n 1, 1) := by decide +kernel
theorem d_MD_append_26 : decode b_MD_append 26 = .ok (.iaload, 1) := by decide +kernel
theorem d_MD_append_27 : decode b_MD_append 27 = .ok (.iconst 1, 1) := by decide +kernel
theorem d_MD_append_28 : decode b_MD_append 28 = .ok (.if_icmp .eq 9, 3) := by decide +kernel
theorem d_MD_append_31 : decode b_MD_append 31 = .ok (.aload_n 0, 1) := by decide +kernel
theorem d_MD_append_32 : decode b_MD_append 32 = .ok (.iconst 2, 1) := by decide +kernel
theorem d_MD_append_33 : decode b_MD_append 33 = .ok (.invokevirtual 67, 3) := by decide +kernel
theorem d_MD_append_36 : decode b_MD_append 36 = .ok (.ireturn, 1) := by decide +kernel
theorem d_MD_append_37 : decode b_MD_append 37 = .ok (.aload_n 0, 1) := by decide +kernel
theorem d_MD_append_38 : decode b_MD_append 38 = .ok (.getfield 20, 3) := by decide +kernel
theorem d_MD_append_41 : decode b_MD_append 41 = .ok (.iload_n 1, 1) := by decide +kernel
theorem d_MD_append_42 : decode b_MD_append 42 = .ok (.iaload, 1) := by decide +kernel
theorem d_MD_append_43 : decode b_MD_append 43 = .ok (.ifCond .eq 28, 3) := by decide +kernel
theorem d_MD_append_46 : decode b_MD_append 46 = .ok (.aload_n 0, 1) := by decide +kernel
theorem d_MD_append_47 : decode b_MD_append 47 = .ok (.aload_n 0, 1) := by decide +kernel
theorem d_MD_append_48 : decode b_MD_append 48 = .ok (.getfield 17, 3) := by decide +kernel
theorem d_MD_append_51 : decode b_MD_append 51 = .ok (.iconst 3, 1) := by decide +kernel
theorem d_MD_append_52 : decode b_MD_append 52 = .ok (.iload_n 1, 1) := by decide +kernel
theorem d_MD_append_53 : decode b_MD_append 53 = .ok (.imul, 1) := by decide +kernel
theorem d_MD_append_54 : decode b_MD_append 54 = .ok (.aload_n 0, 1) := by decide +kernel
theorem d_MD_append_55 : decode b_MD_append 55 = .ok (.getfield 20, 3) := by decide +kernel
theorem d_MD_append_58 : decode b_MD_append 58 = .ok (.iload_n 1, 1) := by decide +kernel
theorem d_MD_append_59 : decode b_MD_append 59 = .ok (.iaload, 1) := by decide +kernel
theorem d_MD_append_60 : decode b_MD_append 60 = .ok (.iadd, 1) := by decide +kernel
theorem d_MD_append_61 : decode b_MD_append 61 = .ok (.iconst 1, 1) := by decide +kernel
theorem d_MD_append_62 : decode b_MD_append 62 = .ok (.isub, 1) := by decide +kernel
theorem d_MD_append_63 : decode b_MD_append 63 = .ok (.iaload, 1) := by decide +kernel
theorem d_MD_append_64 : decode b_MD_append 64 = .ok (.invokevirtual 115, 3) := by decide +kernel
theorem d_MD_append_67 : decode b_MD_append 67 = .ok (.iconst 4, 1) := by decide +kernel
theorem d_MD_append_68 : decode b_MD_append 68 = .ok (.if_icmp .ne 28, 3) := by decide +kernel
theorem d_MD_append_71 : decode b_MD_append 71 = .ok (.aload_n 0, 1) := by decide +kernel
theorem d_MD_append_72 : decode b_MD_append 72 = .ok (.iload_n 1, 1) := by decide +kernel
theorem d_MD_append_73 : decode b_MD_append 73 = .ok (.invokevirtual 89, 3) := by decide +kernel
theorem d_MD_append_76 : decode b_MD_append 76 = .ok (.istore_n 3, 1) := by decide +kernel
theorem d_MD_append_77 : decode b_MD_append 77 = .ok (.iload_n 3, 1) := by decide +kernel
theorem d_MD_append_78 : decode b_MD_append 78 = .ok (.ifCond .le 18, 3) := by decide +kernel
theorem d_MD_append_81 : decode b_MD_append 81 = .ok (.aload_n 0, 1) := by decide +kernel
theorem d_MD_append_82 : decode b_MD_append 82 = .ok (.iload_n 3, 1) := by decide +kernel
theorem d_MD_append_83 : decode b_MD_append 83 = .ok (.iconst 1, 1) := by decide +kernel
theorem d_MD_append_84 : decode b_MD_append 84 = .ok (.if_icmp .ne 7, 3) := by decide +kernel
theorem d_MD_append_87 : decode b_MD_append 87 = .ok (.iconst 5, 1) := by decide +kernel
theorem d_MD_append_88 : decode b_MD_append 88 = .ok (.goto 4, 3) := by decide +kernel
theorem d_MD_append_91 : decode b_MD_append 91 = .ok (.iconst 3, 1) := by decide +kernel
theorem d_MD_append_92 : decode b_MD_append 92 = .ok (.invokevirtual 67, 3) := by decide +kernel
theorem d_MD_append_95 : decode b_MD_append 95 = .ok (.ireturn, 1) := by decide +kernel
theorem d_MD_append_96 : decode b_MD_append 96 = .ok (.aload_n 0, 1) := by decide +kernel
theorem d_MD_append_97 : decode b_MD_append 97 = .ok (.getfield 20, 3) := by decide +kernel
theorem d_MD_append_100 : decode b_MD_append 100 = .ok (.iload_n 1, 1) := by decide +kernel
theorem d_MD_append_101 : decode b_MD_append 101 = .ok (.iaload, 1) := by decide +kernel
theorem d_MD_append_102 : decode b_MD_append 102 = .ok (.iconst 1, 1) := by decide +kernel
theorem d_MD_append_103 : decode b_MD_append 103 = .ok (.isub, 1) := by decide +kernel
theorem d_MD_append_104 : decode b_MD_append 104 = .ok (.istore_n 3, 1) := by decide +kernel
theorem d_MD_append_105 : decode b_MD_append 105 = .ok (.aload_n 0, 1) := by decide +kernel
theorem d_MD_append_106 : decode b_MD_append 106 = .ok (.iload_n 1, 1) := by decide +kernel
theorem d_MD_append_107 : decode b_MD_append 107 = .ok (.iload_n 3, 1) := by decide +kernel
theorem d_MD_append_108 : decode b_MD_append 108 = .ok (.invokevirtual 106, 3) := by decide +kernel
theorem d_MD_append_111 : decode b_MD_append 111 = .ok (.istore 4, 2) := by decide +kernel
theorem d_MD_append_113 : decode b_MD_append 113 = .ok (.iload 4, 2) := by decide +kernel
theorem d_MD_append_115 : decode b_MD_append 115 = .ok (.ifCond .le 10, 3) := by decide +kernel
theorem d_MD_append_118 : decode b_MD_append 118 = .ok (.aload_n 0, 1) := by decide +kernel
theorem d_MD_append_119 : decode b_MD_append 119 = .ok (.iload 4, 2) := by decide +kernel
theorem d_MD_append_121 : decode b_MD_append 121 = .ok (.invokevirtual 67, 3) := by decide +kernel
theorem d_MD_append_124 : decode b_MD_append 124 = .ok (.ireturn, 1) := by decide +kernel
theorem d_MD_append_125 : decode b_MD_append 125 = .ok (.aload_n 0, 1) := by decide +kernel
theorem d_MD_append_126 : decode b_MD_append 126 = .ok (.getfield 17, 3) := by decide +kernel
theorem d_MD_append_129 : decode b_MD_append 129 = .ok (.iconst 3, 1) := by decide +kernel
theorem d_MD_append_130 : decode b_MD_append 130 = .ok (.iload_n 1, 1) := by decide +kernel
theorem d_MD_append_131 : decode b_MD_append 131 = .ok (.imul, 1) := by decide +kernel
theorem d_MD_append_132 : decode b_MD_append 132 = .ok (.iload_n 3, 1) := by decide +kernel
theorem d_MD_append_133 : decode b_MD_append 133 = .ok (.iadd, 1) := by decide +kernel
theorem d_MD_append_134 : decode b_MD_append 134 = .ok (.iaload, 1) := by decide +kernel
theorem d_MD_append_135 : decode b_MD_append 135 = .ok (.istore 5, 2) := by decide +kernel
theorem d_MD_append_137 : decode b_MD_append 137 = .ok (.aload_n 0, 1) := by decide +kernel
theorem d_MD_append_138 : decode b_MD_append 138 = .ok (.iload 5, 2) := by decide +kernel
theorem d_MD_append_140 : decode b_MD_append 140 = .ok (.invokevirtual 115, 3) := by decide +kernel
theorem d_MD_append_143 : decode b_MD_append 143 = .ok (.istore 6, 2) := by decide +kernel
theorem d_MD_append_145 : decode b_MD_append 145 = .ok (.aload_n 0, 1) := by decide +kernel
theorem d_MD_append_146 : decode b_MD_append 146 = .ok (.iload 5, 2) := by decide +kernel
theorem d_MD_append_148 : decode b_MD_append 148 = .ok (.iload 6, 2) := by decide +kernel
theorem d_MD_append_150 : decode b_MD_append 150 = .ok (.iload_n 2, 1) := by decide +kernel
theorem d_MD_append_151 : decode b_MD_append 151 = .ok (.invokevirtual 109, 3) := by decide +kernel
theorem d_MD_append_154 : decode b_MD_append 154 = .ok (.iconst 4, 1) := by decide +kernel
theorem d_MD_append_155 : decode b_MD_append 155 = .ok (.iload_n 3, 1) := by decide +kernel
theorem d_MD_append_156 : decode b_MD_append 156 = .ok (.imul, 1) := by decide +kernel
theorem d_MD_append_157 : decode b_MD_append 157 = .ok (.iload 6, 2) := by decide +kernel
theorem d_MD_append_159 : decode b_MD_append 159 = .ok (.iadd, 1) := by decide +kernel
theorem d_MD_append_160 : decode b_MD_append 160 = .ok (.ireturn, 1) := by decide +kernel
theorem d_MD_usedIn_0 : decode b_MD_usedIn 0 = .ok (.aload_n 0, 1) := by decide +kernel
theorem d_MD_usedIn_1 : decode b_MD_usedIn 1 = .ok (.getfield 39, 3) := by decide +kernel
theorem d_MD_usedIn_4 : decode b_MD_usedIn 4 = .ok (.bipush 30, 2) := by decide +kernel
theorem d_MD_usedIn_6 : decode b_MD_usedIn 6 = .ok (.aload_n 0, 1) := by decide +kernel
theorem d_MD_usedIn_7 : decode b_MD_usedIn 7 = .ok (.aload_n 0, 1) := by decide +kernel
theorem d_MD_usedIn_8 : decode b_MD_usedIn 8 = .ok (.getfield 26, 3) := by decide +kernel
theorem d_MD_usedIn_11 : decode b_MD_usedIn 11 = .ok (.iload_n 1, 1) := by decide +kernel
theorem d_MD_usedIn_12 : decode b_MD_usedIn 12 = .ok (.iaload, 1) := by decide +kernel
theorem d_MD_usedIn_13 : decode b_MD_usedIn 13 = .ok (.invokevirtual 112, 3) := by decide +kernel
theorem d_MD_usedIn_16 : decode b_MD_usedIn 16 = .ok (.imul, 1) := by decide +kernel
theorem d_MD_usedIn_17 : decode b_MD_usedIn 17 = .ok (.iload_n 1, 1) := by decide +kernel
theorem d_MD_usedIn_18 : decode b_MD_usedIn 18 = .ok (.iadd, 1) := by decide +kernel
theorem d_MD_usedIn_19 : decode b_MD_usedIn 19 = .ok (.iaload, 1) := by decide +kernel
theorem d_MD_usedIn_20 : decode b_MD_usedIn 20 = .ok (.ireturn, 1) := by decide +kernel
theorem d_MD_first_0 : decode b_MD_first 0 = .ok (.iconst 0, 1) := by decide +kernel
theorem d_MD_first_1 : decode b_MD_first 1 = .ok (.istore_n 2, 1) := by decide +kernel
theorem d_MD_first_2 : decode b_MD_first 2 = .ok (.iload_n 2, 1) := by decide +kernel
theorem d_MD_first_3 : decode b_MD_first 3 = .ok (.iconst 5, 1) := by decide +kernel
theorem d_MD_first_4 : decode b_MD_first 4 = .ok (.if_icmp .ge 17, 3) := by decide +kernel
theorem d_MD_first_7 : decode b_MD_first 7 = .ok (.iload_n 1, 1) := by decide +kernel
theorem d_MD_first_8 : decode b_MD_first 8 = .ok (.iload_n 2, 1) := by decide +kernel
theorem d_MD_first_9 : decode b_MD_first 9 = .ok (.ishr, 1) := by decide +kernel
theorem d_MD_first_10 : decode b_MD_first 10 = .ok (.iconst 1, 1) := by decide +kernel
theorem d_MD_first_11 : decode b_MD_first 11 = .ok (.iand, 1) := by decide +kernel
theorem d_MD_first_12 : decode b_MD_first 12 = .ok (.ifCond .ne 9, 3) := by decide +kernel
theorem d_MD_first_15 : decode b_MD_first 15 = .ok (.iinc 2 1, 3) := by decide +kernel
theorem d_MD_first_18 : decode b_MD_first 18 = .ok (.goto (-16), 3) := by decide +kernel
theorem d_MD_first_21 : decode b_MD_first 21 = .ok (.iload_n 2, 1) := by decide +kernel
theorem d_MD_first_22 : decode b_MD_first 22 = .ok (.ireturn, 1) := by decide +kernel
theorem d_MD_read_0 : decode b_MD_read 0 = .ok (.aload_n 0, 1) := by decide +kernel
theorem d_MD_read_1 : decode b_MD_read 1 = .ok (.iload_n 1, 1) := by decide +kernel
theorem d_MD_read_2 : decode b_MD_read 2 = .ok (.iconst 3, 1) := by decide +kernel
theorem d_MD_read_3 : decode b_MD_read 3 = .ok (.invokevirtual 63, 3) := by decide +kernel
theorem d_MD_read_6 : decode b_MD_read 6 = .ok (.ifCond .ne 42, 3) := by decide +kernel
theorem d_MD_read_9 : decode b_MD_read 9 = .ok (.aload_n 0, 1) := by decide +kernel
theorem d_MD_read_10 : decode b_MD_read 10 = .ok (.iload_n 2, 1) := by decide +kernel
theorem d_MD_read_11 : decode b_MD_read 11 = .ok (.bipush 8, 2) := by decide +kernel
theorem d_MD_read_13 : decode b_MD_read 13 = .ok (.invokevirtual 63, 3) := by decide +kernel
theorem d_MD_read_16 : decode b_MD_read 16 = .ok (.ifCond .ne 32, 3) := by decide +kernel
theorem d_MD_read_19 : decode b_MD_read 19 = .ok (.aload_n 0, 1) := by decide +kernel
theorem d_MD_read_20 : decode b_MD_read 20 = .ok (.iload_n 3, 1) := by decide +kernel
theorem d_MD_read_21 : decode b_MD_read 21 = .ok (.iconst 3, 1) := by decide +kernel
theorem d_MD_read_22 : decode b_MD_read 22 = .ok (.invokevirtual 63, 3) := by decide +kernel
theorem d_MD_read_25 : decode b_MD_read 25 = .ok (.ifCond .ne 23, 3) := by decide +kernel
theorem d_MD_read_28 : decode b_MD_read 28 = .ok (.aload_n 0, 1) := by decide +kernel
theorem d_MD_read_29 : decode b_MD_read 29 = .ok (.iload 4, 2) := by decide +kernel
theorem d_MD_read_31 : decode b_MD_read 31 = .ok (.iconst 4, 1) := by decide +kernel
theorem d_MD_read_32 : decode b_MD_read 32 = .ok (.invokevirtual 63, 3) := by decide +kernel
theorem d_MD_read_35 : decode b_MD_read 35 = .ok (.ifCond .ne 13, 3) := by decide +kernel
theorem d_MD_read_38 : decode b_MD_read 38 = .ok (.aload_n 0, 1) := by decide +kernel
theorem d_MD_read_39 : decode b_MD_read 39 = .ok (.iload 5, 2) := by decide +kernel
theorem d_MD_read_41 : decode b_MD_read 41 = .ok (.iconst 5, 1) := by decide +kernel
theorem d_MD_read_42 : decode b_MD_read 42 = .ok (.invokevirtual 63, 3) := by decide +kernel
theorem d_MD_read_45 : decode b_MD_read 45 = .ok (.ifCond .eq 7, 3) := by decide +kernel
theorem d_MD_read_48 : decode b_MD_read 48 = .ok (.iconst 1, 1) := by decide +kernel
theorem d_MD_read_49 : decode b_MD_read 49 = .ok (.goto 4, 3) := by decide +kernel
theorem d_MD_read_52 : decode b_MD_read 52 = .ok (.iconst 0, 1) := by decide +kernel
theorem d_MD_read_53 : decode b_MD_read 53 = .ok (.istore 6, 2) := by decide +kernel
theorem d_MD_read_55 : decode b_MD_read 55 = .ok (.aload_n 0, 1) := by decide +kernel
theorem d_MD_read_56 : decode b_MD_read 56 = .ok (.iload 6, 2) := by decide +kernel
theorem d_MD_read_58 : decode b_MD_read 58 = .ok (.ifCond .eq 7, 3) := by decide +kernel
theorem d_MD_read_61 : decode b_MD_read 61 = .ok (.iconst 1, 1) := by decide +kernel
theorem d_MD_read_62 : decode b_MD_read 62 = .ok (.goto 10, 3) := by decide +kernel
theorem d_MD_read_65 : decode b_MD_read 65 = .ok (.aload_n 0, 1) := by decide +kernel
theorem d_MD_read_66 : decode b_MD_read 66 = .ok (.iload_n 1, 1) := by decide +kernel
theorem d_MD_read_67 : decode b_MD_read 67 = .ok (.iload_n 2, 1) := by decide +kernel
theorem d_MD_read_68 : decode b_MD_read 68 = .ok (.iload_n 3, 1) := by decide +kernel
theorem d_MD_read_69 : decode b_MD_read 69 = .ok (.invokevirtual 94, 3) := by decide +kernel
theorem d_MD_read_72 : decode b_MD_read 72 = .ok (.putfield 59, 3) := by decide +kernel
theorem d_MD_read_75 : decode b_MD_read 75 = .ok (.aload_n 0, 1) := by decide +kernel
theorem d_MD_read_76 : decode b_MD_read 76 = .ok (.getfield 59, 3) := by decide +kernel
theorem d_MD_read_79 : decode b_MD_read 79 = .ok (.iconst 3, 1) := by decide +kernel
theorem d_MD_read_80 : decode b_MD_read 80 = .ok (.if_icmp .ne 8, 3) := by decide +kernel
theorem d_MD_read_83 : decode b_MD_read 83 = .ok (.aload_n 0, 1) := by decide +kernel
theorem d_MD_read_84 : decode b_MD_read 84 = .ok (.iconst 5, 1) := by decide +kernel
theorem d_MD_read_85 : decode b_MD_read 85 = .ok (.putfield 59, 3) := by decide +kernel
theorem d_MD_read_88 : decode b_MD_read 88 = .ok (.aload_n 0, 1) := by decide +kernel
theorem d_MD_read_89 : decode b_MD_read 89 = .ok (.getfield 59, 3) := by decide +kernel
theorem d_MD_read_92 : decode b_MD_read 92 = .ok (.ifCond .le 5, 3) := by decide +kernel
theorem d_MD_read_95 : decode b_MD_read 95 = .ok (.iconst 0, 1) := by decide +kernel
theorem d_MD_read_96 : decode b_MD_read 96 = .ok (.ireturn, 1) := by decide +kernel
theorem d_MD_read_97 : decode b_MD_read 97 = .ok (.bipush 24, 2) := by decide +kernel
theorem d_MD_read_99 : decode b_MD_read 99 = .ok (.iload_n 1, 1) := by decide +kernel
theorem d_MD_read_100 : decode b_MD_read 100 = .ok (.imul, 1) := by decide +kernel
theorem d_MD_read_101 : decode b_MD_read 101 = .ok (.iconst 3, 1) := by decide +kernel
theorem d_MD_read_102 : decode b_MD_read 102 = .ok (.iload_n 2, 1) := by decide +kernel
theorem d_MD_read_103 : decode b_MD_read 103 = .ok (.imul, 1) := by decide +kernel
theorem d_MD_read_104 : decode b_MD_read 104 = .ok (.iadd, 1) := by decide +kernel
theorem d_MD_read_105 : decode b_MD_read 105 = .ok (.iload_n 3, 1) := by decide +kernel
theorem d_MD_read_106 : decode b_MD_read 106 = .ok (.iadd, 1) := by decide +kernel
theorem d_MD_read_107 : decode b_MD_read 107 = .ok (.istore 7, 2) := by decide +kernel
theorem d_MD_read_109 : decode b_MD_read 109 = .ok (.aload_n 0, 1) := by decide +kernel
theorem d_MD_read_110 : decode b_MD_read 110 = .ok (.getfield 51, 3) := by decide +kernel
theorem d_MD_read_113 : decode b_MD_read 113 = .ok (.iload 7, 2) := by decide +kernel
theorem d_MD_read_115 : decode b_MD_read 115 = .ok (.iaload, 1) := by decide +kernel
theorem d_MD_read_116 : decode b_MD_read 116 = .ok (.iload 5, 2) := by decide +kernel
theorem d_MD_read_118 : decode b_MD_read 118 = .ok (.ishr, 1) := by decide +kernel
theorem d_MD_read_119 : decode b_MD_read 119 = .ok (.iconst 1, 1) := by decide +kernel
theorem d_MD_read_120 : decode b_MD_read 120 = .ok (.iand, 1) := by decide +kernel
theorem d_MD_read_121 : decode b_MD_read 121 = .ok (.ifCond .ne 9, 3) := by decide +kernel
theorem d_MD_read_124 : decode b_MD_read 124 = .ok (.aload_n 0, 1) := by decide +kernel
theorem d_MD_read_125 : decode b_MD_read 125 = .ok (.iconst 4, 1) := by decide +kernel
theorem d_MD_read_126 : decode b_MD_read 126 = .ok (.invokevirtual 67, 3) := by decide +kernel
theorem d_MD_read_129 : decode b_MD_read 129 = .ok (.ireturn, 1) := by decide +kernel
theorem d_MD_read_130 : decode b_MD_read 130 = .ok (.bipush 30, 2) := by decide +kernel
theorem d_MD_read_132 : decode b_MD_read 132 = .ok (.iload 5, 2) := by decide +kernel
theorem d_MD_read_134 : decode b_MD_read 134 = .ok (.imul, 1) := by decide +kernel
theorem d_MD_read_135 : decode b_MD_read 135 = .ok (.aload_n 0, 1) := by decide +kernel
theorem d_MD_read_136 : decode b_MD_read 136 = .ok (.getfield 45, 3) := by decide +kernel
theorem d_MD_read_139 : decode b_MD_read 139 = .ok (.iload 7, 2) := by decide +kernel
theorem d_MD_read_141 : decode b_MD_read 141 = .ok (.iaload, 1) := by decide +kernel
theorem d_MD_read_142 : decode b_MD_read 142 = .ok (.iadd, 1) := by decide +kernel
theorem d_MD_read_143 : decode b_MD_read 143 = .ok (.istore 8, 2) := by decide +kernel
theorem d_MD_read_145 : decode b_MD_read 145 = .ok (.aload_n 0, 1) := by decide +kernel
theorem d_MD_read_146 : decode b_MD_read 146 = .ok (.getfield 32, 3) := by decide +kernel
theorem d_MD_read_149 : decode b_MD_read 149 = .ok (.iload 5, 2) := by decide +kernel
theorem d_MD_read_151 : decode b_MD_read 151 = .ok (.baload, 1) := by decide +kernel
theorem d_MD_read_152 : decode b_MD_read 152 = .ok (.ifCond .ne 30, 3) := by decide +kernel
theorem d_MD_read_155 : decode b_MD_read 155 = .ok (.aload_n 0, 1) := by decide +kernel
theorem d_MD_read_156 : decode b_MD_read 156 = .ok (.getfield 36, 3) := by decide +kernel
theorem d_MD_read_159 : decode b_MD_read 159 = .ok (.iload 8, 2) := by decide +kernel
theorem d_MD_read_161 : decode b_MD_read 161 = .ok (.iaload, 1) := by decide +kernel
theorem d_MD_read_162 : decode b_MD_read 162 = .ok (.ifCond .eq 20, 3) := by decide +kernel
theorem d_MD_read_165 : decode b_MD_read 165 = .ok (.aload_n 0, 1) := by decide +kernel
theorem d_MD_read_166 : decode b_MD_read 166 = .ok (.getfield 36, 3) := by decide +kernel
theorem d_MD_read_169 : decode b_MD_read 169 = .ok (.iload 8, 2) := by decide +kernel
theorem d_MD_read_171 : decode b_MD_read 171 = .ok (.iaload, 1) := by decide +kernel
theorem d_MD_read_172 : decode b_MD_read 172 = .ok (.aload_n 0, 1) := by decide +kernel
theorem d_MD_read_173 : decode b_MD_read 173 = .ok (.getfield 48, 3) := by decide +kernel
theorem d_MD_read_176 : decode b_MD_read 176 = .ok (.iload 7, 2) := by decide +kernel
theorem d_MD_read_178 : decode b_MD_read 178 = .ok (.iaload, 1) := by decide +kernel
theorem d_MD_read_179 : decode b_MD_read 179 = .ok (.if_icmp .ge 9, 3) := by decide +kernel
theorem d_MD_read_182 : decode b_MD_read 182 = .ok (.aload_n 0, 1) := by decide +kernel
theorem d_MD_read_183 : decode b_MD_read 183 = .ok (.iconst 3, 1) := by decide +kernel
theorem d_MD_read_184 : decode b_MD_read 184 = .ok (.invokevirtual 67, 3) := by decide +kernel
theorem d_MD_read_187 : decode b_MD_read 187 = .ok (.ireturn, 1) := by decide +kernel
theorem d_MD_read_188 : decode b_MD_read 188 = .ok (.aload_n 0, 1) := by decide +kernel
theorem d_MD_read_189 : decode b_MD_read 189 = .ok (.getfield 42, 3) := by decide +kernel
theorem d_MD_read_192 : decode b_MD_read 192 = .ok (.iconst 4, 1) := by decide +kernel
theorem d_MD_read_193 : decode b_MD_read 193 = .ok (.iload 8, 2) := by decide +kernel
theorem d_MD_read_195 : decode b_MD_read 195 = .ok (.imul, 1) := by decide +kernel
theorem d_MD_read_196 : decode b_MD_read 196 = .ok (.iload 4, 2) := by decide +kernel
theorem d_MD_read_198 : decode b_MD_read 198 = .ok (.iadd, 1) := by decide +kernel
theorem d_MD_read_199 : decode b_MD_read 199 = .ok (.iaload, 1) := by decide +kernel
theorem d_MD_read_200 : decode b_MD_read 200 = .ok (.ireturn, 1) := by decide +kernel
theorem d_MD_up_0 : decode b_MD_up 0 = .ok (.aload_n 0, 1) := by decide +kernel
theorem d_MD_up_1 : decode b_MD_up 1 = .ok (.iconst 0, 1) := by decide +kernel
theorem d_MD_up_2 : decode b_MD_up 2 = .ok (.putfield 59, 3) := by decide +kernel
theorem d_MD_up_5 : decode b_MD_up 5 = .ok (.aload_n 0, 1) := by decide +kernel
theorem d_MD_up_6 : decode b_MD_up 6 = .ok (.iload_n 1, 1) := by decide +kernel
theorem d_MD_up_7 : decode b_MD_up 7 = .ok (.iconst 5, 1) := by decide +kernel
theorem d_MD_up_8 : decode b_MD_up 8 = .ok (.invokevirtual 63, 3) := by decide +kernel
theorem d_MD_up_11 : decode b_MD_up 11 = .ok (.ifCond .eq 9, 3) := by decide +kernel
theorem d_MD_up_14 : decode b_MD_up 14 = .ok (.aload_n 0, 1) := by decide +kernel
theorem d_MD_up_15 : decode b_MD_up 15 = .ok (.iconst 1, 1) := by decide +kernel
theorem d_MD_up_16 : decode b_MD_up 16 = .ok (.invokevirtual 67, 3) := by decide +kernel
theorem d_MD_up_19 : decode b_MD_up 19 = .ok (.ireturn, 1) := by decide +kernel
theorem d_MD_up_20 : decode b_MD_up 20 = .ok (.aload_n 0, 1) := by decide +kernel
theorem d_MD_up_21 : decode b_MD_up 21 = .ok (.getfield 32, 3) := by decide +kernel
theorem d_MD_up_24 : decode b_MD_up 24 = .ok (.iload_n 1, 1) := by decide +kernel
theorem d_MD_up_25 : decode b_MD_up 25 = .ok (.iload_n 2, 1) := by decide +kernel
theorem d_MD_up_26 : decode b_MD_up 26 = .ok (.ifCond .ne 7, 3) := by decide +kernel
theorem d_MD_up_29 : decode b_MD_up 29 = .ok (.iconst 1, 1) := by decide +kernel
theorem d_MD_up_30 : decode b_MD_up 30 = .ok (.goto 4, 3) := by decide +kernel
theorem d_MD_up_33 : decode b_MD_up 33 = .ok (.iconst 0, 1) := by decide +kernel
theorem d_MD_up_34 : decode b_MD_up 34 = .ok (.bastore, 1) := by decide +kernel
theorem d_MD_up_35 : decode b_MD_up 35 = .ok (.aload_n 0, 1) := by decide +kernel
theorem d_MD_up_36 : decode b_MD_up 36 = .ok (.iload_n 1, 1) := by decide +kernel
theorem d_MD_up_37 : decode b_MD_up 37 = .ok (.invokevirtual 75, 3) := by decide +kernel
theorem d_MD_up_40 : decode b_MD_up 40 = .ok (.ireturn, 1) := by decide +kernel
theorem d_MD_report_0 : decode b_MD_report 0 = .ok (.aload_n 0, 1) := by decide +kernel
theorem d_MD_report_1 : decode b_MD_report 1 = .ok (.iconst 0, 1) := by decide +kernel
theorem d_MD_report_2 : decode b_MD_report 2 = .ok (.putfield 59, 3) := by decide +kernel
theorem d_MD_report_5 : decode b_MD_report 5 = .ok (.aload_n 0, 1) := by decide +kernel
theorem d_MD_report_6 : decode b_MD_report 6 = .ok (.iload_n 1, 1) := by decide +kernel
theorem d_MD_report_7 : decode b_MD_report 7 = .ok (.iconst 5, 1) := by decide +kernel
theorem d_MD_report_8 : decode b_MD_report 8 = .ok (.invokevirtual 63, 3) := by decide +kernel
theorem d_MD_report_11 : decode b_MD_report 11 = .ok (.ifCond .eq 9, 3) := by decide +kernel
theorem d_MD_report_14 : decode b_MD_report 14 = .ok (.aload_n 0, 1) := by decide +kernel
theorem d_MD_report_15 : decode b_MD_report 15 = .ok (.iconst 1, 1) := by decide +kernel
theorem d_MD_report_16 : decode b_MD_report 16 = .ok (.invokevirtual 67, 3) := by decide +kernel
theorem d_MD_report_19 : decode b_MD_report 19 = .ok (.ireturn, 1) := by decide +kernel
theorem d_MD_report_20 : decode b_MD_report 20 = .ok (.aload_n 0, 1) := by decide +kernel
theorem d_MD_report_21 : decode b_MD_report 21 = .ok (.getfield 32, 3) := by decide +kernel
theorem d_MD_report_24 : decode b_MD_report 24 = .ok (.iload_n 1, 1) := by decide +kernel
theorem d_MD_report_25 : decode b_MD_report 25 = .ok (.baload, 1) := by decide +kernel
theorem d_MD_report_26 : decode b_MD_report 26 = .ok (.ifCond .eq 9, 3) := by decide +kernel
theorem d_MD_report_29 : decode b_MD_report 29 = .ok (.aload_n 0, 1) := by decide +kernel
theorem d_MD_report_30 : decode b_MD_report 30 = .ok (.iconst 2, 1) := by decide +kernel
theorem d_MD_report_31 : decode b_MD_report 31 = .ok (.invokevirtual 67, 3) := by decide +kernel
theorem d_MD_report_34 : decode b_MD_report 34 = .ok (.ireturn, 1) := by decide +kernel
theorem d_MD_report_35 : decode b_MD_report 35 = .ok (.iconst 0, 1) := by decide +kernel
theorem d_MD_report_36 : decode b_MD_report 36 = .ok (.istore_n 2, 1) := by decide +kernel
theorem d_MD_report_37 : decode b_MD_report 37 = .ok (.iconst 0, 1) := by decide +kernel
theorem d_MD_report_38 : decode b_MD_report 38 = .ok (.istore_n 3, 1) := by decide +kernel
theorem d_MD_report_39 : decode b_MD_report 39 = .ok (.iload_n 3, 1) := by decide +kernel
theorem d_MD_report_40 : decode b_MD_report 40 = .ok (.aload_n 0, 1) := by decide +kernel
theorem d_MD_report_41 : decode b_MD_report 41 = .ok (.getfield 78, 3) := by decide +kernel
theorem d_MD_report_44 : decode b_MD_report 44 = .ok (.if_icmp .ge 94, 3) := by decide +kernel
theorem d_MD_report_47 : decode b_MD_report 47 = .ok (.bipush 30, 2) := by decide +kernel
theorem d_MD_report_49 : decode b_MD_report 49 = .ok (.iload_n 1, 1) := by decide +kernel
theorem d_MD_report_50 : decode b_MD_report 50 = .ok (.imul, 1) := by decide +kernel
theorem d_MD_report_51 : decode b_MD_report 51 = .ok (.iload_n 3, 1) := by decide +kernel
theorem d_MD_report_52 : decode b_MD_report 52 = .ok (.iadd, 1) := by decide +kernel
theorem d_MD_report_53 : decode b_MD_report 53 = .ok (.istore 4, 2) := by decide +kernel
theorem d_MD_report_55 : decode b_MD_report 55 = .ok (.aload_n 0, 1) := by decide +kernel
theorem d_MD_report_56 : decode b_MD_report 56 = .ok (.getfield 36, 3) := by decide +kernel
theorem d_MD_report_59 : decode b_MD_report 59 = .ok (.iload 4, 2) := by decide +kernel
theorem d_MD_report_61 : decode b_MD_report 61 = .ok (.iaload, 1) := by decide +kernel
theorem d_MD_report_62 : decode b_MD_report 62 = .ok (.ifCond .ne 6, 3) := by decide +kernel
theorem d_MD_report_65 : decode b_MD_report 65 = .ok (.goto 67, 3) := by decide +kernel
theorem d_MD_report_68 : decode b_MD_report 68 = .ok (.aload_n 0, 1) := by decide +kernel
theorem d_MD_report_69 : decode b_MD_report 69 = .ok (.iload_n 3, 1) := by decide +kernel
theorem d_MD_report_70 : decode b_MD_report 70 = .ok (.invokevirtual 101, 3) := by decide +kernel
theorem d_MD_report_73 : decode b_MD_report 73 = .ok (.ifCond .eq 19, 3) := by decide +kernel
theorem d_MD_report_76 : decode b_MD_report 76 = .ok (.aload_n 0, 1) := by decide +kernel
theorem d_MD_report_77 : decode b_MD_report 77 = .ok (.getfield 23, 3) := by decide +kernel
theorem d_MD_report_80 : decode b_MD_report 80 = .ok (.iload_n 3, 1) := by decide +kernel
theorem d_MD_report_81 : decode b_MD_report 81 = .ok (.iaload, 1) := by decide +kernel
theorem d_MD_report_82 : decode b_MD_report 82 = .ok (.aload_n 0, 1) := by decide +kernel
theorem d_MD_report_83 : decode b_MD_report 83 = .ok (.getfield 36, 3) := by decide +kernel
theorem d_MD_report_86 : decode b_MD_report 86 = .ok (.iload 4, 2) := by decide +kernel
theorem d_MD_report_88 : decode b_MD_report 88 = .ok (.iaload, 1) := by decide +kernel
theorem d_MD_report_89 : decode b_MD_report 89 = .ok (.if_icmp .le 31, 3) := by decide +kernel
theorem d_MD_report_92 : decode b_MD_report 92 = .ok (.aload_n 0, 1) := by decide +kernel
theorem d_MD_report_93 : decode b_MD_report 93 = .ok (.getfield 36, 3) := by decide +kernel
theorem d_MD_report_96 : decode b_MD_report 96 = .ok (.iload 4, 2) := by decide +kernel
theorem d_MD_report_98 : decode b_MD_report 98 = .ok (.iconst 0, 1) := by decide +kernel
theorem d_MD_report_99 : decode b_MD_report 99 = .ok (.iastore, 1) := by decide +kernel
theorem d_MD_report_100 : decode b_MD_report 100 = .ok (.aload_n 0, 1) := by decide +kernel
theorem d_MD_report_101 : decode b_MD_report 101 = .ok (.getfield 26, 3) := by decide +kernel
theorem d_MD_report_104 : decode b_MD_report 104 = .ok (.iload_n 3, 1) := by decide +kernel
theorem d_MD_report_105 : decode b_MD_report 105 = .ok (.dup2, 1) := by decide +kernel
theorem d_MD_report_106 : decode b_MD_report 106 = .ok (.iaload, 1) := by decide +kernel
theorem d_MD_report_107 : decode b_MD_report 107 = .ok (.iconst 1, 1) := by decide +kernel
theorem d_MD_report_108 : decode b_MD_report 108 = .ok (.iload_n 1, 1) := by decide +kernel
theorem d_MD_report_109 : decode b_MD_report 109 = .ok (.ishl, 1) := by decide +kernel
theorem d_MD_report_110 : decode b_MD_report 110 = .ok (.iconst (-1), 1) := by decide +kernel
theorem d_MD_report_111 : decode b_MD_report 111 = .ok (.ixor, 1) := by decide +kernel
theorem d_MD_report_112 : decode b_MD_report 112 = .ok (.iand, 1) := by decide +kernel
theorem d_MD_report_113 : decode b_MD_report 113 = .ok (.iastore, 1) := by decide +kernel
theorem d_MD_report_114 : decode b_MD_report 114 = .ok (.iinc 2 1, 3) := by decide +kernel
theorem d_MD_report_117 : decode b_MD_report 117 = .ok (.goto 15, 3) := by decide +kernel
theorem d_MD_report_120 : decode b_MD_report 120 = .ok (.aload_n 0, 1) := by decide +kernel
theorem d_MD_report_121 : decode b_MD_report 121 = .ok (.getfield 26, 3) := by decide +kernel
theorem d_MD_report_124 : decode b_MD_report 124 = .ok (.iload_n 3, 1) := by decide +kernel
theorem d_MD_report_125 : decode b_MD_report 125 = .ok (.dup2, 1) := by decide +kernel
theorem d_MD_report_126 : decode b_MD_report 126 = .ok (.iaload, 1) := by decide +kernel
theorem d_MD_report_127 : decode b_MD_report 127 = .ok (.iconst 1, 1) := by decide +kernel
theorem d_MD_report_128 : decode b_MD_report 128 = .ok (.iload_n 1, 1) := by decide +kernel
theorem d_MD_report_129 : decode b_MD_report 129 = .ok (.ishl, 1) := by decide +kernel
theorem d_MD_report_130 : decode b_MD_report 130 = .ok (.ior, 1) := by decide +kernel
theorem d_MD_report_131 : decode b_MD_report 131 = .ok (.iastore, 1) := by decide +kernel
theorem d_MD_report_132 : decode b_MD_report 132 = .ok (.iinc 3 1, 3) := by decide +kernel
theorem d_MD_report_135 : decode b_MD_report 135 = .ok (.goto (-96), 3) := by decide +kernel
theorem d_MD_report_138 : decode b_MD_report 138 = .ok (.iload_n 2, 1) := by decide +kernel
theorem d_MD_report_139 : decode b_MD_report 139 = .ok (.ireturn, 1) := by decide +kernel
theorem d_MD_repair_0 : decode b_MD_repair 0 = .ok (.aload_n 0, 1) := by decide +kernel
theorem d_MD_repair_1 : decode b_MD_repair 1 = .ok (.iconst 0, 1) := by decide +kernel
theorem d_MD_repair_2 : decode b_MD_repair 2 = .ok (.putfield 59, 3) := by decide +kernel
theorem d_MD_repair_5 : decode b_MD_repair 5 = .ok (.iconst (-1), 1) := by decide +kernel
theorem d_MD_repair_6 : decode b_MD_repair 6 = .ok (.istore_n 1, 1) := by decide +kernel
theorem d_MD_repair_7 : decode b_MD_repair 7 = .ok (.iconst 0, 1) := by decide +kernel
theorem d_MD_repair_8 : decode b_MD_repair 8 = .ok (.istore_n 2, 1) := by decide +kernel
theorem d_MD_repair_9 : decode b_MD_repair 9 = .ok (.iload_n 2, 1) := by decide +kernel
theorem d_MD_repair_10 : decode b_MD_repair 10 = .ok (.aload_n 0, 1) := by decide +kernel
theorem d_MD_repair_11 : decode b_MD_repair 11 = .ok (.getfield 78, 3) := by decide +kernel
theorem d_MD_repair_14 : decode b_MD_repair 14 = .ok (.if_icmp .ge 68, 3) := by decide +kernel
theorem d_MD_repair_17 : decode b_MD_repair 17 = .ok (.aload_n 0, 1) := by decide +kernel
theorem d_MD_repair_18 : decode b_MD_repair 18 = .ok (.aload_n 0, 1) := by decide +kernel
theorem d_MD_repair_19 : decode b_MD_repair 19 = .ok (.iload_n 2, 1) := by decide +kernel
theorem d_MD_repair_20 : decode b_MD_repair 20 = .ok (.invokevirtual 98, 3) := by decide +kernel
theorem d_MD_repair_23 : decode b_MD_repair 23 = .ok (.invokevirtual 118, 3) := by decide +kernel
theorem d_MD_repair_26 : decode b_MD_repair 26 = .ok (.istore_n 3, 1) := by decide +kernel
theorem d_MD_repair_27 : decode b_MD_repair 27 = .ok (.iload_n 3, 1) := by decide +kernel
theorem d_MD_repair_28 : decode b_MD_repair 28 = .ok (.iconst 1, 1) := by decide +kernel
theorem d_MD_repair_29 : decode b_MD_repair 29 = .ok (.if_icmp .lt 47, 3) := by decide +kernel
theorem d_MD_repair_32 : decode b_MD_repair 32 = .ok (.iload_n 3, 1) := by decide +kernel
theorem d_MD_repair_33 : decode b_MD_repair 33 = .ok (.iconst 2, 1) := by decide +kernel
theorem d_MD_repair_34 : decode b_MD_repair 34 = .ok (.if_icmp .gt 42, 3) := by decide +kernel
theorem d_MD_repair_37 : decode b_MD_repair 37 = .ok (.aload_n 0, 1) := by decide +kernel
theorem d_MD_repair_38 : decode b_MD_repair 38 = .ok (.iload_n 2, 1) := by decide +kernel
theorem d_MD_repair_39 : decode b_MD_repair 39 = .ok (.invokevirtual 101, 3) := by decide +kernel
theorem d_MD_repair_42 : decode b_MD_repair 42 = .ok (.ifCond .eq 34, 3) := by decide +kernel
theorem d_MD_repair_45 : decode b_MD_repair 45 = .ok (.aload_n 0, 1) := by decide +kernel
theorem d_MD_repair_46 : decode b_MD_repair 46 = .ok (.iload_n 2, 1) := by decide +kernel
theorem d_MD_repair_47 : decode b_MD_repair 47 = .ok (.iconst 0, 1) := by decide +kernel
theorem d_MD_repair_48 : decode b_MD_repair 48 = .ok (.invokevirtual 81, 3) := by decide +kernel
theorem d_MD_repair_51 : decode b_MD_repair 51 = .ok (.ifCond .ge 6, 3) := by decide +kernel
theorem d_MD_repair_54 : decode b_MD_repair 54 = .ok (.goto 22, 3) := by decide +kernel
theorem d_MD_repair_57 : decode b_MD_repair 57 = .ok (.iload_n 1, 1) := by decide +kernel
theorem d_MD_repair_58 : decode b_MD_repair 58 = .ok (.ifCond .lt 16, 3) := by decide +kernel
theorem d_MD_repair_61 : decode b_MD_repair 61 = .ok (.iload_n 3, 1) := by decide +kernel
theorem d_MD_repair_62 : decode b_MD_repair 62 = .ok (.aload_n 0, 1) := by decide +kernel
theorem d_MD_repair_63 : decode b_MD_repair 63 = .ok (.aload_n 0, 1) := by decide +kernel
theorem d_MD_repair_64 : decode b_MD_repair 64 = .ok (.iload_n 1, 1) := by decide +kernel
theorem d_MD_repair_65 : decode b_MD_repair 65 = .ok (.invokevirtual 98, 3) := by decide +kernel
theorem d_MD_repair_68 : decode b_MD_repair 68 = .ok (.invokevirtual 118, 3) := by decide +kernel
theorem d_MD_repair_71 : decode b_MD_repair 71 = .ok (.if_icmp .ge 5, 3) := by decide +kernel
theorem d_MD_repair_74 : decode b_MD_repair 74 = .ok (.iload_n 2, 1) := by decide +kernel
theorem d_MD_repair_75 : decode b_MD_repair 75 = .ok (.istore_n 1, 1) := by decide +kernel
theorem d_MD_repair_76 : decode b_MD_repair 76 = .ok (.iinc 2 1, 3) := by decide +kernel
theorem d_MD_repair_79 : decode b_MD_repair 79 = .ok (.goto (-70), 3) := by decide +kernel
theorem d_MD_repair_82 : decode b_MD_repair 82 = .ok (.iload_n 1, 1) := by decide +kernel
theorem d_MD_repair_83 : decode b_MD_repair 83 = .ok (.ifCond .ge 9, 3) := by decide +kernel
theorem d_MD_repair_86 : decode b_MD_repair 86 = .ok (.aload_n 0, 1) := by decide +kernel
theorem d_MD_repair_87 : decode b_MD_repair 87 = .ok (.iconst 1, 1) := by decide +kernel
theorem d_MD_repair_88 : decode b_MD_repair 88 = .ok (.invokevirtual 67, 3) := by decide +kernel
theorem d_MD_repair_91 : decode b_MD_repair 91 = .ok (.ireturn, 1) := by decide +kernel
theorem d_MD_repair_92 : decode b_MD_repair 92 = .ok (.aload_n 0, 1) := by decide +kernel
theorem d_MD_repair_93 : decode b_MD_repair 93 = .ok (.iload_n 1, 1) := by decide +kernel
theorem d_MD_repair_94 : decode b_MD_repair 94 = .ok (.iconst 0, 1) := by decide +kernel
theorem d_MD_repair_95 : decode b_MD_repair 95 = .ok (.invokevirtual 81, 3) := by decide +kernel
theorem d_MD_repair_98 : decode b_MD_repair 98 = .ok (.istore_n 2, 1) := by decide +kernel
theorem d_MD_repair_99 : decode b_MD_repair 99 = .ok (.bipush 30, 2) := by decide +kernel
theorem d_MD_repair_101 : decode b_MD_repair 101 = .ok (.aload_n 0, 1) := by decide +kernel
theorem d_MD_repair_102 : decode b_MD_repair 102 = .ok (.aload_n 0, 1) := by decide +kernel
theorem d_MD_repair_103 : decode b_MD_repair 103 = .ok (.iload_n 1, 1) := by decide +kernel
theorem d_MD_repair_104 : decode b_MD_repair 104 = .ok (.invokevirtual 98, 3) := by decide +kernel
theorem d_MD_repair_107 : decode b_MD_repair 107 = .ok (.invokevirtual 112, 3) := by decide +kernel
theorem d_MD_repair_110 : decode b_MD_repair 110 = .ok (.imul, 1) := by decide +kernel
theorem d_MD_repair_111 : decode b_MD_repair 111 = .ok (.iload_n 1, 1) := by decide +kernel
theorem d_MD_repair_112 : decode b_MD_repair 112 = .ok (.iadd, 1) := by decide +kernel
theorem d_MD_repair_113 : decode b_MD_repair 113 = .ok (.istore_n 3, 1) := by decide +kernel
theorem d_MD_repair_114 : decode b_MD_repair 114 = .ok (.aload_n 0, 1) := by decide +kernel
theorem d_MD_repair_115 : decode b_MD_repair 115 = .ok (.bipush 30, 2) := by decide +kernel
theorem d_MD_repair_117 : decode b_MD_repair 117 = .ok (.iload_n 2, 1) := by decide +kernel
theorem d_MD_repair_118 : decode b_MD_repair 118 = .ok (.imul, 1) := by decide +kernel
theorem d_MD_repair_119 : decode b_MD_repair 119 = .ok (.iload_n 1, 1) := by decide +kernel
theorem d_MD_repair_120 : decode b_MD_repair 120 = .ok (.iadd, 1) := by decide +kernel
theorem d_MD_repair_121 : decode b_MD_repair 121 = .ok (.iload_n 3, 1) := by decide +kernel
theorem d_MD_repair_122 : decode b_MD_repair 122 = .ok (.aload_n 0, 1) := by decide +kernel
theorem d_MD_repair_123 : decode b_MD_repair 123 = .ok (.getfield 36, 3) := by decide +kernel
theorem d_MD_repair_126 : decode b_MD_repair 126 = .ok (.iload_n 3, 1) := by decide +kernel
theorem d_MD_repair_127 : decode b_MD_repair 127 = .ok (.iaload, 1) := by decide +kernel
theorem d_MD_repair_128 : decode b_MD_repair 128 = .ok (.invokevirtual 85, 3) := by decide +kernel
theorem d_MD_repair_131 : decode b_MD_repair 131 = .ok (.aload_n 0, 1) := by decide +kernel
theorem d_MD_repair_132 : decode b_MD_repair 132 = .ok (.getfield 26, 3) := by decide +kernel
theorem d_MD_repair_135 : decode b_MD_repair 135 = .ok (.iload_n 1, 1) := by decide +kernel
theorem d_MD_repair_136 : decode b_MD_repair 136 = .ok (.dup2, 1) := by decide +kernel
theorem d_MD_repair_137 : decode b_MD_repair 137 = .ok (.iaload, 1) := by decide +kernel
theorem d_MD_repair_138 : decode b_MD_repair 138 = .ok (.iconst 1, 1) := by decide +kernel
theorem d_MD_repair_139 : decode b_MD_repair 139 = .ok (.iload_n 2, 1) := by decide +kernel
theorem d_MD_repair_140 : decode b_MD_repair 140 = .ok (.ishl, 1) := by decide +kernel
theorem d_MD_repair_141 : decode b_MD_repair 141 = .ok (.ior, 1) := by decide +kernel
theorem d_MD_repair_142 : decode b_MD_repair 142 = .ok (.iastore, 1) := by decide +kernel
theorem d_MD_repair_143 : decode b_MD_repair 143 = .ok (.bipush 10, 2) := by decide +kernel
theorem d_MD_repair_145 : decode b_MD_repair 145 = .ok (.iload_n 1, 1) := by decide +kernel
theorem d_MD_repair_146 : decode b_MD_repair 146 = .ok (.imul, 1) := by decide +kernel
theorem d_MD_repair_147 : decode b_MD_repair 147 = .ok (.iload_n 2, 1) := by decide +kernel
theorem d_MD_repair_148 : decode b_MD_repair 148 = .ok (.iadd, 1) := by decide +kernel
theorem d_MD_repair_149 : decode b_MD_repair 149 = .ok (.ireturn, 1) := by decide +kernel
theorem d_MD_ones_0 : decode b_MD_ones 0 = .ok (.iconst 0, 1) := by decide +kernel
theorem d_MD_ones_1 : decode b_MD_ones 1 = .ok (.istore_n 2, 1) := by decide +kernel
theorem d_MD_ones_2 : decode b_MD_ones 2 = .ok (.iconst 0, 1) := by decide +kernel
theorem d_MD_ones_3 : decode b_MD_ones 3 = .ok (.istore_n 3, 1) := by decide +kernel
theorem d_MD_ones_4 : decode b_MD_ones 4 = .ok (.iload_n 3, 1) := by decide +kernel
theorem d_MD_ones_5 : decode b_MD_ones 5 = .ok (.iconst 5, 1) := by decide +kernel
theorem d_MD_ones_6 : decode b_MD_ones 6 = .ok (.if_icmp .ge 17, 3) := by decide +kernel
theorem d_MD_ones_9 : decode b_MD_ones 9 = .ok (.iload_n 2, 1) := by decide +kernel
theorem d_MD_ones_10 : decode b_MD_ones 10 = .ok (.iload_n 1, 1) := by decide +kernel
theorem d_MD_ones_11 : decode b_MD_ones 11 = .ok (.iload_n 3, 1) := by decide +kernel
theorem d_MD_ones_12 : decode b_MD_ones 12 = .ok (.ishr, 1) := by decide +kernel
theorem d_MD_ones_13 : decode b_MD_ones 13 = .ok (.iconst 1, 1) := by decide +kernel
theorem d_MD_ones_14 : decode b_MD_ones 14 = .ok (.iand, 1) := by decide +kernel
theorem d_MD_ones_15 : decode b_MD_ones 15 = .ok (.iadd, 1) := by decide +kernel
theorem d_MD_ones_16 : decode b_MD_ones 16 = .ok (.istore_n 2, 1) := by decide +kernel
theorem d_MD_ones_17 : decode b_MD_ones 17 = .ok (.iinc 3 1, 3) := by decide +kernel
theorem d_MD_ones_20 : decode b_MD_ones 20 = .ok (.goto (-16), 3) := by decide +kernel
theorem d_MD_ones_23 : decode b_MD_ones 23 = .ok (.iload_n 2, 1) := by decide +kernel
theorem d_MD_ones_24 : decode b_MD_ones 24 = .ok (.ireturn, 1) := by decide +kernel
theorem d_MD_sweep_0 : decode b_MD_sweep 0 = .ok (.aload_n 0, 1) := by decide +kernel
theorem d_MD_sweep_1 : decode b_MD_sweep 1 = .ok (.iconst 0, 1) := by decide +kernel
theorem d_MD_sweep_2 : decode b_MD_sweep 2 = .ok (.putfield 59, 3) := by decide +kernel
theorem d_MD_sweep_5 : decode b_MD_sweep 5 = .ok (.iconst 0, 1) := by decide +kernel
theorem d_MD_sweep_6 : decode b_MD_sweep 6 = .ok (.istore_n 1, 1) := by decide +kernel
theorem d_MD_sweep_7 : decode b_MD_sweep 7 = .ok (.iconst 0, 1) := by decide +kernel
theorem d_MD_sweep_8 : decode b_MD_sweep 8 = .ok (.istore_n 2, 1) := by decide +kernel
theorem d_MD_sweep_9 : decode b_MD_sweep 9 = .ok (.iload_n 2, 1) := by decide +kernel
theorem d_MD_sweep_10 : decode b_MD_sweep 10 = .ok (.bipush 8, 2) := by decide +kernel
theorem d_MD_sweep_12 : decode b_MD_sweep 12 = .ok (.if_icmp .ge 54, 3) := by decide +kernel
theorem d_MD_sweep_15 : decode b_MD_sweep 15 = .ok (.aload_n 0, 1) := by decide +kernel
theorem d_MD_sweep_16 : decode b_MD_sweep 16 = .ok (.getfield 7, 3) := by decide +kernel
theorem d_MD_sweep_19 : decode b_MD_sweep 19 = .ok (.iload_n 2, 1) := by decide +kernel
theorem d_MD_sweep_20 : decode b_MD_sweep 20 = .ok (.iaload, 1) := by decide +kernel
theorem d_MD_sweep_21 : decode b_MD_sweep 21 = .ok (.iconst 2, 1) := by decide +kernel
theorem d_MD_sweep_22 : decode b_MD_sweep 22 = .ok (.if_icmp .ne 38, 3) := by decide +kernel
theorem d_MD_sweep_25 : decode b_MD_sweep 25 = .ok (.aload_n 0, 1) := by decide +kernel
theorem d_MD_sweep_26 : decode b_MD_sweep 26 = .ok (.getfield 71, 3) := by decide +kernel
theorem d_MD_sweep_29 : decode b_MD_sweep 29 = .ok (.aload_n 0, 1) := by decide +kernel
theorem d_MD_sweep_30 : decode b_MD_sweep 30 = .ok (.getfield 13, 3) := by decide +kernel
theorem d_MD_sweep_33 : decode b_MD_sweep 33 = .ok (.iload_n 2, 1) := by decide +kernel
theorem d_MD_sweep_34 : decode b_MD_sweep 34 = .ok (.daload, 1) := by decide +kernel
theorem d_MD_sweep_35 : decode b_MD_sweep 35 = .ok (.dsub, 1) := by decide +kernel
theorem d_MD_sweep_36 : decode b_MD_sweep 36 = .ok (.ldc2_w 121, 3) := by decide +kernel
theorem d_MD_sweep_39 : decode b_MD_sweep 39 = .ok (.dcmp .l, 1) := by decide +kernel
theorem d_MD_sweep_40 : decode b_MD_sweep 40 = .ok (.ifCond .lt 20, 3) := by decide +kernel
theorem d_MD_sweep_43 : decode b_MD_sweep 43 = .ok (.aload_n 0, 1) := by decide +kernel
theorem d_MD_sweep_44 : decode b_MD_sweep 44 = .ok (.getfield 7, 3) := by decide +kernel
theorem d_MD_sweep_47 : decode b_MD_sweep 47 = .ok (.iload_n 2, 1) := by decide +kernel
theorem d_MD_sweep_48 : decode b_MD_sweep 48 = .ok (.iconst 0, 1) := by decide +kernel
theorem d_MD_sweep_49 : decode b_MD_sweep 49 = .ok (.iastore, 1) := by decide +kernel
theorem d_MD_sweep_50 : decode b_MD_sweep 50 = .ok (.aload_n 0, 1) := by decide +kernel
theorem d_MD_sweep_51 : decode b_MD_sweep 51 = .ok (.getfield 20, 3) := by decide +kernel
theorem d_MD_sweep_54 : decode b_MD_sweep 54 = .ok (.iload_n 2, 1) := by decide +kernel
theorem d_MD_sweep_55 : decode b_MD_sweep 55 = .ok (.iconst 0, 1) := by decide +kernel
theorem d_MD_sweep_56 : decode b_MD_sweep 56 = .ok (.iastore, 1) := by decide +kernel
theorem d_MD_sweep_57 : decode b_MD_sweep 57 = .ok (.iinc 1 1, 3) := by decide +kernel
theorem d_MD_sweep_60 : decode b_MD_sweep 60 = .ok (.iinc 2 1, 3) := by decide +kernel
theorem d_MD_sweep_63 : decode b_MD_sweep 63 = .ok (.goto (-54), 3) := by decide +kernel
theorem d_MD_sweep_66 : decode b_MD_sweep 66 = .ok (.iload_n 1, 1) := by decide +kernel
theorem d_MD_sweep_67 : decode b_MD_sweep 67 = .ok (.ireturn, 1) := by decide +kernel
theorem d_MD_tick_0 : decode b_MD_tick 0 = .ok (.aload_n 0, 1) := by decide +kernel
theorem d_MD_tick_1 : decode b_MD_tick 1 = .ok (.iconst 0, 1) := by decide +kernel
theorem d_MD_tick_2 : decode b_MD_tick 2 = .ok (.putfield 59, 3) := by decide +kernel
theorem d_MD_tick_5 : decode b_MD_tick 5 = .ok (.dload_n 1, 1) := by decide +kernel
theorem d_MD_tick_6 : decode b_MD_tick 6 = .ok (.dconst 0, 1) := by decide +kernel
theorem d_MD_tick_7 : decode b_MD_tick 7 = .ok (.dcmp .l, 1) := by decide +kernel
theorem d_MD_tick_8 : decode b_MD_tick 8 = .ok (.ifCond .lt 11, 3) := by decide +kernel
theorem d_MD_tick_11 : decode b_MD_tick 11 = .ok (.dload_n 1, 1) := by decide +kernel
theorem d_MD_tick_12 : decode b_MD_tick 12 = .ok (.ldc2_w 123, 3) := by decide +kernel
theorem d_MD_tick_15 : decode b_MD_tick 15 = .ok (.dcmp .g, 1) := by decide +kernel
theorem d_MD_tick_16 : decode b_MD_tick 16 = .ok (.ifCond .le 10, 3) := by decide +kernel
theorem d_MD_tick_19 : decode b_MD_tick 19 = .ok (.aload_n 0, 1) := by decide +kernel
theorem d_MD_tick_20 : decode b_MD_tick 20 = .ok (.iconst 1, 1) := by decide +kernel
theorem d_MD_tick_21 : decode b_MD_tick 21 = .ok (.invokevirtual 67, 3) := by decide +kernel
theorem d_MD_tick_24 : decode b_MD_tick 24 = .ok (.i2d, 1) := by decide +kernel
theorem d_MD_tick_25 : decode b_MD_tick 25 = .ok (.dreturn, 1) := by decide +kernel
theorem d_MD_tick_26 : decode b_MD_tick 26 = .ok (.aload_n 0, 1) := by decide +kernel
theorem d_MD_tick_27 : decode b_MD_tick 27 = .ok (.dup, 1) := by decide +kernel
theorem d_MD_tick_28 : decode b_MD_tick 28 = .ok (.getfield 71, 3) := by decide +kernel
theorem d_MD_tick_31 : decode b_MD_tick 31 = .ok (.dload_n 1, 1) := by decide +kernel
theorem d_MD_tick_32 : decode b_MD_tick 32 = .ok (.dadd, 1) := by decide +kernel
theorem d_MD_tick_33 : decode b_MD_tick 33 = .ok (.putfield 71, 3) := by decide +kernel
theorem d_MD_tick_36 : decode b_MD_tick 36 = .ok (.aload_n 0, 1) := by decide +kernel
theorem d_MD_tick_37 : decode b_MD_tick 37 = .ok (.getfield 71, 3) := by decide +kernel
theorem d_MD_tick_40 : decode b_MD_tick 40 = .ok (.dreturn, 1) := by decide +kernel
theorem d_MD_load_0 : decode b_MD_load 0 = .ok (.aload_n 0, 1) := by decide +kernel
theorem d_MD_load_1 : decode b_MD_load 1 = .ok (.iconst 0, 1) := by decide +kernel
theorem d_MD_load_2 : decode b_MD_load 2 = .ok (.putfield 59, 3) := by decide +kernel
theorem d_MD_load_5 : decode b_MD_load 5 = .ok (.iconst 0, 1) := by decide +kernel
theorem d_MD_load_6 : decode b_MD_load 6 = .ok (.istore_n 1, 1) := by decide +kernel
theorem d_MD_load_7 : decode b_MD_load 7 = .ok (.iconst 0, 1) := by decide +kernel
theorem d_MD_load_8 : decode b_MD_load 8 = .ok (.istore_n 2, 1) := by decide +kernel
theorem d_MD_load_9 : decode b_MD_load 9 = .ok (.iconst 0, 1) := by decide +kernel
theorem d_MD_load_10 : decode b_MD_load 10 = .ok (.istore_n 3, 1) := by decide +kernel
theorem d_MD_load_11 : decode b_MD_load 11 = .ok (.iload_n 3, 1) := by decide +kernel
theorem d_MD_load_12 : decode b_MD_load 12 = .ok (.iconst 5, 1) := by decide +kernel
theorem d_MD_load_13 : decode b_MD_load 13 = .ok (.if_icmp .ge 47, 3) := by decide +kernel
theorem d_MD_load_16 : decode b_MD_load 16 = .ok (.iload_n 1, 1) := by decide +kernel
theorem d_MD_load_17 : decode b_MD_load 17 = .ok (.aload_n 0, 1) := by decide +kernel
theorem d_MD_load_18 : decode b_MD_load 18 = .ok (.getfield 32, 3) := by decide +kernel
theorem d_MD_load_21 : decode b_MD_load 21 = .ok (.iload_n 3, 1) := by decide +kernel
theorem d_MD_load_22 : decode b_MD_load 22 = .ok (.baload, 1) := by decide +kernel
theorem d_MD_load_23 : decode b_MD_load 23 = .ok (.ifCond .eq 7, 3) := by decide +kernel
theorem d_MD_load_26 : decode b_MD_load 26 = .ok (.iconst 0, 1) := by decide +kernel
theorem d_MD_load_27 : decode b_MD_load 27 = .ok (.goto 4, 3) := by decide +kernel
theorem d_MD_load_30 : decode b_MD_load 30 = .ok (.iconst 1, 1) := by decide +kernel
theorem d_MD_load_31 : decode b_MD_load 31 = .ok (.iadd, 1) := by decide +kernel
theorem d_MD_load_32 : decode b_MD_load 32 = .ok (.istore_n 1, 1) := by decide +kernel
theorem d_MD_load_33 : decode b_MD_load 33 = .ok (.iload_n 2, 1) := by decide +kernel
theorem d_MD_load_34 : decode b_MD_load 34 = .ok (.aload_n 0, 1) := by decide +kernel
theorem d_MD_load_35 : decode b_MD_load 35 = .ok (.getfield 32, 3) := by decide +kernel
theorem d_MD_load_38 : decode b_MD_load 38 = .ok (.iload_n 3, 1) := by decide +kernel
theorem d_MD_load_39 : decode b_MD_load 39 = .ok (.baload, 1) := by decide +kernel
theorem d_MD_load_40 : decode b_MD_load 40 = .ok (.ifCond .eq 7, 3) := by decide +kernel
theorem d_MD_load_43 : decode b_MD_load 43 = .ok (.iconst 0, 1) := by decide +kernel
theorem d_MD_load_44 : decode b_MD_load 44 = .ok (.goto 8, 3) := by decide +kernel
theorem d_MD_load_47 : decode b_MD_load 47 = .ok (.aload_n 0, 1) := by decide +kernel
theorem d_MD_load_48 : decode b_MD_load 48 = .ok (.iload_n 3, 1) := by decide +kernel
theorem d_MD_load_49 : decode b_MD_load 49 = .ok (.invokevirtual 75, 3) := by decide +kernel
theorem d_MD_load_52 : decode b_MD_load 52 = .ok (.iadd, 1) := by decide +kernel
theorem d_MD_load_53 : decode b_MD_load 53 = .ok (.istore_n 2, 1) := by decide +kernel
theorem d_MD_load_54 : decode b_MD_load 54 = .ok (.iinc 3 1, 3) := by decide +kernel
theorem d_MD_load_57 : decode b_MD_load 57 = .ok (.goto (-46), 3) := by decide +kernel
theorem d_MD_load_60 : decode b_MD_load 60 = .ok (.iload_n 1, 1) := by decide +kernel
theorem d_MD_load_61 : decode b_MD_load 61 = .ok (.ifCond .ne 10, 3) := by decide +kernel
theorem d_MD_load_64 : decode b_MD_load 64 = .ok (.aload_n 0, 1) := by decide +kernel
theorem d_MD_load_65 : decode b_MD_load 65 = .ok (.iconst 1, 1) := by decide +kernel
theorem d_MD_load_66 : decode b_MD_load 66 = .ok (.invokevirtual 67, 3) := by decide +kernel
theorem d_MD_load_69 : decode b_MD_load 69 = .ok (.i2d, 1) := by decide +kernel
theorem d_MD_load_70 : decode b_MD_load 70 = .ok (.dreturn, 1) := by decide +kernel
theorem d_MD_load_71 : decode b_MD_load 71 = .ok (.iload_n 2, 1) := by decide +kernel
theorem d_MD_load_72 : decode b_MD_load 72 = .ok (.i2d, 1) := by decide +kernel
theorem d_MD_load_73 : decode b_MD_load 73 = .ok (.iload_n 1, 1) := by decide +kernel
theorem d_MD_load_74 : decode b_MD_load 74 = .ok (.i2d, 1) := by decide +kernel
theorem d_MD_load_75 : decode b_MD_load 75 = .ok (.ddiv, 1) := by decide +kernel
theorem d_MD_load_76 : decode b_MD_load 76 = .ok (.dreturn, 1) := by decide +kernel
theorem d_MD_look_0 : decode b_MD_look 0 = .ok (.aload_n 0, 1) := by decide +kernel
theorem d_MD_look_1 : decode b_MD_look 1 = .ok (.iconst 0, 1) := by decide +kernel
theorem d_MD_look_2 : decode b_MD_look 2 = .ok (.putfield 59, 3) := by decide +kernel
theorem d_MD_look_5 : decode b_MD_look 5 = .ok (.aload_n 0, 1) := by decide +kernel
theorem d_MD_look_6 : decode b_MD_look 6 = .ok (.iload_n 1, 1) := by decide +kernel
theorem d_MD_look_7 : decode b_MD_look 7 = .ok (.iconst 5, 1) := by decide +kernel
theorem d_MD_look_8 : decode b_MD_look 8 = .ok (.invokevirtual 63, 3) := by decide +kernel
theorem d_MD_look_11 : decode b_MD_look 11 = .ok (.ifCond .ne 23, 3) := by decide +kernel
theorem d_MD_look_14 : decode b_MD_look 14 = .ok (.aload_n 0, 1) := by decide +kernel
theorem d_MD_look_15 : decode b_MD_look 15 = .ok (.iload_n 2, 1) := by decide +kernel
theorem d_MD_look_16 : decode b_MD_look 16 = .ok (.bipush 30, 2) := by decide +kernel
theorem d_MD_look_18 : decode b_MD_look 18 = .ok (.invokevirtual 63, 3) := by decide +kernel
theorem d_MD_look_21 : decode b_MD_look 21 = .ok (.ifCond .ne 13, 3) := by decide +kernel
theorem d_MD_look_24 : decode b_MD_look 24 = .ok (.aload_n 0, 1) := by decide +kernel
theorem d_MD_look_25 : decode b_MD_look 25 = .ok (.iload_n 3, 1) := by decide +kernel
theorem d_MD_look_26 : decode b_MD_look 26 = .ok (.bipush 6, 2) := by decide +kernel
theorem d_MD_look_28 : decode b_MD_look 28 = .ok (.invokevirtual 63, 3) := by decide +kernel
theorem d_MD_look_31 : decode b_MD_look 31 = .ok (.ifCond .eq 9, 3) := by decide +kernel
theorem d_MD_look_34 : decode b_MD_look 34 = .ok (.aload_n 0, 1) := by decide +kernel
theorem d_MD_look_35 : decode b_MD_look 35 = .ok (.iconst 1, 1) := by decide +kernel
theorem d_MD_look_36 : decode b_MD_look 36 = .ok (.invokevirtual 67, 3) := by decide +kernel
theorem d_MD_look_39 : decode b_MD_look 39 = .ok (.ireturn, 1) := by decide +kernel
theorem d_MD_look_40 : decode b_MD_look 40 = .ok (.bipush 30, 2) := by decide +kernel
theorem d_MD_look_42 : decode b_MD_look 42 = .ok (.iload_n 1, 1) := by decide +kernel
theorem d_MD_look_43 : decode b_MD_look 43 = .ok (.imul, 1) := by decide +kernel
theorem d_MD_look_44 : decode b_MD_look 44 = .ok (.iload_n 2, 1) := by decide +kernel
theorem d_MD_look_45 : decode b_MD_look 45 = .ok (.iadd, 1) := by decide +kernel
theorem d_MD_look_46 : decode b_MD_look 46 = .ok (.istore 4, 2) := by decide +kernel
theorem d_MD_look_48 : decode b_MD_look 48 = .ok (.aload_n 0, 1) := by decide +kernel
theorem d_MD_look_49 : decode b_MD_look 49 = .ok (.getfield 36, 3) := by decide +kernel
theorem d_MD_look_52 : decode b_MD_look 52 = .ok (.iload 4, 2) := by decide +kernel
theorem d_MD_look_54 : decode b_MD_look 54 = .ok (.iaload, 1) := by decide +kernel
theorem d_MD_look_55 : decode b_MD_look 55 = .ok (.ifCond .ne 9, 3) := by decide +kernel
theorem d_MD_look_58 : decode b_MD_look 58 = .ok (.aload_n 0, 1) := by decide +kernel
theorem d_MD_look_59 : decode b_MD_look 59 = .ok (.iconst 2, 1) := by decide +kernel
theorem d_MD_look_60 : decode b_MD_look 60 = .ok (.invokevirtual 67, 3) := by decide +kernel
theorem d_MD_look_63 : decode b_MD_look 63 = .ok (.ireturn, 1) := by decide +kernel
theorem d_MD_look_64 : decode b_MD_look 64 = .ok (.iload_n 3, 1) := by decide +kernel
theorem d_MD_look_65 : decode b_MD_look 65 = .ok (.ifCond .ne 13, 3) := by decide +kernel
theorem d_MD_look_68 : decode b_MD_look 68 = .ok (.aload_n 0, 1) := by decide +kernel
theorem d_MD_look_69 : decode b_MD_look 69 = .ok (.getfield 36, 3) := by decide +kernel
theorem d_MD_look_72 : decode b_MD_look 72 = .ok (.iload 4, 2) := by decide +kernel
theorem d_MD_look_74 : decode b_MD_look 74 = .ok (.iaload, 1) := by decide +kernel
theorem d_MD_look_75 : decode b_MD_look 75 = .ok (.goto 31, 3) := by decide +kernel
theorem d_MD_look_78 : decode b_MD_look 78 = .ok (.iload_n 3, 1) := by decide +kernel
theorem d_MD_look_79 : decode b_MD_look 79 = .ok (.iconst 1, 1) := by decide +kernel
theorem d_MD_look_80 : decode b_MD_look 80 = .ok (.if_icmp .ne 13, 3) := by decide +kernel
theorem d_MD_look_83 : decode b_MD_look 83 = .ok (.aload_n 0, 1) := by decide +kernel
theorem d_MD_look_84 : decode b_MD_look 84 = .ok (.getfield 39, 3) := by decide +kernel
theorem d_MD_look_87 : decode b_MD_look 87 = .ok (.iload 4, 2) := by decide +kernel
theorem d_MD_look_89 : decode b_MD_look 89 = .ok (.iaload, 1) := by decide +kernel
theorem d_MD_look_90 : decode b_MD_look 90 = .ok (.goto 16, 3) := by decide +kernel
theorem d_MD_look_93 : decode b_MD_look 93 = .ok (.aload_n 0, 1) := by decide +kernel
theorem d_MD_look_94 : decode b_MD_look 94 = .ok (.getfield 42, 3) := by decide +kernel
theorem d_MD_look_97 : decode b_MD_look 97 = .ok (.iconst 4, 1) := by decide +kernel
theorem d_MD_look_98 : decode b_MD_look 98 = .ok (.iload 4, 2) := by decide +kernel
theorem d_MD_look_100 : decode b_MD_look 100 = .ok (.imul, 1) := by decide +kernel
theorem d_MD_look_101 : decode b_MD_look 101 = .ok (.iload_n 3, 1) := by decide +kernel
theorem d_MD_look_102 : decode b_MD_look 102 = .ok (.iadd, 1) := by decide +kernel
theorem d_MD_look_103 : decode b_MD_look 103 = .ok (.iconst 2, 1) := by decide +kernel
theorem d_MD_look_104 : decode b_MD_look 104 = .ok (.isub, 1) := by decide +kernel
theorem d_MD_look_105 : decode b_MD_look 105 = .ok (.iaload, 1) := by decide +kernel
theorem d_MD_look_106 : decode b_MD_look 106 = .ok (.ireturn, 1) := by decide +kernel
theorem d_MD_file_0 : decode b_MD_file 0 = .ok (.aload_n 0, 1) := by decide +kernel
theorem d_MD_file_1 : decode b_MD_file 1 = .ok (.iconst 0, 1) := by decide +kernel
theorem d_MD_file_2 : decode b_MD_file 2 = .ok (.putfield 59, 3) := by decide +kernel
theorem d_MD_file_5 : decode b_MD_file 5 = .ok (.aload_n 0, 1) := by decide +kernel
theorem d_MD_file_6 : decode b_MD_file 6 = .ok (.iload_n 1, 1) := by decide +kernel
theorem d_MD_file_7 : decode b_MD_file 7 = .ok (.bipush 8, 2) := by decide +kernel
theorem d_MD_file_9 : decode b_MD_file 9 = .ok (.invokevirtual 63, 3) := by decide +kernel
theorem d_MD_file_12 : decode b_MD_file 12 = .ok (.ifCond .ne 12, 3) := by decide +kernel
theorem d_MD_file_15 : decode b_MD_file 15 = .ok (.aload_n 0, 1) := by decide +kernel
theorem d_MD_file_16 : decode b_MD_file 16 = .ok (.iload_n 2, 1) := by decide +kernel
theorem d_MD_file_17 : decode b_MD_file 17 = .ok (.iconst 5, 1) := by decide +kernel
theorem d_MD_file_18 : decode b_MD_file 18 = .ok (.invokevirtual 63, 3) := by decide +kernel
theorem d_MD_file_21 : decode b_MD_file 21 = .ok (.ifCond .eq 9, 3) := by decide +kernel
theorem d_MD_file_24 : decode b_MD_file 24 = .ok (.aload_n 0, 1) := by decide +kernel
theorem d_MD_file_25 : decode b_MD_file 25 = .ok (.iconst 1, 1) := by decide +kernel
theorem d_MD_file_26 : decode b_MD_file 26 = .ok (.invokevirtual 67, 3) := by decide +kernel
theorem d_MD_file_29 : decode b_MD_file 29 = .ok (.ireturn, 1) := by decide +kernel
theorem d_MD_file_30 : decode b_MD_file 30 = .ok (.iload_n 2, 1) := by decide +kernel
theorem d_MD_file_31 : decode b_MD_file 31 = .ok (.ifCond .ne 10, 3) := by decide +kernel
theorem d_MD_file_34 : decode b_MD_file 34 = .ok (.aload_n 0, 1) := by decide +kernel
theorem d_MD_file_35 : decode b_MD_file 35 = .ok (.getfield 7, 3) := by decide +kernel
theorem d_MD_file_38 : decode b_MD_file 38 = .ok (.iload_n 1, 1) := by decide +kernel
theorem d_MD_file_39 : decode b_MD_file 39 = .ok (.iaload, 1) := by decide +kernel
theorem d_MD_file_40 : decode b_MD_file 40 = .ok (.ireturn, 1) := by decide +kernel
theorem d_MD_file_41 : decode b_MD_file 41 = .ok (.iload_n 2, 1) := by decide +kernel
theorem d_MD_file_42 : decode b_MD_file 42 = .ok (.iconst 1, 1) := by decide +kernel
theorem d_MD_file_43 : decode b_MD_file 43 = .ok (.if_icmp .ne 10, 3) := by decide +kernel
theorem d_MD_file_46 : decode b_MD_file 46 = .ok (.aload_n 0, 1) := by decide +kernel
theorem d_MD_file_47 : decode b_MD_file 47 = .ok (.getfield 20, 3) := by decide +kernel
theorem d_MD_file_50 : decode b_MD_file 50 = .ok (.iload_n 1, 1) := by decide +kernel
theorem d_MD_file_51 : decode b_MD_file 51 = .ok (.iaload, 1) := by decide +kernel
theorem d_MD_file_52 : decode b_MD_file 52 = .ok (.ireturn, 1) := by decide +kernel
theorem d_MD_file_53 : decode b_MD_file 53 = .ok (.iload_n 2, 1) := by decide +kernel
theorem d_MD_file_54 : decode b_MD_file 54 = .ok (.iconst 2, 1) := by decide +kernel
theorem d_MD_file_55 : decode b_MD_file 55 = .ok (.isub, 1) := by decide +kernel
theorem d_MD_file_56 : decode b_MD_file 56 = .ok (.aload_n 0, 1) := by decide +kernel
theorem d_MD_file_57 : decode b_MD_file 57 = .ok (.getfield 20, 3) := by decide +kernel
theorem d_MD_file_60 : decode b_MD_file 60 = .ok (.iload_n 1, 1) := by decide +kernel
theorem d_MD_file_61 : decode b_MD_file 61 = .ok (.iaload, 1) := by decide +kernel
theorem d_MD_file_62 : decode b_MD_file 62 = .ok (.if_icmp .ge 18, 3) := by decide +kernel
theorem d_MD_file_65 : decode b_MD_file 65 = .ok (.aload_n 0, 1) := by decide +kernel
theorem d_MD_file_66 : decode b_MD_file 66 = .ok (.getfield 17, 3) := by decide +kernel
theorem d_MD_file_69 : decode b_MD_file 69 = .ok (.iconst 3, 1) := by decide +kernel
theorem d_MD_file_70 : decode b_MD_file 70 = .ok (.iload_n 1, 1) := by decide +kernel
theorem d_MD_file_71 : decode b_MD_file 71 = .ok (.imul, 1) := by decide +kernel
theorem d_MD_file_72 : decode b_MD_file 72 = .ok (.iload_n 2, 1) := by decide +kernel
theorem d_MD_file_73 : decode b_MD_file 73 = .ok (.iadd, 1) := by decide +kernel
theorem d_MD_file_74 : decode b_MD_file 74 = .ok (.iconst 2, 1) := by decide +kernel
theorem d_MD_file_75 : decode b_MD_file 75 = .ok (.isub, 1) := by decide +kernel
theorem d_MD_file_76 : decode b_MD_file 76 = .ok (.iaload, 1) := by decide +kernel
theorem d_MD_file_77 : decode b_MD_file 77 = .ok (.goto 4, 3) := by decide +kernel
theorem d_MD_file_80 : decode b_MD_file 80 = .ok (.iconst (-1), 1) := by decide +kernel
theorem d_MD_file_81 : decode b_MD_file 81 = .ok (.ireturn, 1) := by decide +kernel
theorem d_MD_chunk_0 : decode b_MD_chunk 0 = .ok (.aload_n 0, 1) := by decide +kernel
theorem d_MD_chunk_1 : decode b_MD_chunk 1 = .ok (.iconst 0, 1) := by decide +kernel
theorem d_MD_chunk_2 : decode b_MD_chunk 2 = .ok (.putfield 59, 3) := by decide +kernel
theorem d_MD_chunk_5 : decode b_MD_chunk 5 = .ok (.aload_n 0, 1) := by decide +kernel
theorem d_MD_chunk_6 : decode b_MD_chunk 6 = .ok (.iload_n 1, 1) := by decide +kernel
theorem d_MD_chunk_7 : decode b_MD_chunk 7 = .ok (.bipush 30, 2) := by decide +kernel
theorem d_MD_chunk_9 : decode b_MD_chunk 9 = .ok (.invokevirtual 63, 3) := by decide +kernel
theorem d_MD_chunk_12 : decode b_MD_chunk 12 = .ok (.ifCond .ne 12, 3) := by decide +kernel
theorem d_MD_chunk_15 : decode b_MD_chunk 15 = .ok (.aload_n 0, 1) := by decide +kernel
theorem d_MD_chunk_16 : decode b_MD_chunk 16 = .ok (.iload_n 2, 1) := by decide +kernel
theorem d_MD_chunk_17 : decode b_MD_chunk 17 = .ok (.iconst 5, 1) := by decide +kernel
theorem d_MD_chunk_18 : decode b_MD_chunk 18 = .ok (.invokevirtual 63, 3) := by decide +kernel
theorem d_MD_chunk_21 : decode b_MD_chunk 21 = .ok (.ifCond .eq 9, 3) := by decide +kernel
theorem d_MD_chunk_24 : decode b_MD_chunk 24 = .ok (.aload_n 0, 1) := by decide +kernel
theorem d_MD_chunk_25 : decode b_MD_chunk 25 = .ok (.iconst 1, 1) := by decide +kernel
theorem d_MD_chunk_26 : decode b_MD_chunk 26 = .ok (.invokevirtual 67, 3) := by decide +kernel
theorem d_MD_chunk_29 : decode b_MD_chunk 29 = .ok (.ireturn, 1) := by decide +kernel
theorem d_MD_chunk_30 : decode b_MD_chunk 30 = .ok (.iload_n 1, 1) := by decide +kernel
theorem d_MD_chunk_31 : decode b_MD_chunk 31 = .ok (.aload_n 0, 1) := by decide +kernel
theorem d_MD_chunk_32 : decode b_MD_chunk 32 = .ok (.getfield 78, 3) := by decide +kernel
theorem d_MD_chunk_35 : decode b_MD_chunk 35 = .ok (.if_icmp .lt 9, 3) := by decide +kernel
theorem d_MD_chunk_38 : decode b_MD_chunk 38 = .ok (.aload_n 0, 1) := by decide +kernel
theorem d_MD_chunk_39 : decode b_MD_chunk 39 = .ok (.iconst 2, 1) := by decide +kernel
theorem d_MD_chunk_40 : decode b_MD_chunk 40 = .ok (.invokevirtual 67, 3) := by decide +kernel
theorem d_MD_chunk_43 : decode b_MD_chunk 43 = .ok (.ireturn, 1) := by decide +kernel
theorem d_MD_chunk_44 : decode b_MD_chunk 44 = .ok (.iload_n 2, 1) := by decide +kernel
theorem d_MD_chunk_45 : decode b_MD_chunk 45 = .ok (.tableswitch 61 0 3 #[31, 38, 44, 51], 31) := by decide +kernel
theorem d_MD_chunk_76 : decode b_MD_chunk 76 = .ok (.aload_n 0, 1) := by decide +kernel
theorem d_MD_chunk_77 : decode b_MD_chunk 77 = .ok (.getfield 23, 3) := by decide +kernel
theorem d_MD_chunk_80 : decode b_MD_chunk 80 = .ok (.iload_n 1, 1) := by decide +kernel
theorem d_MD_chunk_81 : decode b_MD_chunk 81 = .ok (.iaload, 1) := by decide +kernel
theorem d_MD_chunk_82 : decode b_MD_chunk 82 = .ok (.ireturn, 1) := by decide +kernel
theorem d_MD_chunk_83 : decode b_MD_chunk 83 = .ok (.aload_n 0, 1) := by decide +kernel
theorem d_MD_chunk_84 : decode b_MD_chunk 84 = .ok (.iload_n 1, 1) := by decide +kernel
theorem d_MD_chunk_85 : decode b_MD_chunk 85 = .ok (.invokevirtual 101, 3) := by decide +kernel
theorem d_MD_chunk_88 : decode b_MD_chunk 88 = .ok (.ireturn, 1) := by decide +kernel
theorem d_MD_chunk_89 : decode b_MD_chunk 89 = .ok (.aload_n 0, 1) := by decide +kernel
theorem d_MD_chunk_90 : decode b_MD_chunk 90 = .ok (.getfield 26, 3) := by decide +kernel
theorem d_MD_chunk_93 : decode b_MD_chunk 93 = .ok (.iload_n 1, 1) := by decide +kernel
theorem d_MD_chunk_94 : decode b_MD_chunk 94 = .ok (.iaload, 1) := by decide +kernel
theorem d_MD_chunk_95 : decode b_MD_chunk 95 = .ok (.ireturn, 1) := by decide +kernel
theorem d_MD_chunk_96 : decode b_MD_chunk 96 = .ok (.aload_n 0, 1) := by decide +kernel
theorem d_MD_chunk_97 : decode b_MD_chunk 97 = .ok (.aload_n 0, 1) := by decide +kernel
theorem d_MD_chunk_98 : decode b_MD_chunk 98 = .ok (.iload_n 1, 1) := by decide +kernel
theorem d_MD_chunk_99 : decode b_MD_chunk 99 = .ok (.invokevirtual 98, 3) := by decide +kernel
theorem d_MD_chunk_102 : decode b_MD_chunk 102 = .ok (.invokevirtual 118, 3) := by decide +kernel
theorem d_MD_chunk_105 : decode b_MD_chunk 105 = .ok (.ireturn, 1) := by decide +kernel
theorem d_MD_chunk_106 : decode b_MD_chunk 106 = .ok (.aload_n 0, 1) := by decide +kernel
theorem d_MD_chunk_107 : decode b_MD_chunk 107 = .ok (.getfield 29, 3) := by decide +kernel
theorem d_MD_chunk_110 : decode b_MD_chunk 110 = .ok (.iload_n 1, 1) := by decide +kernel
theorem d_MD_chunk_111 : decode b_MD_chunk 111 = .ok (.daload, 1) := by decide +kernel
theorem d_MD_chunk_112 : decode b_MD_chunk 112 = .ok (.aload_n 0, 1) := by decide +kernel
theorem d_MD_chunk_113 : decode b_MD_chunk 113 = .ok (.getfield 71, 3) := by decide +kernel
theorem d_MD_chunk_116 : decode b_MD_chunk 116 = .ok (.dcmp .l, 1) := by decide +kernel
theorem d_MD_chunk_117 : decode b_MD_chunk 117 = .ok (.ifCond .le 7, 3) := by decide +kernel
theorem d_MD_chunk_120 : decode b_MD_chunk 120 = .ok (.iconst 1, 1) := by decide +kernel
theorem d_MD_chunk_121 : decode b_MD_chunk 121 = .ok (.goto 4, 3) := by decide +kernel
theorem d_MD_chunk_124 : decode b_MD_chunk 124 = .ok (.iconst 0, 1) := by decide +kernel
theorem d_MD_chunk_125 : decode b_MD_chunk 125 = .ok (.ireturn, 1) := by decide +kernel
end XDEC
end
section
/-! Methods that may throw: contracts with both outcomes, both roads behind a call, a frame's own handlers. -/
section XT0
/-- by the outcome -/
def xk (o : Outcome) (a b : Nat) : Nat := match o with
  | .returned _ => a
  | .threw _ => b
/-- the frame of a method that returns or throws: what it makes goes by the outcome -/
def xFE (st : State) (o : Outcome) (t : State) (L : List Loc) (kR nR kT nT : Nat) : Prop :=
  st.WarmedH t.vm ∧ st.sameButNew ({ t with vm := st.vm } : State) L (xk o kR kT) (xk o nR nT)
def xMet (l : Launch) (y : MethodName) (ws : List Cond) (rm : Room) (Pc : Array Value → State → Prop) (Qc : Array Value → State → Outcome → State → Prop) (kR nR kT nT : Nat) (free : Addr → Prop) : Prop :=
  MetFree l y (headSpec ws rm) Pc (fun _ _ _ _ _ => True) (fun a st o t => Qc a st o t ∧ ∃ L, xFE st o t L kR nR kT nT ∧ ∀ q ∈ L, free q.base)
def xMQ (below : List Frame) (Qc : Array Value → State → Outcome → State → Prop) (a : Array Value) (s : State) (kR nR kT nT : Nat) (free : Addr → Prop) : State → Prop := fun t =>
  ∃ o, t.status = .running ∧ Ended t below o ∧ Qc a s o t ∧ ∃ L, xFE s o t L kR nR kT nT ∧ ∀ q ∈ L, free q.base
/-- where a callee's outcome leaves the caller -/
def xEnd (T' : State) (g : JFrame) (len : Nat) (o : Outcome) : State := match o with
  | .returned v => T'.setTop { g with pc := g.pc + len, stack := v.toList ++ g.stack }
  | .threw x => (T'.setTop g).pushFrame (.throwing x)
theorem xMQ.of {below : List Frame} {Qc : Array Value → State → Outcome → State → Prop} {a : Array Value} {s : State} {kR nR kT nT : Nat} {free : Addr → Prop} {t : State} (h : MQ below Qc a s kR nR free t) : xMQ below Qc a s kR nR kT nT free t := by
  obtain ⟨o, h1, h2, h3, L, ⟨⟨v, rfl⟩, h4, h5⟩, h6⟩ := h
  exact ⟨_, h1, h2, h3, L, ⟨h4, h5⟩, h6⟩
end XT0
section XT1
variable {p : Program} {l : Launch} {e : Env} {R : Room} {s : State} {m : MethodId} {args : Array Value} {below : List Frame} {meth : Method} {c : Code} {H : Heap} {locs : List Loc} {cells slots : Nat} {Q Q' : State → Prop}
theorem xW_mono {g : JFrame} (h : ∀ t, Q t → Q' t) (k : W p l e R s m args below meth c H locs cells slots Q g) : W p l e R s m args below meth c H locs cells slots Q' g := by
  intro T hT X
  obtain ⟨t, a, b⟩ := k T hT X
  exact ⟨t, a, h t b⟩
/-- the machine with the exception at x on its way out of the frame g -/
def WT (p : Program) (l : Launch) (e : Env) (R : Room) (s : State) (m : MethodId) (args : Array Value) (below : List Frame) (meth : Method) (c : Code) (H : Heap) (locs : List Loc) (cells slots : Nat) (Q : State → Prop) (g : JFrame) (x : Addr) : Prop :=
  ∀ T : State, T.heap = H → Stand p l e R s m args below meth c T locs cells slots → ∃ t, Steps p.tables e below ((T.setTop g).pushFrame (.throwing x)) t ∧ Q t
theorem xMet_ofW {y : MethodName} {ws ws' : List Cond} {rm : Room} {Pc : Array Value → State → Prop} {Qc : Array Value → State → Outcome → State → Prop} {kR nR kT nT : Nat} {free : Addr → Prop} {cc : ByteArray} {maxL : Nat} {ret : Option FieldType}
    (hy : plainName y.cls = true) (hw : ws = Cond.code y cc maxL ret :: ws')
    (body : ∀ p e s m args below meth c s₁, BodyLoose p l y (headSpec ws rm) cc maxL ret e s m args below meth c s₁ → c.maxLocals = maxL → Pc args s →
      W p l e rm s m args below meth c s.heap [] 0 0 (xMQ below Qc args s kR nR kT nT free) (entryFrame m args maxL)) : xMet l y ws rm Pc Qc kR nR kT nT free := by
  refine MetFree.of_bodyS (code := cc) (maxLocals := maxL) (ret := ret) hy ?_ ?_
  · intro args s m h hn
    obtain ⟨meth, c, h1, h2, h3, h4, h5, h6, -, -⟩ := Cond.code_spec hn (atoms_spec (ws := ws) h _ (by rw [hw]; exact List.mem_cons_self))
    exact ⟨meth, c, h1, h2, h3, h4, h5, h6⟩
  · intro p e s m args below meth c s₁ B hml hP _
    have hh0 : s₁.heap = s.heap := by rw [B.state]; rfl
    obtain ⟨t, a1, o, b1, b2, b3⟩ := body p e s m args below meth c s₁ B hml hP s₁ hh0 (Stand.of_body B)
    exact ⟨t, o, a1, b1, b2, b3⟩
/-- a method with handlers -/
theorem xMet_ofWH {y : MethodName} {ws ws' : List Cond} {rm : Room} {Pc : Array Value → State → Prop} {Qc : Array Value → State → Outcome → State → Prop} {kR nR kT nT : Nat} {free : Addr → Prop} {cc : ByteArray} {maxL : Nat} {ret : Option FieldType} {hh : List (Nat × Nat × Nat × Nat)}
    (hy : plainName y.cls = true) (hw : ws = Cond.codeWith y cc maxL ret hh :: ws')
    (body : ∀ p e s m args below meth c s₁, BodyLoose p l y (headSpec ws rm) cc maxL ret e s m args below meth c s₁ → c.maxLocals = maxL → Pc args s →
      W p l e rm s m args below meth c s.heap [] 0 0 (xMQ below Qc args s kR nR kT nT free) (entryFrame m args maxL)) : xMet l y ws rm Pc Qc kR nR kT nT free := by
  refine MetFree.of_bodyS (code := cc) (maxLocals := maxL) (ret := ret) hy ?_ ?_
  · intro args s m h hn
    obtain ⟨m9, meth, c, hn9, h1, h2, h3, h4, -, h5, h6, -⟩ := Cond.codeWith_spec (atoms_spec (ws := ws) h _ (by rw [hw]; exact List.mem_cons_self))
    cases hn.symm.trans hn9
    exact ⟨meth, c, h1, h2, h3, h4, h5, h6⟩
  · intro p e s m args below meth c s₁ B hml hP _
    have hh0 : s₁.heap = s.heap := by rw [B.state]; rfl
    obtain ⟨t, a1, o, b1, b2, b3⟩ := body p e s m args below meth c s₁ B hml hP s₁ hh0 (Stand.of_body B)
    exact ⟨t, o, a1, b1, b2, b3⟩
/-- the exception leaves the method -/
theorem xT_out {Qc : Array Value → State → Outcome → State → Prop} {free : Addr → Prop} {kR nR kT nT : Nat} {g : JFrame} {x : Addr} (hg : g.method = m) (hlk : g.locked = none) (hen : g.entered = []) (hout : ∀ z ∈ c.exceptionTable.toList, covers z g.pc = false) (hlocks : meth.locks = false) (hk : cells ≤ kT) (hn : slots ≤ nT)
    (hq : ∀ t : State, t.heap = H → s.WarmedH t.vm → Qc args s (.threw x) t) (hf : ∀ q ∈ locs, free q.base) : WT p l e R s m args below meth c H locs cells slots (xMQ below Qc args s kR nR kT nT free) g x := by
  intro T hT X
  obtain ⟨h1, h2, h3, h4, h5⟩ := X.leaveThrown x hg hlk hen hout hlocks
  exact ⟨_, h1, _, h2, h3, hq _ hT h4, locs, ⟨h4, h5.mono hk hn⟩, hf⟩
/-- the exception is caught in the method -/
theorem xT_catch {g : JFrame} {x : Addr} {pc : Nat} (hg : g.method = m) (hfind : ∀ T : State, T.heap = H → Stand p l e R s m args below meth c T locs cells slots → Finds e ((T.setTop g).pushFrame (.throwing x)) g x (.found pc))
    (kk : W p l e R s m args below meth c H locs cells slots Q { g with pc := pc, stack := [.ref x] }) : WT p l e R s m args below meth c H locs cells slots Q g x := by
  intro T hT X
  obtain ⟨t, a, b⟩ := kk T hT X
  exact ⟨t, X.catchAt x hg (hfind T hT X) a, b⟩
/-- a call, up to both ends -/
theorem x_into {T : State} (X : Stand p l e R s m args below meth c T locs cells slots) {y : MethodName} {ws : List Cond} {rm : Room} {Pc : Array Value → State → Prop} {Qc : Array Value → State → Outcome → State → Prop} {kR nR kT nT : Nat} {free : Addr → Prop}
    (hM : xMet l y ws rm Pc Qc kR nR kT nT free) (hbl : FrameBlind Pc) {maxL W' : Nat} (hframes : rm.frames + 1 ≤ R.frames) (hlocals : W' + (maxL + 11) + rm.locals ≤ R.locals) (hcells : cells + rm.cells ≤ R.cells) (hslots : slots + rm.slots ≤ R.slots)
    {a : Array Value} (hws : ∀ w ∈ ws, w.before a T = true) {mk : MethodId} {methY : Method} {cY : Code} (hn : T.methodNamed? y = some mk) (hmY : T.vm.method? mk = some methY) (hcY : methY.code = some cY) (hlY : cY.maxLocals = maxL) (hinit : (Cond.initialized y.cls).before a T = true)
    {g : JFrame} (hg : g.method = m) (hsize : g.locals.size = c.maxLocals) {ig : Instr} {len : Nat} (hdg : decode c.code g.pc = .ok (ig, len)) (hW : 2 * g.monitorRoom + (g.stack.map fun v => v.category).sum ≤ W') (hp : Pc a T) :
    ∃ (o : Outcome) (t T' : State) (L : List Loc), Stand p l e R s m args below meth c T' (locs ++ L) (cells + xk o kR kT) (slots + xk o nR nT) ∧ (∀ q ∈ L, free q.base) ∧ T'.heap = t.heap ∧ T'.vm = t.vm ∧ Qc a (T.calling g mk a) o t ∧
      Steps p.tables e below (doInvoke e (T.setTop g) [] mk a).1 (xEnd T' g len o) := by
  obtain ⟨kY, hkY, -⟩ := className_of_methodNamed hn
  have hinitY : kY.init = .initialized := Cond.initialized_spec (findClass_of_methodNamed hn) hkY hinit
  have h : At T g.method c below := by rw [hg]; exact X.here
  have happ : (headSpec ws rm).appliesLoose y e.platform (T.calling g mk a) = true :=
    Spec.appliesLoose_calling (g := g) h hdg hn hkY hinitY
      (X.room_calling (g := g) (R' := rm) hsize hmY hcY hframes (by rw [hlY]; omega) hcells hslots) (atoms_intro hws)
  obtain ⟨mid, hmid⟩ := h.above
  have hfr : (T.setTop g).frames = (.java g :: mid) ++ below := by rw [State.frames_setTop' g h.top, hmid]; rfl
  obtain ⟨o, s₂, hsteps, -, hend, hq, L, ⟨hW2, hs2⟩, hL⟩ := Steps.callFree hM p X.admits X.cas X.clock (acts := []) hfr happ (hbl _ _ _ _ hp) trivial
  rw [State.frames_setTop' g h.top, X.tail] at hend
  cases o with
  | returned v =>
    obtain ⟨T', X', -, -, he⟩ := X.outOf hg hdg hend hW2 hs2
    subst he
    exact ⟨.returned v, xEnd T' g len (.returned v), T', L, X', hL, rfl, rfl, hq, hsteps⟩
  | threw x =>
    obtain ⟨T', X', -, -, he⟩ := X.outOfThrown hg hend hW2 hs2
    subst he
    exact ⟨.threw x, xEnd T' g len (.threw x), T', L, X', hL, rfl, rfl, hq, hsteps⟩
/-- what a call asks, and both its ends -/
def xRun (p : Program) (l : Launch) (e : Env) (R : Room) (s : State) (m : MethodId) (args : Array Value) (below : List Frame) (meth : Method) (c : Code) (H : Heap) (locs : List Loc) (cells slots kR nR kT nT : Nat) (g : JFrame) (rest : List Value) (Qa : State → Outcome → State → Prop) (free : Addr → Prop) : Prop :=
  ∀ T : State, T.heap = H → Stand p l e R s m args below meth c T locs cells slots → ∃ (o : Outcome) (st₀ t T' : State) (L : List Loc), st₀.heap = H ∧ Stand p l e R s m args below meth c T' (locs ++ L) (cells + xk o kR kT) (slots + xk o nR nT) ∧ (∀ q ∈ L, free q.base) ∧ T'.heap = t.heap ∧ T'.vm = t.vm ∧ Qa st₀ o t ∧
    ∀ target, Steps p.tables e below (xEnd T' { g with stack := rest } 3 o) target → Steps p.tables e below (T.setTop g) target
/-- behind a call: the road of a return, the road of a throw -/
theorem x_behind {kR nR kT nT : Nat} {g : JFrame} {rest : List Value} {Qa : State → Outcome → State → Prop} {free : Addr → Prop} (hr : xRun p l e R s m args below meth c H locs cells slots kR nR kT nT g rest Qa free)
    (kR' : ∀ (v : Option Value) (st₀ t : State) (H1 : Heap) (L : List Loc), t.heap = H1 → s.WarmedH t.vm → st₀.heap = H → (∀ q ∈ L, free q.base) → Qa st₀ (.returned v) t → W p l e R s m args below meth c H1 (locs ++ L) (cells + kR) (slots + nR) Q { g with pc := g.pc + 3, stack := v.toList ++ rest })
    (kT' : ∀ (x : Addr) (st₀ t : State) (H1 : Heap) (L : List Loc), t.heap = H1 → s.WarmedH t.vm → st₀.heap = H → (∀ q ∈ L, free q.base) → Qa st₀ (.threw x) t → WT p l e R s m args below meth c H1 (locs ++ L) (cells + kT) (slots + nT) Q { g with stack := rest } x) :
    W p l e R s m args below meth c H locs cells slots Q g := by
  intro T hT X
  obtain ⟨o, st₀, t, T', L, h0, X', hL, e1, e2, hq, st⟩ := hr T hT X
  cases o with
  | returned v =>
    obtain ⟨t2, a1, b1⟩ := kR' v st₀ t T'.heap L e1.symm (by rw [← e2]; exact X'.warmed) h0 hL hq T' rfl X'
    exact ⟨t2, st t2 a1, b1⟩
  | threw x =>
    obtain ⟨t2, a1, b1⟩ := kT' x st₀ t T'.heap L e1.symm (by rw [← e2]; exact X'.warmed) h0 hL hq T' rfl X'
    exact ⟨t2, st t2 a1, b1⟩
end XT1
section XT2
variable {p : Program} {l : Launch} {e : Env} {R : Room} {s : State} {m : MethodId} {args : Array Value} {below : List Frame} {meth : Method} {c : Code} {H : Heap} {locs : List Loc} {cells slots : Nat}
variable {y : MethodName} {ws : List Cond} {rm : Room} {Pc : Array Value → State → Prop} {Qc : Array Value → State → Outcome → State → Prop} {kR nR kT nT : Nat} {free : Addr → Prop} {bytes cc : ByteArray} {maxL nL index : Nat} {ret : Option FieldType} {own C host : String} {b : Addr} {As rest : List Value} {g : JFrame}
theorem x_plen {d : String} {n : Nat} (h : (parseMethodDescriptor d).map (fun d => d.parameters.length) = some n) : ∀ sig, parseMethodDescriptor d = some sig → n = sig.parameters.length := fun sig hs => by
  rw [hs] at h
  exact (Option.some.inj h).symm
/-- a static method of the own class -/
theorem x_runS (hx : p.tables.exec = Jvm.exec) (hb : c.code = cc) (hml : c.maxLocals = nL) (hown : s.vm.findClass own = some m.cls) (hM : xMet l y ws rm Pc Qc kR nR kT nT free) (hbl : FrameBlind Pc) (hR : rm.frames + 1 ≤ R.frames ∧ 8 + (maxL + 11) + rm.locals ≤ R.locals)
    (hws : ∀ w ∈ ws, ∀ (a' : Array Value) (U : State), s.WarmedH U.vm → w.before a' U = true) (hcode : (Cond.code y bytes maxL ret).before args s = true) (hst : (Cond.static y).before args s = true) (hini : (Cond.initialized y.cls).before args s = true) (hlink : (Cond.methodLink own index y).before args s = true)
    (hy : y.cls ≠ "java/lang/invoke/MethodHandle" ∧ y.cls ≠ "java/lang/invoke/VarHandle") (hlen : (parseMethodDescriptor y.desc).map (fun d => d.parameters.length) = some As.length)
    (hp : ∀ U : State, U.heap = H → s.WarmedH U.vm → Pc As.toArray U) (hg : g.method = m) (hsize : g.locals.size = nL) (hstack : g.stack = As.reverse ++ rest) (hW : 2 * g.monitorRoom + (rest.map fun v => v.category).sum ≤ 8) (hdg : decode cc g.pc = .ok (.invokestatic index, 3)) (hf : cells + rm.cells ≤ R.cells ∧ slots + rm.slots ≤ R.slots) :
    xRun p l e R s m args below meth c H locs cells slots kR nR kT nT g rest (Qc As.toArray) free := by
  intro T hT X
  obtain ⟨mk, hnamed⟩ := Cond.code_named hcode
  obtain ⟨methM, cM, hmethM, hcM, -, hlM, -, -, -, hsigM⟩ := Cond.code_spec hnamed hcode
  have hstatic : methM.isStatic = true := Cond.static_spec hnamed hmethM hst
  obtain ⟨kP, hkP, -⟩ := className_of_methodNamed hnamed
  have hinitP : kP.init = .initialized := Cond.initialized_spec (findClass_of_methodNamed hnamed) hkP hini
  obtain ⟨vm₁, X₁, hstep₁⟩ := X.invokestatic hx hown hlink hnamed hmethM hstatic hkP hinitP hy (g := g) hg (argsL := As) (rest := rest) (x_plen hlen _ hsigM) hstack (by rw [hb]; exact hdg)
  obtain ⟨o, t, T', L, X', hL, e1, e2, hq, hsteps⟩ := x_into X₁ hM hbl (maxL := maxL) (W' := 8) hR.1 hR.2 hf.1 hf.2 (a := As.toArray) (fun w hw => hws w hw _ _ X₁.warmed) (X₁.named hnamed) (by rw [X₁.warmed.alike.method?]; exact hmethM) hcM hlM
    (word_at X₁.warmed (Or.inl (by first | rfl | simp [Cond.onTables, Cond.keeps, Cond.steady])) hini) (g := { g with stack := rest }) hg (hsize.trans hml.symm) (ig := .invokestatic index) (len := 3) (by rw [hb]; exact hdg) hW (hp (T.setVm vm₁) hT X₁.warmed)
  exact ⟨o, (T.setVm vm₁).calling { g with stack := rest } mk As.toArray, t, T', L, hT, X', hL, e1, e2, hq, fun target h => hstep₁ _ fun acts => by rw [doInvoke_state]; exact hsteps.trans h⟩
/-- an instance method of the own class, or one that is public -/
theorem x_runV (hx : p.tables.exec = Jvm.exec) (hb : c.code = cc) (hml : c.maxLocals = nL) (hown : s.vm.findClass own = some m.cls) (hM : xMet l y ws rm Pc Qc kR nR kT nT free) (hbl : FrameBlind Pc) (hR : rm.frames + 1 ≤ R.frames ∧ 8 + (maxL + 11) + rm.locals ≤ R.locals)
    (hws : ∀ w ∈ ws, ∀ (a' : Array Value) (U : State), s.WarmedH U.vm → w.before a' U = true) (hcode : (Cond.code y bytes maxL ret).before args s = true) (hinst : (Cond.instanceMethod y).before args s = true) (hsel : (Cond.selects C y y).before args s = true) (hini : (Cond.initialized y.cls).before args s = true) (hlink : (Cond.methodLink own index y).before args s = true)
    (hy : y.cls ≠ "java/lang/invoke/MethodHandle" ∧ y.cls ≠ "java/lang/invoke/VarHandle") (hlen : (parseMethodDescriptor y.desc).map (fun d => d.parameters.length) = some As.length)
    (hrecv : ∃ cellB : Cell, H[b]? = some cellB ∧ cellB.vm.isStatics = false ∧ s.vm.findClass C = some cellB.cls)
    (hp : ∀ U : State, U.heap = H → s.WarmedH U.vm → Pc (Value.ref b :: As).toArray U) (hg : g.method = m) (hsize : g.locals.size = nL) (hstack : g.stack = As.reverse ++ .ref b :: rest) (hW : 2 * g.monitorRoom + (rest.map fun v => v.category).sum ≤ 8) (hdg : decode cc g.pc = .ok (.invokevirtual index, 3)) (hf : cells + rm.cells ≤ R.cells ∧ slots + rm.slots ≤ R.slots) :
    xRun p l e R s m args below meth c H locs cells slots kR nR kT nT g rest (Qc (Value.ref b :: As).toArray) free := by
  intro T hT X
  obtain ⟨cellB, hcB, hobj, hcls⟩ := hrecv
  obtain ⟨mk, methM, hnamed, hmethM, hstM, habM⟩ := Cond.instanceMethod_spec hinst
  obtain ⟨methM', cM, hmethM', hcM, -, hlM, -, -, -, hsigM⟩ := Cond.code_spec hnamed hcode
  cases hmethM.symm.trans hmethM'
  obtain ⟨c2, r2, m2, q1, q2, q3, q4, kP, hkP, hkPi⟩ := Cond.selects_spec hsel
  cases hcls.symm.trans q1
  cases (State.methodFound?_of_named hnamed hy).symm.trans q2
  cases hnamed.symm.trans q3
  have hselP : selectMethod e.platform s.vm cellB.cls mk = .method mk := by rw [Launch.admits_selectMethod X.admits]; exact q4
  obtain ⟨vm₁, X₁, hstep₁⟩ := X.invokevirtual hx hown hlink hnamed hmethM hstM hkP hkPi hy (a := b) (cell := cellB) (by rw [hT]; exact hcB)
    (fun z h => by rw [h] at hobj; cases hobj) hselP hmethM habM hkP hkPi (g := g) hg (argsL := As) (rest := rest) (x_plen hlen _ hsigM) hstack (by rw [hb]; exact hdg)
  obtain ⟨o, t, T', L, X', hL, e1, e2, hq, hsteps⟩ := x_into X₁ hM hbl (maxL := maxL) (W' := 8) hR.1 hR.2 hf.1 hf.2 (a := (Value.ref b :: As).toArray) (fun w hw => hws w hw _ _ X₁.warmed) (X₁.named hnamed) (by rw [X₁.warmed.alike.method?]; exact hmethM) hcM hlM
    (word_at X₁.warmed (Or.inl (by first | rfl | simp [Cond.onTables, Cond.keeps, Cond.steady])) hini) (g := { g with stack := rest }) hg (hsize.trans hml.symm) (ig := .invokevirtual index) (len := 3) (by rw [hb]; exact hdg) hW (hp (T.setVm vm₁) hT X₁.warmed)
  exact ⟨o, (T.setVm vm₁).calling { g with stack := rest } mk (Value.ref b :: As).toArray, t, T', L, hT, X', hL, e1, e2, hq, fun target h => hstep₁ _ fun acts => by rw [doInvoke_state]; exact hsteps.trans h⟩
/-- a private instance method of a nest mate -/
theorem x_runVN (hx : p.tables.exec = Jvm.exec) (hb : c.code = cc) (hml : c.maxLocals = nL) (hown : s.vm.findClass own = some m.cls) (hM : xMet l y ws rm Pc Qc kR nR kT nT free) (hbl : FrameBlind Pc) (hR : rm.frames + 1 ≤ R.frames ∧ 8 + (maxL + 11) + rm.locals ≤ R.locals)
    (hws : ∀ w ∈ ws, ∀ (a' : Array Value) (U : State), s.WarmedH U.vm → w.before a' U = true) (hcode : (Cond.code y bytes maxL ret).before args s = true) (hinst : (Cond.instanceMethod y).before args s = true) (hsel : (Cond.selects C y y).before args s = true) (hini : (Cond.initialized y.cls).before args s = true) (hlink : va_Nw (.methodLinkNest own index y host) s)
    (hy : y.cls ≠ "java/lang/invoke/MethodHandle" ∧ y.cls ≠ "java/lang/invoke/VarHandle") (hlen : (parseMethodDescriptor y.desc).map (fun d => d.parameters.length) = some As.length)
    (hrecv : ∃ cellB : Cell, H[b]? = some cellB ∧ cellB.vm.isStatics = false ∧ s.vm.findClass C = some cellB.cls)
    (hp : ∀ U : State, U.heap = H → s.WarmedH U.vm → Pc (Value.ref b :: As).toArray U) (hg : g.method = m) (hsize : g.locals.size = nL) (hstack : g.stack = As.reverse ++ .ref b :: rest) (hW : 2 * g.monitorRoom + (rest.map fun v => v.category).sum ≤ 8) (hdg : decode cc g.pc = .ok (.invokevirtual index, 3)) (hf : cells + rm.cells ≤ R.cells ∧ slots + rm.slots ≤ R.slots) :
    xRun p l e R s m args below meth c H locs cells slots kR nR kT nT g rest (Qc (Value.ref b :: As).toArray) free := by
  intro T hT X
  obtain ⟨cellB, hcB, hobj, hcls⟩ := hrecv
  obtain ⟨mk, methM, hnamed, hmethM, hstM, habM⟩ := Cond.instanceMethod_spec hinst
  obtain ⟨methM', cM, hmethM', hcM, -, hlM, -, -, -, hsigM⟩ := Cond.code_spec hnamed hcode
  cases hmethM.symm.trans hmethM'
  obtain ⟨c2, r2, m2, q1, q2, q3, q4, kP, hkP, hkPi⟩ := Cond.selects_spec hsel
  cases hcls.symm.trans q1
  cases (State.methodFound?_of_named hnamed hy).symm.trans q2
  cases hnamed.symm.trans q3
  have hselP : selectMethod e.platform s.vm cellB.cls mk = .method mk := by rw [Launch.admits_selectMethod X.admits]; exact q4
  obtain ⟨vm₁, X₁, hstep₁⟩ := X.invokevirtualNest hx hown (va_Nw.use rfl hlink) hnamed hmethM hstM hkP hkPi hy (a := b) (cell := cellB) (by rw [hT]; exact hcB)
    (fun z h => by rw [h] at hobj; cases hobj) hselP hmethM habM hkP hkPi (g := g) hg (argsL := As) (rest := rest) (x_plen hlen _ hsigM) hstack (by rw [hb]; exact hdg)
  obtain ⟨o, t, T', L, X', hL, e1, e2, hq, hsteps⟩ := x_into X₁ hM hbl (maxL := maxL) (W' := 8) hR.1 hR.2 hf.1 hf.2 (a := (Value.ref b :: As).toArray) (fun w hw => hws w hw _ _ X₁.warmed) (X₁.named hnamed) (by rw [X₁.warmed.alike.method?]; exact hmethM) hcM hlM
    (word_at X₁.warmed (Or.inl (by first | rfl | simp [Cond.onTables, Cond.keeps, Cond.steady])) hini) (g := { g with stack := rest }) hg (hsize.trans hml.symm) (ig := .invokevirtual index) (len := 3) (by rw [hb]; exact hdg) hW (hp (T.setVm vm₁) hT X₁.warmed)
  exact ⟨o, (T.setVm vm₁).calling { g with stack := rest } mk (Value.ref b :: As).toArray, t, T', L, hT, X', hL, e1, e2, hq, fun target h => hstep₁ _ fun acts => by rw [doInvoke_state]; exact hsteps.trans h⟩
/-- the walk begun anew at its own point: what it has made and written is behind it -/
theorem x_rebase {T : State} (X : Stand p l e R s m args below meth c T locs cells slots) (hc : cells ≤ R.cells) (hs : slots ≤ R.slots) :
    Stand p l e { R with cells := R.cells - cells, slots := R.slots - slots } (T.setFrames (.invoking m args :: below)) m args below meth c T [] 0 0 := by
  obtain ⟨g₀, hfr⟩ := X.frames_eq
  obtain ⟨th, hth, -⟩ := State.frames_cons hfr
  have hcur : T.cur < T.threads.size := State.cur_lt_of_frames hfr
  have hF : (T.setFrames (.invoking m args :: below)).frames = .invoking m args :: below := State.frames_setFrames _ hcur
  have hvm : (T.setFrames (.invoking m args :: below)).vm = T.vm := rfl
  refine ⟨X.admits, X.cas, X.clock, hF, ?_, ?_, X.method', X.code, X.here, X.tail, State.WarmedH.refl (T.setFrames (.invoking m args :: below)), (State.stackLimits_setFrames _ _ _).symm, (State.stackBytes_setFrames _ _).symm, ?_⟩
  · have hr := X.room
    have h1 := X.heapSize
    have h2 := X.used
    have h3 := X.book
    have hl1 := State.localsInUse_invoking X.frames X.method X.code
    have hl2 := State.localsInUse_invoking hF (show (T.setFrames (.invoking m args :: below)).vm.method? m = some meth from X.method') X.code
    have hlen : (T.setFrames (.invoking m args :: below)).frames.length = s.frames.length := by rw [hF, X.frames]
    simp only [State.hasRoom, Bool.and_eq_true, decide_eq_true_eq] at hr ⊢
    rw [hl2, hlen, State.stackLimits_setFrames, State.stackBytes_setFrames, X.limits, X.bytes]
    rw [hl1] at hr
    refine ⟨⟨⟨⟨hr.1.1.1.1, hr.1.1.1.2⟩, ?_⟩, ?_⟩, h3⟩
    · show T.heap.size + (R.cells - cells) ≤ _
      have := hr.1.1.2
      omega
    · show T.slotsUsed + (R.slots - slots) ≤ _
      have := hr.1.2
      omega
  · have hh := X.hears
    rcases below with _ | ⟨y, r⟩
    · simp only [State.hears] at hh ⊢
      rw [hvm, X.warmed.alike.method?]
      exact hh
    · cases y <;> simp only [State.hears] at hh ⊢ <;> first | exact hh | (rw [hvm, X.warmed.alike.method?]; exact hh) | (rw [State.code?_eq, hvm, X.warmed.alike.method?, ← State.code?_eq]; exact hh)
  · obtain ⟨h1, h2⟩ := State.sameButNew.refl T hth
    refine ⟨?_, h2⟩
    show T = { ((T.setFrames (.invoking m args :: below)).setFrames T.frames) with heap := T.heap, slotsUsed := T.slotsUsed }
    rw [State.setFrames_setFrames, State.setFrames_self hth]
end XT2
end
section
/-! A walk by numbered cells: the cell number k lies at the address g k and holds E k; all of them lie at base or above. -/
section XH0
def xlk (lv : List (Nat × Value)) (i : Nat) : Option Value := match lv with
  | [] => none
  | q :: r => if q.1 == i then some q.2 else xlk r i
theorem xlk_mem {lv : List (Nat × Value)} {i : Nat} {v : Value} (hx : xlk lv i = some v) : (i, v) ∈ lv := by
  induction lv with
  | nil => cases hx
  | cons q r ih =>
    unfold xlk at hx
    split at hx
    · rename_i hq
      have h1 : q.1 = i := by simpa using hq
      have h2 : q.2 = v := Option.some.inj hx
      rw [← h1, ← h2]
      exact List.mem_cons_self
    · exact List.mem_cons_of_mem _ (ih hx)
theorem xlk_at {ls : Array Slot} {nL : Nat} {lv : List (Nat × Value)} (h : lv_has ls nL lv) {i : Nat} {v : Value} (hx : xlk lv i = some v) : ls[i]? = some (.val v) := h.2.2 (i, v) (xlk_mem hx)
/-- fewer locals, in any order -/
theorem xlk_sub {ls : Array Slot} {nL : Nat} {lv lv' : List (Nat × Value)} (h : lv_has ls nL lv) (hs : lv'.all (fun q => (xlk lv q.1).isSome) = true) (he : ∀ q ∈ lv', xlk lv q.1 = some q.2) : lv_has ls nL lv' := ⟨h.1, h.2.1, fun q hq => xlk_at h (he q hq)⟩
def xWL (g : Nat → Nat) (n : Nat) (E : Nat → va_E) : va_W := (List.range n).map fun k => (g k, E k)
theorem xWL_get {g : Nat → Nat} {n : Nat} {E : Nat → va_E} {k : Nat} (h : k < n) : (xWL g n E)[k]? = some (g k, E k) := by simp [xWL, h]
theorem xWL_none {g : Nat → Nat} {n : Nat} {E : Nat → va_E} {k : Nat} (h : ¬ k < n) : (xWL g n E)[k]? = none := by simp [xWL]; omega
theorem xWL_len {g : Nat → Nat} {n : Nat} {E : Nat → va_E} : (xWL g n E).length = n := by simp [xWL]
theorem xWL_set {g : Nat → Nat} {n : Nat} {E : Nat → va_E} {k : Nat} {e : va_E} : (xWL g n E).set k (g k, e) = xWL g n (va_up E k e) := by
  apply List.ext_getElem?
  intro j
  by_cases hn : j < n
  · by_cases hj : j = k
    · subst hj
      rw [List.getElem?_set_self (by rw [xWL_len]; exact hn), xWL_get hn, va_up_self]
    · rw [List.getElem?_set_ne (Ne.symm hj), xWL_get hn, xWL_get hn, va_up_ne _ _ hj]
  · rw [xWL_none hn, List.getElem?_eq_none (by rw [List.length_set, xWL_len]; omega)]
theorem xWL_push {g : Nat → Nat} {n : Nat} {E : Nat → va_E} {q : Nat} {e : va_E} : xWL g n E ++ [(q, e)] = xWL (va_up g n q) (n + 1) (va_up E n e) := by
  simp only [xWL, List.range_succ, List.map_append, List.map_cons, List.map_nil, va_up_self]
  congr 1
  apply List.map_congr_left
  intro a ha
  have : a ≠ n := Nat.ne_of_lt (List.mem_range.mp ha)
  rw [va_up_ne _ _ this, va_up_ne _ _ this]
def xWd (D : va_G) (cl : List vw_C) (base : Nat) (g : Nat → Nat) (n : Nat) (E : Nat → va_E) (H : Heap) : Prop := va_P D cl (xWL g n E) H ∧ va_D (fun q => base ≤ q) (xWL g n E)
theorem xWd_set {D : va_G} {cl : List vw_C} {base : Nat} {g : Nat → Nat} {n i : Nat} {E E' : Nat → va_E} {e : va_E} {H : Heap} (hE : va_up E i e = E') (hP : va_P D cl ((xWL g n E).set i (g i, e)) H) (hD : va_D (fun q => base ≤ q) ((xWL g n E).set i (g i, e))) : xWd D cl base g n E' H := by
  subst hE
  rw [xWL_set] at hP hD
  exact ⟨hP, hD⟩
theorem xWd_push {D : va_G} {cl : List vw_C} {base : Nat} {g g' : Nat → Nat} {n q : Nat} {E E' : Nat → va_E} {e : va_E} {H : Heap} (hg : va_up g n q = g') (hE : va_up E n e = E') (hP : va_P D cl (xWL g n E ++ [(q, e)]) H) (hD : va_D (fun q => base ≤ q) (xWL g n E ++ [(q, e)])) : xWd D cl base g' (n + 1) E' H := by
  subst hE
  subst hg
  rw [xWL_push] at hP hD
  exact ⟨hP, hD⟩
/-- the cells stay where the heap stays from base on -/
theorem xWd.kept {D : va_G} {cl : List vw_C} {base : Nat} {g : Nat → Nat} {n : Nat} {E : Nat → va_E} {H H1 : Heap} (h : xWd D cl base g n E H) (hq : ∀ q : Nat, q < H.size → H1[q]? = H[q]?) : xWd D cl base g n E H1 := ⟨h.1.kept (fun k q hk => hq q.1 ((h.1 k q hk).lt)), h.2⟩
end XH0
/-! What every method of the system needs of the tables, the constants and Throwable's statics, and how it goes along. -/
section XE
/-- a static of Throwable that holds a reference or null, in a cell below base -/
def xSt (base : Nat) (n d : String) (U : State) (H : Heap) : Prop := ∃ (c : ClassId) (k : Class) (i : Nat) (f : Field) (a : Nat) (cell : Cell) (v : Value), U.vm.findClass "java/lang/Throwable" = some c ∧ U.fieldFound? "java/lang/Throwable" n d = some (c, k, i, f) ∧ f.isStatic = true ∧ k.statics = some a ∧ H[a]? = some cell ∧ cell.vm.isStatics = true ∧ cell.cls = c ∧ f.slot < cell.slots.size ∧ k.staticTypes[f.slot]? = some f.type ∧ cell.slots[f.slot]? = some v ∧ v.isRef = true ∧ a < base
theorem xSt.go {base : Nat} {n d : String} {s U : State} {H H1 : Heap} (h : xSt base n d s H) (hvm : s.vm.Alike U.vm) (hH : ∀ q, q < base → H1[q]? = H[q]?) : xSt base n d U H1 := by
  obtain ⟨c, k, i, f, a, cell, v, h1, h2, h3, h4, h5, h6, h7, h8, h9, h10, h11, h12⟩ := h
  obtain ⟨k', hi', he⟩ := State.fieldFound?_setVm hvm h2
  exact ⟨c, k', i, f, a, cell, v, by rw [hvm.findClass]; exact h1, hi', h3, by rw [he]; exact h4, by rw [hH a h12]; exact h5, h6, h7, h8, by rw [he]; exact h9, h10, h11, h12⟩
theorem xSt.lays {base : Nat} {n d : String} {U : State} {args : Array Value} (h : xSt base n d U U.heap) : (Cond.laysStatic "java/lang/Throwable" n d).before args U = true := by
  obtain ⟨c, k, i, f, a, cell, v, h1, h2, h3, h4, h5, h6, h7, h8, h9, -⟩ := h
  exact Cond.laysStatic_of h1 h2 h3 h4 h5 h6 h7 h8 h9
theorem xSt.isRef {base : Nat} {n d : String} {U : State} {args : Array Value} (h : xSt base n d U U.heap) : (Cond.isRef (.static "java/lang/Throwable" n d)).before args U = true := by
  obtain ⟨c, k, i, f, a, cell, v, h1, h2, h3, h4, h5, h6, h7, h8, h9, h10, h11, -⟩ := h
  have : (Term.static "java/lang/Throwable" n d).eval args U none [] U = some v := by
    simp [Term.eval, State.fieldNamed?, h2, h3, h4, h5, h6, h10]
  cases v <;> simp_all [Cond.before, Cond.holds, Cond.value, Value.isRef]
theorem xSt.of {base : Nat} {n d : String} {s : State} {args : Array Value} (hl : (Cond.laysStatic "java/lang/Throwable" n d).before args s = true) (hr : (Cond.isRef (.static "java/lang/Throwable" n d)).before args s = true) (hb : s.heap.size ≤ base) : xSt base n d s s.heap := by
  obtain ⟨c, k, i, f, a, cell, h1, h2, h3, h4, h5, h6, h7, h8, h9⟩ := Cond.laysStatic_spec hl
  obtain ⟨v, hv⟩ : ∃ v, cell.slots[f.slot]? = some v := ⟨_, Array.getElem?_eq_getElem h8⟩
  have he : (Term.static "java/lang/Throwable" n d).eval args s none [] s = some v := by
    simp [Term.eval, State.fieldNamed?, h2, h3, h4, h5, h6, hv]
  have hi : v.isRef = true := by
    cases v <;> simp_all [Cond.before, Cond.holds, Cond.value, Value.isRef]
  exact ⟨c, k, i, f, a, cell, v, h1, h2, h3, h4, h5, h6, h7, h8, h9, hv, hi, Nat.lt_of_lt_of_le (Array.getElem?_eq_some_iff.mp h5).1 hb⟩
abbrev xUN : String := "UNASSIGNED_STACK"
abbrev xSN : String := "SUPPRESSED_SENTINEL"
abbrev xUD : String := "[Ljava/lang/StackTraceElement;"
abbrev xSD : String := "Ljava/util/List;"
def xEnv (base : Nat) (U : State) (H : Heap) : Prop := (∀ w ∈ xT, w.before #[] U = true) ∧ (∀ w ∈ xN, va_Nw w U) ∧ (∀ q ∈ xStr, ∃ a, vk_R q.1 q.2.1 q.2.2 a U) ∧ (∀ ty ∈ xArr, (Cond.arrayClass ty).before #[] U = true) ∧ (∀ C ∈ xOvr, va_AO C U) ∧ (∀ q ∈ xNot, va_Nc q.1 q.2 U) ∧ xSt base xUN xUD U H ∧ xSt base xSN xSD U H ∧ base ≤ H.size
theorem xEnv.go {base : Nat} {s U : State} {H H1 : Heap} (h : xEnv base s H) (hW : s.WarmedH U.vm) (hH : ∀ q, q < base → H1[q]? = H[q]?) (hs : base ≤ H1.size) : xEnv base U H1 := by
  obtain ⟨h1, h2, h3, h4, h5, h6, h7, h8, -⟩ := h
  refine ⟨fun w hw => ?_, fun w hw => ?_, fun q hq => ?_, fun ty hty => word_at hW (Or.inr ⟨ty, rfl⟩) (h4 ty hty), fun C hC => (h5 C hC).moved hW.alike, fun q hq => (h6 q hq).moved hW.alike, h7.go hW.alike hH, h8.go hW.alike hH, hs⟩
  · exact word_at hW (Or.inl (List.mem_filter.mp hw).2) (h1 w hw)
  · have hg := (List.mem_filter.mp hw).2
    have hz := h2 w hw
    cases w <;> first | exact va_Nw.warmF hW hz | exact va_Nw.warmM hW hz | exact va_Nw.warmD hW hz | exact va_Nw.warmC hW hz | simp [xIsN] at hg
  · obtain ⟨a, ha⟩ := h3 q hq
    exact ⟨a, ha.warm hW⟩
theorem xEnv.blind {base : Nat} {U : State} {g : JFrame} {mk : MethodId} {a : Array Value} (h : xEnv base U U.heap) : xEnv base (U.calling g mk a) (U.calling g mk a).heap := h.go (U := U.calling g mk a) (State.WarmedH.refl U) (fun _ _ => rfl) h.2.2.2.2.2.2.2.2
def xStatics : List Cond := [.laysStatic xTN xUN xUD, .laysStatic xTN xSN xSD, .isRef (.static xTN xUN xUD), .isRef (.static xTN xSN xSD)]
theorem xStatics_ok {base : Nat} {U : State} {args : Array Value} (h : xEnv base U U.heap) : ∀ a ∈ xStatics, a.before args U = true := by
  obtain ⟨-, -, -, -, -, -, h7, h8, -⟩ := h
  intro a ha
  simp only [xStatics, List.mem_cons, List.not_mem_nil, or_false] at ha
  rcases ha with rfl | rfl | rfl | rfl
  · exact h7.lays
  · exact h8.lays
  · exact h7.isRef
  · exact h8.isRef
end XE
section XC
/-- what holds throughout a method: by its start s -/
def xC (p : Program) (l : Launch) (e : Env) (s : State) (m : MethodId) (meth : Method) (c : Code) (cc : ByteArray) (nL : Nat) (own : String) (args : Array Value) (D : va_G) (cl : List vw_C) (tys : List (ClassId × FieldType)) (base : Nat) : Prop :=
  p.tables.exec = Jvm.exec ∧ c.code = cc ∧ c.maxLocals = nL ∧ s.vm.findClass own = some m.cls ∧ meth.locks = false ∧ va_K D cl tys s ∧ xEnv base s s.heap ∧ e.platform.stackTraces = false
variable {p : Program} {l : Launch} {e : Env} {R : Room} {s : State} {m : MethodId} {args : Array Value} {below : List Frame} {meth : Method} {c : Code} {Q : State → Prop} {nL : Nat} {D : va_G} {cl : List vw_C} {tys : List (ClassId × FieldType)} {base : Nat} {g : Nat → Nat} {cc : ByteArray} {own : String}
theorem xC.ow (C : xC p l e s m meth c cc nL own args D cl tys base) : s.vm.findClass own = some m.cls := C.2.2.2.1
theorem xC.K (C : xC p l e s m meth c cc nL own args D cl tys base) : va_K D cl tys s := C.2.2.2.2.2.1
theorem xC.env (C : xC p l e s m meth c cc nL own args D cl tys base) : xEnv base s s.heap := C.2.2.2.2.2.2.1
theorem xGood_tab {w : Cond} (h : w ∈ xT) : w.onTables = true := by
  have := (List.mem_filter.mp h).2
  simp only [xGood, Bool.and_eq_true] at this
  exact this.1
theorem xEnv.words {base : Nat} {U : State} {H : Heap} (h : xEnv base U H) {args : Array Value} : ∀ w ∈ xT, w.before args U = true := fun w hw => va_any (xGood_tab hw) (h.1 w hw)
theorem xC.words (C : xC p l e s m meth c cc nL own args D cl tys base) : ∀ w ∈ xT, w.before args s = true := C.env.words
theorem xC.word (C : xC p l e s m meth c cc nL own args D cl tys base) {w : Cond} (h : w ∈ xT) : w.before args s = true := C.words w h
theorem xIsN_tab {w : Cond} (h : xIsN w = true) : w.onTables = true := by cases w <;> first | rfl | simp [xIsN] at h
theorem xC.nest (C : xC p l e s m meth c cc nL own args D cl tys base) {w : Cond} (h : w ∈ xN) : w.before args s = true := va_Nw.use (xIsN_tab (List.mem_filter.mp h).2) (C.env.2.1 w h)
/-- the walk, by the contents of the cells -/
def xG (p : Program) (l : Launch) (e : Env) (R : Room) (s : State) (m : MethodId) (args : Array Value) (below : List Frame) (meth : Method) (c : Code) (Q : State → Prop) (nL : Nat) (D : va_G) (cl : List vw_C) (base : Nat) (g : Nat → Nat) (n : Nat) (E : Nat → va_E) (k z pc : Nat) (lv : List (Nat × Value)) (st : List Value) : Prop :=
  ∀ (H : Heap) (locs : List Loc) (ls : Array Slot), xWd D cl base g n E H → va_S (fun q => base ≤ q) s.heap H locs → lv_has ls nL lv → W p l e R s m args below meth c H locs k z Q (F0 m pc ls st)
end XC
end
section
/-! Times are eighths: dT k is the double k / 8. -/
section XD
def dT (k : Nat) : UInt64 := FP.Core.of64 (FP.Core.round FP.Core.b64 (.fin false k (-3)))
theorem dT_val (k : Nat) : FP.Core.val64 (dT k) = FP.Core.round FP.Core.b64 (.fin false k (-3)) := FP.Core.val64_of64 (FP.Core.round_fits FP.Core.good_b64 _)
theorem dT_shape {k : Nat} (h : k < 2 ^ 53) : ∃ c q, FP.Core.val64 (dT k) = .fin false c q ∧ FP.Core.inUnits c q FP.Core.b64.qmin = k * 2 ^ 1071 ∧ FP.Core.b64.qmin ≤ q := by
  obtain ⟨c, q, h1, h2⟩ := FP.Core.round_exact FP.Core.good_b64 false (c := k) (q := -3) h (by decide) (by decide)
  have hv : FP.Core.val64 (dT k) = .fin false c q := by rw [dT_val]; exact h1
  have hf := FP.Core.val64_fits (dT k)
  rw [hv] at hf
  refine ⟨c, q, hv, ?_, hf.2.1⟩
  rw [h2]
  show k * 2 ^ (-3 - FP.Core.b64.qmin).toNat = _
  rw [show (-3 - FP.Core.b64.qmin).toNat = 1071 by decide]
theorem x_pw {N K M : Nat} {m : Int} (hm : (M : Int) = m + 1074) (h : N * 2 ^ M = K * 2 ^ 1071) : N * 2 ^ (m - -3).toNat = K * 2 ^ (-3 - m).toNat := by
  rcases Int.lt_or_le m (-3) with h3 | h3
  · have e1 : (m - -3).toNat = 0 := by omega
    obtain ⟨j, hj, hj2⟩ : ∃ j : Nat, 1071 = M + j ∧ (-3 - m).toNat = j := ⟨1071 - M, by omega, by omega⟩
    rw [e1, hj2, Nat.pow_zero, Nat.mul_one]
    refine Nat.eq_of_mul_eq_mul_right (Nat.two_pow_pos M) ?_
    rw [h, hj, Nat.pow_add, Nat.mul_assoc, Nat.mul_comm (2 ^ M)]
  · have e1 : (-3 - m).toNat = 0 := by omega
    obtain ⟨j, hj, hj2⟩ : ∃ j : Nat, M = 1071 + j ∧ (m - -3).toNat = j := ⟨M - 1071, by omega, by omega⟩
    rw [e1, hj2, Nat.pow_zero, Nat.mul_one]
    refine Nat.eq_of_mul_eq_mul_right (Nat.two_pow_pos 1071) ?_
    rw [← h, hj, Nat.pow_add, Nat.mul_assoc, Nat.mul_comm (2 ^ j)]
theorem x_qmin : FP.Core.b64.qmin = -1074 := by decide
theorem dT_add {a b : Nat} (h : a + b < 2 ^ 53) : FP.dadd (dT a) (dT b) = dT (a + b) := by
  obtain ⟨c, q, hc, uc, hq⟩ := dT_shape (k := a) (by omega)
  obtain ⟨d, r, hd, ud, hr⟩ := dT_shape (k := b) (by omega)
  have hv : FP.Core.val64 (FP.dadd (dT a) (dT b)) = FP.Core.roundRatio FP.Core.b64 false (a + b) 1 (-3) := by
    show FP.Core.val64 (FP.Core.dadd (dT a) (dT b)) = _
    rw [FP.Core.val64_dadd, hc, hd]
    show FP.Core.roundRatio FP.Core.b64 (FP.Core.sumSign false false (FP.Core.sumUnits false c q false d r (min q r))) (FP.Core.sumUnits false c q false d r (min q r)).natAbs 1 (min q r) = _
    have hU : FP.Core.sumUnits false c q false d r (min q r) = ((FP.Core.inUnits c q (min q r) + FP.Core.inUnits d r (min q r) : Nat) : Int) := by
      simp [FP.Core.sumUnits, FP.Core.signed]
    have hs : FP.Core.sumSign false false (FP.Core.sumUnits false c q false d r (min q r)) = false := by
      rw [hU]; unfold FP.Core.sumSign; split
      · rfl
      · simp; omega
    rw [hs, hU, Int.natAbs_natCast]
    refine FP.Core.roundRatio_congr (by decide) (by decide) ?_
    rw [Nat.mul_one, Nat.mul_one]
    rw [x_qmin] at hq hr uc ud
    refine x_pw (M := (min q r + 1074).toNat) (by omega) ?_
    have e1 := FP.Core.inUnits_move c (q := q) (r := min q r) (e := -1074) (by omega) (by omega)
    have e2 := FP.Core.inUnits_move d (q := r) (r := min q r) (e := -1074) (by omega) (by omega)
    have e3 : (min q r - -1074).toNat = (min q r + 1074).toNat := by omega
    rw [e3] at e1 e2
    rw [Nat.add_mul, Nat.add_mul, ← uc, ← ud]
    first | (rw [e1, e2]; done) | (rw [← e1, ← e2])
  refine FP.Core.val64_inj (by rw [hv]; exact FP.Core.roundRatio_ne_nan _ _ _ _ _) ?_
  rw [hv, dT_val]; rfl
theorem dT_sub {a b : Nat} (h : b ≤ a) (ha : a < 2 ^ 53) : FP.dsub (dT a) (dT b) = dT (a - b) := by
  obtain ⟨c, q, hc, uc, hq⟩ := dT_shape (k := a) (by omega)
  obtain ⟨d, r, hd, ud, hr⟩ := dT_shape (k := b) (by omega)
  have hv : FP.Core.val64 (FP.dsub (dT a) (dT b)) = FP.Core.roundRatio FP.Core.b64 false (a - b) 1 (-3) := by
    show FP.Core.val64 (FP.Core.dsub (dT a) (dT b)) = _
    rw [FP.Core.val64_dsub, hc, hd]
    show FP.Core.roundRatio FP.Core.b64 (FP.Core.sumSign false true (FP.Core.sumUnits false c q true d r (min q r))) (FP.Core.sumUnits false c q true d r (min q r)).natAbs 1 (min q r) = _
    rw [x_qmin] at hq hr uc ud
    have e1 := FP.Core.inUnits_move c (q := q) (r := min q r) (e := -1074) (by omega) (by omega)
    have e2 := FP.Core.inUnits_move d (q := r) (r := min q r) (e := -1074) (by omega) (by omega)
    have e3 : (min q r - -1074).toNat = (min q r + 1074).toNat := by omega
    rw [e3] at e1 e2
    have hU : FP.Core.sumUnits false c q true d r (min q r) = (FP.Core.inUnits c q (min q r) : Int) - (FP.Core.inUnits d r (min q r) : Int) := by
      simp [FP.Core.sumUnits, FP.Core.signed]; omega
    generalize FP.Core.inUnits c q (min q r) = C at e1 hU
    generalize FP.Core.inUnits d r (min q r) = D at e2 hU
    have f1 : C * 2 ^ (min q r + 1074).toNat = a * 2 ^ 1071 := by first | (rw [← uc, e1]; done) | (rw [← uc, ← e1])
    have f2 : D * 2 ^ (min q r + 1074).toNat = b * 2 ^ 1071 := by first | (rw [← ud, e2]; done) | (rw [← ud, ← e2])
    have hle : D ≤ C := by
      refine Nat.le_of_mul_le_mul_right ?_ (Nat.two_pow_pos (min q r + 1074).toNat)
      rw [f1, f2]
      exact Nat.mul_le_mul_right _ h
    have hs : FP.Core.sumSign false true (FP.Core.sumUnits false c q true d r (min q r)) = false := by
      rw [hU]; unfold FP.Core.sumSign; split
      · rfl
      · simp; omega
    have hn : (FP.Core.sumUnits false c q true d r (min q r)).natAbs = C - D := by rw [hU]; omega
    rw [hs, hn]
    refine FP.Core.roundRatio_congr (by decide) (by decide) ?_
    rw [Nat.mul_one, Nat.mul_one]
    refine x_pw (M := (min q r + 1074).toNat) (by omega) ?_
    rw [Nat.sub_mul, Nat.sub_mul, f1, f2]
  refine FP.Core.val64_inj (by rw [hv]; exact FP.Core.roundRatio_ne_nan _ _ _ _ _) ?_
  rw [hv, dT_val]; rfl
theorem dT_cmp {a b : Nat} (ha : a < 2 ^ 53) (hb : b < 2 ^ 53) : FP.dcmp (dT a) (dT b) = some (compare (a : Int) (b : Int)) := by
  obtain ⟨c, q, hc, uc, hq⟩ := dT_shape ha
  obtain ⟨d, r, hd, ud, hr⟩ := dT_shape hb
  have h1 := FP.Core.val64_fits (dT a)
  have h2 := FP.Core.val64_fits (dT b)
  show FP.Core.order (FP.Core.val64 (dT a)) (FP.Core.val64 (dT b)) = _
  rw [FP.Core.order_zval FP.Core.good_b64 h1 h2 (by rw [hc]; exact fun h => by cases h) (by rw [hd]; exact fun h => by cases h), hc, hd]
  congr 1
  show compare (FP.Core.signed false (FP.Core.inUnits c q FP.Core.b64.qmin)) (FP.Core.signed false (FP.Core.inUnits d r FP.Core.b64.qmin)) = _
  rw [uc, ud]
  have hp := Nat.two_pow_pos 1071
  generalize 2 ^ 1071 = P at hp
  refine FP.Core.compare_congr ?_ ?_
  · show ((a * P : Nat) : Int) < ((b * P : Nat) : Int) ↔ _
    constructor
    · intro h; have := Nat.lt_of_mul_lt_mul_right (Int.ofNat_lt.mp h); omega
    · intro h; exact Int.ofNat_lt.mpr (Nat.mul_lt_mul_of_pos_right (Int.ofNat_lt.mp h) hp)
  · show ((a * P : Nat) : Int) = ((b * P : Nat) : Int) ↔ _
    constructor
    · intro h; have := Nat.eq_of_mul_eq_mul_right hp (Int.ofNat_inj.mp h); omega
    · intro h; rw [Int.ofNat_inj.mp h]
theorem dT_ci {a b : Nat} (op : CmpOp) (ha : a < 2 ^ 53) (hb : b < 2 ^ 53) : Op.cmpValue (FP.dcmp (dT a) (dT b)) op = if a < b then -1 else if a = b then 0 else 1 := by
  rw [dT_cmp ha hb]
  rcases Nat.lt_trichotomy a b with h | h | h
  · have : compare (a : Int) (b : Int) = .lt := by rw [FP.Core.compare_ite, if_pos (by omega)]
    rw [this, if_pos h]; rfl
  · have : compare (a : Int) (b : Int) = .eq := by rw [FP.Core.compare_ite, if_neg (by omega), if_pos (by omega)]
    rw [this, if_neg (by omega), if_pos h]; rfl
  · have : compare (a : Int) (b : Int) = .gt := by rw [FP.Core.compare_ite, if_neg (by omega), if_neg (by omega)]
    rw [this, if_neg (by omega), if_neg (by omega)]; rfl
theorem dT_0 : dT 0 = 0 := by decide +kernel
theorem dT_800 : dT 800 = 4636737291354636288 := by decide +kernel
theorem dT_240 : dT 240 = FP.i2d 30 := by decide +kernel
theorem dT_40 : dT 40 = FP.i2d 5 := by decide +kernel
theorem dT_80 : dT 80 = FP.i2d 10 := by decide +kernel
theorem dT_800i : dT 800 = FP.i2d 100 := by decide +kernel
theorem x_n64 {r : UInt64} (h : FP.Core.val64 r ≠ .nan) : vf_n64 r := by
  have h1 : ¬ FP.Core.infBits FP.Core.b64 < FP.Core.mag FP.Core.b64 r.toNat := fun q => h ((FP.Core.decode_nan r.toNat).mpr q)
  have e2 : FP.Core.infBits FP.Core.b64 = 9218868437227405312 := by decide
  have e3 : FP.Core.mag FP.Core.b64 r.toNat = r.toNat % 2 ^ 63 := by
    show r.toNat % FP.Core.half FP.Core.b64 = _
    rw [show FP.Core.half FP.Core.b64 = 2 ^ 63 by decide]
  have e1 : (0x7fffffffffffffff : UInt64).toNat = 2 ^ 63 - 1 := by decide
  have e4 : (0x7ff0000000000000 : UInt64).toNat = 9218868437227405312 := by decide
  show r &&& 0x7fffffffffffffff ≤ 0x7ff0000000000000
  rw [UInt64.le_iff_toNat_le, UInt64.toNat_and, e1, Nat.and_two_pow_sub_one_eq_mod, e4]
  rw [e2, e3] at h1
  omega
theorem dT_n {k : Nat} (h : k < 2 ^ 53) : vf_n64 (dT k) := by
  obtain ⟨c, q, hc, -, -⟩ := dT_shape h
  exact x_n64 (by rw [hc]; exact fun z => by cases z)
theorem x_pw2 {c n : Nat} {q : Int} (hq : -1074 ≤ q) (h : c * 2 ^ (q + 1074).toNat = n * 2 ^ 1074) : c * 2 ^ 52 * 2 ^ (q + -55 - -3).toNat = n * 2 ^ (-3 - (q + -55)).toNat := by
  rcases Int.lt_or_le q 52 with h3 | h3
  · have e1 : (q + -55 - -3).toNat = 0 := by omega
    obtain ⟨j, hj, hj2⟩ : ∃ j : Nat, 52 + 1074 = (q + 1074).toNat + j ∧ (-3 - (q + -55)).toNat = j := ⟨(52 - q).toNat, by omega, by omega⟩
    rw [e1, hj2, Nat.pow_zero, Nat.mul_one]
    refine Nat.eq_of_mul_eq_mul_right (Nat.two_pow_pos 1074) ?_
    rw [Nat.mul_assoc c, ← Nat.pow_add, hj, Nat.pow_add, ← Nat.mul_assoc, h, Nat.mul_assoc, Nat.mul_assoc, Nat.mul_comm (2 ^ 1074)]
  · have e1 : (-3 - (q + -55)).toNat = 0 := by omega
    obtain ⟨j, hj, hj2⟩ : ∃ j : Nat, (q + 1074).toNat = 52 + j + 1074 ∧ (q + -55 - -3).toNat = j := ⟨(q - 52).toNat, by omega, by omega⟩
    rw [e1, hj2, Nat.pow_zero, Nat.mul_one]
    refine Nat.eq_of_mul_eq_mul_right (Nat.two_pow_pos 1074) ?_
    rw [← h, hj, Nat.pow_add, Nat.pow_add, Nat.mul_assoc c, Nat.mul_assoc c]
theorem x_125 : FP.Core.val64 4593671619917905920 = .fin false 4503599627370496 (-55) := by decide +kernel
/-- an int's eighths, as the law makes them -/
theorem dX_val {x : Int32} {b : Bool} {n : Nat} (hx : FP.Core.ofInt x.toInt = .fin b n 0) (hn : n < 2 ^ 53) : FP.Core.val64 (FP.dmul (FP.i2d x) 4593671619917905920) = FP.Core.roundRatio FP.Core.b64 b n 1 (-3) := by
  obtain ⟨c, q, h1, h2⟩ := FP.Core.round_exact FP.Core.good_b64 b (c := n) (q := 0) hn (by decide) (by decide)
  have hv : FP.Core.val64 (FP.i2d x) = .fin b c q := by
    show FP.Core.val64 (FP.Core.i2d x) = _
    rw [FP.Core.val64_i2d, hx]; exact h1
  have hf := FP.Core.val64_fits (FP.i2d x)
  rw [hv] at hf
  have hq : FP.Core.b64.qmin ≤ q := hf.2.1
  rw [x_qmin] at hq h2
  have h3 : c * 2 ^ (q + 1074).toNat = n * 2 ^ 1074 := by
    have a1 : FP.Core.inUnits c q (-1074) = c * 2 ^ (q + 1074).toNat := by
      unfold FP.Core.inUnits; rw [show (q - -1074).toNat = (q + 1074).toNat by omega]
    have a2 : FP.Core.inUnits n 0 (-1074) = n * 2 ^ 1074 := rfl
    rw [← a1, h2, a2]
  show FP.Core.val64 (FP.Core.dmul (FP.i2d x) 4593671619917905920) = _
  rw [FP.Core.val64_dmul, hv, x_125]
  show FP.Core.roundRatio FP.Core.b64 (b != false) (c * 4503599627370496) 1 (q + -55) = _
  rw [show (b != false) = b by cases b <;> rfl]
  refine FP.Core.roundRatio_congr (by decide) (by decide) ?_
  rw [Nat.mul_one, Nat.mul_one]
  exact x_pw2 hq h3
theorem dX_pos {n : Nat} (h : n < 2 ^ 31) : FP.dmul (FP.i2d (nI n)) 4593671619917905920 = dT n := by
  have hx : FP.Core.ofInt (nI n).toInt = .fin false n 0 := by
    rw [nI_toInt h]; unfold FP.Core.ofInt
    rw [Int.natAbs_natCast, decide_eq_false (by omega)]
  have hv := dX_val hx (by omega)
  refine FP.Core.val64_inj (by rw [hv]; exact FP.Core.roundRatio_ne_nan _ _ _ _ _) ?_
  rw [hv, dT_val]; rfl
theorem x_cmpneg {u y : UInt64} {c d Z : Nat} {q r : Int} (hu : FP.Core.val64 u = .fin true c q) (hy : FP.Core.val64 y = .fin false d r) (uu : FP.Core.inUnits c q FP.Core.b64.qmin = Z) (hZ : 0 < Z) (uy : FP.Core.inUnits d r FP.Core.b64.qmin = 0) : FP.dcmp u y = some .lt := by
  have h1 := FP.Core.val64_fits u
  have h2 := FP.Core.val64_fits y
  have h3 : FP.dcmp u y = FP.Core.order (FP.Core.val64 u) (FP.Core.val64 y) := rfl
  rw [h3, FP.Core.order_zval FP.Core.good_b64 h1 h2 (by rw [hu]; exact fun h => by cases h) (by rw [hy]; exact fun h => by cases h), hu, hy]
  have h4 : FP.Core.zval FP.Core.b64 (.fin true c q) = -(Z : Int) := by rw [← uu]; rfl
  have h5 : FP.Core.zval FP.Core.b64 (.fin false d r) = 0 := by
    have : FP.Core.zval FP.Core.b64 (.fin false d r) = ((FP.Core.inUnits d r FP.Core.b64.qmin : Nat) : Int) := rfl
    rw [this, uy]; rfl
  rw [h4, h5, FP.Core.compare_ite, if_pos (by omega)]
theorem dX_neg {x : Int32} (h : x < 0) : FP.dcmp (FP.dmul (FP.i2d x) 4593671619917905920) (dT 0) = some .lt ∧ vf_n64 (FP.dmul (FP.i2d x) 4593671619917905920) := by
  have h0 : x.toInt < 0 := by rw [Int32.lt_iff_toInt_lt] at h; simpa using h
  have hb : -2147483648 ≤ x.toInt := by have := x.le_toInt; omega
  have hx : FP.Core.ofInt x.toInt = .fin true x.toInt.natAbs 0 := by
    unfold FP.Core.ofInt; rw [decide_eq_true h0]
  have hn : x.toInt.natAbs < 2 ^ 53 := by omega
  have hv := dX_val hx hn
  generalize FP.dmul (FP.i2d x) 4593671619917905920 = u at hv
  have hnn : FP.Core.val64 u ≠ .nan := by rw [hv]; exact FP.Core.roundRatio_ne_nan _ _ _ _ _
  refine ⟨?_, x_n64 hnn⟩
  obtain ⟨c, q, h1, h2⟩ := FP.Core.round_exact FP.Core.good_b64 true (c := x.toInt.natAbs) (q := -3) hn (by decide) (by decide)
  have hv2 : FP.Core.val64 u = .fin true c q := by rw [hv]; exact h1
  obtain ⟨d, r, hd, ud, -⟩ := dT_shape (k := 0) (by decide)
  rw [Nat.zero_mul] at ud
  generalize dT 0 = y at hd
  have hpos : 0 < x.toInt.natAbs * 2 ^ (-3 - FP.Core.b64.qmin).toNat := Nat.mul_pos (by omega) (Nat.two_pow_pos _)
  exact x_cmpneg hv2 hd h2 hpos ud
end XD
end
section

section XR
variable {p : Program} {l : Launch} {e : Env} {R : Room} {s : State} {m : MethodId} {args : Array Value} {below : List Frame} {meth : Method} {c : Code} {Q : State → Prop} {nL : Nat} {D : va_G} {cl : List vw_C} {tys : List (ClassId × FieldType)} {base : Nat} {g : Nat → Nat} {cc : ByteArray} {own : String} {n k z pc : Nat} {E : Nat → va_E} {lv : List (Nat × Value)} {st : List Value}
theorem x_iconst (C : xC p l e s m meth c cc nL own args D cl tys base) {i : Int} {v : Int32} (hdg : decode cc pc = .ok (.iconst i, 1)) (hv : Int32.ofInt i = v) (kk : xG p l e R s m args below meth c Q nL D cl base g n E k z (pc + 1) lv (.int v :: st)) : xG p l e R s m args below meth c Q nL D cl base g n E k z pc lv st := fun H locs ls hw hS hl => lv_iconst C.1 C.2.1 hdg hv (kk H locs ls hw hS hl)
theorem x_bipush (C : xC p l e s m meth c cc nL own args D cl tys base) {i : Int} {v : Int32} (hdg : decode cc pc = .ok (.bipush i, 2)) (hv : (Int8.ofInt i).toInt32 = v) (kk : xG p l e R s m args below meth c Q nL D cl base g n E k z (pc + 2) lv (.int v :: st)) : xG p l e R s m args below meth c Q nL D cl base g n E k z pc lv st := fun H locs ls hw hS hl => lv_bipush C.1 C.2.1 hdg hv (kk H locs ls hw hS hl)
theorem x_sipush (C : xC p l e s m meth c cc nL own args D cl tys base) {i : Int} {v : Int32} (hdg : decode cc pc = .ok (.sipush i, 3)) (hv : (Int16.ofInt i).toInt32 = v) (kk : xG p l e R s m args below meth c Q nL D cl base g n E k z (pc + 3) lv (.int v :: st)) : xG p l e R s m args below meth c Q nL D cl base g n E k z pc lv st := fun H locs ls hw hS hl => lv_sipush C.1 C.2.1 hdg hv (kk H locs ls hw hS hl)
theorem x_iload_n (C : xC p l e s m meth c cc nL own args D cl tys base) {kf : Fin 4} {i : Nat} {x : Int32} (hdg : decode cc pc = .ok (.iload_n kf, 1)) (hi : (kf : Nat) = i) (hx : xlk lv i = some (.int x)) (kk : xG p l e R s m args below meth c Q nL D cl base g n E k z (pc + 1) lv (.int x :: st)) : xG p l e R s m args below meth c Q nL D cl base g n E k z pc lv st := fun H locs ls hw hS hl => lv_iload_n C.1 C.2.1 hdg hi (xlk_at hl hx) (kk H locs ls hw hS hl)
theorem x_iload (C : xC p l e s m meth c cc nL own args D cl tys base) {i : Nat} {x : Int32} (hdg : decode cc pc = .ok (.iload i, 2)) (hx : xlk lv i = some (.int x)) (kk : xG p l e R s m args below meth c Q nL D cl base g n E k z (pc + 2) lv (.int x :: st)) : xG p l e R s m args below meth c Q nL D cl base g n E k z pc lv st := fun H locs ls hw hS hl => lv_iload C.1 C.2.1 hdg (xlk_at hl hx) (kk H locs ls hw hS hl)
theorem x_dload_n (C : xC p l e s m meth c cc nL own args D cl tys base) {kf : Fin 4} {i : Nat} {x : UInt64} (hdg : decode cc pc = .ok (.dload_n kf, 1)) (hi : (kf : Nat) = i) (hx : xlk lv i = some (.double x)) (kk : xG p l e R s m args below meth c Q nL D cl base g n E k z (pc + 1) lv (.double x :: st)) : xG p l e R s m args below meth c Q nL D cl base g n E k z pc lv st := fun H locs ls hw hS hl => lv_dload_n C.1 C.2.1 hdg hi (xlk_at hl hx) (kk H locs ls hw hS hl)
theorem x_dload (C : xC p l e s m meth c cc nL own args D cl tys base) {i : Nat} {x : UInt64} (hdg : decode cc pc = .ok (.dload i, 2)) (hx : xlk lv i = some (.double x)) (kk : xG p l e R s m args below meth c Q nL D cl base g n E k z (pc + 2) lv (.double x :: st)) : xG p l e R s m args below meth c Q nL D cl base g n E k z pc lv st := fun H locs ls hw hS hl => lv_dload C.1 C.2.1 hdg (xlk_at hl hx) (kk H locs ls hw hS hl)
theorem x_lload_n (C : xC p l e s m meth c cc nL own args D cl tys base) {kf : Fin 4} {i : Nat} {x : Int64} (hdg : decode cc pc = .ok (.lload_n kf, 1)) (hi : (kf : Nat) = i) (hx : xlk lv i = some (.long x)) (kk : xG p l e R s m args below meth c Q nL D cl base g n E k z (pc + 1) lv (.long x :: st)) : xG p l e R s m args below meth c Q nL D cl base g n E k z pc lv st := fun H locs ls hw hS hl => lv_lload_n C.1 C.2.1 hdg hi (xlk_at hl hx) (kk H locs ls hw hS hl)
theorem x_lload (C : xC p l e s m meth c cc nL own args D cl tys base) {i : Nat} {x : Int64} (hdg : decode cc pc = .ok (.lload i, 2)) (hx : xlk lv i = some (.long x)) (kk : xG p l e R s m args below meth c Q nL D cl base g n E k z (pc + 2) lv (.long x :: st)) : xG p l e R s m args below meth c Q nL D cl base g n E k z pc lv st := fun H locs ls hw hS hl => lv_lload C.1 C.2.1 hdg (xlk_at hl hx) (kk H locs ls hw hS hl)
theorem x_aload_n (C : xC p l e s m meth c cc nL own args D cl tys base) {kf : Fin 4} {i : Nat} {x : Nat} (hdg : decode cc pc = .ok (.aload_n kf, 1)) (hi : (kf : Nat) = i) (hx : xlk lv i = some (.ref x)) (kk : xG p l e R s m args below meth c Q nL D cl base g n E k z (pc + 1) lv (.ref x :: st)) : xG p l e R s m args below meth c Q nL D cl base g n E k z pc lv st := fun H locs ls hw hS hl => lv_aload_n C.1 C.2.1 hdg hi (xlk_at hl hx) (kk H locs ls hw hS hl)
theorem x_aload (C : xC p l e s m meth c cc nL own args D cl tys base) {i : Nat} {x : Nat} (hdg : decode cc pc = .ok (.aload i, 2)) (hx : xlk lv i = some (.ref x)) (kk : xG p l e R s m args below meth c Q nL D cl base g n E k z (pc + 2) lv (.ref x :: st)) : xG p l e R s m args below meth c Q nL D cl base g n E k z pc lv st := fun H locs ls hw hS hl => lv_aload C.1 C.2.1 hdg (xlk_at hl hx) (kk H locs ls hw hS hl)
theorem x_aload_nN (C : xC p l e s m meth c cc nL own args D cl tys base) {kf : Fin 4} {i : Nat} (hdg : decode cc pc = .ok (.aload_n kf, 1)) (hi : (kf : Nat) = i) (hx : xlk lv i = some .null) (kk : xG p l e R s m args below meth c Q nL D cl base g n E k z (pc + 1) lv (.null :: st)) : xG p l e R s m args below meth c Q nL D cl base g n E k z pc lv st := fun H locs ls hw hS hl => lv_aload_nN C.1 C.2.1 hdg hi (xlk_at hl hx) (kk H locs ls hw hS hl)
theorem x_aloadN (C : xC p l e s m meth c cc nL own args D cl tys base) {i : Nat} (hdg : decode cc pc = .ok (.aload i, 2)) (hx : xlk lv i = some .null) (kk : xG p l e R s m args below meth c Q nL D cl base g n E k z (pc + 2) lv (.null :: st)) : xG p l e R s m args below meth c Q nL D cl base g n E k z pc lv st := fun H locs ls hw hS hl => lv_aloadN C.1 C.2.1 hdg (xlk_at hl hx) (kk H locs ls hw hS hl)
theorem x_istore_n (C : xC p l e s m meth c cc nL own args D cl tys base) {kf : Fin 4} {i : Nat} {x : Int32} {lv' : List (Nat × Value)} (hdg : decode cc pc = .ok (.istore_n kf, 1)) (hi : (kf : Nat) = i) (hn : i < nL) (hlv : (i, Value.int x) :: lv.filter (fun q => !(q.1 == i) && !(q.1 + 1 == i && q.2.category == 2)) = lv') (kk : xG p l e R s m args below meth c Q nL D cl base g n E k z (pc + 1) lv' st) : xG p l e R s m args below meth c Q nL D cl base g n E k z pc lv (.int x :: st) := fun H locs ls hw hS hl => lv_istore_n C.1 C.2.1 hdg hi hl hn hlv (fun ls hl => (kk H locs ls hw hS hl))
theorem x_istore (C : xC p l e s m meth c cc nL own args D cl tys base) {i : Nat} {x : Int32} {lv' : List (Nat × Value)} (hdg : decode cc pc = .ok (.istore i, 2)) (hn : i < nL) (hlv : (i, Value.int x) :: lv.filter (fun q => !(q.1 == i) && !(q.1 + 1 == i && q.2.category == 2)) = lv') (kk : xG p l e R s m args below meth c Q nL D cl base g n E k z (pc + 2) lv' st) : xG p l e R s m args below meth c Q nL D cl base g n E k z pc lv (.int x :: st) := fun H locs ls hw hS hl => lv_istore C.1 C.2.1 hdg hl hn hlv (fun ls hl => (kk H locs ls hw hS hl))
theorem x_astore_n (C : xC p l e s m meth c cc nL own args D cl tys base) {kf : Fin 4} {i : Nat} {x : Nat} {lv' : List (Nat × Value)} (hdg : decode cc pc = .ok (.astore_n kf, 1)) (hi : (kf : Nat) = i) (hn : i < nL) (hlv : (i, Value.ref x) :: lv.filter (fun q => !(q.1 == i) && !(q.1 + 1 == i && q.2.category == 2)) = lv') (kk : xG p l e R s m args below meth c Q nL D cl base g n E k z (pc + 1) lv' st) : xG p l e R s m args below meth c Q nL D cl base g n E k z pc lv (.ref x :: st) := fun H locs ls hw hS hl => lv_astore_n C.1 C.2.1 hdg hi hl hn hlv (fun ls hl => (kk H locs ls hw hS hl))
theorem x_astore (C : xC p l e s m meth c cc nL own args D cl tys base) {i : Nat} {x : Nat} {lv' : List (Nat × Value)} (hdg : decode cc pc = .ok (.astore i, 2)) (hn : i < nL) (hlv : (i, Value.ref x) :: lv.filter (fun q => !(q.1 == i) && !(q.1 + 1 == i && q.2.category == 2)) = lv') (kk : xG p l e R s m args below meth c Q nL D cl base g n E k z (pc + 2) lv' st) : xG p l e R s m args below meth c Q nL D cl base g n E k z pc lv (.ref x :: st) := fun H locs ls hw hS hl => lv_astore C.1 C.2.1 hdg hl hn hlv (fun ls hl => (kk H locs ls hw hS hl))
theorem x_dstore_n (C : xC p l e s m meth c cc nL own args D cl tys base) {kf : Fin 4} {i : Nat} {x : UInt64} {lv' : List (Nat × Value)} (hdg : decode cc pc = .ok (.dstore_n kf, 1)) (hi : (kf : Nat) = i) (hn : i + 1 < nL) (hlv : (i, Value.double x) :: lv.filter (fun q => !(q.1 == i) && (!(q.1 == i + 1) && !(q.1 + 1 == i && q.2.category == 2))) = lv') (kk : xG p l e R s m args below meth c Q nL D cl base g n E k z (pc + 1) lv' st) : xG p l e R s m args below meth c Q nL D cl base g n E k z pc lv (.double x :: st) := fun H locs ls hw hS hl => lv_dstore_n C.1 C.2.1 hdg hi hl hn hlv (fun ls hl => (kk H locs ls hw hS hl))
theorem x_dstore (C : xC p l e s m meth c cc nL own args D cl tys base) {i : Nat} {x : UInt64} {lv' : List (Nat × Value)} (hdg : decode cc pc = .ok (.dstore i, 2)) (hn : i + 1 < nL) (hlv : (i, Value.double x) :: lv.filter (fun q => !(q.1 == i) && (!(q.1 == i + 1) && !(q.1 + 1 == i && q.2.category == 2))) = lv') (kk : xG p l e R s m args below meth c Q nL D cl base g n E k z (pc + 2) lv' st) : xG p l e R s m args below meth c Q nL D cl base g n E k z pc lv (.double x :: st) := fun H locs ls hw hS hl => lv_dstore C.1 C.2.1 hdg hl hn hlv (fun ls hl => (kk H locs ls hw hS hl))
theorem x_lstore_n (C : xC p l e s m meth c cc nL own args D cl tys base) {kf : Fin 4} {i : Nat} {x : Int64} {lv' : List (Nat × Value)} (hdg : decode cc pc = .ok (.lstore_n kf, 1)) (hi : (kf : Nat) = i) (hn : i + 1 < nL) (hlv : (i, Value.long x) :: lv.filter (fun q => !(q.1 == i) && (!(q.1 == i + 1) && !(q.1 + 1 == i && q.2.category == 2))) = lv') (kk : xG p l e R s m args below meth c Q nL D cl base g n E k z (pc + 1) lv' st) : xG p l e R s m args below meth c Q nL D cl base g n E k z pc lv (.long x :: st) := fun H locs ls hw hS hl => lv_lstore_n C.1 C.2.1 hdg hi hl hn hlv (fun ls hl => (kk H locs ls hw hS hl))
theorem x_lstore (C : xC p l e s m meth c cc nL own args D cl tys base) {i : Nat} {x : Int64} {lv' : List (Nat × Value)} (hdg : decode cc pc = .ok (.lstore i, 2)) (hn : i + 1 < nL) (hlv : (i, Value.long x) :: lv.filter (fun q => !(q.1 == i) && (!(q.1 == i + 1) && !(q.1 + 1 == i && q.2.category == 2))) = lv') (kk : xG p l e R s m args below meth c Q nL D cl base g n E k z (pc + 2) lv' st) : xG p l e R s m args below meth c Q nL D cl base g n E k z pc lv (.long x :: st) := fun H locs ls hw hS hl => lv_lstore C.1 C.2.1 hdg hl hn hlv (fun ls hl => (kk H locs ls hw hS hl))
theorem x_iinc (C : xC p l e s m meth c cc nL own args D cl tys base) {i : Nat} {d : Int} {x v : Int32} {lv' : List (Nat × Value)} (hdg : decode cc pc = .ok (.iinc i d, 3)) (j : Nat) (hj : lv[j]? = some (i, .int x)) (hv : x + Int32.ofInt d = v) (hn : i < nL) (hlv : (i, Value.int v) :: lv.filter (fun q => !(q.1 == i) && !(q.1 + 1 == i && q.2.category == 2)) = lv') (kk : xG p l e R s m args below meth c Q nL D cl base g n E k z (pc + 3) lv' st) : xG p l e R s m args below meth c Q nL D cl base g n E k z pc lv st := fun H locs ls hw hS hl => lv_iinc C.1 C.2.1 hdg hl hj hv hn hlv (fun ls hl => (kk H locs ls hw hS hl))
theorem x_iadd (C : xC p l e s m meth c cc nL own args D cl tys base) {x y : Int32} (hdg : decode cc pc = .ok (.iadd, 1))  (kk : xG p l e R s m args below meth c Q nL D cl base g n E k z (pc + 1) lv (.int (x + y) :: st)) : xG p l e R s m args below meth c Q nL D cl base g n E k z pc lv (.int y :: .int x :: st) := fun H locs ls hw hS hl => lv_iadd C.1 C.2.1 hdg  (kk H locs ls hw hS hl)
theorem x_isub (C : xC p l e s m meth c cc nL own args D cl tys base) {x y : Int32} (hdg : decode cc pc = .ok (.isub, 1))  (kk : xG p l e R s m args below meth c Q nL D cl base g n E k z (pc + 1) lv (.int (x - y) :: st)) : xG p l e R s m args below meth c Q nL D cl base g n E k z pc lv (.int y :: .int x :: st) := fun H locs ls hw hS hl => lv_isub C.1 C.2.1 hdg  (kk H locs ls hw hS hl)
theorem x_imul (C : xC p l e s m meth c cc nL own args D cl tys base) {x y : Int32} (hdg : decode cc pc = .ok (.imul, 1))  (kk : xG p l e R s m args below meth c Q nL D cl base g n E k z (pc + 1) lv (.int (x * y) :: st)) : xG p l e R s m args below meth c Q nL D cl base g n E k z pc lv (.int y :: .int x :: st) := fun H locs ls hw hS hl => lv_imul C.1 C.2.1 hdg  (kk H locs ls hw hS hl)
theorem x_iand (C : xC p l e s m meth c cc nL own args D cl tys base) {x y : Int32} (hdg : decode cc pc = .ok (.iand, 1))  (kk : xG p l e R s m args below meth c Q nL D cl base g n E k z (pc + 1) lv (.int (x &&& y) :: st)) : xG p l e R s m args below meth c Q nL D cl base g n E k z pc lv (.int y :: .int x :: st) := fun H locs ls hw hS hl => lv_iand C.1 C.2.1 hdg  (kk H locs ls hw hS hl)
theorem x_ior (C : xC p l e s m meth c cc nL own args D cl tys base) {x y : Int32} (hdg : decode cc pc = .ok (.ior, 1))  (kk : xG p l e R s m args below meth c Q nL D cl base g n E k z (pc + 1) lv (.int (x ||| y) :: st)) : xG p l e R s m args below meth c Q nL D cl base g n E k z pc lv (.int y :: .int x :: st) := fun H locs ls hw hS hl => lv_ior C.1 C.2.1 hdg  (kk H locs ls hw hS hl)
theorem x_ixor (C : xC p l e s m meth c cc nL own args D cl tys base) {x y : Int32} (hdg : decode cc pc = .ok (.ixor, 1))  (kk : xG p l e R s m args below meth c Q nL D cl base g n E k z (pc + 1) lv (.int (x ^^^ y) :: st)) : xG p l e R s m args below meth c Q nL D cl base g n E k z pc lv (.int y :: .int x :: st) := fun H locs ls hw hS hl => lv_ixor C.1 C.2.1 hdg  (kk H locs ls hw hS hl)
theorem x_ishl (C : xC p l e s m meth c cc nL own args D cl tys base) {x y : Int32} (hdg : decode cc pc = .ok (.ishl, 1))  (kk : xG p l e R s m args below meth c Q nL D cl base g n E k z (pc + 1) lv (.int (x <<< (y &&& 31)) :: st)) : xG p l e R s m args below meth c Q nL D cl base g n E k z pc lv (.int y :: .int x :: st) := fun H locs ls hw hS hl => lv_ishl C.1 C.2.1 hdg  (kk H locs ls hw hS hl)
theorem x_ishr (C : xC p l e s m meth c cc nL own args D cl tys base) {x y : Int32} (hdg : decode cc pc = .ok (.ishr, 1))  (kk : xG p l e R s m args below meth c Q nL D cl base g n E k z (pc + 1) lv (.int (x >>> (y &&& 31)) :: st)) : xG p l e R s m args below meth c Q nL D cl base g n E k z pc lv (.int y :: .int x :: st) := fun H locs ls hw hS hl => lv_ishr C.1 C.2.1 hdg  (kk H locs ls hw hS hl)
theorem x_ineg (C : xC p l e s m meth c cc nL own args D cl tys base) {x : Int32} (hdg : decode cc pc = .ok (.ineg, 1))  (kk : xG p l e R s m args below meth c Q nL D cl base g n E k z (pc + 1) lv (.int (-x) :: st)) : xG p l e R s m args below meth c Q nL D cl base g n E k z pc lv (.int x :: st) := fun H locs ls hw hS hl => lv_ineg C.1 C.2.1 hdg  (kk H locs ls hw hS hl)
theorem x_i2l (C : xC p l e s m meth c cc nL own args D cl tys base) {x : Int32} (hdg : decode cc pc = .ok (.i2l, 1))  (kk : xG p l e R s m args below meth c Q nL D cl base g n E k z (pc + 1) lv (.long x.toInt64 :: st)) : xG p l e R s m args below meth c Q nL D cl base g n E k z pc lv (.int x :: st) := fun H locs ls hw hS hl => lv_i2l C.1 C.2.1 hdg rfl (kk H locs ls hw hS hl)
theorem x_i2d (C : xC p l e s m meth c cc nL own args D cl tys base) {x : Int32} (hdg : decode cc pc = .ok (.i2d, 1))  (kk : xG p l e R s m args below meth c Q nL D cl base g n E k z (pc + 1) lv (.double (FP.i2d x) :: st)) : xG p l e R s m args below meth c Q nL D cl base g n E k z pc lv (.int x :: st) := fun H locs ls hw hS hl => lv_i2d C.1 C.2.1 hdg  (kk H locs ls hw hS hl)
theorem x_dadd (C : xC p l e s m meth c cc nL own args D cl tys base) {x y v : UInt64} (hdg : decode cc pc = .ok (.dadd, 1)) (hne : vf_n64 (FP.dadd x y)) (kk : xG p l e R s m args below meth c Q nL D cl base g n E k z (pc + 1) lv (.double (FP.dadd x y) :: st)) : xG p l e R s m args below meth c Q nL D cl base g n E k z pc lv (.double y :: .double x :: st) := fun H locs ls hw hS hl => lv_dadd C.1 C.2.1 hdg hne (kk H locs ls hw hS hl)
theorem x_dsub (C : xC p l e s m meth c cc nL own args D cl tys base) {x y v : UInt64} (hdg : decode cc pc = .ok (.dsub, 1)) (hne : vf_n64 (FP.dsub x y)) (kk : xG p l e R s m args below meth c Q nL D cl base g n E k z (pc + 1) lv (.double (FP.dsub x y) :: st)) : xG p l e R s m args below meth c Q nL D cl base g n E k z pc lv (.double y :: .double x :: st) := fun H locs ls hw hS hl => lv_dsub C.1 C.2.1 hdg hne (kk H locs ls hw hS hl)
theorem x_dmul (C : xC p l e s m meth c cc nL own args D cl tys base) {x y v : UInt64} (hdg : decode cc pc = .ok (.dmul, 1)) (hne : vf_n64 (FP.dmul x y)) (kk : xG p l e R s m args below meth c Q nL D cl base g n E k z (pc + 1) lv (.double (FP.dmul x y) :: st)) : xG p l e R s m args below meth c Q nL D cl base g n E k z pc lv (.double y :: .double x :: st) := fun H locs ls hw hS hl => lv_dmul C.1 C.2.1 hdg hne (kk H locs ls hw hS hl)
theorem x_ddiv (C : xC p l e s m meth c cc nL own args D cl tys base) {x y v : UInt64} (hdg : decode cc pc = .ok (.ddiv, 1)) (hne : vf_n64 (FP.ddiv x y)) (kk : xG p l e R s m args below meth c Q nL D cl base g n E k z (pc + 1) lv (.double (FP.ddiv x y) :: st)) : xG p l e R s m args below meth c Q nL D cl base g n E k z pc lv (.double y :: .double x :: st) := fun H locs ls hw hS hl => lv_ddiv C.1 C.2.1 hdg hne (kk H locs ls hw hS hl)
theorem x_dcmp (C : xC p l e s m meth c cc nL own args D cl tys base) {x y : UInt64} {op : CmpOp} (hdg : decode cc pc = .ok (.dcmp op, 1))  (kk : xG p l e R s m args below meth c Q nL D cl base g n E k z (pc + 1) lv (.int (Op.cmpValue (FP.dcmp x y) op) :: st)) : xG p l e R s m args below meth c Q nL D cl base g n E k z pc lv (.double y :: .double x :: st) := fun H locs ls hw hS hl => lv_dcmp C.1 C.2.1 hdg  (kk H locs ls hw hS hl)
theorem x_dconst0 (C : xC p l e s m meth c cc nL own args D cl tys base)  (hdg : decode cc pc = .ok (.dconst 0, 1))  (kk : xG p l e R s m args below meth c Q nL D cl base g n E k z (pc + 1) lv (.double FP.dconst0 :: st)) : xG p l e R s m args below meth c Q nL D cl base g n E k z pc lv st := fun H locs ls hw hS hl => lv_dconst0 C.1 C.2.1 hdg  (kk H locs ls hw hS hl)
theorem x_dup (C : xC p l e s m meth c cc nL own args D cl tys base) {va : Value} (hdg : decode cc pc = .ok (.dup, 1)) (h1 : va.category = 1) (kk : xG p l e R s m args below meth c Q nL D cl base g n E k z (pc + 1) lv (va :: va :: st)) : xG p l e R s m args below meth c Q nL D cl base g n E k z pc lv (va :: st) := fun H locs ls hw hS hl => lv_dup C.1 C.2.1 hdg h1 (kk H locs ls hw hS hl)
theorem x_pop (C : xC p l e s m meth c cc nL own args D cl tys base) {va : Value} (hdg : decode cc pc = .ok (.pop, 1)) (h1 : va.category = 1) (kk : xG p l e R s m args below meth c Q nL D cl base g n E k z (pc + 1) lv st) : xG p l e R s m args below meth c Q nL D cl base g n E k z pc lv (va :: st) := fun H locs ls hw hS hl => lv_pop C.1 C.2.1 hdg h1 (kk H locs ls hw hS hl)
theorem x_dup_x1 (C : xC p l e s m meth c cc nL own args D cl tys base) {va vb : Value} (hdg : decode cc pc = .ok (.dup_x1, 1)) (h1 : va.category = 1) (h2 : vb.category = 1) (kk : xG p l e R s m args below meth c Q nL D cl base g n E k z (pc + 1) lv (va :: vb :: va :: st)) : xG p l e R s m args below meth c Q nL D cl base g n E k z pc lv (va :: vb :: st) := fun H locs ls hw hS hl => lv_dup_x1 C.1 C.2.1 hdg h1 h2 (kk H locs ls hw hS hl)
theorem x_dup2 (C : xC p l e s m meth c cc nL own args D cl tys base) {va vb : Value} (hdg : decode cc pc = .ok (.dup2, 1)) (h1 : va.category = 1) (h2 : vb.category = 1) (kk : xG p l e R s m args below meth c Q nL D cl base g n E k z (pc + 1) lv (va :: vb :: va :: vb :: st)) : xG p l e R s m args below meth c Q nL D cl base g n E k z pc lv (va :: vb :: st) := fun H locs ls hw hS hl => lv_dup2_11 C.1 C.2.1 hdg h1 h2 (kk H locs ls hw hS hl)
theorem x_null (C : xC p l e s m meth c cc nL own args D cl tys base)  (hdg : decode cc pc = .ok (.aconst_null, 1))  (kk : xG p l e R s m args below meth c Q nL D cl base g n E k z (pc + 1) lv (.null :: st)) : xG p l e R s m args below meth c Q nL D cl base g n E k z pc lv st := fun H locs ls hw hS hl => lv_null C.1 C.2.1 hdg  (kk H locs ls hw hS hl)
theorem x_if_eq (C : xC p l e s m meth c cc nL own args D cl tys base) {x : Int32} {off : Int} (tgt : Nat) (hdg : decode cc pc = .ok (.ifCond .eq off, 3)) (ht : (pc : Int) + off = (tgt : Int)) (kt : x = 0 → xG p l e R s m args below meth c Q nL D cl base g n E k z tgt lv st) (kf : ¬ x = 0 → xG p l e R s m args below meth c Q nL D cl base g n E k z (pc + 3) lv st) : xG p l e R s m args below meth c Q nL D cl base g n E k z pc lv (.int x :: st) := fun H locs ls hw hS hl => lv_if_eq C.1 C.2.1 hdg ht (fun h => kt h H locs ls hw hS hl) (fun h => kf h H locs ls hw hS hl)
theorem x_icmp_eq (C : xC p l e s m meth c cc nL own args D cl tys base) {x y : Int32} {off : Int} (tgt : Nat) (hdg : decode cc pc = .ok (.if_icmp .eq off, 3)) (ht : (pc : Int) + off = (tgt : Int)) (kt : x = y → xG p l e R s m args below meth c Q nL D cl base g n E k z tgt lv st) (kf : ¬ x = y → xG p l e R s m args below meth c Q nL D cl base g n E k z (pc + 3) lv st) : xG p l e R s m args below meth c Q nL D cl base g n E k z pc lv (.int y :: .int x :: st) := fun H locs ls hw hS hl => lv_icmp_eq C.1 C.2.1 hdg ht (fun h => kt h H locs ls hw hS hl) (fun h => kf h H locs ls hw hS hl)
theorem x_if_ne (C : xC p l e s m meth c cc nL own args D cl tys base) {x : Int32} {off : Int} (tgt : Nat) (hdg : decode cc pc = .ok (.ifCond .ne off, 3)) (ht : (pc : Int) + off = (tgt : Int)) (kt : ¬ x = 0 → xG p l e R s m args below meth c Q nL D cl base g n E k z tgt lv st) (kf : x = 0 → xG p l e R s m args below meth c Q nL D cl base g n E k z (pc + 3) lv st) : xG p l e R s m args below meth c Q nL D cl base g n E k z pc lv (.int x :: st) := fun H locs ls hw hS hl => lv_if_ne C.1 C.2.1 hdg ht (fun h => kt h H locs ls hw hS hl) (fun h => kf h H locs ls hw hS hl)
theorem x_icmp_ne (C : xC p l e s m meth c cc nL own args D cl tys base) {x y : Int32} {off : Int} (tgt : Nat) (hdg : decode cc pc = .ok (.if_icmp .ne off, 3)) (ht : (pc : Int) + off = (tgt : Int)) (kt : ¬ x = y → xG p l e R s m args below meth c Q nL D cl base g n E k z tgt lv st) (kf : x = y → xG p l e R s m args below meth c Q nL D cl base g n E k z (pc + 3) lv st) : xG p l e R s m args below meth c Q nL D cl base g n E k z pc lv (.int y :: .int x :: st) := fun H locs ls hw hS hl => lv_icmp_ne C.1 C.2.1 hdg ht (fun h => kt h H locs ls hw hS hl) (fun h => kf h H locs ls hw hS hl)
theorem x_if_lt (C : xC p l e s m meth c cc nL own args D cl tys base) {x : Int32} {off : Int} (tgt : Nat) (hdg : decode cc pc = .ok (.ifCond .lt off, 3)) (ht : (pc : Int) + off = (tgt : Int)) (kt : x < 0 → xG p l e R s m args below meth c Q nL D cl base g n E k z tgt lv st) (kf : ¬ x < 0 → xG p l e R s m args below meth c Q nL D cl base g n E k z (pc + 3) lv st) : xG p l e R s m args below meth c Q nL D cl base g n E k z pc lv (.int x :: st) := fun H locs ls hw hS hl => lv_if_lt C.1 C.2.1 hdg ht (fun h => kt h H locs ls hw hS hl) (fun h => kf h H locs ls hw hS hl)
theorem x_icmp_lt (C : xC p l e s m meth c cc nL own args D cl tys base) {x y : Int32} {off : Int} (tgt : Nat) (hdg : decode cc pc = .ok (.if_icmp .lt off, 3)) (ht : (pc : Int) + off = (tgt : Int)) (kt : x < y → xG p l e R s m args below meth c Q nL D cl base g n E k z tgt lv st) (kf : ¬ x < y → xG p l e R s m args below meth c Q nL D cl base g n E k z (pc + 3) lv st) : xG p l e R s m args below meth c Q nL D cl base g n E k z pc lv (.int y :: .int x :: st) := fun H locs ls hw hS hl => lv_icmp_lt C.1 C.2.1 hdg ht (fun h => kt h H locs ls hw hS hl) (fun h => kf h H locs ls hw hS hl)
theorem x_if_ge (C : xC p l e s m meth c cc nL own args D cl tys base) {x : Int32} {off : Int} (tgt : Nat) (hdg : decode cc pc = .ok (.ifCond .ge off, 3)) (ht : (pc : Int) + off = (tgt : Int)) (kt : 0 ≤ x → xG p l e R s m args below meth c Q nL D cl base g n E k z tgt lv st) (kf : ¬ 0 ≤ x → xG p l e R s m args below meth c Q nL D cl base g n E k z (pc + 3) lv st) : xG p l e R s m args below meth c Q nL D cl base g n E k z pc lv (.int x :: st) := fun H locs ls hw hS hl => lv_if_ge C.1 C.2.1 hdg ht (fun h => kt h H locs ls hw hS hl) (fun h => kf h H locs ls hw hS hl)
theorem x_icmp_ge (C : xC p l e s m meth c cc nL own args D cl tys base) {x y : Int32} {off : Int} (tgt : Nat) (hdg : decode cc pc = .ok (.if_icmp .ge off, 3)) (ht : (pc : Int) + off = (tgt : Int)) (kt : y ≤ x → xG p l e R s m args below meth c Q nL D cl base g n E k z tgt lv st) (kf : ¬ y ≤ x → xG p l e R s m args below meth c Q nL D cl base g n E k z (pc + 3) lv st) : xG p l e R s m args below meth c Q nL D cl base g n E k z pc lv (.int y :: .int x :: st) := fun H locs ls hw hS hl => lv_icmp_ge C.1 C.2.1 hdg ht (fun h => kt h H locs ls hw hS hl) (fun h => kf h H locs ls hw hS hl)
theorem x_if_gt (C : xC p l e s m meth c cc nL own args D cl tys base) {x : Int32} {off : Int} (tgt : Nat) (hdg : decode cc pc = .ok (.ifCond .gt off, 3)) (ht : (pc : Int) + off = (tgt : Int)) (kt : 0 < x → xG p l e R s m args below meth c Q nL D cl base g n E k z tgt lv st) (kf : ¬ 0 < x → xG p l e R s m args below meth c Q nL D cl base g n E k z (pc + 3) lv st) : xG p l e R s m args below meth c Q nL D cl base g n E k z pc lv (.int x :: st) := fun H locs ls hw hS hl => lv_if_gt C.1 C.2.1 hdg ht (fun h => kt h H locs ls hw hS hl) (fun h => kf h H locs ls hw hS hl)
theorem x_icmp_gt (C : xC p l e s m meth c cc nL own args D cl tys base) {x y : Int32} {off : Int} (tgt : Nat) (hdg : decode cc pc = .ok (.if_icmp .gt off, 3)) (ht : (pc : Int) + off = (tgt : Int)) (kt : y < x → xG p l e R s m args below meth c Q nL D cl base g n E k z tgt lv st) (kf : ¬ y < x → xG p l e R s m args below meth c Q nL D cl base g n E k z (pc + 3) lv st) : xG p l e R s m args below meth c Q nL D cl base g n E k z pc lv (.int y :: .int x :: st) := fun H locs ls hw hS hl => lv_icmp_gt C.1 C.2.1 hdg ht (fun h => kt h H locs ls hw hS hl) (fun h => kf h H locs ls hw hS hl)
theorem x_if_le (C : xC p l e s m meth c cc nL own args D cl tys base) {x : Int32} {off : Int} (tgt : Nat) (hdg : decode cc pc = .ok (.ifCond .le off, 3)) (ht : (pc : Int) + off = (tgt : Int)) (kt : x ≤ 0 → xG p l e R s m args below meth c Q nL D cl base g n E k z tgt lv st) (kf : ¬ x ≤ 0 → xG p l e R s m args below meth c Q nL D cl base g n E k z (pc + 3) lv st) : xG p l e R s m args below meth c Q nL D cl base g n E k z pc lv (.int x :: st) := fun H locs ls hw hS hl => lv_if_le C.1 C.2.1 hdg ht (fun h => kt h H locs ls hw hS hl) (fun h => kf h H locs ls hw hS hl)
theorem x_icmp_le (C : xC p l e s m meth c cc nL own args D cl tys base) {x y : Int32} {off : Int} (tgt : Nat) (hdg : decode cc pc = .ok (.if_icmp .le off, 3)) (ht : (pc : Int) + off = (tgt : Int)) (kt : x ≤ y → xG p l e R s m args below meth c Q nL D cl base g n E k z tgt lv st) (kf : ¬ x ≤ y → xG p l e R s m args below meth c Q nL D cl base g n E k z (pc + 3) lv st) : xG p l e R s m args below meth c Q nL D cl base g n E k z pc lv (.int y :: .int x :: st) := fun H locs ls hw hS hl => lv_icmp_le C.1 C.2.1 hdg ht (fun h => kt h H locs ls hw hS hl) (fun h => kf h H locs ls hw hS hl)
theorem x_goto (C : xC p l e s m meth c cc nL own args D cl tys base) {off : Int} (tgt : Nat) (hdg : decode cc pc = .ok (.goto off, 3)) (ht : (pc : Int) + off = (tgt : Int)) (kk : xG p l e R s m args below meth c Q nL D cl base g n E k z tgt lv st) : xG p l e R s m args below meth c Q nL D cl base g n E k z pc lv st := fun H locs ls hw hS hl => lv_goto C.1 C.2.1 hdg ht (kk H locs ls hw hS hl)
theorem x_tableOut (C : xC p l e s m meth c cc nL own args D cl tys base) {dflt lo hi : Int} {offs : Array Int} {len : Nat} {x : Int32} (tgt : Nat) (hdg : decode cc pc = .ok (.tableswitch dflt lo hi offs, len)) (h : x.toInt < lo ∨ hi < x.toInt) (ht : (pc : Int) + dflt = (tgt : Int)) (kk : xG p l e R s m args below meth c Q nL D cl base g n E k z tgt lv st) : xG p l e R s m args below meth c Q nL D cl base g n E k z pc lv (.int x :: st) := fun H locs ls hw hS hl => lv_tableOut C.1 C.2.1 hdg h ht (kk H locs ls hw hS hl)
theorem x_tableIn (C : xC p l e s m meth c cc nL own args D cl tys base) {dflt lo hi : Int} {offs : Array Int} {len : Nat} {x : Int32} {off : Int} (tgt : Nat) (hdg : decode cc pc = .ok (.tableswitch dflt lo hi offs, len)) (h1 : ¬ x.toInt < lo) (h2 : ¬ hi < x.toInt) (ho : offs[(x.toInt - lo).toNat]? = some off) (ht : (pc : Int) + off = (tgt : Int)) (kk : xG p l e R s m args below meth c Q nL D cl base g n E k z tgt lv st) : xG p l e R s m args below meth c Q nL D cl base g n E k z pc lv (.int x :: st) := fun H locs ls hw hS hl => lv_tableIn C.1 C.2.1 hdg h1 h2 ho ht (kk H locs ls hw hS hl)
theorem x_get (C : xC p l e s m meth c cc nL own args D cl tys base) {ref Cn : String} {T : u_T} {N ci idx i : Nat} {fs : List Value} {v : Value} (hci : cl[ci]? = some (Cn, T, N)) (hin : ∀ w ∈ u_ws Cn T N, w ∈ xT) (j : Nat) (hj : j < N) (hlink : Cond.fieldLink own idx ref (T j).2.1 (T j).2.2.1 ∈ xT) (hsame : ∀ x, s.fieldFound? (T j).1 (T j).2.1 (T j).2.2.1 = some x → s.fieldFound? ref (T j).2.1 (T j).2.2.1 = some x) (hi : i < n) (he : E i = .inr (ci, fs)) (hv : fs[j]? = some v) (hdg : decode cc pc = .ok (.getfield idx, 3)) (kk : xG p l e R s m args below meth c Q nL D cl base g n E k z (pc + 3) lv (v :: st)) : xG p l e R s m args below meth c Q nL D cl base g n E k z pc lv (.ref (g i) :: st) := fun H locs ls hw hS hl => va_get C.1 C.2.1 C.words hin C.ow C.K hw.1 i (by rw [xWL_get hi, he]) hci j hj (C.word hlink) hsame hv hdg (kk H locs ls hw hS hl)
theorem x_put (C : xC p l e s m meth c cc nL own args D cl tys base) {ref Cn : String} {T : u_T} {N ci idx i : Nat} {fs : List Value} {v : Value} {ty : FieldType} {E' : Nat → va_E} {ty0 : Nat → FieldType} (hci : cl[ci]? = some (Cn, T, N)) (hin : ∀ w ∈ u_ws Cn T N, w ∈ xT) (j : Nat) (hj : j < N) (hlink : Cond.fieldLink own idx ref (T j).2.1 (T j).2.2.1 ∈ xT) (hsame : ∀ x, s.fieldFound? (T j).1 (T j).2.1 (T j).2.2.1 = some x → s.fieldFound? ref (T j).2.1 (T j).2.2.1 = some x) (hi : i < n) (he : E i = .inr (ci, fs)) (hty : ∀ k, k < N → parseFieldDescriptor (T k).2.2.1 = some (ty0 k)) (hnm : ∀ a, a < N → ∀ b, b < N → a ≠ b → (T a).2.1 ≠ (T b).2.1) (hfin : (T j).2.2.2 = false) (hd : parseFieldDescriptor (T j).2.2.1 = some ty) (hna : narrow ty v = v) (hfit : fits ty v = true) (hlen : j < fs.length) (hE : va_up E i (.inr (ci, fs.set j v)) = E') (hdg : decode cc pc = .ok (.putfield idx, 3)) (kk : xG p l e R s m args below meth c Q nL D cl base g n E' k z (pc + 3) lv st) : xG p l e R s m args below meth c Q nL D cl base g n E k z pc lv (v :: .ref (g i) :: st) := fun H locs ls hw hS hl => va_put C.1 C.2.1 C.words hin ty0 hty hnm C.ow C.K hw.1 hw.2 hS i (by rw [xWL_get hi, he]) hci j hj (C.word hlink) hsame hfin hd hna hfit hlen hdg (fun H locs hP hD hS => kk H locs ls (xWd_set hE hP hD) hS hl)
theorem x_getN (C : xC p l e s m meth c cc nL own args D cl tys base) {host : String} {ref Cn : String} {T : u_T} {N ci idx i : Nat} {fs : List Value} {v : Value} (hci : cl[ci]? = some (Cn, T, N)) (hin : ∀ w ∈ u_ws Cn T N, w ∈ xT) (j : Nat) (hj : j < N) (hlink : Cond.fieldLinkNest own idx ref (T j).2.1 (T j).2.2.1 host ∈ xN) (hsame : ∀ x, s.fieldFound? (T j).1 (T j).2.1 (T j).2.2.1 = some x → s.fieldFound? ref (T j).2.1 (T j).2.2.1 = some x) (hi : i < n) (he : E i = .inr (ci, fs)) (hv : fs[j]? = some v) (hdg : decode cc pc = .ok (.getfield idx, 3)) (kk : xG p l e R s m args below meth c Q nL D cl base g n E k z (pc + 3) lv (v :: st)) : xG p l e R s m args below meth c Q nL D cl base g n E k z pc lv (.ref (g i) :: st) := fun H locs ls hw hS hl => va_getN C.1 C.2.1 C.words hin C.ow C.K hw.1 i (by rw [xWL_get hi, he]) hci j hj (C.nest hlink) hsame hv hdg (kk H locs ls hw hS hl)
theorem x_putN (C : xC p l e s m meth c cc nL own args D cl tys base) {host : String} {ref Cn : String} {T : u_T} {N ci idx i : Nat} {fs : List Value} {v : Value} {ty : FieldType} {E' : Nat → va_E} {ty0 : Nat → FieldType} (hci : cl[ci]? = some (Cn, T, N)) (hin : ∀ w ∈ u_ws Cn T N, w ∈ xT) (j : Nat) (hj : j < N) (hlink : Cond.fieldLinkNest own idx ref (T j).2.1 (T j).2.2.1 host ∈ xN) (hsame : ∀ x, s.fieldFound? (T j).1 (T j).2.1 (T j).2.2.1 = some x → s.fieldFound? ref (T j).2.1 (T j).2.2.1 = some x) (hi : i < n) (he : E i = .inr (ci, fs)) (hty : ∀ k, k < N → parseFieldDescriptor (T k).2.2.1 = some (ty0 k)) (hnm : ∀ a, a < N → ∀ b, b < N → a ≠ b → (T a).2.1 ≠ (T b).2.1) (hfin : (T j).2.2.2 = false) (hd : parseFieldDescriptor (T j).2.2.1 = some ty) (hna : narrow ty v = v) (hfit : fits ty v = true) (hlen : j < fs.length) (hE : va_up E i (.inr (ci, fs.set j v)) = E') (hdg : decode cc pc = .ok (.putfield idx, 3)) (kk : xG p l e R s m args below meth c Q nL D cl base g n E' k z (pc + 3) lv st) : xG p l e R s m args below meth c Q nL D cl base g n E k z pc lv (v :: .ref (g i) :: st) := fun H locs ls hw hS hl => va_putN C.1 C.2.1 C.words hin ty0 hty hnm C.ow C.K hw.1 hw.2 hS i (by rw [xWL_get hi, he]) hci j hj (C.nest hlink) hsame hfin hd hna hfit hlen hdg (fun H locs hP hD hS => kk H locs ls (xWd_set hE hP hD) hS hl)
theorem x_putF (C : xC p l e s m meth c cc nL own args D cl tys base) {ref Cn : String} {T : u_T} {N ci idx i : Nat} {fs : List Value} {v : Value} {ty : FieldType} {E' : Nat → va_E} {ty0 : Nat → FieldType} (hci : cl[ci]? = some (Cn, T, N)) (hin : ∀ w ∈ u_ws Cn T N, w ∈ xT) (j : Nat) (hj : j < N) (hlink : Cond.fieldLink own idx ref (T j).2.1 (T j).2.2.1 ∈ xT) (hsame : ∀ x, s.fieldFound? (T j).1 (T j).2.1 (T j).2.2.1 = some x → s.fieldFound? ref (T j).2.1 (T j).2.2.1 = some x) (hi : i < n) (he : E i = .inr (ci, fs)) (hty : ∀ k, k < N → parseFieldDescriptor (T k).2.2.1 = some (ty0 k)) (hnm : ∀ a, a < N → ∀ b, b < N → a ≠ b → (T a).2.1 ≠ (T b).2.1) (hfin : (T j).2.2.2 = true) (hmn : meth.name = "<init>") (hdecl : (T j).1 = own) (hd : parseFieldDescriptor (T j).2.2.1 = some ty) (hna : narrow ty v = v) (hfit : fits ty v = true) (hlen : j < fs.length) (hE : va_up E i (.inr (ci, fs.set j v)) = E') (hdg : decode cc pc = .ok (.putfield idx, 3)) (kk : xG p l e R s m args below meth c Q nL D cl base g n E' k z (pc + 3) lv st) : xG p l e R s m args below meth c Q nL D cl base g n E k z pc lv (v :: .ref (g i) :: st) := fun H locs ls hw hS hl => va_putF C.1 C.2.1 C.words hin ty0 hty hnm C.ow C.K hw.1 hw.2 hS i (by rw [xWL_get hi, he]) hci j hj (C.word hlink) hsame hfin hmn hdecl hd hna hfit hlen hdg (fun H locs hP hD hS => kk H locs ls (xWd_set hE hP hD) hS hl)
theorem x_iald (C : xC p l e s m meth c cc nL own args D cl tys base) {i nn : Nat} {cA : ClassId} {f : Nat → Int32} {x : Int32} (hi : i < n) (he : E i = .inl (cA, nn, .inl f)) (t0 : Nat) (ht : tys[t0]? = some (cA, .int)) (hx : vp_in x nn) (hdg : decode cc pc = .ok (.iaload, 1)) (kk : xG p l e R s m args below meth c Q nL D cl base g n E k z (pc + 1) lv (.int (f x.toNatClampNeg) :: st)) : xG p l e R s m args below meth c Q nL D cl base g n E k z pc lv (.int x :: .ref (g i) :: st) := fun H locs ls hw hS hl => va_iald C.1 C.2.1 C.K hw.1 i t0 (by rw [xWL_get hi, he]) ht hx hdg (kk H locs ls hw hS hl)
theorem x_iast (C : xC p l e s m meth c cc nL own args D cl tys base) {i nn : Nat} {cA : ClassId} {f : Nat → Int32} {x : Int32} {y : Int32} {E' : Nat → va_E} (hi : i < n) (he : E i = .inl (cA, nn, .inl f)) (t0 : Nat) (ht : tys[t0]? = some (cA, .int)) (hx : vp_in x nn) (hE : va_up E i (.inl (cA, nn, .inl (upd f x.toNatClampNeg y))) = E') (hdg : decode cc pc = .ok (.iastore, 1)) (kk : xG p l e R s m args below meth c Q nL D cl base g n E' k z (pc + 1) lv st) : xG p l e R s m args below meth c Q nL D cl base g n E k z pc lv (.int y :: .int x :: .ref (g i) :: st) := fun H locs ls hw hS hl => va_iast C.1 C.2.1 C.K hw.1 hw.2 hS i t0 (by rw [xWL_get hi, he]) ht hx hdg (fun H locs hP hD hS => kk H locs ls (xWd_set hE hP hD) hS hl)
theorem x_lald (C : xC p l e s m meth c cc nL own args D cl tys base) {i nn : Nat} {cA : ClassId} {f : Nat → Int64} {x : Int32} (hi : i < n) (he : E i = .inl (cA, nn, .inr (.inl f))) (t0 : Nat) (ht : tys[t0]? = some (cA, .long)) (hx : vp_in x nn) (hdg : decode cc pc = .ok (.laload, 1)) (kk : xG p l e R s m args below meth c Q nL D cl base g n E k z (pc + 1) lv (.long (f x.toNatClampNeg) :: st)) : xG p l e R s m args below meth c Q nL D cl base g n E k z pc lv (.int x :: .ref (g i) :: st) := fun H locs ls hw hS hl => va_lald C.1 C.2.1 C.K hw.1 i t0 (by rw [xWL_get hi, he]) ht hx hdg (kk H locs ls hw hS hl)
theorem x_last (C : xC p l e s m meth c cc nL own args D cl tys base) {i nn : Nat} {cA : ClassId} {f : Nat → Int64} {x : Int32} {y : Int64} {E' : Nat → va_E} (hi : i < n) (he : E i = .inl (cA, nn, .inr (.inl f))) (t0 : Nat) (ht : tys[t0]? = some (cA, .long)) (hx : vp_in x nn) (hE : va_up E i (.inl (cA, nn, .inr (.inl (vp_updL f x.toNatClampNeg y)))) = E') (hdg : decode cc pc = .ok (.lastore, 1)) (kk : xG p l e R s m args below meth c Q nL D cl base g n E' k z (pc + 1) lv st) : xG p l e R s m args below meth c Q nL D cl base g n E k z pc lv (.long y :: .int x :: .ref (g i) :: st) := fun H locs ls hw hS hl => va_last C.1 C.2.1 C.K hw.1 hw.2 hS i t0 (by rw [xWL_get hi, he]) ht hx hdg (fun H locs hP hD hS => kk H locs ls (xWd_set hE hP hD) hS hl)
theorem x_dald (C : xC p l e s m meth c cc nL own args D cl tys base) {i nn : Nat} {cA : ClassId} {f : Nat → UInt64} {x : Int32} (hi : i < n) (he : E i = .inl (cA, nn, .inr (.inr (.inr (.inl f))))) (t0 : Nat) (ht : tys[t0]? = some (cA, .double)) (hx : vp_in x nn) (hdg : decode cc pc = .ok (.daload, 1)) (kk : xG p l e R s m args below meth c Q nL D cl base g n E k z (pc + 1) lv (.double (f x.toNatClampNeg) :: st)) : xG p l e R s m args below meth c Q nL D cl base g n E k z pc lv (.int x :: .ref (g i) :: st) := fun H locs ls hw hS hl => va_dald C.1 C.2.1 C.K hw.1 i t0 (by rw [xWL_get hi, he]) ht hx hdg (kk H locs ls hw hS hl)
theorem x_dast (C : xC p l e s m meth c cc nL own args D cl tys base) {i nn : Nat} {cA : ClassId} {f : Nat → UInt64} {x : Int32} {y : UInt64} {E' : Nat → va_E} (hi : i < n) (he : E i = .inl (cA, nn, .inr (.inr (.inr (.inl f))))) (t0 : Nat) (ht : tys[t0]? = some (cA, .double)) (hx : vp_in x nn) (hE : va_up E i (.inl (cA, nn, .inr (.inr (.inr (.inl (vf_upd f x.toNatClampNeg y)))))) = E') (hdg : decode cc pc = .ok (.dastore, 1)) (kk : xG p l e R s m args below meth c Q nL D cl base g n E' k z (pc + 1) lv st) : xG p l e R s m args below meth c Q nL D cl base g n E k z pc lv (.double y :: .int x :: .ref (g i) :: st) := fun H locs ls hw hS hl => va_dast C.1 C.2.1 C.K hw.1 hw.2 hS i t0 (by rw [xWL_get hi, he]) ht hx hdg (fun H locs hP hD hS => kk H locs ls (xWd_set hE hP hD) hS hl)
theorem x_aald (C : xC p l e s m meth c cc nL own args D cl tys base) {i nn r : Nat} {cA : ClassId} {f : Nat → Option Nat} {x : Int32} {Cn : String} (hi : i < n) (he : E i = .inl (cA, nn, .inr (.inr (.inr (.inr f))))) (t0 : Nat) (ht : tys[t0]? = some (cA, .object Cn)) (hx : vp_in x nn) (hr : f x.toNatClampNeg = some r) (hdg : decode cc pc = .ok (.aaload, 1)) (kk : xG p l e R s m args below meth c Q nL D cl base g n E k z (pc + 1) lv (.ref r :: st)) : xG p l e R s m args below meth c Q nL D cl base g n E k z pc lv (.int x :: .ref (g i) :: st) := fun H locs ls hw hS hl => va_aldq C.1 C.2.1 C.K hw.1 i t0 (by rw [xWL_get hi, he]) ht hx hdg (by rw [hr]; exact (kk H locs ls hw hS hl))
end XR
end
section
/-! Contracts over numbered cells; calls; the throw of a new exception. -/
section XK0
/-- how a method ended: with a value, or with a new object of the class X thrown -/
abbrev xR : Type := Option Value ⊕ String
def xRes (r : xR) (o : Outcome) (t : State) : Prop := match r with
  | .inl v => o = .returned v
  | .inr X => ∃ (a : Addr) (ce : Cell), o = .threw a ∧ t.heap[a]? = some ce ∧ ce.vm = .none ∧ t.vm.findClass X = some ce.cls
def xPc (D : va_G) (cl : List vw_C) (tys : List (ClassId × FieldType)) (base : Nat) (g : Nat → Nat) (n : Nat) (E : Nat → va_E) (av : List Value) : Array Value → State → Prop := va_Pc av (fun U => xEnv base U U.heap ∧ va_K D cl tys U ∧ xWd D cl base g n E U.heap)
def xQc (D : va_G) (cl : List vw_C) (base : Nat) (g : Nat → Nat) (n : Nat) (post : xR → (Nat → va_E) → Prop) : Array Value → State → Outcome → State → Prop := fun _ st o t => (∃ (r : xR) (E' : Nat → va_E), xRes r o t ∧ post r E' ∧ xWd D cl base g n E' t.heap) ∧ va_F (fun q => base ≤ q) st t
theorem xPc_blind {D : va_G} {cl : List vw_C} {tys : List (ClassId × FieldType)} {base : Nat} {g : Nat → Nat} {n : Nat} {E : Nat → va_E} {av : List Value} : FrameBlind (xPc D cl tys base g n E av) := fun a U g' mk h => ⟨h.1, h.2.1.blind, va_K.moved (u := U) (U := U.calling g' mk a) (Vm.Alike.refl U.vm) h.2.2.1, h.2.2.2⟩
end XK0
section XK1
variable {p : Program} {l : Launch} {e : Env} {R : Room} {s : State} {m : MethodId} {args : Array Value} {below : List Frame} {meth : Method} {c : Code} {Q : State → Prop} {nL : Nat} {D : va_G} {cl : List vw_C} {tys : List (ClassId × FieldType)} {base : Nat} {g : Nat → Nat} {cc : ByteArray} {own : String} {n k z pc : Nat} {E : Nat → va_E} {lv : List (Nat × Value)} {st rest : List Value} {post post' : xR → (Nat → va_E) → Prop} {kT nT : Nat}
theorem xC.locks (C : xC p l e s m meth c cc nL own args D cl tys base) : meth.locks = false := C.2.2.2.2.1
/-- an exception of class X on its way out of the frame -/
def xGT (p : Program) (l : Launch) (e : Env) (R : Room) (s : State) (m : MethodId) (args : Array Value) (below : List Frame) (meth : Method) (c : Code) (Q : State → Prop) (nL : Nat) (D : va_G) (cl : List vw_C) (base : Nat) (g : Nat → Nat) (n : Nat) (E : Nat → va_E) (k z pc : Nat) (lv : List (Nat × Value)) (st : List Value) (X : String) : Prop :=
  ∀ (H : Heap) (locs : List Loc) (ls : Array Slot) (a : Addr) (ce : Cell), xWd D cl base g n E H → va_S (fun q => base ≤ q) s.heap H locs → lv_has ls nL lv → H[a]? = some ce → ce.vm = .none → s.vm.findClass X = some ce.cls → WT p l e R s m args below meth c H locs k z Q (F0 m pc ls st) a
/-- a method's contract out of a walk from its first instruction -/
theorem x_method {y : MethodName} {maxL : Nat} {ret : Option FieldType} {rm : Room} {av : List Value} (hy : plainName y.cls = true) (htr : ∀ e : Env, l.admits e → e.platform.stackTraces = false) (hlen : (lg_sl av).length ≤ maxL)
    (body : ∀ (p : Program) (e : Env) (s : State) (m : MethodId) (args : Array Value) (below : List Frame) (meth : Method) (c : Code), xC p l e s m meth c cc maxL y.cls args D cl tys base → c.exceptionTable.isEmpty = true → meth.sig.returnType = ret → meth.name = y.name →
      xG p l e rm s m args below meth c (xMQ below (xQc D cl base g n post) args s 0 0 kT nT (fun q => base ≤ q)) maxL D cl base g n E 0 0 0 (lv_args 0 av) []) :
    xMet l y [Cond.code y cc maxL ret] rm (xPc D cl tys base g n E av) (xQc D cl base g n post) 0 0 kT nT (fun q => base ≤ q) := by
  refine xMet_ofW hy rfl ?_
  intro p e s m args below meth c s₁ B hml hv
  obtain ⟨rfl, hE, hK, hw⟩ := hv
  have hcode : (Cond.code y cc maxL ret).before av.toArray s = true := atoms_spec (ws := [Cond.code y cc maxL ret]) B.pre _ List.mem_cons_self
  have C : xC p l e s m meth c cc maxL y.cls av.toArray D cl tys base := ⟨B.exec, B.bytes, hml, findClass_of_methodNamed B.named, B.notSynchronized, hK, hE, htr e (Stand.of_body B).admits⟩
  have hl := lv_entry av (n := maxL) hlen
  rw [lg_entry_eq]
  generalize (lg_sl av ++ List.replicate (maxL - (lg_sl av).length) Slot.unset).toArray = ls at hl ⊢
  exact body p e s m _ below meth c C (B.noHandlers hcode) B.returns (name_of_methodNamed B.named B.method).1 s.heap [] ls hw va_S.rf hl
theorem x_iret {R : Room} (C : xC p l e s m meth c cc nL own args D cl tys base) (hr : meth.sig.returnType = some .int) {v : Int32} (hdg : decode cc pc = .ok (.ireturn, 1)) (hp : post (.inl (some (.int v))) E) : xG p l e R s m args below meth c (xMQ below (xQc D cl base g n post) args s 0 0 kT nT (fun q => base ≤ q)) nL D cl base g n E 0 0 pc lv [.int v] :=
  fun H locs ls hw hS hl => xW_mono (fun t h => xMQ.of h) (W.iret C.1 C.2.1 hr (fun t ht hW => ⟨⟨.inl (some (.int v)), E, rfl, hp, by rw [ht]; exact hw⟩, hS.F ht⟩) hS.2.2 hdg C.locks)
theorem x_zret {R : Room} (C : xC p l e s m meth c cc nL own args D cl tys base) (hr : meth.sig.returnType = some .boolean) {v : Int32} (hn : narrow .boolean (.int v) = .int v) (hdg : decode cc pc = .ok (.ireturn, 1)) (hp : post (.inl (some (.int v))) E) : xG p l e R s m args below meth c (xMQ below (xQc D cl base g n post) args s 0 0 kT nT (fun q => base ≤ q)) nL D cl base g n E 0 0 pc lv [.int v] :=
  fun H locs ls hw hS hl => xW_mono (fun t h => xMQ.of h) (W.zret C.1 C.2.1 hr hn (fun t ht hW => ⟨⟨.inl (some (.int v)), E, rfl, hp, by rw [ht]; exact hw⟩, hS.F ht⟩) hS.2.2 hdg C.locks)
theorem x_vret {R : Room} (C : xC p l e s m meth c cc nL own args D cl tys base) (hr : meth.sig.returnType = none) (hdg : decode cc pc = .ok (.return_, 1)) (hp : post (.inl none) E) : xG p l e R s m args below meth c (xMQ below (xQc D cl base g n post) args s 0 0 kT nT (fun q => base ≤ q)) nL D cl base g n E 0 0 pc lv [] :=
  fun H locs ls hw hS hl => xW_mono (fun t h => xMQ.of h) (W.vret C.1 C.2.1 hr (fun t ht hW => ⟨⟨.inl none, E, rfl, hp, by rw [ht]; exact hw⟩, hS.F ht⟩) hS.2.2 hdg C.locks)
theorem x_aret {R : Room} (C : xC p l e s m meth c cc nL own args D cl tys base) {rt : FieldType} (hr : meth.sig.returnType = some rt) (hrt : (∃ n, rt = .object n) ∨ ∃ t, rt = .array t) {a : Nat} (hdg : decode cc pc = .ok (.areturn, 1)) (hp : post (.inl (some (.ref a))) E) : xG p l e R s m args below meth c (xMQ below (xQc D cl base g n post) args s 0 0 kT nT (fun q => base ≤ q)) nL D cl base g n E 0 0 pc lv [.ref a] :=
  fun H locs ls hw hS hl => xW_mono (fun t h => xMQ.of h) (W.aret C.1 C.2.1 hr hrt (Or.inr ⟨a, rfl⟩) (fun t ht hW => ⟨⟨.inl (some (.ref a)), E, rfl, hp, by rw [ht]; exact hw⟩, hS.F ht⟩) hS.2.2 hdg C.locks)
theorem x_dret {R : Room} (C : xC p l e s m meth c cc nL own args D cl tys base) (hr : meth.sig.returnType = some .double) {v : UInt64} (hdg : decode cc pc = .ok (.dreturn, 1)) (hp : post (.inl (some (.double v))) E) : xG p l e R s m args below meth c (xMQ below (xQc D cl base g n post) args s 0 0 kT nT (fun q => base ≤ q)) nL D cl base g n E 0 0 pc lv [.double v] :=
  fun H locs ls hw hS hl => xW_mono (fun t h => xMQ.of h) (W.dret C.1 C.2.1 hr (fun t ht hW => ⟨⟨.inl (some (.double v)), E, rfl, hp, by rw [ht]; exact hw⟩, hS.F ht⟩) hS.2.2 hdg C.locks)
/-- the exception goes on to the caller -/
theorem x_prop {R : Room} {X : String} (C : xC p l e s m meth c cc nL own args D cl tys base) (hne : c.exceptionTable.isEmpty = true) (hk : k ≤ kT) (hz : z ≤ nT) (hp : post (.inr X) E) : xGT p l e R s m args below meth c (xMQ below (xQc D cl base g n post) args s 0 0 kT nT (fun q => base ≤ q)) nL D cl base g n E k z pc lv st X :=
  fun H locs ls a ce hw hS hl h1 h2 h3 => xT_out rfl rfl rfl (covers_of_empty hne _) C.locks hk hz (fun t ht hW => ⟨⟨.inr X, E, ⟨a, ce, rfl, by rw [ht]; exact h1, h2, by rw [hW.alike.findClass]; exact h3⟩, hp, by rw [ht]; exact hw⟩, hS.F ht⟩) hS.2.2
theorem x_vaS {A : Nat → Prop} {H0 H : Heap} {locs L : List Loc} {st0 t : State} (hS : va_S A H0 H locs) (h0 : st0.heap = H) (hF : va_F A st0 t) (hL : ∀ q ∈ L, A q.base) : va_S A H0 t.heap (locs ++ L) := by
  subst h0
  refine ⟨Nat.le_trans hS.1 hF.1, fun q h1 h2 => (hF.2 q (Nat.lt_of_lt_of_le h1 hS.1) h2).trans (hS.2.1 q h1 h2), fun q hq => ?_⟩
  rcases List.mem_append.mp hq with h | h
  · exact hS.2.2 q h
  · exact hL q h
/-- the environment at a callee's start -/
theorem xC.at (C : xC p l e s m meth c cc nL own args D cl tys base) {H : Heap} {locs : List Loc} (hS : va_S (fun q => base ≤ q) s.heap H locs) {U : State} (hU : U.heap = H) (hW : s.WarmedH U.vm) : xEnv base U U.heap := by
  have hb : base ≤ s.heap.size := C.env.2.2.2.2.2.2.2.2
  refine C.env.go hW (fun q hq => ?_) (by rw [hU]; exact Nat.le_trans hb hS.1)
  rw [hU]
  exact hS.2.1 q (Nat.lt_of_lt_of_le hq hb) (Nat.not_le.mpr hq)
theorem x_after {R : Room} (hr : ∀ (H : Heap) (locs : List Loc) (ls : Array Slot), xWd D cl base g n E H → va_S (fun q => base ≤ q) s.heap H locs → lv_has ls nL lv → xRun p l e R s m args below meth c H locs k z 0 0 kT nT (F0 m pc ls st) rest (xQc D cl base g n post' #[]) (fun q => base ≤ q))
    (kR : ∀ (v : Option Value) (E' : Nat → va_E), post' (.inl v) E' → xG p l e R s m args below meth c Q nL D cl base g n E' k z (pc + 3) lv (v.toList ++ rest))
    (kX : ∀ (X : String) (E' : Nat → va_E), post' (.inr X) E' → xGT p l e R s m args below meth c Q nL D cl base g n E' (k + kT) (z + nT) pc lv rest X) : xG p l e R s m args below meth c Q nL D cl base g n E k z pc lv st := by
  intro H locs ls hw hS hl
  refine x_behind (hr H locs ls hw hS hl) ?_ ?_
  · intro v st₀ t H1 L ht hW h0 hL hq
    obtain ⟨⟨r, E', hr, hp, hw'⟩, hF⟩ := hq
    subst ht
    cases r with
    | inl v' => cases hr; exact kR _ E' hp _ _ ls hw' (x_vaS hS h0 hF hL) hl
    | inr X => obtain ⟨a, ce, h, -⟩ := hr; cases h
  · intro x st₀ t H1 L ht hW h0 hL hq
    obtain ⟨⟨r, E', hr, hp, hw'⟩, hF⟩ := hq
    subst ht
    cases r with
    | inl v' => cases hr
    | inr X =>
      obtain ⟨a, ce, h, h1, h2, h3⟩ := hr
      cases h
      exact kX X E' hp _ _ ls x ce hw' (x_vaS hS h0 hF hL) hl h1 h2 (by rw [← hW.alike.findClass]; exact h3)
theorem x_hws {w : Cond} (hw : w ∈ xT) (h : w.before args s = true) : ∀ w' ∈ [w], ∀ (a' : Array Value) (U : State), s.WarmedH U.vm → w'.before a' U = true := fun w' hw' a' U hW => by
  rw [List.mem_singleton.mp hw']
  exact word_at hW (Or.inl (List.mem_filter.mp hw).2) h
variable {y : MethodName} {b2 : ByteArray} {maxL2 idx : Nat} {ret2 : Option FieldType} {rm : Room} {As : List Value}
theorem x_callS {R : Room} (C : xC p l e s m meth c cc nL own args D cl tys base) (hM : xMet l y [Cond.code y b2 maxL2 ret2] rm (xPc D cl tys base g n E As) (xQc D cl base g n post') 0 0 kT nT (fun q => base ≤ q)) (hcode : Cond.code y b2 maxL2 ret2 ∈ xT) (hst : Cond.static y ∈ xT) (hini : Cond.initialized y.cls ∈ xT) (hlink : Cond.methodLink own idx y ∈ xT)
    (hy : y.cls ≠ "java/lang/invoke/MethodHandle" ∧ y.cls ≠ "java/lang/invoke/VarHandle") (hlen : (parseMethodDescriptor y.desc).map (fun d => d.parameters.length) = some As.length) (hR : rm.frames + 1 ≤ R.frames ∧ 8 + (maxL2 + 11) + rm.locals ≤ R.locals) (hf : k + rm.cells ≤ R.cells ∧ z + rm.slots ≤ R.slots) (hstk : st = As.reverse ++ rest) (hcat : (rest.map fun v => v.category).sum ≤ 8) (hdg : decode cc pc = .ok (.invokestatic idx, 3))
    (kR : ∀ (v : Option Value) (E' : Nat → va_E), post' (.inl v) E' → xG p l e R s m args below meth c Q nL D cl base g n E' k z (pc + 3) lv (v.toList ++ rest))
    (kX : ∀ (X : String) (E' : Nat → va_E), post' (.inr X) E' → xGT p l e R s m args below meth c Q nL D cl base g n E' (k + kT) (z + nT) pc lv rest X) : xG p l e R s m args below meth c Q nL D cl base g n E k z pc lv st := by
  refine x_after (post' := post') (fun H locs ls hw hS hl => ?_) kR kX
  have h := x_runS (p := p) (e := e) (below := below) (meth := meth) (As := As) (rest := rest) (locs := locs) (cells := k) (slots := z) C.1 C.2.1 C.2.2.1 C.ow hM xPc_blind hR (x_hws hcode (C.word hcode)) (C.word hcode) (C.word hst) (C.word hini) (C.word hlink) hy hlen (fun U hU hW => ⟨rfl, C.at hS hU hW, va_K.moved hW.alike C.K, by rw [hU]; exact hw⟩) (g := F0 m pc ls st) rfl hl.1 hstk (lv_room hcat) hdg hf
  exact h
theorem x_callV {R : Room} {Cn : String} {r : vw_C} {i ci : Nat} {fs : List Value} (C : xC p l e s m meth c cc nL own args D cl tys base) (hM : xMet l y [Cond.code y b2 maxL2 ret2] rm (xPc D cl tys base g n E (.ref (g i) :: As)) (xQc D cl base g n post') 0 0 kT nT (fun q => base ≤ q)) (hi : i < n) (he : E i = .inr (ci, fs)) (hci : cl[ci]? = some r) (hcode : Cond.code y b2 maxL2 ret2 ∈ xT) (hinst : Cond.instanceMethod y ∈ xT) (hsel : Cond.selects r.1 y y ∈ xT) (hini : Cond.initialized y.cls ∈ xT) (hlink : Cond.methodLink own idx y ∈ xT)
    (hy : y.cls ≠ "java/lang/invoke/MethodHandle" ∧ y.cls ≠ "java/lang/invoke/VarHandle") (hlen : (parseMethodDescriptor y.desc).map (fun d => d.parameters.length) = some As.length) (hR : rm.frames + 1 ≤ R.frames ∧ 8 + (maxL2 + 11) + rm.locals ≤ R.locals) (hf : k + rm.cells ≤ R.cells ∧ z + rm.slots ≤ R.slots) (hstk : st = As.reverse ++ .ref (g i) :: rest) (hcat : (rest.map fun v => v.category).sum ≤ 8) (hdg : decode cc pc = .ok (.invokevirtual idx, 3))
    (kR : ∀ (v : Option Value) (E' : Nat → va_E), post' (.inl v) E' → xG p l e R s m args below meth c Q nL D cl base g n E' k z (pc + 3) lv (v.toList ++ rest))
    (kX : ∀ (X : String) (E' : Nat → va_E), post' (.inr X) E' → xGT p l e R s m args below meth c Q nL D cl base g n E' (k + kT) (z + nT) pc lv rest X) : xG p l e R s m args below meth c Q nL D cl base g n E k z pc lv st := by
  refine x_after (post' := post') (fun H locs ls hw hS hl => ?_) kR kX
  have h := x_runV (p := p) (e := e) (below := below) (meth := meth) (As := As) (rest := rest) (locs := locs) (cells := k) (slots := z) C.1 C.2.1 C.2.2.1 C.ow hM xPc_blind hR (x_hws hcode (C.word hcode)) (C.word hcode) (C.word hinst) (C.word hsel) (C.word hini) (C.word hlink) hy hlen (va_recv C.K hw.1 hci (q0 := i) (by rw [xWL_get hi, he])) (fun U hU hW => ⟨rfl, C.at hS hU hW, va_K.moved hW.alike C.K, by rw [hU]; exact hw⟩) (g := F0 m pc ls st) rfl hl.1 hstk (lv_room hcat) hdg hf
  exact h
theorem x_callVN {R : Room} {host : String} {r : vw_C} {i ci : Nat} {fs : List Value} (C : xC p l e s m meth c cc nL own args D cl tys base) (hM : xMet l y [Cond.code y b2 maxL2 ret2] rm (xPc D cl tys base g n E (.ref (g i) :: As)) (xQc D cl base g n post') 0 0 kT nT (fun q => base ≤ q)) (hi : i < n) (he : E i = .inr (ci, fs)) (hci : cl[ci]? = some r) (hcode : Cond.code y b2 maxL2 ret2 ∈ xT) (hinst : Cond.instanceMethod y ∈ xT) (hsel : Cond.selects r.1 y y ∈ xT) (hini : Cond.initialized y.cls ∈ xT) (hlink : Cond.methodLinkNest own idx y host ∈ xN)
    (hy : y.cls ≠ "java/lang/invoke/MethodHandle" ∧ y.cls ≠ "java/lang/invoke/VarHandle") (hlen : (parseMethodDescriptor y.desc).map (fun d => d.parameters.length) = some As.length) (hR : rm.frames + 1 ≤ R.frames ∧ 8 + (maxL2 + 11) + rm.locals ≤ R.locals) (hf : k + rm.cells ≤ R.cells ∧ z + rm.slots ≤ R.slots) (hstk : st = As.reverse ++ .ref (g i) :: rest) (hcat : (rest.map fun v => v.category).sum ≤ 8) (hdg : decode cc pc = .ok (.invokevirtual idx, 3))
    (kR : ∀ (v : Option Value) (E' : Nat → va_E), post' (.inl v) E' → xG p l e R s m args below meth c Q nL D cl base g n E' k z (pc + 3) lv (v.toList ++ rest))
    (kX : ∀ (X : String) (E' : Nat → va_E), post' (.inr X) E' → xGT p l e R s m args below meth c Q nL D cl base g n E' (k + kT) (z + nT) pc lv rest X) : xG p l e R s m args below meth c Q nL D cl base g n E k z pc lv st := by
  refine x_after (post' := post') (fun H locs ls hw hS hl => ?_) kR kX
  have h := x_runVN (p := p) (e := e) (below := below) (meth := meth) (As := As) (rest := rest) (locs := locs) (cells := k) (slots := z) C.1 C.2.1 C.2.2.1 C.ow hM xPc_blind hR (x_hws hcode (C.word hcode)) (C.word hcode) (C.word hinst) (C.word hsel) (C.word hini) (C.env.2.1 _ hlink) hy hlen (va_recv C.K hw.1 hci (q0 := i) (by rw [xWL_get hi, he])) (fun U hU hW => ⟨rfl, C.at hS hU hW, va_K.moved hW.alike C.K, by rw [hU]; exact hw⟩) (g := F0 m pc ls st) rfl hl.1 hstk (lv_room hcat) hdg hf
  exact h
end XK1
end
section
section XTH
variable {p : Program} {l : Launch} {e : Env} {R : Room} {s : State} {m : MethodId} {args : Array Value} {below : List Frame} {meth : Method} {c : Code} {nL : Nat} {D : va_G} {cl : List vw_C} {tys : List (ClassId × FieldType)} {base : Nat} {g : Nat → Nat} {cc : ByteArray} {own : String} {n pc : Nat} {E : Nat → va_E} {lv : List (Nat × Value)} {st : List Value} {post : xR → (Nat → va_E) → Prop} {kT nT : Nat}
/-- the same heap, slot by slot -/
theorem x_sameHeap {s' U : State} {v : Vm} {k z : Nat} (h : s'.sameButNew ({ U with vm := v } : State) [] k z) : ∀ q : Nat, q < s'.heap.size → U.heap[q]? = s'.heap[q]? := by
  intro q hq
  obtain ⟨-, -, -, -, -, h6⟩ := h
  obtain ⟨cell, hc⟩ : ∃ cell, s'.heap[q]? = some cell := ⟨_, Array.getElem?_eq_getElem hq⟩
  obtain ⟨c', h1, h2, h3, h4⟩ := h6 q cell hc
  have hsl : c'.slots = cell.slots := by
    apply Array.ext_getElem?
    intro i
    exact h4 i (fun hm => by cases hm)
  have he : c' = cell := by rw [h2, hsl]
  rw [hc]
  rw [he] at h1
  exact h1
/-- new X("..") and athrow -/
theorem x_throw {X tx : String} {names : List String} {ix is ic : Nat} (C : xC p l e s m meth c cc nL own args D cl tys base) (hne : c.exceptionTable.isEmpty = true)
    (hd0 : decode cc pc = .ok (.new ix, 3)) (hd3 : decode cc (pc + 3) = .ok (.dup, 1)) (hd4 : decode cc (pc + 4) = .ok (.ldc is, 2)) (hd6 : decode cc (pc + 6) = .ok (.invokespecial ic, 3)) (hd9 : decode cc (pc + 9) = .ok (.athrow, 1))
    (hcl : Cond.classLink own ix X ∈ xT) (hinst : Cond.instantiable X 6 ∈ xT) (hini : Cond.initialized X ∈ xT) (hstr : (own, is, tx) ∈ xStr) (hX : Bundle.fit X = true) (hnames : ∀ n ∈ names, Bundle.fit n = true)
    (hats : ∀ a ∈ Bundle.ownAtoms own ic X names, a ∈ xT ∨ a ∈ xN ∨ a ∈ xStatics) (hRf : names.length + 3 < R.frames) (hRl : ((Value.ref 0 :: st).map fun v => v.category).sum + (13 * (names.length + 1) + 42) ≤ R.locals) (hRc : 1 ≤ R.cells) (hRs : 6 ≤ R.slots) (hkT : 1 ≤ kT) (hnT : 6 ≤ nT)
    (hp : post (.inr X) E) : xG p l e R s m args below meth c (xMQ below (xQc D cl base g n post) args s 0 0 kT nT (fun q => base ≤ q)) nL D cl base g n E 0 0 pc lv st := by
  intro H locs ls hw hS hl T hT X0
  have X' := x_rebase X0 (Nat.zero_le _) (Nat.zero_le _)
  generalize hs' : T.setFrames (.invoking m args :: below) = s' at X'
  have hvm : s'.vm = T.vm := by rw [← hs']; rfl
  have hheap : s'.heap = H := by rw [← hs']; exact hT
  have hW : s.WarmedH s'.vm := by rw [hvm]; exact X0.warmed
  have hE : xEnv base s' s'.heap := C.at hS hheap hW
  have hown' : s'.vm.findClass own = some m.cls := by rw [hW.alike.findClass]; exact C.ow
  obtain ⟨sa, hsa⟩ := hE.2.2.1 _ hstr
  obtain ⟨cX, hcX⟩ : ∃ cX, s'.vm.findClass X = some cX := by
    obtain ⟨cX, -, h, -⟩ := Cond.instantiable_spec (hE.words (args := args) _ hinst)
    exact ⟨cX, h⟩
  have hatoms : ∀ a ∈ Bundle.ownAtoms own ic X names, a.before args s' = true := by
    intro a ha
    rcases hats a ha with h | h | h
    · exact hE.words a h
    · exact va_Nw.use (xIsN_tab (List.mem_filter.mp h).2) (hE.2.1 a h)
    · exact xStatics_ok hE a h
  have hrl : (Value.ref 0 :: st).map (fun v => v.category) = (Value.ref H.size :: st).map (fun v => v.category) := rfl
  have K : W p l e ({ R with cells := R.cells - 0, slots := R.slots - 0 } : Room) s' m args below meth c H [] 0 0 (fun t => ∃ a : Addr, t.status = .running ∧ Ended t below (.threw a) ∧ s'.WarmedH t.vm ∧ s'.sameButNew ({ t with vm := s'.vm } : State) [] 1 6 ∧ ∃ ce, t.heap[a]? = some ce ∧ Bundle.OwnCell args s' X a (.ref sa) ce) (F0 m pc ls st) := by
    refine W.newcK C.1 C.2.1 hown' (hE.words _ hcl) (hE.words _ hinst) (hE.words _ hini) rfl hd0 (by show 0 + 1 ≤ R.cells - 0; omega) (by show 0 + 6 ≤ R.slots - 0; omega) hcX rfl fun H1 kC hkC e1 z1 o1 => ?_
    refine lv_dup (pc := pc + 3) (ls := ls) C.1 C.2.1 hd3 rfl ?_
    refine va_ldcS (pc := pc + 4) (ls := ls) C.1 C.2.1 hown' hsa hd4 ?_
    intro T2 hT2 X2
    obtain ⟨U, u1, u2, u3, u4, u5, ce, u6, u7⟩ := X2.ctorThrowS C.1 C.2.2.2.2.2.2.2 (own := own) (cls := X) (names := names) (ic := ic) hown' hX hnames hatoms (fun x hx => by cases hx) (a := H.size) hcX hkC (by rw [hT2]; exact e1) (by rw [hheap]; exact Nat.le_refl _) (msg := .ref sa) rfl
      (g := F0 m (pc + 6) ls (.ref sa :: .ref H.size :: .ref H.size :: st)) rfl (by rw [C.2.2.1]; exact hl.1) rfl rfl (rest := st) rfl (by rw [C.2.1]; exact hd6) (by rw [C.2.1]; exact hd9) (covers_of_empty hne _) hRf (by show 2 * 0 + _ + _ ≤ R.locals; rw [← hrl]; omega) C.locks
    exact ⟨U, u1, H.size, u2, u3, u4, u5, ce, u6, u7⟩
  obtain ⟨U, u1, a, u2, u3, u4, u5, ce, u6, u7⟩ := K T hT X'
  have hWU : s.WarmedH U.vm := State.WarmedH.trans hW u4
  have hsz : s'.heap.size ≤ U.heap.size := u5.2.1
  have hk : ∀ q : Nat, q < H.size → U.heap[q]? = H[q]? := fun q hq => by
    have := x_sameHeap u5 q (by rw [hheap]; exact hq)
    rw [this, hheap]
  have hsame : s.sameButNew ({ U with vm := s.vm } : State) locs 1 6 := by
    have h2 : (T.setVm s.vm).sameButNew ({ U with vm := s.vm } : State) [] 1 6 := by
      obtain ⟨a1, a2⟩ := u5
      subst hs'
      refine ⟨?_, a2⟩
      have a3 := congrArg (fun z : State => z.setVm s.vm) a1
      have a4 : ({ U with vm := s.vm } : State) = ({ (T.setFrames (.invoking m args :: below)).setFrames U.frames with heap := U.heap, slotsUsed := U.slotsUsed } : State).setVm s.vm := a3
      rw [State.setFrames_setFrames] at a4
      exact a4
    have h3 := X0.same.trans h2
    simpa using h3
  refine ⟨U, u1, .threw a, u2, u3, ⟨⟨.inr X, E, ⟨a, ce, rfl, u6, u7.vm, by rw [u4.alike.findClass]; exact u7.cls⟩, hp, hw.kept hk⟩, ?_⟩, locs, ⟨hWU, hsame.mono hkT hnT⟩, hS.2.2⟩
  refine ⟨Nat.le_trans hS.1 (by rw [← hheap]; exact hsz), fun q h1 h2 => ?_⟩
  rw [hk q (Nat.lt_of_lt_of_le h1 hS.1)]
  exact hS.2.1 q h1 h2
end XTH
end
section
section XEC
def up3 (σ : Nat → Nat → Nat → Nat) (t i j v : Nat) : Nat → Nat → Nat → Nat := fun x y z => if x = t ∧ y = i ∧ z = j then v else σ x y z
def up2 (w : Nat → Nat → Int32) (i j : Nat) (v : Int32) : Nat → Nat → Int32 := fun x y => if x = i ∧ y = j then v else w x y
def xty (a : Nat → ClassId) : List (ClassId × FieldType) := [(a 0, .int), (a 1, .object "ChunkStore$FileEntry"), (a 2, .object "ChunkStore$Chunk"), (a 3, .object "ChunkStore$Server"), (a 4, .object "ChunkStore$Kept"), (a 5, .double), (a 6, .boolean), (a 7, .long)]
def cc_cs (a : Nat → ClassId) (g : Nat → Nat) (σ : Nat → Nat → Nat → Nat) (w : Nat → Nat → Int32) (i : Nat) : va_E := .inr (0, [.ref (g (1)), .ref (g (18)), .ref (g (49)), .ref (g (70)), .int (nI (σ 0 0 0)), .double (dT (σ 1 0 0))])
def cc_arrF (a : Nat → ClassId) (g : Nat → Nat) (σ : Nat → Nat → Nat → Nat) (w : Nat → Nat → Int32) (i : Nat) : va_E := .inl (a 1, 8, .inr (.inr (.inr (.inr (fun j => some (g (2 + 2 * j)))))))
def cc_file (a : Nat → ClassId) (g : Nat → Nat) (σ : Nat → Nat → Nat → Nat) (w : Nat → Nat → Int32) (i : Nat) : va_E := .inr (2, [.ref (g (3 + 2 * i)), .int (nI (σ 3 i 0)), .int (nI (σ 2 i 0)), .double (dT (σ 5 i 0))])
def cc_row (a : Nat → ClassId) (g : Nat → Nat) (σ : Nat → Nat → Nat → Nat) (w : Nat → Nat → Int32) (i : Nat) : va_E := .inl (a 0, 3, .inl (fun j => nI (σ 4 i j)))
def cc_arrC (a : Nat → ClassId) (g : Nat → Nat) (σ : Nat → Nat → Nat → Nat) (w : Nat → Nat → Int32) (i : Nat) : va_E := .inl (a 2, 30, .inr (.inr (.inr (.inr (fun j => some (g (19 + j)))))))
def cc_chunk (a : Nat → ClassId) (g : Nat → Nat) (σ : Nat → Nat → Nat → Nat) (w : Nat → Nat → Int32) (i : Nat) : va_E := .inr (1, [.int (nI (σ 6 i 0)), .int (nI (σ 7 i 0)), .int (nI (σ 8 i 0)), .double (dT (σ 9 i 0))])
def cc_arrS (a : Nat → ClassId) (g : Nat → Nat) (σ : Nat → Nat → Nat → Nat) (w : Nat → Nat → Int32) (i : Nat) : va_E := .inl (a 3, 5, .inr (.inr (.inr (.inr (fun j => some (g (50 + 4 * j)))))))
def cc_server (a : Nat → ClassId) (g : Nat → Nat) (σ : Nat → Nat → Nat → Nat) (w : Nat → Nat → Int32) (i : Nat) : va_E := .inr (4, [.ref (g (51 + 4 * i)), .ref (g (52 + 4 * i)), .ref (g (53 + 4 * i)), .int (nI (σ 10 i 0)), .int (nI (σ 11 i 0))])
def cc_vers (a : Nat → ClassId) (g : Nat → Nat) (σ : Nat → Nat → Nat → Nat) (w : Nat → Nat → Int32) (i : Nat) : va_E := .inl (a 0, 30, .inl (fun j => nI (σ 12 i j)))
def cc_used (a : Nat → ClassId) (g : Nat → Nat) (σ : Nat → Nat → Nat → Nat) (w : Nat → Nat → Int32) (i : Nat) : va_E := .inl (a 0, 30, .inl (fun j => nI (σ 13 i j)))
def cc_wrds (a : Nat → ClassId) (g : Nat → Nat) (σ : Nat → Nat → Nat → Nat) (w : Nat → Nat → Int32) (i : Nat) : va_E := .inl (a 0, 120, .inl (fun j => w i j))
def cc_arrK (a : Nat → ClassId) (g : Nat → Nat) (σ : Nat → Nat → Nat → Nat) (w : Nat → Nat → Int32) (i : Nat) : va_E := .inl (a 4, 72, .inr (.inr (.inr (.inr (fun j => some (g (71 + j)))))))
def cc_kept (a : Nat → ClassId) (g : Nat → Nat) (σ : Nat → Nat → Nat → Nat) (w : Nat → Nat → Int32) (i : Nat) : va_E := .inr (3, [.int (nI (σ 14 i 0)), .int (nI (σ 15 i 0)), .int (nI (σ 16 i 0)), .double (dT (σ 17 i 0))])
def EC (a : Nat → ClassId) (g : Nat → Nat) (σ : Nat → Nat → Nat → Nat) (w : Nat → Nat → Int32) (k : Nat) : va_E :=
  if k = 0 then cc_cs a g σ w 0 else if k = 1 then cc_arrF a g σ w 0 else if k < 18 then (if k % 2 = 0 then cc_file a g σ w ((k - 2) / 2) else cc_row a g σ w ((k - 3) / 2))
  else if k = 18 then cc_arrC a g σ w 0 else if k < 49 then cc_chunk a g σ w (k - 19) else if k = 49 then cc_arrS a g σ w 0
  else if k < 70 then (if (k - 50) % 4 = 0 then cc_server a g σ w ((k - 50) / 4) else if (k - 50) % 4 = 1 then cc_vers a g σ w ((k - 51) / 4) else if (k - 50) % 4 = 2 then cc_used a g σ w ((k - 52) / 4) else cc_wrds a g σ w ((k - 53) / 4))
  else if k = 70 then cc_arrK a g σ w 0 else cc_kept a g σ w (k - 71)
def EL (a : Nat → ClassId) (g : Nat → Nat) (σ : Nat → Nat → Nat → Nat) (w : Nat → Nat → Int32) (Y : Nat → va_E) (k : Nat) : va_E := if k < 143 then EC a g σ w k else Y k
theorem EL_cs {a : Nat → ClassId} {g : Nat → Nat} {σ : Nat → Nat → Nat → Nat} {w : Nat → Nat → Int32} {Y : Nat → va_E} : EL a g σ w Y (0) = .inr (0, [.ref (g (1)), .ref (g (18)), .ref (g (49)), .ref (g (70)), .int (nI (σ 0 0 0)), .double (dT (σ 1 0 0))]) := rfl
theorem EC_cs {a : Nat → ClassId} {g : Nat → Nat} {σ : Nat → Nat → Nat → Nat} {w : Nat → Nat → Int32} {Y : Nat → va_E} : EC a g σ w (0) = cc_cs a g σ w 0 := rfl
theorem EL_arrF {a : Nat → ClassId} {g : Nat → Nat} {σ : Nat → Nat → Nat → Nat} {w : Nat → Nat → Int32} {Y : Nat → va_E} : EL a g σ w Y (1) = .inl (a 1, 8, .inr (.inr (.inr (.inr (fun j => some (g (2 + 2 * j))))))) := rfl
theorem EC_arrF {a : Nat → ClassId} {g : Nat → Nat} {σ : Nat → Nat → Nat → Nat} {w : Nat → Nat → Int32} {Y : Nat → va_E} : EC a g σ w (1) = cc_arrF a g σ w 0 := rfl
theorem EC_file {a : Nat → ClassId} {g : Nat → Nat} {σ : Nat → Nat → Nat → Nat} {w : Nat → Nat → Int32} {Y : Nat → va_E} {i : Nat} (hi : i < 8) : EC a g σ w (2 + 2 * i) = cc_file a g σ w i := by
  unfold EC
  rw [if_neg (by omega), if_neg (by omega), if_pos (by omega), if_pos (by omega)]
  congr 1
  all_goals omega
theorem EL_file {a : Nat → ClassId} {g : Nat → Nat} {σ : Nat → Nat → Nat → Nat} {w : Nat → Nat → Int32} {Y : Nat → va_E} {i : Nat} (hi : i < 8) : EL a g σ w Y (2 + 2 * i) = .inr (2, [.ref (g (3 + 2 * i)), .int (nI (σ 3 i 0)), .int (nI (σ 2 i 0)), .double (dT (σ 5 i 0))]) := by
  unfold EL
  rw [if_pos (by omega), EC_file (Y := Y) hi]; rfl
theorem EC_row {a : Nat → ClassId} {g : Nat → Nat} {σ : Nat → Nat → Nat → Nat} {w : Nat → Nat → Int32} {Y : Nat → va_E} {i : Nat} (hi : i < 8) : EC a g σ w (3 + 2 * i) = cc_row a g σ w i := by
  unfold EC
  rw [if_neg (by omega), if_neg (by omega), if_pos (by omega), if_neg (by omega)]
  congr 1
  all_goals omega
theorem EL_row {a : Nat → ClassId} {g : Nat → Nat} {σ : Nat → Nat → Nat → Nat} {w : Nat → Nat → Int32} {Y : Nat → va_E} {i : Nat} (hi : i < 8) : EL a g σ w Y (3 + 2 * i) = .inl (a 0, 3, .inl (fun j => nI (σ 4 i j))) := by
  unfold EL
  rw [if_pos (by omega), EC_row (Y := Y) hi]; rfl
theorem EL_arrC {a : Nat → ClassId} {g : Nat → Nat} {σ : Nat → Nat → Nat → Nat} {w : Nat → Nat → Int32} {Y : Nat → va_E} : EL a g σ w Y (18) = .inl (a 2, 30, .inr (.inr (.inr (.inr (fun j => some (g (19 + j))))))) := rfl
theorem EC_arrC {a : Nat → ClassId} {g : Nat → Nat} {σ : Nat → Nat → Nat → Nat} {w : Nat → Nat → Int32} {Y : Nat → va_E} : EC a g σ w (18) = cc_arrC a g σ w 0 := rfl
theorem EC_chunk {a : Nat → ClassId} {g : Nat → Nat} {σ : Nat → Nat → Nat → Nat} {w : Nat → Nat → Int32} {Y : Nat → va_E} {i : Nat} (hi : i < 30) : EC a g σ w (19 + i) = cc_chunk a g σ w i := by
  unfold EC
  rw [if_neg (by omega), if_neg (by omega), if_neg (by omega), if_neg (by omega), if_pos (by omega)]
  congr 1
  all_goals omega
theorem EL_chunk {a : Nat → ClassId} {g : Nat → Nat} {σ : Nat → Nat → Nat → Nat} {w : Nat → Nat → Int32} {Y : Nat → va_E} {i : Nat} (hi : i < 30) : EL a g σ w Y (19 + i) = .inr (1, [.int (nI (σ 6 i 0)), .int (nI (σ 7 i 0)), .int (nI (σ 8 i 0)), .double (dT (σ 9 i 0))]) := by
  unfold EL
  rw [if_pos (by omega), EC_chunk (Y := Y) hi]; rfl
theorem EL_arrS {a : Nat → ClassId} {g : Nat → Nat} {σ : Nat → Nat → Nat → Nat} {w : Nat → Nat → Int32} {Y : Nat → va_E} : EL a g σ w Y (49) = .inl (a 3, 5, .inr (.inr (.inr (.inr (fun j => some (g (50 + 4 * j))))))) := rfl
theorem EC_arrS {a : Nat → ClassId} {g : Nat → Nat} {σ : Nat → Nat → Nat → Nat} {w : Nat → Nat → Int32} {Y : Nat → va_E} : EC a g σ w (49) = cc_arrS a g σ w 0 := rfl
theorem EC_server {a : Nat → ClassId} {g : Nat → Nat} {σ : Nat → Nat → Nat → Nat} {w : Nat → Nat → Int32} {Y : Nat → va_E} {i : Nat} (hi : i < 5) : EC a g σ w (50 + 4 * i) = cc_server a g σ w i := by
  unfold EC
  rw [if_neg (by omega), if_neg (by omega), if_neg (by omega), if_neg (by omega), if_neg (by omega), if_neg (by omega), if_pos (by omega), if_pos (by omega)]
  congr 1
  all_goals omega
theorem EL_server {a : Nat → ClassId} {g : Nat → Nat} {σ : Nat → Nat → Nat → Nat} {w : Nat → Nat → Int32} {Y : Nat → va_E} {i : Nat} (hi : i < 5) : EL a g σ w Y (50 + 4 * i) = .inr (4, [.ref (g (51 + 4 * i)), .ref (g (52 + 4 * i)), .ref (g (53 + 4 * i)), .int (nI (σ 10 i 0)), .int (nI (σ 11 i 0))]) := by
  unfold EL
  rw [if_pos (by omega), EC_server (Y := Y) hi]; rfl
theorem EC_vers {a : Nat → ClassId} {g : Nat → Nat} {σ : Nat → Nat → Nat → Nat} {w : Nat → Nat → Int32} {Y : Nat → va_E} {i : Nat} (hi : i < 5) : EC a g σ w (51 + 4 * i) = cc_vers a g σ w i := by
  unfold EC
  rw [if_neg (by omega), if_neg (by omega), if_neg (by omega), if_neg (by omega), if_neg (by omega), if_neg (by omega), if_pos (by omega), if_neg (by omega), if_pos (by omega)]
  congr 1
  all_goals omega
theorem EL_vers {a : Nat → ClassId} {g : Nat → Nat} {σ : Nat → Nat → Nat → Nat} {w : Nat → Nat → Int32} {Y : Nat → va_E} {i : Nat} (hi : i < 5) : EL a g σ w Y (51 + 4 * i) = .inl (a 0, 30, .inl (fun j => nI (σ 12 i j))) := by
  unfold EL
  rw [if_pos (by omega), EC_vers (Y := Y) hi]; rfl
theorem EC_used {a : Nat → ClassId} {g : Nat → Nat} {σ : Nat → Nat → Nat → Nat} {w : Nat → Nat → Int32} {Y : Nat → va_E} {i : Nat} (hi : i < 5) : EC a g σ w (52 + 4 * i) = cc_used a g σ w i := by
  unfold EC
  rw [if_neg (by omega), if_neg (by omega), if_neg (by omega), if_neg (by omega), if_neg (by omega), if_neg (by omega), if_pos (by omega), if_neg (by omega), if_neg (by omega), if_pos (by omega)]
  congr 1
  all_goals omega
theorem EL_used {a : Nat → ClassId} {g : Nat → Nat} {σ : Nat → Nat → Nat → Nat} {w : Nat → Nat → Int32} {Y : Nat → va_E} {i : Nat} (hi : i < 5) : EL a g σ w Y (52 + 4 * i) = .inl (a 0, 30, .inl (fun j => nI (σ 13 i j))) := by
  unfold EL
  rw [if_pos (by omega), EC_used (Y := Y) hi]; rfl
theorem EC_wrds {a : Nat → ClassId} {g : Nat → Nat} {σ : Nat → Nat → Nat → Nat} {w : Nat → Nat → Int32} {Y : Nat → va_E} {i : Nat} (hi : i < 5) : EC a g σ w (53 + 4 * i) = cc_wrds a g σ w i := by
  unfold EC
  rw [if_neg (by omega), if_neg (by omega), if_neg (by omega), if_neg (by omega), if_neg (by omega), if_neg (by omega), if_pos (by omega), if_neg (by omega), if_neg (by omega), if_neg (by omega)]
  congr 1
  all_goals omega
theorem EL_wrds {a : Nat → ClassId} {g : Nat → Nat} {σ : Nat → Nat → Nat → Nat} {w : Nat → Nat → Int32} {Y : Nat → va_E} {i : Nat} (hi : i < 5) : EL a g σ w Y (53 + 4 * i) = .inl (a 0, 120, .inl (fun j => w i j)) := by
  unfold EL
  rw [if_pos (by omega), EC_wrds (Y := Y) hi]; rfl
theorem EL_arrK {a : Nat → ClassId} {g : Nat → Nat} {σ : Nat → Nat → Nat → Nat} {w : Nat → Nat → Int32} {Y : Nat → va_E} : EL a g σ w Y (70) = .inl (a 4, 72, .inr (.inr (.inr (.inr (fun j => some (g (71 + j))))))) := rfl
theorem EC_arrK {a : Nat → ClassId} {g : Nat → Nat} {σ : Nat → Nat → Nat → Nat} {w : Nat → Nat → Int32} {Y : Nat → va_E} : EC a g σ w (70) = cc_arrK a g σ w 0 := rfl
theorem EC_kept {a : Nat → ClassId} {g : Nat → Nat} {σ : Nat → Nat → Nat → Nat} {w : Nat → Nat → Int32} {Y : Nat → va_E} {i : Nat} (hi : i < 72) : EC a g σ w (71 + i) = cc_kept a g σ w i := by
  unfold EC
  rw [if_neg (by omega), if_neg (by omega), if_neg (by omega), if_neg (by omega), if_neg (by omega), if_neg (by omega), if_neg (by omega), if_neg (by omega)]
  congr 1
  all_goals omega
theorem EL_kept {a : Nat → ClassId} {g : Nat → Nat} {σ : Nat → Nat → Nat → Nat} {w : Nat → Nat → Int32} {Y : Nat → va_E} {i : Nat} (hi : i < 72) : EL a g σ w Y (71 + i) = .inr (3, [.int (nI (σ 14 i 0)), .int (nI (σ 15 i 0)), .int (nI (σ 16 i 0)), .double (dT (σ 17 i 0))]) := by
  unfold EL
  rw [if_pos (by omega), EC_kept (Y := Y) hi]; rfl
theorem EL_ext {a : Nat → ClassId} {g : Nat → Nat} {σ : Nat → Nat → Nat → Nat} {w : Nat → Nat → Int32} {Y : Nat → va_E} {σ' : Nat → Nat → Nat → Nat} {w' : Nat → Nat → Int32} {c : Nat} {e : va_E} (hc : c < 143) (h1 : EC a g σ' w' c = e) (h2 : ∀ k, k < 143 → k ≠ c → EC a g σ' w' k = EC a g σ w k) : va_up (EL a g σ w Y) c e = EL a g σ' w' Y := by
  funext k
  by_cases hk : k = c
  · subst hk
    rw [va_up_self]
    unfold EL
    rw [if_pos hc, h1]
  · rw [va_up_ne _ _ hk]
    unfold EL
    split
    · rename_i h; exact (h2 k h hk).symm
    · rfl
theorem EC_congr {a : Nat → ClassId} {g : Nat → Nat} {σ σ' : Nat → Nat → Nat → Nat} {w w' : Nat → Nat → Int32} {k : Nat} (hk : k < 143) (h_cs : k = 0 → cc_cs a g σ' w' 0 = cc_cs a g σ w 0) (h_file : ∀ i, i < 8 → k = 2 + 2 * i → cc_file a g σ' w' i = cc_file a g σ w i) (h_row : ∀ i, i < 8 → k = 3 + 2 * i → cc_row a g σ' w' i = cc_row a g σ w i) (h_chunk : ∀ i, i < 30 → k = 19 + i → cc_chunk a g σ' w' i = cc_chunk a g σ w i) (h_server : ∀ i, i < 5 → k = 50 + 4 * i → cc_server a g σ' w' i = cc_server a g σ w i) (h_vers : ∀ i, i < 5 → k = 51 + 4 * i → cc_vers a g σ' w' i = cc_vers a g σ w i) (h_used : ∀ i, i < 5 → k = 52 + 4 * i → cc_used a g σ' w' i = cc_used a g σ w i) (h_wrds : ∀ i, i < 5 → k = 53 + 4 * i → cc_wrds a g σ' w' i = cc_wrds a g σ w i) (h_kept : ∀ i, i < 72 → k = 71 + i → cc_kept a g σ' w' i = cc_kept a g σ w i) : EC a g σ' w' k = EC a g σ w k := by
  unfold EC
  by_cases c1 : k = 0
  · rw [if_pos c1, if_pos c1]; exact h_cs c1
  rw [if_neg c1, if_neg c1]
  by_cases c2 : k = 1
  · rw [if_pos c2, if_pos c2]; rfl
  rw [if_neg c2, if_neg c2]
  by_cases c3 : k < 18
  · rw [if_pos c3, if_pos c3]
    by_cases c4 : k % 2 = 0
    · rw [if_pos c4, if_pos c4]; exact h_file _ (by omega) (by omega)
    · rw [if_neg c4, if_neg c4]; exact h_row _ (by omega) (by omega)
  rw [if_neg c3, if_neg c3]
  by_cases c5 : k = 18
  · rw [if_pos c5, if_pos c5]; rfl
  rw [if_neg c5, if_neg c5]
  by_cases c6 : k < 49
  · rw [if_pos c6, if_pos c6]; exact h_chunk _ (by omega) (by omega)
  rw [if_neg c6, if_neg c6]
  by_cases c7 : k = 49
  · rw [if_pos c7, if_pos c7]; rfl
  rw [if_neg c7, if_neg c7]
  by_cases c8 : k < 70
  · rw [if_pos c8, if_pos c8]
    by_cases d1 : (k - 50) % 4 = 0
    · rw [if_pos d1, if_pos d1]; exact h_server _ (by omega) (by omega)
    rw [if_neg d1, if_neg d1]
    by_cases d2 : (k - 50) % 4 = 1
    · rw [if_pos d2, if_pos d2]; exact h_vers _ (by omega) (by omega)
    rw [if_neg d2, if_neg d2]
    by_cases d3 : (k - 50) % 4 = 2
    · rw [if_pos d3, if_pos d3]; exact h_used _ (by omega) (by omega)
    · rw [if_neg d3, if_neg d3]; exact h_wrds _ (by omega) (by omega)
  rw [if_neg c8, if_neg c8]
  by_cases c9 : k = 70
  · rw [if_pos c9, if_pos c9]; rfl
  · rw [if_neg c9, if_neg c9]; exact h_kept _ (by omega) (by omega)
theorem EC_o0 {a : Nat → ClassId} {g : Nat → Nat} {σ : Nat → Nat → Nat → Nat} {w : Nat → Nat → Int32} {i v k : Nat} (hk : k < 143) (hne : k ≠ 0) : EC a g (up3 σ 0 0 0 v) w k = EC a g σ w k := by
  exact EC_congr hk (fun h => absurd h hne) (fun _ _ _ => by simp [cc_file, up3]) (fun _ _ _ => by simp [cc_row, up3]) (fun _ _ _ => by simp [cc_chunk, up3]) (fun _ _ _ => by simp [cc_server, up3]) (fun _ _ _ => by simp [cc_vers, up3]) (fun _ _ _ => by simp [cc_used, up3]) (fun _ _ _ => rfl) (fun _ _ _ => by simp [cc_kept, up3])
theorem EL_s0 {a : Nat → ClassId} {g : Nat → Nat} {σ : Nat → Nat → Nat → Nat} {w : Nat → Nat → Int32} {Y : Nat → va_E} {v : Nat} : va_up (EL a g σ w Y) (0) (.inr (0, [.ref (g (1)), .ref (g (18)), .ref (g (49)), .ref (g (70)), .int (nI v), .double (dT (σ 1 0 0))])) = EL a g (up3 σ 0 0 0 v) w Y := by
  refine EL_ext (by omega) ?_ (fun k hk hne => EC_o0 (i := 0) hk hne)
  rw [EC_cs (Y := Y)]
  simp [cc_cs, up3]
theorem EC_o1 {a : Nat → ClassId} {g : Nat → Nat} {σ : Nat → Nat → Nat → Nat} {w : Nat → Nat → Int32} {i v k : Nat} (hk : k < 143) (hne : k ≠ 0) : EC a g (up3 σ 1 0 0 v) w k = EC a g σ w k := by
  exact EC_congr hk (fun h => absurd h hne) (fun _ _ _ => by simp [cc_file, up3]) (fun _ _ _ => by simp [cc_row, up3]) (fun _ _ _ => by simp [cc_chunk, up3]) (fun _ _ _ => by simp [cc_server, up3]) (fun _ _ _ => by simp [cc_vers, up3]) (fun _ _ _ => by simp [cc_used, up3]) (fun _ _ _ => rfl) (fun _ _ _ => by simp [cc_kept, up3])
theorem EL_s1 {a : Nat → ClassId} {g : Nat → Nat} {σ : Nat → Nat → Nat → Nat} {w : Nat → Nat → Int32} {Y : Nat → va_E} {v : Nat} : va_up (EL a g σ w Y) (0) (.inr (0, [.ref (g (1)), .ref (g (18)), .ref (g (49)), .ref (g (70)), .int (nI (σ 0 0 0)), .double (dT v)])) = EL a g (up3 σ 1 0 0 v) w Y := by
  refine EL_ext (by omega) ?_ (fun k hk hne => EC_o1 (i := 0) hk hne)
  rw [EC_cs (Y := Y)]
  simp [cc_cs, up3]
theorem EC_o3 {a : Nat → ClassId} {g : Nat → Nat} {σ : Nat → Nat → Nat → Nat} {w : Nat → Nat → Int32} {i v k : Nat} (hk : k < 143) (hne : k ≠ 2 + 2 * i) : EC a g (up3 σ 3 i 0 v) w k = EC a g σ w k := by
  exact EC_congr hk (fun _ => by simp [cc_cs, up3]) (fun q hq h => by have hx : q ≠ i := fun z => hne (by rw [h, z]); simp [cc_file, up3, hx]) (fun _ _ _ => by simp [cc_row, up3]) (fun _ _ _ => by simp [cc_chunk, up3]) (fun _ _ _ => by simp [cc_server, up3]) (fun _ _ _ => by simp [cc_vers, up3]) (fun _ _ _ => by simp [cc_used, up3]) (fun _ _ _ => rfl) (fun _ _ _ => by simp [cc_kept, up3])
theorem EL_s3 {a : Nat → ClassId} {g : Nat → Nat} {σ : Nat → Nat → Nat → Nat} {w : Nat → Nat → Int32} {Y : Nat → va_E} {i : Nat} (hi : i < 8) {v : Nat} : va_up (EL a g σ w Y) (2 + 2 * i) (.inr (2, [.ref (g (3 + 2 * i)), .int (nI v), .int (nI (σ 2 i 0)), .double (dT (σ 5 i 0))])) = EL a g (up3 σ 3 i 0 v) w Y := by
  refine EL_ext (by omega) ?_ (fun k hk hne => EC_o3 hk hne)
  rw [EC_file (Y := Y) hi]
  simp [cc_file, up3]
theorem EC_o2 {a : Nat → ClassId} {g : Nat → Nat} {σ : Nat → Nat → Nat → Nat} {w : Nat → Nat → Int32} {i v k : Nat} (hk : k < 143) (hne : k ≠ 2 + 2 * i) : EC a g (up3 σ 2 i 0 v) w k = EC a g σ w k := by
  exact EC_congr hk (fun _ => by simp [cc_cs, up3]) (fun q hq h => by have hx : q ≠ i := fun z => hne (by rw [h, z]); simp [cc_file, up3, hx]) (fun _ _ _ => by simp [cc_row, up3]) (fun _ _ _ => by simp [cc_chunk, up3]) (fun _ _ _ => by simp [cc_server, up3]) (fun _ _ _ => by simp [cc_vers, up3]) (fun _ _ _ => by simp [cc_used, up3]) (fun _ _ _ => rfl) (fun _ _ _ => by simp [cc_kept, up3])
theorem EL_s2 {a : Nat → ClassId} {g : Nat → Nat} {σ : Nat → Nat → Nat → Nat} {w : Nat → Nat → Int32} {Y : Nat → va_E} {i : Nat} (hi : i < 8) {v : Nat} : va_up (EL a g σ w Y) (2 + 2 * i) (.inr (2, [.ref (g (3 + 2 * i)), .int (nI (σ 3 i 0)), .int (nI v), .double (dT (σ 5 i 0))])) = EL a g (up3 σ 2 i 0 v) w Y := by
  refine EL_ext (by omega) ?_ (fun k hk hne => EC_o2 hk hne)
  rw [EC_file (Y := Y) hi]
  simp [cc_file, up3]
theorem EC_o5 {a : Nat → ClassId} {g : Nat → Nat} {σ : Nat → Nat → Nat → Nat} {w : Nat → Nat → Int32} {i v k : Nat} (hk : k < 143) (hne : k ≠ 2 + 2 * i) : EC a g (up3 σ 5 i 0 v) w k = EC a g σ w k := by
  exact EC_congr hk (fun _ => by simp [cc_cs, up3]) (fun q hq h => by have hx : q ≠ i := fun z => hne (by rw [h, z]); simp [cc_file, up3, hx]) (fun _ _ _ => by simp [cc_row, up3]) (fun _ _ _ => by simp [cc_chunk, up3]) (fun _ _ _ => by simp [cc_server, up3]) (fun _ _ _ => by simp [cc_vers, up3]) (fun _ _ _ => by simp [cc_used, up3]) (fun _ _ _ => rfl) (fun _ _ _ => by simp [cc_kept, up3])
theorem EL_s5 {a : Nat → ClassId} {g : Nat → Nat} {σ : Nat → Nat → Nat → Nat} {w : Nat → Nat → Int32} {Y : Nat → va_E} {i : Nat} (hi : i < 8) {v : Nat} : va_up (EL a g σ w Y) (2 + 2 * i) (.inr (2, [.ref (g (3 + 2 * i)), .int (nI (σ 3 i 0)), .int (nI (σ 2 i 0)), .double (dT v)])) = EL a g (up3 σ 5 i 0 v) w Y := by
  refine EL_ext (by omega) ?_ (fun k hk hne => EC_o5 hk hne)
  rw [EC_file (Y := Y) hi]
  simp [cc_file, up3]
theorem EC_o4 {a : Nat → ClassId} {g : Nat → Nat} {σ : Nat → Nat → Nat → Nat} {w : Nat → Nat → Int32} {i j v k : Nat} (hk : k < 143) (hne : k ≠ 3 + 2 * i) : EC a g (up3 σ 4 i j v) w k = EC a g σ w k := by
  exact EC_congr hk (fun _ => by simp [cc_cs, up3]) (fun _ _ _ => by simp [cc_file, up3]) (fun q hq h => by have hx : q ≠ i := fun z => hne (by rw [h, z]); simp [cc_row, up3, hx]) (fun _ _ _ => by simp [cc_chunk, up3]) (fun _ _ _ => by simp [cc_server, up3]) (fun _ _ _ => by simp [cc_vers, up3]) (fun _ _ _ => by simp [cc_used, up3]) (fun _ _ _ => rfl) (fun _ _ _ => by simp [cc_kept, up3])
theorem EL_s4 {a : Nat → ClassId} {g : Nat → Nat} {σ : Nat → Nat → Nat → Nat} {w : Nat → Nat → Int32} {Y : Nat → va_E} {i : Nat} (hi : i < 8) {j v : Nat} : va_up (EL a g σ w Y) (3 + 2 * i) (.inl (a 0, 3, .inl (upd (fun j => nI (σ 4 i j)) j (nI v)))) = EL a g (up3 σ 4 i j v) w Y := by
  refine EL_ext (by omega) ?_ (fun k hk hne => EC_o4 hk hne)
  rw [EC_row (Y := Y) hi]
  unfold cc_row
  congr 4
  funext q
  simp only [upd, up3]
  by_cases hq : q = j <;> simp [hq]
theorem EC_o6 {a : Nat → ClassId} {g : Nat → Nat} {σ : Nat → Nat → Nat → Nat} {w : Nat → Nat → Int32} {i v k : Nat} (hk : k < 143) (hne : k ≠ 19 + i) : EC a g (up3 σ 6 i 0 v) w k = EC a g σ w k := by
  exact EC_congr hk (fun _ => by simp [cc_cs, up3]) (fun _ _ _ => by simp [cc_file, up3]) (fun _ _ _ => by simp [cc_row, up3]) (fun q hq h => by have hx : q ≠ i := fun z => hne (by rw [h, z]); simp [cc_chunk, up3, hx]) (fun _ _ _ => by simp [cc_server, up3]) (fun _ _ _ => by simp [cc_vers, up3]) (fun _ _ _ => by simp [cc_used, up3]) (fun _ _ _ => rfl) (fun _ _ _ => by simp [cc_kept, up3])
theorem EL_s6 {a : Nat → ClassId} {g : Nat → Nat} {σ : Nat → Nat → Nat → Nat} {w : Nat → Nat → Int32} {Y : Nat → va_E} {i : Nat} (hi : i < 30) {v : Nat} : va_up (EL a g σ w Y) (19 + i) (.inr (1, [.int (nI v), .int (nI (σ 7 i 0)), .int (nI (σ 8 i 0)), .double (dT (σ 9 i 0))])) = EL a g (up3 σ 6 i 0 v) w Y := by
  refine EL_ext (by omega) ?_ (fun k hk hne => EC_o6 hk hne)
  rw [EC_chunk (Y := Y) hi]
  simp [cc_chunk, up3]
theorem EC_o7 {a : Nat → ClassId} {g : Nat → Nat} {σ : Nat → Nat → Nat → Nat} {w : Nat → Nat → Int32} {i v k : Nat} (hk : k < 143) (hne : k ≠ 19 + i) : EC a g (up3 σ 7 i 0 v) w k = EC a g σ w k := by
  exact EC_congr hk (fun _ => by simp [cc_cs, up3]) (fun _ _ _ => by simp [cc_file, up3]) (fun _ _ _ => by simp [cc_row, up3]) (fun q hq h => by have hx : q ≠ i := fun z => hne (by rw [h, z]); simp [cc_chunk, up3, hx]) (fun _ _ _ => by simp [cc_server, up3]) (fun _ _ _ => by simp [cc_vers, up3]) (fun _ _ _ => by simp [cc_used, up3]) (fun _ _ _ => rfl) (fun _ _ _ => by simp [cc_kept, up3])
theorem EL_s7 {a : Nat → ClassId} {g : Nat → Nat} {σ : Nat → Nat → Nat → Nat} {w : Nat → Nat → Int32} {Y : Nat → va_E} {i : Nat} (hi : i < 30) {v : Nat} : va_up (EL a g σ w Y) (19 + i) (.inr (1, [.int (nI (σ 6 i 0)), .int (nI v), .int (nI (σ 8 i 0)), .double (dT (σ 9 i 0))])) = EL a g (up3 σ 7 i 0 v) w Y := by
  refine EL_ext (by omega) ?_ (fun k hk hne => EC_o7 hk hne)
  rw [EC_chunk (Y := Y) hi]
  simp [cc_chunk, up3]
theorem EC_o8 {a : Nat → ClassId} {g : Nat → Nat} {σ : Nat → Nat → Nat → Nat} {w : Nat → Nat → Int32} {i v k : Nat} (hk : k < 143) (hne : k ≠ 19 + i) : EC a g (up3 σ 8 i 0 v) w k = EC a g σ w k := by
  exact EC_congr hk (fun _ => by simp [cc_cs, up3]) (fun _ _ _ => by simp [cc_file, up3]) (fun _ _ _ => by simp [cc_row, up3]) (fun q hq h => by have hx : q ≠ i := fun z => hne (by rw [h, z]); simp [cc_chunk, up3, hx]) (fun _ _ _ => by simp [cc_server, up3]) (fun _ _ _ => by simp [cc_vers, up3]) (fun _ _ _ => by simp [cc_used, up3]) (fun _ _ _ => rfl) (fun _ _ _ => by simp [cc_kept, up3])
theorem EL_s8 {a : Nat → ClassId} {g : Nat → Nat} {σ : Nat → Nat → Nat → Nat} {w : Nat → Nat → Int32} {Y : Nat → va_E} {i : Nat} (hi : i < 30) {v : Nat} : va_up (EL a g σ w Y) (19 + i) (.inr (1, [.int (nI (σ 6 i 0)), .int (nI (σ 7 i 0)), .int (nI v), .double (dT (σ 9 i 0))])) = EL a g (up3 σ 8 i 0 v) w Y := by
  refine EL_ext (by omega) ?_ (fun k hk hne => EC_o8 hk hne)
  rw [EC_chunk (Y := Y) hi]
  simp [cc_chunk, up3]
theorem EC_o9 {a : Nat → ClassId} {g : Nat → Nat} {σ : Nat → Nat → Nat → Nat} {w : Nat → Nat → Int32} {i v k : Nat} (hk : k < 143) (hne : k ≠ 19 + i) : EC a g (up3 σ 9 i 0 v) w k = EC a g σ w k := by
  exact EC_congr hk (fun _ => by simp [cc_cs, up3]) (fun _ _ _ => by simp [cc_file, up3]) (fun _ _ _ => by simp [cc_row, up3]) (fun q hq h => by have hx : q ≠ i := fun z => hne (by rw [h, z]); simp [cc_chunk, up3, hx]) (fun _ _ _ => by simp [cc_server, up3]) (fun _ _ _ => by simp [cc_vers, up3]) (fun _ _ _ => by simp [cc_used, up3]) (fun _ _ _ => rfl) (fun _ _ _ => by simp [cc_kept, up3])
theorem EL_s9 {a : Nat → ClassId} {g : Nat → Nat} {σ : Nat → Nat → Nat → Nat} {w : Nat → Nat → Int32} {Y : Nat → va_E} {i : Nat} (hi : i < 30) {v : Nat} : va_up (EL a g σ w Y) (19 + i) (.inr (1, [.int (nI (σ 6 i 0)), .int (nI (σ 7 i 0)), .int (nI (σ 8 i 0)), .double (dT v)])) = EL a g (up3 σ 9 i 0 v) w Y := by
  refine EL_ext (by omega) ?_ (fun k hk hne => EC_o9 hk hne)
  rw [EC_chunk (Y := Y) hi]
  simp [cc_chunk, up3]
theorem EC_o10 {a : Nat → ClassId} {g : Nat → Nat} {σ : Nat → Nat → Nat → Nat} {w : Nat → Nat → Int32} {i v k : Nat} (hk : k < 143) (hne : k ≠ 50 + 4 * i) : EC a g (up3 σ 10 i 0 v) w k = EC a g σ w k := by
  exact EC_congr hk (fun _ => by simp [cc_cs, up3]) (fun _ _ _ => by simp [cc_file, up3]) (fun _ _ _ => by simp [cc_row, up3]) (fun _ _ _ => by simp [cc_chunk, up3]) (fun q hq h => by have hx : q ≠ i := fun z => hne (by rw [h, z]); simp [cc_server, up3, hx]) (fun _ _ _ => by simp [cc_vers, up3]) (fun _ _ _ => by simp [cc_used, up3]) (fun _ _ _ => rfl) (fun _ _ _ => by simp [cc_kept, up3])
theorem EL_s10 {a : Nat → ClassId} {g : Nat → Nat} {σ : Nat → Nat → Nat → Nat} {w : Nat → Nat → Int32} {Y : Nat → va_E} {i : Nat} (hi : i < 5) {v : Nat} : va_up (EL a g σ w Y) (50 + 4 * i) (.inr (4, [.ref (g (51 + 4 * i)), .ref (g (52 + 4 * i)), .ref (g (53 + 4 * i)), .int (nI v), .int (nI (σ 11 i 0))])) = EL a g (up3 σ 10 i 0 v) w Y := by
  refine EL_ext (by omega) ?_ (fun k hk hne => EC_o10 hk hne)
  rw [EC_server (Y := Y) hi]
  simp [cc_server, up3]
theorem EC_o11 {a : Nat → ClassId} {g : Nat → Nat} {σ : Nat → Nat → Nat → Nat} {w : Nat → Nat → Int32} {i v k : Nat} (hk : k < 143) (hne : k ≠ 50 + 4 * i) : EC a g (up3 σ 11 i 0 v) w k = EC a g σ w k := by
  exact EC_congr hk (fun _ => by simp [cc_cs, up3]) (fun _ _ _ => by simp [cc_file, up3]) (fun _ _ _ => by simp [cc_row, up3]) (fun _ _ _ => by simp [cc_chunk, up3]) (fun q hq h => by have hx : q ≠ i := fun z => hne (by rw [h, z]); simp [cc_server, up3, hx]) (fun _ _ _ => by simp [cc_vers, up3]) (fun _ _ _ => by simp [cc_used, up3]) (fun _ _ _ => rfl) (fun _ _ _ => by simp [cc_kept, up3])
theorem EL_s11 {a : Nat → ClassId} {g : Nat → Nat} {σ : Nat → Nat → Nat → Nat} {w : Nat → Nat → Int32} {Y : Nat → va_E} {i : Nat} (hi : i < 5) {v : Nat} : va_up (EL a g σ w Y) (50 + 4 * i) (.inr (4, [.ref (g (51 + 4 * i)), .ref (g (52 + 4 * i)), .ref (g (53 + 4 * i)), .int (nI (σ 10 i 0)), .int (nI v)])) = EL a g (up3 σ 11 i 0 v) w Y := by
  refine EL_ext (by omega) ?_ (fun k hk hne => EC_o11 hk hne)
  rw [EC_server (Y := Y) hi]
  simp [cc_server, up3]
theorem EC_o12 {a : Nat → ClassId} {g : Nat → Nat} {σ : Nat → Nat → Nat → Nat} {w : Nat → Nat → Int32} {i j v k : Nat} (hk : k < 143) (hne : k ≠ 51 + 4 * i) : EC a g (up3 σ 12 i j v) w k = EC a g σ w k := by
  exact EC_congr hk (fun _ => by simp [cc_cs, up3]) (fun _ _ _ => by simp [cc_file, up3]) (fun _ _ _ => by simp [cc_row, up3]) (fun _ _ _ => by simp [cc_chunk, up3]) (fun _ _ _ => by simp [cc_server, up3]) (fun q hq h => by have hx : q ≠ i := fun z => hne (by rw [h, z]); simp [cc_vers, up3, hx]) (fun _ _ _ => by simp [cc_used, up3]) (fun _ _ _ => rfl) (fun _ _ _ => by simp [cc_kept, up3])
theorem EL_s12 {a : Nat → ClassId} {g : Nat → Nat} {σ : Nat → Nat → Nat → Nat} {w : Nat → Nat → Int32} {Y : Nat → va_E} {i : Nat} (hi : i < 5) {j v : Nat} : va_up (EL a g σ w Y) (51 + 4 * i) (.inl (a 0, 30, .inl (upd (fun j => nI (σ 12 i j)) j (nI v)))) = EL a g (up3 σ 12 i j v) w Y := by
  refine EL_ext (by omega) ?_ (fun k hk hne => EC_o12 hk hne)
  rw [EC_vers (Y := Y) hi]
  unfold cc_vers
  congr 4
  funext q
  simp only [upd, up3]
  by_cases hq : q = j <;> simp [hq]
theorem EC_o13 {a : Nat → ClassId} {g : Nat → Nat} {σ : Nat → Nat → Nat → Nat} {w : Nat → Nat → Int32} {i j v k : Nat} (hk : k < 143) (hne : k ≠ 52 + 4 * i) : EC a g (up3 σ 13 i j v) w k = EC a g σ w k := by
  exact EC_congr hk (fun _ => by simp [cc_cs, up3]) (fun _ _ _ => by simp [cc_file, up3]) (fun _ _ _ => by simp [cc_row, up3]) (fun _ _ _ => by simp [cc_chunk, up3]) (fun _ _ _ => by simp [cc_server, up3]) (fun _ _ _ => by simp [cc_vers, up3]) (fun q hq h => by have hx : q ≠ i := fun z => hne (by rw [h, z]); simp [cc_used, up3, hx]) (fun _ _ _ => rfl) (fun _ _ _ => by simp [cc_kept, up3])
theorem EL_s13 {a : Nat → ClassId} {g : Nat → Nat} {σ : Nat → Nat → Nat → Nat} {w : Nat → Nat → Int32} {Y : Nat → va_E} {i : Nat} (hi : i < 5) {j v : Nat} : va_up (EL a g σ w Y) (52 + 4 * i) (.inl (a 0, 30, .inl (upd (fun j => nI (σ 13 i j)) j (nI v)))) = EL a g (up3 σ 13 i j v) w Y := by
  refine EL_ext (by omega) ?_ (fun k hk hne => EC_o13 hk hne)
  rw [EC_used (Y := Y) hi]
  unfold cc_used
  congr 4
  funext q
  simp only [upd, up3]
  by_cases hq : q = j <;> simp [hq]
theorem EC_ow {a : Nat → ClassId} {g : Nat → Nat} {σ : Nat → Nat → Nat → Nat} {w : Nat → Nat → Int32} {i j k : Nat} {v : Int32} (hk : k < 143) (hne : k ≠ 53 + 4 * i) : EC a g σ (up2 w i j v) k = EC a g σ w k := by
  exact EC_congr hk (fun _ => rfl) (fun _ _ _ => rfl) (fun _ _ _ => rfl) (fun _ _ _ => rfl) (fun _ _ _ => rfl) (fun _ _ _ => rfl) (fun _ _ _ => rfl) (fun q hq h => by have hx : q ≠ i := fun z => hne (by rw [h, z]); simp [cc_wrds, up2, hx]) (fun _ _ _ => rfl)
theorem EL_sw {a : Nat → ClassId} {g : Nat → Nat} {σ : Nat → Nat → Nat → Nat} {w : Nat → Nat → Int32} {Y : Nat → va_E} {i : Nat} (hi : i < 5) {j : Nat} {v : Int32} : va_up (EL a g σ w Y) (53 + 4 * i) (.inl (a 0, 120, .inl (upd (fun j => w i j) j v))) = EL a g σ (up2 w i j v) Y := by
  refine EL_ext (by omega) ?_ (fun k hk hne => EC_ow hk hne)
  rw [EC_wrds (Y := Y) hi]
  unfold cc_wrds
  congr 4
  funext q
  simp only [upd, up2]
  by_cases hq : q = j <;> simp [hq]
theorem EC_o14 {a : Nat → ClassId} {g : Nat → Nat} {σ : Nat → Nat → Nat → Nat} {w : Nat → Nat → Int32} {i v k : Nat} (hk : k < 143) (hne : k ≠ 71 + i) : EC a g (up3 σ 14 i 0 v) w k = EC a g σ w k := by
  exact EC_congr hk (fun _ => by simp [cc_cs, up3]) (fun _ _ _ => by simp [cc_file, up3]) (fun _ _ _ => by simp [cc_row, up3]) (fun _ _ _ => by simp [cc_chunk, up3]) (fun _ _ _ => by simp [cc_server, up3]) (fun _ _ _ => by simp [cc_vers, up3]) (fun _ _ _ => by simp [cc_used, up3]) (fun _ _ _ => rfl) (fun q hq h => by have hx : q ≠ i := fun z => hne (by rw [h, z]); simp [cc_kept, up3, hx])
theorem EL_s14 {a : Nat → ClassId} {g : Nat → Nat} {σ : Nat → Nat → Nat → Nat} {w : Nat → Nat → Int32} {Y : Nat → va_E} {i : Nat} (hi : i < 72) {v : Nat} : va_up (EL a g σ w Y) (71 + i) (.inr (3, [.int (nI v), .int (nI (σ 15 i 0)), .int (nI (σ 16 i 0)), .double (dT (σ 17 i 0))])) = EL a g (up3 σ 14 i 0 v) w Y := by
  refine EL_ext (by omega) ?_ (fun k hk hne => EC_o14 hk hne)
  rw [EC_kept (Y := Y) hi]
  simp [cc_kept, up3]
theorem EC_o15 {a : Nat → ClassId} {g : Nat → Nat} {σ : Nat → Nat → Nat → Nat} {w : Nat → Nat → Int32} {i v k : Nat} (hk : k < 143) (hne : k ≠ 71 + i) : EC a g (up3 σ 15 i 0 v) w k = EC a g σ w k := by
  exact EC_congr hk (fun _ => by simp [cc_cs, up3]) (fun _ _ _ => by simp [cc_file, up3]) (fun _ _ _ => by simp [cc_row, up3]) (fun _ _ _ => by simp [cc_chunk, up3]) (fun _ _ _ => by simp [cc_server, up3]) (fun _ _ _ => by simp [cc_vers, up3]) (fun _ _ _ => by simp [cc_used, up3]) (fun _ _ _ => rfl) (fun q hq h => by have hx : q ≠ i := fun z => hne (by rw [h, z]); simp [cc_kept, up3, hx])
theorem EL_s15 {a : Nat → ClassId} {g : Nat → Nat} {σ : Nat → Nat → Nat → Nat} {w : Nat → Nat → Int32} {Y : Nat → va_E} {i : Nat} (hi : i < 72) {v : Nat} : va_up (EL a g σ w Y) (71 + i) (.inr (3, [.int (nI (σ 14 i 0)), .int (nI v), .int (nI (σ 16 i 0)), .double (dT (σ 17 i 0))])) = EL a g (up3 σ 15 i 0 v) w Y := by
  refine EL_ext (by omega) ?_ (fun k hk hne => EC_o15 hk hne)
  rw [EC_kept (Y := Y) hi]
  simp [cc_kept, up3]
theorem EC_o16 {a : Nat → ClassId} {g : Nat → Nat} {σ : Nat → Nat → Nat → Nat} {w : Nat → Nat → Int32} {i v k : Nat} (hk : k < 143) (hne : k ≠ 71 + i) : EC a g (up3 σ 16 i 0 v) w k = EC a g σ w k := by
  exact EC_congr hk (fun _ => by simp [cc_cs, up3]) (fun _ _ _ => by simp [cc_file, up3]) (fun _ _ _ => by simp [cc_row, up3]) (fun _ _ _ => by simp [cc_chunk, up3]) (fun _ _ _ => by simp [cc_server, up3]) (fun _ _ _ => by simp [cc_vers, up3]) (fun _ _ _ => by simp [cc_used, up3]) (fun _ _ _ => rfl) (fun q hq h => by have hx : q ≠ i := fun z => hne (by rw [h, z]); simp [cc_kept, up3, hx])
theorem EL_s16 {a : Nat → ClassId} {g : Nat → Nat} {σ : Nat → Nat → Nat → Nat} {w : Nat → Nat → Int32} {Y : Nat → va_E} {i : Nat} (hi : i < 72) {v : Nat} : va_up (EL a g σ w Y) (71 + i) (.inr (3, [.int (nI (σ 14 i 0)), .int (nI (σ 15 i 0)), .int (nI v), .double (dT (σ 17 i 0))])) = EL a g (up3 σ 16 i 0 v) w Y := by
  refine EL_ext (by omega) ?_ (fun k hk hne => EC_o16 hk hne)
  rw [EC_kept (Y := Y) hi]
  simp [cc_kept, up3]
theorem EC_o17 {a : Nat → ClassId} {g : Nat → Nat} {σ : Nat → Nat → Nat → Nat} {w : Nat → Nat → Int32} {i v k : Nat} (hk : k < 143) (hne : k ≠ 71 + i) : EC a g (up3 σ 17 i 0 v) w k = EC a g σ w k := by
  exact EC_congr hk (fun _ => by simp [cc_cs, up3]) (fun _ _ _ => by simp [cc_file, up3]) (fun _ _ _ => by simp [cc_row, up3]) (fun _ _ _ => by simp [cc_chunk, up3]) (fun _ _ _ => by simp [cc_server, up3]) (fun _ _ _ => by simp [cc_vers, up3]) (fun _ _ _ => by simp [cc_used, up3]) (fun _ _ _ => rfl) (fun q hq h => by have hx : q ≠ i := fun z => hne (by rw [h, z]); simp [cc_kept, up3, hx])
theorem EL_s17 {a : Nat → ClassId} {g : Nat → Nat} {σ : Nat → Nat → Nat → Nat} {w : Nat → Nat → Int32} {Y : Nat → va_E} {i : Nat} (hi : i < 72) {v : Nat} : va_up (EL a g σ w Y) (71 + i) (.inr (3, [.int (nI (σ 14 i 0)), .int (nI (σ 15 i 0)), .int (nI (σ 16 i 0)), .double (dT v)])) = EL a g (up3 σ 17 i 0 v) w Y := by
  refine EL_ext (by omega) ?_ (fun k hk hne => EC_o17 hk hne)
  rw [EC_kept (Y := Y) hi]
  simp [cc_kept, up3]
end XEC
end
section
section XAC
variable {p : Program} {l : Launch} {e : Env} {R : Room} {s : State} {m : MethodId} {args : Array Value} {below : List Frame} {meth : Method} {c : Code} {Q : State → Prop} {nL : Nat} {D : va_G} {base : Nat} {g : Nat → Nat} {cc : ByteArray} {n k z pc : Nat} {lv : List (Nat × Value)} {st : List Value} {a : Nat → ClassId} {σ : Nat → Nat → Nat → Nat} {w : Nat → Nat → Int32} {Y : Nat → va_E}
theorem i_CS : ∀ w ∈ u_ws R_CS F_CS 6, w ∈ xT := by
  have h1 : ∀ w ∈ u_ws R_CS F_CS 6, w ∈ lw_tbl := by decide +kernel
  have h2 : ∀ w ∈ u_ws R_CS F_CS 6, xGood w = true := by decide +kernel
  exact fun w hw => xT_in (h1 w hw) (h2 w hw)
theorem i_FE : ∀ w ∈ u_ws R_FE F_FE 4, w ∈ xT := by
  have h1 : ∀ w ∈ u_ws R_FE F_FE 4, w ∈ lw_tbl := by decide +kernel
  have h2 : ∀ w ∈ u_ws R_FE F_FE 4, xGood w = true := by decide +kernel
  exact fun w hw => xT_in (h1 w hw) (h2 w hw)
theorem i_CH : ∀ w ∈ u_ws R_CH F_CH 4, w ∈ xT := by
  have h1 : ∀ w ∈ u_ws R_CH F_CH 4, w ∈ lw_tbl := by decide +kernel
  have h2 : ∀ w ∈ u_ws R_CH F_CH 4, xGood w = true := by decide +kernel
  exact fun w hw => xT_in (h1 w hw) (h2 w hw)
theorem i_KP : ∀ w ∈ u_ws R_KP F_KP 4, w ∈ xT := by
  have h1 : ∀ w ∈ u_ws R_KP F_KP 4, w ∈ lw_tbl := by decide +kernel
  have h2 : ∀ w ∈ u_ws R_KP F_KP 4, xGood w = true := by decide +kernel
  exact fun w hw => xT_in (h1 w hw) (h2 w hw)
theorem i_SV : ∀ w ∈ u_ws R_SV F_SV 5, w ∈ xT := by
  have h1 : ∀ w ∈ u_ws R_SV F_SV 5, w ∈ lw_tbl := by decide +kernel
  have h2 : ∀ w ∈ u_ws R_SV F_SV 5, xGood w = true := by decide +kernel
  exact fun w hw => xT_in (h1 w hw) (h2 w hw)
theorem g_CS_cs_files (C : xC p l e s m meth c cc nL "ChunkStore" args D xcl (xty a) base) (hn : 143 ≤ n) (hdg : decode cc pc = .ok (.getfield 11, 3)) (kk : xG p l e R s m args below meth c Q nL D xcl base g n (EL a g σ w Y) k z (pc + 3) lv (.ref (g (1)) :: st)) : xG p l e R s m args below meth c Q nL D xcl base g n (EL a g σ w Y) k z pc lv (.ref (g (0)) :: st) :=
  x_get C (ci := 0) rfl i_CS 0 (by decide) kw116 (fun _ h => h) (by omega) (EL_cs) rfl hdg kk
theorem g_CS_cs_chunks (C : xC p l e s m meth c cc nL "ChunkStore" args D xcl (xty a) base) (hn : 143 ≤ n) (hdg : decode cc pc = .ok (.getfield 18, 3)) (kk : xG p l e R s m args below meth c Q nL D xcl base g n (EL a g σ w Y) k z (pc + 3) lv (.ref (g (18)) :: st)) : xG p l e R s m args below meth c Q nL D xcl base g n (EL a g σ w Y) k z pc lv (.ref (g (0)) :: st) :=
  x_get C (ci := 0) rfl i_CS 1 (by decide) kw117 (fun _ h => h) (by omega) (EL_cs) rfl hdg kk
theorem g_CS_cs_servers (C : xC p l e s m meth c cc nL "ChunkStore" args D xcl (xty a) base) (hn : 143 ≤ n) (hdg : decode cc pc = .ok (.getfield 25, 3)) (kk : xG p l e R s m args below meth c Q nL D xcl base g n (EL a g σ w Y) k z (pc + 3) lv (.ref (g (49)) :: st)) : xG p l e R s m args below meth c Q nL D xcl base g n (EL a g σ w Y) k z pc lv (.ref (g (0)) :: st) :=
  x_get C (ci := 0) rfl i_CS 2 (by decide) kw118 (fun _ h => h) (by omega) (EL_cs) rfl hdg kk
theorem g_CS_cs_keeps (C : xC p l e s m meth c cc nL "ChunkStore" args D xcl (xty a) base) (hn : 143 ≤ n) (hdg : decode cc pc = .ok (.getfield 32, 3)) (kk : xG p l e R s m args below meth c Q nL D xcl base g n (EL a g σ w Y) k z (pc + 3) lv (.ref (g (70)) :: st)) : xG p l e R s m args below meth c Q nL D xcl base g n (EL a g σ w Y) k z pc lv (.ref (g (0)) :: st) :=
  x_get C (ci := 0) rfl i_CS 3 (by decide) kw119 (fun _ h => h) (by omega) (EL_cs) rfl hdg kk
theorem g_CS_cs_made (C : xC p l e s m meth c cc nL "ChunkStore" args D xcl (xty a) base) (hn : 143 ≤ n) (hdg : decode cc pc = .ok (.getfield 151, 3)) (kk : xG p l e R s m args below meth c Q nL D xcl base g n (EL a g σ w Y) k z (pc + 3) lv (.int (nI (σ 0 0 0)) :: st)) : xG p l e R s m args below meth c Q nL D xcl base g n (EL a g σ w Y) k z pc lv (.ref (g (0)) :: st) :=
  x_get C (ci := 0) rfl i_CS 4 (by decide) kw120 (fun _ h => h) (by omega) (EL_cs) rfl hdg kk
theorem p_CS_cs_made (C : xC p l e s m meth c cc nL "ChunkStore" args D xcl (xty a) base) {v : Nat} (hn : 143 ≤ n) (hdg : decode cc pc = .ok (.putfield 151, 3)) (kk : xG p l e R s m args below meth c Q nL D xcl base g n (EL a g (up3 σ 0 0 0 v) w Y) k z (pc + 3) lv st) : xG p l e R s m args below meth c Q nL D xcl base g n (EL a g σ w Y) k z pc lv (.int (nI v) :: .ref (g (0)) :: st) :=
  x_put C (ci := 0) (ty := .int) (ty0 := t_CS) rfl i_CS 4 (by decide) kw120 (fun _ h => h) (by omega) (EL_cs) t_CS_ok n_CS rfl rfl rfl rfl (by simp) (EL_s0) hdg kk
theorem g_CS_cs_time (C : xC p l e s m meth c cc nL "ChunkStore" args D xcl (xty a) base) (hn : 143 ≤ n) (hdg : decode cc pc = .ok (.getfield 56, 3)) (kk : xG p l e R s m args below meth c Q nL D xcl base g n (EL a g σ w Y) k z (pc + 3) lv (.double (dT (σ 1 0 0)) :: st)) : xG p l e R s m args below meth c Q nL D xcl base g n (EL a g σ w Y) k z pc lv (.ref (g (0)) :: st) :=
  x_get C (ci := 0) rfl i_CS 5 (by decide) kw121 (fun _ h => h) (by omega) (EL_cs) rfl hdg kk
theorem p_CS_cs_time (C : xC p l e s m meth c cc nL "ChunkStore" args D xcl (xty a) base) {v : Nat} (hn : 143 ≤ n) (hdg : decode cc pc = .ok (.putfield 56, 3)) (kk : xG p l e R s m args below meth c Q nL D xcl base g n (EL a g (up3 σ 1 0 0 v) w Y) k z (pc + 3) lv st) : xG p l e R s m args below meth c Q nL D xcl base g n (EL a g σ w Y) k z pc lv (.double (dT v) :: .ref (g (0)) :: st) :=
  x_put C (ci := 0) (ty := .double) (ty0 := t_CS) rfl i_CS 5 (by decide) kw121 (fun _ h => h) (by omega) (EL_cs) t_CS_ok n_CS rfl rfl rfl rfl (by simp) (EL_s1) hdg kk
theorem e_arrF {own : String} (C : xC p l e s m meth c cc nL own args D xcl (xty a) base) {j : Nat} (hj : j < 8) (hn : 143 ≤ n) (hdg : decode cc pc = .ok (.aaload, 1)) (kk : xG p l e R s m args below meth c Q nL D xcl base g n (EL a g σ w Y) k z (pc + 1) lv (.ref (g (2 + 2 * j)) :: st)) : xG p l e R s m args below meth c Q nL D xcl base g n (EL a g σ w Y) k z pc lv (.int (nI j) :: .ref (g (1)) :: st) :=
  x_aald C (Cn := "ChunkStore$FileEntry") (by omega) EL_arrF 1 rfl (vp_in_nI hj (by omega)) (by rw [nI_clamp (by omega)]) hdg kk
theorem g_FE_file_row (C : xC p l e s m meth c cc nL "ChunkStore$FileEntry" args D xcl (xty a) base) {i : Nat} (hi : i < 8) (hn : 143 ≤ n) (hdg : decode cc pc = .ok (.getfield 9, 3)) (kk : xG p l e R s m args below meth c Q nL D xcl base g n (EL a g σ w Y) k z (pc + 3) lv (.ref (g (3 + 2 * i)) :: st)) : xG p l e R s m args below meth c Q nL D xcl base g n (EL a g σ w Y) k z pc lv (.ref (g (2 + 2 * i)) :: st) :=
  x_get C (ci := 2) rfl i_FE 0 (by decide) kw33 (fun _ h => h) (by omega) (EL_file hi) rfl hdg kk
theorem g_CS_file_row (C : xC p l e s m meth c cc nL "ChunkStore" args D xcl (xty a) base) {i : Nat} (hi : i < 8) (hn : 143 ≤ n) (hdg : decode cc pc = .ok (.getfield 73, 3)) (kk : xG p l e R s m args below meth c Q nL D xcl base g n (EL a g σ w Y) k z (pc + 3) lv (.ref (g (3 + 2 * i)) :: st)) : xG p l e R s m args below meth c Q nL D xcl base g n (EL a g σ w Y) k z pc lv (.ref (g (2 + 2 * i)) :: st) :=
  x_getN C (ci := 2) rfl i_FE 0 (by decide) kn34 (fun _ h => h) (by omega) (EL_file hi) rfl hdg kk
theorem g_FE_file_count (C : xC p l e s m meth c cc nL "ChunkStore$FileEntry" args D xcl (xty a) base) {i : Nat} (hi : i < 8) (hn : 143 ≤ n) (hdg : decode cc pc = .ok (.getfield 15, 3)) (kk : xG p l e R s m args below meth c Q nL D xcl base g n (EL a g σ w Y) k z (pc + 3) lv (.int (nI (σ 3 i 0)) :: st)) : xG p l e R s m args below meth c Q nL D xcl base g n (EL a g σ w Y) k z pc lv (.ref (g (2 + 2 * i)) :: st) :=
  x_get C (ci := 2) rfl i_FE 1 (by decide) kw35 (fun _ h => h) (by omega) (EL_file hi) rfl hdg kk
theorem p_FE_file_count (C : xC p l e s m meth c cc nL "ChunkStore$FileEntry" args D xcl (xty a) base) {i : Nat} (hi : i < 8) {v : Nat} (hn : 143 ≤ n) (hdg : decode cc pc = .ok (.putfield 15, 3)) (kk : xG p l e R s m args below meth c Q nL D xcl base g n (EL a g (up3 σ 3 i 0 v) w Y) k z (pc + 3) lv st) : xG p l e R s m args below meth c Q nL D xcl base g n (EL a g σ w Y) k z pc lv (.int (nI v) :: .ref (g (2 + 2 * i)) :: st) :=
  x_put C (ci := 2) (ty := .int) (ty0 := t_FE) rfl i_FE 1 (by decide) kw35 (fun _ h => h) (by omega) (EL_file hi) t_FE_ok n_FE rfl rfl rfl rfl (by simp) (EL_s3 hi) hdg kk
theorem g_CS_file_count (C : xC p l e s m meth c cc nL "ChunkStore" args D xcl (xty a) base) {i : Nat} (hi : i < 8) (hn : 143 ≤ n) (hdg : decode cc pc = .ok (.getfield 63, 3)) (kk : xG p l e R s m args below meth c Q nL D xcl base g n (EL a g σ w Y) k z (pc + 3) lv (.int (nI (σ 3 i 0)) :: st)) : xG p l e R s m args below meth c Q nL D xcl base g n (EL a g σ w Y) k z pc lv (.ref (g (2 + 2 * i)) :: st) :=
  x_getN C (ci := 2) rfl i_FE 1 (by decide) kn36 (fun _ h => h) (by omega) (EL_file hi) rfl hdg kk
theorem p_CS_file_count (C : xC p l e s m meth c cc nL "ChunkStore" args D xcl (xty a) base) {i : Nat} (hi : i < 8) {v : Nat} (hn : 143 ≤ n) (hdg : decode cc pc = .ok (.putfield 63, 3)) (kk : xG p l e R s m args below meth c Q nL D xcl base g n (EL a g (up3 σ 3 i 0 v) w Y) k z (pc + 3) lv st) : xG p l e R s m args below meth c Q nL D xcl base g n (EL a g σ w Y) k z pc lv (.int (nI v) :: .ref (g (2 + 2 * i)) :: st) :=
  x_putN C (ci := 2) (ty := .int) (ty0 := t_FE) rfl i_FE 1 (by decide) kn36 (fun _ h => h) (by omega) (EL_file hi) t_FE_ok n_FE rfl rfl rfl rfl (by simp) (EL_s3 hi) hdg kk
theorem g_CS_file_state (C : xC p l e s m meth c cc nL "ChunkStore" args D xcl (xty a) base) {i : Nat} (hi : i < 8) (hn : 143 ≤ n) (hdg : decode cc pc = .ok (.getfield 45, 3)) (kk : xG p l e R s m args below meth c Q nL D xcl base g n (EL a g σ w Y) k z (pc + 3) lv (.int (nI (σ 2 i 0)) :: st)) : xG p l e R s m args below meth c Q nL D xcl base g n (EL a g σ w Y) k z pc lv (.ref (g (2 + 2 * i)) :: st) :=
  x_getN C (ci := 2) rfl i_FE 2 (by decide) kn37 (fun _ h => h) (by omega) (EL_file hi) rfl hdg kk
theorem p_CS_file_state (C : xC p l e s m meth c cc nL "ChunkStore" args D xcl (xty a) base) {i : Nat} (hi : i < 8) {v : Nat} (hn : 143 ≤ n) (hdg : decode cc pc = .ok (.putfield 45, 3)) (kk : xG p l e R s m args below meth c Q nL D xcl base g n (EL a g (up3 σ 2 i 0 v) w Y) k z (pc + 3) lv st) : xG p l e R s m args below meth c Q nL D xcl base g n (EL a g σ w Y) k z pc lv (.int (nI v) :: .ref (g (2 + 2 * i)) :: st) :=
  x_putN C (ci := 2) (ty := .int) (ty0 := t_FE) rfl i_FE 2 (by decide) kn37 (fun _ h => h) (by omega) (EL_file hi) t_FE_ok n_FE rfl rfl rfl rfl (by simp) (EL_s2 hi) hdg kk
theorem g_CS_file_hiddenSince (C : xC p l e s m meth c cc nL "ChunkStore" args D xcl (xty a) base) {i : Nat} (hi : i < 8) (hn : 143 ≤ n) (hdg : decode cc pc = .ok (.getfield 60, 3)) (kk : xG p l e R s m args below meth c Q nL D xcl base g n (EL a g σ w Y) k z (pc + 3) lv (.double (dT (σ 5 i 0)) :: st)) : xG p l e R s m args below meth c Q nL D xcl base g n (EL a g σ w Y) k z pc lv (.ref (g (2 + 2 * i)) :: st) :=
  x_getN C (ci := 2) rfl i_FE 3 (by decide) kn38 (fun _ h => h) (by omega) (EL_file hi) rfl hdg kk
theorem p_CS_file_hiddenSince (C : xC p l e s m meth c cc nL "ChunkStore" args D xcl (xty a) base) {i : Nat} (hi : i < 8) {v : Nat} (hn : 143 ≤ n) (hdg : decode cc pc = .ok (.putfield 60, 3)) (kk : xG p l e R s m args below meth c Q nL D xcl base g n (EL a g (up3 σ 5 i 0 v) w Y) k z (pc + 3) lv st) : xG p l e R s m args below meth c Q nL D xcl base g n (EL a g σ w Y) k z pc lv (.double (dT v) :: .ref (g (2 + 2 * i)) :: st) :=
  x_putN C (ci := 2) (ty := .double) (ty0 := t_FE) rfl i_FE 3 (by decide) kn38 (fun _ h => h) (by omega) (EL_file hi) t_FE_ok n_FE rfl rfl rfl rfl (by simp) (EL_s5 hi) hdg kk
theorem e_row {own : String} (C : xC p l e s m meth c cc nL own args D xcl (xty a) base) {i : Nat} (hi : i < 8) {j : Nat} (hj : j < 3) (hn : 143 ≤ n) (hdg : decode cc pc = .ok (.iaload, 1)) (kk : xG p l e R s m args below meth c Q nL D xcl base g n (EL a g σ w Y) k z (pc + 1) lv (.int (nI (σ 4 i j)) :: st)) : xG p l e R s m args below meth c Q nL D xcl base g n (EL a g σ w Y) k z pc lv (.int (nI j) :: .ref (g (3 + 2 * i)) :: st) := by
  refine x_iald C (by omega) (EL_row hi) 0 rfl (vp_in_nI hj (by omega)) hdg ?_
  rw [nI_clamp (by omega)]
  exact kk
theorem a_row {own : String} (C : xC p l e s m meth c cc nL own args D xcl (xty a) base) {i : Nat} (hi : i < 8) {j : Nat} {v : Nat} (hj : j < 3) (hn : 143 ≤ n) (hdg : decode cc pc = .ok (.iastore, 1)) (kk : xG p l e R s m args below meth c Q nL D xcl base g n (EL a g (up3 σ 4 i j v) w Y) k z (pc + 1) lv st) : xG p l e R s m args below meth c Q nL D xcl base g n (EL a g σ w Y) k z pc lv (.int (nI v) :: .int (nI j) :: .ref (g (3 + 2 * i)) :: st) :=
  x_iast C (by omega) (EL_row hi) 0 rfl (vp_in_nI hj (by omega)) (by rw [nI_clamp (by omega)]; exact EL_s4 hi) hdg kk
theorem e_arrC {own : String} (C : xC p l e s m meth c cc nL own args D xcl (xty a) base) {j : Nat} (hj : j < 30) (hn : 143 ≤ n) (hdg : decode cc pc = .ok (.aaload, 1)) (kk : xG p l e R s m args below meth c Q nL D xcl base g n (EL a g σ w Y) k z (pc + 1) lv (.ref (g (19 + j)) :: st)) : xG p l e R s m args below meth c Q nL D xcl base g n (EL a g σ w Y) k z pc lv (.int (nI j) :: .ref (g (18)) :: st) :=
  x_aald C (Cn := "ChunkStore$Chunk") (by omega) EL_arrC 2 rfl (vp_in_nI hj (by omega)) (by rw [nI_clamp (by omega)]) hdg kk
theorem g_CS_chunk_version (C : xC p l e s m meth c cc nL "ChunkStore" args D xcl (xty a) base) {i : Nat} (hi : i < 30) (hn : 143 ≤ n) (hdg : decode cc pc = .ok (.getfield 110, 3)) (kk : xG p l e R s m args below meth c Q nL D xcl base g n (EL a g σ w Y) k z (pc + 3) lv (.int (nI (σ 6 i 0)) :: st)) : xG p l e R s m args below meth c Q nL D xcl base g n (EL a g σ w Y) k z pc lv (.ref (g (19 + i)) :: st) :=
  x_getN C (ci := 1) rfl i_CH 0 (by decide) kn56 (fun _ h => h) (by omega) (EL_chunk hi) rfl hdg kk
theorem p_CS_chunk_version (C : xC p l e s m meth c cc nL "ChunkStore" args D xcl (xty a) base) {i : Nat} (hi : i < 30) {v : Nat} (hn : 143 ≤ n) (hdg : decode cc pc = .ok (.putfield 110, 3)) (kk : xG p l e R s m args below meth c Q nL D xcl base g n (EL a g (up3 σ 6 i 0 v) w Y) k z (pc + 3) lv st) : xG p l e R s m args below meth c Q nL D xcl base g n (EL a g σ w Y) k z pc lv (.int (nI v) :: .ref (g (19 + i)) :: st) :=
  x_putN C (ci := 1) (ty := .int) (ty0 := t_CH) rfl i_CH 0 (by decide) kn56 (fun _ h => h) (by omega) (EL_chunk hi) t_CH_ok n_CH rfl rfl rfl rfl (by simp) (EL_s6 hi) hdg kk
theorem g_CS_chunk_refs (C : xC p l e s m meth c cc nL "ChunkStore" args D xcl (xty a) base) {i : Nat} (hi : i < 30) (hn : 143 ≤ n) (hdg : decode cc pc = .ok (.getfield 80, 3)) (kk : xG p l e R s m args below meth c Q nL D xcl base g n (EL a g σ w Y) k z (pc + 3) lv (.int (nI (σ 7 i 0)) :: st)) : xG p l e R s m args below meth c Q nL D xcl base g n (EL a g σ w Y) k z pc lv (.ref (g (19 + i)) :: st) :=
  x_getN C (ci := 1) rfl i_CH 1 (by decide) kn57 (fun _ h => h) (by omega) (EL_chunk hi) rfl hdg kk
theorem p_CS_chunk_refs (C : xC p l e s m meth c cc nL "ChunkStore" args D xcl (xty a) base) {i : Nat} (hi : i < 30) {v : Nat} (hn : 143 ≤ n) (hdg : decode cc pc = .ok (.putfield 80, 3)) (kk : xG p l e R s m args below meth c Q nL D xcl base g n (EL a g (up3 σ 7 i 0 v) w Y) k z (pc + 3) lv st) : xG p l e R s m args below meth c Q nL D xcl base g n (EL a g σ w Y) k z pc lv (.int (nI v) :: .ref (g (19 + i)) :: st) :=
  x_putN C (ci := 1) (ty := .int) (ty0 := t_CH) rfl i_CH 1 (by decide) kn57 (fun _ h => h) (by omega) (EL_chunk hi) t_CH_ok n_CH rfl rfl rfl rfl (by simp) (EL_s7 hi) hdg kk
theorem g_CS_chunk_holders (C : xC p l e s m meth c cc nL "ChunkStore" args D xcl (xty a) base) {i : Nat} (hi : i < 30) (hn : 143 ≤ n) (hdg : decode cc pc = .ok (.getfield 179, 3)) (kk : xG p l e R s m args below meth c Q nL D xcl base g n (EL a g σ w Y) k z (pc + 3) lv (.int (nI (σ 8 i 0)) :: st)) : xG p l e R s m args below meth c Q nL D xcl base g n (EL a g σ w Y) k z pc lv (.ref (g (19 + i)) :: st) :=
  x_getN C (ci := 1) rfl i_CH 2 (by decide) kn58 (fun _ h => h) (by omega) (EL_chunk hi) rfl hdg kk
theorem p_CS_chunk_holders (C : xC p l e s m meth c cc nL "ChunkStore" args D xcl (xty a) base) {i : Nat} (hi : i < 30) {v : Nat} (hn : 143 ≤ n) (hdg : decode cc pc = .ok (.putfield 179, 3)) (kk : xG p l e R s m args below meth c Q nL D xcl base g n (EL a g (up3 σ 8 i 0 v) w Y) k z (pc + 3) lv st) : xG p l e R s m args below meth c Q nL D xcl base g n (EL a g σ w Y) k z pc lv (.int (nI v) :: .ref (g (19 + i)) :: st) :=
  x_putN C (ci := 1) (ty := .int) (ty0 := t_CH) rfl i_CH 2 (by decide) kn58 (fun _ h => h) (by omega) (EL_chunk hi) t_CH_ok n_CH rfl rfl rfl rfl (by simp) (EL_s8 hi) hdg kk
theorem g_CS_chunk_leaseEnd (C : xC p l e s m meth c cc nL "ChunkStore" args D xcl (xty a) base) {i : Nat} (hi : i < 30) (hn : 143 ≤ n) (hdg : decode cc pc = .ok (.getfield 77, 3)) (kk : xG p l e R s m args below meth c Q nL D xcl base g n (EL a g σ w Y) k z (pc + 3) lv (.double (dT (σ 9 i 0)) :: st)) : xG p l e R s m args below meth c Q nL D xcl base g n (EL a g σ w Y) k z pc lv (.ref (g (19 + i)) :: st) :=
  x_getN C (ci := 1) rfl i_CH 3 (by decide) kn59 (fun _ h => h) (by omega) (EL_chunk hi) rfl hdg kk
theorem p_CS_chunk_leaseEnd (C : xC p l e s m meth c cc nL "ChunkStore" args D xcl (xty a) base) {i : Nat} (hi : i < 30) {v : Nat} (hn : 143 ≤ n) (hdg : decode cc pc = .ok (.putfield 77, 3)) (kk : xG p l e R s m args below meth c Q nL D xcl base g n (EL a g (up3 σ 9 i 0 v) w Y) k z (pc + 3) lv st) : xG p l e R s m args below meth c Q nL D xcl base g n (EL a g σ w Y) k z pc lv (.double (dT v) :: .ref (g (19 + i)) :: st) :=
  x_putN C (ci := 1) (ty := .double) (ty0 := t_CH) rfl i_CH 3 (by decide) kn59 (fun _ h => h) (by omega) (EL_chunk hi) t_CH_ok n_CH rfl rfl rfl rfl (by simp) (EL_s9 hi) hdg kk
theorem e_arrS {own : String} (C : xC p l e s m meth c cc nL own args D xcl (xty a) base) {j : Nat} (hj : j < 5) (hn : 143 ≤ n) (hdg : decode cc pc = .ok (.aaload, 1)) (kk : xG p l e R s m args below meth c Q nL D xcl base g n (EL a g σ w Y) k z (pc + 1) lv (.ref (g (50 + 4 * j)) :: st)) : xG p l e R s m args below meth c Q nL D xcl base g n (EL a g σ w Y) k z pc lv (.int (nI j) :: .ref (g (49)) :: st) :=
  x_aald C (Cn := "ChunkStore$Server") (by omega) EL_arrS 3 rfl (vp_in_nI hj (by omega)) (by rw [nI_clamp (by omega)]) hdg kk
theorem g_SV_server_versions (C : xC p l e s m meth c cc nL "ChunkStore$Server" args D xcl (xty a) base) {i : Nat} (hi : i < 5) (hn : 143 ≤ n) (hdg : decode cc pc = .ok (.getfield 9, 3)) (kk : xG p l e R s m args below meth c Q nL D xcl base g n (EL a g σ w Y) k z (pc + 3) lv (.ref (g (51 + 4 * i)) :: st)) : xG p l e R s m args below meth c Q nL D xcl base g n (EL a g σ w Y) k z pc lv (.ref (g (50 + 4 * i)) :: st) :=
  x_get C (ci := 4) rfl i_SV 0 (by decide) kw76 (fun _ h => h) (by omega) (EL_server hi) rfl hdg kk
theorem g_CS_server_versions (C : xC p l e s m meth c cc nL "ChunkStore" args D xcl (xty a) base) {i : Nat} (hi : i < 5) (hn : 143 ≤ n) (hdg : decode cc pc = .ok (.getfield 131, 3)) (kk : xG p l e R s m args below meth c Q nL D xcl base g n (EL a g σ w Y) k z (pc + 3) lv (.ref (g (51 + 4 * i)) :: st)) : xG p l e R s m args below meth c Q nL D xcl base g n (EL a g σ w Y) k z pc lv (.ref (g (50 + 4 * i)) :: st) :=
  x_getN C (ci := 4) rfl i_SV 0 (by decide) kn77 (fun _ h => h) (by omega) (EL_server hi) rfl hdg kk
theorem g_SV_server_used (C : xC p l e s m meth c cc nL "ChunkStore$Server" args D xcl (xty a) base) {i : Nat} (hi : i < 5) (hn : 143 ≤ n) (hdg : decode cc pc = .ok (.getfield 15, 3)) (kk : xG p l e R s m args below meth c Q nL D xcl base g n (EL a g σ w Y) k z (pc + 3) lv (.ref (g (52 + 4 * i)) :: st)) : xG p l e R s m args below meth c Q nL D xcl base g n (EL a g σ w Y) k z pc lv (.ref (g (50 + 4 * i)) :: st) :=
  x_get C (ci := 4) rfl i_SV 1 (by decide) kw78 (fun _ h => h) (by omega) (EL_server hi) rfl hdg kk
theorem g_CS_server_used (C : xC p l e s m meth c cc nL "ChunkStore" args D xcl (xty a) base) {i : Nat} (hi : i < 5) (hn : 143 ≤ n) (hdg : decode cc pc = .ok (.getfield 200, 3)) (kk : xG p l e R s m args below meth c Q nL D xcl base g n (EL a g σ w Y) k z (pc + 3) lv (.ref (g (52 + 4 * i)) :: st)) : xG p l e R s m args below meth c Q nL D xcl base g n (EL a g σ w Y) k z pc lv (.ref (g (50 + 4 * i)) :: st) :=
  x_getN C (ci := 4) rfl i_SV 1 (by decide) kn79 (fun _ h => h) (by omega) (EL_server hi) rfl hdg kk
theorem g_SV_server_words (C : xC p l e s m meth c cc nL "ChunkStore$Server" args D xcl (xty a) base) {i : Nat} (hi : i < 5) (hn : 143 ≤ n) (hdg : decode cc pc = .ok (.getfield 18, 3)) (kk : xG p l e R s m args below meth c Q nL D xcl base g n (EL a g σ w Y) k z (pc + 3) lv (.ref (g (53 + 4 * i)) :: st)) : xG p l e R s m args below meth c Q nL D xcl base g n (EL a g σ w Y) k z pc lv (.ref (g (50 + 4 * i)) :: st) :=
  x_get C (ci := 4) rfl i_SV 2 (by decide) kw80 (fun _ h => h) (by omega) (EL_server hi) rfl hdg kk
theorem g_SV_server_isUp (C : xC p l e s m meth c cc nL "ChunkStore$Server" args D xcl (xty a) base) {i : Nat} (hi : i < 5) (hn : 143 ≤ n) (hdg : decode cc pc = .ok (.getfield 21, 3)) (kk : xG p l e R s m args below meth c Q nL D xcl base g n (EL a g σ w Y) k z (pc + 3) lv (.int (nI (σ 10 i 0)) :: st)) : xG p l e R s m args below meth c Q nL D xcl base g n (EL a g σ w Y) k z pc lv (.ref (g (50 + 4 * i)) :: st) :=
  x_get C (ci := 4) rfl i_SV 3 (by decide) kw81 (fun _ h => h) (by omega) (EL_server hi) rfl hdg kk
theorem p_SV_server_isUp (C : xC p l e s m meth c cc nL "ChunkStore$Server" args D xcl (xty a) base) {i : Nat} (hi : i < 5) {v : Nat} (hv : v = 0 ∨ v = 1) (hn : 143 ≤ n) (hdg : decode cc pc = .ok (.putfield 21, 3)) (kk : xG p l e R s m args below meth c Q nL D xcl base g n (EL a g (up3 σ 10 i 0 v) w Y) k z (pc + 3) lv st) : xG p l e R s m args below meth c Q nL D xcl base g n (EL a g σ w Y) k z pc lv (.int (nI v) :: .ref (g (50 + 4 * i)) :: st) :=
  x_put C (ci := 4) (ty := .boolean) (ty0 := t_SV) rfl i_SV 3 (by decide) kw81 (fun _ h => h) (by omega) (EL_server hi) t_SV_ok n_SV rfl rfl (by rcases hv with rfl | rfl <;> rfl) (by rcases hv with rfl | rfl <;> rfl) (by simp) (EL_s10 hi) hdg kk
theorem g_CS_server_isUp (C : xC p l e s m meth c cc nL "ChunkStore" args D xcl (xty a) base) {i : Nat} (hi : i < 5) (hn : 143 ≤ n) (hdg : decode cc pc = .ok (.getfield 127, 3)) (kk : xG p l e R s m args below meth c Q nL D xcl base g n (EL a g σ w Y) k z (pc + 3) lv (.int (nI (σ 10 i 0)) :: st)) : xG p l e R s m args below meth c Q nL D xcl base g n (EL a g σ w Y) k z pc lv (.ref (g (50 + 4 * i)) :: st) :=
  x_getN C (ci := 4) rfl i_SV 3 (by decide) kn82 (fun _ h => h) (by omega) (EL_server hi) rfl hdg kk
theorem p_CS_server_isUp (C : xC p l e s m meth c cc nL "ChunkStore" args D xcl (xty a) base) {i : Nat} (hi : i < 5) {v : Nat} (hv : v = 0 ∨ v = 1) (hn : 143 ≤ n) (hdg : decode cc pc = .ok (.putfield 127, 3)) (kk : xG p l e R s m args below meth c Q nL D xcl base g n (EL a g (up3 σ 10 i 0 v) w Y) k z (pc + 3) lv st) : xG p l e R s m args below meth c Q nL D xcl base g n (EL a g σ w Y) k z pc lv (.int (nI v) :: .ref (g (50 + 4 * i)) :: st) :=
  x_putN C (ci := 4) (ty := .boolean) (ty0 := t_SV) rfl i_SV 3 (by decide) kn82 (fun _ h => h) (by omega) (EL_server hi) t_SV_ok n_SV rfl rfl (by rcases hv with rfl | rfl <;> rfl) (by rcases hv with rfl | rfl <;> rfl) (by simp) (EL_s10 hi) hdg kk
theorem g_SV_server_replicas (C : xC p l e s m meth c cc nL "ChunkStore$Server" args D xcl (xty a) base) {i : Nat} (hi : i < 5) (hn : 143 ≤ n) (hdg : decode cc pc = .ok (.getfield 25, 3)) (kk : xG p l e R s m args below meth c Q nL D xcl base g n (EL a g σ w Y) k z (pc + 3) lv (.int (nI (σ 11 i 0)) :: st)) : xG p l e R s m args below meth c Q nL D xcl base g n (EL a g σ w Y) k z pc lv (.ref (g (50 + 4 * i)) :: st) :=
  x_get C (ci := 4) rfl i_SV 4 (by decide) kw83 (fun _ h => h) (by omega) (EL_server hi) rfl hdg kk
theorem p_SV_server_replicas (C : xC p l e s m meth c cc nL "ChunkStore$Server" args D xcl (xty a) base) {i : Nat} (hi : i < 5) {v : Nat} (hn : 143 ≤ n) (hdg : decode cc pc = .ok (.putfield 25, 3)) (kk : xG p l e R s m args below meth c Q nL D xcl base g n (EL a g (up3 σ 11 i 0 v) w Y) k z (pc + 3) lv st) : xG p l e R s m args below meth c Q nL D xcl base g n (EL a g σ w Y) k z pc lv (.int (nI v) :: .ref (g (50 + 4 * i)) :: st) :=
  x_put C (ci := 4) (ty := .int) (ty0 := t_SV) rfl i_SV 4 (by decide) kw83 (fun _ h => h) (by omega) (EL_server hi) t_SV_ok n_SV rfl rfl rfl rfl (by simp) (EL_s11 hi) hdg kk
theorem g_CS_server_replicas (C : xC p l e s m meth c cc nL "ChunkStore" args D xcl (xty a) base) {i : Nat} (hi : i < 5) (hn : 143 ≤ n) (hdg : decode cc pc = .ok (.getfield 146, 3)) (kk : xG p l e R s m args below meth c Q nL D xcl base g n (EL a g σ w Y) k z (pc + 3) lv (.int (nI (σ 11 i 0)) :: st)) : xG p l e R s m args below meth c Q nL D xcl base g n (EL a g σ w Y) k z pc lv (.ref (g (50 + 4 * i)) :: st) :=
  x_getN C (ci := 4) rfl i_SV 4 (by decide) kn84 (fun _ h => h) (by omega) (EL_server hi) rfl hdg kk
theorem p_CS_server_replicas (C : xC p l e s m meth c cc nL "ChunkStore" args D xcl (xty a) base) {i : Nat} (hi : i < 5) {v : Nat} (hn : 143 ≤ n) (hdg : decode cc pc = .ok (.putfield 146, 3)) (kk : xG p l e R s m args below meth c Q nL D xcl base g n (EL a g (up3 σ 11 i 0 v) w Y) k z (pc + 3) lv st) : xG p l e R s m args below meth c Q nL D xcl base g n (EL a g σ w Y) k z pc lv (.int (nI v) :: .ref (g (50 + 4 * i)) :: st) :=
  x_putN C (ci := 4) (ty := .int) (ty0 := t_SV) rfl i_SV 4 (by decide) kn84 (fun _ h => h) (by omega) (EL_server hi) t_SV_ok n_SV rfl rfl rfl rfl (by simp) (EL_s11 hi) hdg kk
theorem e_vers {own : String} (C : xC p l e s m meth c cc nL own args D xcl (xty a) base) {i : Nat} (hi : i < 5) {j : Nat} (hj : j < 30) (hn : 143 ≤ n) (hdg : decode cc pc = .ok (.iaload, 1)) (kk : xG p l e R s m args below meth c Q nL D xcl base g n (EL a g σ w Y) k z (pc + 1) lv (.int (nI (σ 12 i j)) :: st)) : xG p l e R s m args below meth c Q nL D xcl base g n (EL a g σ w Y) k z pc lv (.int (nI j) :: .ref (g (51 + 4 * i)) :: st) := by
  refine x_iald C (by omega) (EL_vers hi) 0 rfl (vp_in_nI hj (by omega)) hdg ?_
  rw [nI_clamp (by omega)]
  exact kk
theorem a_vers {own : String} (C : xC p l e s m meth c cc nL own args D xcl (xty a) base) {i : Nat} (hi : i < 5) {j : Nat} {v : Nat} (hj : j < 30) (hn : 143 ≤ n) (hdg : decode cc pc = .ok (.iastore, 1)) (kk : xG p l e R s m args below meth c Q nL D xcl base g n (EL a g (up3 σ 12 i j v) w Y) k z (pc + 1) lv st) : xG p l e R s m args below meth c Q nL D xcl base g n (EL a g σ w Y) k z pc lv (.int (nI v) :: .int (nI j) :: .ref (g (51 + 4 * i)) :: st) :=
  x_iast C (by omega) (EL_vers hi) 0 rfl (vp_in_nI hj (by omega)) (by rw [nI_clamp (by omega)]; exact EL_s12 hi) hdg kk
theorem e_used {own : String} (C : xC p l e s m meth c cc nL own args D xcl (xty a) base) {i : Nat} (hi : i < 5) {j : Nat} (hj : j < 30) (hn : 143 ≤ n) (hdg : decode cc pc = .ok (.iaload, 1)) (kk : xG p l e R s m args below meth c Q nL D xcl base g n (EL a g σ w Y) k z (pc + 1) lv (.int (nI (σ 13 i j)) :: st)) : xG p l e R s m args below meth c Q nL D xcl base g n (EL a g σ w Y) k z pc lv (.int (nI j) :: .ref (g (52 + 4 * i)) :: st) := by
  refine x_iald C (by omega) (EL_used hi) 0 rfl (vp_in_nI hj (by omega)) hdg ?_
  rw [nI_clamp (by omega)]
  exact kk
theorem a_used {own : String} (C : xC p l e s m meth c cc nL own args D xcl (xty a) base) {i : Nat} (hi : i < 5) {j : Nat} {v : Nat} (hj : j < 30) (hn : 143 ≤ n) (hdg : decode cc pc = .ok (.iastore, 1)) (kk : xG p l e R s m args below meth c Q nL D xcl base g n (EL a g (up3 σ 13 i j v) w Y) k z (pc + 1) lv st) : xG p l e R s m args below meth c Q nL D xcl base g n (EL a g σ w Y) k z pc lv (.int (nI v) :: .int (nI j) :: .ref (g (52 + 4 * i)) :: st) :=
  x_iast C (by omega) (EL_used hi) 0 rfl (vp_in_nI hj (by omega)) (by rw [nI_clamp (by omega)]; exact EL_s13 hi) hdg kk
theorem e_wrds {own : String} (C : xC p l e s m meth c cc nL own args D xcl (xty a) base) {i : Nat} (hi : i < 5) {j : Nat} (hj : j < 120) (hn : 143 ≤ n) (hdg : decode cc pc = .ok (.iaload, 1)) (kk : xG p l e R s m args below meth c Q nL D xcl base g n (EL a g σ w Y) k z (pc + 1) lv (.int (w i j) :: st)) : xG p l e R s m args below meth c Q nL D xcl base g n (EL a g σ w Y) k z pc lv (.int (nI j) :: .ref (g (53 + 4 * i)) :: st) := by
  refine x_iald C (by omega) (EL_wrds hi) 0 rfl (vp_in_nI hj (by omega)) hdg ?_
  rw [nI_clamp (by omega)]
  exact kk
theorem a_wrds {own : String} (C : xC p l e s m meth c cc nL own args D xcl (xty a) base) {i : Nat} (hi : i < 5) {j : Nat} {v : Int32} (hj : j < 120) (hn : 143 ≤ n) (hdg : decode cc pc = .ok (.iastore, 1)) (kk : xG p l e R s m args below meth c Q nL D xcl base g n (EL a g σ (up2 w i j v) Y) k z (pc + 1) lv st) : xG p l e R s m args below meth c Q nL D xcl base g n (EL a g σ w Y) k z pc lv (.int v :: .int (nI j) :: .ref (g (53 + 4 * i)) :: st) :=
  x_iast C (by omega) (EL_wrds hi) 0 rfl (vp_in_nI hj (by omega)) (by rw [nI_clamp (by omega)]; exact EL_sw hi) hdg kk
theorem e_arrK {own : String} (C : xC p l e s m meth c cc nL own args D xcl (xty a) base) {j : Nat} (hj : j < 72) (hn : 143 ≤ n) (hdg : decode cc pc = .ok (.aaload, 1)) (kk : xG p l e R s m args below meth c Q nL D xcl base g n (EL a g σ w Y) k z (pc + 1) lv (.ref (g (71 + j)) :: st)) : xG p l e R s m args below meth c Q nL D xcl base g n (EL a g σ w Y) k z pc lv (.int (nI j) :: .ref (g (70)) :: st) :=
  x_aald C (Cn := "ChunkStore$Kept") (by omega) EL_arrK 4 rfl (vp_in_nI hj (by omega)) (by rw [nI_clamp (by omega)]) hdg kk
theorem g_CS_kept_number (C : xC p l e s m meth c cc nL "ChunkStore" args D xcl (xty a) base) {i : Nat} (hi : i < 72) (hn : 143 ≤ n) (hdg : decode cc pc = .ok (.getfield 134, 3)) (kk : xG p l e R s m args below meth c Q nL D xcl base g n (EL a g σ w Y) k z (pc + 3) lv (.int (nI (σ 14 i 0)) :: st)) : xG p l e R s m args below meth c Q nL D xcl base g n (EL a g σ w Y) k z pc lv (.ref (g (71 + i)) :: st) :=
  x_getN C (ci := 3) rfl i_KP 0 (by decide) kn103 (fun _ h => h) (by omega) (EL_kept hi) rfl hdg kk
theorem p_CS_kept_number (C : xC p l e s m meth c cc nL "ChunkStore" args D xcl (xty a) base) {i : Nat} (hi : i < 72) {v : Nat} (hn : 143 ≤ n) (hdg : decode cc pc = .ok (.putfield 134, 3)) (kk : xG p l e R s m args below meth c Q nL D xcl base g n (EL a g (up3 σ 14 i 0 v) w Y) k z (pc + 3) lv st) : xG p l e R s m args below meth c Q nL D xcl base g n (EL a g σ w Y) k z pc lv (.int (nI v) :: .ref (g (71 + i)) :: st) :=
  x_putN C (ci := 3) (ty := .int) (ty0 := t_KP) rfl i_KP 0 (by decide) kn103 (fun _ h => h) (by omega) (EL_kept hi) t_KP_ok n_KP rfl rfl rfl rfl (by simp) (EL_s14 hi) hdg kk
theorem g_CS_kept_version (C : xC p l e s m meth c cc nL "ChunkStore" args D xcl (xty a) base) {i : Nat} (hi : i < 72) (hn : 143 ≤ n) (hdg : decode cc pc = .ok (.getfield 95, 3)) (kk : xG p l e R s m args below meth c Q nL D xcl base g n (EL a g σ w Y) k z (pc + 3) lv (.int (nI (σ 15 i 0)) :: st)) : xG p l e R s m args below meth c Q nL D xcl base g n (EL a g σ w Y) k z pc lv (.ref (g (71 + i)) :: st) :=
  x_getN C (ci := 3) rfl i_KP 1 (by decide) kn104 (fun _ h => h) (by omega) (EL_kept hi) rfl hdg kk
theorem p_CS_kept_version (C : xC p l e s m meth c cc nL "ChunkStore" args D xcl (xty a) base) {i : Nat} (hi : i < 72) {v : Nat} (hn : 143 ≤ n) (hdg : decode cc pc = .ok (.putfield 95, 3)) (kk : xG p l e R s m args below meth c Q nL D xcl base g n (EL a g (up3 σ 15 i 0 v) w Y) k z (pc + 3) lv st) : xG p l e R s m args below meth c Q nL D xcl base g n (EL a g σ w Y) k z pc lv (.int (nI v) :: .ref (g (71 + i)) :: st) :=
  x_putN C (ci := 3) (ty := .int) (ty0 := t_KP) rfl i_KP 1 (by decide) kn104 (fun _ h => h) (by omega) (EL_kept hi) t_KP_ok n_KP rfl rfl rfl rfl (by simp) (EL_s15 hi) hdg kk
theorem g_CS_kept_holders (C : xC p l e s m meth c cc nL "ChunkStore" args D xcl (xty a) base) {i : Nat} (hi : i < 72) (hn : 143 ≤ n) (hdg : decode cc pc = .ok (.getfield 115, 3)) (kk : xG p l e R s m args below meth c Q nL D xcl base g n (EL a g σ w Y) k z (pc + 3) lv (.int (nI (σ 16 i 0)) :: st)) : xG p l e R s m args below meth c Q nL D xcl base g n (EL a g σ w Y) k z pc lv (.ref (g (71 + i)) :: st) :=
  x_getN C (ci := 3) rfl i_KP 2 (by decide) kn105 (fun _ h => h) (by omega) (EL_kept hi) rfl hdg kk
theorem p_CS_kept_holders (C : xC p l e s m meth c cc nL "ChunkStore" args D xcl (xty a) base) {i : Nat} (hi : i < 72) {v : Nat} (hn : 143 ≤ n) (hdg : decode cc pc = .ok (.putfield 115, 3)) (kk : xG p l e R s m args below meth c Q nL D xcl base g n (EL a g (up3 σ 16 i 0 v) w Y) k z (pc + 3) lv st) : xG p l e R s m args below meth c Q nL D xcl base g n (EL a g σ w Y) k z pc lv (.int (nI v) :: .ref (g (71 + i)) :: st) :=
  x_putN C (ci := 3) (ty := .int) (ty0 := t_KP) rfl i_KP 2 (by decide) kn105 (fun _ h => h) (by omega) (EL_kept hi) t_KP_ok n_KP rfl rfl rfl rfl (by simp) (EL_s16 hi) hdg kk
theorem g_CS_kept_end (C : xC p l e s m meth c cc nL "ChunkStore" args D xcl (xty a) base) {i : Nat} (hi : i < 72) (hn : 143 ≤ n) (hdg : decode cc pc = .ok (.getfield 242, 3)) (kk : xG p l e R s m args below meth c Q nL D xcl base g n (EL a g σ w Y) k z (pc + 3) lv (.double (dT (σ 17 i 0)) :: st)) : xG p l e R s m args below meth c Q nL D xcl base g n (EL a g σ w Y) k z pc lv (.ref (g (71 + i)) :: st) :=
  x_getN C (ci := 3) rfl i_KP 3 (by decide) kn106 (fun _ h => h) (by omega) (EL_kept hi) rfl hdg kk
theorem p_CS_kept_end (C : xC p l e s m meth c cc nL "ChunkStore" args D xcl (xty a) base) {i : Nat} (hi : i < 72) {v : Nat} (hn : 143 ≤ n) (hdg : decode cc pc = .ok (.putfield 242, 3)) (kk : xG p l e R s m args below meth c Q nL D xcl base g n (EL a g (up3 σ 17 i 0 v) w Y) k z (pc + 3) lv st) : xG p l e R s m args below meth c Q nL D xcl base g n (EL a g σ w Y) k z pc lv (.double (dT v) :: .ref (g (71 + i)) :: st) :=
  x_putN C (ci := 3) (ty := .double) (ty0 := t_KP) rfl i_KP 3 (by decide) kn106 (fun _ h => h) (by omega) (EL_kept hi) t_KP_ok n_KP rfl rfl rfl rfl (by simp) (EL_s17 hi) hdg kk
end XAC
end
section
section XB2
/-- the room of a method that calls k deep -/
def xrm (k : Nat) : Room := { frames := 6 + k, cells := 1, slots := 6, locals := 100 + 30 * k }
def xM (l : Launch) (y : MethodName) (b : ByteArray) (maxL : Nat) (ret : Option FieldType) (k : Nat) (D : va_G) (a : Nat → ClassId) (base : Nat) (g : Nat → Nat) (n : Nat) (E : Nat → va_E) (av : List Value) (post : xR → (Nat → va_E) → Prop) : Prop := xMet l y [Cond.code y b maxL ret] (xrm k) (xPc D xcl (xty a) base g n E av) (xQc D xcl base g n post) 0 0 1 6 (fun q => base ≤ q)
def xTr (l : Launch) : Prop := ∀ e : Env, l.admits e → e.platform.stackTraces = false
theorem x_room {j k maxL : Nat} (h : j < k) (hm : maxL ≤ 11) : (xrm j).frames + 1 ≤ (xrm k).frames ∧ 8 + (maxL + 11) + (xrm j).locals ≤ (xrm k).locals := by simp only [xrm]; omega
theorem x_roomc {j k : Nat} : 0 + (xrm j).cells ≤ (xrm k).cells ∧ 0 + (xrm j).slots ≤ (xrm k).slots := ⟨Nat.le_refl _, Nat.le_refl _⟩
theorem nI_m1 {n : Nat} (h : n < 2 ^ 31) : ¬ nI n = -1 := fun q => by have := congrArg Int32.toInt q; rw [nI_toInt h] at this; have h2 : (-1 : Int32).toInt = -1 := rfl; rw [h2] at this; omega
variable {p : Program} {l : Launch} {e : Env} {R : Room} {s : State} {m : MethodId} {args : Array Value} {below : List Frame} {meth : Method} {c : Code} {Q : State → Prop} {nL : Nat} {D : va_G} {cl : List vw_C} {tys : List (ClassId × FieldType)} {base : Nat} {g : Nat → Nat} {cc : ByteArray} {own : String} {n k z pc : Nat} {E : Nat → va_E} {lv lv' : List (Nat × Value)} {st : List Value}
theorem x_topi {x y : Int32} (h : x = y) (kk : xG p l e R s m args below meth c Q nL D cl base g n E k z pc lv (.int y :: st)) : xG p l e R s m args below meth c Q nL D cl base g n E k z pc lv (.int x :: st) := by rw [h]; exact kk
theorem x_topd {x y : UInt64} (h : x = y) (kk : xG p l e R s m args below meth c Q nL D cl base g n E k z pc lv (.double y :: st)) : xG p l e R s m args below meth c Q nL D cl base g n E k z pc lv (.double x :: st) := by rw [h]; exact kk
def xall (lv' lv : List (Nat × Value)) : Prop := match lv' with
  | [] => True
  | q :: r => xlk lv q.1 = some q.2 ∧ xall r lv
theorem xall_mem {lv' lv : List (Nat × Value)} (h : xall lv' lv) : ∀ q ∈ lv', xlk lv q.1 = some q.2 := by
  induction lv' with
  | nil => intro q hq; cases hq
  | cons a r ih =>
    intro q hq
    rcases List.mem_cons.mp hq with rfl | hq
    · exact h.1
    · exact ih h.2 q hq
/-- the locals, fewer or in another order -/
theorem x_lv (lv' : List (Nat × Value)) (h : xall lv' lv) (kk : xG p l e R s m args below meth c Q nL D cl base g n E k z pc (lv') st) : xG p l e R s m args below meth c Q nL D cl base g n E k z pc lv st := fun H locs ls hw hS hl => kk H locs ls hw hS ⟨hl.1, hl.2.1, fun q hq => xlk_at hl (xall_mem h q hq)⟩
theorem xn_icmp_eq (C : xC p l e s m meth c cc nL own args D cl tys base) {x y : Nat} {off : Int} (hx : x < 2 ^ 31) (hy : y < 2 ^ 31) (tgt : Nat) (hdg : decode cc pc = .ok (.if_icmp .eq off, 3)) (ht : (pc : Int) + off = (tgt : Int)) (kt : x = y → xG p l e R s m args below meth c Q nL D cl base g n E k z tgt lv st) (kf : ¬ x = y → xG p l e R s m args below meth c Q nL D cl base g n E k z (pc + 3) lv st) : xG p l e R s m args below meth c Q nL D cl base g n E k z pc lv (.int (nI y) :: .int (nI x) :: st) :=
  x_icmp_eq C tgt hdg ht (fun h => kt ((nI_eq hx hy).mp h)) (fun h => kf (fun q => h ((nI_eq hx hy).mpr q)))
theorem xn_icmp_ne (C : xC p l e s m meth c cc nL own args D cl tys base) {x y : Nat} {off : Int} (hx : x < 2 ^ 31) (hy : y < 2 ^ 31) (tgt : Nat) (hdg : decode cc pc = .ok (.if_icmp .ne off, 3)) (ht : (pc : Int) + off = (tgt : Int)) (kt : ¬ x = y → xG p l e R s m args below meth c Q nL D cl base g n E k z tgt lv st) (kf : x = y → xG p l e R s m args below meth c Q nL D cl base g n E k z (pc + 3) lv st) : xG p l e R s m args below meth c Q nL D cl base g n E k z pc lv (.int (nI y) :: .int (nI x) :: st) :=
  x_icmp_ne C tgt hdg ht (fun h => kt (fun q => h ((nI_eq hx hy).mpr q))) (fun h => kf ((nI_eq hx hy).mp h))
theorem xn_icmp_lt (C : xC p l e s m meth c cc nL own args D cl tys base) {x y : Nat} {off : Int} (hx : x < 2 ^ 31) (hy : y < 2 ^ 31) (tgt : Nat) (hdg : decode cc pc = .ok (.if_icmp .lt off, 3)) (ht : (pc : Int) + off = (tgt : Int)) (kt : x < y → xG p l e R s m args below meth c Q nL D cl base g n E k z tgt lv st) (kf : y ≤ x → xG p l e R s m args below meth c Q nL D cl base g n E k z (pc + 3) lv st) : xG p l e R s m args below meth c Q nL D cl base g n E k z pc lv (.int (nI y) :: .int (nI x) :: st) :=
  x_icmp_lt C tgt hdg ht (fun h => kt ((nI_ltI hx hy).mp h)) (fun h => kf (Nat.not_lt.mp fun q => h ((nI_ltI hx hy).mpr q)))
theorem xn_icmp_ge (C : xC p l e s m meth c cc nL own args D cl tys base) {x y : Nat} {off : Int} (hx : x < 2 ^ 31) (hy : y < 2 ^ 31) (tgt : Nat) (hdg : decode cc pc = .ok (.if_icmp .ge off, 3)) (ht : (pc : Int) + off = (tgt : Int)) (kt : y ≤ x → xG p l e R s m args below meth c Q nL D cl base g n E k z tgt lv st) (kf : x < y → xG p l e R s m args below meth c Q nL D cl base g n E k z (pc + 3) lv st) : xG p l e R s m args below meth c Q nL D cl base g n E k z pc lv (.int (nI y) :: .int (nI x) :: st) :=
  x_icmp_ge C tgt hdg ht (fun h => kt ((nI_leI hy hx).mp h)) (fun h => kf (Nat.not_le.mp fun q => h ((nI_leI hy hx).mpr q)))
theorem xn_icmp_gt (C : xC p l e s m meth c cc nL own args D cl tys base) {x y : Nat} {off : Int} (hx : x < 2 ^ 31) (hy : y < 2 ^ 31) (tgt : Nat) (hdg : decode cc pc = .ok (.if_icmp .gt off, 3)) (ht : (pc : Int) + off = (tgt : Int)) (kt : y < x → xG p l e R s m args below meth c Q nL D cl base g n E k z tgt lv st) (kf : x ≤ y → xG p l e R s m args below meth c Q nL D cl base g n E k z (pc + 3) lv st) : xG p l e R s m args below meth c Q nL D cl base g n E k z pc lv (.int (nI y) :: .int (nI x) :: st) :=
  x_icmp_gt C tgt hdg ht (fun h => kt ((nI_ltI hy hx).mp h)) (fun h => kf (Nat.not_lt.mp fun q => h ((nI_ltI hy hx).mpr q)))
theorem xn_icmp_le (C : xC p l e s m meth c cc nL own args D cl tys base) {x y : Nat} {off : Int} (hx : x < 2 ^ 31) (hy : y < 2 ^ 31) (tgt : Nat) (hdg : decode cc pc = .ok (.if_icmp .le off, 3)) (ht : (pc : Int) + off = (tgt : Int)) (kt : x ≤ y → xG p l e R s m args below meth c Q nL D cl base g n E k z tgt lv st) (kf : y < x → xG p l e R s m args below meth c Q nL D cl base g n E k z (pc + 3) lv st) : xG p l e R s m args below meth c Q nL D cl base g n E k z pc lv (.int (nI y) :: .int (nI x) :: st) :=
  x_icmp_le C tgt hdg ht (fun h => kt ((nI_leI hx hy).mp h)) (fun h => kf (Nat.not_le.mp fun q => h ((nI_leI hx hy).mpr q)))
theorem xn_if_eq (C : xC p l e s m meth c cc nL own args D cl tys base) {x : Nat} {off : Int} (hx : x < 2 ^ 31) (tgt : Nat) (hdg : decode cc pc = .ok (.ifCond .eq off, 3)) (ht : (pc : Int) + off = (tgt : Int)) (kt : x = 0 → xG p l e R s m args below meth c Q nL D cl base g n E k z tgt lv st) (kf : ¬ x = 0 → xG p l e R s m args below meth c Q nL D cl base g n E k z (pc + 3) lv st) : xG p l e R s m args below meth c Q nL D cl base g n E k z pc lv (.int (nI x) :: st) :=
  x_if_eq C tgt hdg ht (fun h => kt ((nI_eq hx (by decide)).mp (h.trans nI_0.symm))) (fun h => kf (fun q => h (by rw [q]; exact nI_0)))
theorem xn_if_ne (C : xC p l e s m meth c cc nL own args D cl tys base) {x : Nat} {off : Int} (hx : x < 2 ^ 31) (tgt : Nat) (hdg : decode cc pc = .ok (.ifCond .ne off, 3)) (ht : (pc : Int) + off = (tgt : Int)) (kt : ¬ x = 0 → xG p l e R s m args below meth c Q nL D cl base g n E k z tgt lv st) (kf : x = 0 → xG p l e R s m args below meth c Q nL D cl base g n E k z (pc + 3) lv st) : xG p l e R s m args below meth c Q nL D cl base g n E k z pc lv (.int (nI x) :: st) :=
  x_if_ne C tgt hdg ht (fun h => kt (fun q => h (by rw [q]; exact nI_0))) (fun h => kf ((nI_eq hx (by decide)).mp (h.trans nI_0.symm)))
theorem xn_if_lt (C : xC p l e s m meth c cc nL own args D cl tys base) {x : Nat} {off : Int} (hx : x < 2 ^ 31) (tgt : Nat) (hdg : decode cc pc = .ok (.ifCond .lt off, 3)) (ht : (pc : Int) + off = (tgt : Int)) (kt : False → xG p l e R s m args below meth c Q nL D cl base g n E k z tgt lv st) (kf : True → xG p l e R s m args below meth c Q nL D cl base g n E k z (pc + 3) lv st) : xG p l e R s m args below meth c Q nL D cl base g n E k z pc lv (.int (nI x) :: st) :=
  x_if_lt C tgt hdg ht (fun h => kt (nI_pos hx h)) (fun h => kf (trivial))
theorem xn_if_ge (C : xC p l e s m meth c cc nL own args D cl tys base) {x : Nat} {off : Int} (hx : x < 2 ^ 31) (tgt : Nat) (hdg : decode cc pc = .ok (.ifCond .ge off, 3)) (ht : (pc : Int) + off = (tgt : Int)) (kt : True → xG p l e R s m args below meth c Q nL D cl base g n E k z tgt lv st) (kf : False → xG p l e R s m args below meth c Q nL D cl base g n E k z (pc + 3) lv st) : xG p l e R s m args below meth c Q nL D cl base g n E k z pc lv (.int (nI x) :: st) :=
  x_if_ge C tgt hdg ht (fun h => kt (trivial)) (fun h => kf (h (nI_pos' hx)))
theorem xn_if_gt (C : xC p l e s m meth c cc nL own args D cl tys base) {x : Nat} {off : Int} (hx : x < 2 ^ 31) (tgt : Nat) (hdg : decode cc pc = .ok (.ifCond .gt off, 3)) (ht : (pc : Int) + off = (tgt : Int)) (kt : 0 < x → xG p l e R s m args below meth c Q nL D cl base g n E k z tgt lv st) (kf : x = 0 → xG p l e R s m args below meth c Q nL D cl base g n E k z (pc + 3) lv st) : xG p l e R s m args below meth c Q nL D cl base g n E k z pc lv (.int (nI x) :: st) :=
  x_if_gt C tgt hdg ht (fun h => kt ((nI_ltI (by decide) hx).mp (by rw [nI_0]; exact h))) (fun h => kf (Nat.eq_zero_of_not_pos fun q => h (by rw [← nI_0]; exact (nI_ltI (by decide) hx).mpr q)))
theorem xn_if_le (C : xC p l e s m meth c cc nL own args D cl tys base) {x : Nat} {off : Int} (hx : x < 2 ^ 31) (tgt : Nat) (hdg : decode cc pc = .ok (.ifCond .le off, 3)) (ht : (pc : Int) + off = (tgt : Int)) (kt : x = 0 → xG p l e R s m args below meth c Q nL D cl base g n E k z tgt lv st) (kf : 0 < x → xG p l e R s m args below meth c Q nL D cl base g n E k z (pc + 3) lv st) : xG p l e R s m args below meth c Q nL D cl base g n E k z pc lv (.int (nI x) :: st) :=
  x_if_le C tgt hdg ht (fun h => kt (Nat.le_zero.mp ((nI_leI hx (by decide)).mp (by rw [nI_0]; exact h)))) (fun h => kf (Nat.pos_of_ne_zero fun q => h (by rw [q, nI_0]; decide)))
theorem xn_iadd (C : xC p l e s m meth c cc nL own args D cl tys base) {x y : Nat} (hdg : decode cc pc = .ok (.iadd, 1)) (kk : xG p l e R s m args below meth c Q nL D cl base g n E k z (pc + 1) lv (.int (nI (x + y)) :: st)) : xG p l e R s m args below meth c Q nL D cl base g n E k z pc lv (.int (nI y) :: .int (nI x) :: st) := x_iadd C hdg (x_topi (nI_add x y) kk)
theorem xn_isub (C : xC p l e s m meth c cc nL own args D cl tys base) {x y : Nat} (hxy : y ≤ x) (hdg : decode cc pc = .ok (.isub, 1)) (kk : xG p l e R s m args below meth c Q nL D cl base g n E k z (pc + 1) lv (.int (nI (x - y)) :: st)) : xG p l e R s m args below meth c Q nL D cl base g n E k z pc lv (.int (nI y) :: .int (nI x) :: st) := x_isub C hdg (x_topi (pk_sub hxy) kk)
theorem xn_imul (C : xC p l e s m meth c cc nL own args D cl tys base) {x y : Nat} (hdg : decode cc pc = .ok (.imul, 1)) (kk : xG p l e R s m args below meth c Q nL D cl base g n E k z (pc + 1) lv (.int (nI (x * y)) :: st)) : xG p l e R s m args below meth c Q nL D cl base g n E k z pc lv (.int (nI y) :: .int (nI x) :: st) := x_imul C hdg (x_topi (pk_mul x y) kk)
theorem xn_iinc (C : xC p l e s m meth c cc nL own args D cl tys base) {i : Nat} {x : Nat} (hdg : decode cc pc = .ok (.iinc i 1, 3)) (j : Nat) (hj : lv[j]? = some (i, .int (nI x))) (hn : i < nL) (hlv : (i, Value.int (nI (x + 1))) :: lv.filter (fun q => !(q.1 == i) && !(q.1 + 1 == i && q.2.category == 2)) = lv') (kk : xG p l e R s m args below meth c Q nL D cl base g n E k z (pc + 3) lv' st) : xG p l e R s m args below meth c Q nL D cl base g n E k z pc lv st := x_iinc C hdg j hj (by show nI x + 1 = _; exact nI_1 x) hn hlv kk
theorem xn_const (C : xC p l e s m meth c cc nL own args D cl tys base) {v : Nat} (hdg : decode cc pc = .ok (.iconst v, 1)) (hv : Int32.ofInt (v : Int) = nI v) (kk : xG p l e R s m args below meth c Q nL D cl base g n E k z (pc + 1) lv (.int (nI v) :: st)) : xG p l e R s m args below meth c Q nL D cl base g n E k z pc lv st := x_iconst C hdg hv kk
end XB2
section XB3
variable {p : Program} {l : Launch} {e : Env} {s : State} {m : MethodId} {args : Array Value} {below : List Frame} {meth : Method} {c : Code} {nL : Nat} {D : va_G} {cl : List vw_C} {tys : List (ClassId × FieldType)} {base : Nat} {g : Nat → Nat} {cc : ByteArray} {n pc : Nat} {E : Nat → va_E} {lv : List (Nat × Value)} {st : List Value} {post : xR → (Nat → va_E) → Prop}
abbrev e_IA : String := "java/lang/IllegalArgumentException"
abbrev e_IS : String := "java/lang/IllegalStateException"
abbrev e_IO : String := "java/lang/IndexOutOfBoundsException"
abbrev e_UO : String := "java/lang/UnsupportedOperationException"
abbrev e_AR : String := "java/lang/ArithmeticException"
abbrev e_NS : String := "java/util/NoSuchElementException"
theorem at_IA : ∀ a ∈ Bundle.ownAtoms "ChunkStore" 192 "java/lang/IllegalArgumentException" ["java/lang/RuntimeException", "java/lang/Exception"], a ∈ xT ∨ a ∈ xN ∨ a ∈ xStatics := by decide +kernel
theorem th_IA {is j : Nat} {tx : String} (C : xC p l e s m meth c cc nL "ChunkStore" args D cl tys base) (hne : c.exceptionTable.isEmpty = true) (hst : (st.map fun v => v.category).sum ≤ 8) (hd0 : decode cc pc = .ok (.new 188, 3)) (hd3 : decode cc (pc + 3) = .ok (.dup, 1)) (hd4 : decode cc (pc + 4) = .ok (.ldc is, 2)) (hd6 : decode cc (pc + 6) = .ok (.invokespecial 192, 3)) (hd9 : decode cc (pc + 9) = .ok (.athrow, 1)) (hstr : ("ChunkStore", is, tx) ∈ xStr) (hp : post (.inr e_IA) E) : xG p l e (xrm j) s m args below meth c (xMQ below (xQc D cl base g n post) args s 0 0 1 6 (fun q => base ≤ q)) nL D cl base g n E 0 0 pc lv st :=
  x_throw C hne hd0 hd3 hd4 hd6 hd9 kw156 kw157 kw10 hstr (by decide +kernel) (by decide +kernel) at_IA (by show 2 + 3 < 6 + j; omega) (by show 1 + (st.map fun v => v.category).sum + (13 * 3 + 42) ≤ 100 + 30 * j; omega) (Nat.le_refl _) (Nat.le_refl _) (Nat.le_refl _) (Nat.le_refl _) hp
theorem at_IS : ∀ a ∈ Bundle.ownAtoms "ChunkStore" 141 "java/lang/IllegalStateException" ["java/lang/RuntimeException", "java/lang/Exception"], a ∈ xT ∨ a ∈ xN ∨ a ∈ xStatics := by decide +kernel
theorem th_IS {is j : Nat} {tx : String} (C : xC p l e s m meth c cc nL "ChunkStore" args D cl tys base) (hne : c.exceptionTable.isEmpty = true) (hst : (st.map fun v => v.category).sum ≤ 8) (hd0 : decode cc pc = .ok (.new 137, 3)) (hd3 : decode cc (pc + 3) = .ok (.dup, 1)) (hd4 : decode cc (pc + 4) = .ok (.ldc is, 2)) (hd6 : decode cc (pc + 6) = .ok (.invokespecial 141, 3)) (hd9 : decode cc (pc + 9) = .ok (.athrow, 1)) (hstr : ("ChunkStore", is, tx) ∈ xStr) (hp : post (.inr e_IS) E) : xG p l e (xrm j) s m args below meth c (xMQ below (xQc D cl base g n post) args s 0 0 1 6 (fun q => base ≤ q)) nL D cl base g n E 0 0 pc lv st :=
  x_throw C hne hd0 hd3 hd4 hd6 hd9 kw231 kw232 kw11 hstr (by decide +kernel) (by decide +kernel) at_IS (by show 2 + 3 < 6 + j; omega) (by show 1 + (st.map fun v => v.category).sum + (13 * 3 + 42) ≤ 100 + 30 * j; omega) (Nat.le_refl _) (Nat.le_refl _) (Nat.le_refl _) (Nat.le_refl _) hp
theorem at_IO : ∀ a ∈ Bundle.ownAtoms "ChunkStore" 220 "java/lang/IndexOutOfBoundsException" ["java/lang/RuntimeException", "java/lang/Exception"], a ∈ xT ∨ a ∈ xN ∨ a ∈ xStatics := by decide +kernel
theorem th_IO {is j : Nat} {tx : String} (C : xC p l e s m meth c cc nL "ChunkStore" args D cl tys base) (hne : c.exceptionTable.isEmpty = true) (hst : (st.map fun v => v.category).sum ≤ 8) (hd0 : decode cc pc = .ok (.new 216, 3)) (hd3 : decode cc (pc + 3) = .ok (.dup, 1)) (hd4 : decode cc (pc + 4) = .ok (.ldc is, 2)) (hd6 : decode cc (pc + 6) = .ok (.invokespecial 220, 3)) (hd9 : decode cc (pc + 9) = .ok (.athrow, 1)) (hstr : ("ChunkStore", is, tx) ∈ xStr) (hp : post (.inr e_IO) E) : xG p l e (xrm j) s m args below meth c (xMQ below (xQc D cl base g n post) args s 0 0 1 6 (fun q => base ≤ q)) nL D cl base g n E 0 0 pc lv st :=
  x_throw C hne hd0 hd3 hd4 hd6 hd9 kw310 kw311 kw13 hstr (by decide +kernel) (by decide +kernel) at_IO (by show 2 + 3 < 6 + j; omega) (by show 1 + (st.map fun v => v.category).sum + (13 * 3 + 42) ≤ 100 + 30 * j; omega) (Nat.le_refl _) (Nat.le_refl _) (Nat.le_refl _) (Nat.le_refl _) hp
theorem at_UO : ∀ a ∈ Bundle.ownAtoms "ChunkStore" 126 "java/lang/UnsupportedOperationException" ["java/lang/RuntimeException", "java/lang/Exception"], a ∈ xT ∨ a ∈ xN ∨ a ∈ xStatics := by decide +kernel
theorem th_UO {is j : Nat} {tx : String} (C : xC p l e s m meth c cc nL "ChunkStore" args D cl tys base) (hne : c.exceptionTable.isEmpty = true) (hst : (st.map fun v => v.category).sum ≤ 8) (hd0 : decode cc pc = .ok (.new 122, 3)) (hd3 : decode cc (pc + 3) = .ok (.dup, 1)) (hd4 : decode cc (pc + 4) = .ok (.ldc is, 2)) (hd6 : decode cc (pc + 6) = .ok (.invokespecial 126, 3)) (hd9 : decode cc (pc + 9) = .ok (.athrow, 1)) (hstr : ("ChunkStore", is, tx) ∈ xStr) (hp : post (.inr e_UO) E) : xG p l e (xrm j) s m args below meth c (xMQ below (xQc D cl base g n post) args s 0 0 1 6 (fun q => base ≤ q)) nL D cl base g n E 0 0 pc lv st :=
  x_throw C hne hd0 hd3 hd4 hd6 hd9 kw400 kw401 kw14 hstr (by decide +kernel) (by decide +kernel) at_UO (by show 2 + 3 < 6 + j; omega) (by show 1 + (st.map fun v => v.category).sum + (13 * 3 + 42) ≤ 100 + 30 * j; omega) (Nat.le_refl _) (Nat.le_refl _) (Nat.le_refl _) (Nat.le_refl _) hp
theorem at_AR : ∀ a ∈ Bundle.ownAtoms "ChunkStore" 197 "java/lang/ArithmeticException" ["java/lang/RuntimeException", "java/lang/Exception"], a ∈ xT ∨ a ∈ xN ∨ a ∈ xStatics := by decide +kernel
theorem th_AR {is j : Nat} {tx : String} (C : xC p l e s m meth c cc nL "ChunkStore" args D cl tys base) (hne : c.exceptionTable.isEmpty = true) (hst : (st.map fun v => v.category).sum ≤ 8) (hd0 : decode cc pc = .ok (.new 193, 3)) (hd3 : decode cc (pc + 3) = .ok (.dup, 1)) (hd4 : decode cc (pc + 4) = .ok (.ldc is, 2)) (hd6 : decode cc (pc + 6) = .ok (.invokespecial 197, 3)) (hd9 : decode cc (pc + 9) = .ok (.athrow, 1)) (hstr : ("ChunkStore", is, tx) ∈ xStr) (hp : post (.inr e_AR) E) : xG p l e (xrm j) s m args below meth c (xMQ below (xQc D cl base g n post) args s 0 0 1 6 (fun q => base ≤ q)) nL D cl base g n E 0 0 pc lv st :=
  x_throw C hne hd0 hd3 hd4 hd6 hd9 kw521 kw522 kw17 hstr (by decide +kernel) (by decide +kernel) at_AR (by show 2 + 3 < 6 + j; omega) (by show 1 + (st.map fun v => v.category).sum + (13 * 3 + 42) ≤ 100 + 30 * j; omega) (Nat.le_refl _) (Nat.le_refl _) (Nat.le_refl _) (Nat.le_refl _) hp
end XB3
end
section
section XNS
variable {p : Program} {l : Launch} {e : Env} {R : Room} {s : State} {m₀ : MethodId} {args : Array Value} {below : List Frame} {meth : Method} {c : Code} {W9 : State} {locs : List Loc} {cells slots : Nat}
/-- what a throw by a chain of constructors asks, when the first of them links its superclass's at another place -/
def xNA (own : String) (ic : Nat) (X Y : String) (names : List String) (ix : Nat) (b : ByteArray) : List Cond :=
  Bundle.throwableAtoms ++ (Bundle.throwableSAtoms ++ (Bundle.passSAtoms X Y ix b ++ (Bundle.chainSAtoms Y names ++
  [.methodLink own ic (Bundle.initS X), .instantiable X 6, .castable X X, .selects X Bundle.tFill0 Bundle.tFill0, .selects X Bundle.tFill Bundle.tFill,
   .lays X Bundle.tN "cause" "Ljava/lang/Throwable;", .lays X Bundle.tN "stackTrace" Bundle.steD, .lays X Bundle.tN "suppressedExceptions" Bundle.listD, .lays X Bundle.tN "detailMessage" "Ljava/lang/String;",
   .isRef (.static Bundle.tN "UNASSIGNED_STACK" Bundle.steD), .isRef (.static Bundle.tN "SUPPRESSED_SENTINEL" Bundle.listD),
   .fieldLink Bundle.tN 198 Bundle.tN "backtrace" "Ljava/lang/Object;", .lays Bundle.tN Bundle.tN "backtrace" "Ljava/lang/Object;", .lays X Bundle.tN "backtrace" "Ljava/lang/Object;"])))
set_option maxHeartbeats 2000000 in
theorem x_ctorThrowN (X : Stand p l e R s m₀ args below meth c W9 locs cells slots) (hexec : p.tables.exec = Jvm.exec) (htr : e.platform.stackTraces = false) {own cls sup : String} {names : List String} {ic ix : Nat} {b : ByteArray}
    (hown : s.vm.findClass own = some m₀.cls) (hcls : Bundle.fit cls = true) (hsup : Bundle.fit sup = true) (hnames : ∀ n ∈ names, Bundle.fit n = true)
    (b0 : decode b 0 = .ok (.aload_n 0, 1)) (b1 : decode b 1 = .ok (.aload_n 1, 1)) (b2 : decode b 2 = .ok (.invokespecial ix, 3)) (b5 : decode b 5 = .ok (.return_, 1))
    (h : ∀ a ∈ xNA own ic cls sup names ix b, a.before args s = true)
    (hlocs : ∀ x ∈ locs, ∀ cell, s.heap[x.base]? = some cell → cell.vm.isStatics = false)
    {a : Addr} {cX : ClassId} {kX : Class} (hfoundX : s.vm.findClass cls = some cX) (hkX : s.vm.classes[cX]? = some kX) (hcell : W9.heap[a]? = some (freshCell cX kX)) (hnew : s.heap.size ≤ a)
    {msg : Value} (hmsg : msg.isRef = true)
    {g : JFrame} (hg : g.method = m₀) (hsize : g.locals.size = c.maxLocals) (hlocked : g.locked = none) (hentered : g.entered = []) {rest : List Value} (hstack : g.stack = msg :: .ref a :: .ref a :: rest)
    (hd6 : decode c.code g.pc = .ok (.invokespecial ic, 3)) (hd9 : decode c.code (g.pc + 3) = .ok (.athrow, 1)) (hout : ∀ x ∈ c.exceptionTable.toList, covers x (g.pc + 3) = false)
    (hRframes : names.length + 4 < R.frames) (hRlocals : 2 * g.monitorRoom + ((Value.ref a :: rest).map fun v => v.category).sum + (13 * (names.length + 2) + 42) ≤ R.locals) (hlocks : meth.locks = false) :
    ∃ U : State, Steps p.tables e below (W9.setTop g) U ∧ U.status = .running ∧ Ended U below (.threw a) ∧ s.WarmedH U.vm ∧ s.sameButNew ({ U with vm := s.vm } : State) locs cells slots ∧
      ∃ ce, U.heap[a]? = some ce ∧ ce.vm = .none ∧ s.vm.findClass cls = some ce.cls := by
  have howns : e.platform.frameOwnsMonitors = true := by rw [X.admits.platform]
  have hfin : e.platform.finalization = false := by rw [X.admits.platform]
  have hpl : e.platform.magicAccessors = ({} : Platform).magicAccessors := by rw [X.admits.platform]
  have a' : ∀ x, x ∈ xNA own ic cls sup names ix b → x.holds args s none s [] = true := fun x hx => h x hx
  obtain ⟨T, Z0, L, -, Y⟩ := ThrowableC.of_atoms (args := args) howns hfin hpl (fun x hx => h x (by simp [xNA, hx]))
  obtain ⟨Z, M, LZ, LM, hnZ⟩ := Init0T.ofS_atoms (args := args) hpl L Y (fun x hx => h x (by simp [xNA, hx]))
  obtain ⟨Q1, Qs, hlenQ, LQ1, hLQ, hQ1m, hlinkQ1, hlinkQ⟩ := Bundle.chainS (args := args) hpl hnZ names sup hsup hnames (fun x hx => h x (by simp [xNA, hx]))
  obtain ⟨P1, L1, hP1m, hP1s⟩ := PassC.ofS_atoms (args := args) (s := s) hpl (X := cls) (Y := sup) (Bundle.fit_spec hcls).1 (Bundle.fit_spec hsup).2 b0 b1 b2 b5 (fun x hx => h x (by simp [xNA, hx]))
  have hPQ : P1.sup = Q1.m := Option.some.inj (hP1s.symm.trans hQ1m)
  have hfound : s.vm.findClass cls = some P1.m.cls := findClass_of_methodNamed hP1m
  cases Option.some.inj (hfoundX.symm.trans hfound)
  obtain ⟨c1, kX', hc1, hk, hord, -, -, hn6⟩ := Cond.instantiable_spec (a' (.instantiable cls 6) (by simp [xNA]))
  cases Option.some.inj (hc1.symm.trans hfound)
  cases Option.some.inj (hkX.symm.trans hk)
  have hsel0 : selectMethod e.platform s.vm P1.m.cls T.fill0 = .method T.fill0 := by
    obtain ⟨c2, r2, m2, q1, q2, q3, q4, -⟩ := Cond.selects_spec (a' (.selects cls Bundle.tFill0 Bundle.tFill0) (by simp [xNA]))
    cases Option.some.inj (q1.symm.trans hfound)
    cases Option.some.inj (q2.symm.trans (State.methodFound?_of_named Y.fill0 (by decide)))
    cases Option.some.inj (q3.symm.trans Y.fill0)
    rw [Launch.admits_selectMethod X.admits]; exact q4
  have hselF : selectMethod e.platform s.vm P1.m.cls T.fill = .method T.fill := by
    obtain ⟨c2, r2, m2, q1, q2, q3, q4, -⟩ := Cond.selects_spec (a' (.selects cls Bundle.tFill Bundle.tFill) (by simp [xNA]))
    cases Option.some.inj (q1.symm.trans hfound)
    cases Option.some.inj (q2.symm.trans (State.methodFound?_of_named Y.fill (by decide)))
    cases Option.some.inj (q3.symm.trans Y.fill)
    rw [Launch.admits_selectMethod X.admits]; exact q4
  obtain ⟨cellS0, hcS0, hiss⟩ := Y.statics
  obtain ⟨u0, hu0⟩ := Cond.staticRefV Y.unassigned L.unassignedStatic L.statics hcS0 hiss (a' (.isRef (.static Bundle.tN "UNASSIGNED_STACK" Bundle.steD)) (by simp [xNA]))
  obtain ⟨sen, hsen⟩ := Cond.staticRefV Y.sentinel L.sentinelStatic L.statics hcS0 hiss (a' (.isRef (.static Bundle.tN "SUPPRESSED_SENTINEL" Bundle.listD)) (by simp [xNA]))
  obtain ⟨ci198, i198, fB, hk198, hg198, ha198, hsB, -, hnB, htB, hffB⟩ := Cond.ownField (t := .object "java/lang/Object") Y.found L.cls (by decide +kernel) (a' (.fieldLink Bundle.tN 198 Bundle.tN "backtrace" "Ljava/lang/Object;") (by simp [xNA])) (a' (.lays Bundle.tN Bundle.tN "backtrace" "Ljava/lang/Object;") (by simp [xNA])) e.platform hpl
  obtain ⟨cellS, hcS', heS, -, hkeep⟩ := X.same.2.2.2.2.2 T.aS cellS0 hcS0
  have hcellS : W9.heap[T.aS]? = some cellS := hcS'
  have hout' : ∀ i, (⟨T.aS, i⟩ : Loc) ∉ locs := fun i hmem => by
    have := hlocs _ hmem cellS0 hcS0
    rw [hiss] at this; cases this
  have hknownS : cellS.vm ≠ .unknown := by
    rw [heS]; intro hu
    rw [show cellS0.vm = .unknown from hu] at hiss
    cases hiss
  have hneS : T.aS ≠ a := Nat.ne_of_lt (Nat.lt_of_lt_of_le (Array.getElem?_eq_some_iff.mp hcS0).1 hnew)
  obtain ⟨iM, hffM⟩ := Y.msg
  obtain ⟨tyC, dC, hdC, hdnC⟩ := Cond.laysAt hfound hk Y.cause (a' (.lays cls Bundle.tN "cause" "Ljava/lang/Throwable;") (by simp [xNA]))
  obtain ⟨tyS, dS, hdS, hdnS⟩ := Cond.laysAt hfound hk Y.stack (a' (.lays cls Bundle.tN "stackTrace" Bundle.steD) (by simp [xNA]))
  obtain ⟨tyP, dP, hdP, hdnP⟩ := Cond.laysAt hfound hk Y.supp (a' (.lays cls Bundle.tN "suppressedExceptions" Bundle.listD) (by simp [xNA]))
  obtain ⟨tyM, dM, hdM, hdnM⟩ := Cond.laysAt hfound hk hffM (a' (.lays cls Bundle.tN "detailMessage" "Ljava/lang/String;") (by simp [xNA]))
  obtain ⟨tyB, dB, hdB, hdnB⟩ := Cond.laysAt hfound hk hffB (a' (.lays cls Bundle.tN "backtrace" "Ljava/lang/Object;") (by simp [xNA]))
  have bC := Cond.laysApart hdB hdC hdnB hdnC (by rw [hnB, Y.causeName]; decide)
  have bS := Cond.laysApart hdB hdS hdnB hdnS (by rw [hnB, Y.stackName]; decide)
  have bP := Cond.laysApart hdB hdP hdnB hdnP (by rw [hnB, Y.suppName]; decide)
  have hskip : SkipFacts T e.platform s (fun u => u) u0 ((preparedCellV T.toThrowableT (freshCell P1.m.cls kX) a u0 sen).withEntry W9.cur) :=
    ⟨{ ci198 := ci198, i198 := i198, fBack := fB }, ⟨hk198, hg198, ha198, hsB⟩, by
      have := fresh_default (c := P1.m.cls) tyB
      rw [htB] at this
      simpa [preparedCellV, Cell.setSlot, Cell.withEntry, Array.getElem?_setIfInBounds, bC, bS, bP, bC.symm, bS.symm, bP.symm, defaultValue] using this, fun _ _ => rfl⟩
  obtain ⟨tm, methC, cdC, kC, vm₁, hnC, -, -, -, -, -, -, -, hW₁, st1⟩ := Steps.initColdS (tb := p.tables) (e := e) (below := below) (s := s) (U := W9) X.here hexec X.warmed hpl hown (t := Bundle.initS cls) rfl rfl (Bundle.fit_spec hcls).2
    (a' (.methodLink own ic (Bundle.initS cls)) (by simp [xNA])) (h (.instanceMethod (Bundle.initS cls)) (by simp [xNA, Bundle.passSAtoms])) (bytes := b) (maxL := 2) (h (.code (Bundle.initS cls) b 2 none) (by simp [xNA, Bundle.passSAtoms]))
    (f := g) hg (a := a) (msg := msg) (rest := .ref a :: rest) hstack hd6
  cases Option.some.inj (hnC.symm.trans hP1m)
  have X₁ := X.noted hW₁
  obtain ⟨vm₂, X₂, st2⟩ := X₁.ctorMessageOffV hexec (g := { g with stack := .ref a :: rest }) hg hsize T L Z LZ M LM (P1 :: Q1 :: Qs)
    (fun P hP => by
      rcases List.mem_cons.mp hP with rfl | hP
      · exact L1
      · rcases List.mem_cons.mp hP with rfl | hP
        · exact LQ1
        · exact hLQ P hP) ⟨hPQ, hlinkQ1, hlinkQ⟩ (u0 := u0) (sen := sen) (self := a) hmsg (cell := freshCell P1.m.cls kX) (cellS := cellS)
    hcell (fun _ => by simp) (by simp) rfl rfl hsel0 hselF hcellS hneS hknownS (by rw [hkeep _ (hout' _)]; exact hu0) (by rw [hkeep _ (hout' _)]; exact hsen)
    (Takes.of_laid hk hord tyC (by rw [Y.causeType]; rfl)) (Takes.of_laid hk hord tyS (by rw [Y.stackType]; exact fits_refV_array _ u0)) (Takes.of_laid hk hord tyP (by rw [Y.suppType]; exact fits_refV_object _ sen))
    (Takes.of_laid hk hord tyM (by rw [Y.msgType]; exact fits_refV_object _ ⟨msg, hmsg⟩)) Y.objLocals hskip htr [] hd6
    (by simp only [List.length_cons, hlenQ]; omega) (by simp only [List.length_cons, hlenQ]; exact hRlocals)
  obtain ⟨hwalk, hrun, hended, hWU, hsame⟩ := X₂.athrowLeaves hexec (g := { g with stack := .ref a :: rest, pc := g.pc + 3 }) hg hlocked hentered hout (a := a) (rest := rest) rfl hd9 hlocks
  have hlt : a < ((W9.setVm vm₁).setVm vm₂).heap.size := (Array.getElem?_eq_some_iff.mp hcell).1
  have hU := heapAt_setCell_self (s := (W9.setVm vm₁).setVm vm₂) (plainBareV T.toThrowableT (freshCell P1.m.cls kX) a u0 sen msg) hlt
  refine ⟨_, st1 _ (fun acts => ?_), hrun, hended, hWU, hsame.weaken (fun y hy hlt' => ?_) (Nat.le_refl _) (Nat.le_refl _), _, hU, rfl, hfound⟩
  · rw [doInvoke_state]
    exact st2 _ hwalk
  · rcases List.mem_append.mp hy with h1 | h1
    · exact h1
    · exfalso
      have hb : y.base = a := by
        simp only [List.mem_cons, List.not_mem_nil, or_false] at h1
        rcases h1 with rfl | rfl | rfl | rfl | rfl <;> rfl
      rw [hb] at hlt'
      exact Nat.not_lt.mpr hnew hlt'
end XNS
end
section
section XNT
variable {p : Program} {l : Launch} {e : Env} {R : Room} {s : State} {m : MethodId} {args : Array Value} {below : List Frame} {meth : Method} {c : Code} {nL : Nat} {D : va_G} {cl : List vw_C} {tys : List (ClassId × FieldType)} {base : Nat} {g : Nat → Nat} {cc : ByteArray} {own : String} {n pc : Nat} {E : Nat → va_E} {lv : List (Nat × Value)} {st : List Value} {post : xR → (Nat → va_E) → Prop} {kT nT : Nat}
theorem x_throwN {X tx sup : String} {names : List String} {ix is ic iy : Nat} {b : ByteArray} (C : xC p l e s m meth c cc nL own args D cl tys base) (hne : c.exceptionTable.isEmpty = true)
    (hd0 : decode cc pc = .ok (.new ix, 3)) (hd3 : decode cc (pc + 3) = .ok (.dup, 1)) (hd4 : decode cc (pc + 4) = .ok (.ldc is, 2)) (hd6 : decode cc (pc + 6) = .ok (.invokespecial ic, 3)) (hd9 : decode cc (pc + 9) = .ok (.athrow, 1))
    (hcl : Cond.classLink own ix X ∈ xT) (hinst : Cond.instantiable X 6 ∈ xT) (hini : Cond.initialized X ∈ xT) (hstr : (own, is, tx) ∈ xStr) (hX : Bundle.fit X = true) (hsup : Bundle.fit sup = true) (hnames : ∀ n ∈ names, Bundle.fit n = true) (b0 : decode b 0 = .ok (.aload_n 0, 1)) (b1 : decode b 1 = .ok (.aload_n 1, 1)) (b2 : decode b 2 = .ok (.invokespecial iy, 3)) (b5 : decode b 5 = .ok (.return_, 1))
    (hats : ∀ a ∈ xNA own ic X sup names iy b, a ∈ xT ∨ a ∈ xN ∨ a ∈ xStatics) (hRf : names.length + 4 < R.frames) (hRl : ((Value.ref 0 :: st).map fun v => v.category).sum + (13 * (names.length + 2) + 42) ≤ R.locals) (hRc : 1 ≤ R.cells) (hRs : 6 ≤ R.slots) (hkT : 1 ≤ kT) (hnT : 6 ≤ nT)
    (hp : post (.inr X) E) : xG p l e R s m args below meth c (xMQ below (xQc D cl base g n post) args s 0 0 kT nT (fun q => base ≤ q)) nL D cl base g n E 0 0 pc lv st := by
  intro H locs ls hw hS hl T hT X0
  have X' := x_rebase X0 (Nat.zero_le _) (Nat.zero_le _)
  generalize hs' : T.setFrames (.invoking m args :: below) = s' at X'
  have hvm : s'.vm = T.vm := by rw [← hs']; rfl
  have hheap : s'.heap = H := by rw [← hs']; exact hT
  have hW : s.WarmedH s'.vm := by rw [hvm]; exact X0.warmed
  have hE : xEnv base s' s'.heap := C.at hS hheap hW
  have hown' : s'.vm.findClass own = some m.cls := by rw [hW.alike.findClass]; exact C.ow
  obtain ⟨sa, hsa⟩ := hE.2.2.1 _ hstr
  obtain ⟨cX, hcX⟩ : ∃ cX, s'.vm.findClass X = some cX := by
    obtain ⟨cX, -, h, -⟩ := Cond.instantiable_spec (hE.words (args := args) _ hinst)
    exact ⟨cX, h⟩
  have hatoms : ∀ a ∈ xNA own ic X sup names iy b, a.before args s' = true := by
    intro a ha
    rcases hats a ha with h | h | h
    · exact hE.words a h
    · exact va_Nw.use (xIsN_tab (List.mem_filter.mp h).2) (hE.2.1 a h)
    · exact xStatics_ok hE a h
  have hrl : (Value.ref 0 :: st).map (fun v => v.category) = (Value.ref H.size :: st).map (fun v => v.category) := rfl
  have K : W p l e ({ R with cells := R.cells - 0, slots := R.slots - 0 } : Room) s' m args below meth c H [] 0 0 (fun t => ∃ a : Addr, t.status = .running ∧ Ended t below (.threw a) ∧ s'.WarmedH t.vm ∧ s'.sameButNew ({ t with vm := s'.vm } : State) [] 1 6 ∧ ∃ ce, t.heap[a]? = some ce ∧ ce.vm = .none ∧ s'.vm.findClass X = some ce.cls) (F0 m pc ls st) := by
    refine W.newcK C.1 C.2.1 hown' (hE.words _ hcl) (hE.words _ hinst) (hE.words _ hini) rfl hd0 (by show 0 + 1 ≤ R.cells - 0; omega) (by show 0 + 6 ≤ R.slots - 0; omega) hcX rfl fun H1 kC hkC e1 z1 o1 => ?_
    refine lv_dup (pc := pc + 3) (ls := ls) C.1 C.2.1 hd3 rfl ?_
    refine va_ldcS (pc := pc + 4) (ls := ls) C.1 C.2.1 hown' hsa hd4 ?_
    intro T2 hT2 X2
    obtain ⟨U, u1, u2, u3, u4, u5, ce, u6, u7, u8⟩ := x_ctorThrowN X2 C.1 C.2.2.2.2.2.2.2 (own := own) (cls := X) (sup := sup) (names := names) (ic := ic) hown' hX hsup hnames b0 b1 b2 b5 hatoms (fun x hx => by cases hx) (a := H.size) hcX hkC (by rw [hT2]; exact e1) (by rw [hheap]; exact Nat.le_refl _) (msg := .ref sa) rfl
      (g := F0 m (pc + 6) ls (.ref sa :: .ref H.size :: .ref H.size :: st)) rfl (by rw [C.2.2.1]; exact hl.1) rfl rfl (rest := st) rfl (by rw [C.2.1]; exact hd6) (by rw [C.2.1]; exact hd9) (covers_of_empty hne _) hRf (by show 2 * 0 + _ + _ ≤ R.locals; rw [← hrl]; omega) C.locks
    exact ⟨U, u1, H.size, u2, u3, u4, u5, ce, u6, u7, u8⟩
  obtain ⟨U, u1, a, u2, u3, u4, u5, ce, u6, u7, u8⟩ := K T hT X'
  have hWU : s.WarmedH U.vm := State.WarmedH.trans hW u4
  have hsz : s'.heap.size ≤ U.heap.size := u5.2.1
  have hk : ∀ q : Nat, q < H.size → U.heap[q]? = H[q]? := fun q hq => by
    have := x_sameHeap u5 q (by rw [hheap]; exact hq)
    rw [this, hheap]
  have hsame : s.sameButNew ({ U with vm := s.vm } : State) locs 1 6 := by
    have h2 : (T.setVm s.vm).sameButNew ({ U with vm := s.vm } : State) [] 1 6 := by
      obtain ⟨a1, a2⟩ := u5
      subst hs'
      refine ⟨?_, a2⟩
      have a3 := congrArg (fun z : State => z.setVm s.vm) a1
      have a4 : ({ U with vm := s.vm } : State) = ({ (T.setFrames (.invoking m args :: below)).setFrames U.frames with heap := U.heap, slotsUsed := U.slotsUsed } : State).setVm s.vm := a3
      rw [State.setFrames_setFrames] at a4
      exact a4
    have h3 := X0.same.trans h2
    simpa using h3
  refine ⟨U, u1, .threw a, u2, u3, ⟨⟨.inr X, E, ⟨a, ce, rfl, u6, u7, by rw [u4.alike.findClass]; exact u8⟩, hp, hw.kept hk⟩, ?_⟩, locs, ⟨hWU, hsame.mono hkT hnT⟩, hS.2.2⟩
  refine ⟨Nat.le_trans hS.1 (by rw [← hheap]; exact hsz), fun q h1 h2 => ?_⟩
  rw [hk q (Nat.lt_of_lt_of_le h1 hS.1)]
  exact hS.2.1 q h1 h2
theorem nb0 : decode prog_19_method_4_code 0 = .ok (.aload_n 0, 1) := by decide +kernel
theorem nb1 : decode prog_19_method_4_code 1 = .ok (.aload_n 1, 1) := by decide +kernel
theorem nb2 : decode prog_19_method_4_code 2 = .ok (.invokespecial 13, 3) := by decide +kernel
theorem nb5 : decode prog_19_method_4_code 5 = .ok (.return_, 1) := by decide +kernel
theorem at_NS : ∀ a ∈ xNA "ChunkStore" 70 "java/util/NoSuchElementException" "java/lang/RuntimeException" ["java/lang/Exception"] 13 prog_19_method_4_code, a ∈ xT ∨ a ∈ xN ∨ a ∈ xStatics := by decide +kernel
theorem th_NS {is j : Nat} {tx : String} (C : xC p l e s m meth c cc nL "ChunkStore" args D cl tys base) (hne : c.exceptionTable.isEmpty = true) (hst : (st.map fun v => v.category).sum ≤ 8) (hd0 : decode cc pc = .ok (.new 66, 3)) (hd3 : decode cc (pc + 3) = .ok (.dup, 1)) (hd4 : decode cc (pc + 4) = .ok (.ldc is, 2)) (hd6 : decode cc (pc + 6) = .ok (.invokespecial 70, 3)) (hd9 : decode cc (pc + 9) = .ok (.athrow, 1)) (hstr : ("ChunkStore", is, tx) ∈ xStr) (hp : post (.inr e_NS) E) : xG p l e (xrm j) s m args below meth c (xMQ below (xQc D cl base g n post) args s 0 0 1 6 (fun q => base ≤ q)) nL D cl base g n E 0 0 pc lv st :=
  x_throwN C hne hd0 hd3 hd4 hd6 hd9 kw263 kw264 kw12 hstr (by decide +kernel) (by decide +kernel) (by decide +kernel) nb0 nb1 nb2 nb5 at_NS (by show 1 + 4 < 6 + j; omega) (by show 1 + (st.map fun v => v.category).sum + (13 * 3 + 42) ≤ 100 + 30 * j; omega) (Nat.le_refl _) (Nat.le_refl _) (Nat.le_refl _) (Nat.le_refl _) hp
end XNT
end
section
section XCL
variable {p : Program} {l : Launch} {e : Env} {s : State} {m : MethodId} {args : Array Value} {below : List Frame} {meth : Method} {c : Code} {Q : State → Prop} {nL : Nat} {D : va_G} {base : Nat} {g : Nat → Nat} {cc : ByteArray} {n j k pc : Nat} {E : Nat → va_E} {lv : List (Nat × Value)} {st rest As : List Value} {a : Nat → ClassId} {σ : Nat → Nat → Nat → Nat} {w : Nat → Nat → Int32} {Y : Nat → va_E} {post' : xR → (Nat → va_E) → Prop}
theorem ny_CS : "ChunkStore" ≠ "java/lang/invoke/MethodHandle" ∧ "ChunkStore" ≠ "java/lang/invoke/VarHandle" := by decide
theorem ny_CH : "ChunkStore$Chunk" ≠ "java/lang/invoke/MethodHandle" ∧ "ChunkStore$Chunk" ≠ "java/lang/invoke/VarHandle" := by decide
theorem ny_FE : "ChunkStore$FileEntry" ≠ "java/lang/invoke/MethodHandle" ∧ "ChunkStore$FileEntry" ≠ "java/lang/invoke/VarHandle" := by decide
theorem ny_KP : "ChunkStore$Kept" ≠ "java/lang/invoke/MethodHandle" ∧ "ChunkStore$Kept" ≠ "java/lang/invoke/VarHandle" := by decide
theorem ny_SV : "ChunkStore$Server" ≠ "java/lang/invoke/MethodHandle" ∧ "ChunkStore$Server" ≠ "java/lang/invoke/VarHandle" := by decide
theorem ny_IN : "java/lang/Integer" ≠ "java/lang/invoke/MethodHandle" ∧ "java/lang/Integer" ≠ "java/lang/invoke/VarHandle" := by decide
theorem ny_MA : "java/lang/Math" ≠ "java/lang/invoke/MethodHandle" ∧ "java/lang/Math" ≠ "java/lang/invoke/VarHandle" := by decide
theorem pl_CS_init : (parseMethodDescriptor y_CS_init.desc).map (fun d => d.parameters.length) = some 0 := by decide +kernel
theorem pl_FE_init : (parseMethodDescriptor y_FE_init.desc).map (fun d => d.parameters.length) = some 0 := by decide +kernel
theorem pl_CH_init : (parseMethodDescriptor y_CH_init.desc).map (fun d => d.parameters.length) = some 0 := by decide +kernel
theorem pl_SV_init : (parseMethodDescriptor y_SV_init.desc).map (fun d => d.parameters.length) = some 0 := by decide +kernel
theorem pl_KP_init : (parseMethodDescriptor y_KP_init.desc).map (fun d => d.parameters.length) = some 0 := by decide +kernel
theorem pl_CS_sweep : (parseMethodDescriptor y_CS_sweep.desc).map (fun d => d.parameters.length) = some 0 := by decide +kernel
theorem pl_CS_forget : (parseMethodDescriptor y_CS_forget.desc).map (fun d => d.parameters.length) = some 1 := by decide +kernel
theorem pl_CS_create : (parseMethodDescriptor y_CS_create.desc).map (fun d => d.parameters.length) = some 1 := by decide +kernel
theorem pl_CS_checkRange : (parseMethodDescriptor y_CS_checkRange.desc).map (fun d => d.parameters.length) = some 2 := by decide +kernel
theorem pl_CS_fileNotYet : (parseMethodDescriptor y_CS_fileNotYet.desc).map (fun d => d.parameters.length) = some 1 := by decide +kernel
theorem pl_CS_countThere : (parseMethodDescriptor y_CS_countThere.desc).map (fun d => d.parameters.length) = some 0 := by decide +kernel
theorem pl_CS_remove : (parseMethodDescriptor y_CS_remove.desc).map (fun d => d.parameters.length) = some 1 := by decide +kernel
theorem pl_CS_fileThere : (parseMethodDescriptor y_CS_fileThere.desc).map (fun d => d.parameters.length) = some 1 := by decide +kernel
theorem pl_CS_restore : (parseMethodDescriptor y_CS_restore.desc).map (fun d => d.parameters.length) = some 1 := by decide +kernel
theorem pl_CS_copy : (parseMethodDescriptor y_CS_copy.desc).map (fun d => d.parameters.length) = some 2 := by decide +kernel
theorem pl_FE_addAtEnd : (parseMethodDescriptor y_FE_addAtEnd.desc).map (fun d => d.parameters.length) = some 1 := by decide +kernel
theorem pl_CS_extend : (parseMethodDescriptor y_CS_extend.desc).map (fun d => d.parameters.length) = some 1 := by decide +kernel
theorem pl_CS_makeChunk : (parseMethodDescriptor y_CS_makeChunk.desc).map (fun d => d.parameters.length) = some 1 := by decide +kernel
theorem pl_CS_choose : (parseMethodDescriptor y_CS_choose.desc).map (fun d => d.parameters.length) = some 2 := by decide +kernel
theorem pl_CS_lightest : (parseMethodDescriptor y_CS_lightest.desc).map (fun d => d.parameters.length) = some 2 := by decide +kernel
theorem pl_SV_isFull : (parseMethodDescriptor y_SV_isFull.desc).map (fun d => d.parameters.length) = some 0 := by decide +kernel
theorem pl_SV_has : (parseMethodDescriptor y_SV_has.desc).map (fun d => d.parameters.length) = some 1 := by decide +kernel
theorem pl_CS_isIn : (parseMethodDescriptor y_CS_isIn.desc).map (fun d => d.parameters.length) = some 2 := by decide +kernel
theorem pl_CS_startChunk : (parseMethodDescriptor y_CS_startChunk.desc).map (fun d => d.parameters.length) = some 1 := by decide +kernel
theorem pl_SV_addEmpty : (parseMethodDescriptor y_SV_addEmpty.desc).map (fun d => d.parameters.length) = some 1 := by decide +kernel
theorem pl_CS_locate : (parseMethodDescriptor y_CS_locate.desc).map (fun d => d.parameters.length) = some 3 := by decide +kernel
theorem pl_CS_find : (parseMethodDescriptor y_CS_find.desc).map (fun d => d.parameters.length) = some 3 := by decide +kernel
theorem pl_CS_checkPlace : (parseMethodDescriptor y_CS_checkPlace.desc).map (fun d => d.parameters.length) = some 2 := by decide +kernel
theorem pl_CS_write : (parseMethodDescriptor y_CS_write.desc).map (fun d => d.parameters.length) = some 4 := by decide +kernel
theorem pl_CS_lease : (parseMethodDescriptor y_CS_lease.desc).map (fun d => d.parameters.length) = some 2 := by decide +kernel
theorem pl_CS_liveHolders : (parseMethodDescriptor y_CS_liveHolders.desc).map (fun d => d.parameters.length) = some 1 := by decide +kernel
theorem pl_CS_isLeased : (parseMethodDescriptor y_CS_isLeased.desc).map (fun d => d.parameters.length) = some 1 := by decide +kernel
theorem pl_CS_splitOff : (parseMethodDescriptor y_CS_splitOff.desc).map (fun d => d.parameters.length) = some 3 := by decide +kernel
theorem pl_CS_anyFull : (parseMethodDescriptor y_CS_anyFull.desc).map (fun d => d.parameters.length) = some 1 := by decide +kernel
theorem pl_SV_addLike : (parseMethodDescriptor y_SV_addLike.desc).map (fun d => d.parameters.length) = some 4 := by decide +kernel
theorem pl_CS_raiseVersion : (parseMethodDescriptor y_CS_raiseVersion.desc).map (fun d => d.parameters.length) = some 2 := by decide +kernel
theorem pl_CS_setWordAtHolders : (parseMethodDescriptor y_CS_setWordAtHolders.desc).map (fun d => d.parameters.length) = some 3 := by decide +kernel
theorem pl_SV_setWord : (parseMethodDescriptor y_SV_setWord.desc).map (fun d => d.parameters.length) = some 3 := by decide +kernel
theorem pl_MA_max : (parseMethodDescriptor y_MA_max.desc).map (fun d => d.parameters.length) = some 2 := by decide +kernel
theorem pl_CS_append : (parseMethodDescriptor y_CS_append.desc).map (fun d => d.parameters.length) = some 2 := by decide +kernel
theorem pl_CS_usedAtFirst : (parseMethodDescriptor y_CS_usedAtFirst.desc).map (fun d => d.parameters.length) = some 1 := by decide +kernel
theorem pl_CS_first : (parseMethodDescriptor y_CS_first.desc).map (fun d => d.parameters.length) = some 1 := by decide +kernel
theorem pl_CS_read : (parseMethodDescriptor y_CS_read.desc).map (fun d => d.parameters.length) = some 5 := by decide +kernel
theorem pl_SV_word : (parseMethodDescriptor y_SV_word.desc).map (fun d => d.parameters.length) = some 2 := by decide +kernel
theorem pl_CS_up : (parseMethodDescriptor y_CS_up.desc).map (fun d => d.parameters.length) = some 2 := by decide +kernel
theorem pl_CS_report : (parseMethodDescriptor y_CS_report.desc).map (fun d => d.parameters.length) = some 1 := by decide +kernel
theorem pl_CS_confirmReplica : (parseMethodDescriptor y_CS_confirmReplica.desc).map (fun d => d.parameters.length) = some 2 := by decide +kernel
theorem pl_SV_drop : (parseMethodDescriptor y_SV_drop.desc).map (fun d => d.parameters.length) = some 1 := by decide +kernel
theorem pl_CS_repair : (parseMethodDescriptor y_CS_repair.desc).map (fun d => d.parameters.length) = some 0 := by decide +kernel
theorem pl_CS_mostInNeed : (parseMethodDescriptor y_CS_mostInNeed.desc).map (fun d => d.parameters.length) = some 0 := by decide +kernel
theorem pl_IN_bitCount : (parseMethodDescriptor y_IN_bitCount.desc).map (fun d => d.parameters.length) = some 1 := by decide +kernel
theorem pl_CS_tick : (parseMethodDescriptor y_CS_tick.desc).map (fun d => d.parameters.length) = some 1 := by decide +kernel
theorem pl_CS_load : (parseMethodDescriptor y_CS_load.desc).map (fun d => d.parameters.length) = some 0 := by decide +kernel
theorem pl_CS_look : (parseMethodDescriptor y_CS_look.desc).map (fun d => d.parameters.length) = some 3 := by decide +kernel
theorem pl_CS_file : (parseMethodDescriptor y_CS_file.desc).map (fun d => d.parameters.length) = some 2 := by decide +kernel
theorem pl_CS_chunk : (parseMethodDescriptor y_CS_chunk.desc).map (fun d => d.parameters.length) = some 2 := by decide +kernel
theorem pl_MD_init : (parseMethodDescriptor y_MD_init.desc).map (fun d => d.parameters.length) = some 0 := by decide +kernel
theorem pl_MD_thrown : (parseMethodDescriptor y_MD_thrown.desc).map (fun d => d.parameters.length) = some 0 := by decide +kernel
theorem pl_MD_create : (parseMethodDescriptor y_MD_create.desc).map (fun d => d.parameters.length) = some 1 := by decide +kernel
theorem pl_MD_out : (parseMethodDescriptor y_MD_out.desc).map (fun d => d.parameters.length) = some 2 := by decide +kernel
theorem pl_MD_fail : (parseMethodDescriptor y_MD_fail.desc).map (fun d => d.parameters.length) = some 1 := by decide +kernel
theorem pl_MD_remove : (parseMethodDescriptor y_MD_remove.desc).map (fun d => d.parameters.length) = some 1 := by decide +kernel
theorem pl_MD_restore : (parseMethodDescriptor y_MD_restore.desc).map (fun d => d.parameters.length) = some 1 := by decide +kernel
theorem pl_MD_copy : (parseMethodDescriptor y_MD_copy.desc).map (fun d => d.parameters.length) = some 2 := by decide +kernel
theorem pl_MD_extend : (parseMethodDescriptor y_MD_extend.desc).map (fun d => d.parameters.length) = some 1 := by decide +kernel
theorem pl_MD_makeChunk : (parseMethodDescriptor y_MD_makeChunk.desc).map (fun d => d.parameters.length) = some 1 := by decide +kernel
theorem pl_MD_choose : (parseMethodDescriptor y_MD_choose.desc).map (fun d => d.parameters.length) = some 2 := by decide +kernel
theorem pl_MD_loadOf : (parseMethodDescriptor y_MD_loadOf.desc).map (fun d => d.parameters.length) = some 1 := by decide +kernel
theorem pl_MD_place : (parseMethodDescriptor y_MD_place.desc).map (fun d => d.parameters.length) = some 3 := by decide +kernel
theorem pl_MD_locate : (parseMethodDescriptor y_MD_locate.desc).map (fun d => d.parameters.length) = some 3 := by decide +kernel
theorem pl_MD_find : (parseMethodDescriptor y_MD_find.desc).map (fun d => d.parameters.length) = some 3 := by decide +kernel
theorem pl_MD_write : (parseMethodDescriptor y_MD_write.desc).map (fun d => d.parameters.length) = some 4 := by decide +kernel
theorem pl_MD_takeLease : (parseMethodDescriptor y_MD_takeLease.desc).map (fun d => d.parameters.length) = some 2 := by decide +kernel
theorem pl_MD_live : (parseMethodDescriptor y_MD_live.desc).map (fun d => d.parameters.length) = some 1 := by decide +kernel
theorem pl_MD_refs : (parseMethodDescriptor y_MD_refs.desc).map (fun d => d.parameters.length) = some 1 := by decide +kernel
theorem pl_MD_store : (parseMethodDescriptor y_MD_store.desc).map (fun d => d.parameters.length) = some 3 := by decide +kernel
theorem pl_MD_append : (parseMethodDescriptor y_MD_append.desc).map (fun d => d.parameters.length) = some 2 := by decide +kernel
theorem pl_MD_usedIn : (parseMethodDescriptor y_MD_usedIn.desc).map (fun d => d.parameters.length) = some 1 := by decide +kernel
theorem pl_MD_first : (parseMethodDescriptor y_MD_first.desc).map (fun d => d.parameters.length) = some 1 := by decide +kernel
theorem pl_MD_read : (parseMethodDescriptor y_MD_read.desc).map (fun d => d.parameters.length) = some 5 := by decide +kernel
theorem pl_MD_up : (parseMethodDescriptor y_MD_up.desc).map (fun d => d.parameters.length) = some 2 := by decide +kernel
theorem pl_MD_report : (parseMethodDescriptor y_MD_report.desc).map (fun d => d.parameters.length) = some 1 := by decide +kernel
theorem pl_MD_repair : (parseMethodDescriptor y_MD_repair.desc).map (fun d => d.parameters.length) = some 0 := by decide +kernel
theorem pl_MD_ones : (parseMethodDescriptor y_MD_ones.desc).map (fun d => d.parameters.length) = some 1 := by decide +kernel
theorem pl_MD_sweep : (parseMethodDescriptor y_MD_sweep.desc).map (fun d => d.parameters.length) = some 0 := by decide +kernel
theorem pl_MD_tick : (parseMethodDescriptor y_MD_tick.desc).map (fun d => d.parameters.length) = some 1 := by decide +kernel
theorem pl_MD_load : (parseMethodDescriptor y_MD_load.desc).map (fun d => d.parameters.length) = some 0 := by decide +kernel
theorem pl_MD_look : (parseMethodDescriptor y_MD_look.desc).map (fun d => d.parameters.length) = some 3 := by decide +kernel
theorem pl_MD_file : (parseMethodDescriptor y_MD_file.desc).map (fun d => d.parameters.length) = some 2 := by decide +kernel
theorem pl_MD_chunk : (parseMethodDescriptor y_MD_chunk.desc).map (fun d => d.parameters.length) = some 2 := by decide +kernel
theorem ny_MD : "ChunkStoreModel" ≠ "java/lang/invoke/MethodHandle" ∧ "ChunkStoreModel" ≠ "java/lang/invoke/VarHandle" := by decide
theorem c_CS_CS_forget (C : xC p l e s m meth c cc nL "ChunkStore" args D xcl (xty a) base) (hjk : j < k) (hn : 143 ≤ n) (hM : xM l y_CS_forget b_CS_forget 3 none j D a base g n (EL a g σ w Y) (.ref (g (0)) :: As) post') (hna : As.length = 1) (hstk : st = As.reverse ++ .ref (g (0)) :: rest) (hcat : (rest.map fun v => v.category).sum ≤ 8) (hdg : decode cc pc = .ok (.invokevirtual 182, 3)) (kR : ∀ (v : Option Value) (E' : Nat → va_E), post' (.inl v) E' → xG p l e (xrm k) s m args below meth c Q nL D xcl base g n E' 0 0 (pc + 3) lv (v.toList ++ rest)) (kX : ∀ (X : String) (E' : Nat → va_E), post' (.inr X) E' → xGT p l e (xrm k) s m args below meth c Q nL D xcl base g n E' 1 6 pc lv rest X) : xG p l e (xrm k) s m args below meth c Q nL D xcl base g n (EL a g σ w Y) 0 0 pc lv st :=
  x_callV (Cn := R_CS) C hM (by omega) EL_cs (ci := 0) (r := (R_CS, F_CS, 6)) rfl kw143 kw142 ks0 kw1 kw140 ny_CS (by rw [hna]; exact pl_CS_forget) (x_room hjk (by decide)) x_roomc hstk hcat hdg kR kX
theorem c_CS_CS_checkRange (C : xC p l e s m meth c cc nL "ChunkStore" args D xcl (xty a) base) (hjk : j < k) (hM : xM l y_CS_checkRange b_CS_checkRange 2 none j D a base g n E As post') (hna : As.length = 2) (hstk : st = As.reverse ++ rest) (hcat : (rest.map fun v => v.category).sum ≤ 8) (hdg : decode cc pc = .ok (.invokestatic 37, 3)) (kR : ∀ (v : Option Value) (E' : Nat → va_E), post' (.inl v) E' → xG p l e (xrm k) s m args below meth c Q nL D xcl base g n E' 0 0 (pc + 3) lv (v.toList ++ rest)) (kX : ∀ (X : String) (E' : Nat → va_E), post' (.inr X) E' → xGT p l e (xrm k) s m args below meth c Q nL D xcl base g n E' 1 6 pc lv rest X) : xG p l e (xrm k) s m args below meth c Q nL D xcl base g n E 0 0 pc lv st :=
  x_callS C hM kw155 kw154 kw1 kw153 ny_CS (by rw [hna]; exact pl_CS_checkRange) (x_room hjk (by decide)) x_roomc hstk hcat hdg kR kX
theorem c_CS_CS_fileNotYet (C : xC p l e s m meth c cc nL "ChunkStore" args D xcl (xty a) base) (hjk : j < k) (hn : 143 ≤ n) (hM : xM l y_CS_fileNotYet b_CS_fileNotYet 2 (some (FieldType.object "ChunkStore$FileEntry")) j D a base g n (EL a g σ w Y) (.ref (g (0)) :: As) post') (hna : As.length = 1) (hstk : st = As.reverse ++ .ref (g (0)) :: rest) (hcat : (rest.map fun v => v.category).sum ≤ 8) (hdg : decode cc pc = .ok (.invokevirtual 41, 3)) (kR : ∀ (v : Option Value) (E' : Nat → va_E), post' (.inl v) E' → xG p l e (xrm k) s m args below meth c Q nL D xcl base g n E' 0 0 (pc + 3) lv (v.toList ++ rest)) (kX : ∀ (X : String) (E' : Nat → va_E), post' (.inr X) E' → xGT p l e (xrm k) s m args below meth c Q nL D xcl base g n E' 1 6 pc lv rest X) : xG p l e (xrm k) s m args below meth c Q nL D xcl base g n (EL a g σ w Y) 0 0 pc lv st :=
  x_callV (Cn := R_CS) C hM (by omega) EL_cs (ci := 0) (r := (R_CS, F_CS, 6)) rfl kw230 kw229 ks2 kw1 kw227 ny_CS (by rw [hna]; exact pl_CS_fileNotYet) (x_room hjk (by decide)) x_roomc hstk hcat hdg kR kX
theorem c_CS_CS_countThere (C : xC p l e s m meth c cc nL "ChunkStore" args D xcl (xty a) base) (hjk : j < k) (hn : 143 ≤ n) (hM : xM l y_CS_countThere b_CS_countThere 3 (some FieldType.int) j D a base g n (EL a g σ w Y) (.ref (g (0)) :: As) post') (hna : As.length = 0) (hstk : st = As.reverse ++ .ref (g (0)) :: rest) (hcat : (rest.map fun v => v.category).sum ≤ 8) (hdg : decode cc pc = .ok (.invokevirtual 49, 3)) (kR : ∀ (v : Option Value) (E' : Nat → va_E), post' (.inl v) E' → xG p l e (xrm k) s m args below meth c Q nL D xcl base g n E' 0 0 (pc + 3) lv (v.toList ++ rest)) (kX : ∀ (X : String) (E' : Nat → va_E), post' (.inr X) E' → xGT p l e (xrm k) s m args below meth c Q nL D xcl base g n E' 1 6 pc lv rest X) : xG p l e (xrm k) s m args below meth c Q nL D xcl base g n (EL a g σ w Y) 0 0 pc lv st :=
  x_callV (Cn := R_CS) C hM (by omega) EL_cs (ci := 0) (r := (R_CS, F_CS, 6)) rfl kw250 kw249 ks3 kw1 kw247 ny_CS (by rw [hna]; exact pl_CS_countThere) (x_room hjk (by decide)) x_roomc hstk hcat hdg kR kX
theorem c_CS_CS_fileThere (C : xC p l e s m meth c cc nL "ChunkStore" args D xcl (xty a) base) (hjk : j < k) (hn : 143 ≤ n) (hM : xM l y_CS_fileThere b_CS_fileThere 2 (some (FieldType.object "ChunkStore$FileEntry")) j D a base g n (EL a g σ w Y) (.ref (g (0)) :: As) post') (hna : As.length = 1) (hstk : st = As.reverse ++ .ref (g (0)) :: rest) (hcat : (rest.map fun v => v.category).sum ≤ 8) (hdg : decode cc pc = .ok (.invokevirtual 53, 3)) (kR : ∀ (v : Option Value) (E' : Nat → va_E), post' (.inl v) E' → xG p l e (xrm k) s m args below meth c Q nL D xcl base g n E' 0 0 (pc + 3) lv (v.toList ++ rest)) (kX : ∀ (X : String) (E' : Nat → va_E), post' (.inr X) E' → xGT p l e (xrm k) s m args below meth c Q nL D xcl base g n E' 1 6 pc lv rest X) : xG p l e (xrm k) s m args below meth c Q nL D xcl base g n (EL a g σ w Y) 0 0 pc lv st :=
  x_callV (Cn := R_CS) C hM (by omega) EL_cs (ci := 0) (r := (R_CS, F_CS, 6)) rfl kw262 kw261 ks4 kw1 kw259 ny_CS (by rw [hna]; exact pl_CS_fileThere) (x_room hjk (by decide)) x_roomc hstk hcat hdg kR kX
theorem c_CS_FE_addAtEnd (C : xC p l e s m meth c cc nL "ChunkStore" args D xcl (xty a) base) (hjk : j < k) {i : Nat} (hi : i < 8) (hn : 143 ≤ n) (hM : xM l y_FE_addAtEnd b_FE_addAtEnd 2 none j D a base g n (EL a g σ w Y) (.ref (g (2 + 2 * i)) :: As) post') (hna : As.length = 1) (hstk : st = As.reverse ++ .ref (g (2 + 2 * i)) :: rest) (hcat : (rest.map fun v => v.category).sum ≤ 8) (hdg : decode cc pc = .ok (.invokevirtual 83, 3)) (kR : ∀ (v : Option Value) (E' : Nat → va_E), post' (.inl v) E' → xG p l e (xrm k) s m args below meth c Q nL D xcl base g n E' 0 0 (pc + 3) lv (v.toList ++ rest)) (kX : ∀ (X : String) (E' : Nat → va_E), post' (.inr X) E' → xGT p l e (xrm k) s m args below meth c Q nL D xcl base g n E' 1 6 pc lv rest X) : xG p l e (xrm k) s m args below meth c Q nL D xcl base g n (EL a g σ w Y) 0 0 pc lv st :=
  x_callVN C hM (by omega) (EL_file hi) (ci := 2) (r := (R_FE, F_FE, 4)) rfl kw297 kw296 ks5 kw2 kn294 ny_FE (by rw [hna]; exact pl_FE_addAtEnd) (x_room hjk (by decide)) x_roomc hstk hcat hdg kR kX
theorem c_CS_CS_makeChunk (C : xC p l e s m meth c cc nL "ChunkStore" args D xcl (xty a) base) (hjk : j < k) (hn : 143 ≤ n) (hM : xM l y_CS_makeChunk b_CS_makeChunk 5 (some FieldType.int) j D a base g n (EL a g σ w Y) (.ref (g (0)) :: As) post') (hna : As.length = 1) (hstk : st = As.reverse ++ .ref (g (0)) :: rest) (hcat : (rest.map fun v => v.category).sum ≤ 8) (hdg : decode cc pc = .ok (.invokevirtual 87, 3)) (kR : ∀ (v : Option Value) (E' : Nat → va_E), post' (.inl v) E' → xG p l e (xrm k) s m args below meth c Q nL D xcl base g n E' 0 0 (pc + 3) lv (v.toList ++ rest)) (kX : ∀ (X : String) (E' : Nat → va_E), post' (.inr X) E' → xGT p l e (xrm k) s m args below meth c Q nL D xcl base g n E' 1 6 pc lv rest X) : xG p l e (xrm k) s m args below meth c Q nL D xcl base g n (EL a g σ w Y) 0 0 pc lv st :=
  x_callV (Cn := R_CS) C hM (by omega) EL_cs (ci := 0) (r := (R_CS, F_CS, 6)) rfl kw309 kw308 ks6 kw1 kw306 ny_CS (by rw [hna]; exact pl_CS_makeChunk) (x_room hjk (by decide)) x_roomc hstk hcat hdg kR kX
theorem c_CS_CS_choose (C : xC p l e s m meth c cc nL "ChunkStore" args D xcl (xty a) base) (hjk : j < k) (hn : 143 ≤ n) (hM : xM l y_CS_choose b_CS_choose 6 (some FieldType.int) j D a base g n (EL a g σ w Y) (.ref (g (0)) :: As) post') (hna : As.length = 2) (hstk : st = As.reverse ++ .ref (g (0)) :: rest) (hcat : (rest.map fun v => v.category).sum ≤ 8) (hdg : decode cc pc = .ok (.invokevirtual 231, 3)) (kR : ∀ (v : Option Value) (E' : Nat → va_E), post' (.inl v) E' → xG p l e (xrm k) s m args below meth c Q nL D xcl base g n E' 0 0 (pc + 3) lv (v.toList ++ rest)) (kX : ∀ (X : String) (E' : Nat → va_E), post' (.inr X) E' → xGT p l e (xrm k) s m args below meth c Q nL D xcl base g n E' 1 6 pc lv rest X) : xG p l e (xrm k) s m args below meth c Q nL D xcl base g n (EL a g σ w Y) 0 0 pc lv st :=
  x_callV (Cn := R_CS) C hM (by omega) EL_cs (ci := 0) (r := (R_CS, F_CS, 6)) rfl kw329 kw328 ks7 kw1 kw326 ny_CS (by rw [hna]; exact pl_CS_choose) (x_room hjk (by decide)) x_roomc hstk hcat hdg kR kX
theorem c_CS_CS_lightest (C : xC p l e s m meth c cc nL "ChunkStore" args D xcl (xty a) base) (hjk : j < k) (hn : 143 ≤ n) (hM : xM l y_CS_lightest b_CS_lightest 7 (some FieldType.int) j D a base g n (EL a g σ w Y) (.ref (g (0)) :: As) post') (hna : As.length = 2) (hstk : st = As.reverse ++ .ref (g (0)) :: rest) (hcat : (rest.map fun v => v.category).sum ≤ 8) (hdg : decode cc pc = .ok (.invokevirtual 164, 3)) (kR : ∀ (v : Option Value) (E' : Nat → va_E), post' (.inl v) E' → xG p l e (xrm k) s m args below meth c Q nL D xcl base g n E' 0 0 (pc + 3) lv (v.toList ++ rest)) (kX : ∀ (X : String) (E' : Nat → va_E), post' (.inr X) E' → xGT p l e (xrm k) s m args below meth c Q nL D xcl base g n E' 1 6 pc lv rest X) : xG p l e (xrm k) s m args below meth c Q nL D xcl base g n (EL a g σ w Y) 0 0 pc lv st :=
  x_callV (Cn := R_CS) C hM (by omega) EL_cs (ci := 0) (r := (R_CS, F_CS, 6)) rfl kw333 kw332 ks8 kw1 kw330 ny_CS (by rw [hna]; exact pl_CS_lightest) (x_room hjk (by decide)) x_roomc hstk hcat hdg kR kX
theorem c_CS_SV_isFull (C : xC p l e s m meth c cc nL "ChunkStore" args D xcl (xty a) base) (hjk : j < k) {i : Nat} (hi : i < 5) (hn : 143 ≤ n) (hM : xM l y_SV_isFull b_SV_isFull 1 (some FieldType.boolean) j D a base g n (EL a g σ w Y) (.ref (g (50 + 4 * i)) :: As) post') (hna : As.length = 0) (hstk : st = As.reverse ++ .ref (g (50 + 4 * i)) :: rest) (hcat : (rest.map fun v => v.category).sum ≤ 8) (hdg : decode cc pc = .ok (.invokevirtual 225, 3)) (kR : ∀ (v : Option Value) (E' : Nat → va_E), post' (.inl v) E' → xG p l e (xrm k) s m args below meth c Q nL D xcl base g n E' 0 0 (pc + 3) lv (v.toList ++ rest)) (kX : ∀ (X : String) (E' : Nat → va_E), post' (.inr X) E' → xGT p l e (xrm k) s m args below meth c Q nL D xcl base g n E' 1 6 pc lv rest X) : xG p l e (xrm k) s m args below meth c Q nL D xcl base g n (EL a g σ w Y) 0 0 pc lv st :=
  x_callVN C hM (by omega) (EL_server hi) (ci := 4) (r := (R_SV, F_SV, 5)) rfl kw337 kw336 ks9 kw4 kn334 ny_SV (by rw [hna]; exact pl_SV_isFull) (x_room hjk (by decide)) x_roomc hstk hcat hdg kR kX
theorem c_CS_SV_has (C : xC p l e s m meth c cc nL "ChunkStore" args D xcl (xty a) base) (hjk : j < k) {i : Nat} (hi : i < 5) (hn : 143 ≤ n) (hM : xM l y_SV_has b_SV_has 2 (some FieldType.boolean) j D a base g n (EL a g σ w Y) (.ref (g (50 + 4 * i)) :: As) post') (hna : As.length = 1) (hstk : st = As.reverse ++ .ref (g (50 + 4 * i)) :: rest) (hcat : (rest.map fun v => v.category).sum ≤ 8) (hdg : decode cc pc = .ok (.invokevirtual 154, 3)) (kR : ∀ (v : Option Value) (E' : Nat → va_E), post' (.inl v) E' → xG p l e (xrm k) s m args below meth c Q nL D xcl base g n E' 0 0 (pc + 3) lv (v.toList ++ rest)) (kX : ∀ (X : String) (E' : Nat → va_E), post' (.inr X) E' → xGT p l e (xrm k) s m args below meth c Q nL D xcl base g n E' 1 6 pc lv rest X) : xG p l e (xrm k) s m args below meth c Q nL D xcl base g n (EL a g σ w Y) 0 0 pc lv st :=
  x_callVN C hM (by omega) (EL_server hi) (ci := 4) (r := (R_SV, F_SV, 5)) rfl kw341 kw340 ks10 kw4 kn338 ny_SV (by rw [hna]; exact pl_SV_has) (x_room hjk (by decide)) x_roomc hstk hcat hdg kR kX
theorem c_CS_CS_isIn (C : xC p l e s m meth c cc nL "ChunkStore" args D xcl (xty a) base) (hjk : j < k) (hM : xM l y_CS_isIn b_CS_isIn 2 (some FieldType.boolean) j D a base g n E As post') (hna : As.length = 2) (hstk : st = As.reverse ++ rest) (hcat : (rest.map fun v => v.category).sum ≤ 8) (hdg : decode cc pc = .ok (.invokestatic 118, 3)) (kR : ∀ (v : Option Value) (E' : Nat → va_E), post' (.inl v) E' → xG p l e (xrm k) s m args below meth c Q nL D xcl base g n E' 0 0 (pc + 3) lv (v.toList ++ rest)) (kX : ∀ (X : String) (E' : Nat → va_E), post' (.inr X) E' → xGT p l e (xrm k) s m args below meth c Q nL D xcl base g n E' 1 6 pc lv rest X) : xG p l e (xrm k) s m args below meth c Q nL D xcl base g n E 0 0 pc lv st :=
  x_callS C hM kw344 kw343 kw1 kw342 ny_CS (by rw [hna]; exact pl_CS_isIn) (x_room hjk (by decide)) x_roomc hstk hcat hdg kR kX
theorem c_CS_CS_startChunk (C : xC p l e s m meth c cc nL "ChunkStore" args D xcl (xty a) base) (hjk : j < k) (hn : 143 ≤ n) (hM : xM l y_CS_startChunk b_CS_startChunk 3 none j D a base g n (EL a g σ w Y) (.ref (g (0)) :: As) post') (hna : As.length = 1) (hstk : st = As.reverse ++ .ref (g (0)) :: rest) (hcat : (rest.map fun v => v.category).sum ≤ 8) (hdg : decode cc pc = .ok (.invokevirtual 236, 3)) (kR : ∀ (v : Option Value) (E' : Nat → va_E), post' (.inl v) E' → xG p l e (xrm k) s m args below meth c Q nL D xcl base g n E' 0 0 (pc + 3) lv (v.toList ++ rest)) (kX : ∀ (X : String) (E' : Nat → va_E), post' (.inr X) E' → xGT p l e (xrm k) s m args below meth c Q nL D xcl base g n E' 1 6 pc lv rest X) : xG p l e (xrm k) s m args below meth c Q nL D xcl base g n (EL a g σ w Y) 0 0 pc lv st :=
  x_callV (Cn := R_CS) C hM (by omega) EL_cs (ci := 0) (r := (R_CS, F_CS, 6)) rfl kw349 kw348 ks11 kw1 kw346 ny_CS (by rw [hna]; exact pl_CS_startChunk) (x_room hjk (by decide)) x_roomc hstk hcat hdg kR kX
theorem c_CS_SV_addEmpty (C : xC p l e s m meth c cc nL "ChunkStore" args D xcl (xty a) base) (hjk : j < k) {i : Nat} (hi : i < 5) (hn : 143 ≤ n) (hM : xM l y_SV_addEmpty b_SV_addEmpty 2 none j D a base g n (EL a g σ w Y) (.ref (g (50 + 4 * i)) :: As) post') (hna : As.length = 1) (hstk : st = As.reverse ++ .ref (g (50 + 4 * i)) :: rest) (hcat : (rest.map fun v => v.category).sum ≤ 8) (hdg : decode cc pc = .ok (.invokevirtual 239, 3)) (kR : ∀ (v : Option Value) (E' : Nat → va_E), post' (.inl v) E' → xG p l e (xrm k) s m args below meth c Q nL D xcl base g n E' 0 0 (pc + 3) lv (v.toList ++ rest)) (kX : ∀ (X : String) (E' : Nat → va_E), post' (.inr X) E' → xGT p l e (xrm k) s m args below meth c Q nL D xcl base g n E' 1 6 pc lv rest X) : xG p l e (xrm k) s m args below meth c Q nL D xcl base g n (EL a g σ w Y) 0 0 pc lv st :=
  x_callVN C hM (by omega) (EL_server hi) (ci := 4) (r := (R_SV, F_SV, 5)) rfl kw353 kw352 ks12 kw4 kn350 ny_SV (by rw [hna]; exact pl_SV_addEmpty) (x_room hjk (by decide)) x_roomc hstk hcat hdg kR kX
theorem c_CS_CS_find (C : xC p l e s m meth c cc nL "ChunkStore" args D xcl (xty a) base) (hjk : j < k) (hn : 143 ≤ n) (hM : xM l y_CS_find b_CS_find 7 (some (FieldType.object "ChunkStore$Kept")) j D a base g n (EL a g σ w Y) (.ref (g (0)) :: As) post') (hna : As.length = 3) (hstk : st = As.reverse ++ .ref (g (0)) :: rest) (hcat : (rest.map fun v => v.category).sum ≤ 8) (hdg : decode cc pc = .ok (.invokevirtual 91, 3)) (kR : ∀ (v : Option Value) (E' : Nat → va_E), post' (.inl v) E' → xG p l e (xrm k) s m args below meth c Q nL D xcl base g n E' 0 0 (pc + 3) lv (v.toList ++ rest)) (kX : ∀ (X : String) (E' : Nat → va_E), post' (.inr X) E' → xGT p l e (xrm k) s m args below meth c Q nL D xcl base g n E' 1 6 pc lv rest X) : xG p l e (xrm k) s m args below meth c Q nL D xcl base g n (EL a g σ w Y) 0 0 pc lv st :=
  x_callV (Cn := R_CS) C hM (by omega) EL_cs (ci := 0) (r := (R_CS, F_CS, 6)) rfl kw364 kw363 ks13 kw1 kw361 ny_CS (by rw [hna]; exact pl_CS_find) (x_room hjk (by decide)) x_roomc hstk hcat hdg kR kX
theorem c_CS_CS_checkPlace (C : xC p l e s m meth c cc nL "ChunkStore" args D xcl (xty a) base) (hjk : j < k) (hM : xM l y_CS_checkPlace b_CS_checkPlace 2 none j D a base g n E As post') (hna : As.length = 2) (hstk : st = As.reverse ++ rest) (hcat : (rest.map fun v => v.category).sum ≤ 8) (hdg : decode cc pc = .ok (.invokestatic 98, 3)) (kR : ∀ (v : Option Value) (E' : Nat → va_E), post' (.inl v) E' → xG p l e (xrm k) s m args below meth c Q nL D xcl base g n E' 0 0 (pc + 3) lv (v.toList ++ rest)) (kX : ∀ (X : String) (E' : Nat → va_E), post' (.inr X) E' → xGT p l e (xrm k) s m args below meth c Q nL D xcl base g n E' 1 6 pc lv rest X) : xG p l e (xrm k) s m args below meth c Q nL D xcl base g n E 0 0 pc lv st :=
  x_callS C hM kw367 kw366 kw1 kw365 ny_CS (by rw [hna]; exact pl_CS_checkPlace) (x_room hjk (by decide)) x_roomc hstk hcat hdg kR kX
theorem c_CS_CS_lease (C : xC p l e s m meth c cc nL "ChunkStore" args D xcl (xty a) base) (hjk : j < k) (hn : 143 ≤ n) (hM : xM l y_CS_lease b_CS_lease 5 (some FieldType.int) j D a base g n (EL a g σ w Y) (.ref (g (0)) :: As) post') (hna : As.length = 2) (hstk : st = As.reverse ++ .ref (g (0)) :: rest) (hcat : (rest.map fun v => v.category).sum ≤ 8) (hdg : decode cc pc = .ok (.invokevirtual 102, 3)) (kR : ∀ (v : Option Value) (E' : Nat → va_E), post' (.inl v) E' → xG p l e (xrm k) s m args below meth c Q nL D xcl base g n E' 0 0 (pc + 3) lv (v.toList ++ rest)) (kX : ∀ (X : String) (E' : Nat → va_E), post' (.inr X) E' → xGT p l e (xrm k) s m args below meth c Q nL D xcl base g n E' 1 6 pc lv rest X) : xG p l e (xrm k) s m args below meth c Q nL D xcl base g n (EL a g σ w Y) 0 0 pc lv st :=
  x_callV (Cn := R_CS) C hM (by omega) EL_cs (ci := 0) (r := (R_CS, F_CS, 6)) rfl kw381 kw380 ks14 kw1 kw378 ny_CS (by rw [hna]; exact pl_CS_lease) (x_room hjk (by decide)) x_roomc hstk hcat hdg kR kX
theorem c_CS_CS_liveHolders (C : xC p l e s m meth c cc nL "ChunkStore" args D xcl (xty a) base) (hjk : j < k) (hn : 143 ≤ n) (hM : xM l y_CS_liveHolders b_CS_liveHolders 4 (some FieldType.int) j D a base g n (EL a g σ w Y) (.ref (g (0)) :: As) post') (hna : As.length = 1) (hstk : st = As.reverse ++ .ref (g (0)) :: rest) (hcat : (rest.map fun v => v.category).sum ≤ 8) (hdg : decode cc pc = .ok (.invokevirtual 167, 3)) (kR : ∀ (v : Option Value) (E' : Nat → va_E), post' (.inl v) E' → xG p l e (xrm k) s m args below meth c Q nL D xcl base g n E' 0 0 (pc + 3) lv (v.toList ++ rest)) (kX : ∀ (X : String) (E' : Nat → va_E), post' (.inr X) E' → xGT p l e (xrm k) s m args below meth c Q nL D xcl base g n E' 1 6 pc lv rest X) : xG p l e (xrm k) s m args below meth c Q nL D xcl base g n (EL a g σ w Y) 0 0 pc lv st :=
  x_callV (Cn := R_CS) C hM (by omega) EL_cs (ci := 0) (r := (R_CS, F_CS, 6)) rfl kw385 kw384 ks15 kw1 kw382 ny_CS (by rw [hna]; exact pl_CS_liveHolders) (x_room hjk (by decide)) x_roomc hstk hcat hdg kR kX
theorem c_CS_CS_isLeased (C : xC p l e s m meth c cc nL "ChunkStore" args D xcl (xty a) base) (hjk : j < k) (hn : 143 ≤ n) (hM : xM l y_CS_isLeased b_CS_isLeased 2 (some FieldType.boolean) j D a base g n (EL a g σ w Y) (.ref (g (0)) :: As) post') (hna : As.length = 1) (hstk : st = As.reverse ++ .ref (g (0)) :: rest) (hcat : (rest.map fun v => v.category).sum ≤ 8) (hdg : decode cc pc = .ok (.invokevirtual 210, 3)) (kR : ∀ (v : Option Value) (E' : Nat → va_E), post' (.inl v) E' → xG p l e (xrm k) s m args below meth c Q nL D xcl base g n E' 0 0 (pc + 3) lv (v.toList ++ rest)) (kX : ∀ (X : String) (E' : Nat → va_E), post' (.inr X) E' → xGT p l e (xrm k) s m args below meth c Q nL D xcl base g n E' 1 6 pc lv rest X) : xG p l e (xrm k) s m args below meth c Q nL D xcl base g n (EL a g σ w Y) 0 0 pc lv st :=
  x_callV (Cn := R_CS) C hM (by omega) EL_cs (ci := 0) (r := (R_CS, F_CS, 6)) rfl kw389 kw388 ks16 kw1 kw386 ny_CS (by rw [hna]; exact pl_CS_isLeased) (x_room hjk (by decide)) x_roomc hstk hcat hdg kR kX
theorem c_CS_CS_splitOff (C : xC p l e s m meth c cc nL "ChunkStore" args D xcl (xty a) base) (hjk : j < k) (hn : 143 ≤ n) (hM : xM l y_CS_splitOff b_CS_splitOff 7 (some FieldType.int) j D a base g n (EL a g σ w Y) (.ref (g (0)) :: As) post') (hna : As.length = 3) (hstk : st = As.reverse ++ .ref (g (0)) :: rest) (hcat : (rest.map fun v => v.category).sum ≤ 8) (hdg : decode cc pc = .ok (.invokevirtual 249, 3)) (kR : ∀ (v : Option Value) (E' : Nat → va_E), post' (.inl v) E' → xG p l e (xrm k) s m args below meth c Q nL D xcl base g n E' 0 0 (pc + 3) lv (v.toList ++ rest)) (kX : ∀ (X : String) (E' : Nat → va_E), post' (.inr X) E' → xGT p l e (xrm k) s m args below meth c Q nL D xcl base g n E' 1 6 pc lv rest X) : xG p l e (xrm k) s m args below meth c Q nL D xcl base g n (EL a g σ w Y) 0 0 pc lv st :=
  x_callV (Cn := R_CS) C hM (by omega) EL_cs (ci := 0) (r := (R_CS, F_CS, 6)) rfl kw394 kw393 ks17 kw1 kw391 ny_CS (by rw [hna]; exact pl_CS_splitOff) (x_room hjk (by decide)) x_roomc hstk hcat hdg kR kX
theorem c_CS_CS_anyFull (C : xC p l e s m meth c cc nL "ChunkStore" args D xcl (xty a) base) (hjk : j < k) (hn : 143 ≤ n) (hM : xM l y_CS_anyFull b_CS_anyFull 3 (some FieldType.boolean) j D a base g n (EL a g σ w Y) (.ref (g (0)) :: As) post') (hna : As.length = 1) (hstk : st = As.reverse ++ .ref (g (0)) :: rest) (hcat : (rest.map fun v => v.category).sum ≤ 8) (hdg : decode cc pc = .ok (.invokevirtual 260, 3)) (kR : ∀ (v : Option Value) (E' : Nat → va_E), post' (.inl v) E' → xG p l e (xrm k) s m args below meth c Q nL D xcl base g n E' 0 0 (pc + 3) lv (v.toList ++ rest)) (kX : ∀ (X : String) (E' : Nat → va_E), post' (.inr X) E' → xGT p l e (xrm k) s m args below meth c Q nL D xcl base g n E' 1 6 pc lv rest X) : xG p l e (xrm k) s m args below meth c Q nL D xcl base g n (EL a g σ w Y) 0 0 pc lv st :=
  x_callV (Cn := R_CS) C hM (by omega) EL_cs (ci := 0) (r := (R_CS, F_CS, 6)) rfl kw399 kw398 ks18 kw1 kw396 ny_CS (by rw [hna]; exact pl_CS_anyFull) (x_room hjk (by decide)) x_roomc hstk hcat hdg kR kX
theorem c_CS_SV_addLike (C : xC p l e s m meth c cc nL "ChunkStore" args D xcl (xty a) base) (hjk : j < k) {i : Nat} (hi : i < 5) (hn : 143 ≤ n) (hM : xM l y_SV_addLike b_SV_addLike 6 none j D a base g n (EL a g σ w Y) (.ref (g (50 + 4 * i)) :: As) post') (hna : As.length = 4) (hstk : st = As.reverse ++ .ref (g (50 + 4 * i)) :: rest) (hcat : (rest.map fun v => v.category).sum ≤ 8) (hdg : decode cc pc = .ok (.invokevirtual 175, 3)) (kR : ∀ (v : Option Value) (E' : Nat → va_E), post' (.inl v) E' → xG p l e (xrm k) s m args below meth c Q nL D xcl base g n E' 0 0 (pc + 3) lv (v.toList ++ rest)) (kX : ∀ (X : String) (E' : Nat → va_E), post' (.inr X) E' → xGT p l e (xrm k) s m args below meth c Q nL D xcl base g n E' 1 6 pc lv rest X) : xG p l e (xrm k) s m args below meth c Q nL D xcl base g n (EL a g σ w Y) 0 0 pc lv st :=
  x_callVN C hM (by omega) (EL_server hi) (ci := 4) (r := (R_SV, F_SV, 5)) rfl kw419 kw418 ks19 kw4 kn416 ny_SV (by rw [hna]; exact pl_SV_addLike) (x_room hjk (by decide)) x_roomc hstk hcat hdg kR kX
theorem c_CS_CS_raiseVersion (C : xC p l e s m meth c cc nL "ChunkStore" args D xcl (xty a) base) (hjk : j < k) (hn : 143 ≤ n) (hM : xM l y_CS_raiseVersion b_CS_raiseVersion 5 none j D a base g n (EL a g σ w Y) (.ref (g (0)) :: As) post') (hna : As.length = 2) (hstk : st = As.reverse ++ .ref (g (0)) :: rest) (hcat : (rest.map fun v => v.category).sum ≤ 8) (hdg : decode cc pc = .ok (.invokevirtual 253, 3)) (kR : ∀ (v : Option Value) (E' : Nat → va_E), post' (.inl v) E' → xG p l e (xrm k) s m args below meth c Q nL D xcl base g n E' 0 0 (pc + 3) lv (v.toList ++ rest)) (kX : ∀ (X : String) (E' : Nat → va_E), post' (.inr X) E' → xGT p l e (xrm k) s m args below meth c Q nL D xcl base g n E' 1 6 pc lv rest X) : xG p l e (xrm k) s m args below meth c Q nL D xcl base g n (EL a g σ w Y) 0 0 pc lv st :=
  x_callV (Cn := R_CS) C hM (by omega) EL_cs (ci := 0) (r := (R_CS, F_CS, 6)) rfl kw423 kw422 ks20 kw1 kw420 ny_CS (by rw [hna]; exact pl_CS_raiseVersion) (x_room hjk (by decide)) x_roomc hstk hcat hdg kR kX
theorem c_CS_CS_setWordAtHolders (C : xC p l e s m meth c cc nL "ChunkStore" args D xcl (xty a) base) (hjk : j < k) (hn : 143 ≤ n) (hM : xM l y_CS_setWordAtHolders b_CS_setWordAtHolders 5 none j D a base g n (EL a g σ w Y) (.ref (g (0)) :: As) post') (hna : As.length = 3) (hstk : st = As.reverse ++ .ref (g (0)) :: rest) (hcat : (rest.map fun v => v.category).sum ≤ 8) (hdg : decode cc pc = .ok (.invokevirtual 106, 3)) (kR : ∀ (v : Option Value) (E' : Nat → va_E), post' (.inl v) E' → xG p l e (xrm k) s m args below meth c Q nL D xcl base g n E' 0 0 (pc + 3) lv (v.toList ++ rest)) (kX : ∀ (X : String) (E' : Nat → va_E), post' (.inr X) E' → xGT p l e (xrm k) s m args below meth c Q nL D xcl base g n E' 1 6 pc lv rest X) : xG p l e (xrm k) s m args below meth c Q nL D xcl base g n (EL a g σ w Y) 0 0 pc lv st :=
  x_callV (Cn := R_CS) C hM (by omega) EL_cs (ci := 0) (r := (R_CS, F_CS, 6)) rfl kw428 kw427 ks21 kw1 kw425 ny_CS (by rw [hna]; exact pl_CS_setWordAtHolders) (x_room hjk (by decide)) x_roomc hstk hcat hdg kR kX
theorem c_CS_SV_setWord (C : xC p l e s m meth c cc nL "ChunkStore" args D xcl (xty a) base) (hjk : j < k) {i : Nat} (hi : i < 5) (hn : 143 ≤ n) (hM : xM l y_SV_setWord b_SV_setWord 4 none j D a base g n (EL a g σ w Y) (.ref (g (50 + 4 * i)) :: As) post') (hna : As.length = 3) (hstk : st = As.reverse ++ .ref (g (50 + 4 * i)) :: rest) (hcat : (rest.map fun v => v.category).sum ≤ 8) (hdg : decode cc pc = .ok (.invokevirtual 265, 3)) (kR : ∀ (v : Option Value) (E' : Nat → va_E), post' (.inl v) E' → xG p l e (xrm k) s m args below meth c Q nL D xcl base g n E' 0 0 (pc + 3) lv (v.toList ++ rest)) (kX : ∀ (X : String) (E' : Nat → va_E), post' (.inr X) E' → xGT p l e (xrm k) s m args below meth c Q nL D xcl base g n E' 1 6 pc lv rest X) : xG p l e (xrm k) s m args below meth c Q nL D xcl base g n (EL a g σ w Y) 0 0 pc lv st :=
  x_callVN C hM (by omega) (EL_server hi) (ci := 4) (r := (R_SV, F_SV, 5)) rfl kw432 kw431 ks22 kw4 kn429 ny_SV (by rw [hna]; exact pl_SV_setWord) (x_room hjk (by decide)) x_roomc hstk hcat hdg kR kX
theorem c_SV_MA_max (C : xC p l e s m meth c cc nL "ChunkStore$Server" args D xcl (xty a) base) (hjk : j < k) (hM : xM l y_MA_max b_MA_max 2 (some FieldType.int) j D a base g n E As post') (hna : As.length = 2) (hstk : st = As.reverse ++ rest) (hcat : (rest.map fun v => v.category).sum ≤ 8) (hdg : decode cc pc = .ok (.invokestatic 29, 3)) (kR : ∀ (v : Option Value) (E' : Nat → va_E), post' (.inl v) E' → xG p l e (xrm k) s m args below meth c Q nL D xcl base g n E' 0 0 (pc + 3) lv (v.toList ++ rest)) (kX : ∀ (X : String) (E' : Nat → va_E), post' (.inr X) E' → xGT p l e (xrm k) s m args below meth c Q nL D xcl base g n E' 1 6 pc lv rest X) : xG p l e (xrm k) s m args below meth c Q nL D xcl base g n E 0 0 pc lv st :=
  x_callS C hM kw435 kw434 kw15 kw433 ny_MA (by rw [hna]; exact pl_MA_max) (x_room hjk (by decide)) x_roomc hstk hcat hdg kR kX
theorem c_CS_CS_usedAtFirst (C : xC p l e s m meth c cc nL "ChunkStore" args D xcl (xty a) base) (hjk : j < k) (hn : 143 ≤ n) (hM : xM l y_CS_usedAtFirst b_CS_usedAtFirst 3 (some FieldType.int) j D a base g n (EL a g σ w Y) (.ref (g (0)) :: As) post') (hna : As.length = 1) (hstk : st = As.reverse ++ .ref (g (0)) :: rest) (hcat : (rest.map fun v => v.category).sum ≤ 8) (hdg : decode cc pc = .ok (.invokevirtual 111, 3)) (kR : ∀ (v : Option Value) (E' : Nat → va_E), post' (.inl v) E' → xG p l e (xrm k) s m args below meth c Q nL D xcl base g n E' 0 0 (pc + 3) lv (v.toList ++ rest)) (kX : ∀ (X : String) (E' : Nat → va_E), post' (.inr X) E' → xGT p l e (xrm k) s m args below meth c Q nL D xcl base g n E' 1 6 pc lv rest X) : xG p l e (xrm k) s m args below meth c Q nL D xcl base g n (EL a g σ w Y) 0 0 pc lv st :=
  x_callV (Cn := R_CS) C hM (by omega) EL_cs (ci := 0) (r := (R_CS, F_CS, 6)) rfl kw446 kw445 ks23 kw1 kw443 ny_CS (by rw [hna]; exact pl_CS_usedAtFirst) (x_room hjk (by decide)) x_roomc hstk hcat hdg kR kX
theorem c_CS_CS_first (C : xC p l e s m meth c cc nL "ChunkStore" args D xcl (xty a) base) (hjk : j < k) (hM : xM l y_CS_first b_CS_first 2 (some FieldType.int) j D a base g n E As post') (hna : As.length = 1) (hstk : st = As.reverse ++ rest) (hcat : (rest.map fun v => v.category).sum ≤ 8) (hdg : decode cc pc = .ok (.invokestatic 170, 3)) (kR : ∀ (v : Option Value) (E' : Nat → va_E), post' (.inl v) E' → xG p l e (xrm k) s m args below meth c Q nL D xcl base g n E' 0 0 (pc + 3) lv (v.toList ++ rest)) (kX : ∀ (X : String) (E' : Nat → va_E), post' (.inr X) E' → xGT p l e (xrm k) s m args below meth c Q nL D xcl base g n E' 1 6 pc lv rest X) : xG p l e (xrm k) s m args below meth c Q nL D xcl base g n E 0 0 pc lv st :=
  x_callS C hM kw449 kw448 kw1 kw447 ny_CS (by rw [hna]; exact pl_CS_first) (x_room hjk (by decide)) x_roomc hstk hcat hdg kR kX
theorem c_CS_SV_word (C : xC p l e s m meth c cc nL "ChunkStore" args D xcl (xty a) base) (hjk : j < k) {i : Nat} (hi : i < 5) (hn : 143 ≤ n) (hM : xM l y_SV_word b_SV_word 3 (some FieldType.int) j D a base g n (EL a g σ w Y) (.ref (g (50 + 4 * i)) :: As) post') (hna : As.length = 2) (hstk : st = As.reverse ++ .ref (g (50 + 4 * i)) :: rest) (hcat : (rest.map fun v => v.category).sum ≤ 8) (hdg : decode cc pc = .ok (.invokevirtual 142, 3)) (kR : ∀ (v : Option Value) (E' : Nat → va_E), post' (.inl v) E' → xG p l e (xrm k) s m args below meth c Q nL D xcl base g n E' 0 0 (pc + 3) lv (v.toList ++ rest)) (kX : ∀ (X : String) (E' : Nat → va_E), post' (.inr X) E' → xGT p l e (xrm k) s m args below meth c Q nL D xcl base g n E' 1 6 pc lv rest X) : xG p l e (xrm k) s m args below meth c Q nL D xcl base g n (EL a g σ w Y) 0 0 pc lv st :=
  x_callVN C hM (by omega) (EL_server hi) (ci := 4) (r := (R_SV, F_SV, 5)) rfl kw462 kw461 ks24 kw4 kn459 ny_SV (by rw [hna]; exact pl_SV_word) (x_room hjk (by decide)) x_roomc hstk hcat hdg kR kX
theorem c_CS_CS_confirmReplica (C : xC p l e s m meth c cc nL "ChunkStore" args D xcl (xty a) base) (hjk : j < k) (hn : 143 ≤ n) (hM : xM l y_CS_confirmReplica b_CS_confirmReplica 4 (some FieldType.boolean) j D a base g n (EL a g σ w Y) (.ref (g (0)) :: As) post') (hna : As.length = 2) (hstk : st = As.reverse ++ .ref (g (0)) :: rest) (hcat : (rest.map fun v => v.category).sum ≤ 8) (hdg : decode cc pc = .ok (.invokevirtual 158, 3)) (kR : ∀ (v : Option Value) (E' : Nat → va_E), post' (.inl v) E' → xG p l e (xrm k) s m args below meth c Q nL D xcl base g n E' 0 0 (pc + 3) lv (v.toList ++ rest)) (kX : ∀ (X : String) (E' : Nat → va_E), post' (.inr X) E' → xGT p l e (xrm k) s m args below meth c Q nL D xcl base g n E' 1 6 pc lv rest X) : xG p l e (xrm k) s m args below meth c Q nL D xcl base g n (EL a g σ w Y) 0 0 pc lv st :=
  x_callV (Cn := R_CS) C hM (by omega) EL_cs (ci := 0) (r := (R_CS, F_CS, 6)) rfl kw481 kw480 ks25 kw1 kw478 ny_CS (by rw [hna]; exact pl_CS_confirmReplica) (x_room hjk (by decide)) x_roomc hstk hcat hdg kR kX
theorem c_CS_SV_drop (C : xC p l e s m meth c cc nL "ChunkStore" args D xcl (xty a) base) (hjk : j < k) {i : Nat} (hi : i < 5) (hn : 143 ≤ n) (hM : xM l y_SV_drop b_SV_drop 2 none j D a base g n (EL a g σ w Y) (.ref (g (50 + 4 * i)) :: As) post') (hna : As.length = 1) (hstk : st = As.reverse ++ .ref (g (50 + 4 * i)) :: rest) (hcat : (rest.map fun v => v.category).sum ≤ 8) (hdg : decode cc pc = .ok (.invokevirtual 268, 3)) (kR : ∀ (v : Option Value) (E' : Nat → va_E), post' (.inl v) E' → xG p l e (xrm k) s m args below meth c Q nL D xcl base g n E' 0 0 (pc + 3) lv (v.toList ++ rest)) (kX : ∀ (X : String) (E' : Nat → va_E), post' (.inr X) E' → xGT p l e (xrm k) s m args below meth c Q nL D xcl base g n E' 1 6 pc lv rest X) : xG p l e (xrm k) s m args below meth c Q nL D xcl base g n (EL a g σ w Y) 0 0 pc lv st :=
  x_callVN C hM (by omega) (EL_server hi) (ci := 4) (r := (R_SV, F_SV, 5)) rfl kw485 kw484 ks26 kw4 kn482 ny_SV (by rw [hna]; exact pl_SV_drop) (x_room hjk (by decide)) x_roomc hstk hcat hdg kR kX
theorem c_CS_CS_mostInNeed (C : xC p l e s m meth c cc nL "ChunkStore" args D xcl (xty a) base) (hjk : j < k) (hn : 143 ≤ n) (hM : xM l y_CS_mostInNeed b_CS_mostInNeed 6 (some FieldType.int) j D a base g n (EL a g σ w Y) (.ref (g (0)) :: As) post') (hna : As.length = 0) (hstk : st = As.reverse ++ .ref (g (0)) :: rest) (hcat : (rest.map fun v => v.category).sum ≤ 8) (hdg : decode cc pc = .ok (.invokevirtual 161, 3)) (kR : ∀ (v : Option Value) (E' : Nat → va_E), post' (.inl v) E' → xG p l e (xrm k) s m args below meth c Q nL D xcl base g n E' 0 0 (pc + 3) lv (v.toList ++ rest)) (kX : ∀ (X : String) (E' : Nat → va_E), post' (.inr X) E' → xGT p l e (xrm k) s m args below meth c Q nL D xcl base g n E' 1 6 pc lv rest X) : xG p l e (xrm k) s m args below meth c Q nL D xcl base g n (EL a g σ w Y) 0 0 pc lv st :=
  x_callV (Cn := R_CS) C hM (by omega) EL_cs (ci := 0) (r := (R_CS, F_CS, 6)) rfl kw496 kw495 ks27 kw1 kw493 ny_CS (by rw [hna]; exact pl_CS_mostInNeed) (x_room hjk (by decide)) x_roomc hstk hcat hdg kR kX
theorem c_CS_IN_bitCount (C : xC p l e s m meth c cc nL "ChunkStore" args D xcl (xty a) base) (hjk : j < k) (hM : xM l y_IN_bitCount b_IN_bitCount 1 (some FieldType.int) j D a base g n E As post') (hna : As.length = 1) (hstk : st = As.reverse ++ rest) (hcat : (rest.map fun v => v.category).sum ≤ 8) (hdg : decode cc pc = .ok (.invokestatic 205, 3)) (kR : ∀ (v : Option Value) (E' : Nat → va_E), post' (.inl v) E' → xG p l e (xrm k) s m args below meth c Q nL D xcl base g n E' 0 0 (pc + 3) lv (v.toList ++ rest)) (kX : ∀ (X : String) (E' : Nat → va_E), post' (.inr X) E' → xGT p l e (xrm k) s m args below meth c Q nL D xcl base g n E' 1 6 pc lv rest X) : xG p l e (xrm k) s m args below meth c Q nL D xcl base g n E 0 0 pc lv st :=
  x_callS C hM kw499 kw498 kw16 kw497 ny_IN (by rw [hna]; exact pl_IN_bitCount) (x_room hjk (by decide)) x_roomc hstk hcat hdg kR kX
end XCL
end
section
/-! Rows that were wanting: constants, unsigned shift, boolean arrays, stores of references; rows on naturals for bits and eighths; the loop. -/
section XQ1
variable {p : Program} {l : Launch} {e : Env} {R : Room} {s : State} {m : MethodId} {args : Array Value} {below : List Frame} {meth : Method} {c : Code} {Q : State → Prop} {nL : Nat} {D : va_G} {cl : List vw_C} {tys : List (ClassId × FieldType)} {base : Nat} {g : Nat → Nat} {cc : ByteArray} {own : String} {n k z pc : Nat} {E : Nat → va_E} {lv : List (Nat × Value)} {st : List Value}
theorem x_ldc2d (C : xC p l e s m meth c cc nL own args D cl tys base) {i : Nat} {v : UInt64} (hw : Cond.constantDouble own i v ∈ xT) (hdg : decode cc pc = .ok (.ldc2_w i, 3)) (kk : xG p l e R s m args below meth c Q nL D cl base g n E k z (pc + 3) lv (.double v :: st)) : xG p l e R s m args below meth c Q nL D cl base g n E k z pc lv st := fun H locs ls hw' hS hl => lv_ldc2d C.1 C.2.1 C.ow (C.word hw) hdg (kk H locs ls hw' hS hl)
theorem x_ldcw (C : xC p l e s m meth c cc nL own args D cl tys base) {i : Nat} {v : Int32} (hw : Cond.constant own i v ∈ xT) (hdg : decode cc pc = .ok (.ldc_w i, 3)) (kk : xG p l e R s m args below meth c Q nL D cl base g n E k z (pc + 3) lv (.int v :: st)) : xG p l e R s m args below meth c Q nL D cl base g n E k z pc lv st := fun H locs ls hw' hS hl => lv_ldcw C.1 C.2.1 C.ow (C.word hw) hdg (kk H locs ls hw' hS hl)
theorem x_iushr (C : xC p l e s m meth c cc nL own args D cl tys base) {x y : Int32} (hdg : decode cc pc = .ok (.iushr, 1)) (kk : xG p l e R s m args below meth c Q nL D cl base g n E k z (pc + 1) lv (.int ((x.toUInt32 >>> (y.toUInt32 &&& Int32.toUInt32 31)).toInt32) :: st)) : xG p l e R s m args below meth c Q nL D cl base g n E k z pc lv (.int y :: .int x :: st) := fun H locs ls hw hS hl => lv_iushr C.1 C.2.1 hdg rfl (kk H locs ls hw hS hl)
theorem x_zald (C : xC p l e s m meth c cc nL own args D cl tys base) {i nn : Nat} {cA : ClassId} {f : Nat → Int32} {x : Int32} (hi : i < n) (he : E i = .inl (cA, nn, .inl f)) (t0 : Nat) (ht : tys[t0]? = some (cA, .boolean)) (hx : vp_in x nn) (hdg : decode cc pc = .ok (.baload, 1)) (kk : xG p l e R s m args below meth c Q nL D cl base g n E k z (pc + 1) lv (.int (f x.toNatClampNeg) :: st)) : xG p l e R s m args below meth c Q nL D cl base g n E k z pc lv (.int x :: .ref (g i) :: st) := fun H locs ls hw hS hl => va_zald C.1 C.2.1 C.K hw.1 i t0 (by rw [xWL_get hi, he]) ht hx hdg (kk H locs ls hw hS hl)
theorem x_zast (C : xC p l e s m meth c cc nL own args D cl tys base) {i nn : Nat} {cA : ClassId} {f : Nat → Int32} {x y : Int32} {E' : Nat → va_E} (hi : i < n) (he : E i = .inl (cA, nn, .inl f)) (t0 : Nat) (ht : tys[t0]? = some (cA, .boolean)) (hx : vp_in x nn) (hE : va_up E i (.inl (cA, nn, .inl (upd f x.toNatClampNeg (vp_nar .boolean y)))) = E') (hdg : decode cc pc = .ok (.bastore, 1)) (kk : xG p l e R s m args below meth c Q nL D cl base g n E' k z (pc + 1) lv st) : xG p l e R s m args below meth c Q nL D cl base g n E k z pc lv (.int y :: .int x :: .ref (g i) :: st) := fun H locs ls hw hS hl => va_zast C.1 C.2.1 C.K hw.1 hw.2 hS i t0 (by rw [xWL_get hi, he]) ht hx hdg (fun H locs hP hD hS => kk H locs ls (xWd_set hE hP hD) hS hl)
theorem x_aast (C : xC p l e s m meth c cc nL own args D cl tys base) {i nn q ci : Nat} {cA : ClassId} {r : vw_C} {vs : List Value} {f : Nat → Option Nat} {x : Int32} {E' : Nat → va_E} (hi : i < n) (he : E i = .inl (cA, nn, .inr (.inr (.inr (.inr f))))) (t0 : Nat) (ht : tys[t0]? = some (cA, .object r.1)) (hq : q < n) (hv : E q = .inr (ci, vs)) (hc : cl[ci]? = some r) (hx : vp_in x nn) (hE : va_up E i (.inl (cA, nn, .inr (.inr (.inr (.inr (va_up f x.toNatClampNeg (some (g q)))))))) = E') (hdg : decode cc pc = .ok (.aastore, 1)) (kk : xG p l e R s m args below meth c Q nL D cl base g n E' k z (pc + 1) lv st) : xG p l e R s m args below meth c Q nL D cl base g n E k z pc lv (.ref (g q) :: .int x :: .ref (g i) :: st) := fun H locs ls hw hS hl => va_astq C.1 C.2.1 C.K hw.1 hw.2 hS i t0 q ci (by rw [xWL_get hi, he]) ht (by rw [xWL_get hq, hv]) hc hx hdg (fun H locs hP hD hS => kk H locs ls (xWd_set hE hP hD) hS hl)
/-- the contents and the locals, written otherwise -/
theorem x_E {E' : Nat → va_E} (h : E = E') (kk : xG p l e R s m args below meth c Q nL D cl base g n E' k z pc lv st) : xG p l e R s m args below meth c Q nL D cl base g n E k z pc lv st := by rw [h]; exact kk
theorem x_loop (N : Nat) (EE : Nat → Nat → va_E) (LV : Nat → List (Nat × Value)) (I : Nat → Prop) (hE : E = EE 0) (hlv : xall (LV 0) lv) (h0 : I 0) (step : ∀ i, i ≤ N → I i → (i < N → I (i + 1) → xG p l e R s m args below meth c Q nL D cl base g n (EE (i + 1)) k z pc (LV (i + 1)) st) → xG p l e R s m args below meth c Q nL D cl base g n (EE i) k z pc (LV i) st) : xG p l e R s m args below meth c Q nL D cl base g n E k z pc lv st := by
  have h : ∀ d i, d + i = N → I i → xG p l e R s m args below meth c Q nL D cl base g n (EE i) k z pc (LV i) st := by
    intro d
    induction d with
    | zero => intro i hi hI; exact step i (by omega) hI (fun h => absurd h (by omega))
    | succ d ih => intro i hi hI; exact step i (by omega) hI (fun h hI' => ih (i + 1) (by omega) hI')
  rw [hE]
  exact x_lv (LV 0) hlv (h N 0 rfl h0)
theorem xn_dcmp (C : xC p l e s m meth c cc nL own args D cl tys base) {x y : Nat} {op : CmpOp} (hx : x < 2 ^ 53) (hy : y < 2 ^ 53) (hdg : decode cc pc = .ok (.dcmp op, 1)) (kk : xG p l e R s m args below meth c Q nL D cl base g n E k z (pc + 1) lv (.int (if x < y then -1 else if x = y then 0 else 1) :: st)) : xG p l e R s m args below meth c Q nL D cl base g n E k z pc lv (.double (dT y) :: .double (dT x) :: st) := x_dcmp C hdg (x_topi (dT_ci op hx hy) kk)
theorem xn_dadd (C : xC p l e s m meth c cc nL own args D cl tys base) {x y : Nat} (h : x + y < 2 ^ 53) (hdg : decode cc pc = .ok (.dadd, 1)) (kk : xG p l e R s m args below meth c Q nL D cl base g n E k z (pc + 1) lv (.double (dT (x + y)) :: st)) : xG p l e R s m args below meth c Q nL D cl base g n E k z pc lv (.double (dT y) :: .double (dT x) :: st) := x_dadd (v := 0) C hdg (by rw [dT_add h]; exact dT_n h) (x_topd (dT_add h) kk)
theorem xn_dsub (C : xC p l e s m meth c cc nL own args D cl tys base) {x y : Nat} (h : y ≤ x) (hx : x < 2 ^ 53) (hdg : decode cc pc = .ok (.dsub, 1)) (kk : xG p l e R s m args below meth c Q nL D cl base g n E k z (pc + 1) lv (.double (dT (x - y)) :: st)) : xG p l e R s m args below meth c Q nL D cl base g n E k z pc lv (.double (dT y) :: .double (dT x) :: st) := x_dsub (v := 0) C hdg (by rw [dT_sub h hx]; exact dT_n (by omega)) (x_topd (dT_sub h hx) kk)
end XQ1
section XQ2
theorem cmpI_lt {x y : Nat} (h : (if x < y then (-1 : Int32) else if x = y then 0 else 1) < 0) : x < y := by
  by_cases h1 : x < y
  · exact h1
  · rw [if_neg h1] at h
    by_cases h2 : x = y
    · rw [if_pos h2] at h; exact absurd h (by decide)
    · rw [if_neg h2] at h; exact absurd h (by decide)
theorem cmpI_nlt {x y : Nat} (h : ¬ (if x < y then (-1 : Int32) else if x = y then 0 else 1) < 0) : y ≤ x := Nat.not_lt.mp fun h1 => h (by rw [if_pos h1]; decide)
theorem cmpI_ge {x y : Nat} (h : 0 ≤ (if x < y then (-1 : Int32) else if x = y then 0 else 1)) : y ≤ x := Nat.not_lt.mp fun h1 => by rw [if_pos h1] at h; exact absurd h (by decide)
theorem cmpI_nge {x y : Nat} (h : ¬ 0 ≤ (if x < y then (-1 : Int32) else if x = y then 0 else 1)) : x < y := by
  by_cases h1 : x < y
  · exact h1
  · rw [if_neg h1] at h
    by_cases h2 : x = y
    · rw [if_pos h2] at h; exact absurd (by decide) h
    · rw [if_neg h2] at h; exact absurd (by decide) h
theorem cmpI_gt {x y : Nat} (h : 0 < (if x < y then (-1 : Int32) else if x = y then 0 else 1)) : y < x := by
  by_cases h1 : x < y
  · rw [if_pos h1] at h; exact absurd h (by decide)
  · rw [if_neg h1] at h
    by_cases h2 : x = y
    · rw [if_pos h2] at h; exact absurd h (by decide)
    · omega
theorem cmpI_le {x y : Nat} (h : (if x < y then (-1 : Int32) else if x = y then 0 else 1) ≤ 0) : x ≤ y := by
  by_cases h1 : x < y
  · omega
  · rw [if_neg h1] at h
    by_cases h2 : x = y
    · omega
    · rw [if_neg h2] at h; exact absurd h (by decide)
theorem cmpI_nle {x y : Nat} (h : ¬ (if x < y then (-1 : Int32) else if x = y then 0 else 1) ≤ 0) : y < x := Nat.not_le.mp fun h1 => h (by
  by_cases h2 : x < y
  · rw [if_pos h2]; decide
  · rw [if_neg h2, if_pos (by omega)]; decide)
theorem cmpI_ngt {x y : Nat} (h : ¬ 0 < (if x < y then (-1 : Int32) else if x = y then 0 else 1)) : x ≤ y := Nat.not_lt.mp fun h1 => h (by rw [if_neg (by omega), if_neg (by omega)]; decide)
/-- bits below 32 -/
theorem bI_and : ∀ a, a < 32 → ∀ b, b < 32 → nI a &&& nI b = nI (a &&& b) := by decide +kernel
theorem bI_or : ∀ a, a < 32 → ∀ b, b < 32 → nI a ||| nI b = nI (a ||| b) := by decide +kernel
theorem bI_bit : ∀ i, i < 5 → nI 1 <<< (nI i &&& 31) = nI (2 ^ i) := by decide +kernel
theorem bI_shr : ∀ a, a < 32 → ∀ i, i < 5 → nI a >>> (nI i &&& 31) = nI (a >>> i) := by decide +kernel
theorem bI_not : ∀ a, a < 32 → ∀ i, i < 5 → nI a &&& (nI (2 ^ i) ^^^ -1) = nI (if a.testBit i then a - 2 ^ i else a) := by decide +kernel
theorem bt_and : ∀ a, a < 32 → ∀ i, i < 5 → (a &&& 2 ^ i = 0 ↔ a.testBit i = false) := by decide +kernel
theorem bt_and' : ∀ a, a < 32 → ∀ i, i < 5 → a &&& 2 ^ i = if a.testBit i then 2 ^ i else 0 := by decide +kernel
theorem bt_shr : ∀ a, a < 32 → ∀ i, i < 5 → a >>> i &&& 1 = if a.testBit i then 1 else 0 := by decide +kernel
theorem bt_orlt : ∀ a, a < 32 → ∀ i, i < 5 → a ||| 2 ^ i < 32 := by decide +kernel
theorem bt_p : ∀ i, i < 5 → 2 ^ i < 32 := by decide +kernel
theorem bt_or : ∀ a, a < 32 → ∀ i, i < 5 → ∀ j, j < 5 → (a ||| 2 ^ i).testBit j = (decide (j = i) || a.testBit j) := by decide +kernel
theorem bt_cl : ∀ a, a < 32 → ∀ i, i < 5 → ∀ j, j < 5 → (if a.testBit i then a - 2 ^ i else a).testBit j = (decide (j ≠ i) && a.testBit j) := by decide +kernel
theorem bt_cllt : ∀ a, a < 32 → ∀ i, i < 5 → (if a.testBit i then a - 2 ^ i else a) < 32 := by decide +kernel
theorem bt_z : ∀ a, a < 32 → (∀ i, i < 5 → a.testBit i = false) → a = 0 := by decide +kernel
theorem bt_ext : ∀ a, a < 32 → ∀ b, b < 32 → (∀ i, i < 5 → a.testBit i = b.testBit i) → a = b := by decide +kernel
theorem bt_shlt : ∀ a, a < 32 → ∀ i, i < 5 → a >>> i < 32 := by decide +kernel
theorem bt_andlt : ∀ a, a < 32 → ∀ b, b < 32 → a &&& b < 32 := by decide +kernel
theorem bt_oolt : ∀ a, a < 32 → ∀ b, b < 32 → a ||| b < 32 := by decide +kernel
end XQ2
section XQ3
variable {p : Program} {l : Launch} {e : Env} {R : Room} {s : State} {m : MethodId} {args : Array Value} {below : List Frame} {meth : Method} {c : Code} {Q : State → Prop} {nL : Nat} {D : va_G} {cl : List vw_C} {tys : List (ClassId × FieldType)} {base : Nat} {g : Nat → Nat} {cc : ByteArray} {own : String} {n k z pc : Nat} {E : Nat → va_E} {lv : List (Nat × Value)} {st : List Value}
theorem xn_iand (C : xC p l e s m meth c cc nL own args D cl tys base) {x y : Nat} (hx : x < 32) (hy : y < 32) (hdg : decode cc pc = .ok (.iand, 1)) (kk : xG p l e R s m args below meth c Q nL D cl base g n E k z (pc + 1) lv (.int (nI (x &&& y)) :: st)) : xG p l e R s m args below meth c Q nL D cl base g n E k z pc lv (.int (nI y) :: .int (nI x) :: st) := x_iand C hdg (x_topi (bI_and x hx y hy) kk)
theorem xn_ior (C : xC p l e s m meth c cc nL own args D cl tys base) {x y : Nat} (hx : x < 32) (hy : y < 32) (hdg : decode cc pc = .ok (.ior, 1)) (kk : xG p l e R s m args below meth c Q nL D cl base g n E k z (pc + 1) lv (.int (nI (x ||| y)) :: st)) : xG p l e R s m args below meth c Q nL D cl base g n E k z pc lv (.int (nI y) :: .int (nI x) :: st) := x_ior C hdg (x_topi (bI_or x hx y hy) kk)
theorem xn_bit (C : xC p l e s m meth c cc nL own args D cl tys base) {y : Nat} (hy : y < 5) (hdg : decode cc pc = .ok (.ishl, 1)) (kk : xG p l e R s m args below meth c Q nL D cl base g n E k z (pc + 1) lv (.int (nI (2 ^ y)) :: st)) : xG p l e R s m args below meth c Q nL D cl base g n E k z pc lv (.int (nI y) :: .int (nI 1) :: st) := x_ishl C hdg (x_topi (bI_bit y hy) kk)
theorem xn_ishr (C : xC p l e s m meth c cc nL own args D cl tys base) {x y : Nat} (hx : x < 32) (hy : y < 5) (hdg : decode cc pc = .ok (.ishr, 1)) (kk : xG p l e R s m args below meth c Q nL D cl base g n E k z (pc + 1) lv (.int (nI (x >>> y)) :: st)) : xG p l e R s m args below meth c Q nL D cl base g n E k z pc lv (.int (nI y) :: .int (nI x) :: st) := x_ishr C hdg (x_topi (bI_shr x hx y hy) kk)
theorem xn_iandnot (C : xC p l e s m meth c cc nL own args D cl tys base) {x y : Nat} (hx : x < 32) (hy : y < 5) (hdg : decode cc pc = .ok (.iand, 1)) (kk : xG p l e R s m args below meth c Q nL D cl base g n E k z (pc + 1) lv (.int (nI (if x.testBit y then x - 2 ^ y else x)) :: st)) : xG p l e R s m args below meth c Q nL D cl base g n E k z pc lv (.int (nI (2 ^ y) ^^^ -1) :: .int (nI x) :: st) := x_iand C hdg (x_topi (bI_not x hx y hy) kk)
/-- the answer of a callee that returns or throws -/
theorem rif_l {P : Prop} [Decidable P] {v a : Option Value} {X : String} (h : (Sum.inl v : xR) = if P then .inl a else .inr X) : P ∧ v = a := by
  by_cases q : P
  · rw [if_pos q] at h; cases h; exact ⟨q, rfl⟩
  · rw [if_neg q] at h; cases h
theorem rif_r {P : Prop} [Decidable P] {a : Option Value} {X Z : String} (h : (Sum.inr Z : xR) = if P then .inl a else .inr X) : ¬ P ∧ Z = X := by
  by_cases q : P
  · rw [if_pos q] at h; cases h
  · rw [if_neg q] at h; cases h; exact ⟨q, rfl⟩
/-- an int below N -/
def inR (x : Int32) (N : Nat) : Bool := decide (0 ≤ x.toInt ∧ x.toInt < N)
theorem inR_p {x : Int32} {N : Nat} : inR x N = true ↔ (0 ≤ x.toInt ∧ x.toInt < N) := by unfold inR; exact decide_eq_true_iff
def ix (x : Int32) : Nat := x.toInt.toNat
theorem inR_of {x : Int32} {N : Nat} (h : inR x N = true) : ∃ j, j < N ∧ x = nI j := by
  obtain ⟨h1, h2⟩ := inR_p.mp h
  obtain ⟨j, hj, rfl⟩ := nI_of (x := x) (by intro q; have := Int32.lt_iff_toInt_lt.mp q; rw [show (0 : Int32).toInt = 0 from rfl] at this; omega)
  rw [nI_toInt hj] at h2
  exact ⟨j, by omega, rfl⟩
theorem inR_nI {j N : Nat} (h : j < N) (hN : N < 2 ^ 31) : inR (nI j) N = true := by rw [inR_p, nI_toInt (by omega)]; omega
theorem ix_nI {j : Nat} (h : j < 2 ^ 31) : ix (nI j) = j := by unfold ix; rw [nI_toInt h]; rfl
theorem inR_lt {j N : Nat} (hj : j < 2 ^ 31) (h : inR (nI j) N = true) : j < N := by rw [inR_p, nI_toInt hj] at h; omega
end XQ3
end
section
/-! What the methods work out, over the shared picture of the state. -/
section XS1
def b01 (b : Bool) : Nat := if b then 1 else 0
theorem b01_nar (b : Bool) : narrow .boolean (.int (nI (b01 b))) = .int (nI (b01 b)) := by cases b <;> rfl
theorem b01_lt (b : Bool) : b01 b < 2 ^ 31 := by cases b <;> decide
theorem b01_0 (b : Bool) : (b01 b = 0) = (b = false) := by cases b <;> decide
theorem b01_n0 (b : Bool) : (¬ b01 b = 0) = (b = true) := by cases b <;> decide
theorem b01_1 (b : Bool) : (b01 b = 1) = (b = true) := by cases b <;> decide
def iv (N b : Nat) : Int32 := if b = N then -1 else nI b
theorem iv_lt {N b : Nat} (h : b < N) : iv N b = nI b := by unfold iv; rw [if_neg (by omega)]
theorem iv_no (N : Nat) : iv N N = -1 := by unfold iv; rw [if_pos rfl]
theorem iv_m1 {N b : Nat} (h : b ≤ N ∧ N < 2 ^ 31) : iv N b = -1 ↔ b = N := by
  unfold iv
  by_cases q : b = N
  · rw [if_pos q]; exact ⟨fun _ => q, fun _ => rfl⟩
  · rw [if_neg q]; exact ⟨fun r => absurd r (nI_m1 (by omega)), fun r => absurd r q⟩
theorem iv_n1 {N b : Nat} (h : b ≤ N ∧ N < 2 ^ 31) (q : ¬ iv N b = -1) : b < N := by
  have : b ≠ N := fun r => q ((iv_m1 h).mpr r)
  omega
theorem iv_neg {N b : Nat} (h : b ≤ N ∧ N < 2 ^ 31) (q : iv N b < 0) : b = N := by
  by_cases r : b = N
  · exact r
  · unfold iv at q; rw [if_neg r] at q; exact absurd q (fun q => nI_pos (by omega) q)
theorem iv_nneg {N b : Nat} (h : b ≤ N ∧ N < 2 ^ 31) (q : ¬ iv N b < 0) : b < N := by
  have : b ≠ N := fun r => q (by unfold iv; rw [if_pos r]; decide)
  omega
theorem iv_ge {N b : Nat} (h : b ≤ N ∧ N < 2 ^ 31) (q : 0 ≤ iv N b) : b < N := by
  have : b ≠ N := fun r => absurd q (by unfold iv; rw [if_pos r]; decide)
  omega
theorem iv_nge {N b : Nat} (h : b ≤ N ∧ N < 2 ^ 31) (q : ¬ 0 ≤ iv N b) : b = N := by
  by_cases r : b = N
  · exact r
  · unfold iv at q; rw [if_neg r] at q; exact absurd (nI_pos' (by omega)) q
theorem dT_240i : dT 240 = 4629137466983448576 := by decide +kernel
theorem dT_40i : dT 40 = 4617315517961601024 := by decide +kernel
theorem dT_80i : dT 80 = 4621819117588971520 := by decide +kernel
theorem up3_B {σ : Nat → Nat → Nat → Nat} {t i j v : Nat} (h : ∀ t i j, σ t i j < 2 ^ 30) (hv : v < 2 ^ 30) : ∀ x y z, up3 σ t i j v x y z < 2 ^ 30 := by
  intro x y z
  unfold up3
  by_cases q : x = t ∧ y = i ∧ z = j
  · rw [if_pos q]; exact hv
  · rw [if_neg q]; exact h x y z
theorem up3_H {σ : Nat → Nat → Nat → Nat} {i j v : Nat} (h : ∀ c, σ 8 c 0 < 32) (hv : v < 32) : ∀ c, up3 σ 8 i j v 8 c 0 < 32 := by
  intro c
  unfold up3
  by_cases q : 8 = 8 ∧ c = i ∧ 0 = j
  · rw [if_pos q]; exact hv
  · rw [if_neg q]; exact h c
theorem up3_n {σ : Nat → Nat → Nat → Nat} {t i j v : Nat} {x y z : Nat} (ht : ¬ x = t) : up3 σ t i j v x y z = σ x y z := by unfold up3; rw [if_neg (fun q => ht q.1)]
theorem up3_Hn {σ : Nat → Nat → Nat → Nat} {t i j v : Nat} (h : ∀ c, σ 8 c 0 < 32) (ht : ¬ 8 = t) : ∀ c, up3 σ t i j v 8 c 0 < 32 := fun c => by rw [up3_n ht]; exact h c
theorem up3_s {σ : Nat → Nat → Nat → Nat} {t i j v : Nat} : up3 σ t i j v t i j = v := by unfold up3; rw [if_pos ⟨rfl, rfl, rfl⟩]
theorem up2_s {w : Nat → Nat → Int32} {i j : Nat} {v : Int32} : up2 w i j v i j = v := by unfold up2; rw [if_pos ⟨rfl, rfl⟩]
/-- holders that are up -/
def liv (u : Nat → Nat) (h : Nat) : Nat → Nat
  | 0 => 0
  | n + 1 => if u n ≠ 0 ∧ h.testBit n = true then liv u h n ||| 2 ^ n else liv u h n
theorem liv_lt {u : Nat → Nat} {h : Nat} : ∀ n, n ≤ 5 → liv u h n < 32 := by
  intro n
  induction n with
  | zero => intro _; exact (by decide : 0 < 32)
  | succ n ih =>
    intro hn
    unfold liv
    by_cases q : u n ≠ 0 ∧ h.testBit n = true
    · rw [if_pos q]; exact bt_orlt _ (ih (by omega)) n (by omega)
    · rw [if_neg q]; exact ih (by omega)
theorem liv_bit {u : Nat → Nat} {h : Nat} : ∀ n, n ≤ 5 → ∀ j, j < 5 → (liv u h n).testBit j = (decide (j < n) && (decide (u j ≠ 0) && h.testBit j)) := by
  intro n
  induction n with
  | zero => intro _ j _; simp [liv]
  | succ n ih =>
    intro hn j hj
    unfold liv
    by_cases q : u n ≠ 0 ∧ h.testBit n = true
    · rw [if_pos q, bt_or _ (liv_lt n (by omega)) n (by omega) j hj, ih (by omega) j hj]
      by_cases r : j = n
      · subst r; simp [q.1, q.2]
      · simp [r, show (j < n + 1) ↔ j < n by omega]
    · rw [if_neg q, ih (by omega) j hj]
      by_cases r : j = n
      · subst r
        simp only [Nat.lt_irrefl, decide_false, Bool.false_and, Nat.lt_succ_self, decide_true, Bool.true_and]
        by_cases r1 : u j = 0
        · simp [r1]
        · have : ¬ h.testBit j = true := fun r2 => q ⟨r1, r2⟩
          simp [this]
      · simp [show (j < n + 1) ↔ j < n by omega]
def lvh (σ : Nat → Nat → Nat → Nat) (c : Nat) : Nat := liv (fun i => σ 10 i 0) (σ 8 c 0) 5
theorem lvh_lt (σ : Nat → Nat → Nat → Nat) (c : Nat) : lvh σ c < 32 := liv_lt 5 (Nat.le_refl _)
/-- the lowest bit; 5: none -/
def fst5 (h : Nat) : Nat := if h.testBit 0 then 0 else if h.testBit 1 then 1 else if h.testBit 2 then 2 else if h.testBit 3 then 3 else if h.testBit 4 then 4 else 5
theorem fst5_at {h i : Nat} (hi : i < 5) (hb : h.testBit i = true) (hl : ∀ j, j < i → h.testBit j = false) : fst5 h = i := by
  unfold fst5
  have c : i = 0 ∨ i = 1 ∨ i = 2 ∨ i = 3 ∨ i = 4 := by omega
  rcases c with rfl | rfl | rfl | rfl | rfl
  · simp [hb]
  · simp [hb, hl 0 (by decide)]
  · simp [hb, hl 0 (by decide), hl 1 (by decide)]
  · simp [hb, hl 0 (by decide), hl 1 (by decide), hl 2 (by decide)]
  · simp [hb, hl 0 (by decide), hl 1 (by decide), hl 2 (by decide), hl 3 (by decide)]
theorem fst5_no {h : Nat} (hl : ∀ j, j < 5 → h.testBit j = false) : fst5 h = 5 := by
  unfold fst5
  simp [hl 0 (by decide), hl 1 (by decide), hl 2 (by decide), hl 3 (by decide), hl 4 (by decide)]
theorem fst5_le (h : Nat) : fst5 h ≤ 5 := by unfold fst5; repeat' split <;> try omega
theorem fst5_bit {h : Nat} (q : fst5 h < 5) : h.testBit (fst5 h) = true := by
  unfold fst5 at q ⊢
  repeat' split at q
  all_goals first | omega | simp_all
theorem fst5_pos : ∀ h, h < 32 → h ≠ 0 → fst5 h < 5 := by decide +kernel
/-- how many bits -/
def pop5 (h : Nat) : Nat := b01 (h.testBit 0) + b01 (h.testBit 1) + b01 (h.testBit 2) + b01 (h.testBit 3) + b01 (h.testBit 4)
theorem pop5_le (h : Nat) : pop5 h ≤ 5 := by unfold pop5 b01; repeat' split <;> try omega
theorem pop5_0 : ∀ h, h < 32 → (pop5 h = 0 ↔ h = 0) := by decide +kernel
/-- the lightest of the free ones; 5: none -/
def best (fr : Nat → Bool) (ld : Nat → Nat) : Nat → Nat
  | 0 => 5
  | n + 1 => if fr n = true ∧ (best fr ld n = 5 ∨ ld n < ld (best fr ld n)) then n else best fr ld n
theorem best_le {fr : Nat → Bool} {ld : Nat → Nat} : ∀ n, n ≤ 5 → best fr ld n ≤ 5 := by
  intro n
  induction n with
  | zero => intro _; exact Nat.le_refl _
  | succ n ih => intro hn; unfold best; split <;> first | omega | exact ih (by omega)
theorem best_fr {fr : Nat → Bool} {ld : Nat → Nat} : ∀ n, n ≤ 5 → best fr ld n < 5 → fr (best fr ld n) = true := by
  intro n
  induction n with
  | zero => intro _ h; exact absurd h (by show ¬ 5 < 5; decide)
  | succ n ih =>
    intro hn h
    unfold best at h ⊢
    split at h
    · rename_i q; rw [if_pos q]; exact q.1
    · rename_i q; rw [if_neg q]; exact ih (by omega) h
theorem best_congr {fr fr' : Nat → Bool} {ld ld' : Nat → Nat} (h1 : ∀ i, i < 5 → fr i = fr' i) (h2 : ∀ i, i < 5 → ld i = ld' i) : ∀ n, n ≤ 5 → best fr ld n = best fr' ld' n := by
  intro n
  induction n with
  | zero => intro _; rfl
  | succ n ih =>
    intro hn
    have e := ih (by omega)
    unfold best
    rw [e, h1 n (by omega), h2 n (by omega)]
    by_cases q : best fr' ld' n = 5
    · simp [q]
    · rw [h2 _ (by have := best_le (fr := fr') (ld := ld') n (by omega); omega)]
def frC (σ : Nat → Nat → Nat → Nat) (c ch i : Nat) : Bool := decide (σ 10 i 0 ≠ 0) && (decide (σ 11 i 0 < 12) && (decide (σ 12 i c = 0) && !ch.testBit i))
def bst (σ : Nat → Nat → Nat → Nat) (c ch : Nat) : Nat := best (frC σ c ch) (fun i => σ 11 i 0) 5
theorem bst_le (σ : Nat → Nat → Nat → Nat) (c ch : Nat) : bst σ c ch ≤ 5 := best_le 5 (Nat.le_refl _)
/-- up to n servers, one behind the other -/
def cho (σ : Nat → Nat → Nat → Nat) (c : Nat) : Nat → Nat
  | 0 => 0
  | n + 1 => if bst σ c (cho σ c n) = 5 then cho σ c n else cho σ c n ||| 2 ^ bst σ c (cho σ c n)
theorem cho_lt (σ : Nat → Nat → Nat → Nat) (c : Nat) : ∀ n, cho σ c n < 32 := by
  intro n
  induction n with
  | zero => exact (by decide : 0 < 32)
  | succ n ih =>
    unfold cho
    have := bst_le σ c (cho σ c n)
    split
    · exact ih
    · exact bt_orlt _ ih _ (by omega)
def nThere (σ : Nat → Nat → Nat → Nat) : Nat → Nat
  | 0 => 0
  | n + 1 => if σ 2 n 0 = 1 then nThere σ n + 1 else nThere σ n
theorem nThere_le (σ : Nat → Nat → Nat → Nat) : ∀ n, nThere σ n ≤ n := by
  intro n
  induction n with
  | zero => exact Nat.le_refl _
  | succ n ih => unfold nThere; split <;> omega
/-- an empty replica of the chunk c at the first n of the set -/
def addE (σ : Nat → Nat → Nat → Nat) (ch c : Nat) : Nat → (Nat → Nat → Nat → Nat)
  | 0 => σ
  | n + 1 => if ch.testBit n then up3 (up3 (addE σ ch c n) 12 n c 1) 11 n 0 (addE σ ch c n 11 n 0 + 1) else addE σ ch c n
theorem addE_at {σ : Nat → Nat → Nat → Nat} {ch c : Nat} (n : Nat) (t i j : Nat) : addE σ ch c n t i j = if i < n ∧ ch.testBit i = true ∧ t = 12 ∧ j = c then 1 else if i < n ∧ ch.testBit i = true ∧ t = 11 ∧ j = 0 then σ 11 i 0 + 1 else σ t i j := by
  induction n generalizing t i j with
  | zero => simp [addE]
  | succ n ih =>
    unfold addE
    by_cases q : ch.testBit n
    · rw [if_pos q]
      unfold up3
      simp only [ih]
      by_cases r : i = n
      · subst r; simp [q]; grind
      · grind
    · rw [if_neg q, ih]
      by_cases r : i = n
      · subst r; simp [q]
      · grind
def cpW (w : Nat → Nat → Int32) (i q i2 q2 : Nat) : Nat → (Nat → Nat → Int32)
  | 0 => w
  | n + 1 => up2 (cpW w i q i2 q2 n) i (q * 4 + n) (cpW w i q i2 q2 n i2 (q2 * 4 + n))
theorem cpW_at {w : Nat → Nat → Int32} {i q i2 q2 : Nat} (h : ¬ (i = i2 ∧ q = q2)) : ∀ n, n ≤ 4 → ∀ x y, cpW w i q i2 q2 n x y = if x = i ∧ q * 4 ≤ y ∧ y < q * 4 + n then w i2 (q2 * 4 + (y - q * 4)) else w x y := by
  intro n
  induction n with
  | zero => intro _ x y; rw [if_neg (by omega)]; rfl
  | succ n ih =>
    intro hn x y
    unfold cpW up2
    rw [ih (by omega), ih (by omega)]
    by_cases r : x = i ∧ y = q * 4 + n
    · rw [if_pos r, if_neg (by omega), if_pos (by omega), r.2, Nat.add_sub_cancel_left]
    · rw [if_neg r]
      by_cases r2 : x = i ∧ q * 4 ≤ y ∧ y < q * 4 + n
      · rw [if_pos r2, if_pos (by omega)]
      · rw [if_neg r2, if_neg (by omega)]
end XS1
section XS2
variable {l : Launch} {D : va_G} {cl : List vw_C} {tys : List (ClassId × FieldType)} {base : Nat} {g : Nat → Nat} {cc : ByteArray} {n : Nat} {E : Nat → va_E} {post : xR → (Nat → va_E) → Prop} {kT nT : Nat}
/-- a contract of a method of the JDK that no entry stands for -/
theorem x_methodF {y : MethodName} {maxL : Nat} {ret : Option FieldType} {rm : Room} {av : List Value} (hy : plainFor y = true) (htr : ∀ e : Env, l.admits e → e.platform.stackTraces = false) (hlen : (lg_sl av).length ≤ maxL)
    (body : ∀ (p : Program) (e : Env) (s : State) (m : MethodId) (args : Array Value) (below : List Frame) (meth : Method) (c : Code), xC p l e s m meth c cc maxL y.cls args D cl tys base → c.exceptionTable.isEmpty = true → meth.sig.returnType = ret → meth.name = y.name →
      xG p l e rm s m args below meth c (xMQ below (xQc D cl base g n post) args s 0 0 kT nT (fun q => base ≤ q)) maxL D cl base g n E 0 0 0 (lv_args 0 av) []) :
    xMet l y [Cond.code y cc maxL ret] rm (xPc D cl tys base g n E av) (xQc D cl base g n post) 0 0 kT nT (fun q => base ≤ q) := by
  refine MetFree.of_bodySF (code := cc) (maxLocals := maxL) (ret := ret) hy ?_ ?_
  · intro args s m h hn
    obtain ⟨meth, c, h1, h2, h3, h4, h5, h6, -, -⟩ := Cond.code_spec hn (atoms_spec (ws := [Cond.code y cc maxL ret]) h _ List.mem_cons_self)
    exact ⟨meth, c, h1, h2, h3, h4, h5, h6⟩
  · intro p e s m args below meth c s₁ B hml hv _
    have hh0 : s₁.heap = s.heap := by rw [B.state]; rfl
    obtain ⟨rfl, hE, hK, hw⟩ := hv
    have hcode : (Cond.code y cc maxL ret).before av.toArray s = true := atoms_spec (ws := [Cond.code y cc maxL ret]) B.pre _ List.mem_cons_self
    have C : xC p l e s m meth c cc maxL y.cls av.toArray D cl tys base := ⟨B.exec, B.bytes, hml, findClass_of_methodNamed B.named, B.notSynchronized, hK, hE, htr e (Stand.of_body B).admits⟩
    have hl := lv_entry av (n := maxL) hlen
    have hb := body p e s m _ below meth c C (B.noHandlers hcode) B.returns (name_of_methodNamed B.named B.method).1 s.heap [] ((lg_sl av ++ List.replicate (maxL - (lg_sl av).length) Slot.unset).toArray) hw va_S.rf hl
    rw [← lg_entry_eq] at hb
    obtain ⟨t, a1, o, b1, b2, b3⟩ := hb s₁ hh0 (Stand.of_body B)
    exact ⟨t, o, a1, b1, b2, b3⟩
theorem b01_t {b : Bool} (h : b = true) : b01 b = 1 := by rw [h]; rfl
theorem b01_f {b : Bool} (h : b = false) : b01 b = 0 := by rw [h]; rfl
end XS2
end
section
section XM1
theorem m_CS_checkRange {l : Launch} (htr : xTr l) {D : va_G} {a : Nat → ClassId} {base : Nat} {g : Nat → Nat} {n : Nat} {E : Nat → va_E} {x : Int32} {N : Nat} (hN : N < 2 ^ 31) {k : Nat} (hk : 0 ≤ k) : xM l y_CS_checkRange b_CS_checkRange 2 none k D a base g n E [.int x, .int (nI N)] (fun r E' => E' = E ∧ r = if inR x N then .inl none else .inr e_IA) := by
  refine x_method (by decide) htr (Nat.le_of_ble_eq_true rfl) ?_
  intro p e s m args below meth c C hne hret hnm
  have C : xC p l e s m meth c b_CS_checkRange 2 "ChunkStore" args D xcl (xty a) base := C
  refine x_iload_n C d_CS_checkRange_0 rfl rfl ?_
  refine x_if_lt C 9 d_CS_checkRange_1 (by decide) (fun h1 => ?_) (fun h1 => ?_)
  · exact th_IA C hne (Nat.le_of_ble_eq_true rfl) d_CS_checkRange_9 d_CS_checkRange_12 d_CS_checkRange_13 d_CS_checkRange_15 d_CS_checkRange_18 (tx := "a number out of range") (by decide) ⟨rfl, by rw [if_neg (fun q => by obtain ⟨j, hj, rfl⟩ := inR_of q; first | exact nI_pos (by omega) h1 | exact h6 (nI_lt hj hN))]⟩
  · refine x_iload_n C d_CS_checkRange_4 rfl rfl ?_
    refine x_iload_n C d_CS_checkRange_5 rfl rfl ?_
    refine x_icmp_lt C 19 d_CS_checkRange_6 (by decide) (fun h6 => ?_) (fun h6 => ?_)
    · exact x_vret C hret d_CS_checkRange_19 ⟨rfl, by obtain ⟨j, hj, rfl⟩ := nI_of h1; rw [if_pos (inR_nI ((nI_ltI hj hN).mp h6) hN)]⟩
    · exact th_IA C hne (Nat.le_of_ble_eq_true rfl) d_CS_checkRange_9 d_CS_checkRange_12 d_CS_checkRange_13 d_CS_checkRange_15 d_CS_checkRange_18 (tx := "a number out of range") (by decide) ⟨rfl, by rw [if_neg (fun q => by obtain ⟨j, hj, rfl⟩ := inR_of q; first | exact nI_pos (by omega) h1 | exact h6 (nI_lt hj hN))]⟩
theorem m_CS_fileThere {l : Launch} (htr : xTr l) {D : va_G} {a : Nat → ClassId} {base : Nat} {g : Nat → Nat} {n : Nat} {σ : Nat → Nat → Nat → Nat} {w : Nat → Nat → Int32} {Y : Nat → va_E} (hn : 143 ≤ n) (hB : ∀ t i j, σ t i j < 2 ^ 30) {i : Nat} (hi : i < 8) {k : Nat} (hk : 0 ≤ k) : xM l y_CS_fileThere b_CS_fileThere 2 (some (FieldType.object "ChunkStore$FileEntry")) k D a base g n (EL a g σ w Y) [.ref (g 0), .int (nI i)] (fun r E' => E' = EL a g σ w Y ∧ r = if σ 2 i 0 = 1 then .inl (some (.ref (g (2 + 2 * i)))) else .inr e_NS) := by
  refine x_method (by decide) htr (Nat.le_of_ble_eq_true rfl) ?_
  intro p e s m args below meth c C hne hret hnm
  have C : xC p l e s m meth c b_CS_fileThere 2 "ChunkStore" args D xcl (xty a) base := C
  refine x_aload_n C d_CS_fileThere_0 rfl rfl ?_
  refine g_CS_cs_files C hn d_CS_fileThere_1 ?_
  refine x_iload_n C d_CS_fileThere_4 rfl rfl ?_
  refine e_arrF C hi hn d_CS_fileThere_5 ?_
  refine g_CS_file_state C hi hn d_CS_fileThere_6 ?_
  refine x_iconst C (v := nI 1) d_CS_fileThere_9 (by decide) ?_
  refine xn_icmp_eq C (Nat.lt_trans (hB 2 i 0) (by decide)) (by decide) 23 d_CS_fileThere_10 (by decide) (fun h10 => ?_) (fun h10 => ?_)
  · refine x_aload_n C d_CS_fileThere_23 rfl rfl ?_
    refine g_CS_cs_files C hn d_CS_fileThere_24 ?_
    refine x_iload_n C d_CS_fileThere_27 rfl rfl ?_
    refine e_arrF C hi hn d_CS_fileThere_28 ?_
    exact x_aret C hret (Or.inl ⟨_, rfl⟩) d_CS_fileThere_29 ⟨rfl, by rw [if_pos h10]⟩
  · exact th_NS C hne (Nat.le_of_ble_eq_true rfl) d_CS_fileThere_13 d_CS_fileThere_16 d_CS_fileThere_17 d_CS_fileThere_19 d_CS_fileThere_22 (tx := "the file is not there") (by decide) ⟨rfl, by rw [if_neg h10]⟩
theorem m_CS_fileNotYet {l : Launch} (htr : xTr l) {D : va_G} {a : Nat → ClassId} {base : Nat} {g : Nat → Nat} {n : Nat} {σ : Nat → Nat → Nat → Nat} {w : Nat → Nat → Int32} {Y : Nat → va_E} (hn : 143 ≤ n) (hB : ∀ t i j, σ t i j < 2 ^ 30) {i : Nat} (hi : i < 8) {k : Nat} (hk : 0 ≤ k) : xM l y_CS_fileNotYet b_CS_fileNotYet 2 (some (FieldType.object "ChunkStore$FileEntry")) k D a base g n (EL a g σ w Y) [.ref (g 0), .int (nI i)] (fun r E' => E' = EL a g σ w Y ∧ r = if σ 2 i 0 = 0 then .inl (some (.ref (g (2 + 2 * i)))) else .inr e_IS) := by
  refine x_method (by decide) htr (Nat.le_of_ble_eq_true rfl) ?_
  intro p e s m args below meth c C hne hret hnm
  have C : xC p l e s m meth c b_CS_fileNotYet 2 "ChunkStore" args D xcl (xty a) base := C
  refine x_aload_n C d_CS_fileNotYet_0 rfl rfl ?_
  refine g_CS_cs_files C hn d_CS_fileNotYet_1 ?_
  refine x_iload_n C d_CS_fileNotYet_4 rfl rfl ?_
  refine e_arrF C hi hn d_CS_fileNotYet_5 ?_
  refine g_CS_file_state C hi hn d_CS_fileNotYet_6 ?_
  refine xn_if_eq C (Nat.lt_trans (hB 2 i 0) (by decide)) 22 d_CS_fileNotYet_9 (by decide) (fun h9 => ?_) (fun h9 => ?_)
  · refine x_aload_n C d_CS_fileNotYet_22 rfl rfl ?_
    refine g_CS_cs_files C hn d_CS_fileNotYet_23 ?_
    refine x_iload_n C d_CS_fileNotYet_26 rfl rfl ?_
    refine e_arrF C hi hn d_CS_fileNotYet_27 ?_
    exact x_aret C hret (Or.inl ⟨_, rfl⟩) d_CS_fileNotYet_28 ⟨rfl, by rw [if_pos h9]⟩
  · exact th_IS C hne (Nat.le_of_ble_eq_true rfl) d_CS_fileNotYet_12 d_CS_fileNotYet_15 d_CS_fileNotYet_16 d_CS_fileNotYet_18 d_CS_fileNotYet_21 (tx := "the file is there or hidden") (by decide) ⟨rfl, by rw [if_neg h9]⟩
theorem m_CS_checkPlace {l : Launch} (htr : xTr l) {D : va_G} {a : Nat → ClassId} {base : Nat} {g : Nat → Nat} {n : Nat} {σ : Nat → Nat → Nat → Nat} {w : Nat → Nat → Int32} {Y : Nat → va_E} (hn : 143 ≤ n) (hB : ∀ t i j, σ t i j < 2 ^ 30) {i q : Nat} (hi : i < 8) (hq : q < 2 ^ 31) {k : Nat} (hk : 0 ≤ k) : xM l y_CS_checkPlace b_CS_checkPlace 2 none k D a base g n (EL a g σ w Y) [.ref (g (2 + 2 * i)), .int (nI q)] (fun r E' => E' = EL a g σ w Y ∧ r = if q < σ 3 i 0 then .inl none else .inr e_IO) := by
  refine x_method (by decide) htr (Nat.le_of_ble_eq_true rfl) ?_
  intro p e s m args below meth c C hne hret hnm
  have C : xC p l e s m meth c b_CS_checkPlace 2 "ChunkStore" args D xcl (xty a) base := C
  refine x_iload_n C d_CS_checkPlace_0 rfl rfl ?_
  refine x_aload_n C d_CS_checkPlace_1 rfl rfl ?_
  refine g_CS_file_count C hi hn d_CS_checkPlace_2 ?_
  refine xn_icmp_lt C hq (Nat.lt_trans (hB 3 i 0) (by decide)) 18 d_CS_checkPlace_5 (by decide) (fun h5 => ?_) (fun h5 => ?_)
  · exact x_vret C hret d_CS_checkPlace_18 ⟨rfl, by rw [if_pos h5]⟩
  · exact th_IO C hne (Nat.le_of_ble_eq_true rfl) d_CS_checkPlace_8 d_CS_checkPlace_11 d_CS_checkPlace_12 d_CS_checkPlace_14 d_CS_checkPlace_17 (tx := "no such place in the row") (by decide) ⟨rfl, by rw [if_neg (by omega)]⟩
theorem m_SV_has {l : Launch} (htr : xTr l) {D : va_G} {a : Nat → ClassId} {base : Nat} {g : Nat → Nat} {n : Nat} {σ : Nat → Nat → Nat → Nat} {w : Nat → Nat → Int32} {Y : Nat → va_E} (hn : 143 ≤ n) (hB : ∀ t i j, σ t i j < 2 ^ 30) {i q : Nat} (hi : i < 5) (hq : q < 30) {k : Nat} (hk : 0 ≤ k) : xM l y_SV_has b_SV_has 2 (some FieldType.boolean) k D a base g n (EL a g σ w Y) [.ref (g (50 + 4 * i)), .int (nI q)] (fun r E' => E' = EL a g σ w Y ∧ r = .inl (some (.int (nI (b01 (decide (0 < σ 12 i q))))))) := by
  refine x_method (by decide) htr (Nat.le_of_ble_eq_true rfl) ?_
  intro p e s m args below meth c C hne hret hnm
  have C : xC p l e s m meth c b_SV_has 2 "ChunkStore$Server" args D xcl (xty a) base := C
  refine x_aload_n C d_SV_has_0 rfl rfl ?_
  refine g_SV_server_versions C hi hn d_SV_has_1 ?_
  refine x_iload_n C d_SV_has_4 rfl rfl ?_
  refine e_vers C hi hq hn d_SV_has_5 ?_
  refine xn_if_le C (Nat.lt_trans (hB 12 i q) (by decide)) 13 d_SV_has_6 (by decide) (fun h6 => ?_) (fun h6 => ?_)
  · refine x_iconst C (v := nI 0) d_SV_has_13 (by decide) ?_
    exact x_zret C hret rfl d_SV_has_14 ⟨rfl, by rw [b01_f (by simp; omega)]⟩
  · refine x_iconst C (v := nI 1) d_SV_has_9 (by decide) ?_
    refine x_goto C 14 d_SV_has_10 (by decide) ?_
    exact x_zret C hret rfl d_SV_has_14 ⟨rfl, by rw [b01_t (by simp; omega)]⟩
theorem m_SV_isFull {l : Launch} (htr : xTr l) {D : va_G} {a : Nat → ClassId} {base : Nat} {g : Nat → Nat} {n : Nat} {σ : Nat → Nat → Nat → Nat} {w : Nat → Nat → Int32} {Y : Nat → va_E} (hn : 143 ≤ n) (hB : ∀ t i j, σ t i j < 2 ^ 30) {i : Nat} (hi : i < 5) {k : Nat} (hk : 0 ≤ k) : xM l y_SV_isFull b_SV_isFull 1 (some FieldType.boolean) k D a base g n (EL a g σ w Y) [.ref (g (50 + 4 * i))] (fun r E' => E' = EL a g σ w Y ∧ r = .inl (some (.int (nI (b01 (decide (12 ≤ σ 11 i 0))))))) := by
  refine x_method (by decide) htr (Nat.le_of_ble_eq_true rfl) ?_
  intro p e s m args below meth c C hne hret hnm
  have C : xC p l e s m meth c b_SV_isFull 1 "ChunkStore$Server" args D xcl (xty a) base := C
  refine x_aload_n C d_SV_isFull_0 rfl rfl ?_
  refine g_SV_server_replicas C hi hn d_SV_isFull_1 ?_
  refine x_bipush C (v := nI 12) d_SV_isFull_4 (by decide) ?_
  refine xn_icmp_lt C (Nat.lt_trans (hB 11 i 0) (by decide)) (by decide) 13 d_SV_isFull_6 (by decide) (fun h6 => ?_) (fun h6 => ?_)
  · refine x_iconst C (v := nI 0) d_SV_isFull_13 (by decide) ?_
    exact x_zret C hret rfl d_SV_isFull_14 ⟨rfl, by rw [b01_f (by simp; omega)]⟩
  · refine x_iconst C (v := nI 1) d_SV_isFull_9 (by decide) ?_
    refine x_goto C 14 d_SV_isFull_10 (by decide) ?_
    exact x_zret C hret rfl d_SV_isFull_14 ⟨rfl, by rw [b01_t (by simp; omega)]⟩
theorem m_SV_word {l : Launch} (htr : xTr l) {D : va_G} {a : Nat → ClassId} {base : Nat} {g : Nat → Nat} {n : Nat} {σ : Nat → Nat → Nat → Nat} {w : Nat → Nat → Int32} {Y : Nat → va_E} (hn : 143 ≤ n) (hB : ∀ t i j, σ t i j < 2 ^ 30) {i q u : Nat} (hi : i < 5) (hq : q < 30) (hu : u < 4) {k : Nat} (hk : 0 ≤ k) : xM l y_SV_word b_SV_word 3 (some FieldType.int) k D a base g n (EL a g σ w Y) [.ref (g (50 + 4 * i)), .int (nI q), .int (nI u)] (fun r E' => E' = EL a g σ w Y ∧ r = .inl (some (.int (w i (q * 4 + u))))) := by
  refine x_method (by decide) htr (Nat.le_of_ble_eq_true rfl) ?_
  intro p e s m args below meth c C hne hret hnm
  have C : xC p l e s m meth c b_SV_word 3 "ChunkStore$Server" args D xcl (xty a) base := C
  refine x_aload_n C d_SV_word_0 rfl rfl ?_
  refine g_SV_server_words C hi hn d_SV_word_1 ?_
  refine x_iload_n C d_SV_word_4 rfl rfl ?_
  refine x_iconst C (v := nI 4) d_SV_word_5 (by decide) ?_
  refine xn_imul C d_SV_word_6 ?_
  refine x_iload_n C d_SV_word_7 rfl rfl ?_
  refine xn_iadd C d_SV_word_8 ?_
  refine e_wrds C hi (by omega) hn d_SV_word_9 ?_
  exact x_iret C hret d_SV_word_10 ⟨rfl, rfl⟩
theorem m_SV_drop {l : Launch} (htr : xTr l) {D : va_G} {a : Nat → ClassId} {base : Nat} {g : Nat → Nat} {n : Nat} {σ : Nat → Nat → Nat → Nat} {w : Nat → Nat → Int32} {Y : Nat → va_E} (hn : 143 ≤ n) (hB : ∀ t i j, σ t i j < 2 ^ 30) {i q : Nat} (hi : i < 5) (hq : q < 30) (h1 : 1 ≤ σ 11 i 0) {k : Nat} (hk : 0 ≤ k) : xM l y_SV_drop b_SV_drop 2 none k D a base g n (EL a g σ w Y) [.ref (g (50 + 4 * i)), .int (nI q)] (fun r E' => E' = EL a g (up3 (up3 σ 12 i q 0) 11 i 0 (σ 11 i 0 - 1)) w Y ∧ r = .inl none) := by
  refine x_method (by decide) htr (Nat.le_of_ble_eq_true rfl) ?_
  intro p e s m args below meth c C hne hret hnm
  have C : xC p l e s m meth c b_SV_drop 2 "ChunkStore$Server" args D xcl (xty a) base := C
  refine x_aload_n C d_SV_drop_0 rfl rfl ?_
  refine g_SV_server_versions C hi hn d_SV_drop_1 ?_
  refine x_iload_n C d_SV_drop_4 rfl rfl ?_
  refine x_iconst C (v := nI 0) d_SV_drop_5 (by decide) ?_
  refine a_vers C hi hq hn d_SV_drop_6 ?_
  refine x_aload_n C d_SV_drop_7 rfl rfl ?_
  refine x_dup C d_SV_drop_8 rfl ?_
  refine g_SV_server_replicas C hi hn d_SV_drop_9 ?_
  refine x_iconst C (v := nI 1) d_SV_drop_12 (by decide) ?_
  refine xn_isub C (by rw [up3_n (by decide)]; exact h1) d_SV_drop_13 ?_
  refine p_SV_server_replicas C hi hn d_SV_drop_14 ?_
  exact x_vret C hret d_SV_drop_17 ⟨by simp only [up3_n (show ¬ 11 = 12 by decide)], rfl⟩
theorem m_SV_addEmpty {l : Launch} (htr : xTr l) {D : va_G} {a : Nat → ClassId} {base : Nat} {g : Nat → Nat} {n : Nat} {σ : Nat → Nat → Nat → Nat} {w : Nat → Nat → Int32} {Y : Nat → va_E} (hn : 143 ≤ n) (hB : ∀ t i j, σ t i j < 2 ^ 30) {i q : Nat} (hi : i < 5) (hq : q < 30) {k : Nat} (hk : 0 ≤ k) : xM l y_SV_addEmpty b_SV_addEmpty 2 none k D a base g n (EL a g σ w Y) [.ref (g (50 + 4 * i)), .int (nI q)] (fun r E' => E' = EL a g (up3 (up3 σ 12 i q 1) 11 i 0 (σ 11 i 0 + 1)) w Y ∧ r = .inl none) := by
  refine x_method (by decide) htr (Nat.le_of_ble_eq_true rfl) ?_
  intro p e s m args below meth c C hne hret hnm
  have C : xC p l e s m meth c b_SV_addEmpty 2 "ChunkStore$Server" args D xcl (xty a) base := C
  refine x_aload_n C d_SV_addEmpty_0 rfl rfl ?_
  refine g_SV_server_versions C hi hn d_SV_addEmpty_1 ?_
  refine x_iload_n C d_SV_addEmpty_4 rfl rfl ?_
  refine x_iconst C (v := nI 1) d_SV_addEmpty_5 (by decide) ?_
  refine a_vers C hi hq hn d_SV_addEmpty_6 ?_
  refine x_aload_n C d_SV_addEmpty_7 rfl rfl ?_
  refine x_dup C d_SV_addEmpty_8 rfl ?_
  refine g_SV_server_replicas C hi hn d_SV_addEmpty_9 ?_
  refine x_iconst C (v := nI 1) d_SV_addEmpty_12 (by decide) ?_
  refine xn_iadd C d_SV_addEmpty_13 ?_
  refine p_SV_server_replicas C hi hn d_SV_addEmpty_14 ?_
  exact x_vret C hret d_SV_addEmpty_17 ⟨by simp only [up3_n (show ¬ 11 = 12 by decide)], rfl⟩
theorem m_FE_addAtEnd {l : Launch} (htr : xTr l) {D : va_G} {a : Nat → ClassId} {base : Nat} {g : Nat → Nat} {n : Nat} {σ : Nat → Nat → Nat → Nat} {w : Nat → Nat → Int32} {Y : Nat → va_E} (hn : 143 ≤ n) (hB : ∀ t i j, σ t i j < 2 ^ 30) {i q : Nat} (hi : i < 8) (hq : q < 2 ^ 31) {k : Nat} (hk : 0 ≤ k) : xM l y_FE_addAtEnd b_FE_addAtEnd 2 none k D a base g n (EL a g σ w Y) [.ref (g (2 + 2 * i)), .int (nI q)] (fun r E' => E' = EL a g (if σ 3 i 0 < 3 then up3 (up3 σ 4 i (σ 3 i 0) q) 3 i 0 (σ 3 i 0 + 1) else σ) w Y ∧ r = .inl none) := by
  refine x_method (by decide) htr (Nat.le_of_ble_eq_true rfl) ?_
  intro p e s m args below meth c C hne hret hnm
  have C : xC p l e s m meth c b_FE_addAtEnd 2 "ChunkStore$FileEntry" args D xcl (xty a) base := C
  refine x_aload_n C d_FE_addAtEnd_0 rfl rfl ?_
  refine g_FE_file_count C hi hn d_FE_addAtEnd_1 ?_
  refine x_iconst C (v := nI 3) d_FE_addAtEnd_4 (by decide) ?_
  refine xn_icmp_ge C (Nat.lt_trans (hB 3 i 0) (by decide)) (by decide) 28 d_FE_addAtEnd_5 (by decide) (fun h5 => ?_) (fun h5 => ?_)
  · exact x_vret C hret d_FE_addAtEnd_28 ⟨by rw [if_neg (by omega)], rfl⟩
  · refine x_aload_n C d_FE_addAtEnd_8 rfl rfl ?_
    refine g_FE_file_row C hi hn d_FE_addAtEnd_9 ?_
    refine x_aload_n C d_FE_addAtEnd_12 rfl rfl ?_
    refine g_FE_file_count C hi hn d_FE_addAtEnd_13 ?_
    refine x_iload_n C d_FE_addAtEnd_16 rfl rfl ?_
    refine a_row C hi (by omega) hn d_FE_addAtEnd_17 ?_
    refine x_aload_n C d_FE_addAtEnd_18 rfl rfl ?_
    refine x_dup C d_FE_addAtEnd_19 rfl ?_
    refine g_FE_file_count C hi hn d_FE_addAtEnd_20 ?_
    refine x_iconst C (v := nI 1) d_FE_addAtEnd_23 (by decide) ?_
    refine xn_iadd C d_FE_addAtEnd_24 ?_
    refine p_FE_file_count C hi hn d_FE_addAtEnd_25 ?_
    exact x_vret C hret d_FE_addAtEnd_28 ⟨by rw [if_pos h5]; simp only [up3_n (show ¬ 3 = 4 by decide)], rfl⟩
theorem m_CS_startChunk {l : Launch} (htr : xTr l) {D : va_G} {a : Nat → ClassId} {base : Nat} {g : Nat → Nat} {n : Nat} {σ : Nat → Nat → Nat → Nat} {w : Nat → Nat → Int32} {Y : Nat → va_E} (hn : 143 ≤ n) (hB : ∀ t i j, σ t i j < 2 ^ 30) {h : Nat} (hm : σ 0 0 0 < 30) {k : Nat} (hk : 0 ≤ k) : xM l y_CS_startChunk b_CS_startChunk 3 none k D a base g n (EL a g σ w Y) [.ref (g 0), .int (nI h)] (fun r E' => E' = EL a g (up3 (up3 (up3 (up3 σ 6 (σ 0 0 0) 0 1) 7 (σ 0 0 0) 0 1) 8 (σ 0 0 0) 0 h) 0 0 0 (σ 0 0 0 + 1)) w Y ∧ r = .inl none) := by
  refine x_method (by decide) htr (Nat.le_of_ble_eq_true rfl) ?_
  intro p e s m args below meth c C hne hret hnm
  have C : xC p l e s m meth c b_CS_startChunk 3 "ChunkStore" args D xcl (xty a) base := C
  refine x_aload_n C d_CS_startChunk_0 rfl rfl ?_
  refine g_CS_cs_chunks C hn d_CS_startChunk_1 ?_
  refine x_aload_n C d_CS_startChunk_4 rfl rfl ?_
  refine g_CS_cs_made C hn d_CS_startChunk_5 ?_
  refine e_arrC C hm hn d_CS_startChunk_8 ?_
  refine x_astore_n C d_CS_startChunk_9 rfl (by decide) rfl ?_
  refine x_aload_n C d_CS_startChunk_10 rfl rfl ?_
  refine x_iconst C (v := nI 1) d_CS_startChunk_11 (by decide) ?_
  refine p_CS_chunk_version C hm hn d_CS_startChunk_12 ?_
  refine x_aload_n C d_CS_startChunk_15 rfl rfl ?_
  refine x_iconst C (v := nI 1) d_CS_startChunk_16 (by decide) ?_
  refine p_CS_chunk_refs C hm hn d_CS_startChunk_17 ?_
  refine x_aload_n C d_CS_startChunk_20 rfl rfl ?_
  refine x_iload_n C d_CS_startChunk_21 rfl rfl ?_
  refine p_CS_chunk_holders C hm hn d_CS_startChunk_22 ?_
  refine x_aload_n C d_CS_startChunk_25 rfl rfl ?_
  refine x_dup C d_CS_startChunk_26 rfl ?_
  refine g_CS_cs_made C hn d_CS_startChunk_27 ?_
  refine x_iconst C (v := nI 1) d_CS_startChunk_30 (by decide) ?_
  refine xn_iadd C d_CS_startChunk_31 ?_
  refine p_CS_cs_made C hn d_CS_startChunk_32 ?_
  exact x_vret C hret d_CS_startChunk_35 ⟨by simp only [up3_n (show ¬ 0 = 6 by decide), up3_n (show ¬ 0 = 7 by decide), up3_n (show ¬ 0 = 8 by decide)], rfl⟩
theorem m_CS_isIn {l : Launch} (htr : xTr l) {D : va_G} {a : Nat → ClassId} {base : Nat} {g : Nat → Nat} {n : Nat} {E : Nat → va_E} {h i : Nat} (hh : h < 32) (hi : i < 5) {k : Nat} (hk : 0 ≤ k) : xM l y_CS_isIn b_CS_isIn 2 (some FieldType.boolean) k D a base g n E [.int (nI h), .int (nI i)] (fun r E' => E' = E ∧ r = .inl (some (.int (nI (b01 (h.testBit i)))))) := by
  refine x_method (by decide) htr (Nat.le_of_ble_eq_true rfl) ?_
  intro p e s m args below meth c C hne hret hnm
  have C : xC p l e s m meth c b_CS_isIn 2 "ChunkStore" args D xcl (xty a) base := C
  refine x_iload_n C d_CS_isIn_0 rfl rfl ?_
  refine x_iconst C (v := nI 1) d_CS_isIn_1 (by decide) ?_
  refine x_iload_n C d_CS_isIn_2 rfl rfl ?_
  refine xn_bit C hi d_CS_isIn_3 ?_
  refine xn_iand C hh (bt_p _ hi) d_CS_isIn_4 ?_
  refine xn_if_eq C (Nat.lt_trans (bt_andlt _ hh _ (bt_p _ hi)) (by decide)) 12 d_CS_isIn_5 (by decide) (fun h5 => ?_) (fun h5 => ?_)
  · refine x_iconst C (v := nI 0) d_CS_isIn_12 (by decide) ?_
    exact x_zret C hret rfl d_CS_isIn_13 ⟨rfl, by rw [bt_and h hh i hi] at h5; simp [b01, h5]⟩
  · refine x_iconst C (v := nI 1) d_CS_isIn_8 (by decide) ?_
    refine x_goto C 13 d_CS_isIn_9 (by decide) ?_
    exact x_zret C hret rfl d_CS_isIn_13 ⟨rfl, by rw [bt_and h hh i hi] at h5; simp [b01, h5]⟩
theorem m_CS_isLeased {l : Launch} (htr : xTr l) {D : va_G} {a : Nat → ClassId} {base : Nat} {g : Nat → Nat} {n : Nat} {σ : Nat → Nat → Nat → Nat} {w : Nat → Nat → Int32} {Y : Nat → va_E} (hn : 143 ≤ n) (hB : ∀ t i j, σ t i j < 2 ^ 30) {i : Nat} (hi : i < 30) {k : Nat} (hk : 0 ≤ k) : xM l y_CS_isLeased b_CS_isLeased 2 (some FieldType.boolean) k D a base g n (EL a g σ w Y) [.ref (g 0), .ref (g (19 + i))] (fun r E' => E' = EL a g σ w Y ∧ r = .inl (some (.int (nI (b01 (decide (σ 1 0 0 < σ 9 i 0))))))) := by
  refine x_method (by decide) htr (Nat.le_of_ble_eq_true rfl) ?_
  intro p e s m args below meth c C hne hret hnm
  have C : xC p l e s m meth c b_CS_isLeased 2 "ChunkStore" args D xcl (xty a) base := C
  refine x_aload_n C d_CS_isLeased_0 rfl rfl ?_
  refine g_CS_chunk_leaseEnd C hi hn d_CS_isLeased_1 ?_
  refine x_aload_n C d_CS_isLeased_4 rfl rfl ?_
  refine g_CS_cs_time C hn d_CS_isLeased_5 ?_
  refine xn_dcmp C (Nat.lt_trans (hB 9 i 0) (by decide)) (Nat.lt_trans (hB 1 0 0) (by decide)) d_CS_isLeased_8 ?_
  refine x_if_le C 16 d_CS_isLeased_9 (by decide) (fun h9 => ?_) (fun h9 => ?_)
  · have h9 := cmpI_le h9
    refine x_iconst C (v := nI 0) d_CS_isLeased_16 (by decide) ?_
    exact x_zret C hret rfl d_CS_isLeased_17 ⟨rfl, by rw [b01_f (by simp; omega)]⟩
  · have h9 := cmpI_nle h9
    refine x_iconst C (v := nI 1) d_CS_isLeased_12 (by decide) ?_
    refine x_goto C 17 d_CS_isLeased_13 (by decide) ?_
    exact x_zret C hret rfl d_CS_isLeased_17 ⟨rfl, by rw [b01_t (by simp; omega)]⟩
theorem m_MA_max {l : Launch} (htr : xTr l) {D : va_G} {a : Nat → ClassId} {base : Nat} {g : Nat → Nat} {n : Nat} {E : Nat → va_E} {x y : Nat} (hx : x < 2 ^ 31) (hy : y < 2 ^ 31) {k : Nat} (hk : 0 ≤ k) : xM l y_MA_max b_MA_max 2 (some FieldType.int) k D a base g n E [.int (nI x), .int (nI y)] (fun r E' => E' = E ∧ r = .inl (some (.int (nI (if y ≤ x then x else y))))) := by
  refine x_methodF (by decide +kernel) htr (Nat.le_of_ble_eq_true rfl) ?_
  intro p e s m args below meth c C hne hret hnm
  have C : xC p l e s m meth c b_MA_max 2 "java/lang/Math" args D xcl (xty a) base := C
  refine x_iload_n C d_MA_max_0 rfl rfl ?_
  refine x_iload_n C d_MA_max_1 rfl rfl ?_
  refine xn_icmp_lt C hx hy 9 d_MA_max_2 (by decide) (fun h2 => ?_) (fun h2 => ?_)
  · refine x_iload_n C d_MA_max_9 rfl rfl ?_
    exact x_iret C hret d_MA_max_10 ⟨rfl, by first | rw [if_pos (by omega)] | rw [if_neg (by omega)]⟩
  · refine x_iload_n C d_MA_max_5 rfl rfl ?_
    refine x_goto C 10 d_MA_max_6 (by decide) ?_
    exact x_iret C hret d_MA_max_10 ⟨rfl, by first | rw [if_pos (by omega)] | rw [if_neg (by omega)]⟩
theorem m_CS_countThere {l : Launch} (htr : xTr l) {D : va_G} {a : Nat → ClassId} {base : Nat} {g : Nat → Nat} {n : Nat} {σ : Nat → Nat → Nat → Nat} {w : Nat → Nat → Int32} {Y : Nat → va_E} (hn : 143 ≤ n) (hB : ∀ t i j, σ t i j < 2 ^ 30)  {k : Nat} (hk : 0 ≤ k) : xM l y_CS_countThere b_CS_countThere 3 (some FieldType.int) k D a base g n (EL a g σ w Y) [.ref (g 0)] (fun r E' => E' = EL a g σ w Y ∧ r = .inl (some (.int (nI (nThere σ 8))))) := by
  refine x_method (by decide) htr (Nat.le_of_ble_eq_true rfl) ?_
  intro p e s m args below meth c C hne hret hnm
  have C : xC p l e s m meth c b_CS_countThere 3 "ChunkStore" args D xcl (xty a) base := C
  refine x_iconst C (v := nI 0) d_CS_countThere_0 (by decide) ?_
  refine x_istore_n C d_CS_countThere_1 rfl (by decide) rfl ?_
  refine x_iconst C (v := nI 0) d_CS_countThere_2 (by decide) ?_
  refine x_istore_n C d_CS_countThere_3 rfl (by decide) rfl ?_
  refine x_loop 8 (fun i => EL a g σ w Y) (fun i => [(0, .ref (g (0))), (1, .int (nI (nThere σ i))), (2, .int (nI i))]) (fun i => True) rfl ⟨rfl, rfl, rfl, trivial⟩ trivial ?_
  intro i hi hIi ihi
  refine x_iload_n C d_CS_countThere_4 rfl rfl ?_
  refine x_bipush C (v := nI 8) d_CS_countThere_5 (by decide) ?_
  refine xn_icmp_ge C (by omega) (by decide) 32 d_CS_countThere_7 (by decide) (fun h7 => ?_) (fun h7 => ?_)
  · refine x_iload_n C d_CS_countThere_32 rfl rfl ?_
    exact x_iret C hret d_CS_countThere_33 ⟨rfl, by rw [show i = 8 by omega]⟩
  · refine x_aload_n C d_CS_countThere_10 rfl rfl ?_
    refine g_CS_cs_files C hn d_CS_countThere_11 ?_
    refine x_iload_n C d_CS_countThere_14 rfl rfl ?_
    refine e_arrF C (by omega) hn d_CS_countThere_15 ?_
    refine g_CS_file_state C (by omega) hn d_CS_countThere_16 ?_
    refine x_iconst C (v := nI 1) d_CS_countThere_19 (by decide) ?_
    refine xn_icmp_ne C (Nat.lt_trans (hB 2 i 0) (by decide)) (by decide) 26 d_CS_countThere_20 (by decide) (fun h20 => ?_) (fun h20 => ?_)
    · refine x_lv [(0, .ref (g (0))), (1, .int (nI (nThere σ i))), (2, .int (nI i))] ⟨rfl, rfl, rfl, trivial⟩ ?_
      refine xn_iinc C d_CS_countThere_26 2 rfl (by decide) rfl ?_
      refine x_goto C 4 d_CS_countThere_29 (by decide) ?_
      exact x_lv [(0, .ref (g (0))), (1, .int (nI (nThere σ (i + 1)))), (2, .int (nI (i + 1)))] ⟨rfl, by rw [show nThere σ (i + 1) = nThere σ i by rw [nThere, if_neg h20]]; rfl, rfl, trivial⟩ (ihi (by omega) trivial)
    · refine x_lv [(0, .ref (g (0))), (1, .int (nI (nThere σ i))), (2, .int (nI i))] ⟨rfl, rfl, rfl, trivial⟩ ?_
      refine xn_iinc C d_CS_countThere_23 1 rfl (by decide) rfl ?_
      refine x_lv [(0, .ref (g (0))), (1, .int (nI ((nThere σ i) + 1))), (2, .int (nI i))] ⟨rfl, rfl, rfl, trivial⟩ ?_
      refine xn_iinc C d_CS_countThere_26 2 rfl (by decide) rfl ?_
      refine x_goto C 4 d_CS_countThere_29 (by decide) ?_
      exact x_lv [(0, .ref (g (0))), (1, .int (nI (nThere σ (i + 1)))), (2, .int (nI (i + 1)))] ⟨rfl, by rw [show nThere σ (i + 1) = nThere σ i + 1 by rw [nThere, if_pos h20]]; rfl, rfl, trivial⟩ (ihi (by omega) trivial)
end XM1
end
section
section XM2
theorem all_succ {P : Nat → Prop} {i : Nat} (h : ∀ j, j < i → P j) (h2 : P i) : ∀ j, j < i + 1 → P j := by
  intro j hj
  by_cases q : j = i
  · rw [q]; exact h2
  · exact h j (by omega)
theorem m_CS_first {l : Launch} (htr : xTr l) {D : va_G} {a : Nat → ClassId} {base : Nat} {g : Nat → Nat} {n : Nat} {E : Nat → va_E} {h : Nat} (hh : h < 32) {k : Nat} (hk : 1 ≤ k) : xM l y_CS_first b_CS_first 2 (some FieldType.int) k D a base g n E [.int (nI h)] (fun r E' => E' = E ∧ r = .inl (some (.int (iv 5 (fst5 h))))) := by
  refine x_method (by decide) htr (Nat.le_of_ble_eq_true rfl) ?_
  intro p e s m args below meth c C hne hret hnm
  have C : xC p l e s m meth c b_CS_first 2 "ChunkStore" args D xcl (xty a) base := C
  refine x_iconst C (v := nI 0) d_CS_first_0 (by decide) ?_
  refine x_istore_n C d_CS_first_1 rfl (by decide) rfl ?_
  refine x_loop 5 (fun i => E) (fun i => [(0, .int (nI h)), (1, .int (nI i))]) (fun i => ∀ j, j < i → h.testBit j = false) rfl ⟨rfl, rfl, trivial⟩ (fun j hj => absurd hj (Nat.not_lt_zero j)) ?_
  intro i hi hIi ihi
  refine x_iload_n C d_CS_first_2 rfl rfl ?_
  refine x_iconst C (v := nI 5) d_CS_first_3 (by decide) ?_
  refine xn_icmp_ge C (by omega) (by decide) 23 d_CS_first_4 (by decide) (fun h4 => ?_) (fun h4 => ?_)
  · refine x_iconst C (v := -1) d_CS_first_23 (by decide) ?_
    exact x_iret C hret d_CS_first_24 ⟨rfl, by rw [fst5_no (fun j hj => hIi j (by omega))]; rfl⟩
  · refine x_iload_n C d_CS_first_7 rfl rfl ?_
    refine x_iload_n C d_CS_first_8 rfl rfl ?_
    refine c_CS_CS_isIn C (by omega) (m_CS_isIn htr hh (by omega) (Nat.le_refl _)) rfl rfl (Nat.le_of_ble_eq_true rfl) d_CS_first_9 (fun v E' hp => ?_) (fun X E' hp => ?_)
    · obtain ⟨rfl, hv⟩ := hp
      cases hv
      refine xn_if_eq C (b01_lt _) 17 d_CS_first_12 (by decide) (fun h12 => ?_) (fun h12 => ?_)
      · rw [b01_0] at h12
        refine x_lv [(0, .int (nI h)), (1, .int (nI i))] ⟨rfl, rfl, trivial⟩ ?_
        refine xn_iinc C d_CS_first_17 1 rfl (by decide) rfl ?_
        refine x_goto C 2 d_CS_first_20 (by decide) ?_
        exact x_lv [(0, .int (nI h)), (1, .int (nI (i + 1)))] ⟨rfl, rfl, trivial⟩ (ihi (by omega) (all_succ hIi h12))
      · rw [b01_n0] at h12
        refine x_iload_n C d_CS_first_15 rfl rfl ?_
        exact x_iret C hret d_CS_first_16 ⟨rfl, by rw [fst5_at (by omega) h12 hIi, iv_lt (by omega)]⟩
    · cases hp.2
theorem m_CS_liveHolders {l : Launch} (htr : xTr l) {D : va_G} {a : Nat → ClassId} {base : Nat} {g : Nat → Nat} {n : Nat} {σ : Nat → Nat → Nat → Nat} {w : Nat → Nat → Int32} {Y : Nat → va_E} (hn : 143 ≤ n) (hB : ∀ t i j, σ t i j < 2 ^ 30) (hH : ∀ c, σ 8 c 0 < 32) {q : Nat} (hq : q < 30) {k : Nat} (hk : 1 ≤ k) : xM l y_CS_liveHolders b_CS_liveHolders 4 (some FieldType.int) k D a base g n (EL a g σ w Y) [.ref (g 0), .int (nI q)] (fun r E' => E' = EL a g σ w Y ∧ r = .inl (some (.int (nI (lvh σ q))))) := by
  refine x_method (by decide) htr (Nat.le_of_ble_eq_true rfl) ?_
  intro p e s m args below meth c C hne hret hnm
  have C : xC p l e s m meth c b_CS_liveHolders 4 "ChunkStore" args D xcl (xty a) base := C
  refine x_iconst C (v := nI 0) d_CS_liveHolders_0 (by decide) ?_
  refine x_istore_n C d_CS_liveHolders_1 rfl (by decide) rfl ?_
  refine x_iconst C (v := nI 0) d_CS_liveHolders_2 (by decide) ?_
  refine x_istore_n C d_CS_liveHolders_3 rfl (by decide) rfl ?_
  refine x_loop 5 (fun i => EL a g σ w Y) (fun i => [(0, .ref (g (0))), (1, .int (nI q)), (2, .int (nI (liv (fun i => σ 10 i 0) (σ 8 q 0) i))), (3, .int (nI i))]) (fun i => True) rfl ⟨rfl, rfl, rfl, rfl, trivial⟩ trivial ?_
  intro i hi hIi ihi
  refine x_iload_n C d_CS_liveHolders_4 rfl rfl ?_
  refine x_iconst C (v := nI 5) d_CS_liveHolders_5 (by decide) ?_
  refine xn_icmp_ge C (by omega) (by decide) 49 d_CS_liveHolders_6 (by decide) (fun h6 => ?_) (fun h6 => ?_)
  · refine x_iload_n C d_CS_liveHolders_49 rfl rfl ?_
    exact x_iret C hret d_CS_liveHolders_50 ⟨rfl, by rw [show i = 5 by omega]; rfl⟩
  · refine x_aload_n C d_CS_liveHolders_9 rfl rfl ?_
    refine g_CS_cs_servers C hn d_CS_liveHolders_10 ?_
    refine x_iload_n C d_CS_liveHolders_13 rfl rfl ?_
    refine e_arrS C (by omega) hn d_CS_liveHolders_14 ?_
    refine g_CS_server_isUp C (by omega) hn d_CS_liveHolders_15 ?_
    refine xn_if_eq C (Nat.lt_trans (hB 10 i 0) (by decide)) 43 d_CS_liveHolders_18 (by decide) (fun h18 => ?_) (fun h18 => ?_)
    · refine x_lv [(0, .ref (g (0))), (1, .int (nI q)), (2, .int (nI (liv (fun i => σ 10 i 0) (σ 8 q 0) i))), (3, .int (nI i))] ⟨rfl, rfl, rfl, rfl, trivial⟩ ?_
      refine xn_iinc C d_CS_liveHolders_43 3 rfl (by decide) rfl ?_
      refine x_goto C 4 d_CS_liveHolders_46 (by decide) ?_
      exact x_lv [(0, .ref (g (0))), (1, .int (nI q)), (2, .int (nI (liv (fun i => σ 10 i 0) (σ 8 q 0) (i + 1)))), (3, .int (nI (i + 1)))] ⟨rfl, rfl, by rw [show liv (fun i => σ 10 i 0) (σ 8 q 0) (i + 1) = liv (fun i => σ 10 i 0) (σ 8 q 0) i from (by rw [liv]; simp [h6, h18])]; rfl, rfl, trivial⟩ (ihi (by omega) trivial)
    · refine x_aload_n C d_CS_liveHolders_21 rfl rfl ?_
      refine g_CS_cs_chunks C hn d_CS_liveHolders_22 ?_
      refine x_iload_n C d_CS_liveHolders_25 rfl rfl ?_
      refine e_arrC C hq hn d_CS_liveHolders_26 ?_
      refine g_CS_chunk_holders C hq hn d_CS_liveHolders_27 ?_
      refine x_iload_n C d_CS_liveHolders_30 rfl rfl ?_
      refine c_CS_CS_isIn C (by omega) (m_CS_isIn htr (hH q) (by omega) (Nat.le_refl _)) rfl rfl (Nat.le_of_ble_eq_true rfl) d_CS_liveHolders_31 (fun v E' hp => ?_) (fun X E' hp => ?_)
      · obtain ⟨rfl, hv⟩ := hp
        cases hv
        refine xn_if_eq C (b01_lt _) 43 d_CS_liveHolders_34 (by decide) (fun h34 => ?_) (fun h34 => ?_)
        · rw [b01_0] at h34
          refine x_lv [(0, .ref (g (0))), (1, .int (nI q)), (2, .int (nI (liv (fun i => σ 10 i 0) (σ 8 q 0) i))), (3, .int (nI i))] ⟨rfl, rfl, rfl, rfl, trivial⟩ ?_
          refine xn_iinc C d_CS_liveHolders_43 3 rfl (by decide) rfl ?_
          refine x_goto C 4 d_CS_liveHolders_46 (by decide) ?_
          exact x_lv [(0, .ref (g (0))), (1, .int (nI q)), (2, .int (nI (liv (fun i => σ 10 i 0) (σ 8 q 0) (i + 1)))), (3, .int (nI (i + 1)))] ⟨rfl, rfl, by rw [show liv (fun i => σ 10 i 0) (σ 8 q 0) (i + 1) = liv (fun i => σ 10 i 0) (σ 8 q 0) i from (by rw [liv]; simp [h6, h18, h34])]; rfl, rfl, trivial⟩ (ihi (by omega) trivial)
        · rw [b01_n0] at h34
          refine x_iload_n C d_CS_liveHolders_37 rfl rfl ?_
          refine x_iconst C (v := nI 1) d_CS_liveHolders_38 (by decide) ?_
          refine x_iload_n C d_CS_liveHolders_39 rfl rfl ?_
          refine xn_bit C (by omega) d_CS_liveHolders_40 ?_
          refine xn_ior C (liv_lt i (by omega)) (bt_p _ (by omega)) d_CS_liveHolders_41 ?_
          refine x_istore_n C d_CS_liveHolders_42 rfl (by decide) rfl ?_
          refine x_lv [(0, .ref (g (0))), (1, .int (nI q)), (2, .int (nI ((liv (fun i => σ 10 i 0) (σ 8 q 0) i) ||| (2 ^ i)))), (3, .int (nI i))] ⟨rfl, rfl, rfl, rfl, trivial⟩ ?_
          refine xn_iinc C d_CS_liveHolders_43 3 rfl (by decide) rfl ?_
          refine x_goto C 4 d_CS_liveHolders_46 (by decide) ?_
          exact x_lv [(0, .ref (g (0))), (1, .int (nI q)), (2, .int (nI (liv (fun i => σ 10 i 0) (σ 8 q 0) (i + 1)))), (3, .int (nI (i + 1)))] ⟨rfl, rfl, by rw [show liv (fun i => σ 10 i 0) (σ 8 q 0) (i + 1) = (liv (fun i => σ 10 i 0) (σ 8 q 0) i) ||| (2 ^ i) from (by rw [liv]; simp [h6, h18, h34])]; rfl, rfl, trivial⟩ (ihi (by omega) trivial)
      · cases hp.2
theorem m_CS_lightest {l : Launch} (htr : xTr l) {D : va_G} {a : Nat → ClassId} {base : Nat} {g : Nat → Nat} {n : Nat} {σ : Nat → Nat → Nat → Nat} {w : Nat → Nat → Int32} {Y : Nat → va_E} (hn : 143 ≤ n) (hB : ∀ t i j, σ t i j < 2 ^ 30) {q ch : Nat} (hq : q < 30) (hc : ch < 32) {k : Nat} (hk : 1 ≤ k) : xM l y_CS_lightest b_CS_lightest 7 (some FieldType.int) k D a base g n (EL a g σ w Y) [.ref (g 0), .int (nI q), .int (nI ch)] (fun r E' => E' = EL a g σ w Y ∧ r = .inl (some (.int (iv 5 (bst σ q ch))))) := by
  refine x_method (by decide) htr (Nat.le_of_ble_eq_true rfl) ?_
  intro p e s m args below meth c C hne hret hnm
  have C : xC p l e s m meth c b_CS_lightest 7 "ChunkStore" args D xcl (xty a) base := C
  refine x_iconst C (v := -1) d_CS_lightest_0 (by decide) ?_
  refine x_istore_n C d_CS_lightest_1 rfl (by decide) rfl ?_
  refine x_iconst C (v := nI 0) d_CS_lightest_2 (by decide) ?_
  refine x_istore C d_CS_lightest_3 (by decide) rfl ?_
  refine x_loop 5 (fun i => EL a g σ w Y) (fun i => [(0, .ref (g (0))), (1, .int (nI q)), (2, .int (nI ch)), (3, .int (iv 5 (best (frC σ q ch) (fun i => σ 11 i 0) i))), (4, .int (nI i))]) (fun i => True) rfl ⟨rfl, rfl, rfl, rfl, rfl, trivial⟩ trivial ?_
  intro i hi hIi ihi
  refine x_iload C d_CS_lightest_5 rfl ?_
  refine x_iconst C (v := nI 5) d_CS_lightest_7 (by decide) ?_
  refine xn_icmp_ge C (by omega) (by decide) 97 d_CS_lightest_8 (by decide) (fun h8 => ?_) (fun h8 => ?_)
  · refine x_iload_n C d_CS_lightest_97 rfl rfl ?_
    exact x_iret C hret d_CS_lightest_98 ⟨rfl, by rw [show i = 5 by omega]; rfl⟩
  · refine x_aload_n C d_CS_lightest_11 rfl rfl ?_
    refine g_CS_cs_servers C hn d_CS_lightest_12 ?_
    refine x_iload C d_CS_lightest_15 rfl ?_
    refine e_arrS C (by omega) hn d_CS_lightest_17 ?_
    refine x_astore C d_CS_lightest_18 (by decide) rfl ?_
    refine x_aload C d_CS_lightest_20 rfl ?_
    refine g_CS_server_isUp C (by omega) hn d_CS_lightest_22 ?_
    refine xn_if_eq C (Nat.lt_trans (hB 10 i 0) (by decide)) 58 d_CS_lightest_25 (by decide) (fun h25 => ?_) (fun h25 => ?_)
    · refine x_iconst C (v := nI 0) d_CS_lightest_58 (by decide) ?_
      refine x_istore C d_CS_lightest_59 (by decide) rfl ?_
      refine x_iload C d_CS_lightest_61 rfl ?_
      refine xn_if_eq C (by decide) 91 d_CS_lightest_63 (by decide) (fun h63 => ?_) (fun h63 => ?_)
      · refine x_lv [(0, .ref (g (0))), (1, .int (nI q)), (2, .int (nI ch)), (3, .int (iv 5 (best (frC σ q ch) (fun i => σ 11 i 0) i))), (4, .int (nI i)), (5, .ref (g (50 + 4 * i))), (6, .int (nI 0))] ⟨rfl, rfl, rfl, rfl, rfl, rfl, rfl, trivial⟩ ?_
        refine xn_iinc C d_CS_lightest_91 4 rfl (by decide) rfl ?_
        refine x_goto C 5 d_CS_lightest_94 (by decide) ?_
        exact x_lv [(0, .ref (g (0))), (1, .int (nI q)), (2, .int (nI ch)), (3, .int (iv 5 (best (frC σ q ch) (fun i => σ 11 i 0) (i + 1)))), (4, .int (nI (i + 1)))] ⟨rfl, rfl, rfl, by rw [show best (frC σ q ch) (fun i => σ 11 i 0) (i + 1) = best (frC σ q ch) (fun i => σ 11 i 0) i from (by rw [best]; simp only [frC]; grind)]; rfl, rfl, trivial⟩ (ihi (by omega) trivial)
      · exact absurd h63 (by decide)
    · refine x_aload C d_CS_lightest_28 rfl ?_
      refine c_CS_SV_isFull C (by omega) (by omega) hn (m_SV_isFull htr hn hB (by omega) (Nat.le_refl _)) rfl rfl (Nat.le_of_ble_eq_true rfl) d_CS_lightest_30 (fun v E' hp => ?_) (fun X E' hp => ?_)
      · obtain ⟨rfl, hv⟩ := hp
        cases hv
        refine xn_if_ne C (b01_lt _) 58 d_CS_lightest_33 (by decide) (fun h33 => ?_) (fun h33 => ?_)
        · rw [b01_n0] at h33
          have h33 := of_decide_eq_true h33
          refine x_iconst C (v := nI 0) d_CS_lightest_58 (by decide) ?_
          refine x_istore C d_CS_lightest_59 (by decide) rfl ?_
          refine x_iload C d_CS_lightest_61 rfl ?_
          refine xn_if_eq C (by decide) 91 d_CS_lightest_63 (by decide) (fun h63 => ?_) (fun h63 => ?_)
          · refine x_lv [(0, .ref (g (0))), (1, .int (nI q)), (2, .int (nI ch)), (3, .int (iv 5 (best (frC σ q ch) (fun i => σ 11 i 0) i))), (4, .int (nI i)), (5, .ref (g (50 + 4 * i))), (6, .int (nI 0))] ⟨rfl, rfl, rfl, rfl, rfl, rfl, rfl, trivial⟩ ?_
            refine xn_iinc C d_CS_lightest_91 4 rfl (by decide) rfl ?_
            refine x_goto C 5 d_CS_lightest_94 (by decide) ?_
            exact x_lv [(0, .ref (g (0))), (1, .int (nI q)), (2, .int (nI ch)), (3, .int (iv 5 (best (frC σ q ch) (fun i => σ 11 i 0) (i + 1)))), (4, .int (nI (i + 1)))] ⟨rfl, rfl, rfl, by rw [show best (frC σ q ch) (fun i => σ 11 i 0) (i + 1) = best (frC σ q ch) (fun i => σ 11 i 0) i from (by rw [best]; simp only [frC]; grind)]; rfl, rfl, trivial⟩ (ihi (by omega) trivial)
          · exact absurd h63 (by decide)
        · rw [b01_0] at h33
          have h33 := of_decide_eq_false h33
          refine x_aload C d_CS_lightest_36 rfl ?_
          refine x_iload_n C d_CS_lightest_38 rfl rfl ?_
          refine c_CS_SV_has C (by omega) (by omega) hn (m_SV_has htr hn hB (by omega) hq (Nat.le_refl _)) rfl rfl (Nat.le_of_ble_eq_true rfl) d_CS_lightest_39 (fun v E' hp => ?_) (fun X E' hp => ?_)
          · obtain ⟨rfl, hv⟩ := hp
            cases hv
            refine xn_if_ne C (b01_lt _) 58 d_CS_lightest_42 (by decide) (fun h42 => ?_) (fun h42 => ?_)
            · rw [b01_n0] at h42
              have h42 := of_decide_eq_true h42
              refine x_iconst C (v := nI 0) d_CS_lightest_58 (by decide) ?_
              refine x_istore C d_CS_lightest_59 (by decide) rfl ?_
              refine x_iload C d_CS_lightest_61 rfl ?_
              refine xn_if_eq C (by decide) 91 d_CS_lightest_63 (by decide) (fun h63 => ?_) (fun h63 => ?_)
              · refine x_lv [(0, .ref (g (0))), (1, .int (nI q)), (2, .int (nI ch)), (3, .int (iv 5 (best (frC σ q ch) (fun i => σ 11 i 0) i))), (4, .int (nI i)), (5, .ref (g (50 + 4 * i))), (6, .int (nI 0))] ⟨rfl, rfl, rfl, rfl, rfl, rfl, rfl, trivial⟩ ?_
                refine xn_iinc C d_CS_lightest_91 4 rfl (by decide) rfl ?_
                refine x_goto C 5 d_CS_lightest_94 (by decide) ?_
                exact x_lv [(0, .ref (g (0))), (1, .int (nI q)), (2, .int (nI ch)), (3, .int (iv 5 (best (frC σ q ch) (fun i => σ 11 i 0) (i + 1)))), (4, .int (nI (i + 1)))] ⟨rfl, rfl, rfl, by rw [show best (frC σ q ch) (fun i => σ 11 i 0) (i + 1) = best (frC σ q ch) (fun i => σ 11 i 0) i from (by rw [best]; simp only [frC]; grind)]; rfl, rfl, trivial⟩ (ihi (by omega) trivial)
              · exact absurd h63 (by decide)
            · rw [b01_0] at h42
              have h42 := of_decide_eq_false h42
              refine x_iload_n C d_CS_lightest_45 rfl rfl ?_
              refine x_iload C d_CS_lightest_46 rfl ?_
              refine c_CS_CS_isIn C (by omega) (m_CS_isIn htr hc (by omega) (Nat.le_refl _)) rfl rfl (Nat.le_of_ble_eq_true rfl) d_CS_lightest_48 (fun v E' hp => ?_) (fun X E' hp => ?_)
              · obtain ⟨rfl, hv⟩ := hp
                cases hv
                refine xn_if_ne C (b01_lt _) 58 d_CS_lightest_51 (by decide) (fun h51 => ?_) (fun h51 => ?_)
                · rw [b01_n0] at h51
                  refine x_iconst C (v := nI 0) d_CS_lightest_58 (by decide) ?_
                  refine x_istore C d_CS_lightest_59 (by decide) rfl ?_
                  refine x_iload C d_CS_lightest_61 rfl ?_
                  refine xn_if_eq C (by decide) 91 d_CS_lightest_63 (by decide) (fun h63 => ?_) (fun h63 => ?_)
                  · refine x_lv [(0, .ref (g (0))), (1, .int (nI q)), (2, .int (nI ch)), (3, .int (iv 5 (best (frC σ q ch) (fun i => σ 11 i 0) i))), (4, .int (nI i)), (5, .ref (g (50 + 4 * i))), (6, .int (nI 0))] ⟨rfl, rfl, rfl, rfl, rfl, rfl, rfl, trivial⟩ ?_
                    refine xn_iinc C d_CS_lightest_91 4 rfl (by decide) rfl ?_
                    refine x_goto C 5 d_CS_lightest_94 (by decide) ?_
                    exact x_lv [(0, .ref (g (0))), (1, .int (nI q)), (2, .int (nI ch)), (3, .int (iv 5 (best (frC σ q ch) (fun i => σ 11 i 0) (i + 1)))), (4, .int (nI (i + 1)))] ⟨rfl, rfl, rfl, by rw [show best (frC σ q ch) (fun i => σ 11 i 0) (i + 1) = best (frC σ q ch) (fun i => σ 11 i 0) i from (by rw [best]; simp only [frC]; grind)]; rfl, rfl, trivial⟩ (ihi (by omega) trivial)
                  · exact absurd h63 (by decide)
                · rw [b01_0] at h51
                  refine x_iconst C (v := nI 1) d_CS_lightest_54 (by decide) ?_
                  refine x_goto C 59 d_CS_lightest_55 (by decide) ?_
                  refine x_istore C d_CS_lightest_59 (by decide) rfl ?_
                  refine x_iload C d_CS_lightest_61 rfl ?_
                  refine xn_if_eq C (by decide) 91 d_CS_lightest_63 (by decide) (fun h63 => ?_) (fun h63 => ?_)
                  · exact absurd h63 (by decide)
                  · refine x_iload_n C d_CS_lightest_66 rfl rfl ?_
                    refine x_iconst C (v := -1) d_CS_lightest_67 (by decide) ?_
                    refine x_icmp_eq C 88 d_CS_lightest_68 (by decide) (fun h68 => ?_) (fun h68 => ?_)
                    · have h68 := (iv_m1 ⟨best_le i (by omega), by decide⟩).mp h68
                      refine x_iload C d_CS_lightest_88 rfl ?_
                      refine x_istore_n C d_CS_lightest_90 rfl (by decide) rfl ?_
                      refine x_lv [(0, .ref (g (0))), (1, .int (nI q)), (2, .int (nI ch)), (3, .int (nI i)), (4, .int (nI i)), (5, .ref (g (50 + 4 * i))), (6, .int (nI 1))] ⟨rfl, rfl, rfl, rfl, rfl, rfl, rfl, trivial⟩ ?_
                      refine xn_iinc C d_CS_lightest_91 4 rfl (by decide) rfl ?_
                      refine x_goto C 5 d_CS_lightest_94 (by decide) ?_
                      exact x_lv [(0, .ref (g (0))), (1, .int (nI q)), (2, .int (nI ch)), (3, .int (iv 5 (best (frC σ q ch) (fun i => σ 11 i 0) (i + 1)))), (4, .int (nI (i + 1)))] ⟨rfl, rfl, rfl, by rw [show best (frC σ q ch) (fun i => σ 11 i 0) (i + 1) = i from (by rw [best]; simp only [frC]; grind)]; rw [iv_lt (by omega)]; rfl, rfl, trivial⟩ (ihi (by omega) trivial)
                    · have h68 := iv_n1 ⟨best_le i (by omega), by decide⟩ h68
                      refine x_aload C d_CS_lightest_71 rfl ?_
                      refine g_CS_server_replicas C (by omega) hn d_CS_lightest_73 ?_
                      refine x_aload_n C d_CS_lightest_76 rfl rfl ?_
                      refine g_CS_cs_servers C hn d_CS_lightest_77 ?_
                      refine x_iload_n C d_CS_lightest_80 rfl rfl ?_
                      refine x_topi (iv_lt h68) ?_
                      refine e_arrS C h68 hn d_CS_lightest_81 ?_
                      refine g_CS_server_replicas C h68 hn d_CS_lightest_82 ?_
                      refine xn_icmp_ge C (Nat.lt_trans (hB 11 i 0) (by decide)) (Nat.lt_trans (hB 11 (best (frC σ q ch) (fun i => σ 11 i 0) i) 0) (by decide)) 91 d_CS_lightest_85 (by decide) (fun h85 => ?_) (fun h85 => ?_)
                      · refine x_lv [(0, .ref (g (0))), (1, .int (nI q)), (2, .int (nI ch)), (3, .int (iv 5 (best (frC σ q ch) (fun i => σ 11 i 0) i))), (4, .int (nI i)), (5, .ref (g (50 + 4 * i))), (6, .int (nI 1))] ⟨rfl, rfl, rfl, rfl, rfl, rfl, rfl, trivial⟩ ?_
                        refine xn_iinc C d_CS_lightest_91 4 rfl (by decide) rfl ?_
                        refine x_goto C 5 d_CS_lightest_94 (by decide) ?_
                        exact x_lv [(0, .ref (g (0))), (1, .int (nI q)), (2, .int (nI ch)), (3, .int (iv 5 (best (frC σ q ch) (fun i => σ 11 i 0) (i + 1)))), (4, .int (nI (i + 1)))] ⟨rfl, rfl, rfl, by rw [show best (frC σ q ch) (fun i => σ 11 i 0) (i + 1) = best (frC σ q ch) (fun i => σ 11 i 0) i from (by rw [best]; simp only [frC]; grind)]; rfl, rfl, trivial⟩ (ihi (by omega) trivial)
                      · refine x_iload C d_CS_lightest_88 rfl ?_
                        refine x_istore_n C d_CS_lightest_90 rfl (by decide) rfl ?_
                        refine x_lv [(0, .ref (g (0))), (1, .int (nI q)), (2, .int (nI ch)), (3, .int (nI i)), (4, .int (nI i)), (5, .ref (g (50 + 4 * i))), (6, .int (nI 1))] ⟨rfl, rfl, rfl, rfl, rfl, rfl, rfl, trivial⟩ ?_
                        refine xn_iinc C d_CS_lightest_91 4 rfl (by decide) rfl ?_
                        refine x_goto C 5 d_CS_lightest_94 (by decide) ?_
                        exact x_lv [(0, .ref (g (0))), (1, .int (nI q)), (2, .int (nI ch)), (3, .int (iv 5 (best (frC σ q ch) (fun i => σ 11 i 0) (i + 1)))), (4, .int (nI (i + 1)))] ⟨rfl, rfl, rfl, by rw [show best (frC σ q ch) (fun i => σ 11 i 0) (i + 1) = i from (by rw [best]; simp only [frC]; grind)]; rw [iv_lt (by omega)]; rfl, rfl, trivial⟩ (ihi (by omega) trivial)
              · cases hp.2
          · cases hp.2
      · cases hp.2
end XM2
end
section
section XM3
/-- one of the set is full -/
def anyF (σ : Nat → Nat → Nat → Nat) (h : Nat) : Bool := (List.range 5).any (fun i => h.testBit i && decide (12 ≤ σ 11 i 0))
theorem anyF_t {σ : Nat → Nat → Nat → Nat} {h : Nat} : anyF σ h = true ↔ ∃ i, i < 5 ∧ h.testBit i = true ∧ 12 ≤ σ 11 i 0 := by simp [anyF]
/-- the version v of the chunk c at the first n of the set -/
def rvL (σ : Nat → Nat → Nat → Nat) (c h v : Nat) : Nat → (Nat → Nat → Nat → Nat)
  | 0 => σ
  | n + 1 => if h.testBit n then up3 (rvL σ c h v n) 12 n c v else rvL σ c h v n
theorem rvL_at {σ : Nat → Nat → Nat → Nat} {c h v : Nat} (n t i j : Nat) : rvL σ c h v n t i j = if i < n ∧ h.testBit i = true ∧ t = 12 ∧ j = c then v else σ t i j := by
  induction n generalizing t i j with
  | zero => simp [rvL]
  | succ n ih => unfold rvL; split <;> simp only [up3, ih] <;> grind
theorem rvL_B {σ : Nat → Nat → Nat → Nat} {c h v n : Nat} (hB : ∀ t i j, σ t i j < 2 ^ 30) (hv : v < 2 ^ 30) : ∀ t i j, rvL σ c h v n t i j < 2 ^ 30 := by
  intro t i j; rw [rvL_at]; split <;> first | exact hv | exact hB t i j
/-- the chunk's refs at the first n places of the file f taken back -/
def fgL (σ : Nat → Nat → Nat → Nat) (f : Nat) : Nat → (Nat → Nat → Nat → Nat)
  | 0 => σ
  | n + 1 => up3 (fgL σ f n) 7 (σ 4 f n) 0 (fgL σ f n 7 (σ 4 f n) 0 - 1)
theorem fgL_o {σ : Nat → Nat → Nat → Nat} {f : Nat} (n : Nat) {t i j : Nat} (h : ¬ t = 7) : fgL σ f n t i j = σ t i j := by
  induction n with
  | zero => rfl
  | succ n ih => unfold fgL; rw [up3_n h, ih]
theorem fgL_B {σ : Nat → Nat → Nat → Nat} {f : Nat} (hB : ∀ t i j, σ t i j < 2 ^ 30) : ∀ n t i j, fgL σ f n t i j < 2 ^ 30 := by
  intro n
  induction n with
  | zero => exact hB
  | succ n ih => exact up3_B ih (Nat.lt_of_le_of_lt (Nat.sub_le _ _) (ih _ _ _))
theorem m_CS_anyFull {l : Launch} (htr : xTr l) {D : va_G} {a : Nat → ClassId} {base : Nat} {g : Nat → Nat} {n : Nat} {σ : Nat → Nat → Nat → Nat} {w : Nat → Nat → Int32} {Y : Nat → va_E} (hn : 143 ≤ n) (hB : ∀ t i j, σ t i j < 2 ^ 30) {h : Nat} (hh : h < 32) {k : Nat} (hk : 1 ≤ k) : xM l y_CS_anyFull b_CS_anyFull 3 (some FieldType.boolean) k D a base g n (EL a g σ w Y) [.ref (g 0), .int (nI h)] (fun r E' => E' = EL a g σ w Y ∧ r = .inl (some (.int (nI (b01 (anyF σ h)))))) := by
  refine x_method (by decide) htr (Nat.le_of_ble_eq_true rfl) ?_
  intro p e s m args below meth c C hne hret hnm
  have C : xC p l e s m meth c b_CS_anyFull 3 "ChunkStore" args D xcl (xty a) base := C
  refine x_iconst C (v := nI 0) d_CS_anyFull_0 (by decide) ?_
  refine x_istore_n C d_CS_anyFull_1 rfl (by decide) rfl ?_
  refine x_loop 5 (fun i => EL a g σ w Y) (fun i => [(0, .ref (g (0))), (1, .int (nI h)), (2, .int (nI i))]) (fun i => ∀ j, j < i → ¬ (h.testBit j = true ∧ 12 ≤ σ 11 j 0)) rfl ⟨rfl, rfl, rfl, trivial⟩ (fun j hj => absurd hj (Nat.not_lt_zero j)) ?_
  intro i hi hIi ihi
  refine x_iload_n C d_CS_anyFull_2 rfl rfl ?_
  refine x_iconst C (v := nI 5) d_CS_anyFull_3 (by decide) ?_
  refine xn_icmp_ge C (by omega) (by decide) 35 d_CS_anyFull_4 (by decide) (fun h4 => ?_) (fun h4 => ?_)
  · refine x_iconst C (v := nI 0) d_CS_anyFull_35 (by decide) ?_
    exact x_zret C hret rfl d_CS_anyFull_36 ⟨rfl, by rw [b01_f (by rw [Bool.eq_false_iff]; intro q; obtain ⟨j, h1, h2⟩ := anyF_t.mp q; exact hIi j (by omega) h2)]⟩
  · refine x_iload_n C d_CS_anyFull_7 rfl rfl ?_
    refine x_iload_n C d_CS_anyFull_8 rfl rfl ?_
    refine c_CS_CS_isIn C (by omega) (m_CS_isIn htr hh (by omega) (Nat.le_refl _)) rfl rfl (Nat.le_of_ble_eq_true rfl) d_CS_anyFull_9 (fun v E' hp => ?_) (fun X E' hp => ?_)
    · obtain ⟨rfl, hv⟩ := hp
      cases hv
      refine xn_if_eq C (b01_lt _) 29 d_CS_anyFull_12 (by decide) (fun h12 => ?_) (fun h12 => ?_)
      · rw [b01_0] at h12
        refine x_lv [(0, .ref (g (0))), (1, .int (nI h)), (2, .int (nI i))] ⟨rfl, rfl, rfl, trivial⟩ ?_
        refine xn_iinc C d_CS_anyFull_29 2 rfl (by decide) rfl ?_
        refine x_goto C 2 d_CS_anyFull_32 (by decide) ?_
        exact x_lv [(0, .ref (g (0))), (1, .int (nI h)), (2, .int (nI (i + 1)))] ⟨rfl, rfl, rfl, trivial⟩ (ihi (by omega) (all_succ hIi (by grind)))
      · rw [b01_n0] at h12
        refine x_aload_n C d_CS_anyFull_15 rfl rfl ?_
        refine g_CS_cs_servers C hn d_CS_anyFull_16 ?_
        refine x_iload_n C d_CS_anyFull_19 rfl rfl ?_
        refine e_arrS C (by omega) hn d_CS_anyFull_20 ?_
        refine c_CS_SV_isFull C (by omega) (by omega) hn (m_SV_isFull htr hn hB (by omega) (Nat.le_refl _)) rfl rfl (Nat.le_of_ble_eq_true rfl) d_CS_anyFull_21 (fun v E' hp => ?_) (fun X E' hp => ?_)
        · obtain ⟨rfl, hv⟩ := hp
          cases hv
          refine xn_if_eq C (b01_lt _) 29 d_CS_anyFull_24 (by decide) (fun h24 => ?_) (fun h24 => ?_)
          · rw [b01_0] at h24
            have h24 := of_decide_eq_false h24
            refine x_lv [(0, .ref (g (0))), (1, .int (nI h)), (2, .int (nI i))] ⟨rfl, rfl, rfl, trivial⟩ ?_
            refine xn_iinc C d_CS_anyFull_29 2 rfl (by decide) rfl ?_
            refine x_goto C 2 d_CS_anyFull_32 (by decide) ?_
            exact x_lv [(0, .ref (g (0))), (1, .int (nI h)), (2, .int (nI (i + 1)))] ⟨rfl, rfl, rfl, trivial⟩ (ihi (by omega) (all_succ hIi (by grind)))
          · rw [b01_n0] at h24
            have h24 := of_decide_eq_true h24
            refine x_iconst C (v := nI 1) d_CS_anyFull_27 (by decide) ?_
            exact x_zret C hret rfl d_CS_anyFull_28 ⟨rfl, by rw [b01_t (by rw [anyF_t]; exact ⟨i, by omega, h12, h24⟩)]⟩
        · cases hp.2
    · cases hp.2
theorem m_CS_raiseVersion {l : Launch} (htr : xTr l) {D : va_G} {a : Nat → ClassId} {base : Nat} {g : Nat → Nat} {n : Nat} {σ : Nat → Nat → Nat → Nat} {w : Nat → Nat → Int32} {Y : Nat → va_E} (hn : 143 ≤ n) (hB : ∀ t i j, σ t i j < 2 ^ 30) {q h : Nat} (hq : q < 30) (hh : h < 32) {k : Nat} (hk : 1 ≤ k) : xM l y_CS_raiseVersion b_CS_raiseVersion 5 none k D a base g n (EL a g σ w Y) [.ref (g 0), .int (nI q), .int (nI h)] (fun r E' => E' = EL a g (rvL (up3 (up3 σ 6 q 0 (σ 6 q 0 + 1)) 8 q 0 h) q h (σ 6 q 0 + 1) 5) w Y ∧ r = .inl none) := by
  refine x_method (by decide) htr (Nat.le_of_ble_eq_true rfl) ?_
  intro p e s m args below meth c C hne hret hnm
  have C : xC p l e s m meth c b_CS_raiseVersion 5 "ChunkStore" args D xcl (xty a) base := C
  refine x_aload_n C d_CS_raiseVersion_0 rfl rfl ?_
  refine g_CS_cs_chunks C hn d_CS_raiseVersion_1 ?_
  refine x_iload_n C d_CS_raiseVersion_4 rfl rfl ?_
  refine e_arrC C hq hn d_CS_raiseVersion_5 ?_
  refine x_astore_n C d_CS_raiseVersion_6 rfl (by decide) rfl ?_
  refine x_aload_n C d_CS_raiseVersion_7 rfl rfl ?_
  refine x_dup C d_CS_raiseVersion_8 rfl ?_
  refine g_CS_chunk_version C hq hn d_CS_raiseVersion_9 ?_
  refine x_iconst C (v := nI 1) d_CS_raiseVersion_12 (by decide) ?_
  refine xn_iadd C d_CS_raiseVersion_13 ?_
  refine p_CS_chunk_version C hq hn d_CS_raiseVersion_14 ?_
  refine x_aload_n C d_CS_raiseVersion_17 rfl rfl ?_
  refine x_iload_n C d_CS_raiseVersion_18 rfl rfl ?_
  refine p_CS_chunk_holders C hq hn d_CS_raiseVersion_19 ?_
  refine x_iconst C (v := nI 0) d_CS_raiseVersion_22 (by decide) ?_
  refine x_istore C d_CS_raiseVersion_23 (by decide) rfl ?_
  refine x_loop 5 (fun i => EL a g (rvL (up3 (up3 σ 6 q 0 (σ 6 q 0 + 1)) 8 q 0 h) q h (σ 6 q 0 + 1) i) w Y) (fun i => [(0, .ref (g (0))), (1, .int (nI q)), (2, .int (nI h)), (3, .ref (g (19 + q))), (4, .int (nI i))]) (fun i => True) rfl ⟨rfl, rfl, rfl, rfl, rfl, trivial⟩ trivial ?_
  intro i hi hIi ihi
  refine x_iload C d_CS_raiseVersion_25 rfl ?_
  refine x_iconst C (v := nI 5) d_CS_raiseVersion_27 (by decide) ?_
  refine xn_icmp_ge C (by omega) (by decide) 62 d_CS_raiseVersion_28 (by decide) (fun h28 => ?_) (fun h28 => ?_)
  · exact x_vret C hret d_CS_raiseVersion_62 ⟨by rw [show i = 5 by omega], rfl⟩
  · refine x_iload_n C d_CS_raiseVersion_31 rfl rfl ?_
    refine x_iload C d_CS_raiseVersion_32 rfl ?_
    refine c_CS_CS_isIn C (by omega) (m_CS_isIn htr hh (by omega) (Nat.le_refl _)) rfl rfl (Nat.le_of_ble_eq_true rfl) d_CS_raiseVersion_34 (fun v E' hp => ?_) (fun X E' hp => ?_)
    · obtain ⟨rfl, hv⟩ := hp
      cases hv
      refine xn_if_eq C (b01_lt _) 56 d_CS_raiseVersion_37 (by decide) (fun h37 => ?_) (fun h37 => ?_)
      · rw [b01_0] at h37
        refine x_lv [(0, .ref (g (0))), (1, .int (nI q)), (2, .int (nI h)), (3, .ref (g (19 + q))), (4, .int (nI i))] ⟨rfl, rfl, rfl, rfl, rfl, trivial⟩ ?_
        refine xn_iinc C d_CS_raiseVersion_56 4 rfl (by decide) rfl ?_
        refine x_goto C 25 d_CS_raiseVersion_59 (by decide) ?_
        refine x_E (E' := EL a g (rvL (up3 (up3 σ 6 q 0 (σ 6 q 0 + 1)) 8 q 0 h) q h (σ 6 q 0 + 1) (i + 1)) w Y) (by rw [rvL, if_neg (by simp [h37])]) ?_
        exact x_lv [(0, .ref (g (0))), (1, .int (nI q)), (2, .int (nI h)), (3, .ref (g (19 + q))), (4, .int (nI (i + 1)))] ⟨rfl, rfl, rfl, rfl, rfl, trivial⟩ (ihi (by omega) trivial)
      · rw [b01_n0] at h37
        refine x_aload_n C d_CS_raiseVersion_40 rfl rfl ?_
        refine g_CS_cs_servers C hn d_CS_raiseVersion_41 ?_
        refine x_iload C d_CS_raiseVersion_44 rfl ?_
        refine e_arrS C (by omega) hn d_CS_raiseVersion_46 ?_
        refine g_CS_server_versions C (by omega) hn d_CS_raiseVersion_47 ?_
        refine x_iload_n C d_CS_raiseVersion_50 rfl rfl ?_
        refine x_aload_n C d_CS_raiseVersion_51 rfl rfl ?_
        refine g_CS_chunk_version C hq hn d_CS_raiseVersion_52 ?_
        refine a_vers C (by omega) hq hn d_CS_raiseVersion_55 ?_
        refine x_lv [(0, .ref (g (0))), (1, .int (nI q)), (2, .int (nI h)), (3, .ref (g (19 + q))), (4, .int (nI i))] ⟨rfl, rfl, rfl, rfl, rfl, trivial⟩ ?_
        refine xn_iinc C d_CS_raiseVersion_56 4 rfl (by decide) rfl ?_
        refine x_goto C 25 d_CS_raiseVersion_59 (by decide) ?_
        refine x_E (E' := EL a g (rvL (up3 (up3 σ 6 q 0 (σ 6 q 0 + 1)) 8 q 0 h) q h (σ 6 q 0 + 1) (i + 1)) w Y) (by rw [rvL, if_pos h37]; rw [rvL_at, if_neg (by omega), up3_n (by decide), up3_s]) ?_
        exact x_lv [(0, .ref (g (0))), (1, .int (nI q)), (2, .int (nI h)), (3, .ref (g (19 + q))), (4, .int (nI (i + 1)))] ⟨rfl, rfl, rfl, rfl, rfl, trivial⟩ (ihi (by omega) trivial)
    · cases hp.2
/-- the holders without s -/
def clr (a i : Nat) : Nat := if a.testBit i then a - 2 ^ i else a
theorem m_CS_forget {l : Launch} (htr : xTr l) {D : va_G} {a : Nat → ClassId} {base : Nat} {g : Nat → Nat} {n : Nat} {σ : Nat → Nat → Nat → Nat} {w : Nat → Nat → Int32} {Y : Nat → va_E} (hn : 143 ≤ n) (hB : ∀ t i j, σ t i j < 2 ^ 30) {f : Nat} (hf : f < 8) (hc : σ 3 f 0 ≤ 3) (hr : ∀ j, j < σ 3 f 0 → σ 4 f j < 30) (hg : ∀ j, j < σ 3 f 0 → 1 ≤ fgL σ f j 7 (σ 4 f j) 0) {k : Nat} (hk : 0 ≤ k) : xM l y_CS_forget b_CS_forget 3 none k D a base g n (EL a g σ w Y) [.ref (g 0), .ref (g (2 + 2 * f))] (fun r E' => E' = EL a g (up3 (up3 (fgL σ f (σ 3 f 0)) 3 f 0 0) 2 f 0 0) w Y ∧ r = .inl none) := by
  refine x_method (by decide) htr (Nat.le_of_ble_eq_true rfl) ?_
  intro p e s m args below meth c C hne hret hnm
  have C : xC p l e s m meth c b_CS_forget 3 "ChunkStore" args D xcl (xty a) base := C
  refine x_iconst C (v := nI 0) d_CS_forget_0 (by decide) ?_
  refine x_istore_n C d_CS_forget_1 rfl (by decide) rfl ?_
  refine x_loop (σ 3 f 0) (fun i => EL a g (fgL σ f i) w Y) (fun i => [(0, .ref (g (0))), (1, .ref (g (2 + 2 * f))), (2, .int (nI i))]) (fun i => True) rfl ⟨rfl, rfl, rfl, trivial⟩ trivial ?_
  intro i hi hIi ihi
  refine x_iload_n C d_CS_forget_2 rfl rfl ?_
  refine x_aload_n C d_CS_forget_3 rfl rfl ?_
  refine g_CS_file_count C hf hn d_CS_forget_4 ?_
  refine xn_icmp_ge C (by omega) (Nat.lt_trans ((fgL_B hB i) 3 f 0) (by decide)) 36 d_CS_forget_7 (by decide) (fun h7 => ?_) (fun h7 => ?_)
  · rw [fgL_o _ (by decide)] at h7
    refine x_aload_n C d_CS_forget_36 rfl rfl ?_
    refine x_iconst C (v := nI 0) d_CS_forget_37 (by decide) ?_
    refine p_CS_file_count C hf hn d_CS_forget_38 ?_
    refine x_aload_n C d_CS_forget_41 rfl rfl ?_
    refine x_iconst C (v := nI 0) d_CS_forget_42 (by decide) ?_
    refine p_CS_file_state C hf hn d_CS_forget_43 ?_
    exact x_vret C hret d_CS_forget_46 ⟨by rw [show i = σ 3 f 0 by omega], rfl⟩
  · rw [fgL_o _ (by decide)] at h7
    refine x_aload_n C d_CS_forget_10 rfl rfl ?_
    refine g_CS_cs_chunks C hn d_CS_forget_11 ?_
    refine x_aload_n C d_CS_forget_14 rfl rfl ?_
    refine g_CS_file_row C hf hn d_CS_forget_15 ?_
    refine x_iload_n C d_CS_forget_18 rfl rfl ?_
    refine e_row C hf (by omega) hn d_CS_forget_19 ?_
    refine e_arrC C (by rw [fgL_o _ (by decide)]; exact hr i h7) hn d_CS_forget_20 ?_
    refine x_dup C d_CS_forget_21 rfl ?_
    refine g_CS_chunk_refs C (by rw [fgL_o _ (by decide)]; exact hr i h7) hn d_CS_forget_22 ?_
    refine x_iconst C (v := nI 1) d_CS_forget_25 (by decide) ?_
    refine xn_isub C (by rw [fgL_o _ (show ¬ 4 = 7 by decide)]; exact hg i h7) d_CS_forget_26 ?_
    refine p_CS_chunk_refs C (by rw [fgL_o _ (by decide)]; exact hr i h7) hn d_CS_forget_27 ?_
    refine x_lv [(0, .ref (g (0))), (1, .ref (g (2 + 2 * f))), (2, .int (nI i))] ⟨rfl, rfl, rfl, trivial⟩ ?_
    refine xn_iinc C d_CS_forget_30 2 rfl (by decide) rfl ?_
    refine x_goto C 2 d_CS_forget_33 (by decide) ?_
    refine x_E (E' := EL a g (fgL σ f (i + 1)) w Y) (by rw [fgL]; simp only [fgL_o _ (show ¬ 4 = 7 by decide)]) ?_
    exact x_lv [(0, .ref (g (0))), (1, .ref (g (2 + 2 * f))), (2, .int (nI (i + 1)))] ⟨rfl, rfl, rfl, trivial⟩ (ihi h7 trivial)
def cfD (σ : Nat → Nat → Nat → Nat) (s c : Nat) : Bool := decide (σ 7 c 0 = 0 ∨ σ 12 s c < σ 6 c 0)
def cfS (σ : Nat → Nat → Nat → Nat) (s c : Nat) : Nat → Nat → Nat → Nat := if cfD σ s c then up3 (up3 (up3 σ 12 s c 0) 11 s 0 (σ 11 s 0 - 1)) 8 c 0 (clr (σ 8 c 0) s) else up3 σ 8 c 0 (σ 8 c 0 ||| 2 ^ s)
theorem m_CS_confirmReplica {l : Launch} (htr : xTr l) {D : va_G} {a : Nat → ClassId} {base : Nat} {g : Nat → Nat} {n : Nat} {σ : Nat → Nat → Nat → Nat} {w : Nat → Nat → Int32} {Y : Nat → va_E} (hn : 143 ≤ n) (hB : ∀ t i j, σ t i j < 2 ^ 30) (hH : ∀ c, σ 8 c 0 < 32) {i q : Nat} (hi : i < 5) (hq : q < 30) (h1 : 1 ≤ σ 11 i 0) {k : Nat} (hk : 1 ≤ k) : xM l y_CS_confirmReplica b_CS_confirmReplica 4 (some FieldType.boolean) k D a base g n (EL a g σ w Y) [.ref (g 0), .int (nI i), .int (nI q)] (fun r E' => E' = EL a g (cfS σ i q) w Y ∧ r = .inl (some (.int (nI (b01 (!cfD σ i q)))))) := by
  refine x_method (by decide) htr (Nat.le_of_ble_eq_true rfl) ?_
  intro p e s m args below meth c C hne hret hnm
  have C : xC p l e s m meth c b_CS_confirmReplica 4 "ChunkStore" args D xcl (xty a) base := C
  refine x_aload_n C d_CS_confirmReplica_0 rfl rfl ?_
  refine g_CS_cs_chunks C hn d_CS_confirmReplica_1 ?_
  refine x_iload_n C d_CS_confirmReplica_4 rfl rfl ?_
  refine e_arrC C hq hn d_CS_confirmReplica_5 ?_
  refine x_astore_n C d_CS_confirmReplica_6 rfl (by decide) rfl ?_
  refine x_aload_n C d_CS_confirmReplica_7 rfl rfl ?_
  refine g_CS_chunk_refs C hq hn d_CS_confirmReplica_8 ?_
  refine xn_if_eq C (Nat.lt_trans (hB 7 q 0) (by decide)) 32 d_CS_confirmReplica_11 (by decide) (fun h11 => ?_) (fun h11 => ?_)
  · refine x_aload_n C d_CS_confirmReplica_32 rfl rfl ?_
    refine g_CS_cs_servers C hn d_CS_confirmReplica_33 ?_
    refine x_iload_n C d_CS_confirmReplica_36 rfl rfl ?_
    refine e_arrS C hi hn d_CS_confirmReplica_37 ?_
    refine x_iload_n C d_CS_confirmReplica_38 rfl rfl ?_
    refine c_CS_SV_drop C (by omega) hi hn (m_SV_drop htr hn hB hi hq h1 (Nat.le_refl _)) rfl rfl (Nat.le_of_ble_eq_true rfl) d_CS_confirmReplica_39 (fun v E' hp => ?_) (fun X E' hp => ?_)
    · obtain ⟨rfl, hv⟩ := hp
      cases hv
      refine x_aload_n C d_CS_confirmReplica_42 rfl rfl ?_
      refine x_dup C d_CS_confirmReplica_43 rfl ?_
      refine g_CS_chunk_holders C hq hn d_CS_confirmReplica_44 ?_
      refine x_iconst C (v := nI 1) d_CS_confirmReplica_47 (by decide) ?_
      refine x_iload_n C d_CS_confirmReplica_48 rfl rfl ?_
      refine xn_bit C hi d_CS_confirmReplica_49 ?_
      refine x_iconst C (v := -1) d_CS_confirmReplica_50 (by decide) ?_
      refine x_ixor C d_CS_confirmReplica_51 ?_
      refine xn_iandnot C (by rw [up3_n (by decide), up3_n (by decide)]; exact hH q) hi d_CS_confirmReplica_52 ?_
      refine p_CS_chunk_holders C hq hn d_CS_confirmReplica_53 ?_
      refine x_iconst C (v := nI 0) d_CS_confirmReplica_56 (by decide) ?_
      exact x_zret C hret rfl d_CS_confirmReplica_57 ⟨by rw [cfS, if_pos (show cfD σ i q = true by simp [cfD]; omega)]; simp only [clr, up3_n (show ¬ 8 = 12 by decide), up3_n (show ¬ 8 = 11 by decide)], by rw [b01_f (by simp [cfD]; omega)]⟩
    · cases hp.2
  · refine x_aload_n C d_CS_confirmReplica_14 rfl rfl ?_
    refine g_CS_chunk_version C hq hn d_CS_confirmReplica_15 ?_
    refine x_aload_n C d_CS_confirmReplica_18 rfl rfl ?_
    refine g_CS_cs_servers C hn d_CS_confirmReplica_19 ?_
    refine x_iload_n C d_CS_confirmReplica_22 rfl rfl ?_
    refine e_arrS C hi hn d_CS_confirmReplica_23 ?_
    refine g_CS_server_versions C hi hn d_CS_confirmReplica_24 ?_
    refine x_iload_n C d_CS_confirmReplica_27 rfl rfl ?_
    refine e_vers C hi hq hn d_CS_confirmReplica_28 ?_
    refine xn_icmp_le C (Nat.lt_trans (hB 6 q 0) (by decide)) (Nat.lt_trans (hB 12 i q) (by decide)) 58 d_CS_confirmReplica_29 (by decide) (fun h29 => ?_) (fun h29 => ?_)
    · refine x_aload_n C d_CS_confirmReplica_58 rfl rfl ?_
      refine x_dup C d_CS_confirmReplica_59 rfl ?_
      refine g_CS_chunk_holders C hq hn d_CS_confirmReplica_60 ?_
      refine x_iconst C (v := nI 1) d_CS_confirmReplica_63 (by decide) ?_
      refine x_iload_n C d_CS_confirmReplica_64 rfl rfl ?_
      refine xn_bit C hi d_CS_confirmReplica_65 ?_
      refine xn_ior C (hH q) (bt_p _ hi) d_CS_confirmReplica_66 ?_
      refine p_CS_chunk_holders C hq hn d_CS_confirmReplica_67 ?_
      refine x_iconst C (v := nI 1) d_CS_confirmReplica_70 (by decide) ?_
      exact x_zret C hret rfl d_CS_confirmReplica_71 ⟨by rw [cfS, if_neg (show ¬ cfD σ i q = true by simp [cfD]; omega)], by rw [b01_t (by simp [cfD]; omega)]⟩
    · refine x_aload_n C d_CS_confirmReplica_32 rfl rfl ?_
      refine g_CS_cs_servers C hn d_CS_confirmReplica_33 ?_
      refine x_iload_n C d_CS_confirmReplica_36 rfl rfl ?_
      refine e_arrS C hi hn d_CS_confirmReplica_37 ?_
      refine x_iload_n C d_CS_confirmReplica_38 rfl rfl ?_
      refine c_CS_SV_drop C (by omega) hi hn (m_SV_drop htr hn hB hi hq h1 (Nat.le_refl _)) rfl rfl (Nat.le_of_ble_eq_true rfl) d_CS_confirmReplica_39 (fun v E' hp => ?_) (fun X E' hp => ?_)
      · obtain ⟨rfl, hv⟩ := hp
        cases hv
        refine x_aload_n C d_CS_confirmReplica_42 rfl rfl ?_
        refine x_dup C d_CS_confirmReplica_43 rfl ?_
        refine g_CS_chunk_holders C hq hn d_CS_confirmReplica_44 ?_
        refine x_iconst C (v := nI 1) d_CS_confirmReplica_47 (by decide) ?_
        refine x_iload_n C d_CS_confirmReplica_48 rfl rfl ?_
        refine xn_bit C hi d_CS_confirmReplica_49 ?_
        refine x_iconst C (v := -1) d_CS_confirmReplica_50 (by decide) ?_
        refine x_ixor C d_CS_confirmReplica_51 ?_
        refine xn_iandnot C (by rw [up3_n (by decide), up3_n (by decide)]; exact hH q) hi d_CS_confirmReplica_52 ?_
        refine p_CS_chunk_holders C hq hn d_CS_confirmReplica_53 ?_
        refine x_iconst C (v := nI 0) d_CS_confirmReplica_56 (by decide) ?_
        exact x_zret C hret rfl d_CS_confirmReplica_57 ⟨by rw [cfS, if_pos (show cfD σ i q = true by simp [cfD]; omega)]; simp only [clr, up3_n (show ¬ 8 = 12 by decide), up3_n (show ¬ 8 = 11 by decide)], by rw [b01_f (by simp [cfD]; omega)]⟩
      · cases hp.2
def swS (σ : Nat → Nat → Nat → Nat) (s c u : Nat) : Nat → Nat → Nat → Nat := if u < 4 then up3 σ 13 s c (if u + 1 ≤ σ 13 s c then σ 13 s c else u + 1) else σ
def swW (w : Nat → Nat → Int32) (s c u : Nat) (v : Int32) : Nat → Nat → Int32 := if u < 4 then up2 w s (c * 4 + u) v else w
theorem m_SV_setWord {l : Launch} (htr : xTr l) {D : va_G} {a : Nat → ClassId} {base : Nat} {g : Nat → Nat} {n : Nat} {σ : Nat → Nat → Nat → Nat} {w : Nat → Nat → Int32} {Y : Nat → va_E} (hn : 143 ≤ n) (hB : ∀ t i j, σ t i j < 2 ^ 30) {i q u : Nat} {v : Int32} (hi : i < 5) (hq : q < 30) (hu : u < 2 ^ 30) {k : Nat} (hk : 1 ≤ k) : xM l y_SV_setWord b_SV_setWord 4 none k D a base g n (EL a g σ w Y) [.ref (g (50 + 4 * i)), .int (nI q), .int (nI u), .int v] (fun r E' => E' = EL a g (swS σ i q u) (swW w i q u v) Y ∧ r = .inl none) := by
  refine x_method (by decide) htr (Nat.le_of_ble_eq_true rfl) ?_
  intro p e s m args below meth c C hne hret hnm
  have C : xC p l e s m meth c b_SV_setWord 4 "ChunkStore$Server" args D xcl (xty a) base := C
  refine x_iload_n C d_SV_setWord_0 rfl rfl ?_
  refine x_iconst C (v := nI 4) d_SV_setWord_1 (by decide) ?_
  refine xn_icmp_ge C (by omega) (by decide) 34 d_SV_setWord_2 (by decide) (fun h2 => ?_) (fun h2 => ?_)
  · exact x_vret C hret d_SV_setWord_34 ⟨by rw [swS, swW, if_neg (by omega), if_neg (by omega)], rfl⟩
  · refine x_aload_n C d_SV_setWord_5 rfl rfl ?_
    refine g_SV_server_words C hi hn d_SV_setWord_6 ?_
    refine x_iload_n C d_SV_setWord_9 rfl rfl ?_
    refine x_iconst C (v := nI 4) d_SV_setWord_10 (by decide) ?_
    refine xn_imul C d_SV_setWord_11 ?_
    refine x_iload_n C d_SV_setWord_12 rfl rfl ?_
    refine xn_iadd C d_SV_setWord_13 ?_
    refine x_iload_n C d_SV_setWord_14 rfl rfl ?_
    refine a_wrds C hi (by omega) hn d_SV_setWord_15 ?_
    refine x_aload_n C d_SV_setWord_16 rfl rfl ?_
    refine g_SV_server_used C hi hn d_SV_setWord_17 ?_
    refine x_iload_n C d_SV_setWord_20 rfl rfl ?_
    refine x_aload_n C d_SV_setWord_21 rfl rfl ?_
    refine g_SV_server_used C hi hn d_SV_setWord_22 ?_
    refine x_iload_n C d_SV_setWord_25 rfl rfl ?_
    refine e_used C hi hq hn d_SV_setWord_26 ?_
    refine x_iload_n C d_SV_setWord_27 rfl rfl ?_
    refine x_iconst C (v := nI 1) d_SV_setWord_28 (by decide) ?_
    refine xn_iadd C d_SV_setWord_29 ?_
    refine c_SV_MA_max C (by omega) (m_MA_max htr (Nat.lt_trans (hB 13 i q) (by decide)) (by omega) (Nat.le_refl _)) rfl rfl (Nat.le_of_ble_eq_true rfl) d_SV_setWord_30 (fun v E' hp => ?_) (fun X E' hp => ?_)
    · obtain ⟨rfl, hv⟩ := hp
      cases hv
      refine a_used C hi hq hn d_SV_setWord_33 ?_
      exact x_vret C hret d_SV_setWord_34 ⟨by rw [swS, swW, if_pos h2, if_pos h2], rfl⟩
    · cases hp.2
def alS (σ : Nat → Nat → Nat → Nat) (i q i2 q2 v : Nat) : Nat → Nat → Nat → Nat := up3 (up3 (up3 σ 12 i q v) 13 i q (σ 13 i2 q2)) 11 i 0 (σ 11 i 0 + 1)
theorem m_SV_addLike {l : Launch} (htr : xTr l) {D : va_G} {a : Nat → ClassId} {base : Nat} {g : Nat → Nat} {n : Nat} {σ : Nat → Nat → Nat → Nat} {w : Nat → Nat → Int32} {Y : Nat → va_E} (hn : 143 ≤ n) (hB : ∀ t i j, σ t i j < 2 ^ 30) {i q i2 q2 v : Nat} (hi : i < 5) (hq : q < 30) (hi2 : i2 < 5) (hq2 : q2 < 30) (hv : v < 2 ^ 30) {k : Nat} (hk : 0 ≤ k) : xM l y_SV_addLike b_SV_addLike 6 none k D a base g n (EL a g σ w Y) [.ref (g (50 + 4 * i)), .int (nI q), .ref (g (50 + 4 * i2)), .int (nI q2), .int (nI v)] (fun r E' => E' = EL a g (alS σ i q i2 q2 v) (cpW w i q i2 q2 4) Y ∧ r = .inl none) := by
  refine x_method (by decide) htr (Nat.le_of_ble_eq_true rfl) ?_
  intro p e s m args below meth c C hne hret hnm
  have C : xC p l e s m meth c b_SV_addLike 6 "ChunkStore$Server" args D xcl (xty a) base := C
  refine x_aload_n C d_SV_addLike_0 rfl rfl ?_
  refine g_SV_server_versions C hi hn d_SV_addLike_1 ?_
  refine x_iload_n C d_SV_addLike_4 rfl rfl ?_
  refine x_iload C d_SV_addLike_5 rfl ?_
  refine a_vers C hi hq hn d_SV_addLike_7 ?_
  refine x_aload_n C d_SV_addLike_8 rfl rfl ?_
  refine g_SV_server_used C hi hn d_SV_addLike_9 ?_
  refine x_iload_n C d_SV_addLike_12 rfl rfl ?_
  refine x_aload_n C d_SV_addLike_13 rfl rfl ?_
  refine g_SV_server_used C hi2 hn d_SV_addLike_14 ?_
  refine x_iload_n C d_SV_addLike_17 rfl rfl ?_
  refine e_used C hi2 hq2 hn d_SV_addLike_18 ?_
  refine a_used C hi hq hn d_SV_addLike_19 ?_
  refine x_iconst C (v := nI 0) d_SV_addLike_20 (by decide) ?_
  refine x_istore C d_SV_addLike_21 (by decide) rfl ?_
  refine x_loop 4 (fun j => EL a g (up3 (up3 σ 12 i q v) 13 i q ((up3 σ 12 i q v) 13 i2 q2)) (cpW w i q i2 q2 j) Y) (fun j => [(0, .ref (g (50 + 4 * i))), (1, .int (nI q)), (2, .ref (g (50 + 4 * i2))), (3, .int (nI q2)), (4, .int (nI v)), (5, .int (nI j))]) (fun j => True) rfl ⟨rfl, rfl, rfl, rfl, rfl, rfl, trivial⟩ trivial ?_
  intro j hj hIj ihj
  refine x_iload C d_SV_addLike_23 rfl ?_
  refine x_iconst C (v := nI 4) d_SV_addLike_25 (by decide) ?_
  refine xn_icmp_ge C (by omega) (by decide) 57 d_SV_addLike_26 (by decide) (fun h26 => ?_) (fun h26 => ?_)
  · refine x_aload_n C d_SV_addLike_57 rfl rfl ?_
    refine x_dup C d_SV_addLike_58 rfl ?_
    refine g_SV_server_replicas C hi hn d_SV_addLike_59 ?_
    refine x_iconst C (v := nI 1) d_SV_addLike_62 (by decide) ?_
    refine xn_iadd C d_SV_addLike_63 ?_
    refine p_SV_server_replicas C hi hn d_SV_addLike_64 ?_
    exact x_vret C hret d_SV_addLike_67 ⟨by rw [show j = 4 by omega, alS]; simp only [up3_n (show ¬ 13 = 12 by decide), up3_n (show ¬ 11 = 13 by decide), up3_n (show ¬ 11 = 12 by decide)], rfl⟩
  · refine x_aload_n C d_SV_addLike_29 rfl rfl ?_
    refine g_SV_server_words C hi hn d_SV_addLike_30 ?_
    refine x_iload_n C d_SV_addLike_33 rfl rfl ?_
    refine x_iconst C (v := nI 4) d_SV_addLike_34 (by decide) ?_
    refine xn_imul C d_SV_addLike_35 ?_
    refine x_iload C d_SV_addLike_36 rfl ?_
    refine xn_iadd C d_SV_addLike_38 ?_
    refine x_aload_n C d_SV_addLike_39 rfl rfl ?_
    refine g_SV_server_words C hi2 hn d_SV_addLike_40 ?_
    refine x_iload_n C d_SV_addLike_43 rfl rfl ?_
    refine x_iconst C (v := nI 4) d_SV_addLike_44 (by decide) ?_
    refine xn_imul C d_SV_addLike_45 ?_
    refine x_iload C d_SV_addLike_46 rfl ?_
    refine xn_iadd C d_SV_addLike_48 ?_
    refine e_wrds C hi2 (by omega) hn d_SV_addLike_49 ?_
    refine a_wrds C hi (by omega) hn d_SV_addLike_50 ?_
    refine x_lv [(0, .ref (g (50 + 4 * i))), (1, .int (nI q)), (2, .ref (g (50 + 4 * i2))), (3, .int (nI q2)), (4, .int (nI v)), (5, .int (nI j))] ⟨rfl, rfl, rfl, rfl, rfl, rfl, trivial⟩ ?_
    refine xn_iinc C d_SV_addLike_51 5 rfl (by decide) rfl ?_
    refine x_goto C 23 d_SV_addLike_54 (by decide) ?_
    exact x_lv [(0, .ref (g (50 + 4 * i))), (1, .int (nI q)), (2, .ref (g (50 + 4 * i2))), (3, .int (nI q2)), (4, .int (nI v)), (5, .int (nI (j + 1)))] ⟨rfl, rfl, rfl, rfl, rfl, rfl, trivial⟩ (ihj (by omega) trivial)
theorem m_IN_bitCount {l : Launch} (htr : xTr l) {D : va_G} {a : Nat → ClassId} {base : Nat} {g : Nat → Nat} {n : Nat} {E : Nat → va_E} {h : Nat} (hh : h < 32) {k : Nat} (hk : 0 ≤ k) : xM l y_IN_bitCount b_IN_bitCount 1 (some FieldType.int) k D a base g n E [.int (nI h)] (fun r E' => E' = E ∧ r = .inl (some (.int (nI (pop5 h))))) := by
  refine x_methodF (by decide +kernel) htr (Nat.le_of_ble_eq_true rfl) ?_
  intro p e s m args below meth c C hne hret hnm
  have C : xC p l e s m meth c b_IN_bitCount 1 "java/lang/Integer" args D xcl (xty a) base := C
  refine x_iload_n C d_IN_bitCount_0 rfl rfl ?_
  refine x_iload_n C d_IN_bitCount_1 rfl rfl ?_
  refine x_iconst C (v := nI 1) d_IN_bitCount_2 (by decide) ?_
  refine x_iushr C d_IN_bitCount_3 ?_
  refine x_ldcw C kw500 d_IN_bitCount_4 ?_
  refine x_iand C d_IN_bitCount_7 ?_
  refine x_isub C d_IN_bitCount_8 ?_
  refine x_istore_n C d_IN_bitCount_9 rfl (by decide) rfl ?_
  refine x_iload_n C d_IN_bitCount_10 rfl rfl ?_
  refine x_ldcw C kw501 d_IN_bitCount_11 ?_
  refine x_iand C d_IN_bitCount_14 ?_
  refine x_iload_n C d_IN_bitCount_15 rfl rfl ?_
  refine x_iconst C (v := nI 2) d_IN_bitCount_16 (by decide) ?_
  refine x_iushr C d_IN_bitCount_17 ?_
  refine x_ldcw C kw501 d_IN_bitCount_18 ?_
  refine x_iand C d_IN_bitCount_21 ?_
  refine x_iadd C d_IN_bitCount_22 ?_
  refine x_istore_n C d_IN_bitCount_23 rfl (by decide) rfl ?_
  refine x_iload_n C d_IN_bitCount_24 rfl rfl ?_
  refine x_iload_n C d_IN_bitCount_25 rfl rfl ?_
  refine x_iconst C (v := nI 4) d_IN_bitCount_26 (by decide) ?_
  refine x_iushr C d_IN_bitCount_27 ?_
  refine x_iadd C d_IN_bitCount_28 ?_
  refine x_ldcw C kw502 d_IN_bitCount_29 ?_
  refine x_iand C d_IN_bitCount_32 ?_
  refine x_istore_n C d_IN_bitCount_33 rfl (by decide) rfl ?_
  refine x_iload_n C d_IN_bitCount_34 rfl rfl ?_
  refine x_iload_n C d_IN_bitCount_35 rfl rfl ?_
  refine x_bipush C (v := nI 8) d_IN_bitCount_36 (by decide) ?_
  refine x_iushr C d_IN_bitCount_38 ?_
  refine x_iadd C d_IN_bitCount_39 ?_
  refine x_istore_n C d_IN_bitCount_40 rfl (by decide) rfl ?_
  refine x_iload_n C d_IN_bitCount_41 rfl rfl ?_
  refine x_iload_n C d_IN_bitCount_42 rfl rfl ?_
  refine x_bipush C (v := nI 16) d_IN_bitCount_43 (by decide) ?_
  refine x_iushr C d_IN_bitCount_45 ?_
  refine x_iadd C d_IN_bitCount_46 ?_
  refine x_istore_n C d_IN_bitCount_47 rfl (by decide) rfl ?_
  refine x_iload_n C d_IN_bitCount_48 rfl rfl ?_
  refine x_bipush C (v := nI 63) d_IN_bitCount_49 (by decide) ?_
  refine x_iand C d_IN_bitCount_51 ?_
  exact x_iret C hret d_IN_bitCount_52 ⟨rfl, congrArg (fun v => Sum.inl (some (Value.int v))) ((by decide +kernel : ∀ h, h < 32 → ((((((((nI h) - ((((nI h).toUInt32 >>> ((nI 1).toUInt32 &&& Int32.toUInt32 31)).toInt32) &&& 1431655765)) &&& 858993459) + (((((nI h) - ((((nI h).toUInt32 >>> ((nI 1).toUInt32 &&& Int32.toUInt32 31)).toInt32) &&& 1431655765)).toUInt32 >>> ((nI 2).toUInt32 &&& Int32.toUInt32 31)).toInt32) &&& 858993459)) + ((((((nI h) - ((((nI h).toUInt32 >>> ((nI 1).toUInt32 &&& Int32.toUInt32 31)).toInt32) &&& 1431655765)) &&& 858993459) + (((((nI h) - ((((nI h).toUInt32 >>> ((nI 1).toUInt32 &&& Int32.toUInt32 31)).toInt32) &&& 1431655765)).toUInt32 >>> ((nI 2).toUInt32 &&& Int32.toUInt32 31)).toInt32) &&& 858993459)).toUInt32 >>> ((nI 4).toUInt32 &&& Int32.toUInt32 31)).toInt32)) &&& 252645135) + ((((((((nI h) - ((((nI h).toUInt32 >>> ((nI 1).toUInt32 &&& Int32.toUInt32 31)).toInt32) &&& 1431655765)) &&& 858993459) + (((((nI h) - ((((nI h).toUInt32 >>> ((nI 1).toUInt32 &&& Int32.toUInt32 31)).toInt32) &&& 1431655765)).toUInt32 >>> ((nI 2).toUInt32 &&& Int32.toUInt32 31)).toInt32) &&& 858993459)) + ((((((nI h) - ((((nI h).toUInt32 >>> ((nI 1).toUInt32 &&& Int32.toUInt32 31)).toInt32) &&& 1431655765)) &&& 858993459) + (((((nI h) - ((((nI h).toUInt32 >>> ((nI 1).toUInt32 &&& Int32.toUInt32 31)).toInt32) &&& 1431655765)).toUInt32 >>> ((nI 2).toUInt32 &&& Int32.toUInt32 31)).toInt32) &&& 858993459)).toUInt32 >>> ((nI 4).toUInt32 &&& Int32.toUInt32 31)).toInt32)) &&& 252645135).toUInt32 >>> ((nI 8).toUInt32 &&& Int32.toUInt32 31)).toInt32)) + (((((((((nI h) - ((((nI h).toUInt32 >>> ((nI 1).toUInt32 &&& Int32.toUInt32 31)).toInt32) &&& 1431655765)) &&& 858993459) + (((((nI h) - ((((nI h).toUInt32 >>> ((nI 1).toUInt32 &&& Int32.toUInt32 31)).toInt32) &&& 1431655765)).toUInt32 >>> ((nI 2).toUInt32 &&& Int32.toUInt32 31)).toInt32) &&& 858993459)) + ((((((nI h) - ((((nI h).toUInt32 >>> ((nI 1).toUInt32 &&& Int32.toUInt32 31)).toInt32) &&& 1431655765)) &&& 858993459) + (((((nI h) - ((((nI h).toUInt32 >>> ((nI 1).toUInt32 &&& Int32.toUInt32 31)).toInt32) &&& 1431655765)).toUInt32 >>> ((nI 2).toUInt32 &&& Int32.toUInt32 31)).toInt32) &&& 858993459)).toUInt32 >>> ((nI 4).toUInt32 &&& Int32.toUInt32 31)).toInt32)) &&& 252645135) + ((((((((nI h) - ((((nI h).toUInt32 >>> ((nI 1).toUInt32 &&& Int32.toUInt32 31)).toInt32) &&& 1431655765)) &&& 858993459) + (((((nI h) - ((((nI h).toUInt32 >>> ((nI 1).toUInt32 &&& Int32.toUInt32 31)).toInt32) &&& 1431655765)).toUInt32 >>> ((nI 2).toUInt32 &&& Int32.toUInt32 31)).toInt32) &&& 858993459)) + ((((((nI h) - ((((nI h).toUInt32 >>> ((nI 1).toUInt32 &&& Int32.toUInt32 31)).toInt32) &&& 1431655765)) &&& 858993459) + (((((nI h) - ((((nI h).toUInt32 >>> ((nI 1).toUInt32 &&& Int32.toUInt32 31)).toInt32) &&& 1431655765)).toUInt32 >>> ((nI 2).toUInt32 &&& Int32.toUInt32 31)).toInt32) &&& 858993459)).toUInt32 >>> ((nI 4).toUInt32 &&& Int32.toUInt32 31)).toInt32)) &&& 252645135).toUInt32 >>> ((nI 8).toUInt32 &&& Int32.toUInt32 31)).toInt32)).toUInt32 >>> ((nI 16).toUInt32 &&& Int32.toUInt32 31)).toInt32)) &&& (nI 63) = nI (pop5 h)) h hh)⟩
end XM3
end
section
/-! The throw of a new exception whose text lies beyond the first 255 constants. -/
section XTW
theorem x_ldcSW {p : Program} {l : Launch} {e : Env} {R : Room} {s : State} {m : MethodId} {args : Array Value} {below : List Frame} {meth : Method} {c : Code} {H : Heap} {locs : List Loc} {cells slots : Nat} {Q : State → Prop} {cc : ByteArray} {pc : Nat} {ls : Array Slot} {rest : List Value} (hexec : p.tables.exec = Jvm.exec) (hb : c.code = cc) {own tx : String} {index q : Nat} (hown : s.vm.findClass own = some m.cls) (hZ : vk_R own index tx q s) (hdg : decode cc pc = .ok (.ldc_w index, 3))
    (k : W p l e R s m args below meth c H locs cells slots Q (F0 m (pc + 3) ls (.ref q :: rest))) : W p l e R s m args below meth c H locs cells slots Q (F0 m pc ls rest) := by
  intro T hT X
  obtain ⟨t, a1, b1⟩ := k T hT X
  exact ⟨t, Jvm.Stand.ldcStringW X hexec hown (text := tx) (a := q) (vk_R.same (u := s) rfl hZ |>.1) (vk_R.same (u := s) rfl hZ |>.2) (g := F0 m pc ls rest) rfl (by rw [hb]; exact hdg) t a1, b1⟩
variable {p : Program} {l : Launch} {e : Env} {R : Room} {s : State} {m : MethodId} {args : Array Value} {below : List Frame} {meth : Method} {c : Code} {nL : Nat} {D : va_G} {cl : List vw_C} {tys : List (ClassId × FieldType)} {base : Nat} {g : Nat → Nat} {cc : ByteArray} {own : String} {n pc : Nat} {E : Nat → va_E} {lv : List (Nat × Value)} {st : List Value} {post : xR → (Nat → va_E) → Prop} {kT nT : Nat}
/-- new X("..") and athrow -/
theorem x_throwW {X tx : String} {names : List String} {ix is ic : Nat} (C : xC p l e s m meth c cc nL own args D cl tys base) (hne : c.exceptionTable.isEmpty = true)
    (hd0 : decode cc pc = .ok (.new ix, 3)) (hd3 : decode cc (pc + 3) = .ok (.dup, 1)) (hd4 : decode cc (pc + 4) = .ok (.ldc_w is, 3)) (hd6 : decode cc (pc + 7) = .ok (.invokespecial ic, 3)) (hd9 : decode cc (pc + 10) = .ok (.athrow, 1))
    (hcl : Cond.classLink own ix X ∈ xT) (hinst : Cond.instantiable X 6 ∈ xT) (hini : Cond.initialized X ∈ xT) (hstr : (own, is, tx) ∈ xStr) (hX : Bundle.fit X = true) (hnames : ∀ n ∈ names, Bundle.fit n = true)
    (hats : ∀ a ∈ Bundle.ownAtoms own ic X names, a ∈ xT ∨ a ∈ xN ∨ a ∈ xStatics) (hRf : names.length + 3 < R.frames) (hRl : ((Value.ref 0 :: st).map fun v => v.category).sum + (13 * (names.length + 1) + 42) ≤ R.locals) (hRc : 1 ≤ R.cells) (hRs : 6 ≤ R.slots) (hkT : 1 ≤ kT) (hnT : 6 ≤ nT)
    (hp : post (.inr X) E) : xG p l e R s m args below meth c (xMQ below (xQc D cl base g n post) args s 0 0 kT nT (fun q => base ≤ q)) nL D cl base g n E 0 0 pc lv st := by
  intro H locs ls hw hS hl T hT X0
  have X' := x_rebase X0 (Nat.zero_le _) (Nat.zero_le _)
  generalize hs' : T.setFrames (.invoking m args :: below) = s' at X'
  have hvm : s'.vm = T.vm := by rw [← hs']; rfl
  have hheap : s'.heap = H := by rw [← hs']; exact hT
  have hW : s.WarmedH s'.vm := by rw [hvm]; exact X0.warmed
  have hE : xEnv base s' s'.heap := C.at hS hheap hW
  have hown' : s'.vm.findClass own = some m.cls := by rw [hW.alike.findClass]; exact C.ow
  obtain ⟨sa, hsa⟩ := hE.2.2.1 _ hstr
  obtain ⟨cX, hcX⟩ : ∃ cX, s'.vm.findClass X = some cX := by
    obtain ⟨cX, -, h, -⟩ := Cond.instantiable_spec (hE.words (args := args) _ hinst)
    exact ⟨cX, h⟩
  have hatoms : ∀ a ∈ Bundle.ownAtoms own ic X names, a.before args s' = true := by
    intro a ha
    rcases hats a ha with h | h | h
    · exact hE.words a h
    · exact va_Nw.use (xIsN_tab (List.mem_filter.mp h).2) (hE.2.1 a h)
    · exact xStatics_ok hE a h
  have hrl : (Value.ref 0 :: st).map (fun v => v.category) = (Value.ref H.size :: st).map (fun v => v.category) := rfl
  have K : W p l e ({ R with cells := R.cells - 0, slots := R.slots - 0 } : Room) s' m args below meth c H [] 0 0 (fun t => ∃ a : Addr, t.status = .running ∧ Ended t below (.threw a) ∧ s'.WarmedH t.vm ∧ s'.sameButNew ({ t with vm := s'.vm } : State) [] 1 6 ∧ ∃ ce, t.heap[a]? = some ce ∧ Bundle.OwnCell args s' X a (.ref sa) ce) (F0 m pc ls st) := by
    refine W.newcK C.1 C.2.1 hown' (hE.words _ hcl) (hE.words _ hinst) (hE.words _ hini) rfl hd0 (by show 0 + 1 ≤ R.cells - 0; omega) (by show 0 + 6 ≤ R.slots - 0; omega) hcX rfl fun H1 kC hkC e1 z1 o1 => ?_
    refine lv_dup (pc := pc + 3) (ls := ls) C.1 C.2.1 hd3 rfl ?_
    refine x_ldcSW (pc := pc + 4) (ls := ls) C.1 C.2.1 hown' hsa hd4 ?_
    intro T2 hT2 X2
    obtain ⟨U, u1, u2, u3, u4, u5, ce, u6, u7⟩ := X2.ctorThrowS C.1 C.2.2.2.2.2.2.2 (own := own) (cls := X) (names := names) (ic := ic) hown' hX hnames hatoms (fun x hx => by cases hx) (a := H.size) hcX hkC (by rw [hT2]; exact e1) (by rw [hheap]; exact Nat.le_refl _) (msg := .ref sa) rfl
      (g := F0 m (pc + 7) ls (.ref sa :: .ref H.size :: .ref H.size :: st)) rfl (by rw [C.2.2.1]; exact hl.1) rfl rfl (rest := st) rfl (by rw [C.2.1]; exact hd6) (by rw [C.2.1]; exact hd9) (covers_of_empty hne _) hRf (by show 2 * 0 + _ + _ ≤ R.locals; rw [← hrl]; omega) C.locks
    exact ⟨U, u1, H.size, u2, u3, u4, u5, ce, u6, u7⟩
  obtain ⟨U, u1, a, u2, u3, u4, u5, ce, u6, u7⟩ := K T hT X'
  have hWU : s.WarmedH U.vm := State.WarmedH.trans hW u4
  have hsz : s'.heap.size ≤ U.heap.size := u5.2.1
  have hk : ∀ q : Nat, q < H.size → U.heap[q]? = H[q]? := fun q hq => by
    have := x_sameHeap u5 q (by rw [hheap]; exact hq)
    rw [this, hheap]
  have hsame : s.sameButNew ({ U with vm := s.vm } : State) locs 1 6 := by
    have h2 : (T.setVm s.vm).sameButNew ({ U with vm := s.vm } : State) [] 1 6 := by
      obtain ⟨a1, a2⟩ := u5
      subst hs'
      refine ⟨?_, a2⟩
      have a3 := congrArg (fun z : State => z.setVm s.vm) a1
      have a4 : ({ U with vm := s.vm } : State) = ({ (T.setFrames (.invoking m args :: below)).setFrames U.frames with heap := U.heap, slotsUsed := U.slotsUsed } : State).setVm s.vm := a3
      rw [State.setFrames_setFrames] at a4
      exact a4
    have h3 := X0.same.trans h2
    simpa using h3
  refine ⟨U, u1, .threw a, u2, u3, ⟨⟨.inr X, E, ⟨a, ce, rfl, u6, u7.vm, by rw [u4.alike.findClass]; exact u7.cls⟩, hp, hw.kept hk⟩, ?_⟩, locs, ⟨hWU, hsame.mono hkT hnT⟩, hS.2.2⟩
  refine ⟨Nat.le_trans hS.1 (by rw [← hheap]; exact hsz), fun q h1 h2 => ?_⟩
  rw [hk q (Nat.lt_of_lt_of_le h1 hS.1)]
  exact hS.2.1 q h1 h2
end XTW
section XTW2
variable {p : Program} {l : Launch} {e : Env} {s : State} {m : MethodId} {args : Array Value} {below : List Frame} {meth : Method} {c : Code} {nL : Nat} {D : va_G} {cl : List vw_C} {tys : List (ClassId × FieldType)} {base : Nat} {g : Nat → Nat} {cc : ByteArray} {n pc : Nat} {E : Nat → va_E} {lv : List (Nat × Value)} {st : List Value} {post : xR → (Nat → va_E) → Prop}
theorem th_IOw {is j : Nat} {tx : String} (C : xC p l e s m meth c cc nL "ChunkStore" args D cl tys base) (hne : c.exceptionTable.isEmpty = true) (hst : (st.map fun v => v.category).sum ≤ 8) (hd0 : decode cc pc = .ok (.new 216, 3)) (hd3 : decode cc (pc + 3) = .ok (.dup, 1)) (hd4 : decode cc (pc + 4) = .ok (.ldc_w is, 3)) (hd6 : decode cc (pc + 7) = .ok (.invokespecial 220, 3)) (hd9 : decode cc (pc + 10) = .ok (.athrow, 1)) (hstr : ("ChunkStore", is, tx) ∈ xStr) (hp : post (.inr e_IO) E) : xG p l e (xrm j) s m args below meth c (xMQ below (xQc D cl base g n post) args s 0 0 1 6 (fun q => base ≤ q)) nL D cl base g n E 0 0 pc lv st :=
  x_throwW C hne hd0 hd3 hd4 hd6 hd9 kw310 kw311 kw13 hstr (by decide +kernel) (by decide +kernel) at_IO (by show 2 + 3 < 6 + j; omega) (by show 1 + (st.map fun v => v.category).sum + (13 * 3 + 42) ≤ 100 + 30 * j; omega) (Nat.le_refl _) (Nat.le_refl _) (Nat.le_refl _) (Nat.le_refl _) hp
theorem th_UOw {is j : Nat} {tx : String} (C : xC p l e s m meth c cc nL "ChunkStore" args D cl tys base) (hne : c.exceptionTable.isEmpty = true) (hst : (st.map fun v => v.category).sum ≤ 8) (hd0 : decode cc pc = .ok (.new 122, 3)) (hd3 : decode cc (pc + 3) = .ok (.dup, 1)) (hd4 : decode cc (pc + 4) = .ok (.ldc_w is, 3)) (hd6 : decode cc (pc + 7) = .ok (.invokespecial 126, 3)) (hd9 : decode cc (pc + 10) = .ok (.athrow, 1)) (hstr : ("ChunkStore", is, tx) ∈ xStr) (hp : post (.inr e_UO) E) : xG p l e (xrm j) s m args below meth c (xMQ below (xQc D cl base g n post) args s 0 0 1 6 (fun q => base ≤ q)) nL D cl base g n E 0 0 pc lv st :=
  x_throwW C hne hd0 hd3 hd4 hd6 hd9 kw400 kw401 kw14 hstr (by decide +kernel) (by decide +kernel) at_UO (by show 2 + 3 < 6 + j; omega) (by show 1 + (st.map fun v => v.category).sum + (13 * 3 + 42) ≤ 100 + 30 * j; omega) (Nat.le_refl _) (Nat.le_refl _) (Nat.le_refl _) (Nat.le_refl _) hp
end XTW2
end
section
section XM4
abbrev xSig : Type := Nat → Nat → Nat → Nat
abbrev xWrd : Type := Nat → Nat → Int32
/-- a new chunk at the master -/
def scS (σ : xSig) (h : Nat) : xSig := up3 (up3 (up3 (up3 σ 6 (σ 0 0 0) 0 1) 7 (σ 0 0 0) 0 1) 8 (σ 0 0 0) 0 h) 0 0 0 (σ 0 0 0 + 1)
theorem scS_B {σ : xSig} {h : Nat} (hB : ∀ t i j, σ t i j < 2 ^ 30) (hm : σ 0 0 0 < 30) (hh : h < 32) : ∀ t i j, scS σ h t i j < 2 ^ 30 := up3_B (up3_B (up3_B (up3_B hB (by decide)) (by decide)) (by omega)) (by omega)
theorem scS_H {σ : xSig} {h : Nat} (hH : ∀ c, σ 8 c 0 < 32) (hh : h < 32) : ∀ c, scS σ h 8 c 0 < 32 := up3_Hn (up3_H (up3_Hn (up3_Hn hH (by decide)) (by decide)) hh) (by decide)
def aeS (σ : xSig) (f c : Nat) : xSig := if σ 3 f 0 < 3 then up3 (up3 σ 4 f (σ 3 f 0) c) 3 f 0 (σ 3 f 0 + 1) else σ
def rvS (σ : xSig) (c h : Nat) : xSig := rvL (up3 (up3 σ 6 c 0 (σ 6 c 0 + 1)) 8 c 0 h) c h (σ 6 c 0 + 1) 5
theorem addE_B {σ : xSig} {ch c n : Nat} (hB : ∀ t i j, σ t i j < 2 ^ 30) (h11 : ∀ i, σ 11 i 0 < 2 ^ 29) : ∀ t i j, addE σ ch c n t i j < 2 ^ 30 := by
  intro t i j
  rw [addE_at]
  have := h11 i
  have := hB t i j
  split
  · decide
  · split <;> omega
theorem addE_o {σ : xSig} {ch c n t i j : Nat} (h : ¬ t = 12 ∧ ¬ t = 11) : addE σ ch c n t i j = σ t i j := by rw [addE_at, if_neg (fun q => h.1 q.2.2.1), if_neg (fun q => h.2 q.2.2.1)]
/-- replicas of m like those of c at the first n of the set -/
def spL (σ : xSig) (h m c : Nat) : Nat → xSig
  | 0 => σ
  | n + 1 => if h.testBit n then alS (spL σ h m c n) n m n c 1 else spL σ h m c n
def spW (w : xWrd) (h m c : Nat) : Nat → xWrd
  | 0 => w
  | n + 1 => if h.testBit n then cpW (spW w h m c n) n m n c 4 else spW w h m c n
theorem spL_at {σ : xSig} {h m c : Nat} (n t i j : Nat) (hmc : ¬ m = c) : spL σ h m c n t i j = if i < n ∧ h.testBit i = true ∧ t = 12 ∧ j = m then 1 else if i < n ∧ h.testBit i = true ∧ t = 13 ∧ j = m then σ 13 i c else if i < n ∧ h.testBit i = true ∧ t = 11 ∧ j = 0 then σ 11 i 0 + 1 else σ t i j := by
  induction n generalizing t i j with
  | zero => simp [spL]
  | succ n ih =>
    unfold spL
    by_cases hb : h.testBit n = true
    · rw [if_pos hb]
      simp only [alS, up3, ih]
      clear ih
      by_cases r : i = n
      · subst r
        simp only [hb, Nat.lt_irrefl, false_and, if_false, true_and, Nat.lt_succ_self]
        by_cases t1 : t = 11
        · subst t1; simp
        · by_cases t2 : t = 12
          · subst t2; simp
          · simp only [t1, t2, false_and, if_false]
      · simp only [r, false_and, and_false, if_false]
        have e : (i < n + 1) ↔ i < n := by omega
        simp only [e]
    · rw [if_neg hb, ih]
      have e : (i < n + 1 ∧ h.testBit i = true) ↔ (i < n ∧ h.testBit i = true) := by
        by_cases r : i = n
        · subst r; simp [hb]
        · constructor <;> intro q <;> exact ⟨by omega, q.2⟩
      simp only [← and_assoc, e]
theorem spL_o {σ : xSig} {h m c t i j : Nat} (n : Nat) (ht : ¬ t = 11 ∧ ¬ t = 12 ∧ ¬ t = 13) : spL σ h m c n t i j = σ t i j := by
  induction n with
  | zero => rfl
  | succ n ih =>
    unfold spL
    split
    · unfold alS; rw [up3_n ht.1, up3_n ht.2.2, up3_n ht.2.1, ih]
    · exact ih
theorem spL_B {σ : xSig} {h m c : Nat} (n : Nat) (hmc : ¬ m = c) (hB : ∀ t i j, σ t i j < 2 ^ 30) (h11 : ∀ i, σ 11 i 0 < 2 ^ 29) : ∀ t i j, spL σ h m c n t i j < 2 ^ 30 := by
  intro t i j
  rw [spL_at n t i j hmc]
  have := h11 i
  have := hB t i j
  have := hB 13 i c
  split
  · decide
  · split
    · omega
    · split <;> omega
/-- the word u of the chunk c at the first n of the set -/
def swL (σ : xSig) (c u h : Nat) : Nat → xSig
  | 0 => σ
  | n + 1 => if h.testBit n then swS (swL σ c u h n) n c u else swL σ c u h n
def swLW (w : xWrd) (c u h : Nat) (v : Int32) : Nat → xWrd
  | 0 => w
  | n + 1 => if h.testBit n then swW (swLW w c u h v n) n c u v else swLW w c u h v n
theorem swL_o {σ : xSig} {c u h t i j : Nat} (n : Nat) (ht : ¬ t = 13) : swL σ c u h n t i j = σ t i j := by
  induction n with
  | zero => rfl
  | succ n ih =>
    unfold swL
    split
    · unfold swS; split
      · rw [up3_n ht, ih]
      · exact ih
    · exact ih
theorem swL_B {σ : xSig} {c u h : Nat} (n : Nat) (hB : ∀ t i j, σ t i j < 2 ^ 30) : ∀ t i j, swL σ c u h n t i j < 2 ^ 30 := by
  induction n with
  | zero => exact hB
  | succ n ih =>
    unfold swL
    split
    · unfold swS; split
      · exact up3_B ih (by have := ih 13 n c; split <;> omega)
      · exact ih
    · exact ih
def uaf (σ : xSig) (c : Nat) : Nat := if fst5 (σ 8 c 0) = 5 then 0 else σ 13 (fst5 (σ 8 c 0)) c
/-- the chunk in need and its live holders -/
def nd (σ : xSig) : Nat → Nat × Nat
  | 0 => (30, 3)
  | n + 1 => if 0 < σ 7 n 0 ∧ 1 ≤ pop5 (lvh σ n) ∧ pop5 (lvh σ n) < (nd σ n).2 ∧ ¬ bst σ n 0 = 5 then (n, pop5 (lvh σ n)) else nd σ n
theorem nd_le {σ : xSig} : ∀ n, n ≤ 30 → (nd σ n).1 ≤ 30 ∧ (nd σ n).2 ≤ 5 := by
  intro n
  induction n with
  | zero => intro _; exact ⟨Nat.le_refl _, by show 3 ≤ 5; decide⟩
  | succ n ih =>
    intro hn
    unfold nd
    split
    · exact ⟨by show n ≤ 30; omega, pop5_le _⟩
    · exact ih (by omega)
theorem m_CS_choose {l : Launch} (htr : xTr l) {D : va_G} {a : Nat → ClassId} {base : Nat} {g : Nat → Nat} {n : Nat} {σ : Nat → Nat → Nat → Nat} {w : Nat → Nat → Int32} {Y : Nat → va_E} (hn : 143 ≤ n) (hB : ∀ t i j, σ t i j < 2 ^ 30) {q : Nat} (hq : q < 30) {k : Nat} (hk : 2 ≤ k) : xM l y_CS_choose b_CS_choose 6 (some FieldType.int) k D a base g n (EL a g σ w Y) [.ref (g 0), .int (nI q), .int (nI 3)] (fun r E' => E' = EL a g σ w Y ∧ r = .inl (some (.int (nI (cho σ q 3))))) := by
  refine x_method (by decide) htr (Nat.le_of_ble_eq_true rfl) ?_
  intro p e s m args below meth c C hne hret hnm
  have C : xC p l e s m meth c b_CS_choose 6 "ChunkStore" args D xcl (xty a) base := C
  refine x_iconst C (v := nI 0) d_CS_choose_0 (by decide) ?_
  refine x_istore_n C d_CS_choose_1 rfl (by decide) rfl ?_
  refine x_iconst C (v := nI 0) d_CS_choose_2 (by decide) ?_
  refine x_istore C d_CS_choose_3 (by decide) rfl ?_
  refine x_loop 3 (fun i => EL a g σ w Y) (fun i => [(0, .ref (g (0))), (1, .int (nI q)), (2, .int (nI 3)), (3, .int (nI (cho σ q i))), (4, .int (nI i))]) (fun i => True) rfl ⟨rfl, rfl, rfl, rfl, rfl, trivial⟩ trivial ?_
  intro i hi hIi ihi
  refine x_iload C d_CS_choose_5 rfl ?_
  refine x_iload_n C d_CS_choose_7 rfl rfl ?_
  refine xn_icmp_ge C (by omega) (by decide) 38 d_CS_choose_8 (by decide) (fun h8 => ?_) (fun h8 => ?_)
  · refine x_iload_n C d_CS_choose_38 rfl rfl ?_
    exact x_iret C hret d_CS_choose_39 ⟨rfl, by rw [show i = 3 by omega]⟩
  · refine x_aload_n C d_CS_choose_11 rfl rfl ?_
    refine x_iload_n C d_CS_choose_12 rfl rfl ?_
    refine x_iload_n C d_CS_choose_13 rfl rfl ?_
    refine c_CS_CS_lightest C (by omega) hn (m_CS_lightest htr hn hB hq (cho_lt _ _ _) (Nat.le_refl _)) rfl rfl (Nat.le_of_ble_eq_true rfl) d_CS_choose_14 (fun v E' hp => ?_) (fun X E' hp => ?_)
    · obtain ⟨rfl, hv⟩ := hp
      cases hv
      refine x_istore C d_CS_choose_17 (by decide) rfl ?_
      refine x_iload C d_CS_choose_19 rfl ?_
      refine x_iconst C (v := -1) d_CS_choose_21 (by decide) ?_
      refine x_icmp_eq C 32 d_CS_choose_22 (by decide) (fun h22 => ?_) (fun h22 => ?_)
      · have h22 := (iv_m1 ⟨bst_le _ _ _, by decide⟩).mp h22
        refine x_lv [(0, .ref (g (0))), (1, .int (nI q)), (2, .int (nI 3)), (3, .int (nI (cho σ q i))), (4, .int (nI i)), (5, .int (iv 5 (bst σ q (cho σ q i))))] ⟨rfl, rfl, rfl, rfl, rfl, rfl, trivial⟩ ?_
        refine xn_iinc C d_CS_choose_32 4 rfl (by decide) rfl ?_
        refine x_goto C 5 d_CS_choose_35 (by decide) ?_
        exact x_lv [(0, .ref (g (0))), (1, .int (nI q)), (2, .int (nI 3)), (3, .int (nI (cho σ q (i + 1)))), (4, .int (nI (i + 1)))] ⟨rfl, rfl, rfl, by rw [show cho σ q (i + 1) = cho σ q i from (by rw [cho, if_pos h22])]; rfl, rfl, trivial⟩ (ihi (by omega) trivial)
      · have h22 := iv_n1 ⟨bst_le _ _ _, by decide⟩ h22
        refine x_iload_n C d_CS_choose_25 rfl rfl ?_
        refine x_iconst C (v := nI 1) d_CS_choose_26 (by decide) ?_
        refine x_iload C d_CS_choose_27 rfl ?_
        refine x_topi (iv_lt h22) ?_
        refine xn_bit C h22 d_CS_choose_29 ?_
        refine xn_ior C (cho_lt _ _ _) (bt_p _ h22) d_CS_choose_30 ?_
        refine x_istore_n C d_CS_choose_31 rfl (by decide) rfl ?_
        refine x_lv [(0, .ref (g (0))), (1, .int (nI q)), (2, .int (nI 3)), (3, .int (nI ((cho σ q i) ||| (2 ^ (bst σ q (cho σ q i)))))), (4, .int (nI i)), (5, .int (iv 5 (bst σ q (cho σ q i))))] ⟨rfl, rfl, rfl, rfl, rfl, rfl, trivial⟩ ?_
        refine xn_iinc C d_CS_choose_32 4 rfl (by decide) rfl ?_
        refine x_goto C 5 d_CS_choose_35 (by decide) ?_
        exact x_lv [(0, .ref (g (0))), (1, .int (nI q)), (2, .int (nI 3)), (3, .int (nI (cho σ q (i + 1)))), (4, .int (nI (i + 1)))] ⟨rfl, rfl, rfl, by rw [show cho σ q (i + 1) = (cho σ q i) ||| (2 ^ (bst σ q (cho σ q i))) from (by rw [cho, if_neg (by omega)])]; rfl, rfl, trivial⟩ (ihi (by omega) trivial)
    · cases hp.2
theorem m_CS_usedAtFirst {l : Launch} (htr : xTr l) {D : va_G} {a : Nat → ClassId} {base : Nat} {g : Nat → Nat} {n : Nat} {σ : Nat → Nat → Nat → Nat} {w : Nat → Nat → Int32} {Y : Nat → va_E} (hn : 143 ≤ n) (hB : ∀ t i j, σ t i j < 2 ^ 30) (hH : ∀ c, σ 8 c 0 < 32) {q : Nat} (hq : q < 30) {k : Nat} (hk : 2 ≤ k) : xM l y_CS_usedAtFirst b_CS_usedAtFirst 3 (some FieldType.int) k D a base g n (EL a g σ w Y) [.ref (g 0), .int (nI q)] (fun r E' => E' = EL a g σ w Y ∧ r = .inl (some (.int (nI (uaf σ q))))) := by
  refine x_method (by decide) htr (Nat.le_of_ble_eq_true rfl) ?_
  intro p e s m args below meth c C hne hret hnm
  have C : xC p l e s m meth c b_CS_usedAtFirst 3 "ChunkStore" args D xcl (xty a) base := C
  refine x_aload_n C d_CS_usedAtFirst_0 rfl rfl ?_
  refine g_CS_cs_chunks C hn d_CS_usedAtFirst_1 ?_
  refine x_iload_n C d_CS_usedAtFirst_4 rfl rfl ?_
  refine e_arrC C hq hn d_CS_usedAtFirst_5 ?_
  refine g_CS_chunk_holders C hq hn d_CS_usedAtFirst_6 ?_
  refine c_CS_CS_first C (by omega) (m_CS_first htr (hH q) (Nat.le_refl _)) rfl rfl (Nat.le_of_ble_eq_true rfl) d_CS_usedAtFirst_9 (fun v E' hp => ?_) (fun X E' hp => ?_)
  · obtain ⟨rfl, hv⟩ := hp
    cases hv
    refine x_istore_n C d_CS_usedAtFirst_12 rfl (by decide) rfl ?_
    refine x_iload_n C d_CS_usedAtFirst_13 rfl rfl ?_
    refine x_iconst C (v := -1) d_CS_usedAtFirst_14 (by decide) ?_
    refine x_icmp_ne C 22 d_CS_usedAtFirst_15 (by decide) (fun h15 => ?_) (fun h15 => ?_)
    · have h15 := iv_n1 ⟨fst5_le _, by decide⟩ h15
      refine x_aload_n C d_CS_usedAtFirst_22 rfl rfl ?_
      refine g_CS_cs_servers C hn d_CS_usedAtFirst_23 ?_
      refine x_iload_n C d_CS_usedAtFirst_26 rfl rfl ?_
      refine x_topi (iv_lt h15) ?_
      refine e_arrS C h15 hn d_CS_usedAtFirst_27 ?_
      refine g_CS_server_used C h15 hn d_CS_usedAtFirst_28 ?_
      refine x_iload_n C d_CS_usedAtFirst_31 rfl rfl ?_
      refine e_used C h15 hq hn d_CS_usedAtFirst_32 ?_
      exact x_iret C hret d_CS_usedAtFirst_33 ⟨rfl, by rw [uaf, if_neg (by omega)]⟩
    · have h15 := (iv_m1 ⟨fst5_le _, by decide⟩).mp h15
      refine x_iconst C (v := nI 0) d_CS_usedAtFirst_18 (by decide) ?_
      refine x_goto C 33 d_CS_usedAtFirst_19 (by decide) ?_
      exact x_iret C hret d_CS_usedAtFirst_33 ⟨rfl, by rw [uaf, if_pos h15]⟩
  · cases hp.2
theorem m_CS_setWordAtHolders {l : Launch} (htr : xTr l) {D : va_G} {a : Nat → ClassId} {base : Nat} {g : Nat → Nat} {n : Nat} {σ : Nat → Nat → Nat → Nat} {w : Nat → Nat → Int32} {Y : Nat → va_E} (hn : 143 ≤ n) (hB : ∀ t i j, σ t i j < 2 ^ 30) (hH : ∀ c, σ 8 c 0 < 32) {q u : Nat} {v : Int32} (hq : q < 30) (hu : u < 2 ^ 30) {k : Nat} (hk : 2 ≤ k) : xM l y_CS_setWordAtHolders b_CS_setWordAtHolders 5 none k D a base g n (EL a g σ w Y) [.ref (g 0), .int (nI q), .int (nI u), .int v] (fun r E' => E' = EL a g (swL σ q u (σ 8 q 0) 5) (swLW w q u (σ 8 q 0) v 5) Y ∧ r = .inl none) := by
  refine x_method (by decide) htr (Nat.le_of_ble_eq_true rfl) ?_
  intro p e s m args below meth c C hne hret hnm
  have C : xC p l e s m meth c b_CS_setWordAtHolders 5 "ChunkStore" args D xcl (xty a) base := C
  refine x_iconst C (v := nI 0) d_CS_setWordAtHolders_0 (by decide) ?_
  refine x_istore C d_CS_setWordAtHolders_1 (by decide) rfl ?_
  refine x_loop 5 (fun i => EL a g (swL σ q u (σ 8 q 0) i) (swLW w q u (σ 8 q 0) v i) Y) (fun i => [(0, .ref (g (0))), (1, .int (nI q)), (2, .int (nI u)), (3, .int v), (4, .int (nI i))]) (fun i => True) rfl ⟨rfl, rfl, rfl, rfl, rfl, trivial⟩ trivial ?_
  intro i hi hIi ihi
  refine x_iload C d_CS_setWordAtHolders_3 rfl ?_
  refine x_iconst C (v := nI 5) d_CS_setWordAtHolders_5 (by decide) ?_
  refine xn_icmp_ge C (by omega) (by decide) 45 d_CS_setWordAtHolders_6 (by decide) (fun h6 => ?_) (fun h6 => ?_)
  · exact x_vret C hret d_CS_setWordAtHolders_45 ⟨by rw [show i = 5 by omega], rfl⟩
  · refine x_aload_n C d_CS_setWordAtHolders_9 rfl rfl ?_
    refine g_CS_cs_chunks C hn d_CS_setWordAtHolders_10 ?_
    refine x_iload_n C d_CS_setWordAtHolders_13 rfl rfl ?_
    refine e_arrC C hq hn d_CS_setWordAtHolders_14 ?_
    refine g_CS_chunk_holders C hq hn d_CS_setWordAtHolders_15 ?_
    refine x_iload C d_CS_setWordAtHolders_18 rfl ?_
    refine c_CS_CS_isIn C (by omega) (m_CS_isIn htr (by rw [swL_o _ (by decide)]; exact hH q) (by omega) (Nat.le_refl _)) rfl rfl (Nat.le_of_ble_eq_true rfl) d_CS_setWordAtHolders_20 (fun v E' hp => ?_) (fun X E' hp => ?_)
    · obtain ⟨rfl, hv⟩ := hp
      cases hv
      refine xn_if_eq C (b01_lt _) 39 d_CS_setWordAtHolders_23 (by decide) (fun h23 => ?_) (fun h23 => ?_)
      · rw [b01_0] at h23
        refine x_lv [(0, .ref (g (0))), (1, .int (nI q)), (2, .int (nI u)), (3, .int v), (4, .int (nI i))] ⟨rfl, rfl, rfl, rfl, rfl, trivial⟩ ?_
        refine xn_iinc C d_CS_setWordAtHolders_39 4 rfl (by decide) rfl ?_
        refine x_goto C 3 d_CS_setWordAtHolders_42 (by decide) ?_
        refine x_E (E' := EL a g (swL σ q u (σ 8 q 0) (i + 1)) (swLW w q u (σ 8 q 0) v (i + 1)) Y) (by rw [swL_o _ (by decide)] at h23; rw [swL, swLW, if_neg (by simp [h23]), if_neg (by simp [h23])]) ?_
        exact x_lv [(0, .ref (g (0))), (1, .int (nI q)), (2, .int (nI u)), (3, .int v), (4, .int (nI (i + 1)))] ⟨rfl, rfl, rfl, rfl, rfl, trivial⟩ (ihi (by omega) trivial)
      · rw [b01_n0] at h23
        refine x_aload_n C d_CS_setWordAtHolders_26 rfl rfl ?_
        refine g_CS_cs_servers C hn d_CS_setWordAtHolders_27 ?_
        refine x_iload C d_CS_setWordAtHolders_30 rfl ?_
        refine e_arrS C (by omega) hn d_CS_setWordAtHolders_32 ?_
        refine x_iload_n C d_CS_setWordAtHolders_33 rfl rfl ?_
        refine x_iload_n C d_CS_setWordAtHolders_34 rfl rfl ?_
        refine x_iload_n C d_CS_setWordAtHolders_35 rfl rfl ?_
        refine c_CS_SV_setWord C (by omega) (by omega) hn (m_SV_setWord htr hn (swL_B i hB) (by omega) hq hu (Nat.le_refl _)) rfl rfl (Nat.le_of_ble_eq_true rfl) d_CS_setWordAtHolders_36 (fun v E' hp => ?_) (fun X E' hp => ?_)
        · obtain ⟨rfl, hv⟩ := hp
          cases hv
          refine x_lv [(0, .ref (g (0))), (1, .int (nI q)), (2, .int (nI u)), (3, .int v), (4, .int (nI i))] ⟨rfl, rfl, rfl, rfl, rfl, trivial⟩ ?_
          refine xn_iinc C d_CS_setWordAtHolders_39 4 rfl (by decide) rfl ?_
          refine x_goto C 3 d_CS_setWordAtHolders_42 (by decide) ?_
          refine x_E (E' := EL a g (swL σ q u (σ 8 q 0) (i + 1)) (swLW w q u (σ 8 q 0) v (i + 1)) Y) (by rw [swL_o _ (by decide)] at h23; rw [swL, swLW, if_pos h23, if_pos h23]) ?_
          exact x_lv [(0, .ref (g (0))), (1, .int (nI q)), (2, .int (nI u)), (3, .int v), (4, .int (nI (i + 1)))] ⟨rfl, rfl, rfl, rfl, rfl, trivial⟩ (ihi (by omega) trivial)
        · cases hp.2
    · cases hp.2
theorem m_CS_mostInNeed {l : Launch} (htr : xTr l) {D : va_G} {a : Nat → ClassId} {base : Nat} {g : Nat → Nat} {n : Nat} {σ : Nat → Nat → Nat → Nat} {w : Nat → Nat → Int32} {Y : Nat → va_E} (hn : 143 ≤ n) (hB : ∀ t i j, σ t i j < 2 ^ 30) (hH : ∀ c, σ 8 c 0 < 32) (hm : σ 0 0 0 ≤ 30) {k : Nat} (hk : 2 ≤ k) : xM l y_CS_mostInNeed b_CS_mostInNeed 6 (some FieldType.int) k D a base g n (EL a g σ w Y) [.ref (g 0)] (fun r E' => E' = EL a g σ w Y ∧ r = .inl (some (.int (iv 30 (nd σ (σ 0 0 0)).1)))) := by
  refine x_method (by decide) htr (Nat.le_of_ble_eq_true rfl) ?_
  intro p e s m args below meth c C hne hret hnm
  have C : xC p l e s m meth c b_CS_mostInNeed 6 "ChunkStore" args D xcl (xty a) base := C
  refine x_iconst C (v := -1) d_CS_mostInNeed_0 (by decide) ?_
  refine x_istore_n C d_CS_mostInNeed_1 rfl (by decide) rfl ?_
  refine x_iconst C (v := nI 3) d_CS_mostInNeed_2 (by decide) ?_
  refine x_istore_n C d_CS_mostInNeed_3 rfl (by decide) rfl ?_
  refine x_iconst C (v := nI 0) d_CS_mostInNeed_4 (by decide) ?_
  refine x_istore_n C d_CS_mostInNeed_5 rfl (by decide) rfl ?_
  refine x_loop (σ 0 0 0) (fun i => EL a g σ w Y) (fun i => [(0, .ref (g (0))), (1, .int (iv 30 ((nd σ i).1))), (2, .int (nI ((nd σ i).2))), (3, .int (nI i))]) (fun i => True) rfl ⟨rfl, rfl, rfl, rfl, trivial⟩ trivial ?_
  intro i hi hIi ihi
  refine x_iload_n C d_CS_mostInNeed_6 rfl rfl ?_
  refine x_aload_n C d_CS_mostInNeed_7 rfl rfl ?_
  refine g_CS_cs_made C hn d_CS_mostInNeed_8 ?_
  refine xn_icmp_ge C (by omega) (Nat.lt_trans (hB 0 0 0) (by decide)) 81 d_CS_mostInNeed_11 (by decide) (fun h11 => ?_) (fun h11 => ?_)
  · refine x_iload_n C d_CS_mostInNeed_81 rfl rfl ?_
    exact x_iret C hret d_CS_mostInNeed_82 ⟨rfl, by rw [show i = σ 0 0 0 by omega]⟩
  · refine x_aload_n C d_CS_mostInNeed_14 rfl rfl ?_
    refine x_iload_n C d_CS_mostInNeed_15 rfl rfl ?_
    refine c_CS_CS_liveHolders C (by omega) hn (m_CS_liveHolders htr hn hB hH (by omega) (Nat.le_refl _)) rfl rfl (Nat.le_of_ble_eq_true rfl) d_CS_mostInNeed_16 (fun v E' hp => ?_) (fun X E' hp => ?_)
    · obtain ⟨rfl, hv⟩ := hp
      cases hv
      refine c_CS_IN_bitCount C (by omega) (m_IN_bitCount htr (lvh_lt _ _) (Nat.le_refl _)) rfl rfl (Nat.le_of_ble_eq_true rfl) d_CS_mostInNeed_19 (fun v E' hp => ?_) (fun X E' hp => ?_)
      · obtain ⟨rfl, hv⟩ := hp
        cases hv
        refine x_istore C d_CS_mostInNeed_22 (by decide) rfl ?_
        refine x_aload_n C d_CS_mostInNeed_24 rfl rfl ?_
        refine g_CS_cs_chunks C hn d_CS_mostInNeed_25 ?_
        refine x_iload_n C d_CS_mostInNeed_28 rfl rfl ?_
        refine e_arrC C (by omega) hn d_CS_mostInNeed_29 ?_
        refine g_CS_chunk_refs C (by omega) hn d_CS_mostInNeed_30 ?_
        refine xn_if_le C (Nat.lt_trans (hB 7 i 0) (by decide)) 52 d_CS_mostInNeed_33 (by decide) (fun h33 => ?_) (fun h33 => ?_)
        · refine x_iconst C (v := nI 0) d_CS_mostInNeed_52 (by decide) ?_
          refine x_istore C d_CS_mostInNeed_53 (by decide) rfl ?_
          refine x_iload C d_CS_mostInNeed_55 rfl ?_
          refine xn_if_eq C (by decide) 75 d_CS_mostInNeed_57 (by decide) (fun h57 => ?_) (fun h57 => ?_)
          · refine x_lv [(0, .ref (g (0))), (1, .int (iv 30 ((nd σ i).1))), (2, .int (nI ((nd σ i).2))), (3, .int (nI i)), (4, .int (nI (pop5 (lvh σ i)))), (5, .int (nI 0))] ⟨rfl, rfl, rfl, rfl, rfl, rfl, trivial⟩ ?_
            refine xn_iinc C d_CS_mostInNeed_75 3 rfl (by decide) rfl ?_
            refine x_goto C 6 d_CS_mostInNeed_78 (by decide) ?_
            have e : nd σ (i + 1) = nd σ i := by rw [nd]; rw [if_neg (by omega)]
            exact x_lv [(0, .ref (g (0))), (1, .int (iv 30 ((nd σ (i + 1)).1))), (2, .int (nI ((nd σ (i + 1)).2))), (3, .int (nI (i + 1)))] ⟨rfl, by rw [e]; rfl, by rw [e]; rfl, rfl, trivial⟩ (ihi (by omega) trivial)
          · exact absurd h57 (by decide)
        · refine x_iload C d_CS_mostInNeed_36 rfl ?_
          refine x_iconst C (v := nI 1) d_CS_mostInNeed_38 (by decide) ?_
          refine xn_icmp_lt C (Nat.lt_of_le_of_lt (pop5_le _) (by decide)) (by decide) 52 d_CS_mostInNeed_39 (by decide) (fun h39 => ?_) (fun h39 => ?_)
          · refine x_iconst C (v := nI 0) d_CS_mostInNeed_52 (by decide) ?_
            refine x_istore C d_CS_mostInNeed_53 (by decide) rfl ?_
            refine x_iload C d_CS_mostInNeed_55 rfl ?_
            refine xn_if_eq C (by decide) 75 d_CS_mostInNeed_57 (by decide) (fun h57 => ?_) (fun h57 => ?_)
            · refine x_lv [(0, .ref (g (0))), (1, .int (iv 30 ((nd σ i).1))), (2, .int (nI ((nd σ i).2))), (3, .int (nI i)), (4, .int (nI (pop5 (lvh σ i)))), (5, .int (nI 0))] ⟨rfl, rfl, rfl, rfl, rfl, rfl, trivial⟩ ?_
              refine xn_iinc C d_CS_mostInNeed_75 3 rfl (by decide) rfl ?_
              refine x_goto C 6 d_CS_mostInNeed_78 (by decide) ?_
              have e : nd σ (i + 1) = nd σ i := by rw [nd]; rw [if_neg (by omega)]
              exact x_lv [(0, .ref (g (0))), (1, .int (iv 30 ((nd σ (i + 1)).1))), (2, .int (nI ((nd σ (i + 1)).2))), (3, .int (nI (i + 1)))] ⟨rfl, by rw [e]; rfl, by rw [e]; rfl, rfl, trivial⟩ (ihi (by omega) trivial)
            · exact absurd h57 (by decide)
          · refine x_iload C d_CS_mostInNeed_42 rfl ?_
            refine x_iload_n C d_CS_mostInNeed_44 rfl rfl ?_
            refine xn_icmp_ge C (Nat.lt_of_le_of_lt (pop5_le _) (by decide)) (by have := (nd_le (σ := σ) i (by omega)).2; omega) 52 d_CS_mostInNeed_45 (by decide) (fun h45 => ?_) (fun h45 => ?_)
            · refine x_iconst C (v := nI 0) d_CS_mostInNeed_52 (by decide) ?_
              refine x_istore C d_CS_mostInNeed_53 (by decide) rfl ?_
              refine x_iload C d_CS_mostInNeed_55 rfl ?_
              refine xn_if_eq C (by decide) 75 d_CS_mostInNeed_57 (by decide) (fun h57 => ?_) (fun h57 => ?_)
              · refine x_lv [(0, .ref (g (0))), (1, .int (iv 30 ((nd σ i).1))), (2, .int (nI ((nd σ i).2))), (3, .int (nI i)), (4, .int (nI (pop5 (lvh σ i)))), (5, .int (nI 0))] ⟨rfl, rfl, rfl, rfl, rfl, rfl, trivial⟩ ?_
                refine xn_iinc C d_CS_mostInNeed_75 3 rfl (by decide) rfl ?_
                refine x_goto C 6 d_CS_mostInNeed_78 (by decide) ?_
                have e : nd σ (i + 1) = nd σ i := by rw [nd]; rw [if_neg (by omega)]
                exact x_lv [(0, .ref (g (0))), (1, .int (iv 30 ((nd σ (i + 1)).1))), (2, .int (nI ((nd σ (i + 1)).2))), (3, .int (nI (i + 1)))] ⟨rfl, by rw [e]; rfl, by rw [e]; rfl, rfl, trivial⟩ (ihi (by omega) trivial)
              · exact absurd h57 (by decide)
            · refine x_iconst C (v := nI 1) d_CS_mostInNeed_48 (by decide) ?_
              refine x_goto C 53 d_CS_mostInNeed_49 (by decide) ?_
              refine x_istore C d_CS_mostInNeed_53 (by decide) rfl ?_
              refine x_iload C d_CS_mostInNeed_55 rfl ?_
              refine xn_if_eq C (by decide) 75 d_CS_mostInNeed_57 (by decide) (fun h57 => ?_) (fun h57 => ?_)
              · exact absurd h57 (by decide)
              · refine x_aload_n C d_CS_mostInNeed_60 rfl rfl ?_
                refine x_iload_n C d_CS_mostInNeed_61 rfl rfl ?_
                refine x_iconst C (v := nI 0) d_CS_mostInNeed_62 (by decide) ?_
                refine c_CS_CS_lightest C (by omega) hn (m_CS_lightest htr hn hB (by omega) (by decide) (Nat.le_refl _)) rfl rfl (Nat.le_of_ble_eq_true rfl) d_CS_mostInNeed_63 (fun v E' hp => ?_) (fun X E' hp => ?_)
                · obtain ⟨rfl, hv⟩ := hp
                  cases hv
                  refine x_iconst C (v := -1) d_CS_mostInNeed_66 (by decide) ?_
                  refine x_icmp_eq C 75 d_CS_mostInNeed_67 (by decide) (fun h67 => ?_) (fun h67 => ?_)
                  · have h67 := (iv_m1 ⟨bst_le _ _ _, by decide⟩).mp h67
                    refine x_lv [(0, .ref (g (0))), (1, .int (iv 30 ((nd σ i).1))), (2, .int (nI ((nd σ i).2))), (3, .int (nI i)), (4, .int (nI (pop5 (lvh σ i)))), (5, .int (nI 1))] ⟨rfl, rfl, rfl, rfl, rfl, rfl, trivial⟩ ?_
                    refine xn_iinc C d_CS_mostInNeed_75 3 rfl (by decide) rfl ?_
                    refine x_goto C 6 d_CS_mostInNeed_78 (by decide) ?_
                    have e : nd σ (i + 1) = nd σ i := by rw [nd]; rw [if_neg (by omega)]
                    exact x_lv [(0, .ref (g (0))), (1, .int (iv 30 ((nd σ (i + 1)).1))), (2, .int (nI ((nd σ (i + 1)).2))), (3, .int (nI (i + 1)))] ⟨rfl, by rw [e]; rfl, by rw [e]; rfl, rfl, trivial⟩ (ihi (by omega) trivial)
                  · have h67 := iv_n1 ⟨bst_le _ _ _, by decide⟩ h67
                    refine x_iload_n C d_CS_mostInNeed_70 rfl rfl ?_
                    refine x_istore_n C d_CS_mostInNeed_71 rfl (by decide) rfl ?_
                    refine x_iload C d_CS_mostInNeed_72 rfl ?_
                    refine x_istore_n C d_CS_mostInNeed_74 rfl (by decide) rfl ?_
                    refine x_lv [(0, .ref (g (0))), (1, .int (nI i)), (2, .int (nI (pop5 (lvh σ i)))), (3, .int (nI i)), (4, .int (nI (pop5 (lvh σ i)))), (5, .int (nI 1))] ⟨rfl, rfl, rfl, rfl, rfl, rfl, trivial⟩ ?_
                    refine xn_iinc C d_CS_mostInNeed_75 3 rfl (by decide) rfl ?_
                    refine x_goto C 6 d_CS_mostInNeed_78 (by decide) ?_
                    have e : nd σ (i + 1) = (i, pop5 (lvh σ i)) := by rw [nd]; rw [if_pos (by omega)]
                    exact x_lv [(0, .ref (g (0))), (1, .int (iv 30 ((nd σ (i + 1)).1))), (2, .int (nI ((nd σ (i + 1)).2))), (3, .int (nI (i + 1)))] ⟨rfl, by rw [e]; rw [iv_lt (show i < 30 by omega)]; rfl, by rw [e]; rfl, rfl, trivial⟩ (ihi (by omega) trivial)
                · cases hp.2
      · cases hp.2
    · cases hp.2
end XM4
end
section
section XM5
/-- find: 0, or which throw -/
def fdC (σ : xSig) (f q : Nat) : Nat := if σ 2 f 0 = 1 then (if q < σ 3 f 0 then 0 else 3) else 2
def fdX (k : Nat) : String := if k = 2 then e_NS else e_IO
def fdS (σ : xSig) (K f q : Nat) : xSig := if σ 1 0 0 < σ 17 K 0 then σ else up3 (up3 (up3 (up3 σ 14 K 0 (σ 4 f q)) 15 K 0 (σ 6 (σ 4 f q) 0)) 16 K 0 (σ 8 (σ 4 f q) 0)) 17 K 0 (σ 1 0 0 + 40)
/-- makeChunk -/
def mkC (σ : xSig) (f : Nat) : Nat := if 30 ≤ σ 0 0 0 ∨ 3 ≤ σ 3 f 0 then 1 else if cho σ (σ 0 0 0) 3 = 0 then 2 else 0
def mkX (k : Nat) : String := if k = 1 then e_IO else e_IS
def mkS (σ : xSig) (f : Nat) : xSig := up3 (up3 (addE (scS σ (cho σ (σ 0 0 0) 3)) (cho σ (σ 0 0 0) 3) (σ 0 0 0) 5) 4 f (σ 3 f 0) (σ 0 0 0)) 3 f 0 (σ 3 f 0 + 1)
/-- splitOff -/
def spC (σ : xSig) (h : Nat) : Nat := if 30 ≤ σ 0 0 0 then 5 else if anyF σ h = true then 4 else 0
def xcW (k : Nat) : String := if k = 1 then e_IA else if k = 2 then e_NS else if k = 3 then e_IS else if k = 4 then e_UO else e_IO
def spS (σ : xSig) (f q h : Nat) : xSig := up3 (up3 (spL (scS σ h) h (σ 0 0 0) (σ 4 f q) 5) 7 (σ 4 f q) 0 (σ 7 (σ 4 f q) 0 - 1)) 4 f q (σ 0 0 0)
theorem scS_o {σ : xSig} {h t i j : Nat} (ht : ¬ t = 0 ∧ ¬ t = 6 ∧ ¬ t = 7 ∧ ¬ t = 8) : scS σ h t i j = σ t i j := by unfold scS; rw [up3_n ht.1, up3_n ht.2.2.2, up3_n ht.2.2.1, up3_n ht.2.1]
theorem scS_7 {σ : xSig} {h c : Nat} (hc : ¬ c = σ 0 0 0) : scS σ h 7 c 0 = σ 7 c 0 := by unfold scS; rw [up3_n (by decide), up3_n (by decide)]; unfold up3; rw [if_neg (fun q => hc q.2.1), if_neg (fun q => absurd q.1 (by decide))]
/-- lease -/
def lsK (σ : xSig) (c : Nat) : Bool := decide (σ 1 0 0 < σ 9 c 0 ∧ lvh σ c = σ 8 c 0)
def lsC (σ : xSig) (c : Nat) : Nat := if lsK σ c = true then 0 else if lvh σ c = 0 then 3 else if 2 ≤ σ 7 c 0 then spC σ (lvh σ c) else 0
def lsN (σ : xSig) (c : Nat) : Nat := if lsK σ c = true then c else if 2 ≤ σ 7 c 0 then σ 0 0 0 else c
def lsS (σ : xSig) (f q : Nat) : xSig := if lsK σ (σ 4 f q) = true then σ else if 2 ≤ σ 7 (σ 4 f q) 0 then up3 (spS σ f q (lvh σ (σ 4 f q))) 9 (σ 0 0 0) 0 (σ 1 0 0 + 80) else up3 (rvS σ (σ 4 f q) (lvh σ (σ 4 f q))) 9 (σ 4 f q) 0 (σ 1 0 0 + 80)
def lsW (σ : xSig) (w : xWrd) (c : Nat) : xWrd := if lsK σ c = true then w else if 2 ≤ σ 7 c 0 then spW w (lvh σ c) (σ 0 0 0) c 5 else w
theorem m_CS_find {l : Launch} (htr : xTr l) {D : va_G} {a : Nat → ClassId} {base : Nat} {g : Nat → Nat} {n : Nat} {σ : Nat → Nat → Nat → Nat} {w : Nat → Nat → Int32} {Y : Nat → va_E} (hn : 143 ≤ n) (hB : ∀ t i j, σ t i j < 2 ^ 30) {cl f q : Nat} (hc : cl < 3) (hf : f < 8) (hq : q < 3) (hr : q < σ 3 f 0 → σ 4 f q < 30) {k : Nat} (hk : 1 ≤ k) : xM l y_CS_find b_CS_find 7 (some (FieldType.object "ChunkStore$Kept")) k D a base g n (EL a g σ w Y) [.ref (g 0), .int (nI cl), .int (nI f), .int (nI q)] (fun r E' => E' = EL a g (if fdC σ f q = 0 then fdS σ ((cl * 8 + f) * 3 + q) f q else σ) w Y ∧ r = if fdC σ f q = 0 then .inl (some (.ref (g (71 + ((cl * 8 + f) * 3 + q))))) else .inr (fdX (fdC σ f q))) := by
  refine x_method (by decide) htr (Nat.le_of_ble_eq_true rfl) ?_
  intro p e s m args below meth c C hne hret hnm
  have C : xC p l e s m meth c b_CS_find 7 "ChunkStore" args D xcl (xty a) base := C
  refine x_aload_n C d_CS_find_0 rfl rfl ?_
  refine x_iload_n C d_CS_find_1 rfl rfl ?_
  refine c_CS_CS_fileThere C (by omega) hn (m_CS_fileThere htr hn hB hf (Nat.le_refl _)) rfl rfl (Nat.le_of_ble_eq_true rfl) d_CS_find_2 (fun v E' hp => ?_) (fun X E' hp => ?_)
  · obtain ⟨rfl, hv⟩ := hp
    obtain ⟨h2, rfl⟩ := rif_l hv
    refine x_astore C d_CS_find_5 (by decide) rfl ?_
    refine x_aload C d_CS_find_7 rfl ?_
    refine x_iload_n C d_CS_find_9 rfl rfl ?_
    refine c_CS_CS_checkPlace C (by omega) (m_CS_checkPlace htr hn hB hf (by omega) (Nat.le_refl _)) rfl rfl (Nat.le_of_ble_eq_true rfl) d_CS_find_10 (fun v E' hp => ?_) (fun X E' hp => ?_)
    · obtain ⟨rfl, hv⟩ := hp
      obtain ⟨h10, rfl⟩ := rif_l hv
      refine x_aload_n C d_CS_find_13 rfl rfl ?_
      refine g_CS_cs_keeps C hn d_CS_find_14 ?_
      refine x_iload_n C d_CS_find_17 rfl rfl ?_
      refine x_bipush C (v := nI 8) d_CS_find_18 (by decide) ?_
      refine xn_imul C d_CS_find_20 ?_
      refine x_iload_n C d_CS_find_21 rfl rfl ?_
      refine xn_iadd C d_CS_find_22 ?_
      refine x_iconst C (v := nI 3) d_CS_find_23 (by decide) ?_
      refine xn_imul C d_CS_find_24 ?_
      refine x_iload_n C d_CS_find_25 rfl rfl ?_
      refine xn_iadd C d_CS_find_26 ?_
      refine e_arrK C (by omega) hn d_CS_find_27 ?_
      refine x_astore C d_CS_find_28 (by decide) rfl ?_
      refine x_aload C d_CS_find_30 rfl ?_
      refine g_CS_kept_end C (by omega) hn d_CS_find_32 ?_
      refine x_aload_n C d_CS_find_35 rfl rfl ?_
      refine g_CS_cs_time C hn d_CS_find_36 ?_
      refine xn_dcmp C (Nat.lt_trans (hB 17 ((((cl * 8) + f) * 3) + q) 0) (by decide)) (Nat.lt_trans (hB 1 0 0) (by decide)) d_CS_find_39 ?_
      refine x_if_gt C 102 d_CS_find_40 (by decide) (fun h40 => ?_) (fun h40 => ?_)
      · have h40 := cmpI_gt h40
        refine x_aload C d_CS_find_102 rfl ?_
        exact x_aret C hret (Or.inl ⟨_, rfl⟩) d_CS_find_104 ⟨by rw [fdC, if_pos h2, if_pos h10, if_pos rfl, fdS, if_pos h40], by rw [fdC, if_pos h2, if_pos h10, if_pos rfl]⟩
      · have h40 := cmpI_ngt h40
        refine x_aload_n C d_CS_find_43 rfl rfl ?_
        refine g_CS_cs_chunks C hn d_CS_find_44 ?_
        refine x_aload C d_CS_find_47 rfl ?_
        refine g_CS_file_row C hf hn d_CS_find_49 ?_
        refine x_iload_n C d_CS_find_52 rfl rfl ?_
        refine e_row C hf hq hn d_CS_find_53 ?_
        refine e_arrC C (hr h10) hn d_CS_find_54 ?_
        refine x_astore C d_CS_find_55 (by decide) rfl ?_
        refine x_aload C d_CS_find_57 rfl ?_
        refine x_aload C d_CS_find_59 rfl ?_
        refine g_CS_file_row C hf hn d_CS_find_61 ?_
        refine x_iload_n C d_CS_find_64 rfl rfl ?_
        refine e_row C hf hq hn d_CS_find_65 ?_
        refine p_CS_kept_number C (by omega) hn d_CS_find_66 ?_
        refine x_aload C d_CS_find_69 rfl ?_
        refine x_aload C d_CS_find_71 rfl ?_
        refine g_CS_chunk_version C (hr h10) hn d_CS_find_73 ?_
        refine p_CS_kept_version C (by omega) hn d_CS_find_76 ?_
        refine x_aload C d_CS_find_79 rfl ?_
        refine x_aload C d_CS_find_81 rfl ?_
        refine g_CS_chunk_holders C (hr h10) hn d_CS_find_83 ?_
        refine p_CS_kept_holders C (by omega) hn d_CS_find_86 ?_
        refine x_aload C d_CS_find_89 rfl ?_
        refine x_aload_n C d_CS_find_91 rfl rfl ?_
        refine g_CS_cs_time C hn d_CS_find_92 ?_
        refine x_ldc2d C kw369 d_CS_find_95 ?_
        refine x_topd (show _ = dT 40 from dT_40i.symm) ?_
        refine xn_dadd C (by simp only [up3_n (show ¬ 1 = 14 by decide), up3_n (show ¬ 1 = 15 by decide), up3_n (show ¬ 1 = 16 by decide)]; have := hB 1 0 0; omega) d_CS_find_98 ?_
        refine p_CS_kept_end C (by omega) hn d_CS_find_99 ?_
        refine x_aload C d_CS_find_102 rfl ?_
        exact x_aret C hret (Or.inl ⟨_, rfl⟩) d_CS_find_104 ⟨by rw [fdC, if_pos h2, if_pos h10, if_pos rfl, fdS, if_neg (by omega)]; congr 1, by rw [fdC, if_pos h2, if_pos h10, if_pos rfl]⟩
    · obtain ⟨rfl, hv⟩ := hp
      obtain ⟨h10, rfl⟩ := rif_r hv
      exact x_prop C hne (Nat.le_refl _) (Nat.le_refl _) ⟨by rw [fdC, if_pos h2, if_neg h10, if_neg (by decide)], by rw [fdC, if_pos h2, if_neg h10]; rfl⟩
  · obtain ⟨rfl, hv⟩ := hp
    obtain ⟨h2, rfl⟩ := rif_r hv
    exact x_prop C hne (Nat.le_refl _) (Nat.le_refl _) ⟨by rw [fdC, if_neg h2, if_neg (by decide)], by rw [fdC, if_neg h2]; rfl⟩
theorem m_CS_makeChunk {l : Launch} (htr : xTr l) {D : va_G} {a : Nat → ClassId} {base : Nat} {g : Nat → Nat} {n : Nat} {σ : Nat → Nat → Nat → Nat} {w : Nat → Nat → Int32} {Y : Nat → va_E} (hn : 143 ≤ n) (hB : ∀ t i j, σ t i j < 2 ^ 30) (hH : ∀ c, σ 8 c 0 < 32) (hS : ∀ i, σ 11 i 0 < 2 ^ 29) {f : Nat} (hf : f < 8) {k : Nat} (hk : 3 ≤ k) : xM l y_CS_makeChunk b_CS_makeChunk 5 (some FieldType.int) k D a base g n (EL a g σ w Y) [.ref (g 0), .ref (g (2 + 2 * f))] (fun r E' => E' = EL a g (if mkC σ f = 0 then mkS σ f else σ) w Y ∧ r = if mkC σ f = 0 then .inl (some (.int (nI (σ 0 0 0)))) else .inr (mkX (mkC σ f))) := by
  refine x_method (by decide) htr (Nat.le_of_ble_eq_true rfl) ?_
  intro p e s m args below meth c C hne hret hnm
  have C : xC p l e s m meth c b_CS_makeChunk 5 "ChunkStore" args D xcl (xty a) base := C
  refine x_aload_n C d_CS_makeChunk_0 rfl rfl ?_
  refine g_CS_cs_made C hn d_CS_makeChunk_1 ?_
  refine x_bipush C (v := nI 30) d_CS_makeChunk_4 (by decide) ?_
  refine xn_icmp_ge C (Nat.lt_trans (hB 0 0 0) (by decide)) (by decide) 17 d_CS_makeChunk_6 (by decide) (fun h6 => ?_) (fun h6 => ?_)
  · exact th_IO C hne (Nat.le_of_ble_eq_true rfl) d_CS_makeChunk_17 d_CS_makeChunk_20 d_CS_makeChunk_21 d_CS_makeChunk_23 d_CS_makeChunk_26 (tx := "no chunk can be made for the row") (by decide) ⟨by rw [show mkC σ f = 1 by rw [mkC, if_pos (by omega)], if_neg (by decide)], by rw [show mkC σ f = 1 by rw [mkC, if_pos (by omega)]]; rfl⟩
  · refine x_aload_n C d_CS_makeChunk_9 rfl rfl ?_
    refine g_CS_file_count C hf hn d_CS_makeChunk_10 ?_
    refine x_iconst C (v := nI 3) d_CS_makeChunk_13 (by decide) ?_
    refine xn_icmp_lt C (Nat.lt_trans (hB 3 f 0) (by decide)) (by decide) 27 d_CS_makeChunk_14 (by decide) (fun h14 => ?_) (fun h14 => ?_)
    · have hm : σ 0 0 0 < 30 := by omega
      refine x_aload_n C d_CS_makeChunk_27 rfl rfl ?_
      refine g_CS_cs_made C hn d_CS_makeChunk_28 ?_
      refine x_istore_n C d_CS_makeChunk_31 rfl (by decide) rfl ?_
      refine x_aload_n C d_CS_makeChunk_32 rfl rfl ?_
      refine x_iload_n C d_CS_makeChunk_33 rfl rfl ?_
      refine x_iconst C (v := nI 3) d_CS_makeChunk_34 (by decide) ?_
      refine c_CS_CS_choose C (by omega) hn (m_CS_choose htr hn hB hm (Nat.le_refl _)) rfl rfl (Nat.le_of_ble_eq_true rfl) d_CS_makeChunk_35 (fun v E' hp => ?_) (fun X E' hp => ?_)
      · obtain ⟨rfl, hv⟩ := hp
        cases hv
        refine x_istore_n C d_CS_makeChunk_38 rfl (by decide) rfl ?_
        refine x_iload_n C d_CS_makeChunk_39 rfl rfl ?_
        refine xn_if_ne C (Nat.lt_trans (cho_lt _ _ _) (by decide)) 53 d_CS_makeChunk_40 (by decide) (fun h40 => ?_) (fun h40 => ?_)
        · refine x_aload_n C d_CS_makeChunk_53 rfl rfl ?_
          refine x_iload_n C d_CS_makeChunk_54 rfl rfl ?_
          refine c_CS_CS_startChunk C (by omega) hn (m_CS_startChunk htr hn hB hm (Nat.le_refl _)) rfl rfl (Nat.le_of_ble_eq_true rfl) d_CS_makeChunk_55 (fun v E' hp => ?_) (fun X E' hp => ?_)
          · obtain ⟨rfl, hv⟩ := hp
            cases hv
            refine x_iconst C (v := nI 0) d_CS_makeChunk_58 (by decide) ?_
            refine x_istore C d_CS_makeChunk_59 (by decide) rfl ?_
            refine x_loop 5 (fun i => EL a g (addE (scS σ (cho σ (σ 0 0 0) 3)) (cho σ (σ 0 0 0) 3) (σ 0 0 0) i) w Y) (fun i => [(0, .ref (g (0))), (1, .ref (g (2 + 2 * f))), (2, .int (nI (σ 0 0 0))), (3, .int (nI (cho σ (σ 0 0 0) 3))), (4, .int (nI i))]) (fun i => True) rfl ⟨rfl, rfl, rfl, rfl, rfl, trivial⟩ trivial ?_
            intro i hi hIi ihi
            refine x_iload C d_CS_makeChunk_61 rfl ?_
            refine x_iconst C (v := nI 5) d_CS_makeChunk_63 (by decide) ?_
            refine xn_icmp_ge C (by omega) (by decide) 93 d_CS_makeChunk_64 (by decide) (fun h64 => ?_) (fun h64 => ?_)
            · refine x_aload_n C d_CS_makeChunk_93 rfl rfl ?_
              refine x_iload_n C d_CS_makeChunk_94 rfl rfl ?_
              refine c_CS_FE_addAtEnd C (by omega) hf hn (m_FE_addAtEnd htr hn (addE_B (scS_B hB hm (cho_lt _ _ _)) (fun i => by rw [scS_o (by decide)]; exact hS i)) hf (Nat.lt_trans (hB 0 0 0) (by decide)) (Nat.le_refl _)) rfl rfl (Nat.le_of_ble_eq_true rfl) d_CS_makeChunk_95 (fun v E' hp => ?_) (fun X E' hp => ?_)
              · obtain ⟨rfl, hv⟩ := hp
                cases hv
                refine x_iload_n C d_CS_makeChunk_98 rfl rfl ?_
                exact x_iret C hret d_CS_makeChunk_99 ⟨by rw [show mkC σ f = 0 by rw [mkC, if_neg (by omega), if_neg h40], if_pos rfl, show i = 5 by omega, mkS, addE_o (by decide), scS_o (by decide), if_pos (by omega)], by rw [show mkC σ f = 0 by rw [mkC, if_neg (by omega), if_neg h40], if_pos rfl]⟩
              · cases hp.2
            · refine x_iload_n C d_CS_makeChunk_67 rfl rfl ?_
              refine x_iload C d_CS_makeChunk_68 rfl ?_
              refine c_CS_CS_isIn C (by omega) (m_CS_isIn htr (cho_lt _ _ _) (by omega) (Nat.le_refl _)) rfl rfl (Nat.le_of_ble_eq_true rfl) d_CS_makeChunk_70 (fun v E' hp => ?_) (fun X E' hp => ?_)
              · obtain ⟨rfl, hv⟩ := hp
                cases hv
                refine xn_if_eq C (b01_lt _) 87 d_CS_makeChunk_73 (by decide) (fun h73 => ?_) (fun h73 => ?_)
                · rw [b01_0] at h73
                  refine x_lv [(0, .ref (g (0))), (1, .ref (g (2 + 2 * f))), (2, .int (nI (σ 0 0 0))), (3, .int (nI (cho σ (σ 0 0 0) 3))), (4, .int (nI i))] ⟨rfl, rfl, rfl, rfl, rfl, trivial⟩ ?_
                  refine xn_iinc C d_CS_makeChunk_87 4 rfl (by decide) rfl ?_
                  refine x_goto C 61 d_CS_makeChunk_90 (by decide) ?_
                  refine x_E (E' := EL a g (addE (scS σ (cho σ (σ 0 0 0) 3)) (cho σ (σ 0 0 0) 3) (σ 0 0 0) (i + 1)) w Y) (by rw [addE, if_neg (by simp [h73])]) ?_
                  exact x_lv [(0, .ref (g (0))), (1, .ref (g (2 + 2 * f))), (2, .int (nI (σ 0 0 0))), (3, .int (nI (cho σ (σ 0 0 0) 3))), (4, .int (nI (i + 1)))] ⟨rfl, rfl, rfl, rfl, rfl, trivial⟩ (ihi (by omega) trivial)
                · rw [b01_n0] at h73
                  refine x_aload_n C d_CS_makeChunk_76 rfl rfl ?_
                  refine g_CS_cs_servers C hn d_CS_makeChunk_77 ?_
                  refine x_iload C d_CS_makeChunk_80 rfl ?_
                  refine e_arrS C (by omega) hn d_CS_makeChunk_82 ?_
                  refine x_iload_n C d_CS_makeChunk_83 rfl rfl ?_
                  refine c_CS_SV_addEmpty C (by omega) (by omega) hn (m_SV_addEmpty htr hn (addE_B (scS_B hB hm (cho_lt _ _ _)) (fun i => by rw [scS_o (by decide)]; exact hS i)) (by omega) hm (Nat.le_refl _)) rfl rfl (Nat.le_of_ble_eq_true rfl) d_CS_makeChunk_84 (fun v E' hp => ?_) (fun X E' hp => ?_)
                  · obtain ⟨rfl, hv⟩ := hp
                    cases hv
                    refine x_lv [(0, .ref (g (0))), (1, .ref (g (2 + 2 * f))), (2, .int (nI (σ 0 0 0))), (3, .int (nI (cho σ (σ 0 0 0) 3))), (4, .int (nI i))] ⟨rfl, rfl, rfl, rfl, rfl, trivial⟩ ?_
                    refine xn_iinc C d_CS_makeChunk_87 4 rfl (by decide) rfl ?_
                    refine x_goto C 61 d_CS_makeChunk_90 (by decide) ?_
                    refine x_E (E' := EL a g (addE (scS σ (cho σ (σ 0 0 0) 3)) (cho σ (σ 0 0 0) 3) (σ 0 0 0) (i + 1)) w Y) (by rw [addE, if_pos h73]) ?_
                    exact x_lv [(0, .ref (g (0))), (1, .ref (g (2 + 2 * f))), (2, .int (nI (σ 0 0 0))), (3, .int (nI (cho σ (σ 0 0 0) 3))), (4, .int (nI (i + 1)))] ⟨rfl, rfl, rfl, rfl, rfl, trivial⟩ (ihi (by omega) trivial)
                  · cases hp.2
              · cases hp.2
          · cases hp.2
        · exact th_IS C hne (Nat.le_of_ble_eq_true rfl) d_CS_makeChunk_43 d_CS_makeChunk_46 d_CS_makeChunk_47 d_CS_makeChunk_49 d_CS_makeChunk_52 (tx := "no server can be chosen") (by decide) ⟨by rw [show mkC σ f = 2 by rw [mkC, if_neg (by omega), if_pos h40], if_neg (by decide)], by rw [show mkC σ f = 2 by rw [mkC, if_neg (by omega), if_pos h40]]; rfl⟩
      · cases hp.2
    · exact th_IO C hne (Nat.le_of_ble_eq_true rfl) d_CS_makeChunk_17 d_CS_makeChunk_20 d_CS_makeChunk_21 d_CS_makeChunk_23 d_CS_makeChunk_26 (tx := "no chunk can be made for the row") (by decide) ⟨by rw [show mkC σ f = 1 by rw [mkC, if_pos (by omega)], if_neg (by decide)], by rw [show mkC σ f = 1 by rw [mkC, if_pos (by omega)]]; rfl⟩
theorem m_CS_splitOff {l : Launch} (htr : xTr l) {D : va_G} {a : Nat → ClassId} {base : Nat} {g : Nat → Nat} {n : Nat} {σ : Nat → Nat → Nat → Nat} {w : Nat → Nat → Int32} {Y : Nat → va_E} (hn : 143 ≤ n) (hB : ∀ t i j, σ t i j < 2 ^ 30) (hH : ∀ c, σ 8 c 0 < 32) (hS : ∀ i, σ 11 i 0 < 2 ^ 29) {f q h : Nat} (hf : f < 8) (hq : q < 3) (hh : h < 32) (hc : σ 4 f q < σ 0 0 0) (hg : 1 ≤ σ 7 (σ 4 f q) 0) (hb : σ 0 0 0 ≤ 30) {k : Nat} (hk : 2 ≤ k) : xM l y_CS_splitOff b_CS_splitOff 7 (some FieldType.int) k D a base g n (EL a g σ w Y) [.ref (g 0), .ref (g (2 + 2 * f)), .int (nI q), .int (nI h)] (fun r E' => E' = EL a g (if spC σ h = 0 then spS σ f q h else σ) (if spC σ h = 0 then spW w h (σ 0 0 0) (σ 4 f q) 5 else w) Y ∧ r = if spC σ h = 0 then .inl (some (.int (nI (σ 0 0 0)))) else .inr (xcW (spC σ h))) := by
  refine x_method (by decide) htr (Nat.le_of_ble_eq_true rfl) ?_
  intro p e s m args below meth c C hne hret hnm
  have C : xC p l e s m meth c b_CS_splitOff 7 "ChunkStore" args D xcl (xty a) base := C
  refine x_aload_n C d_CS_splitOff_0 rfl rfl ?_
  refine g_CS_cs_made C hn d_CS_splitOff_1 ?_
  refine x_bipush C (v := nI 30) d_CS_splitOff_4 (by decide) ?_
  refine xn_icmp_lt C (Nat.lt_trans (hB 0 0 0) (by decide)) (by decide) 20 d_CS_splitOff_6 (by decide) (fun h6 => ?_) (fun h6 => ?_)
  · have hm : σ 0 0 0 < 30 := by omega
    refine x_aload_n C d_CS_splitOff_20 rfl rfl ?_
    refine x_iload_n C d_CS_splitOff_21 rfl rfl ?_
    refine c_CS_CS_anyFull C (by omega) hn (m_CS_anyFull htr hn hB hh (Nat.le_refl _)) rfl rfl (Nat.le_of_ble_eq_true rfl) d_CS_splitOff_22 (fun v E' hp => ?_) (fun X E' hp => ?_)
    · obtain ⟨rfl, hv⟩ := hp
      cases hv
      refine xn_if_eq C (b01_lt _) 39 d_CS_splitOff_25 (by decide) (fun h25 => ?_) (fun h25 => ?_)
      · rw [b01_0] at h25
        refine x_aload_n C d_CS_splitOff_39 rfl rfl ?_
        refine g_CS_file_row C hf hn d_CS_splitOff_40 ?_
        refine x_iload_n C d_CS_splitOff_43 rfl rfl ?_
        refine e_row C hf hq hn d_CS_splitOff_44 ?_
        refine x_istore C d_CS_splitOff_45 (by decide) rfl ?_
        refine x_aload_n C d_CS_splitOff_47 rfl rfl ?_
        refine g_CS_cs_made C hn d_CS_splitOff_48 ?_
        refine x_istore C d_CS_splitOff_51 (by decide) rfl ?_
        refine x_aload_n C d_CS_splitOff_53 rfl rfl ?_
        refine x_iload_n C d_CS_splitOff_54 rfl rfl ?_
        refine c_CS_CS_startChunk C (by omega) hn (m_CS_startChunk htr hn hB hm (Nat.le_refl _)) rfl rfl (Nat.le_of_ble_eq_true rfl) d_CS_splitOff_55 (fun v E' hp => ?_) (fun X E' hp => ?_)
        · obtain ⟨rfl, hv⟩ := hp
          cases hv
          refine x_iconst C (v := nI 0) d_CS_splitOff_58 (by decide) ?_
          refine x_istore C d_CS_splitOff_59 (by decide) rfl ?_
          refine x_loop 5 (fun i => EL a g (spL (scS σ h) h (σ 0 0 0) (σ 4 f q) i) (spW w h (σ 0 0 0) (σ 4 f q) i) Y) (fun i => [(0, .ref (g (0))), (1, .ref (g (2 + 2 * f))), (2, .int (nI q)), (3, .int (nI h)), (4, .int (nI (σ 4 f q))), (5, .int (nI (σ 0 0 0))), (6, .int (nI i))]) (fun i => True) rfl ⟨rfl, rfl, rfl, rfl, rfl, rfl, rfl, trivial⟩ trivial ?_
          intro i hi hIi ihi
          refine x_iload C d_CS_splitOff_61 rfl ?_
          refine x_iconst C (v := nI 5) d_CS_splitOff_63 (by decide) ?_
          refine xn_icmp_ge C (by omega) (by decide) 104 d_CS_splitOff_64 (by decide) (fun h64 => ?_) (fun h64 => ?_)
          · refine x_aload_n C d_CS_splitOff_104 rfl rfl ?_
            refine g_CS_cs_chunks C hn d_CS_splitOff_105 ?_
            refine x_iload C d_CS_splitOff_108 rfl ?_
            refine e_arrC C (by omega) hn d_CS_splitOff_110 ?_
            refine x_dup C d_CS_splitOff_111 rfl ?_
            refine g_CS_chunk_refs C (by omega) hn d_CS_splitOff_112 ?_
            refine x_iconst C (v := nI 1) d_CS_splitOff_115 (by decide) ?_
            refine xn_isub C (by rw [spL_o _ (by decide), scS_7 (show ¬ σ 4 f q = σ 0 0 0 by omega)]; exact hg) d_CS_splitOff_116 ?_
            refine p_CS_chunk_refs C (by omega) hn d_CS_splitOff_117 ?_
            refine x_aload_n C d_CS_splitOff_120 rfl rfl ?_
            refine g_CS_file_row C hf hn d_CS_splitOff_121 ?_
            refine x_iload_n C d_CS_splitOff_124 rfl rfl ?_
            refine x_iload C d_CS_splitOff_125 rfl ?_
            refine a_row C hf hq hn d_CS_splitOff_127 ?_
            refine x_iload C d_CS_splitOff_128 rfl ?_
            exact x_iret C hret d_CS_splitOff_130 ⟨by rw [show spC σ h = 0 by rw [spC, if_neg (by omega), if_neg (by simp [h25])], if_pos rfl, if_pos rfl, show i = 5 by omega, spS, spL_o _ (by decide), scS_7 (show ¬ σ 4 f q = σ 0 0 0 by omega)], by rw [show spC σ h = 0 by rw [spC, if_neg (by omega), if_neg (by simp [h25])], if_pos rfl]⟩
          · refine x_iload_n C d_CS_splitOff_67 rfl rfl ?_
            refine x_iload C d_CS_splitOff_68 rfl ?_
            refine c_CS_CS_isIn C (by omega) (m_CS_isIn htr hh (by omega) (Nat.le_refl _)) rfl rfl (Nat.le_of_ble_eq_true rfl) d_CS_splitOff_70 (fun v E' hp => ?_) (fun X E' hp => ?_)
            · obtain ⟨rfl, hv⟩ := hp
              cases hv
              refine xn_if_eq C (b01_lt _) 98 d_CS_splitOff_73 (by decide) (fun h73 => ?_) (fun h73 => ?_)
              · rw [b01_0] at h73
                refine x_lv [(0, .ref (g (0))), (1, .ref (g (2 + 2 * f))), (2, .int (nI q)), (3, .int (nI h)), (4, .int (nI (σ 4 f q))), (5, .int (nI (σ 0 0 0))), (6, .int (nI i))] ⟨rfl, rfl, rfl, rfl, rfl, rfl, rfl, trivial⟩ ?_
                refine xn_iinc C d_CS_splitOff_98 6 rfl (by decide) rfl ?_
                refine x_goto C 61 d_CS_splitOff_101 (by decide) ?_
                refine x_E (E' := EL a g (spL (scS σ h) h (σ 0 0 0) (σ 4 f q) (i + 1)) (spW w h (σ 0 0 0) (σ 4 f q) (i + 1)) Y) (by rw [spL, spW, if_neg (by simp [h73]), if_neg (by simp [h73])]) ?_
                exact x_lv [(0, .ref (g (0))), (1, .ref (g (2 + 2 * f))), (2, .int (nI q)), (3, .int (nI h)), (4, .int (nI (σ 4 f q))), (5, .int (nI (σ 0 0 0))), (6, .int (nI (i + 1)))] ⟨rfl, rfl, rfl, rfl, rfl, rfl, rfl, trivial⟩ (ihi (by omega) trivial)
              · rw [b01_n0] at h73
                refine x_aload_n C d_CS_splitOff_76 rfl rfl ?_
                refine g_CS_cs_servers C hn d_CS_splitOff_77 ?_
                refine x_iload C d_CS_splitOff_80 rfl ?_
                refine e_arrS C (by omega) hn d_CS_splitOff_82 ?_
                refine x_iload C d_CS_splitOff_83 rfl ?_
                refine x_aload_n C d_CS_splitOff_85 rfl rfl ?_
                refine g_CS_cs_servers C hn d_CS_splitOff_86 ?_
                refine x_iload C d_CS_splitOff_89 rfl ?_
                refine e_arrS C (by omega) hn d_CS_splitOff_91 ?_
                refine x_iload C d_CS_splitOff_92 rfl ?_
                refine x_iconst C (v := nI 1) d_CS_splitOff_94 (by decide) ?_
                refine c_CS_SV_addLike C (by omega) (by omega) hn (m_SV_addLike htr hn (spL_B i (by omega) (scS_B hB hm hh) (fun i => by rw [scS_o (by decide)]; exact hS i)) (by omega) hm (by omega) (by omega) (by decide) (Nat.le_refl _)) rfl rfl (Nat.le_of_ble_eq_true rfl) d_CS_splitOff_95 (fun v E' hp => ?_) (fun X E' hp => ?_)
                · obtain ⟨rfl, hv⟩ := hp
                  cases hv
                  refine x_lv [(0, .ref (g (0))), (1, .ref (g (2 + 2 * f))), (2, .int (nI q)), (3, .int (nI h)), (4, .int (nI (σ 4 f q))), (5, .int (nI (σ 0 0 0))), (6, .int (nI i))] ⟨rfl, rfl, rfl, rfl, rfl, rfl, rfl, trivial⟩ ?_
                  refine xn_iinc C d_CS_splitOff_98 6 rfl (by decide) rfl ?_
                  refine x_goto C 61 d_CS_splitOff_101 (by decide) ?_
                  refine x_E (E' := EL a g (spL (scS σ h) h (σ 0 0 0) (σ 4 f q) (i + 1)) (spW w h (σ 0 0 0) (σ 4 f q) (i + 1)) Y) (by rw [spL, spW, if_pos h73, if_pos h73]) ?_
                  exact x_lv [(0, .ref (g (0))), (1, .ref (g (2 + 2 * f))), (2, .int (nI q)), (3, .int (nI h)), (4, .int (nI (σ 4 f q))), (5, .int (nI (σ 0 0 0))), (6, .int (nI (i + 1)))] ⟨rfl, rfl, rfl, rfl, rfl, rfl, rfl, trivial⟩ (ihi (by omega) trivial)
                · cases hp.2
            · cases hp.2
        · cases hp.2
      · rw [b01_n0] at h25
        exact th_UOw C hne (Nat.le_of_ble_eq_true rfl) d_CS_splitOff_28 d_CS_splitOff_31 d_CS_splitOff_32 d_CS_splitOff_35 d_CS_splitOff_38 (tx := "a holder has no room for its copy") (by decide) ⟨by rw [show spC σ h = 4 by rw [spC, if_neg (by omega), if_pos h25], if_neg (by decide), if_neg (by decide)], by rw [show spC σ h = 4 by rw [spC, if_neg (by omega), if_pos h25]]; rfl⟩
    · cases hp.2
  · exact th_IOw C hne (Nat.le_of_ble_eq_true rfl) d_CS_splitOff_9 d_CS_splitOff_12 d_CS_splitOff_13 d_CS_splitOff_16 d_CS_splitOff_19 (tx := "no more chunks can be made") (by decide) ⟨by rw [show spC σ h = 5 by rw [spC, if_pos h6], if_neg (by decide), if_neg (by decide)], by rw [show spC σ h = 5 by rw [spC, if_pos h6]]; rfl⟩
theorem spS_1 {σ : xSig} {f q h : Nat} : spS σ f q h 1 0 0 = σ 1 0 0 := by unfold spS; rw [up3_n (by decide), up3_n (by decide), spL_o _ (by decide), scS_o (by decide)]
theorem spS_B {σ : xSig} {f q h : Nat} (hB : ∀ t i j, σ t i j < 2 ^ 30) (hS : ∀ i, σ 11 i 0 < 2 ^ 29) (hm : σ 0 0 0 < 30) (hh : h < 32) (hc : ¬ σ 0 0 0 = σ 4 f q) : ∀ t i j, spS σ f q h t i j < 2 ^ 30 := up3_B (up3_B (spL_B 5 hc (scS_B hB hm hh) (fun i => by rw [scS_o (by decide)]; exact hS i)) (by have := hB 7 (σ 4 f q) 0; omega)) (hB 0 0 0)
theorem rvS_1 {σ : xSig} {c h t i j : Nat} (ht : ¬ t = 12 ∧ ¬ t = 6 ∧ ¬ t = 8) : rvS σ c h t i j = σ t i j := by unfold rvS; rw [rvL_at, if_neg (fun q => ht.1 q.2.2.1), up3_n ht.2.2, up3_n ht.2.1]
theorem rvS_B {σ : xSig} {c h : Nat} (hB : ∀ t i j, σ t i j < 2 ^ 30) (hv : σ 6 c 0 < 2 ^ 29) (hh : h < 32) : ∀ t i j, rvS σ c h t i j < 2 ^ 30 := rvL_B (up3_B (up3_B hB (by omega)) (by omega)) (by omega)
theorem m_CS_lease {l : Launch} (htr : xTr l) {D : va_G} {a : Nat → ClassId} {base : Nat} {g : Nat → Nat} {n : Nat} {σ : Nat → Nat → Nat → Nat} {w : Nat → Nat → Int32} {Y : Nat → va_E} (hn : 143 ≤ n) (hB : ∀ t i j, σ t i j < 2 ^ 30) (hH : ∀ c, σ 8 c 0 < 32) (hS : ∀ i, σ 11 i 0 < 2 ^ 29) {f q : Nat} (hf : f < 8) (hq : q < 3) (hc : σ 4 f q < σ 0 0 0) (hb : σ 0 0 0 ≤ 30) (hv : σ 6 (σ 4 f q) 0 < 2 ^ 29) {k : Nat} (hk : 3 ≤ k) : xM l y_CS_lease b_CS_lease 5 (some FieldType.int) k D a base g n (EL a g σ w Y) [.ref (g 0), .ref (g (2 + 2 * f)), .int (nI q)] (fun r E' => E' = EL a g (if lsC σ (σ 4 f q) = 0 then lsS σ f q else σ) (if lsC σ (σ 4 f q) = 0 then lsW σ w (σ 4 f q) else w) Y ∧ r = if lsC σ (σ 4 f q) = 0 then .inl (some (.int (nI (lsN σ (σ 4 f q))))) else .inr (xcW (lsC σ (σ 4 f q)))) := by
  refine x_method (by decide) htr (Nat.le_of_ble_eq_true rfl) ?_
  intro p e s m args below meth c C hne hret hnm
  have C : xC p l e s m meth c b_CS_lease 5 "ChunkStore" args D xcl (xty a) base := C
  refine x_aload_n C d_CS_lease_0 rfl rfl ?_
  refine g_CS_file_row C hf hn d_CS_lease_1 ?_
  refine x_iload_n C d_CS_lease_4 rfl rfl ?_
  refine e_row C hf hq hn d_CS_lease_5 ?_
  refine x_istore_n C d_CS_lease_6 rfl (by decide) rfl ?_
  refine x_aload_n C d_CS_lease_7 rfl rfl ?_
  refine x_iload_n C d_CS_lease_8 rfl rfl ?_
  refine c_CS_CS_liveHolders C (by omega) hn (m_CS_liveHolders htr hn hB hH (show σ 4 f q < 30 by omega) (Nat.le_refl _)) rfl rfl (Nat.le_of_ble_eq_true rfl) d_CS_lease_9 (fun v E' hp => ?_) (fun X E' hp => ?_)
  · obtain ⟨rfl, hv⟩ := hp
    cases hv
    refine x_istore C d_CS_lease_12 (by decide) rfl ?_
    refine x_aload_n C d_CS_lease_14 rfl rfl ?_
    refine x_aload_n C d_CS_lease_15 rfl rfl ?_
    refine g_CS_cs_chunks C hn d_CS_lease_16 ?_
    refine x_iload_n C d_CS_lease_19 rfl rfl ?_
    refine e_arrC C (show σ 4 f q < 30 by omega) hn d_CS_lease_20 ?_
    refine c_CS_CS_isLeased C (by omega) hn (m_CS_isLeased htr hn hB (show σ 4 f q < 30 by omega) (Nat.le_refl _)) rfl rfl (Nat.le_of_ble_eq_true rfl) d_CS_lease_21 (fun v E' hp => ?_) (fun X E' hp => ?_)
    · obtain ⟨rfl, hv⟩ := hp
      cases hv
      refine xn_if_eq C (b01_lt _) 43 d_CS_lease_24 (by decide) (fun h24 => ?_) (fun h24 => ?_)
      · rw [b01_0] at h24
        have h24 := of_decide_eq_false h24
        refine x_iload C d_CS_lease_43 rfl ?_
        refine xn_if_ne C (Nat.lt_trans (lvh_lt _ _) (by decide)) 58 d_CS_lease_45 (by decide) (fun h45 => ?_) (fun h45 => ?_)
        · refine x_aload_n C d_CS_lease_58 rfl rfl ?_
          refine g_CS_cs_chunks C hn d_CS_lease_59 ?_
          refine x_iload_n C d_CS_lease_62 rfl rfl ?_
          refine e_arrC C (show σ 4 f q < 30 by omega) hn d_CS_lease_63 ?_
          refine g_CS_chunk_refs C (show σ 4 f q < 30 by omega) hn d_CS_lease_64 ?_
          refine x_iconst C (v := nI 2) d_CS_lease_67 (by decide) ?_
          refine xn_icmp_lt C (Nat.lt_trans (hB 7 (σ 4 f q) 0) (by decide)) (by decide) 83 d_CS_lease_68 (by decide) (fun h68 => ?_) (fun h68 => ?_)
          · refine x_aload_n C d_CS_lease_83 rfl rfl ?_
            refine x_iload_n C d_CS_lease_84 rfl rfl ?_
            refine x_iload C d_CS_lease_85 rfl ?_
            refine c_CS_CS_raiseVersion C (by omega) hn (m_CS_raiseVersion htr hn hB (show σ 4 f q < 30 by omega) (lvh_lt _ _) (Nat.le_refl _)) rfl rfl (Nat.le_of_ble_eq_true rfl) d_CS_lease_87 (fun v E' hp => ?_) (fun X E' hp => ?_)
            · obtain ⟨rfl, hv⟩ := hp
              cases hv
              rw [← rvS]
              refine x_aload_n C d_CS_lease_90 rfl rfl ?_
              refine g_CS_cs_chunks C hn d_CS_lease_91 ?_
              refine x_iload_n C d_CS_lease_94 rfl rfl ?_
              refine e_arrC C (show σ 4 f q < 30 by omega) hn d_CS_lease_95 ?_
              refine x_aload_n C d_CS_lease_96 rfl rfl ?_
              refine g_CS_cs_time C hn d_CS_lease_97 ?_
              refine x_ldc2d C kw424 d_CS_lease_100 ?_
              refine x_topd (show _ = dT 80 from dT_80i.symm) ?_
              refine xn_dadd C (by (first | rw [spS_1] | rw [rvS_1 (by decide)]); have := hB 1 0 0; omega) d_CS_lease_103 ?_
              refine p_CS_chunk_leaseEnd C (show σ 4 f q < 30 by omega) hn d_CS_lease_104 ?_
              refine x_iload_n C d_CS_lease_107 rfl rfl ?_
              exact x_iret C hret d_CS_lease_108 ⟨by rw [show lsC σ (σ 4 f q) = 0 by rw [lsC, if_neg (show ¬ lsK σ (σ 4 f q) = true by simp only [lsK, decide_eq_true_eq]; exact fun q => h24 q.1), if_neg h45, if_neg (by omega)], if_pos rfl, if_pos rfl, lsS, if_neg (show ¬ lsK σ (σ 4 f q) = true by simp only [lsK, decide_eq_true_eq]; exact fun q => h24 q.1), if_neg (show ¬ 2 ≤ σ 7 (σ 4 f q) 0 by omega), lsW, if_neg (show ¬ lsK σ (σ 4 f q) = true by simp only [lsK, decide_eq_true_eq]; exact fun q => h24 q.1), if_neg (show ¬ 2 ≤ σ 7 (σ 4 f q) 0 by omega), rvS_1 (show ¬ 1 = 12 ∧ ¬ 1 = 6 ∧ ¬ 1 = 8 by decide)], by rw [show lsC σ (σ 4 f q) = 0 by rw [lsC, if_neg (show ¬ lsK σ (σ 4 f q) = true by simp only [lsK, decide_eq_true_eq]; exact fun q => h24 q.1), if_neg h45, if_neg (by omega)], if_pos rfl, lsN, if_neg (show ¬ lsK σ (σ 4 f q) = true by simp only [lsK, decide_eq_true_eq]; exact fun q => h24 q.1), if_neg (show ¬ 2 ≤ σ 7 (σ 4 f q) 0 by omega)]⟩
            · cases hp.2
          · refine x_aload_n C d_CS_lease_71 rfl rfl ?_
            refine x_aload_n C d_CS_lease_72 rfl rfl ?_
            refine x_iload_n C d_CS_lease_73 rfl rfl ?_
            refine x_iload C d_CS_lease_74 rfl ?_
            refine c_CS_CS_splitOff C (by omega) hn (m_CS_splitOff htr hn hB hH hS hf hq (lvh_lt _ _) hc (by omega) hb (Nat.le_refl _)) rfl rfl (Nat.le_of_ble_eq_true rfl) d_CS_lease_76 (fun v E' hp => ?_) (fun X E' hp => ?_)
            · obtain ⟨rfl, hv⟩ := hp
              obtain ⟨h76, rfl⟩ := rif_l hv
              rw [if_pos h76, if_pos h76]
              refine x_istore_n C d_CS_lease_79 rfl (by decide) rfl ?_
              refine x_goto C 90 d_CS_lease_80 (by decide) ?_
              refine x_aload_n C d_CS_lease_90 rfl rfl ?_
              refine g_CS_cs_chunks C hn d_CS_lease_91 ?_
              refine x_iload_n C d_CS_lease_94 rfl rfl ?_
              refine e_arrC C (show σ 0 0 0 < 30 by unfold spC at h76; split at h76 <;> omega) hn d_CS_lease_95 ?_
              refine x_aload_n C d_CS_lease_96 rfl rfl ?_
              refine g_CS_cs_time C hn d_CS_lease_97 ?_
              refine x_ldc2d C kw424 d_CS_lease_100 ?_
              refine x_topd (show _ = dT 80 from dT_80i.symm) ?_
              refine xn_dadd C (by (first | rw [spS_1] | rw [rvS_1 (by decide)]); have := hB 1 0 0; omega) d_CS_lease_103 ?_
              refine p_CS_chunk_leaseEnd C (show σ 0 0 0 < 30 by unfold spC at h76; split at h76 <;> omega) hn d_CS_lease_104 ?_
              refine x_iload_n C d_CS_lease_107 rfl rfl ?_
              exact x_iret C hret d_CS_lease_108 ⟨by rw [show lsC σ (σ 4 f q) = 0 by rw [lsC, if_neg (show ¬ lsK σ (σ 4 f q) = true by simp only [lsK, decide_eq_true_eq]; exact fun q => h24 q.1), if_neg h45, if_pos h68, h76], if_pos rfl, if_pos rfl, lsS, if_neg (show ¬ lsK σ (σ 4 f q) = true by simp only [lsK, decide_eq_true_eq]; exact fun q => h24 q.1), if_pos h68, lsW, if_neg (show ¬ lsK σ (σ 4 f q) = true by simp only [lsK, decide_eq_true_eq]; exact fun q => h24 q.1), if_pos h68, spS_1], by rw [show lsC σ (σ 4 f q) = 0 by rw [lsC, if_neg (show ¬ lsK σ (σ 4 f q) = true by simp only [lsK, decide_eq_true_eq]; exact fun q => h24 q.1), if_neg h45, if_pos h68, h76], if_pos rfl, lsN, if_neg (show ¬ lsK σ (σ 4 f q) = true by simp only [lsK, decide_eq_true_eq]; exact fun q => h24 q.1), if_pos h68]⟩
            · obtain ⟨rfl, hv⟩ := hp
              obtain ⟨h76, rfl⟩ := rif_r hv
              rw [if_neg h76, if_neg h76]
              exact x_prop C hne (Nat.le_refl _) (Nat.le_refl _) ⟨by rw [show lsC σ (σ 4 f q) = spC σ (lvh σ (σ 4 f q)) by rw [lsC, if_neg (show ¬ lsK σ (σ 4 f q) = true by simp only [lsK, decide_eq_true_eq]; exact fun q => h24 q.1), if_neg h45, if_pos h68], if_neg h76, if_neg h76], by rw [show lsC σ (σ 4 f q) = spC σ (lvh σ (σ 4 f q)) by rw [lsC, if_neg (show ¬ lsK σ (σ 4 f q) = true by simp only [lsK, decide_eq_true_eq]; exact fun q => h24 q.1), if_neg h45, if_pos h68], if_neg h76]⟩
        · exact th_IS C hne (Nat.le_of_ble_eq_true rfl) d_CS_lease_48 d_CS_lease_51 d_CS_lease_52 d_CS_lease_54 d_CS_lease_57 (tx := "no holder is up") (by decide) ⟨by rw [show lsC σ (σ 4 f q) = 3 by rw [lsC, if_neg (show ¬ lsK σ (σ 4 f q) = true by simp only [lsK, decide_eq_true_eq]; exact fun q => h24 q.1), if_pos h45], if_neg (by decide), if_neg (by decide)], by rw [show lsC σ (σ 4 f q) = 3 by rw [lsC, if_neg (show ¬ lsK σ (σ 4 f q) = true by simp only [lsK, decide_eq_true_eq]; exact fun q => h24 q.1), if_pos h45]]; rfl⟩
      · rw [b01_n0] at h24
        have h24 := of_decide_eq_true h24
        refine x_iload C d_CS_lease_27 rfl ?_
        refine x_aload_n C d_CS_lease_29 rfl rfl ?_
        refine g_CS_cs_chunks C hn d_CS_lease_30 ?_
        refine x_iload_n C d_CS_lease_33 rfl rfl ?_
        refine e_arrC C (show σ 4 f q < 30 by omega) hn d_CS_lease_34 ?_
        refine g_CS_chunk_holders C (show σ 4 f q < 30 by omega) hn d_CS_lease_35 ?_
        refine xn_icmp_ne C (Nat.lt_trans (lvh_lt _ _) (by decide)) (Nat.lt_trans (hB 8 (σ 4 f q) 0) (by decide)) 43 d_CS_lease_38 (by decide) (fun h38 => ?_) (fun h38 => ?_)
        · refine x_iload C d_CS_lease_43 rfl ?_
          refine xn_if_ne C (Nat.lt_trans (lvh_lt _ _) (by decide)) 58 d_CS_lease_45 (by decide) (fun h45 => ?_) (fun h45 => ?_)
          · refine x_aload_n C d_CS_lease_58 rfl rfl ?_
            refine g_CS_cs_chunks C hn d_CS_lease_59 ?_
            refine x_iload_n C d_CS_lease_62 rfl rfl ?_
            refine e_arrC C (show σ 4 f q < 30 by omega) hn d_CS_lease_63 ?_
            refine g_CS_chunk_refs C (show σ 4 f q < 30 by omega) hn d_CS_lease_64 ?_
            refine x_iconst C (v := nI 2) d_CS_lease_67 (by decide) ?_
            refine xn_icmp_lt C (Nat.lt_trans (hB 7 (σ 4 f q) 0) (by decide)) (by decide) 83 d_CS_lease_68 (by decide) (fun h68 => ?_) (fun h68 => ?_)
            · refine x_aload_n C d_CS_lease_83 rfl rfl ?_
              refine x_iload_n C d_CS_lease_84 rfl rfl ?_
              refine x_iload C d_CS_lease_85 rfl ?_
              refine c_CS_CS_raiseVersion C (by omega) hn (m_CS_raiseVersion htr hn hB (show σ 4 f q < 30 by omega) (lvh_lt _ _) (Nat.le_refl _)) rfl rfl (Nat.le_of_ble_eq_true rfl) d_CS_lease_87 (fun v E' hp => ?_) (fun X E' hp => ?_)
              · obtain ⟨rfl, hv⟩ := hp
                cases hv
                rw [← rvS]
                refine x_aload_n C d_CS_lease_90 rfl rfl ?_
                refine g_CS_cs_chunks C hn d_CS_lease_91 ?_
                refine x_iload_n C d_CS_lease_94 rfl rfl ?_
                refine e_arrC C (show σ 4 f q < 30 by omega) hn d_CS_lease_95 ?_
                refine x_aload_n C d_CS_lease_96 rfl rfl ?_
                refine g_CS_cs_time C hn d_CS_lease_97 ?_
                refine x_ldc2d C kw424 d_CS_lease_100 ?_
                refine x_topd (show _ = dT 80 from dT_80i.symm) ?_
                refine xn_dadd C (by (first | rw [spS_1] | rw [rvS_1 (by decide)]); have := hB 1 0 0; omega) d_CS_lease_103 ?_
                refine p_CS_chunk_leaseEnd C (show σ 4 f q < 30 by omega) hn d_CS_lease_104 ?_
                refine x_iload_n C d_CS_lease_107 rfl rfl ?_
                exact x_iret C hret d_CS_lease_108 ⟨by rw [show lsC σ (σ 4 f q) = 0 by rw [lsC, if_neg (show ¬ lsK σ (σ 4 f q) = true by simp only [lsK, decide_eq_true_eq]; exact fun q => h38 q.2), if_neg h45, if_neg (by omega)], if_pos rfl, if_pos rfl, lsS, if_neg (show ¬ lsK σ (σ 4 f q) = true by simp only [lsK, decide_eq_true_eq]; exact fun q => h38 q.2), if_neg (show ¬ 2 ≤ σ 7 (σ 4 f q) 0 by omega), lsW, if_neg (show ¬ lsK σ (σ 4 f q) = true by simp only [lsK, decide_eq_true_eq]; exact fun q => h38 q.2), if_neg (show ¬ 2 ≤ σ 7 (σ 4 f q) 0 by omega), rvS_1 (show ¬ 1 = 12 ∧ ¬ 1 = 6 ∧ ¬ 1 = 8 by decide)], by rw [show lsC σ (σ 4 f q) = 0 by rw [lsC, if_neg (show ¬ lsK σ (σ 4 f q) = true by simp only [lsK, decide_eq_true_eq]; exact fun q => h38 q.2), if_neg h45, if_neg (by omega)], if_pos rfl, lsN, if_neg (show ¬ lsK σ (σ 4 f q) = true by simp only [lsK, decide_eq_true_eq]; exact fun q => h38 q.2), if_neg (show ¬ 2 ≤ σ 7 (σ 4 f q) 0 by omega)]⟩
              · cases hp.2
            · refine x_aload_n C d_CS_lease_71 rfl rfl ?_
              refine x_aload_n C d_CS_lease_72 rfl rfl ?_
              refine x_iload_n C d_CS_lease_73 rfl rfl ?_
              refine x_iload C d_CS_lease_74 rfl ?_
              refine c_CS_CS_splitOff C (by omega) hn (m_CS_splitOff htr hn hB hH hS hf hq (lvh_lt _ _) hc (by omega) hb (Nat.le_refl _)) rfl rfl (Nat.le_of_ble_eq_true rfl) d_CS_lease_76 (fun v E' hp => ?_) (fun X E' hp => ?_)
              · obtain ⟨rfl, hv⟩ := hp
                obtain ⟨h76, rfl⟩ := rif_l hv
                rw [if_pos h76, if_pos h76]
                refine x_istore_n C d_CS_lease_79 rfl (by decide) rfl ?_
                refine x_goto C 90 d_CS_lease_80 (by decide) ?_
                refine x_aload_n C d_CS_lease_90 rfl rfl ?_
                refine g_CS_cs_chunks C hn d_CS_lease_91 ?_
                refine x_iload_n C d_CS_lease_94 rfl rfl ?_
                refine e_arrC C (show σ 0 0 0 < 30 by unfold spC at h76; split at h76 <;> omega) hn d_CS_lease_95 ?_
                refine x_aload_n C d_CS_lease_96 rfl rfl ?_
                refine g_CS_cs_time C hn d_CS_lease_97 ?_
                refine x_ldc2d C kw424 d_CS_lease_100 ?_
                refine x_topd (show _ = dT 80 from dT_80i.symm) ?_
                refine xn_dadd C (by (first | rw [spS_1] | rw [rvS_1 (by decide)]); have := hB 1 0 0; omega) d_CS_lease_103 ?_
                refine p_CS_chunk_leaseEnd C (show σ 0 0 0 < 30 by unfold spC at h76; split at h76 <;> omega) hn d_CS_lease_104 ?_
                refine x_iload_n C d_CS_lease_107 rfl rfl ?_
                exact x_iret C hret d_CS_lease_108 ⟨by rw [show lsC σ (σ 4 f q) = 0 by rw [lsC, if_neg (show ¬ lsK σ (σ 4 f q) = true by simp only [lsK, decide_eq_true_eq]; exact fun q => h38 q.2), if_neg h45, if_pos h68, h76], if_pos rfl, if_pos rfl, lsS, if_neg (show ¬ lsK σ (σ 4 f q) = true by simp only [lsK, decide_eq_true_eq]; exact fun q => h38 q.2), if_pos h68, lsW, if_neg (show ¬ lsK σ (σ 4 f q) = true by simp only [lsK, decide_eq_true_eq]; exact fun q => h38 q.2), if_pos h68, spS_1], by rw [show lsC σ (σ 4 f q) = 0 by rw [lsC, if_neg (show ¬ lsK σ (σ 4 f q) = true by simp only [lsK, decide_eq_true_eq]; exact fun q => h38 q.2), if_neg h45, if_pos h68, h76], if_pos rfl, lsN, if_neg (show ¬ lsK σ (σ 4 f q) = true by simp only [lsK, decide_eq_true_eq]; exact fun q => h38 q.2), if_pos h68]⟩
              · obtain ⟨rfl, hv⟩ := hp
                obtain ⟨h76, rfl⟩ := rif_r hv
                rw [if_neg h76, if_neg h76]
                exact x_prop C hne (Nat.le_refl _) (Nat.le_refl _) ⟨by rw [show lsC σ (σ 4 f q) = spC σ (lvh σ (σ 4 f q)) by rw [lsC, if_neg (show ¬ lsK σ (σ 4 f q) = true by simp only [lsK, decide_eq_true_eq]; exact fun q => h38 q.2), if_neg h45, if_pos h68], if_neg h76, if_neg h76], by rw [show lsC σ (σ 4 f q) = spC σ (lvh σ (σ 4 f q)) by rw [lsC, if_neg (show ¬ lsK σ (σ 4 f q) = true by simp only [lsK, decide_eq_true_eq]; exact fun q => h38 q.2), if_neg h45, if_pos h68], if_neg h76]⟩
          · exact th_IS C hne (Nat.le_of_ble_eq_true rfl) d_CS_lease_48 d_CS_lease_51 d_CS_lease_52 d_CS_lease_54 d_CS_lease_57 (tx := "no holder is up") (by decide) ⟨by rw [show lsC σ (σ 4 f q) = 3 by rw [lsC, if_neg (show ¬ lsK σ (σ 4 f q) = true by simp only [lsK, decide_eq_true_eq]; exact fun q => h38 q.2), if_pos h45], if_neg (by decide), if_neg (by decide)], by rw [show lsC σ (σ 4 f q) = 3 by rw [lsC, if_neg (show ¬ lsK σ (σ 4 f q) = true by simp only [lsK, decide_eq_true_eq]; exact fun q => h38 q.2), if_pos h45]]; rfl⟩
        · refine x_iload_n C d_CS_lease_41 rfl rfl ?_
          exact x_iret C hret d_CS_lease_42 ⟨by rw [show lsC σ (σ 4 f q) = 0 by rw [lsC, if_pos (show lsK σ (σ 4 f q) = true by simp only [lsK, decide_eq_true_eq]; exact ⟨h24, h38⟩)], if_pos rfl, if_pos rfl, lsS, if_pos (show lsK σ (σ 4 f q) = true by simp only [lsK, decide_eq_true_eq]; exact ⟨h24, h38⟩), lsW, if_pos (show lsK σ (σ 4 f q) = true by simp only [lsK, decide_eq_true_eq]; exact ⟨h24, h38⟩)], by rw [show lsC σ (σ 4 f q) = 0 by rw [lsC, if_pos (show lsK σ (σ 4 f q) = true by simp only [lsK, decide_eq_true_eq]; exact ⟨h24, h38⟩)], if_pos rfl, lsN, if_pos (show lsK σ (σ 4 f q) = true by simp only [lsK, decide_eq_true_eq]; exact ⟨h24, h38⟩)]⟩
    · cases hp.2
  · cases hp.2
end XM5
end
