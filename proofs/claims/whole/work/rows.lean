section
-- ===== PART A: goes FIRST, ahead of the names: the tables' words, and 'selects' of the private methods out of them =====
/-- a private method of a class that the tables say can be made, by its rows of tables_1 -/
def lw_okq (q : MethodName × Nat) : Prop := (q.1.cls ≠ "java/lang/invoke/MethodHandle" ∧ q.1.cls ≠ "java/lang/invoke/VarHandle") ∧ Cond.instantiable q.1.cls q.2 ∈ tables_1 ∧ Cond.privateMethod q.1 ∈ tables_1 ∧ Cond.instanceMethod q.1 ∈ tables_1
theorem lw_p0 : lw_okq (⟨"LayerVault", "makeReady", "(IIIZ)I"⟩, 14) := ⟨⟨by decide +kernel, by decide +kernel⟩, List.mem_of_getElem? (i := 13) (by decide +kernel), List.mem_of_getElem? (i := 207) (by decide +kernel), List.mem_of_getElem? (i := 208) (by decide +kernel)⟩
theorem lw_p1 : lw_okq (⟨"LayerVault$Log", "needsNewHead", "(I)Z"⟩, 7) := ⟨⟨by decide +kernel, by decide +kernel⟩, List.mem_of_getElem? (i := 115) (by decide +kernel), List.mem_of_getElem? (i := 231) (by decide +kernel), List.mem_of_getElem? (i := 232) (by decide +kernel)⟩
theorem lw_p2 : lw_okq (⟨"LayerVault", "emptyMemtable", "()I"⟩, 14) := ⟨⟨by decide +kernel, by decide +kernel⟩, List.mem_of_getElem? (i := 13) (by decide +kernel), List.mem_of_getElem? (i := 235) (by decide +kernel), List.mem_of_getElem? (i := 236) (by decide +kernel)⟩
theorem lw_p3 : lw_okq (⟨"LayerVault", "mergeTop", "()I"⟩, 14) := ⟨⟨by decide +kernel, by decide +kernel⟩, List.mem_of_getElem? (i := 13) (by decide +kernel), List.mem_of_getElem? (i := 243) (by decide +kernel), List.mem_of_getElem? (i := 244) (by decide +kernel)⟩
theorem lw_p4 : lw_okq (⟨"LayerVault", "mergePair", "(LLayerVault$Level;LLayerVault$Level;)I"⟩, 14) := ⟨⟨by decide +kernel, by decide +kernel⟩, List.mem_of_getElem? (i := 13) (by decide +kernel), List.mem_of_getElem? (i := 247) (by decide +kernel), List.mem_of_getElem? (i := 248) (by decide +kernel)⟩
theorem lw_p5 : lw_okq (⟨"LayerVault$Row", "insertAt", "(ILLayerVault$Entry;)V"⟩, 3) := ⟨⟨by decide +kernel, by decide +kernel⟩, List.mem_of_getElem? (i := 63) (by decide +kernel), List.mem_of_getElem? (i := 272) (by decide +kernel), List.mem_of_getElem? (i := 273) (by decide +kernel)⟩
theorem lw_p6 : lw_okq (⟨"LayerVault", "writeBatch", "()V"⟩, 14) := ⟨⟨by decide +kernel, by decide +kernel⟩, List.mem_of_getElem? (i := 13) (by decide +kernel), List.mem_of_getElem? (i := 320) (by decide +kernel), List.mem_of_getElem? (i := 321) (by decide +kernel)⟩
theorem lw_p7 : lw_okq (⟨"LayerVault", "levelAt", "(I)LLayerVault$Level;"⟩, 14) := ⟨⟨by decide +kernel, by decide +kernel⟩, List.mem_of_getElem? (i := 13) (by decide +kernel), List.mem_of_getElem? (i := 352) (by decide +kernel), List.mem_of_getElem? (i := 353) (by decide +kernel)⟩
theorem lw_p8 : lw_okq (⟨"LayerVault", "gatherLiveOfTail", "()V"⟩, 14) := ⟨⟨by decide +kernel, by decide +kernel⟩, List.mem_of_getElem? (i := 13) (by decide +kernel), List.mem_of_getElem? (i := 364) (by decide +kernel), List.mem_of_getElem? (i := 365) (by decide +kernel)⟩
theorem lw_p9 : lw_okq (⟨"LayerVault", "writeMovedAgain", "()V"⟩, 14) := ⟨⟨by decide +kernel, by decide +kernel⟩, List.mem_of_getElem? (i := 13) (by decide +kernel), List.mem_of_getElem? (i := 390) (by decide +kernel), List.mem_of_getElem? (i := 391) (by decide +kernel)⟩
theorem lw_p10 : lw_okq (⟨"LayerVault", "loseRecordsFrom", "(I)V"⟩, 14) := ⟨⟨by decide +kernel, by decide +kernel⟩, List.mem_of_getElem? (i := 13) (by decide +kernel), List.mem_of_getElem? (i := 441) (by decide +kernel), List.mem_of_getElem? (i := 442) (by decide +kernel)⟩
theorem lw_p11 : lw_okq (⟨"LayerVault", "getEntry", "(II)LLayerVault$Entry;"⟩, 14) := ⟨⟨by decide +kernel, by decide +kernel⟩, List.mem_of_getElem? (i := 13) (by decide +kernel), List.mem_of_getElem? (i := 462) (by decide +kernel), List.mem_of_getElem? (i := 463) (by decide +kernel)⟩
theorem lw_p12 : lw_okq (⟨"LayerVault", "sightOf", "(I)I"⟩, 14) := ⟨⟨by decide +kernel, by decide +kernel⟩, List.mem_of_getElem? (i := 13) (by decide +kernel), List.mem_of_getElem? (i := 466) (by decide +kernel), List.mem_of_getElem? (i := 467) (by decide +kernel)⟩
theorem lw_p13 : lw_okq (⟨"LayerVault", "seek", "(II)LLayerVault$Entry;"⟩, 14) := ⟨⟨by decide +kernel, by decide +kernel⟩, List.mem_of_getElem? (i := 13) (by decide +kernel), List.mem_of_getElem? (i := 471) (by decide +kernel), List.mem_of_getElem? (i := 472) (by decide +kernel)⟩
theorem lw_p14 : lw_okq (⟨"LayerVault", "seekInLevel", "(LLayerVault$Level;II)LLayerVault$Entry;"⟩, 14) := ⟨⟨by decide +kernel, by decide +kernel⟩, List.mem_of_getElem? (i := 13) (by decide +kernel), List.mem_of_getElem? (i := 483) (by decide +kernel), List.mem_of_getElem? (i := 484) (by decide +kernel)⟩
theorem lw_p15 : lw_okq (⟨"LayerVault$Table", "firstKey", "()I"⟩, 2) := ⟨⟨by decide +kernel, by decide +kernel⟩, List.mem_of_getElem? (i := 88) (by decide +kernel), List.mem_of_getElem? (i := 495) (by decide +kernel), List.mem_of_getElem? (i := 496) (by decide +kernel)⟩
def lw_privs_1 : List (MethodName × Nat) := [(⟨"LayerVault", "makeReady", "(IIIZ)I"⟩, 14), (⟨"LayerVault$Log", "needsNewHead", "(I)Z"⟩, 7), (⟨"LayerVault", "emptyMemtable", "()I"⟩, 14), (⟨"LayerVault", "mergeTop", "()I"⟩, 14), (⟨"LayerVault", "mergePair", "(LLayerVault$Level;LLayerVault$Level;)I"⟩, 14), (⟨"LayerVault$Row", "insertAt", "(ILLayerVault$Entry;)V"⟩, 3), (⟨"LayerVault", "writeBatch", "()V"⟩, 14), (⟨"LayerVault", "levelAt", "(I)LLayerVault$Level;"⟩, 14), (⟨"LayerVault", "gatherLiveOfTail", "()V"⟩, 14), (⟨"LayerVault", "writeMovedAgain", "()V"⟩, 14), (⟨"LayerVault", "loseRecordsFrom", "(I)V"⟩, 14), (⟨"LayerVault", "getEntry", "(II)LLayerVault$Entry;"⟩, 14), (⟨"LayerVault", "sightOf", "(I)I"⟩, 14), (⟨"LayerVault", "seek", "(II)LLayerVault$Entry;"⟩, 14), (⟨"LayerVault", "seekInLevel", "(LLayerVault$Level;II)LLayerVault$Entry;"⟩, 14), (⟨"LayerVault$Table", "firstKey", "()I"⟩, 2)]
theorem lw_r1 : ∀ q ∈ lw_privs_1, lw_okq q := List.forall_mem_cons.mpr ⟨lw_p0, List.forall_mem_cons.mpr ⟨lw_p1, List.forall_mem_cons.mpr ⟨lw_p2, List.forall_mem_cons.mpr ⟨lw_p3, List.forall_mem_cons.mpr ⟨lw_p4, List.forall_mem_cons.mpr ⟨lw_p5, List.forall_mem_cons.mpr ⟨lw_p6, List.forall_mem_cons.mpr ⟨lw_p7, List.forall_mem_cons.mpr ⟨lw_p8, List.forall_mem_cons.mpr ⟨lw_p9, List.forall_mem_cons.mpr ⟨lw_p10, List.forall_mem_cons.mpr ⟨lw_p11, List.forall_mem_cons.mpr ⟨lw_p12, List.forall_mem_cons.mpr ⟨lw_p13, List.forall_mem_cons.mpr ⟨lw_p14, List.forall_mem_cons.mpr ⟨lw_p15, fun _ h => absurd h List.not_mem_nil⟩⟩⟩⟩⟩⟩⟩⟩⟩⟩⟩⟩⟩⟩⟩⟩
theorem lw_p16 : lw_okq (⟨"LayerVault$Table", "lastKey", "()I"⟩, 2) := ⟨⟨by decide +kernel, by decide +kernel⟩, List.mem_of_getElem? (i := 88) (by decide +kernel), List.mem_of_getElem? (i := 499) (by decide +kernel), List.mem_of_getElem? (i := 500) (by decide +kernel)⟩
theorem lw_p17 : lw_okq (⟨"LayerVault$Table", "greatestSerial", "()I"⟩, 2) := ⟨⟨by decide +kernel, by decide +kernel⟩, List.mem_of_getElem? (i := 88) (by decide +kernel), List.mem_of_getElem? (i := 525) (by decide +kernel), List.mem_of_getElem? (i := 526) (by decide +kernel)⟩
theorem lw_p18 : lw_okq (⟨"LayerVault", "countLive", "(I)I"⟩, 14) := ⟨⟨by decide +kernel, by decide +kernel⟩, List.mem_of_getElem? (i := 13) (by decide +kernel), List.mem_of_getElem? (i := 538) (by decide +kernel), List.mem_of_getElem? (i := 539) (by decide +kernel)⟩
theorem lw_p19 : lw_okq (⟨"LayerVaultModel", "add", "(III)I"⟩, 30) := ⟨⟨by decide +kernel, by decide +kernel⟩, List.mem_of_getElem? (i := 559) (by decide +kernel), List.mem_of_getElem? (i := 664) (by decide +kernel), List.mem_of_getElem? (i := 665) (by decide +kernel)⟩
theorem lw_p20 : lw_okq (⟨"LayerVaultModel", "needsHead", "(I)Z"⟩, 30) := ⟨⟨by decide +kernel, by decide +kernel⟩, List.mem_of_getElem? (i := 559) (by decide +kernel), List.mem_of_getElem? (i := 676) (by decide +kernel), List.mem_of_getElem? (i := 677) (by decide +kernel)⟩
theorem lw_p21 : lw_okq (⟨"LayerVaultModel", "size", "(I)I"⟩, 30) := ⟨⟨by decide +kernel, by decide +kernel⟩, List.mem_of_getElem? (i := 559) (by decide +kernel), List.mem_of_getElem? (i := 680) (by decide +kernel), List.mem_of_getElem? (i := 681) (by decide +kernel)⟩
theorem lw_p22 : lw_okq (⟨"LayerVaultModel", "flushAll", "()V"⟩, 30) := ⟨⟨by decide +kernel, by decide +kernel⟩, List.mem_of_getElem? (i := 559) (by decide +kernel), List.mem_of_getElem? (i := 684) (by decide +kernel), List.mem_of_getElem? (i := 685) (by decide +kernel)⟩
theorem lw_p23 : lw_okq (⟨"LayerVaultModel", "mergeOf", "(I)I"⟩, 30) := ⟨⟨by decide +kernel, by decide +kernel⟩, List.mem_of_getElem? (i := 559) (by decide +kernel), List.mem_of_getElem? (i := 688) (by decide +kernel), List.mem_of_getElem? (i := 689) (by decide +kernel)⟩
theorem lw_p24 : lw_okq (⟨"LayerVaultModel", "choose", "(II)V"⟩, 30) := ⟨⟨by decide +kernel, by decide +kernel⟩, List.mem_of_getElem? (i := 559) (by decide +kernel), List.mem_of_getElem? (i := 692) (by decide +kernel), List.mem_of_getElem? (i := 693) (by decide +kernel)⟩
theorem lw_p25 : lw_okq (⟨"LayerVaultModel", "sift", "(I)I"⟩, 30) := ⟨⟨by decide +kernel, by decide +kernel⟩, List.mem_of_getElem? (i := 559) (by decide +kernel), List.mem_of_getElem? (i := 696) (by decide +kernel), List.mem_of_getElem? (i := 697) (by decide +kernel)⟩
theorem lw_p26 : lw_okq (⟨"LayerVaultModel", "above", "(I)I"⟩, 30) := ⟨⟨by decide +kernel, by decide +kernel⟩, List.mem_of_getElem? (i := 559) (by decide +kernel), List.mem_of_getElem? (i := 700) (by decide +kernel), List.mem_of_getElem? (i := 701) (by decide +kernel)⟩
theorem lw_p27 : lw_okq (⟨"LayerVaultModel", "parted", "(II)Z"⟩, 30) := ⟨⟨by decide +kernel, by decide +kernel⟩, List.mem_of_getElem? (i := 559) (by decide +kernel), List.mem_of_getElem? (i := 704) (by decide +kernel), List.mem_of_getElem? (i := 705) (by decide +kernel)⟩
theorem lw_p28 : lw_okq (⟨"LayerVaultModel", "gone", "(I)Z"⟩, 30) := ⟨⟨by decide +kernel, by decide +kernel⟩, List.mem_of_getElem? (i := 559) (by decide +kernel), List.mem_of_getElem? (i := 708) (by decide +kernel), List.mem_of_getElem? (i := 709) (by decide +kernel)⟩
theorem lw_p29 : lw_okq (⟨"LayerVaultModel", "isLowest", "(I)Z"⟩, 30) := ⟨⟨by decide +kernel, by decide +kernel⟩, List.mem_of_getElem? (i := 559) (by decide +kernel), List.mem_of_getElem? (i := 712) (by decide +kernel), List.mem_of_getElem? (i := 713) (by decide +kernel)⟩
theorem lw_p30 : lw_okq (⟨"LayerVaultModel", "mergeNext", "()I"⟩, 30) := ⟨⟨by decide +kernel, by decide +kernel⟩, List.mem_of_getElem? (i := 559) (by decide +kernel), List.mem_of_getElem? (i := 716) (by decide +kernel), List.mem_of_getElem? (i := 717) (by decide +kernel)⟩
theorem lw_p31 : lw_okq (⟨"LayerVaultModel", "arrange", "()V"⟩, 30) := ⟨⟨by decide +kernel, by decide +kernel⟩, List.mem_of_getElem? (i := 559) (by decide +kernel), List.mem_of_getElem? (i := 720) (by decide +kernel), List.mem_of_getElem? (i := 721) (by decide +kernel)⟩
def lw_privs_2 : List (MethodName × Nat) := [(⟨"LayerVault$Table", "lastKey", "()I"⟩, 2), (⟨"LayerVault$Table", "greatestSerial", "()I"⟩, 2), (⟨"LayerVault", "countLive", "(I)I"⟩, 14), (⟨"LayerVaultModel", "add", "(III)I"⟩, 30), (⟨"LayerVaultModel", "needsHead", "(I)Z"⟩, 30), (⟨"LayerVaultModel", "size", "(I)I"⟩, 30), (⟨"LayerVaultModel", "flushAll", "()V"⟩, 30), (⟨"LayerVaultModel", "mergeOf", "(I)I"⟩, 30), (⟨"LayerVaultModel", "choose", "(II)V"⟩, 30), (⟨"LayerVaultModel", "sift", "(I)I"⟩, 30), (⟨"LayerVaultModel", "above", "(I)I"⟩, 30), (⟨"LayerVaultModel", "parted", "(II)Z"⟩, 30), (⟨"LayerVaultModel", "gone", "(I)Z"⟩, 30), (⟨"LayerVaultModel", "isLowest", "(I)Z"⟩, 30), (⟨"LayerVaultModel", "mergeNext", "()I"⟩, 30), (⟨"LayerVaultModel", "arrange", "()V"⟩, 30)]
theorem lw_r2 : ∀ q ∈ lw_privs_2, lw_okq q := List.forall_mem_cons.mpr ⟨lw_p16, List.forall_mem_cons.mpr ⟨lw_p17, List.forall_mem_cons.mpr ⟨lw_p18, List.forall_mem_cons.mpr ⟨lw_p19, List.forall_mem_cons.mpr ⟨lw_p20, List.forall_mem_cons.mpr ⟨lw_p21, List.forall_mem_cons.mpr ⟨lw_p22, List.forall_mem_cons.mpr ⟨lw_p23, List.forall_mem_cons.mpr ⟨lw_p24, List.forall_mem_cons.mpr ⟨lw_p25, List.forall_mem_cons.mpr ⟨lw_p26, List.forall_mem_cons.mpr ⟨lw_p27, List.forall_mem_cons.mpr ⟨lw_p28, List.forall_mem_cons.mpr ⟨lw_p29, List.forall_mem_cons.mpr ⟨lw_p30, List.forall_mem_cons.mpr ⟨lw_p31, fun _ h => absurd h List.not_mem_nil⟩⟩⟩⟩⟩⟩⟩⟩⟩⟩⟩⟩⟩⟩⟩⟩
theorem lw_p32 : lw_okq (⟨"LayerVaultModel", "before", "(II)Z"⟩, 30) := ⟨⟨by decide +kernel, by decide +kernel⟩, List.mem_of_getElem? (i := 559) (by decide +kernel), List.mem_of_getElem? (i := 724) (by decide +kernel), List.mem_of_getElem? (i := 725) (by decide +kernel)⟩
theorem lw_p33 : lw_okq (⟨"LayerVaultModel", "record", "(I)I"⟩, 30) := ⟨⟨by decide +kernel, by decide +kernel⟩, List.mem_of_getElem? (i := 559) (by decide +kernel), List.mem_of_getElem? (i := 728) (by decide +kernel), List.mem_of_getElem? (i := 729) (by decide +kernel)⟩
theorem lw_p34 : lw_okq (⟨"LayerVaultModel", "liveIn", "(I)I"⟩, 30) := ⟨⟨by decide +kernel, by decide +kernel⟩, List.mem_of_getElem? (i := 559) (by decide +kernel), List.mem_of_getElem? (i := 748) (by decide +kernel), List.mem_of_getElem? (i := 749) (by decide +kernel)⟩
theorem lw_p35 : lw_okq (⟨"LayerVaultModel", "isLive", "(II)Z"⟩, 30) := ⟨⟨by decide +kernel, by decide +kernel⟩, List.mem_of_getElem? (i := 559) (by decide +kernel), List.mem_of_getElem? (i := 752) (by decide +kernel), List.mem_of_getElem? (i := 753) (by decide +kernel)⟩
theorem lw_p36 : lw_okq (⟨"LayerVaultModel", "headsFor", "(I)I"⟩, 30) := ⟨⟨by decide +kernel, by decide +kernel⟩, List.mem_of_getElem? (i := 559) (by decide +kernel), List.mem_of_getElem? (i := 756) (by decide +kernel), List.mem_of_getElem? (i := 757) (by decide +kernel)⟩
theorem lw_p37 : lw_okq (⟨"LayerVaultModel", "nextLive", "()I"⟩, 30) := ⟨⟨by decide +kernel, by decide +kernel⟩, List.mem_of_getElem? (i := 559) (by decide +kernel), List.mem_of_getElem? (i := 760) (by decide +kernel), List.mem_of_getElem? (i := 761) (by decide +kernel)⟩
theorem lw_p38 : lw_okq (⟨"LayerVaultModel", "isView", "(I)Z"⟩, 30) := ⟨⟨by decide +kernel, by decide +kernel⟩, List.mem_of_getElem? (i := 559) (by decide +kernel), List.mem_of_getElem? (i := 784) (by decide +kernel), List.mem_of_getElem? (i := 785) (by decide +kernel)⟩
theorem lw_p39 : lw_okq (⟨"LayerVaultModel", "find", "(II)I"⟩, 30) := ⟨⟨by decide +kernel, by decide +kernel⟩, List.mem_of_getElem? (i := 559) (by decide +kernel), List.mem_of_getElem? (i := 788) (by decide +kernel), List.mem_of_getElem? (i := 789) (by decide +kernel)⟩
theorem lw_p40 : lw_okq (⟨"LayerVaultModel", "latest", "(IIII)I"⟩, 30) := ⟨⟨by decide +kernel, by decide +kernel⟩, List.mem_of_getElem? (i := 559) (by decide +kernel), List.mem_of_getElem? (i := 792) (by decide +kernel), List.mem_of_getElem? (i := 793) (by decide +kernel)⟩
theorem lw_p41 : lw_okq (⟨"LayerVaultModel", "lies", "(III)Z"⟩, 30) := ⟨⟨by decide +kernel, by decide +kernel⟩, List.mem_of_getElem? (i := 559) (by decide +kernel), List.mem_of_getElem? (i := 796) (by decide +kernel), List.mem_of_getElem? (i := 797) (by decide +kernel)⟩
theorem lw_p42 : lw_okq (⟨"LayerVaultModel", "tableOf", "(I)I"⟩, 30) := ⟨⟨by decide +kernel, by decide +kernel⟩, List.mem_of_getElem? (i := 559) (by decide +kernel), List.mem_of_getElem? (i := 800) (by decide +kernel), List.mem_of_getElem? (i := 801) (by decide +kernel)⟩
theorem lw_p43 : lw_okq (⟨"LayerVaultModel", "isSeen", "(II)Z"⟩, 30) := ⟨⟨by decide +kernel, by decide +kernel⟩, List.mem_of_getElem? (i := 559) (by decide +kernel), List.mem_of_getElem? (i := 804) (by decide +kernel), List.mem_of_getElem? (i := 805) (by decide +kernel)⟩
theorem lw_p44 : lw_okq (⟨"LayerVaultModel", "tables", "(I)I"⟩, 30) := ⟨⟨by decide +kernel, by decide +kernel⟩, List.mem_of_getElem? (i := 559) (by decide +kernel), List.mem_of_getElem? (i := 808) (by decide +kernel), List.mem_of_getElem? (i := 809) (by decide +kernel)⟩
theorem lw_p45 : lw_okq (⟨"LayerVaultModel", "may", "(III)Z"⟩, 30) := ⟨⟨by decide +kernel, by decide +kernel⟩, List.mem_of_getElem? (i := 559) (by decide +kernel), List.mem_of_getElem? (i := 812) (by decide +kernel), List.mem_of_getElem? (i := 813) (by decide +kernel)⟩
theorem lw_p46 : lw_okq (⟨"LayerVaultModel", "filter", "(II)I"⟩, 30) := ⟨⟨by decide +kernel, by decide +kernel⟩, List.mem_of_getElem? (i := 559) (by decide +kernel), List.mem_of_getElem? (i := 816) (by decide +kernel), List.mem_of_getElem? (i := 817) (by decide +kernel)⟩
theorem lw_p47 : lw_okq (⟨"LayerVaultModel", "bound", "(IIZ)I"⟩, 30) := ⟨⟨by decide +kernel, by decide +kernel⟩, List.mem_of_getElem? (i := 559) (by decide +kernel), List.mem_of_getElem? (i := 820) (by decide +kernel), List.mem_of_getElem? (i := 821) (by decide +kernel)⟩
def lw_privs_3 : List (MethodName × Nat) := [(⟨"LayerVaultModel", "before", "(II)Z"⟩, 30), (⟨"LayerVaultModel", "record", "(I)I"⟩, 30), (⟨"LayerVaultModel", "liveIn", "(I)I"⟩, 30), (⟨"LayerVaultModel", "isLive", "(II)Z"⟩, 30), (⟨"LayerVaultModel", "headsFor", "(I)I"⟩, 30), (⟨"LayerVaultModel", "nextLive", "()I"⟩, 30), (⟨"LayerVaultModel", "isView", "(I)Z"⟩, 30), (⟨"LayerVaultModel", "find", "(II)I"⟩, 30), (⟨"LayerVaultModel", "latest", "(IIII)I"⟩, 30), (⟨"LayerVaultModel", "lies", "(III)Z"⟩, 30), (⟨"LayerVaultModel", "tableOf", "(I)I"⟩, 30), (⟨"LayerVaultModel", "isSeen", "(II)Z"⟩, 30), (⟨"LayerVaultModel", "tables", "(I)I"⟩, 30), (⟨"LayerVaultModel", "may", "(III)Z"⟩, 30), (⟨"LayerVaultModel", "filter", "(II)I"⟩, 30), (⟨"LayerVaultModel", "bound", "(IIZ)I"⟩, 30)]
theorem lw_r3 : ∀ q ∈ lw_privs_3, lw_okq q := List.forall_mem_cons.mpr ⟨lw_p32, List.forall_mem_cons.mpr ⟨lw_p33, List.forall_mem_cons.mpr ⟨lw_p34, List.forall_mem_cons.mpr ⟨lw_p35, List.forall_mem_cons.mpr ⟨lw_p36, List.forall_mem_cons.mpr ⟨lw_p37, List.forall_mem_cons.mpr ⟨lw_p38, List.forall_mem_cons.mpr ⟨lw_p39, List.forall_mem_cons.mpr ⟨lw_p40, List.forall_mem_cons.mpr ⟨lw_p41, List.forall_mem_cons.mpr ⟨lw_p42, List.forall_mem_cons.mpr ⟨lw_p43, List.forall_mem_cons.mpr ⟨lw_p44, List.forall_mem_cons.mpr ⟨lw_p45, List.forall_mem_cons.mpr ⟨lw_p46, List.forall_mem_cons.mpr ⟨lw_p47, fun _ h => absurd h List.not_mem_nil⟩⟩⟩⟩⟩⟩⟩⟩⟩⟩⟩⟩⟩⟩⟩⟩
theorem lw_p48 : lw_okq (⟨"LayerVaultModel", "there", "(II)Z"⟩, 30) := ⟨⟨by decide +kernel, by decide +kernel⟩, List.mem_of_getElem? (i := 559) (by decide +kernel), List.mem_of_getElem? (i := 832) (by decide +kernel), List.mem_of_getElem? (i := 833) (by decide +kernel)⟩
def lw_privs_4 : List (MethodName × Nat) := [(⟨"LayerVaultModel", "there", "(II)Z"⟩, 30)]
theorem lw_r4 : ∀ q ∈ lw_privs_4, lw_okq q := List.forall_mem_cons.mpr ⟨lw_p48, fun _ h => absurd h List.not_mem_nil⟩
def lw_privs : List (MethodName × Nat) := lw_privs_1 ++ (lw_privs_2 ++ (lw_privs_3 ++ (lw_privs_4)))
def lw_tbl : List Cond := k2_sels lw_privs ++ tables_1
theorem lw_privs_ok : ∀ q ∈ lw_privs, lw_okq q := by
  show ∀ q ∈ lw_privs_1 ++ (lw_privs_2 ++ (lw_privs_3 ++ (lw_privs_4))), lw_okq q
  exact List.forall_mem_append.mpr ⟨lw_r1, List.forall_mem_append.mpr ⟨lw_r2, List.forall_mem_append.mpr ⟨lw_r3, lw_r4⟩⟩⟩
end
section
abbrev am_I : Type := Instr × Nat × Nat × Nat × Int32 × List Nat
def am_s2 : String := "LayerVault$Entry"
def am_s3 : String := "LayerVault$Table"
def am_T0 : u_T := fun k => match k with
  | 0 => ("LayerVault", "blank", "LLayerVault$Entry;", true)
  | 1 => ("LayerVault", "batch", "LLayerVault$Row;", true)
  | 2 => ("LayerVault", "memtable", "LLayerVault$Row;", true)
  | 3 => ("LayerVault", "top", "LLayerVault$Level;", true)
  | 4 => ("LayerVault", "middle", "LLayerVault$Level;", true)
  | 5 => ("LayerVault", "bottom", "LLayerVault$Level;", true)
  | 6 => ("LayerVault", "sieve", "LLayerVault$Row;", true)
  | 7 => ("LayerVault", "moved", "LLayerVault$Row;", true)
  | 8 => ("LayerVault", "log", "LLayerVault$Log;", true)
  | 9 => ("LayerVault", "snapshots", "LLayerVault$Snapshots;", true)
  | 10 => ("LayerVault", "time", "I", false)
  | 11 => ("LayerVault", "latestSerial", "I", false)
  | 12 => ("LayerVault", "lookedIn", "I", false)
  | _ => ("LayerVault", "latestProbes", "I", false)
def am_T1 : u_T := fun k => match k with
  | 0 => ("LayerVault$Entry", "key", "I", true)
  | 1 => ("LayerVault$Entry", "value", "I", true)
  | 2 => ("LayerVault$Entry", "life", "I", true)
  | 3 => ("LayerVault$Entry", "deletion", "Z", true)
  | 4 => ("LayerVault$Entry", "serial", "I", false)
  | 5 => ("LayerVault$Entry", "expiry", "I", false)
  | 6 => ("LayerVault$Entry", "segmentNumber", "I", false)
  | _ => ("LayerVault$Entry", "cell", "I", false)
def am_T2 : u_T := fun k => match k with
  | 0 => ("LayerVault$Row", "blank", "LLayerVault$Entry;", true)
  | 1 => ("LayerVault$Row", "entries", "[LLayerVault$Entry;", true)
  | _ => ("LayerVault$Row", "size", "I", false)
def am_T3 : u_T := fun k => match k with
  | 0 => ("LayerVault$Table", "row", "LLayerVault$Row;", true)
  | _ => ("LayerVault$Table", "filter", "I", false)
def am_T4 : u_T := fun k => match k with
  | 0 => ("LayerVault$Level", "tables", "[LLayerVault$Table;", true)
  | _ => ("LayerVault$Level", "count", "I", false)
def am_T5 : u_T := fun k => match k with
  | 0 => ("LayerVault$Log", "taken", "[I", true)
  | 1 => ("LayerVault$Log", "tailNumber", "I", false)
  | 2 => ("LayerVault$Log", "count", "I", false)
  | 3 => ("LayerVault$Log", "countBefore", "[I", true)
  | 4 => ("LayerVault$Log", "takenBefore", "[I", true)
  | 5 => ("LayerVault$Log", "serialBefore", "[I", true)
  | _ => ("LayerVault$Log", "unsynced", "I", false)
def am_T6 : u_T := fun k => match k with
  | _ => ("LayerVault$Snapshots", "sights", "[I", true)
def am_T7 : u_T := fun k => match k with
  | 0 => ("LayerVaultModel", "time", "I", false)
  | 1 => ("LayerVaultModel", "entries", "I", false)
  | 2 => ("LayerVaultModel", "key", "[I", true)
  | 3 => ("LayerVaultModel", "serial", "[I", true)
  | 4 => ("LayerVaultModel", "value", "[I", true)
  | 5 => ("LayerVaultModel", "deletes", "[Z", true)
  | 6 => ("LayerVaultModel", "expires", "[I", true)
  | 7 => ("LayerVaultModel", "level", "[I", true)
  | 8 => ("LayerVaultModel", "stamp", "[I", true)
  | 9 => ("LayerVaultModel", "segmentOf", "[I", true)
  | 10 => ("LayerVaultModel", "cell", "[I", true)
  | 11 => ("LayerVaultModel", "chosen", "[Z", true)
  | 12 => ("LayerVaultModel", "falls", "[Z", true)
  | 13 => ("LayerVaultModel", "newest", "I", false)
  | 14 => ("LayerVaultModel", "zeroes", "I", false)
  | 15 => ("LayerVaultModel", "last", "I", false)
  | 16 => ("LayerVaultModel", "ready", "I", false)
  | 17 => ("LayerVaultModel", "readyKey", "[I", true)
  | 18 => ("LayerVaultModel", "readyValue", "[I", true)
  | 19 => ("LayerVaultModel", "readyLife", "[I", true)
  | 20 => ("LayerVaultModel", "taken", "[Z", true)
  | 21 => ("LayerVaultModel", "sees", "[I", true)
  | 22 => ("LayerVaultModel", "tail", "I", false)
  | 23 => ("LayerVaultModel", "head", "I", false)
  | 24 => ("LayerVaultModel", "used", "[I", true)
  | 25 => ("LayerVaultModel", "unsynced", "I", false)
  | 26 => ("LayerVaultModel", "firstSerial", "[I", true)
  | 27 => ("LayerVaultModel", "cells", "[I", true)
  | 28 => ("LayerVaultModel", "began", "[Z", true)
  | _ => ("LayerVaultModel", "probes", "I", false)
abbrev am_cl : List vw_C := [("LayerVault", am_T0, 14), ("LayerVault$Entry", am_T1, 8), ("LayerVault$Row", am_T2, 3), ("LayerVault$Table", am_T3, 2), ("LayerVault$Level", am_T4, 2), ("LayerVault$Log", am_T5, 7), ("LayerVault$Snapshots", am_T6, 1), ("LayerVaultModel", am_T7, 30)]
def am_tfs : List (List FieldType) := [[.object "LayerVault$Entry", .object "LayerVault$Row", .object "LayerVault$Row", .object "LayerVault$Level", .object "LayerVault$Level", .object "LayerVault$Level", .object "LayerVault$Row", .object "LayerVault$Row", .object "LayerVault$Log", .object "LayerVault$Snapshots", .int, .int, .int, .int],
  [.int, .int, .int, .boolean, .int, .int, .int, .int],
  [.object "LayerVault$Entry", .array (.object "LayerVault$Entry"), .int],
  [.object "LayerVault$Row", .int],
  [.array (.object "LayerVault$Table"), .int],
  [.array (.int), .int, .int, .array (.int), .array (.int), .array (.int), .int],
  [.array (.int)],
  [.int, .int, .array (.int), .array (.int), .array (.int), .array (.boolean), .array (.int), .array (.int), .array (.int), .array (.int), .array (.int), .array (.boolean), .array (.boolean), .int, .int, .int, .int, .array (.int), .array (.int), .array (.int), .array (.boolean), .array (.int), .int, .int, .array (.int), .int, .array (.int), .array (.int), .array (.boolean), .int]]
def am_tf (x y : Nat) : FieldType := (am_tfs.getD x []).getD y .int
def am_ft (x y : Nat) : Nat := match am_tf x y with
  | .int => 0
  | .boolean => 1
  | .object _ => 2
  | .array _ => 2
  | _ => 9
def am_dfs : List (List Value) := [[.null, .null, .null, .null, .null, .null, .null, .null, .null, .null, .int 0, .int 0, .int 0, .int 0],
  [.int 0, .int 0, .int 0, .int 0, .int 0, .int 0, .int 0, .int 0],
  [.null, .null, .int 0],
  [.null, .int 0],
  [.null, .int 0],
  [.null, .int 0, .int 0, .null, .null, .null, .int 0],
  [.null],
  [.int 0, .int 0, .null, .null, .null, .null, .null, .null, .null, .null, .null, .null, .null, .int 0, .int 0, .int 0, .int 0, .null, .null, .null, .null, .null, .int 0, .int 0, .null, .int 0, .null, .null, .null, .int 0]]
def am_df (x : Nat) : List Value := am_dfs.getD x []
def am_lp : List (List Nat) := [[219, 221, 223, 225, 227, 229, 231, 233, 235, 237, 239, 241, 243, 245], [94, 96, 98, 100, 102, 104, 106, 108], [122, 124, 126], [148, 150], [155, 157], [176, 178, 180, 182, 184, 186, 188], [202], [643, 645, 647, 649, 651, 653, 655, 657, 659, 661, 663, 665, 667, 669, 671, 673, 675, 677, 679, 681, 683, 685, 687, 689, 691, 693, 695, 697, 699, 701]]
def am_ec (t : Nat) : Nat := match t with
  | 2 => 1
  | _ => 3
abbrev am_N : Type := MethodName × ByteArray × Nat × Option FieldType × Nat × List Nat
def am_ms : List am_N := [(⟨"LayerVault", "<init>", "()V"⟩, prog_1_method_1_code, 1, none, 0, [65, 50, 64, 0]),
  (⟨"LayerVault$Entry", "<init>", "(IIIZ)V"⟩, prog_2_method_1_code, 5, none, 1, [73, 51, 72, 0]),
  (⟨"LayerVault$Row", "<init>", "(ILLayerVault$Entry;)V"⟩, prog_5_method_1_code, 4, none, 2, [115, 52, 114, 0]),
  (⟨"LayerVault$Level", "<init>", "(IILLayerVault$Entry;)V"⟩, prog_3_method_1_code, 5, none, 4, [133, 53, 132, 0]),
  (⟨"LayerVault$Table", "<init>", "(ILLayerVault$Entry;)V"⟩, prog_7_method_1_code, 3, none, 3, [140, 54, 139, 0]),
  (⟨"LayerVault", "tablesFor", "(I)I"⟩, prog_1_method_21_code, 1, some .int, 0, [162, 50, 161, 0]),
  (⟨"LayerVault$Log", "<init>", "()V"⟩, prog_4_method_1_code, 1, none, 5, [167, 55, 166, 0]),
  (⟨"LayerVault$Snapshots", "<init>", "()V"⟩, prog_6_method_1_code, 1, none, 6, [196, 56, 195, 0]),
  (⟨"java/util/Arrays", "fill", "([II)V"⟩, prog_12_method_103_code, 4, none, 99, [200, 57, 199, 0]),
  (⟨"LayerVault", "put", "(III)I"⟩, prog_1_method_2_code, 4, some .int, 0, [251, 50, 249, 250]),
  (⟨"LayerVault", "isKey", "(I)Z"⟩, prog_1_method_20_code, 1, some .boolean, 0, [254, 50, 253, 0]),
  (⟨"LayerVault", "makeReady", "(IIIZ)I"⟩, prog_1_method_24_code, 5, some .int, 0, [258, 50, 257, 0]),
  (⟨"LayerVault$Row", "size", "()I"⟩, prog_5_method_2_code, 1, some .int, 2, [262, 52, 260, 261]),
  (⟨"LayerVault$Row", "append", "(LLayerVault$Entry;)V"⟩, prog_5_method_6_code, 2, none, 2, [266, 52, 264, 265]),
  (⟨"LayerVault", "delete", "(I)I"⟩, prog_1_method_3_code, 2, some .int, 0, [270, 50, 268, 269]),
  (⟨"LayerVault", "commit", "()I"⟩, prog_1_method_4_code, 2, some .int, 0, [274, 50, 272, 273]),
  (⟨"LayerVault$Log", "isFullFor", "(I)Z"⟩, prog_4_method_6_code, 2, some .boolean, 5, [278, 55, 276, 277]),
  (⟨"LayerVault$Log", "needsNewHead", "(I)Z"⟩, prog_4_method_15_code, 2, some .boolean, 5, [282, 55, 281, 1]),
  (⟨"LayerVault", "emptyMemtable", "()I"⟩, prog_1_method_26_code, 3, some .int, 0, [286, 50, 285, 2]),
  (⟨"LayerVault$Level", "tableCount", "()I"⟩, prog_3_method_2_code, 1, some .int, 4, [290, 53, 288, 289]),
  (⟨"LayerVault", "mergeTop", "()I"⟩, prog_1_method_27_code, 2, some .int, 0, [294, 50, 293, 3]),
  (⟨"LayerVault", "mergePair", "(LLayerVault$Level;LLayerVault$Level;)I"⟩, prog_1_method_28_code, 4, some .int, 0, [298, 50, 297, 4]),
  (⟨"LayerVault$Row", "clear", "()V"⟩, prog_5_method_4_code, 1, none, 2, [302, 52, 300, 301]),
  (⟨"LayerVault$Level", "pourInto", "(LLayerVault$Row;)V"⟩, prog_3_method_6_code, 5, none, 4, [306, 53, 304, 305]),
  (⟨"LayerVault$Row", "at", "(I)LLayerVault$Entry;"⟩, prog_5_method_3_code, 2, some (.object "LayerVault$Entry"), 2, [311, 52, 309, 310]),
  (⟨"LayerVault$Row", "insertByKey", "(LLayerVault$Entry;)V"⟩, prog_5_method_7_code, 3, none, 2, [315, 52, 313, 314]),
  (⟨"LayerVault$Entry", "comesBefore", "(LLayerVault$Entry;)Z"⟩, prog_2_method_4_code, 2, some .boolean, 1, [319, 51, 317, 318]),
  (⟨"LayerVault$Row", "insertAt", "(ILLayerVault$Entry;)V"⟩, prog_5_method_14_code, 4, none, 2, [323, 52, 322, 5]),
  (⟨"LayerVault$Row", "dropUnseen", "(LLayerVault$Snapshots;)I"⟩, prog_5_method_12_code, 6, some .int, 2, [327, 52, 325, 326]),
  (⟨"LayerVault$Snapshots", "tellApart", "(LLayerVault$Entry;LLayerVault$Entry;)Z"⟩, prog_6_method_7_code, 4, some .boolean, 6, [331, 56, 329, 330]),
  (⟨"LayerVault$Row", "dropGone", "(I)I"⟩, prog_5_method_13_code, 6, some .int, 2, [335, 52, 333, 334]),
  (⟨"LayerVault$Entry", "isGone", "(I)Z"⟩, prog_2_method_3_code, 2, some .boolean, 1, [339, 51, 337, 338]),
  (⟨"LayerVault$Level", "cutFrom", "(LLayerVault$Row;)V"⟩, prog_3_method_5_code, 3, none, 4, [343, 53, 341, 342]),
  (⟨"LayerVault$Table", "fillFrom", "(LLayerVault$Row;II)V"⟩, prog_7_method_2_code, 5, none, 3, [351, 54, 349, 350]),
  (⟨"LayerVault$Table", "bitsOf", "(I)I"⟩, prog_7_method_5_code, 1, some .int, 3, [357, 54, 356, 0]),
  (⟨"LayerVault$Level", "addNewest", "(LLayerVault$Row;)V"⟩, prog_3_method_4_code, 4, none, 4, [363, 53, 361, 362]),
  (⟨"LayerVault$Log", "syncAll", "()I"⟩, prog_4_method_12_code, 2, some .int, 5, [367, 55, 365, 366]),
  (⟨"LayerVault", "writeBatch", "()V"⟩, prog_1_method_25_code, 3, none, 0, [371, 50, 370, 6]),
  (⟨"LayerVault$Log", "markUnsynced", "(I)V"⟩, prog_4_method_11_code, 2, none, 5, [375, 55, 373, 374]),
  (⟨"LayerVault$Log", "beginRecord", "(I)V"⟩, prog_4_method_8_code, 2, none, 5, [379, 55, 377, 378]),
  (⟨"LayerVault$Log", "place", "(LLayerVault$Entry;)V"⟩, prog_4_method_9_code, 2, none, 5, [383, 55, 381, 382]),
  (⟨"LayerVault$Log", "numberOf", "(I)I"⟩, prog_4_method_3_code, 2, some .int, 5, [387, 55, 385, 386]),
  (⟨"LayerVault", "sync", "()I"⟩, prog_1_method_5_code, 1, some .int, 0, [391, 50, 389, 390]),
  (⟨"LayerVault", "flush", "()I"⟩, prog_1_method_6_code, 1, some .int, 0, [395, 50, 393, 394]),
  (⟨"LayerVault", "merge", "(I)I"⟩, prog_1_method_7_code, 2, some .int, 0, [399, 50, 397, 398]),
  (⟨"LayerVault", "levelAt", "(I)LLayerVault$Level;"⟩, prog_1_method_22_code, 2, some (.object "LayerVault$Level"), 0, [403, 50, 402, 7]),
  (⟨"LayerVault", "collect", "()I"⟩, prog_1_method_8_code, 1, some .int, 0, [407, 50, 405, 406]),
  (⟨"LayerVault$Log", "segmentCount", "()I"⟩, prog_4_method_2_code, 1, some .int, 5, [411, 55, 409, 410]),
  (⟨"LayerVault", "gatherLiveOfTail", "()V"⟩, prog_1_method_29_code, 2, none, 0, [415, 50, 414, 8]),
  (⟨"LayerVault$Level", "listLive", "(ILLayerVault$Row;)V"⟩, prog_3_method_8_code, 4, none, 4, [420, 53, 418, 419]),
  (⟨"LayerVault$Row", "listLive", "(ILLayerVault$Row;)V"⟩, prog_5_method_11_code, 4, none, 2, [424, 52, 422, 423]),
  (⟨"LayerVault$Entry", "isLiveIn", "(I)Z"⟩, prog_2_method_5_code, 2, some .boolean, 1, [428, 51, 426, 427]),
  (⟨"LayerVault$Row", "insertByCell", "(LLayerVault$Entry;)V"⟩, prog_5_method_8_code, 3, none, 2, [432, 52, 430, 431]),
  (⟨"LayerVault$Log", "segmentsWith", "(I)I"⟩, prog_4_method_7_code, 6, some .int, 5, [436, 55, 434, 435]),
  (⟨"LayerVault", "writeMovedAgain", "()V"⟩, prog_1_method_30_code, 2, none, 0, [441, 50, 440, 9]),
  (⟨"LayerVault$Log", "dropTail", "()V"⟩, prog_4_method_10_code, 1, none, 5, [446, 55, 444, 445]),
  (⟨"LayerVault", "take", "()I"⟩, prog_1_method_9_code, 1, some .int, 0, [453, 50, 451, 452]),
  (⟨"LayerVault$Snapshots", "open", "(I)I"⟩, prog_6_method_3_code, 3, some .int, 6, [457, 56, 455, 456]),
  (⟨"LayerVault", "release", "(I)Z"⟩, prog_1_method_10_code, 2, some .boolean, 0, [461, 50, 459, 460]),
  (⟨"LayerVault$Snapshots", "close", "(I)Z"⟩, prog_6_method_4_code, 2, some .boolean, 6, [465, 56, 463, 464]),
  (⟨"LayerVault$Snapshots", "sightOf", "(I)I"⟩, prog_6_method_6_code, 2, some .int, 6, [469, 56, 467, 468]),
  (⟨"LayerVault", "tick", "(I)I"⟩, prog_1_method_11_code, 2, some .int, 0, [473, 50, 471, 472]),
  (⟨"LayerVault", "crash", "(I)I"⟩, prog_1_method_12_code, 4, some .int, 0, [477, 50, 475, 476]),
  (⟨"LayerVault$Snapshots", "closeAll", "()V"⟩, prog_6_method_5_code, 1, none, 6, [481, 56, 479, 480]),
  (⟨"LayerVault$Log", "unsyncedCount", "()I"⟩, prog_4_method_5_code, 1, some .int, 5, [485, 55, 483, 484]),
  (⟨"LayerVault", "loseRecordsFrom", "(I)V"⟩, prog_1_method_32_code, 3, none, 0, [492, 50, 491, 10]),
  (⟨"LayerVault$Log", "latestSerialBefore", "(I)I"⟩, prog_4_method_13_code, 2, some .int, 5, [496, 55, 494, 495]),
  (⟨"LayerVault$Row", "shorten", "(I)V"⟩, prog_5_method_5_code, 2, none, 2, [500, 52, 498, 499]),
  (⟨"LayerVault$Log", "rewindTo", "(I)V"⟩, prog_4_method_14_code, 2, none, 5, [505, 55, 503, 504]),
  (⟨"LayerVault", "has", "(II)Z"⟩, prog_1_method_13_code, 3, some .boolean, 0, [509, 50, 507, 508]),
  (⟨"LayerVault", "getEntry", "(II)LLayerVault$Entry;"⟩, prog_1_method_33_code, 5, some (.object "LayerVault$Entry"), 0, [513, 50, 512, 11]),
  (⟨"LayerVault", "sightOf", "(I)I"⟩, prog_1_method_23_code, 2, some .int, 0, [517, 50, 516, 12]),
  (⟨"LayerVault", "seek", "(II)LLayerVault$Entry;"⟩, prog_1_method_34_code, 5, some (.object "LayerVault$Entry"), 0, [522, 50, 521, 13]),
  (⟨"LayerVault$Row", "newestSeen", "(II)LLayerVault$Entry;"⟩, prog_5_method_9_code, 6, some (.object "LayerVault$Entry"), 2, [526, 52, 524, 525]),
  (⟨"LayerVault$Entry", "isBlank", "()Z"⟩, prog_2_method_2_code, 1, some .boolean, 1, [530, 51, 528, 529]),
  (⟨"LayerVault", "seekInLevel", "(LLayerVault$Level;II)LLayerVault$Entry;"⟩, prog_1_method_35_code, 7, some (.object "LayerVault$Entry"), 0, [534, 50, 533, 14]),
  (⟨"LayerVault$Level", "tableAt", "(I)LLayerVault$Table;"⟩, prog_3_method_3_code, 2, some (.object "LayerVault$Table"), 4, [538, 53, 536, 537]),
  (⟨"LayerVault$Table", "mayHold", "(I)Z"⟩, prog_7_method_3_code, 3, some .boolean, 3, [542, 54, 540, 541]),
  (⟨"LayerVault$Table", "firstKey", "()I"⟩, prog_7_method_6_code, 1, some .int, 3, [546, 54, 545, 15]),
  (⟨"LayerVault$Table", "lastKey", "()I"⟩, prog_7_method_7_code, 1, some .int, 3, [550, 54, 549, 16]),
  (⟨"LayerVault", "get", "(II)I"⟩, prog_1_method_14_code, 4, some .int, 0, [556, 50, 554, 555]),
  (⟨"LayerVault", "scan", "(III)I"⟩, prog_1_method_15_code, 7, some .int, 0, [560, 50, 558, 559]),
  (⟨"LayerVault", "probes", "()I"⟩, prog_1_method_16_code, 1, some .int, 0, [564, 50, 562, 563]),
  (⟨"LayerVault", "table", "(III)I"⟩, prog_1_method_17_code, 5, some .int, 0, [568, 50, 566, 567]),
  (⟨"LayerVault$Table", "tell", "(I)I"⟩, prog_7_method_4_code, 2, some .int, 3, [572, 54, 570, 571]),
  (⟨"LayerVault$Table", "greatestSerial", "()I"⟩, prog_7_method_8_code, 3, some .int, 3, [576, 54, 575, 17]),
  (⟨"LayerVault", "segment", "(II)I"⟩, prog_1_method_18_code, 3, some .int, 0, [581, 50, 579, 580]),
  (⟨"LayerVault$Log", "cellsTakenOf", "(I)I"⟩, prog_4_method_4_code, 2, some .int, 5, [585, 55, 583, 584]),
  (⟨"LayerVault", "countLive", "(I)I"⟩, prog_1_method_31_code, 4, some .int, 0, [589, 50, 588, 18]),
  (⟨"LayerVault$Row", "countLive", "(I)I"⟩, prog_5_method_10_code, 4, some .int, 2, [593, 52, 591, 592]),
  (⟨"LayerVault$Level", "countLive", "(I)I"⟩, prog_3_method_7_code, 4, some .int, 4, [597, 53, 595, 596]),
  (⟨"LayerVault", "look", "(I)I"⟩, prog_1_method_19_code, 2, some .int, 0, [602, 50, 600, 601]),
  (⟨"LayerVault$Snapshots", "count", "()I"⟩, prog_6_method_2_code, 3, some .int, 6, [606, 56, 604, 605]),
  (⟨"LayerVaultModel", "<init>", "()V"⟩, prog_9_method_1_code, 1, none, 7, [611, 58, 610, 0]),
  (⟨"LayerVaultModel", "put", "(III)I"⟩, prog_9_method_18_code, 4, some .int, 7, [708, 58, 706, 707]),
  (⟨"LayerVaultModel", "isKey", "(I)Z"⟩, prog_9_method_16_code, 1, some .boolean, 7, [711, 58, 710, 0]),
  (⟨"LayerVaultModel", "add", "(III)I"⟩, prog_9_method_17_code, 4, some .int, 7, [715, 58, 714, 19]),
  (⟨"LayerVaultModel", "delete", "(I)I"⟩, prog_9_method_19_code, 2, some .int, 7, [719, 58, 717, 718]),
  (⟨"LayerVaultModel", "commit", "()I"⟩, prog_9_method_20_code, 4, some .int, 7, [723, 58, 721, 722]),
  (⟨"LayerVaultModel", "needsHead", "(I)Z"⟩, prog_9_method_14_code, 2, some .boolean, 7, [727, 58, 726, 20]),
  (⟨"LayerVaultModel", "size", "(I)I"⟩, prog_9_method_3_code, 4, some .int, 7, [731, 58, 730, 21]),
  (⟨"LayerVaultModel", "flushAll", "()V"⟩, prog_9_method_13_code, 2, none, 7, [735, 58, 734, 22]),
  (⟨"LayerVaultModel", "mergeOf", "(I)I"⟩, prog_9_method_11_code, 3, some .int, 7, [739, 58, 738, 23]),
  (⟨"LayerVaultModel", "choose", "(II)V"⟩, prog_9_method_10_code, 4, none, 7, [743, 58, 742, 24]),
  (⟨"LayerVaultModel", "sift", "(I)I"⟩, prog_9_method_9_code, 4, some .int, 7, [747, 58, 746, 25]),
  (⟨"LayerVaultModel", "above", "(I)I"⟩, prog_9_method_6_code, 5, some .int, 7, [751, 58, 750, 26]),
  (⟨"LayerVaultModel", "parted", "(II)Z"⟩, prog_9_method_7_code, 5, some .boolean, 7, [755, 58, 754, 27]),
  (⟨"LayerVaultModel", "gone", "(I)Z"⟩, prog_9_method_2_code, 2, some .boolean, 7, [759, 58, 758, 28]),
  (⟨"LayerVaultModel", "isLowest", "(I)Z"⟩, prog_9_method_8_code, 4, some .boolean, 7, [763, 58, 762, 29]),
  (⟨"LayerVaultModel", "mergeNext", "()I"⟩, prog_9_method_12_code, 1, some .int, 7, [767, 58, 766, 30]),
  (⟨"LayerVaultModel", "arrange", "()V"⟩, prog_9_method_5_code, 4, none, 7, [771, 58, 770, 31]),
  (⟨"LayerVaultModel", "before", "(II)Z"⟩, prog_9_method_4_code, 3, some .boolean, 7, [775, 58, 774, 32]),
  (⟨"LayerVaultModel", "record", "(I)I"⟩, prog_9_method_15_code, 3, some .int, 7, [779, 58, 778, 33]),
  (⟨"LayerVaultModel", "sync", "()I"⟩, prog_9_method_21_code, 2, some .int, 7, [783, 58, 781, 782]),
  (⟨"LayerVaultModel", "flush", "()I"⟩, prog_9_method_22_code, 2, some .int, 7, [787, 58, 785, 786]),
  (⟨"LayerVaultModel", "merge", "(I)I"⟩, prog_9_method_23_code, 2, some .int, 7, [791, 58, 789, 790]),
  (⟨"LayerVaultModel", "collect", "()I"⟩, prog_9_method_28_code, 7, some .int, 7, [795, 58, 793, 794]),
  (⟨"LayerVaultModel", "liveIn", "(I)I"⟩, prog_9_method_25_code, 4, some .int, 7, [799, 58, 798, 34]),
  (⟨"LayerVaultModel", "isLive", "(II)Z"⟩, prog_9_method_24_code, 3, some .boolean, 7, [803, 58, 802, 35]),
  (⟨"LayerVaultModel", "headsFor", "(I)I"⟩, prog_9_method_27_code, 6, some .int, 7, [807, 58, 806, 36]),
  (⟨"LayerVaultModel", "nextLive", "()I"⟩, prog_9_method_26_code, 3, some .int, 7, [811, 58, 810, 37]),
  (⟨"LayerVaultModel", "take", "()I"⟩, prog_9_method_29_code, 2, some .int, 7, [815, 58, 813, 814]),
  (⟨"LayerVaultModel", "release", "(I)Z"⟩, prog_9_method_30_code, 3, some .boolean, 7, [819, 58, 817, 818]),
  (⟨"LayerVaultModel", "tick", "(I)I"⟩, prog_9_method_31_code, 2, some .int, 7, [823, 58, 821, 822]),
  (⟨"LayerVaultModel", "crash", "(I)I"⟩, prog_9_method_32_code, 5, some .int, 7, [827, 58, 825, 826]),
  (⟨"LayerVaultModel", "has", "(II)Z"⟩, prog_9_method_43_code, 4, some .boolean, 7, [831, 58, 829, 830]),
  (⟨"LayerVaultModel", "isView", "(I)Z"⟩, prog_9_method_33_code, 2, some .boolean, 7, [835, 58, 834, 38]),
  (⟨"LayerVaultModel", "find", "(II)I"⟩, prog_9_method_42_code, 6, some .int, 7, [839, 58, 838, 39]),
  (⟨"LayerVaultModel", "latest", "(IIII)I"⟩, prog_9_method_38_code, 8, some .int, 7, [843, 58, 842, 40]),
  (⟨"LayerVaultModel", "lies", "(III)Z"⟩, prog_9_method_37_code, 4, some .boolean, 7, [847, 58, 846, 41]),
  (⟨"LayerVaultModel", "tableOf", "(I)I"⟩, prog_9_method_35_code, 2, some .int, 7, [851, 58, 850, 42]),
  (⟨"LayerVaultModel", "isSeen", "(II)Z"⟩, prog_9_method_34_code, 3, some .boolean, 7, [855, 58, 854, 43]),
  (⟨"LayerVaultModel", "tables", "(I)I"⟩, prog_9_method_36_code, 2, some .int, 7, [859, 58, 858, 44]),
  (⟨"LayerVaultModel", "may", "(III)Z"⟩, prog_9_method_41_code, 6, some .boolean, 7, [863, 58, 862, 45]),
  (⟨"LayerVaultModel", "filter", "(II)I"⟩, prog_9_method_39_code, 5, some .int, 7, [867, 58, 866, 46]),
  (⟨"LayerVaultModel", "bound", "(IIZ)I"⟩, prog_9_method_40_code, 6, some .int, 7, [871, 58, 870, 47]),
  (⟨"LayerVaultModel", "get", "(II)I"⟩, prog_9_method_44_code, 4, some .int, 7, [875, 58, 873, 874]),
  (⟨"LayerVaultModel", "scan", "(III)I"⟩, prog_9_method_46_code, 6, some .int, 7, [879, 58, 877, 878]),
  (⟨"LayerVaultModel", "there", "(II)Z"⟩, prog_9_method_45_code, 6, some .boolean, 7, [883, 58, 882, 48]),
  (⟨"LayerVaultModel", "probes", "()I"⟩, prog_9_method_47_code, 1, some .int, 7, [887, 58, 885, 886]),
  (⟨"LayerVaultModel", "table", "(III)I"⟩, prog_9_method_48_code, 8, some .int, 7, [891, 58, 889, 890]),
  (⟨"LayerVaultModel", "segment", "(II)I"⟩, prog_9_method_49_code, 4, some .int, 7, [895, 58, 893, 894]),
  (⟨"LayerVaultModel", "look", "(I)I"⟩, prog_9_method_50_code, 2, some .int, 7, [899, 58, 897, 898]),
  (⟨"LayerVaultLaw", "law", "([I)Z"⟩, code, 4, some .boolean, 99, [])]
def am_m (j : Nat) : am_N := am_ms.getD j (⟨"", "", ""⟩, ⟨#[]⟩, 0, none, 99, [])
def am_y (j : Nat) : MethodName := (am_m j).1
def am_by (j : Nat) : ByteArray := (am_m j).2.1
def am_mx (j : Nat) : Nat := (am_m j).2.2.1
def am_rty (j : Nat) : Option FieldType := (am_m j).2.2.2.1
def am_kl (j : Nat) : Nat := (am_m j).2.2.2.2.1
def am_pp (j k : Nat) : Nat := ((am_m j).2.2.2.2.2).getD k 0
def am_rc (t : Option FieldType) : Nat := match t with
  | none => 0
  | some .int => 1
  | some .boolean => 2
  | some (.object _) => 3
  | _ => 9
def am_ret (j : Nat) : Nat := am_rc (am_rty j)
def am_t0 : List (Nat × am_I) := [(0, .aload_n 0, 1, 0, 0, 0, []),
  (1, .invokespecial 3, 3, 0, 99, 0, [66, 67, 68]),
  (4, .aload_n 0, 1, 0, 0, 0, []),
  (5, .new 9, 3, 1, 8, 0, [69, 70, 51]),
  (8, .dup, 1, 0, 0, 0, []),
  (9, .iconst (-1), 1, 0, 0, (-1), []),
  (10, .iconst 0, 1, 0, 0, 0, []),
  (11, .iconst 0, 1, 0, 0, 0, []),
  (12, .iconst 1, 1, 0, 0, 1, []),
  (13, .invokespecial 11, 3, 1, 5, 0, [0, 71]),
  (16, .putfield 14, 3, 0, 0, 0, [0, 205]),
  (19, .aload_n 0, 1, 0, 0, 0, []),
  (20, .new 18, 3, 2, 3, 0, [111, 112, 52]),
  (23, .dup, 1, 0, 0, 0, []),
  (24, .bipush 6, 2, 0, 0, 6, []),
  (26, .aload_n 0, 1, 0, 0, 0, []),
  (27, .getfield 14, 3, 0, 0, 0, [0, 205]),
  (30, .invokespecial 20, 3, 2, 3, 0, [0, 113]),
  (33, .putfield 23, 3, 0, 1, 0, [0, 206]),
  (36, .aload_n 0, 1, 0, 0, 0, []),
  (37, .new 18, 3, 2, 3, 0, [111, 112, 52]),
  (40, .dup, 1, 0, 0, 0, []),
  (41, .bipush 8, 2, 0, 0, 8, []),
  (43, .aload_n 0, 1, 0, 0, 0, []),
  (44, .getfield 14, 3, 0, 0, 0, [0, 205]),
  (47, .invokespecial 20, 3, 2, 3, 0, [0, 113]),
  (50, .putfield 27, 3, 0, 2, 0, [0, 207]),
  (53, .aload_n 0, 1, 0, 0, 0, []),
  (54, .new 30, 3, 4, 2, 0, [129, 130, 53]),
  (57, .dup, 1, 0, 0, 0, []),
  (58, .iconst 4, 1, 0, 0, 4, []),
  (59, .bipush 8, 2, 0, 0, 8, []),
  (61, .aload_n 0, 1, 0, 0, 0, []),
  (62, .getfield 14, 3, 0, 0, 0, [0, 205]),
  (65, .invokespecial 32, 3, 3, 4, 0, [0, 131]),
  (68, .putfield 35, 3, 0, 3, 0, [0, 208]),
  (71, .aload_n 0, 1, 0, 0, 0, []),
  (72, .new 30, 3, 4, 2, 0, [129, 130, 53]),
  (75, .dup, 1, 0, 0, 0, []),
  (76, .bipush 44, 2, 0, 0, 44, []),
  (78, .invokestatic 39, 3, 5, 1, 0, [0, 160]),
  (81, .bipush 6, 2, 0, 0, 6, []),
  (83, .aload_n 0, 1, 0, 0, 0, []),
  (84, .getfield 14, 3, 0, 0, 0, [0, 205]),
  (87, .invokespecial 32, 3, 3, 4, 0, [0, 131]),
  (90, .putfield 43, 3, 0, 4, 0, [0, 209]),
  (93, .aload_n 0, 1, 0, 0, 0, []),
  (94, .new 30, 3, 4, 2, 0, [129, 130, 53]),
  (97, .dup, 1, 0, 0, 0, []),
  (98, .sipush 128, 3, 0, 0, 128, []),
  (101, .invokestatic 39, 3, 5, 1, 0, [0, 160]),
  (104, .bipush 6, 2, 0, 0, 6, []),
  (106, .aload_n 0, 1, 0, 0, 0, []),
  (107, .getfield 14, 3, 0, 0, 0, [0, 205]),
  (110, .invokespecial 32, 3, 3, 4, 0, [0, 131]),
  (113, .putfield 46, 3, 0, 5, 0, [0, 210]),
  (116, .aload_n 0, 1, 0, 0, 0, []),
  (117, .new 18, 3, 2, 3, 0, [111, 112, 52]),
  (120, .dup, 1, 0, 0, 0, []),
  (121, .sipush 172, 3, 0, 0, 172, []),
  (124, .aload_n 0, 1, 0, 0, 0, []),
  (125, .getfield 14, 3, 0, 0, 0, [0, 205]),
  (128, .invokespecial 20, 3, 2, 3, 0, [0, 113]),
  (131, .putfield 49, 3, 0, 6, 0, [0, 211]),
  (134, .aload_n 0, 1, 0, 0, 0, []),
  (135, .new 18, 3, 2, 3, 0, [111, 112, 52]),
  (138, .dup, 1, 0, 0, 0, []),
  (139, .bipush 16, 2, 0, 0, 16, []),
  (141, .aload_n 0, 1, 0, 0, 0, []),
  (142, .getfield 14, 3, 0, 0, 0, [0, 205]),
  (145, .invokespecial 20, 3, 2, 3, 0, [0, 113]),
  (148, .putfield 52, 3, 0, 7, 0, [0, 212]),
  (151, .aload_n 0, 1, 0, 0, 0, []),
  (152, .new 55, 3, 5, 7, 0, [163, 164, 55]),
  (155, .dup, 1, 0, 0, 0, []),
  (156, .invokespecial 57, 3, 6, 1, 0, [1, 165]),
  (159, .putfield 58, 3, 0, 8, 0, [0, 213]),
  (162, .aload_n 0, 1, 0, 0, 0, []),
  (163, .new 62, 3, 6, 1, 0, [192, 193, 56]),
  (166, .dup, 1, 0, 0, 0, []),
  (167, .invokespecial 64, 3, 7, 1, 0, [0, 194]),
  (170, .putfield 65, 3, 0, 9, 0, [0, 214]),
  (173, .return_, 1, 0, 0, 0, [])]
def am_t1 : List (Nat × am_I) := [(0, .aload_n 0, 1, 0, 0, 0, []),
  (1, .invokespecial 3, 3, 0, 99, 0, [74, 67, 68]),
  (4, .aload_n 0, 1, 0, 0, 0, []),
  (5, .iload_n 1, 1, 1, 0, 0, []),
  (6, .putfield 9, 3, 1, 0, 0, [0, 75]),
  (9, .aload_n 0, 1, 0, 0, 0, []),
  (10, .iload_n 2, 1, 2, 0, 0, []),
  (11, .putfield 15, 3, 1, 1, 0, [0, 78]),
  (14, .aload_n 0, 1, 0, 0, 0, []),
  (15, .iload_n 3, 1, 3, 0, 0, []),
  (16, .putfield 18, 3, 1, 2, 0, [0, 80]),
  (19, .aload_n 0, 1, 0, 0, 0, []),
  (20, .iload 4, 2, 4, 0, 0, []),
  (22, .putfield 21, 3, 1, 3, 0, [0, 82]),
  (25, .return_, 1, 0, 0, 0, [])]
def am_t2 : List (Nat × am_I) := [(0, .aload_n 0, 1, 0, 0, 0, []),
  (1, .invokespecial 1, 3, 0, 99, 0, [116, 67, 68]),
  (4, .aload_n 0, 1, 0, 0, 0, []),
  (5, .aload_n 2, 1, 2, 0, 0, []),
  (6, .putfield 7, 3, 2, 0, 0, [0, 119]),
  (9, .aload_n 0, 1, 0, 0, 0, []),
  (10, .iload_n 1, 1, 1, 0, 0, []),
  (11, .anewarray 13, 3, 2, 0, 0, [117]),
  (14, .putfield 15, 3, 2, 1, 0, [0, 120]),
  (17, .iconst 0, 1, 0, 0, 0, []),
  (18, .istore_n 3, 1, 3, 0, 0, []),
  (19, .iload_n 3, 1, 3, 0, 0, []),
  (20, .iload_n 1, 1, 1, 0, 0, []),
  (21, .if_icmp .ge 16, 3, 37, 0, 0, []),
  (24, .aload_n 0, 1, 0, 0, 0, []),
  (25, .getfield 15, 3, 2, 1, 0, [0, 120]),
  (28, .iload_n 3, 1, 3, 0, 0, []),
  (29, .aload_n 2, 1, 2, 0, 0, []),
  (30, .aastore, 1, 0, 0, 0, []),
  (31, .iinc 3 1, 3, 3, 0, 1, []),
  (34, .goto (-15), 3, 19, 0, 0, []),
  (37, .return_, 1, 0, 0, 0, [])]
def am_t3 : List (Nat × am_I) := [(0, .aload_n 0, 1, 0, 0, 0, []),
  (1, .invokespecial 3, 3, 0, 99, 0, [134, 67, 68]),
  (4, .aload_n 0, 1, 0, 0, 0, []),
  (5, .iload_n 1, 1, 1, 0, 0, []),
  (6, .anewarray 9, 3, 3, 0, 0, [135]),
  (9, .putfield 11, 3, 4, 0, 0, [0, 153]),
  (12, .iconst 0, 1, 0, 0, 0, []),
  (13, .istore 4, 2, 4, 0, 0, []),
  (15, .iload 4, 2, 4, 0, 0, []),
  (17, .iload_n 1, 1, 1, 0, 0, []),
  (18, .if_icmp .ge 25, 3, 43, 0, 0, []),
  (21, .aload_n 0, 1, 0, 0, 0, []),
  (22, .getfield 11, 3, 4, 0, 0, [0, 153]),
  (25, .iload 4, 2, 4, 0, 0, []),
  (27, .new 9, 3, 3, 2, 0, [135, 137, 54]),
  (30, .dup, 1, 0, 0, 0, []),
  (31, .iload_n 2, 1, 2, 0, 0, []),
  (32, .aload_n 3, 1, 3, 0, 0, []),
  (33, .invokespecial 17, 3, 4, 3, 0, [0, 138]),
  (36, .aastore, 1, 0, 0, 0, []),
  (37, .iinc 4 1, 3, 4, 0, 1, []),
  (40, .goto (-25), 3, 15, 0, 0, []),
  (43, .return_, 1, 0, 0, 0, [])]
def am_t4 : List (Nat × am_I) := [(0, .aload_n 0, 1, 0, 0, 0, []),
  (1, .invokespecial 3, 3, 0, 99, 0, [141, 67, 68]),
  (4, .aload_n 0, 1, 0, 0, 0, []),
  (5, .new 9, 3, 2, 3, 0, [142, 112, 52]),
  (8, .dup, 1, 0, 0, 0, []),
  (9, .iload_n 1, 1, 1, 0, 0, []),
  (10, .aload_n 2, 1, 2, 0, 0, []),
  (11, .invokespecial 11, 3, 2, 3, 0, [0, 143]),
  (14, .putfield 14, 3, 3, 0, 0, [0, 144]),
  (17, .return_, 1, 0, 0, 0, [])]
def am_t5 : List (Nat × am_I) := [(0, .iload_n 0, 1, 0, 0, 0, []),
  (1, .bipush 6, 2, 0, 0, 6, []),
  (3, .iadd, 1, 0, 0, 0, []),
  (4, .iconst 1, 1, 0, 0, 1, []),
  (5, .isub, 1, 0, 0, 0, []),
  (6, .bipush 6, 2, 0, 0, 6, []),
  (8, .idiv, 1, 0, 0, 0, []),
  (9, .ireturn, 1, 0, 0, 0, [])]
def am_t6 : List (Nat × am_I) := [(0, .aload_n 0, 1, 0, 0, 0, []),
  (1, .invokespecial 3, 3, 0, 99, 0, [168, 67, 68]),
  (4, .aload_n 0, 1, 0, 0, 0, []),
  (5, .bipush 8, 2, 0, 0, 8, []),
  (7, .newarray .int, 2, 0, 0, 0, [191]),
  (9, .putfield 9, 3, 5, 0, 0, [0, 169]),
  (12, .aload_n 0, 1, 0, 0, 0, []),
  (13, .iconst 1, 1, 0, 0, 1, []),
  (14, .putfield 15, 3, 5, 2, 0, [0, 171]),
  (17, .aload_n 0, 1, 0, 0, 0, []),
  (18, .bipush 8, 2, 0, 0, 8, []),
  (20, .newarray .int, 2, 0, 0, 0, [191]),
  (22, .putfield 19, 3, 5, 3, 0, [0, 172]),
  (25, .aload_n 0, 1, 0, 0, 0, []),
  (26, .bipush 8, 2, 0, 0, 8, []),
  (28, .newarray .int, 2, 0, 0, 0, [191]),
  (30, .putfield 22, 3, 5, 4, 0, [0, 173]),
  (33, .aload_n 0, 1, 0, 0, 0, []),
  (34, .bipush 8, 2, 0, 0, 8, []),
  (36, .newarray .int, 2, 0, 0, 0, [191]),
  (38, .putfield 25, 3, 5, 5, 0, [0, 174]),
  (41, .return_, 1, 0, 0, 0, [])]
def am_t7 : List (Nat × am_I) := [(0, .aload_n 0, 1, 0, 0, 0, []),
  (1, .invokespecial 3, 3, 0, 99, 0, [197, 67, 68]),
  (4, .aload_n 0, 1, 0, 0, 0, []),
  (5, .iconst 3, 1, 0, 0, 3, []),
  (6, .newarray .int, 2, 0, 0, 0, [191]),
  (8, .putfield 9, 3, 6, 0, 0, [0, 201]),
  (11, .aload_n 0, 1, 0, 0, 0, []),
  (12, .getfield 9, 3, 6, 0, 0, [0, 201]),
  (15, .iconst (-1), 1, 0, 0, (-1), []),
  (16, .invokestatic 15, 3, 8, 2, 0, [0, 198]),
  (19, .return_, 1, 0, 0, 0, [])]
def am_t8 : List (Nat × am_I) := [(0, .iconst 0, 1, 0, 0, 0, []),
  (1, .istore_n 2, 1, 2, 0, 0, []),
  (2, .aload_n 0, 1, 0, 0, 0, []),
  (3, .arraylength, 1, 0, 0, 0, []),
  (4, .istore_n 3, 1, 3, 0, 0, []),
  (5, .iload_n 2, 1, 2, 0, 0, []),
  (6, .iload_n 3, 1, 3, 0, 0, []),
  (7, .if_icmp .ge 13, 3, 20, 0, 0, []),
  (10, .aload_n 0, 1, 0, 0, 0, []),
  (11, .iload_n 2, 1, 2, 0, 0, []),
  (12, .iload_n 1, 1, 1, 0, 0, []),
  (13, .iastore, 1, 0, 0, 0, []),
  (14, .iinc 2 1, 3, 2, 0, 1, []),
  (17, .goto (-12), 3, 5, 0, 0, []),
  (20, .return_, 1, 0, 0, 0, [])]
def am_t9 : List (Nat × am_I) := [(0, .iload_n 1, 1, 1, 0, 0, []),
  (1, .invokestatic 69, 3, 10, 1, 0, [0, 252]),
  (4, .ifCond .eq 14, 3, 18, 0, 0, []),
  (7, .iload_n 3, 1, 3, 0, 0, []),
  (8, .ifCond .lt 10, 3, 18, 0, 0, []),
  (11, .iload_n 3, 1, 3, 0, 0, []),
  (12, .sipush 1000, 3, 0, 0, 1000, []),
  (15, .if_icmp .le 5, 3, 20, 0, 0, []),
  (18, .iconst (-1), 1, 0, 0, (-1), []),
  (19, .ireturn, 1, 0, 0, 0, []),
  (20, .aload_n 0, 1, 0, 0, 0, []),
  (21, .iload_n 1, 1, 1, 0, 0, []),
  (22, .iload_n 2, 1, 2, 0, 0, []),
  (23, .iload_n 3, 1, 3, 0, 0, []),
  (24, .iconst 0, 1, 0, 0, 0, []),
  (25, .invokevirtual 73, 3, 11, 5, 0, [0, 255]),
  (28, .ireturn, 1, 0, 0, 0, [])]
def am_t10 : List (Nat × am_I) := [(0, .iload_n 0, 1, 0, 0, 0, []),
  (1, .ifCond .lt 13, 3, 14, 0, 0, []),
  (4, .iload_n 0, 1, 0, 0, 0, []),
  (5, .bipush 32, 2, 0, 0, 32, []),
  (7, .if_icmp .ge 7, 3, 14, 0, 0, []),
  (10, .iconst 1, 1, 0, 0, 1, []),
  (11, .goto 4, 3, 15, 0, 0, []),
  (14, .iconst 0, 1, 0, 0, 0, []),
  (15, .ireturn, 1, 0, 0, 0, [])]
def am_t11 : List (Nat × am_I) := [(0, .aload_n 0, 1, 0, 0, 0, []),
  (1, .getfield 23, 3, 0, 1, 0, [0, 206]),
  (4, .invokevirtual 77, 3, 12, 1, 0, [0, 259]),
  (7, .bipush 6, 2, 0, 0, 6, []),
  (9, .if_icmp .lt 6, 3, 15, 0, 0, []),
  (12, .bipush (-3), 2, 0, 0, (-3), []),
  (14, .ireturn, 1, 0, 0, 0, []),
  (15, .aload_n 0, 1, 0, 0, 0, []),
  (16, .getfield 23, 3, 0, 1, 0, [0, 206]),
  (19, .new 9, 3, 1, 8, 0, [69, 70, 51]),
  (22, .dup, 1, 0, 0, 0, []),
  (23, .iload_n 1, 1, 1, 0, 0, []),
  (24, .iload_n 2, 1, 2, 0, 0, []),
  (25, .iload_n 3, 1, 3, 0, 0, []),
  (26, .iload 4, 2, 4, 0, 0, []),
  (28, .invokespecial 11, 3, 1, 5, 0, [0, 71]),
  (31, .invokevirtual 198, 3, 13, 2, 0, [0, 263]),
  (34, .aload_n 0, 1, 0, 0, 0, []),
  (35, .getfield 23, 3, 0, 1, 0, [0, 206]),
  (38, .invokevirtual 77, 3, 12, 1, 0, [0, 259]),
  (41, .ireturn, 1, 0, 0, 0, [])]
def am_t12 : List (Nat × am_I) := [(0, .aload_n 0, 1, 0, 0, 0, []),
  (1, .getfield 19, 3, 2, 2, 0, [0, 121]),
  (4, .ireturn, 1, 0, 0, 0, [])]
def am_t13 : List (Nat × am_I) := [(0, .aload_n 0, 1, 0, 0, 0, []),
  (1, .getfield 19, 3, 2, 2, 0, [0, 121]),
  (4, .aload_n 0, 1, 0, 0, 0, []),
  (5, .getfield 15, 3, 2, 1, 0, [0, 120]),
  (8, .arraylength, 1, 0, 0, 0, []),
  (9, .if_icmp .ge 23, 3, 32, 0, 0, []),
  (12, .aload_n 0, 1, 0, 0, 0, []),
  (13, .getfield 15, 3, 2, 1, 0, [0, 120]),
  (16, .aload_n 0, 1, 0, 0, 0, []),
  (17, .getfield 19, 3, 2, 2, 0, [0, 121]),
  (20, .aload_n 1, 1, 1, 0, 0, []),
  (21, .aastore, 1, 0, 0, 0, []),
  (22, .aload_n 0, 1, 0, 0, 0, []),
  (23, .dup, 1, 0, 0, 0, []),
  (24, .getfield 19, 3, 2, 2, 0, [0, 121]),
  (27, .iconst 1, 1, 0, 0, 1, []),
  (28, .iadd, 1, 0, 0, 0, []),
  (29, .putfield 19, 3, 2, 2, 0, [0, 121]),
  (32, .return_, 1, 0, 0, 0, [])]
def am_t14 : List (Nat × am_I) := [(0, .iload_n 1, 1, 1, 0, 0, []),
  (1, .invokestatic 69, 3, 10, 1, 0, [0, 252]),
  (4, .ifCond .ne 5, 3, 9, 0, 0, []),
  (7, .iconst (-1), 1, 0, 0, (-1), []),
  (8, .ireturn, 1, 0, 0, 0, []),
  (9, .aload_n 0, 1, 0, 0, 0, []),
  (10, .iload_n 1, 1, 1, 0, 0, []),
  (11, .iconst 0, 1, 0, 0, 0, []),
  (12, .iconst 0, 1, 0, 0, 0, []),
  (13, .iconst 1, 1, 0, 0, 1, []),
  (14, .invokevirtual 73, 3, 11, 5, 0, [0, 255]),
  (17, .ireturn, 1, 0, 0, 0, [])]
def am_t15 : List (Nat × am_I) := [(0, .aload_n 0, 1, 0, 0, 0, []),
  (1, .getfield 23, 3, 0, 1, 0, [0, 206]),
  (4, .invokevirtual 77, 3, 12, 1, 0, [0, 259]),
  (7, .istore_n 1, 1, 1, 0, 0, []),
  (8, .iload_n 1, 1, 1, 0, 0, []),
  (9, .ifCond .ne 6, 3, 15, 0, 0, []),
  (12, .bipush (-2), 2, 0, 0, (-2), []),
  (14, .ireturn, 1, 0, 0, 0, []),
  (15, .aload_n 0, 1, 0, 0, 0, []),
  (16, .getfield 58, 3, 0, 8, 0, [0, 213]),
  (19, .iload_n 1, 1, 1, 0, 0, []),
  (20, .invokevirtual 81, 3, 16, 2, 0, [0, 275]),
  (23, .ifCond .eq 6, 3, 29, 0, 0, []),
  (26, .bipush (-3), 2, 0, 0, (-3), []),
  (28, .ireturn, 1, 0, 0, 0, []),
  (29, .aload_n 0, 1, 0, 0, 0, []),
  (30, .getfield 27, 3, 0, 2, 0, [0, 207]),
  (33, .invokevirtual 77, 3, 12, 1, 0, [0, 259]),
  (36, .iload_n 1, 1, 1, 0, 0, []),
  (37, .iadd, 1, 0, 0, 0, []),
  (38, .bipush 8, 2, 0, 0, 8, []),
  (40, .if_icmp .le 8, 3, 48, 0, 0, []),
  (43, .aload_n 0, 1, 0, 0, 0, []),
  (44, .invokevirtual 84, 3, 18, 1, 0, [0, 283]),
  (47, .pop, 1, 0, 0, 0, []),
  (48, .aload_n 0, 1, 0, 0, 0, []),
  (49, .invokevirtual 87, 3, 37, 1, 0, [0, 368]),
  (52, .iload_n 1, 1, 1, 0, 0, []),
  (53, .ireturn, 1, 0, 0, 0, [])]
def am_t16 : List (Nat × am_I) := [(0, .aload_n 0, 1, 0, 0, 0, []),
  (1, .iload_n 1, 1, 1, 0, 0, []),
  (2, .invokevirtual 34, 3, 17, 2, 0, [0, 279]),
  (5, .ifCond .eq 16, 3, 21, 0, 0, []),
  (8, .aload_n 0, 1, 0, 0, 0, []),
  (9, .getfield 15, 3, 5, 2, 0, [0, 171]),
  (12, .bipush 8, 2, 0, 0, 8, []),
  (14, .if_icmp .lt 7, 3, 21, 0, 0, []),
  (17, .iconst 1, 1, 0, 0, 1, []),
  (18, .goto 4, 3, 22, 0, 0, []),
  (21, .iconst 0, 1, 0, 0, 0, []),
  (22, .ireturn, 1, 0, 0, 0, [])]
def am_t17 : List (Nat × am_I) := [(0, .aload_n 0, 1, 0, 0, 0, []),
  (1, .getfield 9, 3, 5, 0, 0, [0, 169]),
  (4, .aload_n 0, 1, 0, 0, 0, []),
  (5, .getfield 15, 3, 5, 2, 0, [0, 171]),
  (8, .iconst 1, 1, 0, 0, 1, []),
  (9, .isub, 1, 0, 0, 0, []),
  (10, .iaload, 1, 0, 0, 0, []),
  (11, .iconst 1, 1, 0, 0, 1, []),
  (12, .iadd, 1, 0, 0, 0, []),
  (13, .iload_n 1, 1, 1, 0, 0, []),
  (14, .iadd, 1, 0, 0, 0, []),
  (15, .bipush 16, 2, 0, 0, 16, []),
  (17, .if_icmp .le 7, 3, 24, 0, 0, []),
  (20, .iconst 1, 1, 0, 0, 1, []),
  (21, .goto 4, 3, 25, 0, 0, []),
  (24, .iconst 0, 1, 0, 0, 0, []),
  (25, .ireturn, 1, 0, 0, 0, [])]
def am_t18 : List (Nat × am_I) := [(0, .aload_n 0, 1, 0, 0, 0, []),
  (1, .getfield 27, 3, 0, 2, 0, [0, 207]),
  (4, .invokevirtual 77, 3, 12, 1, 0, [0, 259]),
  (7, .istore_n 1, 1, 1, 0, 0, []),
  (8, .iload_n 1, 1, 1, 0, 0, []),
  (9, .ifCond .ne 5, 3, 14, 0, 0, []),
  (12, .iconst 0, 1, 0, 0, 0, []),
  (13, .ireturn, 1, 0, 0, 0, []),
  (14, .aload_n 0, 1, 0, 0, 0, []),
  (15, .getfield 35, 3, 0, 3, 0, [0, 208]),
  (18, .invokevirtual 97, 3, 19, 1, 0, [0, 287]),
  (21, .iconst 4, 1, 0, 0, 4, []),
  (22, .if_icmp .lt 8, 3, 30, 0, 0, []),
  (25, .aload_n 0, 1, 0, 0, 0, []),
  (26, .invokevirtual 100, 3, 20, 1, 0, [0, 291]),
  (29, .pop, 1, 0, 0, 0, []),
  (30, .aload_n 0, 1, 0, 0, 0, []),
  (31, .getfield 49, 3, 0, 6, 0, [0, 211]),
  (34, .invokevirtual 138, 3, 22, 1, 0, [0, 299]),
  (37, .iconst 0, 1, 0, 0, 0, []),
  (38, .istore_n 2, 1, 2, 0, 0, []),
  (39, .iload_n 2, 1, 2, 0, 0, []),
  (40, .iload_n 1, 1, 1, 0, 0, []),
  (41, .if_icmp .ge 24, 3, 65, 0, 0, []),
  (44, .aload_n 0, 1, 0, 0, 0, []),
  (45, .getfield 49, 3, 0, 6, 0, [0, 211]),
  (48, .aload_n 0, 1, 0, 0, 0, []),
  (49, .getfield 27, 3, 0, 2, 0, [0, 207]),
  (52, .iload_n 2, 1, 2, 0, 0, []),
  (53, .invokevirtual 208, 3, 24, 2, 0, [0, 358]),
  (56, .invokevirtual 224, 3, 25, 2, 0, [0, 359]),
  (59, .iinc 2 1, 3, 2, 0, 1, []),
  (62, .goto (-23), 3, 39, 0, 0, []),
  (65, .aload_n 0, 1, 0, 0, 0, []),
  (66, .getfield 27, 3, 0, 2, 0, [0, 207]),
  (69, .invokevirtual 138, 3, 22, 1, 0, [0, 299]),
  (72, .aload_n 0, 1, 0, 0, 0, []),
  (73, .getfield 49, 3, 0, 6, 0, [0, 211]),
  (76, .aload_n 0, 1, 0, 0, 0, []),
  (77, .getfield 65, 3, 0, 9, 0, [0, 214]),
  (80, .invokevirtual 227, 3, 28, 2, 0, [0, 324]),
  (83, .pop, 1, 0, 0, 0, []),
  (84, .aload_n 0, 1, 0, 0, 0, []),
  (85, .getfield 35, 3, 0, 3, 0, [0, 208]),
  (88, .aload_n 0, 1, 0, 0, 0, []),
  (89, .getfield 49, 3, 0, 6, 0, [0, 211]),
  (92, .invokevirtual 231, 3, 35, 2, 0, [0, 360]),
  (95, .aload_n 0, 1, 0, 0, 0, []),
  (96, .getfield 58, 3, 0, 8, 0, [0, 213]),
  (99, .invokevirtual 90, 3, 36, 1, 0, [0, 364]),
  (102, .pop, 1, 0, 0, 0, []),
  (103, .iload_n 1, 1, 1, 0, 0, []),
  (104, .ireturn, 1, 0, 0, 0, [])]
def am_t19 : List (Nat × am_I) := [(0, .aload_n 0, 1, 0, 0, 0, []),
  (1, .getfield 20, 3, 4, 1, 0, [0, 154]),
  (4, .ireturn, 1, 0, 0, 0, [])]
def am_t20 : List (Nat × am_I) := [(0, .aload_n 0, 1, 0, 0, 0, []),
  (1, .aload_n 0, 1, 0, 0, 0, []),
  (2, .getfield 35, 3, 0, 3, 0, [0, 208]),
  (5, .aload_n 0, 1, 0, 0, 0, []),
  (6, .getfield 43, 3, 0, 4, 0, [0, 209]),
  (9, .invokevirtual 103, 3, 21, 3, 0, [0, 295]),
  (12, .istore_n 1, 1, 1, 0, 0, []),
  (13, .aload_n 0, 1, 0, 0, 0, []),
  (14, .getfield 49, 3, 0, 6, 0, [0, 211]),
  (17, .invokevirtual 77, 3, 12, 1, 0, [0, 259]),
  (20, .bipush 12, 2, 0, 0, 12, []),
  (22, .if_icmp .le 18, 3, 40, 0, 0, []),
  (25, .iload_n 1, 1, 1, 0, 0, []),
  (26, .aload_n 0, 1, 0, 0, 0, []),
  (27, .aload_n 0, 1, 0, 0, 0, []),
  (28, .getfield 43, 3, 0, 4, 0, [0, 209]),
  (31, .aload_n 0, 1, 0, 0, 0, []),
  (32, .getfield 46, 3, 0, 5, 0, [0, 210]),
  (35, .invokevirtual 103, 3, 21, 3, 0, [0, 295]),
  (38, .iadd, 1, 0, 0, 0, []),
  (39, .istore_n 1, 1, 1, 0, 0, []),
  (40, .iload_n 1, 1, 1, 0, 0, []),
  (41, .ireturn, 1, 0, 0, 0, [])]
def am_t21 : List (Nat × am_I) := [(0, .aload_n 0, 1, 0, 0, 0, []),
  (1, .getfield 49, 3, 0, 6, 0, [0, 211]),
  (4, .invokevirtual 138, 3, 22, 1, 0, [0, 299]),
  (7, .aload_n 2, 1, 2, 0, 0, []),
  (8, .aload_n 0, 1, 0, 0, 0, []),
  (9, .getfield 49, 3, 0, 6, 0, [0, 211]),
  (12, .invokevirtual 235, 3, 23, 2, 0, [0, 303]),
  (15, .aload_n 1, 1, 1, 0, 0, []),
  (16, .aload_n 0, 1, 0, 0, 0, []),
  (17, .getfield 49, 3, 0, 6, 0, [0, 211]),
  (20, .invokevirtual 235, 3, 23, 2, 0, [0, 303]),
  (23, .aload_n 0, 1, 0, 0, 0, []),
  (24, .getfield 49, 3, 0, 6, 0, [0, 211]),
  (27, .aload_n 0, 1, 0, 0, 0, []),
  (28, .getfield 65, 3, 0, 9, 0, [0, 214]),
  (31, .invokevirtual 227, 3, 28, 2, 0, [0, 324]),
  (34, .istore_n 3, 1, 3, 0, 0, []),
  (35, .aload_n 2, 1, 2, 0, 0, []),
  (36, .aload_n 0, 1, 0, 0, 0, []),
  (37, .getfield 46, 3, 0, 5, 0, [0, 210]),
  (40, .if_acmp .ne 17, 3, 57, 0, 0, []),
  (43, .iload_n 3, 1, 3, 0, 0, []),
  (44, .aload_n 0, 1, 0, 0, 0, []),
  (45, .getfield 49, 3, 0, 6, 0, [0, 211]),
  (48, .aload_n 0, 1, 0, 0, 0, []),
  (49, .getfield 132, 3, 0, 10, 0, [0, 215]),
  (52, .invokevirtual 238, 3, 30, 2, 0, [0, 332]),
  (55, .iadd, 1, 0, 0, 0, []),
  (56, .istore_n 3, 1, 3, 0, 0, []),
  (57, .aload_n 2, 1, 2, 0, 0, []),
  (58, .aload_n 0, 1, 0, 0, 0, []),
  (59, .getfield 49, 3, 0, 6, 0, [0, 211]),
  (62, .invokevirtual 241, 3, 32, 2, 0, [0, 340]),
  (65, .iload_n 3, 1, 3, 0, 0, []),
  (66, .ireturn, 1, 0, 0, 0, [])]
def am_t22 : List (Nat × am_I) := [(0, .aload_n 0, 1, 0, 0, 0, []),
  (1, .iconst 0, 1, 0, 0, 0, []),
  (2, .putfield 19, 3, 2, 2, 0, [0, 121]),
  (5, .return_, 1, 0, 0, 0, [])]
def am_t23 : List (Nat × am_I) := [(0, .iconst 0, 1, 0, 0, 0, []),
  (1, .istore_n 2, 1, 2, 0, 0, []),
  (2, .iload_n 2, 1, 2, 0, 0, []),
  (3, .aload_n 0, 1, 0, 0, 0, []),
  (4, .getfield 20, 3, 4, 1, 0, [0, 154]),
  (7, .if_icmp .ge 47, 3, 54, 0, 0, []),
  (10, .aload_n 0, 1, 0, 0, 0, []),
  (11, .getfield 11, 3, 4, 0, 0, [0, 153]),
  (14, .iload_n 2, 1, 2, 0, 0, []),
  (15, .aaload, 1, 0, 0, 0, []),
  (16, .getfield 44, 3, 3, 0, 0, [0, 145]),
  (19, .astore_n 3, 1, 3, 0, 0, []),
  (20, .iconst 0, 1, 0, 0, 0, []),
  (21, .istore 4, 2, 4, 0, 0, []),
  (23, .iload 4, 2, 4, 0, 0, []),
  (25, .aload_n 3, 1, 3, 0, 0, []),
  (26, .invokevirtual 24, 3, 12, 1, 0, [0, 307]),
  (29, .if_icmp .ge 19, 3, 48, 0, 0, []),
  (32, .aload_n 1, 1, 1, 0, 0, []),
  (33, .aload_n 3, 1, 3, 0, 0, []),
  (34, .iload 4, 2, 4, 0, 0, []),
  (36, .invokevirtual 48, 3, 24, 2, 0, [0, 308]),
  (39, .invokevirtual 52, 3, 25, 2, 0, [0, 312]),
  (42, .iinc 4 1, 3, 4, 0, 1, []),
  (45, .goto (-22), 3, 23, 0, 0, []),
  (48, .iinc 2 1, 3, 2, 0, 1, []),
  (51, .goto (-49), 3, 2, 0, 0, []),
  (54, .aload_n 0, 1, 0, 0, 0, []),
  (55, .iconst 0, 1, 0, 0, 0, []),
  (56, .putfield 20, 3, 4, 1, 0, [0, 154]),
  (59, .return_, 1, 0, 0, 0, [])]
def am_t24 : List (Nat × am_I) := [(0, .iload_n 1, 1, 1, 0, 0, []),
  (1, .ifCond .lt 20, 3, 21, 0, 0, []),
  (4, .iload_n 1, 1, 1, 0, 0, []),
  (5, .aload_n 0, 1, 0, 0, 0, []),
  (6, .getfield 19, 3, 2, 2, 0, [0, 121]),
  (9, .if_icmp .ge 12, 3, 21, 0, 0, []),
  (12, .aload_n 0, 1, 0, 0, 0, []),
  (13, .getfield 15, 3, 2, 1, 0, [0, 120]),
  (16, .iload_n 1, 1, 1, 0, 0, []),
  (17, .aaload, 1, 0, 0, 0, []),
  (18, .goto 7, 3, 25, 0, 0, []),
  (21, .aload_n 0, 1, 0, 0, 0, []),
  (22, .getfield 7, 3, 2, 0, 0, [0, 119]),
  (25, .areturn, 1, 0, 0, 0, [])]
def am_t25 : List (Nat × am_I) := [(0, .aload_n 0, 1, 0, 0, 0, []),
  (1, .getfield 19, 3, 2, 2, 0, [0, 121]),
  (4, .istore_n 2, 1, 2, 0, 0, []),
  (5, .iload_n 2, 1, 2, 0, 0, []),
  (6, .ifCond .le 24, 3, 30, 0, 0, []),
  (9, .aload_n 1, 1, 1, 0, 0, []),
  (10, .aload_n 0, 1, 0, 0, 0, []),
  (11, .getfield 15, 3, 2, 1, 0, [0, 120]),
  (14, .iload_n 2, 1, 2, 0, 0, []),
  (15, .iconst 1, 1, 0, 0, 1, []),
  (16, .isub, 1, 0, 0, 0, []),
  (17, .aaload, 1, 0, 0, 0, []),
  (18, .invokevirtual 29, 3, 26, 2, 0, [0, 316]),
  (21, .ifCond .eq 9, 3, 30, 0, 0, []),
  (24, .iinc 2 (-1), 3, 2, 0, (-1), []),
  (27, .goto (-22), 3, 5, 0, 0, []),
  (30, .aload_n 0, 1, 0, 0, 0, []),
  (31, .iload_n 2, 1, 2, 0, 0, []),
  (32, .aload_n 1, 1, 1, 0, 0, []),
  (33, .invokevirtual 33, 3, 27, 3, 0, [0, 320]),
  (36, .return_, 1, 0, 0, 0, [])]
def am_t26 : List (Nat × am_I) := [(0, .aload_n 0, 1, 0, 0, 0, []),
  (1, .getfield 9, 3, 1, 0, 0, [0, 75]),
  (4, .aload_n 1, 1, 1, 0, 0, []),
  (5, .getfield 9, 3, 1, 0, 0, [0, 75]),
  (8, .if_icmp .lt 25, 3, 33, 0, 0, []),
  (11, .aload_n 0, 1, 0, 0, 0, []),
  (12, .getfield 9, 3, 1, 0, 0, [0, 75]),
  (15, .aload_n 1, 1, 1, 0, 0, []),
  (16, .getfield 9, 3, 1, 0, 0, [0, 75]),
  (19, .if_icmp .ne 18, 3, 37, 0, 0, []),
  (22, .aload_n 0, 1, 0, 0, 0, []),
  (23, .getfield 28, 3, 1, 4, 0, [0, 83]),
  (26, .aload_n 1, 1, 1, 0, 0, []),
  (27, .getfield 28, 3, 1, 4, 0, [0, 83]),
  (30, .if_icmp .le 7, 3, 37, 0, 0, []),
  (33, .iconst 1, 1, 0, 0, 1, []),
  (34, .goto 4, 3, 38, 0, 0, []),
  (37, .iconst 0, 1, 0, 0, 0, []),
  (38, .ireturn, 1, 0, 0, 0, [])]
def am_t27 : List (Nat × am_I) := [(0, .aload_n 0, 1, 0, 0, 0, []),
  (1, .getfield 19, 3, 2, 2, 0, [0, 121]),
  (4, .aload_n 0, 1, 0, 0, 0, []),
  (5, .getfield 15, 3, 2, 1, 0, [0, 120]),
  (8, .arraylength, 1, 0, 0, 0, []),
  (9, .if_icmp .lt 4, 3, 13, 0, 0, []),
  (12, .return_, 1, 0, 0, 0, []),
  (13, .aload_n 0, 1, 0, 0, 0, []),
  (14, .getfield 19, 3, 2, 2, 0, [0, 121]),
  (17, .istore_n 3, 1, 3, 0, 0, []),
  (18, .iload_n 3, 1, 3, 0, 0, []),
  (19, .iload_n 1, 1, 1, 0, 0, []),
  (20, .if_icmp .le 23, 3, 43, 0, 0, []),
  (23, .aload_n 0, 1, 0, 0, 0, []),
  (24, .getfield 15, 3, 2, 1, 0, [0, 120]),
  (27, .iload_n 3, 1, 3, 0, 0, []),
  (28, .aload_n 0, 1, 0, 0, 0, []),
  (29, .getfield 15, 3, 2, 1, 0, [0, 120]),
  (32, .iload_n 3, 1, 3, 0, 0, []),
  (33, .iconst 1, 1, 0, 0, 1, []),
  (34, .isub, 1, 0, 0, 0, []),
  (35, .aaload, 1, 0, 0, 0, []),
  (36, .aastore, 1, 0, 0, 0, []),
  (37, .iinc 3 (-1), 3, 3, 0, (-1), []),
  (40, .goto (-22), 3, 18, 0, 0, []),
  (43, .aload_n 0, 1, 0, 0, 0, []),
  (44, .getfield 15, 3, 2, 1, 0, [0, 120]),
  (47, .iload_n 1, 1, 1, 0, 0, []),
  (48, .aload_n 2, 1, 2, 0, 0, []),
  (49, .aastore, 1, 0, 0, 0, []),
  (50, .aload_n 0, 1, 0, 0, 0, []),
  (51, .dup, 1, 0, 0, 0, []),
  (52, .getfield 19, 3, 2, 2, 0, [0, 121]),
  (55, .iconst 1, 1, 0, 0, 1, []),
  (56, .iadd, 1, 0, 0, 0, []),
  (57, .putfield 19, 3, 2, 2, 0, [0, 121]),
  (60, .return_, 1, 0, 0, 0, [])]
def am_t28 : List (Nat × am_I) := [(0, .iconst 0, 1, 0, 0, 0, []),
  (1, .istore_n 2, 1, 2, 0, 0, []),
  (2, .aload_n 0, 1, 0, 0, 0, []),
  (3, .getfield 7, 3, 2, 0, 0, [0, 119]),
  (6, .astore_n 3, 1, 3, 0, 0, []),
  (7, .iconst 0, 1, 0, 0, 0, []),
  (8, .istore 4, 2, 4, 0, 0, []),
  (10, .iload 4, 2, 4, 0, 0, []),
  (12, .aload_n 0, 1, 0, 0, 0, []),
  (13, .getfield 19, 3, 2, 2, 0, [0, 121]),
  (16, .if_icmp .ge 54, 3, 70, 0, 0, []),
  (19, .aload_n 0, 1, 0, 0, 0, []),
  (20, .getfield 15, 3, 2, 1, 0, [0, 120]),
  (23, .iload 4, 2, 4, 0, 0, []),
  (25, .aaload, 1, 0, 0, 0, []),
  (26, .astore 5, 2, 5, 0, 0, []),
  (28, .aload 5, 2, 5, 0, 0, []),
  (30, .getfield 40, 3, 1, 0, 0, [0, 77]),
  (33, .aload_n 3, 1, 3, 0, 0, []),
  (34, .getfield 40, 3, 1, 0, 0, [0, 77]),
  (37, .if_icmp .ne 13, 3, 50, 0, 0, []),
  (40, .aload_n 1, 1, 1, 0, 0, []),
  (41, .aload 5, 2, 5, 0, 0, []),
  (43, .aload_n 3, 1, 3, 0, 0, []),
  (44, .invokevirtual 54, 3, 29, 3, 0, [0, 328]),
  (47, .ifCond .eq 14, 3, 61, 0, 0, []),
  (50, .aload_n 0, 1, 0, 0, 0, []),
  (51, .getfield 15, 3, 2, 1, 0, [0, 120]),
  (54, .iload_n 2, 1, 2, 0, 0, []),
  (55, .aload 5, 2, 5, 0, 0, []),
  (57, .aastore, 1, 0, 0, 0, []),
  (58, .iinc 2 1, 3, 2, 0, 1, []),
  (61, .aload 5, 2, 5, 0, 0, []),
  (63, .astore_n 3, 1, 3, 0, 0, []),
  (64, .iinc 4 1, 3, 4, 0, 1, []),
  (67, .goto (-57), 3, 10, 0, 0, []),
  (70, .aload_n 0, 1, 0, 0, 0, []),
  (71, .getfield 19, 3, 2, 2, 0, [0, 121]),
  (74, .iload_n 2, 1, 2, 0, 0, []),
  (75, .isub, 1, 0, 0, 0, []),
  (76, .istore 4, 2, 4, 0, 0, []),
  (78, .aload_n 0, 1, 0, 0, 0, []),
  (79, .iload_n 2, 1, 2, 0, 0, []),
  (80, .putfield 19, 3, 2, 2, 0, [0, 121]),
  (83, .iload 4, 2, 4, 0, 0, []),
  (85, .ireturn, 1, 0, 0, 0, [])]
def am_t29 : List (Nat × am_I) := [(0, .iconst 0, 1, 0, 0, 0, []),
  (1, .istore_n 3, 1, 3, 0, 0, []),
  (2, .iload_n 3, 1, 3, 0, 0, []),
  (3, .iconst 3, 1, 0, 0, 3, []),
  (4, .if_icmp .ge 37, 3, 41, 0, 0, []),
  (7, .aload_n 0, 1, 0, 0, 0, []),
  (8, .getfield 9, 3, 6, 0, 0, [0, 201]),
  (11, .iload_n 3, 1, 3, 0, 0, []),
  (12, .iaload, 1, 0, 0, 0, []),
  (13, .aload_n 1, 1, 1, 0, 0, []),
  (14, .getfield 25, 3, 1, 4, 0, [0, 84]),
  (17, .if_icmp .lt 18, 3, 35, 0, 0, []),
  (20, .aload_n 0, 1, 0, 0, 0, []),
  (21, .getfield 9, 3, 6, 0, 0, [0, 201]),
  (24, .iload_n 3, 1, 3, 0, 0, []),
  (25, .iaload, 1, 0, 0, 0, []),
  (26, .aload_n 2, 1, 2, 0, 0, []),
  (27, .getfield 25, 3, 1, 4, 0, [0, 84]),
  (30, .if_icmp .ge 5, 3, 35, 0, 0, []),
  (33, .iconst 1, 1, 0, 0, 1, []),
  (34, .ireturn, 1, 0, 0, 0, []),
  (35, .iinc 3 1, 3, 3, 0, 1, []),
  (38, .goto (-36), 3, 2, 0, 0, []),
  (41, .iconst 0, 1, 0, 0, 0, []),
  (42, .ireturn, 1, 0, 0, 0, [])]
def am_t30 : List (Nat × am_I) := [(0, .aload_n 0, 1, 0, 0, 0, []),
  (1, .getfield 19, 3, 2, 2, 0, [0, 121]),
  (4, .istore_n 2, 1, 2, 0, 0, []),
  (5, .aload_n 0, 1, 0, 0, 0, []),
  (6, .getfield 7, 3, 2, 0, 0, [0, 119]),
  (9, .astore_n 3, 1, 3, 0, 0, []),
  (10, .aload_n 0, 1, 0, 0, 0, []),
  (11, .getfield 19, 3, 2, 2, 0, [0, 121]),
  (14, .iconst 1, 1, 0, 0, 1, []),
  (15, .isub, 1, 0, 0, 0, []),
  (16, .istore 4, 2, 4, 0, 0, []),
  (18, .iload 4, 2, 4, 0, 0, []),
  (20, .ifCond .lt 53, 3, 73, 0, 0, []),
  (23, .aload_n 0, 1, 0, 0, 0, []),
  (24, .getfield 15, 3, 2, 1, 0, [0, 120]),
  (27, .iload 4, 2, 4, 0, 0, []),
  (29, .aaload, 1, 0, 0, 0, []),
  (30, .astore 5, 2, 5, 0, 0, []),
  (32, .aload 5, 2, 5, 0, 0, []),
  (34, .getfield 40, 3, 1, 0, 0, [0, 77]),
  (37, .aload_n 3, 1, 3, 0, 0, []),
  (38, .getfield 40, 3, 1, 0, 0, [0, 77]),
  (41, .if_icmp .eq 12, 3, 53, 0, 0, []),
  (44, .aload 5, 2, 5, 0, 0, []),
  (46, .iload_n 1, 1, 1, 0, 0, []),
  (47, .invokevirtual 60, 3, 31, 2, 0, [0, 336]),
  (50, .ifCond .ne 17, 3, 67, 0, 0, []),
  (53, .iinc 2 (-1), 3, 2, 0, (-1), []),
  (56, .aload_n 0, 1, 0, 0, 0, []),
  (57, .getfield 15, 3, 2, 1, 0, [0, 120]),
  (60, .iload_n 2, 1, 2, 0, 0, []),
  (61, .aload 5, 2, 5, 0, 0, []),
  (63, .aastore, 1, 0, 0, 0, []),
  (64, .aload 5, 2, 5, 0, 0, []),
  (66, .astore_n 3, 1, 3, 0, 0, []),
  (67, .iinc 4 (-1), 3, 4, 0, (-1), []),
  (70, .goto (-52), 3, 18, 0, 0, []),
  (73, .aload_n 0, 1, 0, 0, 0, []),
  (74, .dup, 1, 0, 0, 0, []),
  (75, .getfield 19, 3, 2, 2, 0, [0, 121]),
  (78, .iload_n 2, 1, 2, 0, 0, []),
  (79, .isub, 1, 0, 0, 0, []),
  (80, .putfield 19, 3, 2, 2, 0, [0, 121]),
  (83, .iconst 0, 1, 0, 0, 0, []),
  (84, .istore 4, 2, 4, 0, 0, []),
  (86, .iload 4, 2, 4, 0, 0, []),
  (88, .aload_n 0, 1, 0, 0, 0, []),
  (89, .getfield 19, 3, 2, 2, 0, [0, 121]),
  (92, .if_icmp .ge 25, 3, 117, 0, 0, []),
  (95, .aload_n 0, 1, 0, 0, 0, []),
  (96, .getfield 15, 3, 2, 1, 0, [0, 120]),
  (99, .iload 4, 2, 4, 0, 0, []),
  (101, .aload_n 0, 1, 0, 0, 0, []),
  (102, .getfield 15, 3, 2, 1, 0, [0, 120]),
  (105, .iload_n 2, 1, 2, 0, 0, []),
  (106, .iload 4, 2, 4, 0, 0, []),
  (108, .iadd, 1, 0, 0, 0, []),
  (109, .aaload, 1, 0, 0, 0, []),
  (110, .aastore, 1, 0, 0, 0, []),
  (111, .iinc 4 1, 3, 4, 0, 1, []),
  (114, .goto (-28), 3, 86, 0, 0, []),
  (117, .iload_n 2, 1, 2, 0, 0, []),
  (118, .ireturn, 1, 0, 0, 0, [])]
def am_t31 : List (Nat × am_I) := [(0, .aload_n 0, 1, 0, 0, 0, []),
  (1, .getfield 21, 3, 1, 3, 0, [0, 82]),
  (4, .ifCond .ne 18, 3, 22, 0, 0, []),
  (7, .aload_n 0, 1, 0, 0, 0, []),
  (8, .getfield 18, 3, 1, 2, 0, [0, 80]),
  (11, .ifCond .le 15, 3, 26, 0, 0, []),
  (14, .iload_n 1, 1, 1, 0, 0, []),
  (15, .aload_n 0, 1, 0, 0, 0, []),
  (16, .getfield 25, 3, 1, 5, 0, [0, 88]),
  (19, .if_icmp .lt 7, 3, 26, 0, 0, []),
  (22, .iconst 1, 1, 0, 0, 1, []),
  (23, .goto 4, 3, 27, 0, 0, []),
  (26, .iconst 0, 1, 0, 0, 0, []),
  (27, .ireturn, 1, 0, 0, 0, [])]
def am_t32 : List (Nat × am_I) := [(0, .aload_n 0, 1, 0, 0, 0, []),
  (1, .aload_n 1, 1, 1, 0, 0, []),
  (2, .invokevirtual 24, 3, 12, 1, 0, [0, 307]),
  (5, .invokestatic 34, 3, 5, 1, 0, [1, 344]),
  (8, .aload_n 0, 1, 0, 0, 0, []),
  (9, .getfield 11, 3, 4, 0, 0, [0, 153]),
  (12, .arraylength, 1, 0, 0, 0, []),
  (13, .invokestatic 38, 3, 0, 91, 0, [345, 346, 59, 347]),
  (16, .putfield 20, 3, 4, 1, 0, [0, 154]),
  (19, .iconst 0, 1, 0, 0, 0, []),
  (20, .istore_n 2, 1, 2, 0, 0, []),
  (21, .iload_n 2, 1, 2, 0, 0, []),
  (22, .aload_n 0, 1, 0, 0, 0, []),
  (23, .getfield 20, 3, 4, 1, 0, [0, 154]),
  (26, .if_icmp .ge 37, 3, 63, 0, 0, []),
  (29, .aload_n 0, 1, 0, 0, 0, []),
  (30, .getfield 11, 3, 4, 0, 0, [0, 153]),
  (33, .iload_n 2, 1, 2, 0, 0, []),
  (34, .aaload, 1, 0, 0, 0, []),
  (35, .aload_n 1, 1, 1, 0, 0, []),
  (36, .iload_n 2, 1, 2, 0, 0, []),
  (37, .bipush 6, 2, 0, 0, 6, []),
  (39, .imul, 1, 0, 0, 0, []),
  (40, .iload_n 2, 1, 2, 0, 0, []),
  (41, .bipush 6, 2, 0, 0, 6, []),
  (43, .imul, 1, 0, 0, 0, []),
  (44, .bipush 6, 2, 0, 0, 6, []),
  (46, .iadd, 1, 0, 0, 0, []),
  (47, .aload_n 1, 1, 1, 0, 0, []),
  (48, .invokevirtual 24, 3, 12, 1, 0, [0, 307]),
  (51, .invokestatic 38, 3, 0, 91, 0, [345, 346, 59, 347]),
  (54, .invokevirtual 30, 3, 33, 4, 0, [0, 348]),
  (57, .iinc 2 1, 3, 2, 0, 1, []),
  (60, .goto (-39), 3, 21, 0, 0, []),
  (63, .return_, 1, 0, 0, 0, [])]
def am_t33 : List (Nat × am_I) := [(0, .aload_n 0, 1, 0, 0, 0, []),
  (1, .getfield 14, 3, 3, 0, 0, [0, 144]),
  (4, .invokevirtual 20, 3, 22, 1, 0, [0, 352]),
  (7, .aload_n 0, 1, 0, 0, 0, []),
  (8, .iconst 0, 1, 0, 0, 0, []),
  (9, .putfield 23, 3, 3, 1, 0, [0, 147]),
  (12, .iload_n 2, 1, 2, 0, 0, []),
  (13, .istore 4, 2, 4, 0, 0, []),
  (15, .iload 4, 2, 4, 0, 0, []),
  (17, .iload_n 3, 1, 3, 0, 0, []),
  (18, .if_icmp .ge 43, 3, 61, 0, 0, []),
  (21, .aload_n 0, 1, 0, 0, 0, []),
  (22, .getfield 14, 3, 3, 0, 0, [0, 144]),
  (25, .aload_n 1, 1, 1, 0, 0, []),
  (26, .iload 4, 2, 4, 0, 0, []),
  (28, .invokevirtual 27, 3, 24, 2, 0, [0, 353]),
  (31, .invokevirtual 31, 3, 13, 2, 0, [0, 354]),
  (34, .aload_n 0, 1, 0, 0, 0, []),
  (35, .dup, 1, 0, 0, 0, []),
  (36, .getfield 23, 3, 3, 1, 0, [0, 147]),
  (39, .aload_n 1, 1, 1, 0, 0, []),
  (40, .iload 4, 2, 4, 0, 0, []),
  (42, .invokevirtual 27, 3, 24, 2, 0, [0, 353]),
  (45, .getfield 35, 3, 1, 0, 0, [0, 76]),
  (48, .invokestatic 40, 3, 34, 1, 0, [0, 355]),
  (51, .ior, 1, 0, 0, 0, []),
  (52, .putfield 23, 3, 3, 1, 0, [0, 147]),
  (55, .iinc 4 1, 3, 4, 0, 1, []),
  (58, .goto (-43), 3, 15, 0, 0, []),
  (61, .return_, 1, 0, 0, 0, [])]
def am_t34 : List (Nat × am_I) := [(0, .iconst 1, 1, 0, 0, 1, []),
  (1, .iconst 5, 1, 0, 0, 5, []),
  (2, .iload_n 0, 1, 0, 0, 0, []),
  (3, .imul, 1, 0, 0, 0, []),
  (4, .iconst 1, 1, 0, 0, 1, []),
  (5, .iadd, 1, 0, 0, 0, []),
  (6, .bipush 32, 2, 0, 0, 32, []),
  (8, .irem, 1, 0, 0, 0, []),
  (9, .ishl, 1, 0, 0, 0, []),
  (10, .iconst 1, 1, 0, 0, 1, []),
  (11, .bipush 11, 2, 0, 0, 11, []),
  (13, .iload_n 0, 1, 0, 0, 0, []),
  (14, .imul, 1, 0, 0, 0, []),
  (15, .bipush 7, 2, 0, 0, 7, []),
  (17, .iadd, 1, 0, 0, 0, []),
  (18, .bipush 32, 2, 0, 0, 32, []),
  (20, .irem, 1, 0, 0, 0, []),
  (21, .ishl, 1, 0, 0, 0, []),
  (22, .ior, 1, 0, 0, 0, []),
  (23, .ireturn, 1, 0, 0, 0, [])]
def am_t35 : List (Nat × am_I) := [(0, .aload_n 0, 1, 0, 0, 0, []),
  (1, .getfield 20, 3, 4, 1, 0, [0, 154]),
  (4, .aload_n 0, 1, 0, 0, 0, []),
  (5, .getfield 11, 3, 4, 0, 0, [0, 153]),
  (8, .arraylength, 1, 0, 0, 0, []),
  (9, .if_icmp .lt 4, 3, 13, 0, 0, []),
  (12, .return_, 1, 0, 0, 0, []),
  (13, .aload_n 0, 1, 0, 0, 0, []),
  (14, .getfield 11, 3, 4, 0, 0, [0, 153]),
  (17, .aload_n 0, 1, 0, 0, 0, []),
  (18, .getfield 20, 3, 4, 1, 0, [0, 154]),
  (21, .aaload, 1, 0, 0, 0, []),
  (22, .astore_n 2, 1, 2, 0, 0, []),
  (23, .aload_n 0, 1, 0, 0, 0, []),
  (24, .getfield 20, 3, 4, 1, 0, [0, 154]),
  (27, .istore_n 3, 1, 3, 0, 0, []),
  (28, .iload_n 3, 1, 3, 0, 0, []),
  (29, .ifCond .le 23, 3, 52, 0, 0, []),
  (32, .aload_n 0, 1, 0, 0, 0, []),
  (33, .getfield 11, 3, 4, 0, 0, [0, 153]),
  (36, .iload_n 3, 1, 3, 0, 0, []),
  (37, .aload_n 0, 1, 0, 0, 0, []),
  (38, .getfield 11, 3, 4, 0, 0, [0, 153]),
  (41, .iload_n 3, 1, 3, 0, 0, []),
  (42, .iconst 1, 1, 0, 0, 1, []),
  (43, .isub, 1, 0, 0, 0, []),
  (44, .aaload, 1, 0, 0, 0, []),
  (45, .aastore, 1, 0, 0, 0, []),
  (46, .iinc 3 (-1), 3, 3, 0, (-1), []),
  (49, .goto (-21), 3, 28, 0, 0, []),
  (52, .aload_n 0, 1, 0, 0, 0, []),
  (53, .getfield 11, 3, 4, 0, 0, [0, 153]),
  (56, .iconst 0, 1, 0, 0, 0, []),
  (57, .aload_n 2, 1, 2, 0, 0, []),
  (58, .aastore, 1, 0, 0, 0, []),
  (59, .aload_n 2, 1, 2, 0, 0, []),
  (60, .aload_n 1, 1, 1, 0, 0, []),
  (61, .iconst 0, 1, 0, 0, 0, []),
  (62, .aload_n 1, 1, 1, 0, 0, []),
  (63, .invokevirtual 24, 3, 12, 1, 0, [0, 307]),
  (66, .invokevirtual 30, 3, 33, 4, 0, [0, 348]),
  (69, .aload_n 0, 1, 0, 0, 0, []),
  (70, .dup, 1, 0, 0, 0, []),
  (71, .getfield 20, 3, 4, 1, 0, [0, 154]),
  (74, .iconst 1, 1, 0, 0, 1, []),
  (75, .iadd, 1, 0, 0, 0, []),
  (76, .putfield 20, 3, 4, 1, 0, [0, 154]),
  (79, .return_, 1, 0, 0, 0, [])]
def am_t36 : List (Nat × am_I) := [(0, .aload_n 0, 1, 0, 0, 0, []),
  (1, .getfield 31, 3, 5, 6, 0, [0, 175]),
  (4, .istore_n 1, 1, 1, 0, 0, []),
  (5, .aload_n 0, 1, 0, 0, 0, []),
  (6, .iconst 0, 1, 0, 0, 0, []),
  (7, .putfield 31, 3, 5, 6, 0, [0, 175]),
  (10, .iload_n 1, 1, 1, 0, 0, []),
  (11, .ireturn, 1, 0, 0, 0, [])]
def am_t37 : List (Nat × am_I) := [(0, .aload_n 0, 1, 0, 0, 0, []),
  (1, .getfield 58, 3, 0, 8, 0, [0, 213]),
  (4, .aload_n 0, 1, 0, 0, 0, []),
  (5, .getfield 122, 3, 0, 11, 0, [0, 216]),
  (8, .invokevirtual 202, 3, 38, 2, 0, [0, 372]),
  (11, .aload_n 0, 1, 0, 0, 0, []),
  (12, .getfield 58, 3, 0, 8, 0, [0, 213]),
  (15, .aload_n 0, 1, 0, 0, 0, []),
  (16, .getfield 23, 3, 0, 1, 0, [0, 206]),
  (19, .invokevirtual 77, 3, 12, 1, 0, [0, 259]),
  (22, .invokevirtual 205, 3, 39, 2, 0, [0, 376]),
  (25, .iconst 0, 1, 0, 0, 0, []),
  (26, .istore_n 1, 1, 1, 0, 0, []),
  (27, .iload_n 1, 1, 1, 0, 0, []),
  (28, .aload_n 0, 1, 0, 0, 0, []),
  (29, .getfield 23, 3, 0, 1, 0, [0, 206]),
  (32, .invokevirtual 77, 3, 12, 1, 0, [0, 259]),
  (35, .if_icmp .ge 65, 3, 100, 0, 0, []),
  (38, .aload_n 0, 1, 0, 0, 0, []),
  (39, .getfield 23, 3, 0, 1, 0, [0, 206]),
  (42, .iload_n 1, 1, 1, 0, 0, []),
  (43, .invokevirtual 208, 3, 24, 2, 0, [0, 358]),
  (46, .astore_n 2, 1, 2, 0, 0, []),
  (47, .aload_n 0, 1, 0, 0, 0, []),
  (48, .dup, 1, 0, 0, 0, []),
  (49, .getfield 122, 3, 0, 11, 0, [0, 216]),
  (52, .iconst 1, 1, 0, 0, 1, []),
  (53, .iadd, 1, 0, 0, 0, []),
  (54, .putfield 122, 3, 0, 11, 0, [0, 216]),
  (57, .aload_n 2, 1, 2, 0, 0, []),
  (58, .aload_n 0, 1, 0, 0, 0, []),
  (59, .getfield 122, 3, 0, 11, 0, [0, 216]),
  (62, .putfield 212, 3, 1, 4, 0, [0, 87]),
  (65, .aload_n 2, 1, 2, 0, 0, []),
  (66, .aload_n 0, 1, 0, 0, 0, []),
  (67, .getfield 132, 3, 0, 10, 0, [0, 215]),
  (70, .aload_n 2, 1, 2, 0, 0, []),
  (71, .getfield 215, 3, 1, 2, 0, [0, 81]),
  (74, .iadd, 1, 0, 0, 0, []),
  (75, .putfield 218, 3, 1, 5, 0, [0, 89]),
  (78, .aload_n 0, 1, 0, 0, 0, []),
  (79, .getfield 58, 3, 0, 8, 0, [0, 213]),
  (82, .aload_n 2, 1, 2, 0, 0, []),
  (83, .invokevirtual 221, 3, 40, 2, 0, [0, 380]),
  (86, .aload_n 0, 1, 0, 0, 0, []),
  (87, .getfield 27, 3, 0, 2, 0, [0, 207]),
  (90, .aload_n 2, 1, 2, 0, 0, []),
  (91, .invokevirtual 198, 3, 13, 2, 0, [0, 263]),
  (94, .iinc 1 1, 3, 1, 0, 1, []),
  (97, .goto (-70), 3, 27, 0, 0, []),
  (100, .aload_n 0, 1, 0, 0, 0, []),
  (101, .getfield 23, 3, 0, 1, 0, [0, 206]),
  (104, .invokevirtual 138, 3, 22, 1, 0, [0, 299]),
  (107, .return_, 1, 0, 0, 0, [])]
def am_t38 : List (Nat × am_I) := [(0, .aload_n 0, 1, 0, 0, 0, []),
  (1, .getfield 31, 3, 5, 6, 0, [0, 175]),
  (4, .bipush 8, 2, 0, 0, 8, []),
  (6, .if_icmp .lt 4, 3, 10, 0, 0, []),
  (9, .return_, 1, 0, 0, 0, []),
  (10, .aload_n 0, 1, 0, 0, 0, []),
  (11, .getfield 19, 3, 5, 3, 0, [0, 172]),
  (14, .aload_n 0, 1, 0, 0, 0, []),
  (15, .getfield 31, 3, 5, 6, 0, [0, 175]),
  (18, .aload_n 0, 1, 0, 0, 0, []),
  (19, .getfield 15, 3, 5, 2, 0, [0, 171]),
  (22, .iastore, 1, 0, 0, 0, []),
  (23, .aload_n 0, 1, 0, 0, 0, []),
  (24, .getfield 22, 3, 5, 4, 0, [0, 173]),
  (27, .aload_n 0, 1, 0, 0, 0, []),
  (28, .getfield 31, 3, 5, 6, 0, [0, 175]),
  (31, .aload_n 0, 1, 0, 0, 0, []),
  (32, .getfield 9, 3, 5, 0, 0, [0, 169]),
  (35, .aload_n 0, 1, 0, 0, 0, []),
  (36, .getfield 15, 3, 5, 2, 0, [0, 171]),
  (39, .iconst 1, 1, 0, 0, 1, []),
  (40, .isub, 1, 0, 0, 0, []),
  (41, .iaload, 1, 0, 0, 0, []),
  (42, .iastore, 1, 0, 0, 0, []),
  (43, .aload_n 0, 1, 0, 0, 0, []),
  (44, .getfield 25, 3, 5, 5, 0, [0, 174]),
  (47, .aload_n 0, 1, 0, 0, 0, []),
  (48, .getfield 31, 3, 5, 6, 0, [0, 175]),
  (51, .iload_n 1, 1, 1, 0, 0, []),
  (52, .iastore, 1, 0, 0, 0, []),
  (53, .aload_n 0, 1, 0, 0, 0, []),
  (54, .dup, 1, 0, 0, 0, []),
  (55, .getfield 31, 3, 5, 6, 0, [0, 175]),
  (58, .iconst 1, 1, 0, 0, 1, []),
  (59, .iadd, 1, 0, 0, 0, []),
  (60, .putfield 31, 3, 5, 6, 0, [0, 175]),
  (63, .return_, 1, 0, 0, 0, [])]
def am_t39 : List (Nat × am_I) := [(0, .aload_n 0, 1, 0, 0, 0, []),
  (1, .iload_n 1, 1, 1, 0, 0, []),
  (2, .invokevirtual 34, 3, 17, 2, 0, [0, 279]),
  (5, .ifCond .eq 32, 3, 37, 0, 0, []),
  (8, .aload_n 0, 1, 0, 0, 0, []),
  (9, .getfield 15, 3, 5, 2, 0, [0, 171]),
  (12, .bipush 8, 2, 0, 0, 8, []),
  (14, .if_icmp .ge 23, 3, 37, 0, 0, []),
  (17, .aload_n 0, 1, 0, 0, 0, []),
  (18, .getfield 9, 3, 5, 0, 0, [0, 169]),
  (21, .aload_n 0, 1, 0, 0, 0, []),
  (22, .getfield 15, 3, 5, 2, 0, [0, 171]),
  (25, .iconst 0, 1, 0, 0, 0, []),
  (26, .iastore, 1, 0, 0, 0, []),
  (27, .aload_n 0, 1, 0, 0, 0, []),
  (28, .dup, 1, 0, 0, 0, []),
  (29, .getfield 15, 3, 5, 2, 0, [0, 171]),
  (32, .iconst 1, 1, 0, 0, 1, []),
  (33, .iadd, 1, 0, 0, 0, []),
  (34, .putfield 15, 3, 5, 2, 0, [0, 171]),
  (37, .aload_n 0, 1, 0, 0, 0, []),
  (38, .getfield 9, 3, 5, 0, 0, [0, 169]),
  (41, .aload_n 0, 1, 0, 0, 0, []),
  (42, .getfield 15, 3, 5, 2, 0, [0, 171]),
  (45, .iconst 1, 1, 0, 0, 1, []),
  (46, .isub, 1, 0, 0, 0, []),
  (47, .dup2, 1, 0, 0, 0, []),
  (48, .iaload, 1, 0, 0, 0, []),
  (49, .iconst 1, 1, 0, 0, 1, []),
  (50, .iadd, 1, 0, 0, 0, []),
  (51, .iastore, 1, 0, 0, 0, []),
  (52, .return_, 1, 0, 0, 0, [])]
def am_t40 : List (Nat × am_I) := [(0, .aload_n 1, 1, 1, 0, 0, []),
  (1, .aload_n 0, 1, 0, 0, 0, []),
  (2, .aload_n 0, 1, 0, 0, 0, []),
  (3, .getfield 15, 3, 5, 2, 0, [0, 171]),
  (6, .iconst 1, 1, 0, 0, 1, []),
  (7, .isub, 1, 0, 0, 0, []),
  (8, .invokevirtual 44, 3, 41, 2, 0, [0, 384]),
  (11, .putfield 48, 3, 1, 6, 0, [0, 91]),
  (14, .aload_n 1, 1, 1, 0, 0, []),
  (15, .aload_n 0, 1, 0, 0, 0, []),
  (16, .getfield 9, 3, 5, 0, 0, [0, 169]),
  (19, .aload_n 0, 1, 0, 0, 0, []),
  (20, .getfield 15, 3, 5, 2, 0, [0, 171]),
  (23, .iconst 1, 1, 0, 0, 1, []),
  (24, .isub, 1, 0, 0, 0, []),
  (25, .iaload, 1, 0, 0, 0, []),
  (26, .putfield 53, 3, 1, 7, 0, [0, 93]),
  (29, .aload_n 0, 1, 0, 0, 0, []),
  (30, .getfield 9, 3, 5, 0, 0, [0, 169]),
  (33, .aload_n 0, 1, 0, 0, 0, []),
  (34, .getfield 15, 3, 5, 2, 0, [0, 171]),
  (37, .iconst 1, 1, 0, 0, 1, []),
  (38, .isub, 1, 0, 0, 0, []),
  (39, .dup2, 1, 0, 0, 0, []),
  (40, .iaload, 1, 0, 0, 0, []),
  (41, .iconst 1, 1, 0, 0, 1, []),
  (42, .iadd, 1, 0, 0, 0, []),
  (43, .iastore, 1, 0, 0, 0, []),
  (44, .return_, 1, 0, 0, 0, [])]
def am_t41 : List (Nat × am_I) := [(0, .aload_n 0, 1, 0, 0, 0, []),
  (1, .getfield 28, 3, 5, 1, 0, [0, 170]),
  (4, .iload_n 1, 1, 1, 0, 0, []),
  (5, .iadd, 1, 0, 0, 0, []),
  (6, .ireturn, 1, 0, 0, 0, [])]
def am_t42 : List (Nat × am_I) := [(0, .aload_n 0, 1, 0, 0, 0, []),
  (1, .getfield 58, 3, 0, 8, 0, [0, 213]),
  (4, .invokevirtual 90, 3, 36, 1, 0, [0, 364]),
  (7, .ireturn, 1, 0, 0, 0, [])]
def am_t43 : List (Nat × am_I) := [(0, .aload_n 0, 1, 0, 0, 0, []),
  (1, .invokevirtual 84, 3, 18, 1, 0, [0, 283]),
  (4, .ireturn, 1, 0, 0, 0, [])]
def am_t44 : List (Nat × am_I) := [(0, .iload_n 1, 1, 1, 0, 0, []),
  (1, .ifCond .eq 10, 3, 11, 0, 0, []),
  (4, .iload_n 1, 1, 1, 0, 0, []),
  (5, .iconst 1, 1, 0, 0, 1, []),
  (6, .if_icmp .eq 5, 3, 11, 0, 0, []),
  (9, .iconst (-1), 1, 0, 0, (-1), []),
  (10, .ireturn, 1, 0, 0, 0, []),
  (11, .aload_n 0, 1, 0, 0, 0, []),
  (12, .iload_n 1, 1, 1, 0, 0, []),
  (13, .invokevirtual 93, 3, 45, 2, 0, [0, 400]),
  (16, .invokevirtual 97, 3, 19, 1, 0, [0, 287]),
  (19, .ifCond .ne 6, 3, 25, 0, 0, []),
  (22, .bipush (-2), 2, 0, 0, (-2), []),
  (24, .ireturn, 1, 0, 0, 0, []),
  (25, .iload_n 1, 1, 1, 0, 0, []),
  (26, .ifCond .ne 10, 3, 36, 0, 0, []),
  (29, .aload_n 0, 1, 0, 0, 0, []),
  (30, .invokevirtual 100, 3, 20, 1, 0, [0, 291]),
  (33, .goto 15, 3, 48, 0, 0, []),
  (36, .aload_n 0, 1, 0, 0, 0, []),
  (37, .aload_n 0, 1, 0, 0, 0, []),
  (38, .getfield 43, 3, 0, 4, 0, [0, 209]),
  (41, .aload_n 0, 1, 0, 0, 0, []),
  (42, .getfield 46, 3, 0, 5, 0, [0, 210]),
  (45, .invokevirtual 103, 3, 21, 3, 0, [0, 295]),
  (48, .ireturn, 1, 0, 0, 0, [])]
def am_t45 : List (Nat × am_I) := [(0, .iload_n 1, 1, 1, 0, 0, []),
  (1, .ifCond .ne 10, 3, 11, 0, 0, []),
  (4, .aload_n 0, 1, 0, 0, 0, []),
  (5, .getfield 35, 3, 0, 3, 0, [0, 208]),
  (8, .goto 19, 3, 27, 0, 0, []),
  (11, .iload_n 1, 1, 1, 0, 0, []),
  (12, .iconst 1, 1, 0, 0, 1, []),
  (13, .if_icmp .ne 10, 3, 23, 0, 0, []),
  (16, .aload_n 0, 1, 0, 0, 0, []),
  (17, .getfield 43, 3, 0, 4, 0, [0, 209]),
  (20, .goto 7, 3, 27, 0, 0, []),
  (23, .aload_n 0, 1, 0, 0, 0, []),
  (24, .getfield 46, 3, 0, 5, 0, [0, 210]),
  (27, .areturn, 1, 0, 0, 0, [])]
def am_t46 : List (Nat × am_I) := [(0, .aload_n 0, 1, 0, 0, 0, []),
  (1, .getfield 58, 3, 0, 8, 0, [0, 213]),
  (4, .invokevirtual 107, 3, 47, 1, 0, [0, 408]),
  (7, .iconst 1, 1, 0, 0, 1, []),
  (8, .if_icmp .gt 6, 3, 14, 0, 0, []),
  (11, .bipush (-2), 2, 0, 0, (-2), []),
  (13, .ireturn, 1, 0, 0, 0, []),
  (14, .aload_n 0, 1, 0, 0, 0, []),
  (15, .invokevirtual 84, 3, 18, 1, 0, [0, 283]),
  (18, .pop, 1, 0, 0, 0, []),
  (19, .aload_n 0, 1, 0, 0, 0, []),
  (20, .invokevirtual 110, 3, 48, 1, 0, [0, 412]),
  (23, .aload_n 0, 1, 0, 0, 0, []),
  (24, .getfield 58, 3, 0, 8, 0, [0, 213]),
  (27, .aload_n 0, 1, 0, 0, 0, []),
  (28, .getfield 52, 3, 0, 7, 0, [0, 212]),
  (31, .invokevirtual 77, 3, 12, 1, 0, [0, 259]),
  (34, .invokevirtual 113, 3, 53, 2, 0, [0, 433]),
  (37, .bipush 8, 2, 0, 0, 8, []),
  (39, .if_icmp .le 6, 3, 45, 0, 0, []),
  (42, .bipush (-3), 2, 0, 0, (-3), []),
  (44, .ireturn, 1, 0, 0, 0, []),
  (45, .aload_n 0, 1, 0, 0, 0, []),
  (46, .invokevirtual 116, 3, 54, 1, 0, [0, 438]),
  (49, .aload_n 0, 1, 0, 0, 0, []),
  (50, .getfield 58, 3, 0, 8, 0, [0, 213]),
  (53, .invokevirtual 90, 3, 36, 1, 0, [0, 364]),
  (56, .pop, 1, 0, 0, 0, []),
  (57, .aload_n 0, 1, 0, 0, 0, []),
  (58, .getfield 58, 3, 0, 8, 0, [0, 213]),
  (61, .invokevirtual 119, 3, 55, 1, 0, [0, 443]),
  (64, .aload_n 0, 1, 0, 0, 0, []),
  (65, .getfield 52, 3, 0, 7, 0, [0, 212]),
  (68, .invokevirtual 77, 3, 12, 1, 0, [0, 259]),
  (71, .ireturn, 1, 0, 0, 0, [])]
def am_t47 : List (Nat × am_I) := [(0, .aload_n 0, 1, 0, 0, 0, []),
  (1, .getfield 15, 3, 5, 2, 0, [0, 171]),
  (4, .ireturn, 1, 0, 0, 0, [])]
def am_t48 : List (Nat × am_I) := [(0, .aload_n 0, 1, 0, 0, 0, []),
  (1, .getfield 52, 3, 0, 7, 0, [0, 212]),
  (4, .invokevirtual 138, 3, 22, 1, 0, [0, 299]),
  (7, .iconst 0, 1, 0, 0, 0, []),
  (8, .istore_n 1, 1, 1, 0, 0, []),
  (9, .iload_n 1, 1, 1, 0, 0, []),
  (10, .iconst 3, 1, 0, 0, 3, []),
  (11, .if_icmp .ge 29, 3, 40, 0, 0, []),
  (14, .aload_n 0, 1, 0, 0, 0, []),
  (15, .iload_n 1, 1, 1, 0, 0, []),
  (16, .invokevirtual 93, 3, 45, 2, 0, [0, 400]),
  (19, .aload_n 0, 1, 0, 0, 0, []),
  (20, .getfield 58, 3, 0, 8, 0, [0, 213]),
  (23, .iconst 0, 1, 0, 0, 0, []),
  (24, .invokevirtual 185, 3, 41, 2, 0, [0, 416]),
  (27, .aload_n 0, 1, 0, 0, 0, []),
  (28, .getfield 52, 3, 0, 7, 0, [0, 212]),
  (31, .invokevirtual 244, 3, 49, 3, 0, [0, 417]),
  (34, .iinc 1 1, 3, 1, 0, 1, []),
  (37, .goto (-28), 3, 9, 0, 0, []),
  (40, .return_, 1, 0, 0, 0, [])]
def am_t49 : List (Nat × am_I) := [(0, .iconst 0, 1, 0, 0, 0, []),
  (1, .istore_n 3, 1, 3, 0, 0, []),
  (2, .iload_n 3, 1, 3, 0, 0, []),
  (3, .aload_n 0, 1, 0, 0, 0, []),
  (4, .getfield 20, 3, 4, 1, 0, [0, 154]),
  (7, .if_icmp .ge 23, 3, 30, 0, 0, []),
  (10, .aload_n 0, 1, 0, 0, 0, []),
  (11, .getfield 11, 3, 4, 0, 0, [0, 153]),
  (14, .iload_n 3, 1, 3, 0, 0, []),
  (15, .aaload, 1, 0, 0, 0, []),
  (16, .getfield 44, 3, 3, 0, 0, [0, 145]),
  (19, .iload_n 1, 1, 1, 0, 0, []),
  (20, .aload_n 2, 1, 2, 0, 0, []),
  (21, .invokevirtual 59, 3, 50, 3, 0, [0, 421]),
  (24, .iinc 3 1, 3, 3, 0, 1, []),
  (27, .goto (-25), 3, 2, 0, 0, []),
  (30, .return_, 1, 0, 0, 0, [])]
def am_t50 : List (Nat × am_I) := [(0, .iconst 0, 1, 0, 0, 0, []),
  (1, .istore_n 3, 1, 3, 0, 0, []),
  (2, .iload_n 3, 1, 3, 0, 0, []),
  (3, .aload_n 0, 1, 0, 0, 0, []),
  (4, .getfield 19, 3, 2, 2, 0, [0, 121]),
  (7, .if_icmp .ge 32, 3, 39, 0, 0, []),
  (10, .aload_n 0, 1, 0, 0, 0, []),
  (11, .getfield 15, 3, 2, 1, 0, [0, 120]),
  (14, .iload_n 3, 1, 3, 0, 0, []),
  (15, .aaload, 1, 0, 0, 0, []),
  (16, .iload_n 1, 1, 1, 0, 0, []),
  (17, .invokevirtual 46, 3, 51, 2, 0, [0, 425]),
  (20, .ifCond .eq 13, 3, 33, 0, 0, []),
  (23, .aload_n 2, 1, 2, 0, 0, []),
  (24, .aload_n 0, 1, 0, 0, 0, []),
  (25, .getfield 15, 3, 2, 1, 0, [0, 120]),
  (28, .iload_n 3, 1, 3, 0, 0, []),
  (29, .aaload, 1, 0, 0, 0, []),
  (30, .invokevirtual 50, 3, 52, 2, 0, [0, 429]),
  (33, .iinc 3 1, 3, 3, 0, 1, []),
  (36, .goto (-34), 3, 2, 0, 0, []),
  (39, .return_, 1, 0, 0, 0, [])]
def am_t51 : List (Nat × am_I) := [(0, .aload_n 0, 1, 0, 0, 0, []),
  (1, .getfield 21, 3, 1, 3, 0, [0, 82]),
  (4, .ifCond .ne 15, 3, 19, 0, 0, []),
  (7, .aload_n 0, 1, 0, 0, 0, []),
  (8, .getfield 31, 3, 1, 6, 0, [0, 90]),
  (11, .iload_n 1, 1, 1, 0, 0, []),
  (12, .if_icmp .ne 7, 3, 19, 0, 0, []),
  (15, .iconst 1, 1, 0, 0, 1, []),
  (16, .goto 4, 3, 20, 0, 0, []),
  (19, .iconst 0, 1, 0, 0, 0, []),
  (20, .ireturn, 1, 0, 0, 0, [])]
def am_t52 : List (Nat × am_I) := [(0, .aload_n 0, 1, 0, 0, 0, []),
  (1, .getfield 19, 3, 2, 2, 0, [0, 121]),
  (4, .istore_n 2, 1, 2, 0, 0, []),
  (5, .iload_n 2, 1, 2, 0, 0, []),
  (6, .ifCond .le 27, 3, 33, 0, 0, []),
  (9, .aload_n 1, 1, 1, 0, 0, []),
  (10, .getfield 37, 3, 1, 7, 0, [0, 92]),
  (13, .aload_n 0, 1, 0, 0, 0, []),
  (14, .getfield 15, 3, 2, 1, 0, [0, 120]),
  (17, .iload_n 2, 1, 2, 0, 0, []),
  (18, .iconst 1, 1, 0, 0, 1, []),
  (19, .isub, 1, 0, 0, 0, []),
  (20, .aaload, 1, 0, 0, 0, []),
  (21, .getfield 37, 3, 1, 7, 0, [0, 92]),
  (24, .if_icmp .ge 9, 3, 33, 0, 0, []),
  (27, .iinc 2 (-1), 3, 2, 0, (-1), []),
  (30, .goto (-25), 3, 5, 0, 0, []),
  (33, .aload_n 0, 1, 0, 0, 0, []),
  (34, .iload_n 2, 1, 2, 0, 0, []),
  (35, .aload_n 1, 1, 1, 0, 0, []),
  (36, .invokevirtual 33, 3, 27, 3, 0, [0, 320]),
  (39, .return_, 1, 0, 0, 0, [])]
def am_t53 : List (Nat × am_I) := [(0, .aload_n 0, 1, 0, 0, 0, []),
  (1, .getfield 15, 3, 5, 2, 0, [0, 171]),
  (4, .istore_n 2, 1, 2, 0, 0, []),
  (5, .bipush 16, 2, 0, 0, 16, []),
  (7, .aload_n 0, 1, 0, 0, 0, []),
  (8, .getfield 9, 3, 5, 0, 0, [0, 169]),
  (11, .aload_n 0, 1, 0, 0, 0, []),
  (12, .getfield 15, 3, 5, 2, 0, [0, 171]),
  (15, .iconst 1, 1, 0, 0, 1, []),
  (16, .isub, 1, 0, 0, 0, []),
  (17, .iaload, 1, 0, 0, 0, []),
  (18, .isub, 1, 0, 0, 0, []),
  (19, .istore_n 3, 1, 3, 0, 0, []),
  (20, .iload_n 1, 1, 1, 0, 0, []),
  (21, .istore 4, 2, 4, 0, 0, []),
  (23, .iload 4, 2, 4, 0, 0, []),
  (25, .ifCond .le 37, 3, 62, 0, 0, []),
  (28, .iconst 1, 1, 0, 0, 1, []),
  (29, .iload 4, 2, 4, 0, 0, []),
  (31, .bipush 6, 2, 0, 0, 6, []),
  (33, .invokestatic 38, 3, 0, 91, 0, [437, 346, 59, 347]),
  (36, .iadd, 1, 0, 0, 0, []),
  (37, .istore 5, 2, 5, 0, 0, []),
  (39, .iload 5, 2, 5, 0, 0, []),
  (41, .iload_n 3, 1, 3, 0, 0, []),
  (42, .if_icmp .le 9, 3, 51, 0, 0, []),
  (45, .iinc 2 1, 3, 2, 0, 1, []),
  (48, .bipush 16, 2, 0, 0, 16, []),
  (50, .istore_n 3, 1, 3, 0, 0, []),
  (51, .iload_n 3, 1, 3, 0, 0, []),
  (52, .iload 5, 2, 5, 0, 0, []),
  (54, .isub, 1, 0, 0, 0, []),
  (55, .istore_n 3, 1, 3, 0, 0, []),
  (56, .iinc 4 (-6), 3, 4, 0, (-6), []),
  (59, .goto (-36), 3, 23, 0, 0, []),
  (62, .iload_n 2, 1, 2, 0, 0, []),
  (63, .ireturn, 1, 0, 0, 0, [])]
def am_t54 : List (Nat × am_I) := [(0, .iconst 0, 1, 0, 0, 0, []),
  (1, .istore_n 1, 1, 1, 0, 0, []),
  (2, .iload_n 1, 1, 1, 0, 0, []),
  (3, .aload_n 0, 1, 0, 0, 0, []),
  (4, .getfield 52, 3, 0, 7, 0, [0, 212]),
  (7, .invokevirtual 77, 3, 12, 1, 0, [0, 259]),
  (10, .if_icmp .ge 52, 3, 62, 0, 0, []),
  (13, .iload_n 1, 1, 1, 0, 0, []),
  (14, .bipush 6, 2, 0, 0, 6, []),
  (16, .irem, 1, 0, 0, 0, []),
  (17, .ifCond .ne 24, 3, 41, 0, 0, []),
  (20, .aload_n 0, 1, 0, 0, 0, []),
  (21, .getfield 58, 3, 0, 8, 0, [0, 213]),
  (24, .bipush 6, 2, 0, 0, 6, []),
  (26, .aload_n 0, 1, 0, 0, 0, []),
  (27, .getfield 52, 3, 0, 7, 0, [0, 212]),
  (30, .invokevirtual 77, 3, 12, 1, 0, [0, 259]),
  (33, .iload_n 1, 1, 1, 0, 0, []),
  (34, .isub, 1, 0, 0, 0, []),
  (35, .invokestatic 144, 3, 0, 91, 0, [442, 346, 59, 347]),
  (38, .invokevirtual 205, 3, 39, 2, 0, [0, 376]),
  (41, .aload_n 0, 1, 0, 0, 0, []),
  (42, .getfield 58, 3, 0, 8, 0, [0, 213]),
  (45, .aload_n 0, 1, 0, 0, 0, []),
  (46, .getfield 52, 3, 0, 7, 0, [0, 212]),
  (49, .iload_n 1, 1, 1, 0, 0, []),
  (50, .invokevirtual 208, 3, 24, 2, 0, [0, 358]),
  (53, .invokevirtual 221, 3, 40, 2, 0, [0, 380]),
  (56, .iinc 1 1, 3, 1, 0, 1, []),
  (59, .goto (-57), 3, 2, 0, 0, []),
  (62, .return_, 1, 0, 0, 0, [])]
def am_t55 : List (Nat × am_I) := [(0, .aload_n 0, 1, 0, 0, 0, []),
  (1, .getfield 15, 3, 5, 2, 0, [0, 171]),
  (4, .iconst 1, 1, 0, 0, 1, []),
  (5, .if_icmp .gt 4, 3, 9, 0, 0, []),
  (8, .return_, 1, 0, 0, 0, []),
  (9, .aload_n 0, 1, 0, 0, 0, []),
  (10, .dup, 1, 0, 0, 0, []),
  (11, .getfield 15, 3, 5, 2, 0, [0, 171]),
  (14, .iconst 1, 1, 0, 0, 1, []),
  (15, .isub, 1, 0, 0, 0, []),
  (16, .putfield 15, 3, 5, 2, 0, [0, 171]),
  (19, .aload_n 0, 1, 0, 0, 0, []),
  (20, .dup, 1, 0, 0, 0, []),
  (21, .getfield 28, 3, 5, 1, 0, [0, 170]),
  (24, .iconst 1, 1, 0, 0, 1, []),
  (25, .iadd, 1, 0, 0, 0, []),
  (26, .putfield 28, 3, 5, 1, 0, [0, 170]),
  (29, .aload_n 0, 1, 0, 0, 0, []),
  (30, .getfield 9, 3, 5, 0, 0, [0, 169]),
  (33, .iconst 1, 1, 0, 0, 1, []),
  (34, .aload_n 0, 1, 0, 0, 0, []),
  (35, .getfield 9, 3, 5, 0, 0, [0, 169]),
  (38, .iconst 0, 1, 0, 0, 0, []),
  (39, .aload_n 0, 1, 0, 0, 0, []),
  (40, .getfield 15, 3, 5, 2, 0, [0, 171]),
  (43, .invokestatic 56, 3, 0, 92, 0, [447, 449, 448, 60]),
  (46, .return_, 1, 0, 0, 0, [])]
def am_t56 : List (Nat × am_I) := [(0, .aload_n 0, 1, 0, 0, 0, []),
  (1, .getfield 65, 3, 0, 9, 0, [0, 214]),
  (4, .aload_n 0, 1, 0, 0, 0, []),
  (5, .getfield 122, 3, 0, 11, 0, [0, 216]),
  (8, .invokevirtual 126, 3, 57, 2, 0, [0, 454]),
  (11, .ireturn, 1, 0, 0, 0, [])]
def am_t57 : List (Nat × am_I) := [(0, .iconst 0, 1, 0, 0, 0, []),
  (1, .istore_n 2, 1, 2, 0, 0, []),
  (2, .iload_n 2, 1, 2, 0, 0, []),
  (3, .iconst 3, 1, 0, 0, 3, []),
  (4, .if_icmp .ge 28, 3, 32, 0, 0, []),
  (7, .aload_n 0, 1, 0, 0, 0, []),
  (8, .getfield 9, 3, 6, 0, 0, [0, 201]),
  (11, .iload_n 2, 1, 2, 0, 0, []),
  (12, .iaload, 1, 0, 0, 0, []),
  (13, .iconst (-1), 1, 0, 0, (-1), []),
  (14, .if_icmp .ne 12, 3, 26, 0, 0, []),
  (17, .aload_n 0, 1, 0, 0, 0, []),
  (18, .getfield 9, 3, 6, 0, 0, [0, 201]),
  (21, .iload_n 2, 1, 2, 0, 0, []),
  (22, .iload_n 1, 1, 1, 0, 0, []),
  (23, .iastore, 1, 0, 0, 0, []),
  (24, .iload_n 2, 1, 2, 0, 0, []),
  (25, .ireturn, 1, 0, 0, 0, []),
  (26, .iinc 2 1, 3, 2, 0, 1, []),
  (29, .goto (-27), 3, 2, 0, 0, []),
  (32, .bipush (-3), 2, 0, 0, (-3), []),
  (34, .ireturn, 1, 0, 0, 0, [])]
def am_t58 : List (Nat × am_I) := [(0, .aload_n 0, 1, 0, 0, 0, []),
  (1, .getfield 65, 3, 0, 9, 0, [0, 214]),
  (4, .iload_n 1, 1, 1, 0, 0, []),
  (5, .invokevirtual 129, 3, 59, 2, 0, [0, 462]),
  (8, .ireturn, 1, 0, 0, 0, [])]
def am_t59 : List (Nat × am_I) := [(0, .aload_n 0, 1, 0, 0, 0, []),
  (1, .iload_n 1, 1, 1, 0, 0, []),
  (2, .invokevirtual 21, 3, 60, 2, 0, [0, 466]),
  (5, .iconst (-1), 1, 0, 0, (-1), []),
  (6, .if_icmp .ne 5, 3, 11, 0, 0, []),
  (9, .iconst 0, 1, 0, 0, 0, []),
  (10, .ireturn, 1, 0, 0, 0, []),
  (11, .aload_n 0, 1, 0, 0, 0, []),
  (12, .getfield 9, 3, 6, 0, 0, [0, 201]),
  (15, .iload_n 1, 1, 1, 0, 0, []),
  (16, .iconst (-1), 1, 0, 0, (-1), []),
  (17, .iastore, 1, 0, 0, 0, []),
  (18, .iconst 1, 1, 0, 0, 1, []),
  (19, .ireturn, 1, 0, 0, 0, [])]
def am_t60 : List (Nat × am_I) := [(0, .iload_n 1, 1, 1, 0, 0, []),
  (1, .ifCond .lt 17, 3, 18, 0, 0, []),
  (4, .iload_n 1, 1, 1, 0, 0, []),
  (5, .iconst 3, 1, 0, 0, 3, []),
  (6, .if_icmp .ge 12, 3, 18, 0, 0, []),
  (9, .aload_n 0, 1, 0, 0, 0, []),
  (10, .getfield 9, 3, 6, 0, 0, [0, 201]),
  (13, .iload_n 1, 1, 1, 0, 0, []),
  (14, .iaload, 1, 0, 0, 0, []),
  (15, .goto 4, 3, 19, 0, 0, []),
  (18, .iconst (-1), 1, 0, 0, (-1), []),
  (19, .ireturn, 1, 0, 0, 0, [])]
def am_t61 : List (Nat × am_I) := [(0, .iload_n 1, 1, 1, 0, 0, []),
  (1, .ifCond .lt 10, 3, 11, 0, 0, []),
  (4, .iload_n 1, 1, 1, 0, 0, []),
  (5, .sipush 1000, 3, 0, 0, 1000, []),
  (8, .if_icmp .le 5, 3, 13, 0, 0, []),
  (11, .iconst (-1), 1, 0, 0, (-1), []),
  (12, .ireturn, 1, 0, 0, 0, []),
  (13, .aload_n 0, 1, 0, 0, 0, []),
  (14, .dup, 1, 0, 0, 0, []),
  (15, .getfield 132, 3, 0, 10, 0, [0, 215]),
  (18, .iload_n 1, 1, 1, 0, 0, []),
  (19, .iadd, 1, 0, 0, 0, []),
  (20, .putfield 132, 3, 0, 10, 0, [0, 215]),
  (23, .aload_n 0, 1, 0, 0, 0, []),
  (24, .getfield 132, 3, 0, 10, 0, [0, 215]),
  (27, .ireturn, 1, 0, 0, 0, [])]
def am_t62 : List (Nat × am_I) := [(0, .aload_n 0, 1, 0, 0, 0, []),
  (1, .getfield 65, 3, 0, 9, 0, [0, 214]),
  (4, .invokevirtual 135, 3, 63, 1, 0, [0, 478]),
  (7, .aload_n 0, 1, 0, 0, 0, []),
  (8, .getfield 23, 3, 0, 1, 0, [0, 206]),
  (11, .invokevirtual 138, 3, 22, 1, 0, [0, 299]),
  (14, .aload_n 0, 1, 0, 0, 0, []),
  (15, .getfield 58, 3, 0, 8, 0, [0, 213]),
  (18, .invokevirtual 141, 3, 64, 1, 0, [0, 482]),
  (21, .istore_n 2, 1, 2, 0, 0, []),
  (22, .iconst 0, 1, 0, 0, 0, []),
  (23, .iload_n 1, 1, 1, 0, 0, []),
  (24, .iload_n 2, 1, 2, 0, 0, []),
  (25, .invokestatic 144, 3, 0, 91, 0, [442, 346, 59, 347]),
  (28, .invokestatic 150, 3, 0, 90, 0, [486, 487, 59, 488]),
  (31, .istore_n 3, 1, 3, 0, 0, []),
  (32, .iload_n 3, 1, 3, 0, 0, []),
  (33, .iload_n 2, 1, 2, 0, 0, []),
  (34, .if_icmp .ge 8, 3, 42, 0, 0, []),
  (37, .aload_n 0, 1, 0, 0, 0, []),
  (38, .iload_n 3, 1, 3, 0, 0, []),
  (39, .invokevirtual 153, 3, 65, 2, 0, [0, 489]),
  (42, .aload_n 0, 1, 0, 0, 0, []),
  (43, .getfield 58, 3, 0, 8, 0, [0, 213]),
  (46, .invokevirtual 90, 3, 36, 1, 0, [0, 364]),
  (49, .pop, 1, 0, 0, 0, []),
  (50, .iload_n 2, 1, 2, 0, 0, []),
  (51, .iload_n 3, 1, 3, 0, 0, []),
  (52, .isub, 1, 0, 0, 0, []),
  (53, .ireturn, 1, 0, 0, 0, [])]
def am_t63 : List (Nat × am_I) := [(0, .aload_n 0, 1, 0, 0, 0, []),
  (1, .getfield 9, 3, 6, 0, 0, [0, 201]),
  (4, .iconst (-1), 1, 0, 0, (-1), []),
  (5, .invokestatic 15, 3, 8, 2, 0, [0, 198]),
  (8, .return_, 1, 0, 0, 0, [])]
def am_t64 : List (Nat × am_I) := [(0, .aload_n 0, 1, 0, 0, 0, []),
  (1, .getfield 31, 3, 5, 6, 0, [0, 175]),
  (4, .ireturn, 1, 0, 0, 0, [])]
def am_t65 : List (Nat × am_I) := [(0, .aload_n 0, 1, 0, 0, 0, []),
  (1, .getfield 58, 3, 0, 8, 0, [0, 213]),
  (4, .iload_n 1, 1, 1, 0, 0, []),
  (5, .invokevirtual 250, 3, 66, 2, 0, [0, 493]),
  (8, .istore_n 2, 1, 2, 0, 0, []),
  (9, .aload_n 0, 1, 0, 0, 0, []),
  (10, .getfield 27, 3, 0, 2, 0, [0, 207]),
  (13, .aload_n 0, 1, 0, 0, 0, []),
  (14, .getfield 122, 3, 0, 11, 0, [0, 216]),
  (17, .iload_n 2, 1, 2, 0, 0, []),
  (18, .isub, 1, 0, 0, 0, []),
  (19, .invokevirtual 253, 3, 67, 2, 0, [0, 497]),
  (22, .aload_n 0, 1, 0, 0, 0, []),
  (23, .iload_n 2, 1, 2, 0, 0, []),
  (24, .putfield 122, 3, 0, 11, 0, [0, 216]),
  (27, .aload_n 0, 1, 0, 0, 0, []),
  (28, .getfield 58, 3, 0, 8, 0, [0, 213]),
  (31, .iload_n 1, 1, 1, 0, 0, []),
  (32, .invokevirtual 256, 3, 68, 2, 0, [0, 502]),
  (35, .return_, 1, 0, 0, 0, [])]
def am_t66 : List (Nat × am_I) := [(0, .iload_n 1, 1, 1, 0, 0, []),
  (1, .ifCond .lt 20, 3, 21, 0, 0, []),
  (4, .iload_n 1, 1, 1, 0, 0, []),
  (5, .aload_n 0, 1, 0, 0, 0, []),
  (6, .getfield 31, 3, 5, 6, 0, [0, 175]),
  (9, .if_icmp .ge 12, 3, 21, 0, 0, []),
  (12, .aload_n 0, 1, 0, 0, 0, []),
  (13, .getfield 25, 3, 5, 5, 0, [0, 174]),
  (16, .iload_n 1, 1, 1, 0, 0, []),
  (17, .iaload, 1, 0, 0, 0, []),
  (18, .goto 4, 3, 22, 0, 0, []),
  (21, .iconst 0, 1, 0, 0, 0, []),
  (22, .ireturn, 1, 0, 0, 0, [])]
def am_t67 : List (Nat × am_I) := [(0, .aload_n 0, 1, 0, 0, 0, []),
  (1, .iconst 0, 1, 0, 0, 0, []),
  (2, .aload_n 0, 1, 0, 0, 0, []),
  (3, .getfield 19, 3, 2, 2, 0, [0, 121]),
  (6, .iconst 0, 1, 0, 0, 0, []),
  (7, .iload_n 1, 1, 1, 0, 0, []),
  (8, .invokestatic 23, 3, 0, 90, 0, [501, 487, 59, 488]),
  (11, .isub, 1, 0, 0, 0, []),
  (12, .invokestatic 23, 3, 0, 90, 0, [501, 487, 59, 488]),
  (15, .putfield 19, 3, 2, 2, 0, [0, 121]),
  (18, .return_, 1, 0, 0, 0, [])]
def am_t68 : List (Nat × am_I) := [(0, .iload_n 1, 1, 1, 0, 0, []),
  (1, .ifCond .lt 11, 3, 12, 0, 0, []),
  (4, .iload_n 1, 1, 1, 0, 0, []),
  (5, .aload_n 0, 1, 0, 0, 0, []),
  (6, .getfield 31, 3, 5, 6, 0, [0, 175]),
  (9, .if_icmp .lt 4, 3, 13, 0, 0, []),
  (12, .return_, 1, 0, 0, 0, []),
  (13, .aload_n 0, 1, 0, 0, 0, []),
  (14, .aload_n 0, 1, 0, 0, 0, []),
  (15, .getfield 19, 3, 5, 3, 0, [0, 172]),
  (18, .iload_n 1, 1, 1, 0, 0, []),
  (19, .iaload, 1, 0, 0, 0, []),
  (20, .putfield 15, 3, 5, 2, 0, [0, 171]),
  (23, .aload_n 0, 1, 0, 0, 0, []),
  (24, .getfield 9, 3, 5, 0, 0, [0, 169]),
  (27, .aload_n 0, 1, 0, 0, 0, []),
  (28, .getfield 15, 3, 5, 2, 0, [0, 171]),
  (31, .iconst 1, 1, 0, 0, 1, []),
  (32, .isub, 1, 0, 0, 0, []),
  (33, .aload_n 0, 1, 0, 0, 0, []),
  (34, .getfield 22, 3, 5, 4, 0, [0, 173]),
  (37, .iload_n 1, 1, 1, 0, 0, []),
  (38, .iaload, 1, 0, 0, 0, []),
  (39, .iastore, 1, 0, 0, 0, []),
  (40, .aload_n 0, 1, 0, 0, 0, []),
  (41, .iload_n 1, 1, 1, 0, 0, []),
  (42, .putfield 31, 3, 5, 6, 0, [0, 175]),
  (45, .return_, 1, 0, 0, 0, [])]
def am_t69 : List (Nat × am_I) := [(0, .aload_n 0, 1, 0, 0, 0, []),
  (1, .iload_n 1, 1, 1, 0, 0, []),
  (2, .iload_n 2, 1, 2, 0, 0, []),
  (3, .invokevirtual 157, 3, 70, 3, 0, [0, 510]),
  (6, .aload_n 0, 1, 0, 0, 0, []),
  (7, .getfield 132, 3, 0, 10, 0, [0, 215]),
  (10, .invokevirtual 161, 3, 31, 2, 0, [0, 552]),
  (13, .ifCond .ne 7, 3, 20, 0, 0, []),
  (16, .iconst 1, 1, 0, 0, 1, []),
  (17, .goto 4, 3, 21, 0, 0, []),
  (20, .iconst 0, 1, 0, 0, 0, []),
  (21, .ireturn, 1, 0, 0, 0, [])]
def am_t70 : List (Nat × am_I) := [(0, .aload_n 0, 1, 0, 0, 0, []),
  (1, .iload_n 1, 1, 1, 0, 0, []),
  (2, .invokevirtual 167, 3, 71, 2, 0, [0, 514]),
  (5, .istore_n 3, 1, 3, 0, 0, []),
  (6, .iload_n 3, 1, 3, 0, 0, []),
  (7, .iconst (-1), 1, 0, 0, (-1), []),
  (8, .if_icmp .eq 10, 3, 18, 0, 0, []),
  (11, .iload_n 2, 1, 2, 0, 0, []),
  (12, .invokestatic 69, 3, 10, 1, 0, [0, 252]),
  (15, .ifCond .ne 8, 3, 23, 0, 0, []),
  (18, .aload_n 0, 1, 0, 0, 0, []),
  (19, .getfield 14, 3, 0, 0, 0, [0, 205]),
  (22, .areturn, 1, 0, 0, 0, []),
  (23, .aload_n 0, 1, 0, 0, 0, []),
  (24, .iload_n 2, 1, 2, 0, 0, []),
  (25, .iload_n 3, 1, 3, 0, 0, []),
  (26, .invokevirtual 170, 3, 72, 3, 0, [0, 519]),
  (29, .astore 4, 2, 4, 0, 0, []),
  (31, .aload_n 0, 1, 0, 0, 0, []),
  (32, .aload_n 0, 1, 0, 0, 0, []),
  (33, .getfield 259, 3, 0, 12, 0, [0, 217]),
  (36, .putfield 173, 3, 0, 13, 0, [0, 218]),
  (39, .aload 4, 2, 4, 0, 0, []),
  (41, .areturn, 1, 0, 0, 0, [])]
def am_t71 : List (Nat × am_I) := [(0, .iload_n 1, 1, 1, 0, 0, []),
  (1, .iconst (-1), 1, 0, 0, (-1), []),
  (2, .if_icmp .ne 10, 3, 12, 0, 0, []),
  (5, .aload_n 0, 1, 0, 0, 0, []),
  (6, .getfield 122, 3, 0, 11, 0, [0, 216]),
  (9, .goto 11, 3, 20, 0, 0, []),
  (12, .aload_n 0, 1, 0, 0, 0, []),
  (13, .getfield 65, 3, 0, 9, 0, [0, 214]),
  (16, .iload_n 1, 1, 1, 0, 0, []),
  (17, .invokevirtual 197, 3, 60, 2, 0, [0, 518]),
  (20, .ireturn, 1, 0, 0, 0, [])]
def am_t72 : List (Nat × am_I) := [(0, .aload_n 0, 1, 0, 0, 0, []),
  (1, .iconst 0, 1, 0, 0, 0, []),
  (2, .putfield 259, 3, 0, 12, 0, [0, 217]),
  (5, .aload_n 0, 1, 0, 0, 0, []),
  (6, .getfield 27, 3, 0, 2, 0, [0, 207]),
  (9, .iload_n 1, 1, 1, 0, 0, []),
  (10, .iload_n 2, 1, 2, 0, 0, []),
  (11, .invokevirtual 262, 3, 73, 3, 0, [0, 523]),
  (14, .astore_n 3, 1, 3, 0, 0, []),
  (15, .iconst 0, 1, 0, 0, 0, []),
  (16, .istore 4, 2, 4, 0, 0, []),
  (18, .iload 4, 2, 4, 0, 0, []),
  (20, .iconst 3, 1, 0, 0, 3, []),
  (21, .if_icmp .ge 29, 3, 50, 0, 0, []),
  (24, .aload_n 3, 1, 3, 0, 0, []),
  (25, .invokevirtual 265, 3, 74, 1, 0, [0, 527]),
  (28, .ifCond .eq 22, 3, 50, 0, 0, []),
  (31, .aload_n 0, 1, 0, 0, 0, []),
  (32, .aload_n 0, 1, 0, 0, 0, []),
  (33, .iload 4, 2, 4, 0, 0, []),
  (35, .invokevirtual 93, 3, 45, 2, 0, [0, 400]),
  (38, .iload_n 1, 1, 1, 0, 0, []),
  (39, .iload_n 2, 1, 2, 0, 0, []),
  (40, .invokevirtual 269, 3, 75, 4, 0, [0, 531]),
  (43, .astore_n 3, 1, 3, 0, 0, []),
  (44, .iinc 4 1, 3, 4, 0, 1, []),
  (47, .goto (-29), 3, 18, 0, 0, []),
  (50, .aload_n 3, 1, 3, 0, 0, []),
  (51, .areturn, 1, 0, 0, 0, [])]
def am_t73 : List (Nat × am_I) := [(0, .aload_n 0, 1, 0, 0, 0, []),
  (1, .getfield 7, 3, 2, 0, 0, [0, 119]),
  (4, .astore_n 3, 1, 3, 0, 0, []),
  (5, .iconst 0, 1, 0, 0, 0, []),
  (6, .istore 4, 2, 4, 0, 0, []),
  (8, .iload 4, 2, 4, 0, 0, []),
  (10, .aload_n 0, 1, 0, 0, 0, []),
  (11, .getfield 19, 3, 2, 2, 0, [0, 121]),
  (14, .if_icmp .ge 51, 3, 65, 0, 0, []),
  (17, .aload_n 0, 1, 0, 0, 0, []),
  (18, .getfield 15, 3, 2, 1, 0, [0, 120]),
  (21, .iload 4, 2, 4, 0, 0, []),
  (23, .aaload, 1, 0, 0, 0, []),
  (24, .astore 5, 2, 5, 0, 0, []),
  (26, .aload 5, 2, 5, 0, 0, []),
  (28, .getfield 40, 3, 1, 0, 0, [0, 77]),
  (31, .iload_n 1, 1, 1, 0, 0, []),
  (32, .if_icmp .ne 27, 3, 59, 0, 0, []),
  (35, .aload 5, 2, 5, 0, 0, []),
  (37, .getfield 43, 3, 1, 4, 0, [0, 86]),
  (40, .iload_n 2, 1, 2, 0, 0, []),
  (41, .if_icmp .gt 18, 3, 59, 0, 0, []),
  (44, .aload 5, 2, 5, 0, 0, []),
  (46, .getfield 43, 3, 1, 4, 0, [0, 86]),
  (49, .aload_n 3, 1, 3, 0, 0, []),
  (50, .getfield 43, 3, 1, 4, 0, [0, 86]),
  (53, .if_icmp .le 6, 3, 59, 0, 0, []),
  (56, .aload 5, 2, 5, 0, 0, []),
  (58, .astore_n 3, 1, 3, 0, 0, []),
  (59, .iinc 4 1, 3, 4, 0, 1, []),
  (62, .goto (-54), 3, 8, 0, 0, []),
  (65, .aload_n 3, 1, 3, 0, 0, []),
  (66, .areturn, 1, 0, 0, 0, [])]
def am_t74 : List (Nat × am_I) := [(0, .aload_n 0, 1, 0, 0, 0, []),
  (1, .getfield 9, 3, 1, 0, 0, [0, 75]),
  (4, .iconst (-1), 1, 0, 0, (-1), []),
  (5, .if_icmp .ne 7, 3, 12, 0, 0, []),
  (8, .iconst 1, 1, 0, 0, 1, []),
  (9, .goto 4, 3, 13, 0, 0, []),
  (12, .iconst 0, 1, 0, 0, 0, []),
  (13, .ireturn, 1, 0, 0, 0, [])]
def am_t75 : List (Nat × am_I) := [(0, .aload_n 0, 1, 0, 0, 0, []),
  (1, .getfield 14, 3, 0, 0, 0, [0, 205]),
  (4, .astore 4, 2, 4, 0, 0, []),
  (6, .iconst 0, 1, 0, 0, 0, []),
  (7, .istore 5, 2, 5, 0, 0, []),
  (9, .iload 5, 2, 5, 0, 0, []),
  (11, .aload_n 1, 1, 1, 0, 0, []),
  (12, .invokevirtual 97, 3, 19, 1, 0, [0, 287]),
  (15, .if_icmp .ge 56, 3, 71, 0, 0, []),
  (18, .aload 4, 2, 4, 0, 0, []),
  (20, .invokevirtual 265, 3, 74, 1, 0, [0, 527]),
  (23, .ifCond .eq 48, 3, 71, 0, 0, []),
  (26, .aload_n 1, 1, 1, 0, 0, []),
  (27, .iload 5, 2, 5, 0, 0, []),
  (29, .invokevirtual 176, 3, 76, 2, 0, [0, 535]),
  (32, .astore 6, 2, 6, 0, 0, []),
  (34, .aload 6, 2, 6, 0, 0, []),
  (36, .iload_n 2, 1, 2, 0, 0, []),
  (37, .invokevirtual 273, 3, 77, 2, 0, [0, 539]),
  (40, .ifCond .eq 25, 3, 65, 0, 0, []),
  (43, .aload_n 0, 1, 0, 0, 0, []),
  (44, .dup, 1, 0, 0, 0, []),
  (45, .getfield 259, 3, 0, 12, 0, [0, 217]),
  (48, .iconst 1, 1, 0, 0, 1, []),
  (49, .iadd, 1, 0, 0, 0, []),
  (50, .putfield 259, 3, 0, 12, 0, [0, 217]),
  (53, .aload 6, 2, 6, 0, 0, []),
  (55, .getfield 276, 3, 3, 0, 0, [0, 146]),
  (58, .iload_n 2, 1, 2, 0, 0, []),
  (59, .iload_n 3, 1, 3, 0, 0, []),
  (60, .invokevirtual 262, 3, 73, 3, 0, [0, 523]),
  (63, .astore 4, 2, 4, 0, 0, []),
  (65, .iinc 5 1, 3, 5, 0, 1, []),
  (68, .goto (-59), 3, 9, 0, 0, []),
  (71, .aload 4, 2, 4, 0, 0, []),
  (73, .areturn, 1, 0, 0, 0, [])]
def am_t76 : List (Nat × am_I) := [(0, .aload_n 0, 1, 0, 0, 0, []),
  (1, .getfield 11, 3, 4, 0, 0, [0, 153]),
  (4, .iload_n 1, 1, 1, 0, 0, []),
  (5, .aaload, 1, 0, 0, 0, []),
  (6, .areturn, 1, 0, 0, 0, [])]
def am_t77 : List (Nat × am_I) := [(0, .iload_n 1, 1, 1, 0, 0, []),
  (1, .invokestatic 40, 3, 34, 1, 0, [0, 355]),
  (4, .istore_n 2, 1, 2, 0, 0, []),
  (5, .iload_n 1, 1, 1, 0, 0, []),
  (6, .aload_n 0, 1, 0, 0, 0, []),
  (7, .invokevirtual 44, 3, 78, 1, 0, [0, 543]),
  (10, .if_icmp .lt 25, 3, 35, 0, 0, []),
  (13, .iload_n 1, 1, 1, 0, 0, []),
  (14, .aload_n 0, 1, 0, 0, 0, []),
  (15, .invokevirtual 48, 3, 79, 1, 0, [0, 547]),
  (18, .if_icmp .gt 17, 3, 35, 0, 0, []),
  (21, .aload_n 0, 1, 0, 0, 0, []),
  (22, .getfield 23, 3, 3, 1, 0, [0, 147]),
  (25, .iload_n 2, 1, 2, 0, 0, []),
  (26, .iand, 1, 0, 0, 0, []),
  (27, .iload_n 2, 1, 2, 0, 0, []),
  (28, .if_icmp .ne 7, 3, 35, 0, 0, []),
  (31, .iconst 1, 1, 0, 0, 1, []),
  (32, .goto 4, 3, 36, 0, 0, []),
  (35, .iconst 0, 1, 0, 0, 0, []),
  (36, .ireturn, 1, 0, 0, 0, [])]
def am_t78 : List (Nat × am_I) := [(0, .aload_n 0, 1, 0, 0, 0, []),
  (1, .getfield 14, 3, 3, 0, 0, [0, 144]),
  (4, .iconst 0, 1, 0, 0, 0, []),
  (5, .invokevirtual 27, 3, 24, 2, 0, [0, 353]),
  (8, .getfield 35, 3, 1, 0, 0, [0, 76]),
  (11, .ireturn, 1, 0, 0, 0, [])]
def am_t79 : List (Nat × am_I) := [(0, .aload_n 0, 1, 0, 0, 0, []),
  (1, .getfield 14, 3, 3, 0, 0, [0, 144]),
  (4, .aload_n 0, 1, 0, 0, 0, []),
  (5, .getfield 14, 3, 3, 0, 0, [0, 144]),
  (8, .invokevirtual 51, 3, 12, 1, 0, [0, 551]),
  (11, .iconst 1, 1, 0, 0, 1, []),
  (12, .isub, 1, 0, 0, 0, []),
  (13, .invokevirtual 27, 3, 24, 2, 0, [0, 353]),
  (16, .getfield 35, 3, 1, 0, 0, [0, 76]),
  (19, .ireturn, 1, 0, 0, 0, [])]
def am_t80 : List (Nat × am_I) := [(0, .aload_n 0, 1, 0, 0, 0, []),
  (1, .iload_n 1, 1, 1, 0, 0, []),
  (2, .iload_n 2, 1, 2, 0, 0, []),
  (3, .invokevirtual 157, 3, 70, 3, 0, [0, 510]),
  (6, .astore_n 3, 1, 3, 0, 0, []),
  (7, .aload_n 3, 1, 3, 0, 0, []),
  (8, .aload_n 0, 1, 0, 0, 0, []),
  (9, .getfield 132, 3, 0, 10, 0, [0, 215]),
  (12, .invokevirtual 161, 3, 31, 2, 0, [0, 552]),
  (15, .ifCond .eq 7, 3, 22, 0, 0, []),
  (18, .iconst 0, 1, 0, 0, 0, []),
  (19, .goto 7, 3, 26, 0, 0, []),
  (22, .aload_n 3, 1, 3, 0, 0, []),
  (23, .getfield 164, 3, 1, 1, 0, [0, 79]),
  (26, .ireturn, 1, 0, 0, 0, [])]
def am_t81 : List (Nat × am_I) := [(0, .aload_n 0, 1, 0, 0, 0, []),
  (1, .iload_n 1, 1, 1, 0, 0, []),
  (2, .invokevirtual 167, 3, 71, 2, 0, [0, 514]),
  (5, .istore 4, 2, 4, 0, 0, []),
  (7, .iload 4, 2, 4, 0, 0, []),
  (9, .iconst (-1), 1, 0, 0, (-1), []),
  (10, .if_icmp .eq 7, 3, 17, 0, 0, []),
  (13, .iload_n 3, 1, 3, 0, 0, []),
  (14, .ifCond .ge 5, 3, 19, 0, 0, []),
  (17, .iconst (-1), 1, 0, 0, (-1), []),
  (18, .ireturn, 1, 0, 0, 0, []),
  (19, .iconst 0, 1, 0, 0, 0, []),
  (20, .istore 5, 2, 5, 0, 0, []),
  (22, .iload_n 2, 1, 2, 0, 0, []),
  (23, .iconst 0, 1, 0, 0, 0, []),
  (24, .invokestatic 150, 3, 0, 90, 0, [486, 487, 59, 488]),
  (27, .istore 6, 2, 6, 0, 0, []),
  (29, .iload 6, 2, 6, 0, 0, []),
  (31, .bipush 32, 2, 0, 0, 32, []),
  (33, .if_icmp .ge 39, 3, 72, 0, 0, []),
  (36, .aload_n 0, 1, 0, 0, 0, []),
  (37, .iload 6, 2, 6, 0, 0, []),
  (39, .iload 4, 2, 4, 0, 0, []),
  (41, .invokevirtual 170, 3, 72, 3, 0, [0, 519]),
  (44, .aload_n 0, 1, 0, 0, 0, []),
  (45, .getfield 132, 3, 0, 10, 0, [0, 215]),
  (48, .invokevirtual 161, 3, 31, 2, 0, [0, 552]),
  (51, .ifCond .ne 15, 3, 66, 0, 0, []),
  (54, .iload 5, 2, 5, 0, 0, []),
  (56, .iload_n 3, 1, 3, 0, 0, []),
  (57, .if_icmp .ne 6, 3, 63, 0, 0, []),
  (60, .iload 6, 2, 6, 0, 0, []),
  (62, .ireturn, 1, 0, 0, 0, []),
  (63, .iinc 5 1, 3, 5, 0, 1, []),
  (66, .iinc 6 1, 3, 6, 0, 1, []),
  (69, .goto (-40), 3, 29, 0, 0, []),
  (72, .bipush (-2), 2, 0, 0, (-2), []),
  (74, .ireturn, 1, 0, 0, 0, [])]
def am_t82 : List (Nat × am_I) := [(0, .aload_n 0, 1, 0, 0, 0, []),
  (1, .getfield 173, 3, 0, 13, 0, [0, 218]),
  (4, .ireturn, 1, 0, 0, 0, [])]
def am_t83 : List (Nat × am_I) := [(0, .iload_n 1, 1, 1, 0, 0, []),
  (1, .ifCond .lt 8, 3, 9, 0, 0, []),
  (4, .iload_n 1, 1, 1, 0, 0, []),
  (5, .iconst 3, 1, 0, 0, 3, []),
  (6, .if_icmp .lt 6, 3, 12, 0, 0, []),
  (9, .bipush (-2), 2, 0, 0, (-2), []),
  (11, .ireturn, 1, 0, 0, 0, []),
  (12, .aload_n 0, 1, 0, 0, 0, []),
  (13, .iload_n 1, 1, 1, 0, 0, []),
  (14, .invokevirtual 93, 3, 45, 2, 0, [0, 400]),
  (17, .astore 4, 2, 4, 0, 0, []),
  (19, .iload_n 2, 1, 2, 0, 0, []),
  (20, .iconst (-1), 1, 0, 0, (-1), []),
  (21, .if_icmp .ne 9, 3, 30, 0, 0, []),
  (24, .aload 4, 2, 4, 0, 0, []),
  (26, .invokevirtual 97, 3, 19, 1, 0, [0, 287]),
  (29, .ireturn, 1, 0, 0, 0, []),
  (30, .iload_n 2, 1, 2, 0, 0, []),
  (31, .ifCond .lt 12, 3, 43, 0, 0, []),
  (34, .iload_n 2, 1, 2, 0, 0, []),
  (35, .aload 4, 2, 4, 0, 0, []),
  (37, .invokevirtual 97, 3, 19, 1, 0, [0, 287]),
  (40, .if_icmp .lt 6, 3, 46, 0, 0, []),
  (43, .bipush (-2), 2, 0, 0, (-2), []),
  (45, .ireturn, 1, 0, 0, 0, []),
  (46, .aload 4, 2, 4, 0, 0, []),
  (48, .iload_n 2, 1, 2, 0, 0, []),
  (49, .invokevirtual 176, 3, 76, 2, 0, [0, 535]),
  (52, .iload_n 3, 1, 3, 0, 0, []),
  (53, .invokevirtual 180, 3, 84, 2, 0, [0, 569]),
  (56, .ireturn, 1, 0, 0, 0, [])]
def am_t84 : List (Nat × am_I) := [(0, .iload_n 1, 1, 1, 0, 0, []),
  (1, .tableswitch 63 0 4 #[35, 43, 48, 53, 58], 35, 64, 0, 0, [36, 44, 49, 54, 59]),
  (36, .aload_n 0, 1, 0, 0, 0, []),
  (37, .getfield 14, 3, 3, 0, 0, [0, 144]),
  (40, .invokevirtual 51, 3, 12, 1, 0, [0, 551]),
  (43, .ireturn, 1, 0, 0, 0, []),
  (44, .aload_n 0, 1, 0, 0, 0, []),
  (45, .getfield 23, 3, 3, 1, 0, [0, 147]),
  (48, .ireturn, 1, 0, 0, 0, []),
  (49, .aload_n 0, 1, 0, 0, 0, []),
  (50, .invokevirtual 44, 3, 78, 1, 0, [0, 543]),
  (53, .ireturn, 1, 0, 0, 0, []),
  (54, .aload_n 0, 1, 0, 0, 0, []),
  (55, .invokevirtual 48, 3, 79, 1, 0, [0, 547]),
  (58, .ireturn, 1, 0, 0, 0, []),
  (59, .aload_n 0, 1, 0, 0, 0, []),
  (60, .invokevirtual 54, 3, 85, 1, 0, [0, 573]),
  (63, .ireturn, 1, 0, 0, 0, []),
  (64, .bipush (-2), 2, 0, 0, (-2), []),
  (66, .ireturn, 1, 0, 0, 0, [])]
def am_t85 : List (Nat × am_I) := [(0, .iconst 0, 1, 0, 0, 0, []),
  (1, .istore_n 1, 1, 1, 0, 0, []),
  (2, .iconst 0, 1, 0, 0, 0, []),
  (3, .istore_n 2, 1, 2, 0, 0, []),
  (4, .iload_n 2, 1, 2, 0, 0, []),
  (5, .aload_n 0, 1, 0, 0, 0, []),
  (6, .getfield 14, 3, 3, 0, 0, [0, 144]),
  (9, .invokevirtual 51, 3, 12, 1, 0, [0, 551]),
  (12, .if_icmp .ge 25, 3, 37, 0, 0, []),
  (15, .iload_n 1, 1, 1, 0, 0, []),
  (16, .aload_n 0, 1, 0, 0, 0, []),
  (17, .getfield 14, 3, 3, 0, 0, [0, 144]),
  (20, .iload_n 2, 1, 2, 0, 0, []),
  (21, .invokevirtual 27, 3, 24, 2, 0, [0, 353]),
  (24, .getfield 57, 3, 1, 4, 0, [0, 85]),
  (27, .invokestatic 60, 3, 0, 90, 0, [577, 487, 59, 488]),
  (30, .istore_n 1, 1, 1, 0, 0, []),
  (31, .iinc 2 1, 3, 2, 0, 1, []),
  (34, .goto (-30), 3, 4, 0, 0, []),
  (37, .iload_n 1, 1, 1, 0, 0, []),
  (38, .ireturn, 1, 0, 0, 0, [])]
def am_t86 : List (Nat × am_I) := [(0, .iload_n 1, 1, 1, 0, 0, []),
  (1, .iconst (-1), 1, 0, 0, (-1), []),
  (2, .if_icmp .ne 11, 3, 13, 0, 0, []),
  (5, .aload_n 0, 1, 0, 0, 0, []),
  (6, .getfield 58, 3, 0, 8, 0, [0, 213]),
  (9, .invokevirtual 107, 3, 47, 1, 0, [0, 408]),
  (12, .ireturn, 1, 0, 0, 0, []),
  (13, .iload_n 1, 1, 1, 0, 0, []),
  (14, .ifCond .lt 14, 3, 28, 0, 0, []),
  (17, .iload_n 1, 1, 1, 0, 0, []),
  (18, .aload_n 0, 1, 0, 0, 0, []),
  (19, .getfield 58, 3, 0, 8, 0, [0, 213]),
  (22, .invokevirtual 107, 3, 47, 1, 0, [0, 408]),
  (25, .if_icmp .lt 6, 3, 31, 0, 0, []),
  (28, .bipush (-2), 2, 0, 0, (-2), []),
  (30, .ireturn, 1, 0, 0, 0, []),
  (31, .iload_n 2, 1, 2, 0, 0, []),
  (32, .tableswitch 59 0 2 #[28, 37, 46], 28, 91, 0, 0, [60, 69, 78]),
  (60, .aload_n 0, 1, 0, 0, 0, []),
  (61, .getfield 58, 3, 0, 8, 0, [0, 213]),
  (64, .iload_n 1, 1, 1, 0, 0, []),
  (65, .invokevirtual 185, 3, 41, 2, 0, [0, 416]),
  (68, .ireturn, 1, 0, 0, 0, []),
  (69, .aload_n 0, 1, 0, 0, 0, []),
  (70, .getfield 58, 3, 0, 8, 0, [0, 213]),
  (73, .iload_n 1, 1, 1, 0, 0, []),
  (74, .invokevirtual 188, 3, 87, 2, 0, [0, 582]),
  (77, .ireturn, 1, 0, 0, 0, []),
  (78, .aload_n 0, 1, 0, 0, 0, []),
  (79, .aload_n 0, 1, 0, 0, 0, []),
  (80, .getfield 58, 3, 0, 8, 0, [0, 213]),
  (83, .iload_n 1, 1, 1, 0, 0, []),
  (84, .invokevirtual 185, 3, 41, 2, 0, [0, 416]),
  (87, .invokevirtual 191, 3, 88, 2, 0, [0, 586]),
  (90, .ireturn, 1, 0, 0, 0, []),
  (91, .bipush (-2), 2, 0, 0, (-2), []),
  (93, .ireturn, 1, 0, 0, 0, [])]
def am_t87 : List (Nat × am_I) := [(0, .iload_n 1, 1, 1, 0, 0, []),
  (1, .ifCond .lt 20, 3, 21, 0, 0, []),
  (4, .iload_n 1, 1, 1, 0, 0, []),
  (5, .aload_n 0, 1, 0, 0, 0, []),
  (6, .getfield 15, 3, 5, 2, 0, [0, 171]),
  (9, .if_icmp .ge 12, 3, 21, 0, 0, []),
  (12, .aload_n 0, 1, 0, 0, 0, []),
  (13, .getfield 9, 3, 5, 0, 0, [0, 169]),
  (16, .iload_n 1, 1, 1, 0, 0, []),
  (17, .iaload, 1, 0, 0, 0, []),
  (18, .goto 4, 3, 22, 0, 0, []),
  (21, .iconst 0, 1, 0, 0, 0, []),
  (22, .ireturn, 1, 0, 0, 0, [])]
def am_t88 : List (Nat × am_I) := [(0, .aload_n 0, 1, 0, 0, 0, []),
  (1, .getfield 27, 3, 0, 2, 0, [0, 207]),
  (4, .iload_n 1, 1, 1, 0, 0, []),
  (5, .invokevirtual 248, 3, 89, 2, 0, [0, 590]),
  (8, .istore_n 2, 1, 2, 0, 0, []),
  (9, .iconst 0, 1, 0, 0, 0, []),
  (10, .istore_n 3, 1, 3, 0, 0, []),
  (11, .iload_n 3, 1, 3, 0, 0, []),
  (12, .iconst 3, 1, 0, 0, 3, []),
  (13, .if_icmp .ge 21, 3, 34, 0, 0, []),
  (16, .iload_n 2, 1, 2, 0, 0, []),
  (17, .aload_n 0, 1, 0, 0, 0, []),
  (18, .iload_n 3, 1, 3, 0, 0, []),
  (19, .invokevirtual 93, 3, 45, 2, 0, [0, 400]),
  (22, .iload_n 1, 1, 1, 0, 0, []),
  (23, .invokevirtual 249, 3, 90, 2, 0, [0, 594]),
  (26, .iadd, 1, 0, 0, 0, []),
  (27, .istore_n 2, 1, 2, 0, 0, []),
  (28, .iinc 3 1, 3, 3, 0, 1, []),
  (31, .goto (-20), 3, 11, 0, 0, []),
  (34, .iload_n 2, 1, 2, 0, 0, []),
  (35, .ireturn, 1, 0, 0, 0, [])]
def am_t89 : List (Nat × am_I) := [(0, .iconst 0, 1, 0, 0, 0, []),
  (1, .istore_n 2, 1, 2, 0, 0, []),
  (2, .iconst 0, 1, 0, 0, 0, []),
  (3, .istore_n 3, 1, 3, 0, 0, []),
  (4, .iload_n 3, 1, 3, 0, 0, []),
  (5, .aload_n 0, 1, 0, 0, 0, []),
  (6, .getfield 19, 3, 2, 2, 0, [0, 121]),
  (9, .if_icmp .ge 25, 3, 34, 0, 0, []),
  (12, .aload_n 0, 1, 0, 0, 0, []),
  (13, .getfield 15, 3, 2, 1, 0, [0, 120]),
  (16, .iload_n 3, 1, 3, 0, 0, []),
  (17, .aaload, 1, 0, 0, 0, []),
  (18, .iload_n 1, 1, 1, 0, 0, []),
  (19, .invokevirtual 46, 3, 51, 2, 0, [0, 425]),
  (22, .ifCond .eq 6, 3, 28, 0, 0, []),
  (25, .iinc 2 1, 3, 2, 0, 1, []),
  (28, .iinc 3 1, 3, 3, 0, 1, []),
  (31, .goto (-27), 3, 4, 0, 0, []),
  (34, .iload_n 2, 1, 2, 0, 0, []),
  (35, .ireturn, 1, 0, 0, 0, [])]
def am_t90 : List (Nat × am_I) := [(0, .iconst 0, 1, 0, 0, 0, []),
  (1, .istore_n 2, 1, 2, 0, 0, []),
  (2, .iconst 0, 1, 0, 0, 0, []),
  (3, .istore_n 3, 1, 3, 0, 0, []),
  (4, .iload_n 3, 1, 3, 0, 0, []),
  (5, .aload_n 0, 1, 0, 0, 0, []),
  (6, .getfield 20, 3, 4, 1, 0, [0, 154]),
  (9, .if_icmp .ge 25, 3, 34, 0, 0, []),
  (12, .iload_n 2, 1, 2, 0, 0, []),
  (13, .aload_n 0, 1, 0, 0, 0, []),
  (14, .getfield 11, 3, 4, 0, 0, [0, 153]),
  (17, .iload_n 3, 1, 3, 0, 0, []),
  (18, .aaload, 1, 0, 0, 0, []),
  (19, .getfield 44, 3, 3, 0, 0, [0, 145]),
  (22, .iload_n 1, 1, 1, 0, 0, []),
  (23, .invokevirtual 56, 3, 89, 2, 0, [0, 598]),
  (26, .iadd, 1, 0, 0, 0, []),
  (27, .istore_n 2, 1, 2, 0, 0, []),
  (28, .iinc 3 1, 3, 3, 0, 1, []),
  (31, .goto (-27), 3, 4, 0, 0, []),
  (34, .iload_n 2, 1, 2, 0, 0, []),
  (35, .ireturn, 1, 0, 0, 0, [])]
def am_t91 : List (Nat × am_I) := [(0, .iload_n 1, 1, 1, 0, 0, []),
  (1, .tableswitch 72 0 4 #[35, 43, 48, 56, 64], 35, 73, 0, 0, [36, 44, 49, 57, 65]),
  (36, .aload_n 0, 1, 0, 0, 0, []),
  (37, .getfield 27, 3, 0, 2, 0, [0, 207]),
  (40, .invokevirtual 77, 3, 12, 1, 0, [0, 259]),
  (43, .ireturn, 1, 0, 0, 0, []),
  (44, .aload_n 0, 1, 0, 0, 0, []),
  (45, .getfield 122, 3, 0, 11, 0, [0, 216]),
  (48, .ireturn, 1, 0, 0, 0, []),
  (49, .aload_n 0, 1, 0, 0, 0, []),
  (50, .getfield 58, 3, 0, 8, 0, [0, 213]),
  (53, .invokevirtual 141, 3, 64, 1, 0, [0, 482]),
  (56, .ireturn, 1, 0, 0, 0, []),
  (57, .aload_n 0, 1, 0, 0, 0, []),
  (58, .getfield 23, 3, 0, 1, 0, [0, 206]),
  (61, .invokevirtual 77, 3, 12, 1, 0, [0, 259]),
  (64, .ireturn, 1, 0, 0, 0, []),
  (65, .aload_n 0, 1, 0, 0, 0, []),
  (66, .getfield 65, 3, 0, 9, 0, [0, 214]),
  (69, .invokevirtual 194, 3, 92, 1, 0, [0, 603]),
  (72, .ireturn, 1, 0, 0, 0, []),
  (73, .bipush (-2), 2, 0, 0, (-2), []),
  (75, .ireturn, 1, 0, 0, 0, [])]
def am_t92 : List (Nat × am_I) := [(0, .iconst 0, 1, 0, 0, 0, []),
  (1, .istore_n 1, 1, 1, 0, 0, []),
  (2, .iconst 0, 1, 0, 0, 0, []),
  (3, .istore_n 2, 1, 2, 0, 0, []),
  (4, .iload_n 2, 1, 2, 0, 0, []),
  (5, .iconst 3, 1, 0, 0, 3, []),
  (6, .if_icmp .ge 22, 3, 28, 0, 0, []),
  (9, .aload_n 0, 1, 0, 0, 0, []),
  (10, .getfield 9, 3, 6, 0, 0, [0, 201]),
  (13, .iload_n 2, 1, 2, 0, 0, []),
  (14, .iaload, 1, 0, 0, 0, []),
  (15, .iconst (-1), 1, 0, 0, (-1), []),
  (16, .if_icmp .eq 6, 3, 22, 0, 0, []),
  (19, .iinc 1 1, 3, 1, 0, 1, []),
  (22, .iinc 2 1, 3, 2, 0, 1, []),
  (25, .goto (-21), 3, 4, 0, 0, []),
  (28, .iload_n 1, 1, 1, 0, 0, []),
  (29, .ireturn, 1, 0, 0, 0, [])]
def am_t93 : List (Nat × am_I) := [(0, .aload_n 0, 1, 0, 0, 0, []),
  (1, .invokespecial 1, 3, 0, 99, 0, [612, 67, 68]),
  (4, .aload_n 0, 1, 0, 0, 0, []),
  (5, .sipush 520, 3, 0, 0, 520, []),
  (8, .newarray .int, 2, 0, 0, 0, [191]),
  (10, .putfield 7, 3, 7, 2, 0, [0, 615]),
  (13, .aload_n 0, 1, 0, 0, 0, []),
  (14, .sipush 520, 3, 0, 0, 520, []),
  (17, .newarray .int, 2, 0, 0, 0, [191]),
  (19, .putfield 13, 3, 7, 3, 0, [0, 616]),
  (22, .aload_n 0, 1, 0, 0, 0, []),
  (23, .sipush 520, 3, 0, 0, 520, []),
  (26, .newarray .int, 2, 0, 0, 0, [191]),
  (28, .putfield 16, 3, 7, 4, 0, [0, 617]),
  (31, .aload_n 0, 1, 0, 0, 0, []),
  (32, .sipush 520, 3, 0, 0, 520, []),
  (35, .newarray .boolean, 2, 1, 0, 0, [704]),
  (37, .putfield 19, 3, 7, 5, 0, [0, 618]),
  (40, .aload_n 0, 1, 0, 0, 0, []),
  (41, .sipush 520, 3, 0, 0, 520, []),
  (44, .newarray .int, 2, 0, 0, 0, [191]),
  (46, .putfield 23, 3, 7, 6, 0, [0, 619]),
  (49, .aload_n 0, 1, 0, 0, 0, []),
  (50, .sipush 520, 3, 0, 0, 520, []),
  (53, .newarray .int, 2, 0, 0, 0, [191]),
  (55, .putfield 26, 3, 7, 7, 0, [0, 620]),
  (58, .aload_n 0, 1, 0, 0, 0, []),
  (59, .sipush 520, 3, 0, 0, 520, []),
  (62, .newarray .int, 2, 0, 0, 0, [191]),
  (64, .putfield 29, 3, 7, 8, 0, [0, 621]),
  (67, .aload_n 0, 1, 0, 0, 0, []),
  (68, .sipush 520, 3, 0, 0, 520, []),
  (71, .newarray .int, 2, 0, 0, 0, [191]),
  (73, .putfield 32, 3, 7, 9, 0, [0, 622]),
  (76, .aload_n 0, 1, 0, 0, 0, []),
  (77, .sipush 520, 3, 0, 0, 520, []),
  (80, .newarray .int, 2, 0, 0, 0, [191]),
  (82, .putfield 35, 3, 7, 10, 0, [0, 623]),
  (85, .aload_n 0, 1, 0, 0, 0, []),
  (86, .sipush 520, 3, 0, 0, 520, []),
  (89, .newarray .boolean, 2, 1, 0, 0, [704]),
  (91, .putfield 38, 3, 7, 11, 0, [0, 624]),
  (94, .aload_n 0, 1, 0, 0, 0, []),
  (95, .sipush 520, 3, 0, 0, 520, []),
  (98, .newarray .boolean, 2, 1, 0, 0, [704]),
  (100, .putfield 41, 3, 7, 12, 0, [0, 625]),
  (103, .aload_n 0, 1, 0, 0, 0, []),
  (104, .bipush 6, 2, 0, 0, 6, []),
  (106, .newarray .int, 2, 0, 0, 0, [191]),
  (108, .putfield 44, 3, 7, 17, 0, [0, 630]),
  (111, .aload_n 0, 1, 0, 0, 0, []),
  (112, .bipush 6, 2, 0, 0, 6, []),
  (114, .newarray .int, 2, 0, 0, 0, [191]),
  (116, .putfield 47, 3, 7, 18, 0, [0, 631]),
  (119, .aload_n 0, 1, 0, 0, 0, []),
  (120, .bipush 6, 2, 0, 0, 6, []),
  (122, .newarray .int, 2, 0, 0, 0, [191]),
  (124, .putfield 50, 3, 7, 19, 0, [0, 632]),
  (127, .aload_n 0, 1, 0, 0, 0, []),
  (128, .iconst 3, 1, 0, 0, 3, []),
  (129, .newarray .boolean, 2, 1, 0, 0, [704]),
  (131, .putfield 53, 3, 7, 20, 0, [0, 633]),
  (134, .aload_n 0, 1, 0, 0, 0, []),
  (135, .iconst 3, 1, 0, 0, 3, []),
  (136, .newarray .int, 2, 0, 0, 0, [191]),
  (138, .putfield 56, 3, 7, 21, 0, [0, 634]),
  (141, .aload_n 0, 1, 0, 0, 0, []),
  (142, .bipush 8, 2, 0, 0, 8, []),
  (144, .newarray .int, 2, 0, 0, 0, [191]),
  (146, .putfield 59, 3, 7, 24, 0, [0, 637]),
  (149, .aload_n 0, 1, 0, 0, 0, []),
  (150, .bipush 16, 2, 0, 0, 16, []),
  (152, .newarray .int, 2, 0, 0, 0, [191]),
  (154, .putfield 62, 3, 7, 26, 0, [0, 639]),
  (157, .aload_n 0, 1, 0, 0, 0, []),
  (158, .bipush 16, 2, 0, 0, 16, []),
  (160, .newarray .int, 2, 0, 0, 0, [191]),
  (162, .putfield 65, 3, 7, 27, 0, [0, 640]),
  (165, .aload_n 0, 1, 0, 0, 0, []),
  (166, .bipush 16, 2, 0, 0, 16, []),
  (168, .newarray .boolean, 2, 1, 0, 0, [704]),
  (170, .putfield 68, 3, 7, 28, 0, [0, 641]),
  (173, .return_, 1, 0, 0, 0, [])]
def am_t94 : List (Nat × am_I) := [(0, .iload_n 1, 1, 1, 0, 0, []),
  (1, .invokestatic 137, 3, 95, 1, 0, [0, 709]),
  (4, .ifCond .eq 14, 3, 18, 0, 0, []),
  (7, .iload_n 3, 1, 3, 0, 0, []),
  (8, .ifCond .lt 10, 3, 18, 0, 0, []),
  (11, .iload_n 3, 1, 3, 0, 0, []),
  (12, .sipush 1000, 3, 0, 0, 1000, []),
  (15, .if_icmp .le 7, 3, 22, 0, 0, []),
  (18, .iconst (-1), 1, 0, 0, (-1), []),
  (19, .goto 10, 3, 29, 0, 0, []),
  (22, .aload_n 0, 1, 0, 0, 0, []),
  (23, .iload_n 1, 1, 1, 0, 0, []),
  (24, .iload_n 2, 1, 2, 0, 0, []),
  (25, .iload_n 3, 1, 3, 0, 0, []),
  (26, .invokevirtual 140, 3, 96, 4, 0, [0, 712]),
  (29, .ireturn, 1, 0, 0, 0, [])]
def am_t95 : List (Nat × am_I) := [(0, .iload_n 0, 1, 0, 0, 0, []),
  (1, .ifCond .lt 13, 3, 14, 0, 0, []),
  (4, .iload_n 0, 1, 0, 0, 0, []),
  (5, .bipush 32, 2, 0, 0, 32, []),
  (7, .if_icmp .ge 7, 3, 14, 0, 0, []),
  (10, .iconst 1, 1, 0, 0, 1, []),
  (11, .goto 4, 3, 15, 0, 0, []),
  (14, .iconst 0, 1, 0, 0, 0, []),
  (15, .ireturn, 1, 0, 0, 0, [])]
def am_t96 : List (Nat × am_I) := [(0, .aload_n 0, 1, 0, 0, 0, []),
  (1, .getfield 134, 3, 7, 16, 0, [0, 629]),
  (4, .bipush 6, 2, 0, 0, 6, []),
  (6, .if_icmp .ne 6, 3, 12, 0, 0, []),
  (9, .bipush (-3), 2, 0, 0, (-3), []),
  (11, .ireturn, 1, 0, 0, 0, []),
  (12, .aload_n 0, 1, 0, 0, 0, []),
  (13, .getfield 44, 3, 7, 17, 0, [0, 630]),
  (16, .aload_n 0, 1, 0, 0, 0, []),
  (17, .getfield 134, 3, 7, 16, 0, [0, 629]),
  (20, .iload_n 1, 1, 1, 0, 0, []),
  (21, .iastore, 1, 0, 0, 0, []),
  (22, .aload_n 0, 1, 0, 0, 0, []),
  (23, .getfield 47, 3, 7, 18, 0, [0, 631]),
  (26, .aload_n 0, 1, 0, 0, 0, []),
  (27, .getfield 134, 3, 7, 16, 0, [0, 629]),
  (30, .iload_n 2, 1, 2, 0, 0, []),
  (31, .iastore, 1, 0, 0, 0, []),
  (32, .aload_n 0, 1, 0, 0, 0, []),
  (33, .getfield 50, 3, 7, 19, 0, [0, 632]),
  (36, .aload_n 0, 1, 0, 0, 0, []),
  (37, .getfield 134, 3, 7, 16, 0, [0, 629]),
  (40, .iload_n 3, 1, 3, 0, 0, []),
  (41, .iastore, 1, 0, 0, 0, []),
  (42, .aload_n 0, 1, 0, 0, 0, []),
  (43, .dup, 1, 0, 0, 0, []),
  (44, .getfield 134, 3, 7, 16, 0, [0, 629]),
  (47, .iconst 1, 1, 0, 0, 1, []),
  (48, .iadd, 1, 0, 0, 0, []),
  (49, .putfield 134, 3, 7, 16, 0, [0, 629]),
  (52, .aload_n 0, 1, 0, 0, 0, []),
  (53, .getfield 134, 3, 7, 16, 0, [0, 629]),
  (56, .ireturn, 1, 0, 0, 0, [])]
def am_t97 : List (Nat × am_I) := [(0, .iload_n 1, 1, 1, 0, 0, []),
  (1, .invokestatic 137, 3, 95, 1, 0, [0, 709]),
  (4, .ifCond .eq 13, 3, 17, 0, 0, []),
  (7, .aload_n 0, 1, 0, 0, 0, []),
  (8, .iload_n 1, 1, 1, 0, 0, []),
  (9, .iconst 0, 1, 0, 0, 0, []),
  (10, .iconst (-1), 1, 0, 0, (-1), []),
  (11, .invokevirtual 140, 3, 96, 4, 0, [0, 712]),
  (14, .goto 4, 3, 18, 0, 0, []),
  (17, .iconst (-1), 1, 0, 0, (-1), []),
  (18, .ireturn, 1, 0, 0, 0, [])]
def am_t98 : List (Nat × am_I) := [(0, .aload_n 0, 1, 0, 0, 0, []),
  (1, .getfield 134, 3, 7, 16, 0, [0, 629]),
  (4, .ifCond .ne 6, 3, 10, 0, 0, []),
  (7, .bipush (-2), 2, 0, 0, (-2), []),
  (9, .ireturn, 1, 0, 0, 0, []),
  (10, .aload_n 0, 1, 0, 0, 0, []),
  (11, .aload_n 0, 1, 0, 0, 0, []),
  (12, .getfield 134, 3, 7, 16, 0, [0, 629]),
  (15, .invokevirtual 131, 3, 99, 2, 0, [0, 724]),
  (18, .ifCond .eq 22, 3, 40, 0, 0, []),
  (21, .aload_n 0, 1, 0, 0, 0, []),
  (22, .getfield 128, 3, 7, 23, 0, [0, 636]),
  (25, .aload_n 0, 1, 0, 0, 0, []),
  (26, .getfield 144, 3, 7, 22, 0, [0, 635]),
  (29, .isub, 1, 0, 0, 0, []),
  (30, .iconst 1, 1, 0, 0, 1, []),
  (31, .iadd, 1, 0, 0, 0, []),
  (32, .bipush 8, 2, 0, 0, 8, []),
  (34, .if_icmp .lt 6, 3, 40, 0, 0, []),
  (37, .bipush (-3), 2, 0, 0, (-3), []),
  (39, .ireturn, 1, 0, 0, 0, []),
  (40, .aload_n 0, 1, 0, 0, 0, []),
  (41, .iconst (-1), 1, 0, 0, (-1), []),
  (42, .invokevirtual 109, 3, 100, 2, 0, [0, 728]),
  (45, .aload_n 0, 1, 0, 0, 0, []),
  (46, .getfield 134, 3, 7, 16, 0, [0, 629]),
  (49, .iadd, 1, 0, 0, 0, []),
  (50, .bipush 8, 2, 0, 0, 8, []),
  (52, .if_icmp .le 7, 3, 59, 0, 0, []),
  (55, .aload_n 0, 1, 0, 0, 0, []),
  (56, .invokevirtual 147, 3, 101, 1, 0, [0, 732]),
  (59, .aload_n 0, 1, 0, 0, 0, []),
  (60, .getfield 68, 3, 7, 28, 0, [0, 641]),
  (63, .aload_n 0, 1, 0, 0, 0, []),
  (64, .getfield 125, 3, 7, 25, 0, [0, 638]),
  (67, .aload_n 0, 1, 0, 0, 0, []),
  (68, .aload_n 0, 1, 0, 0, 0, []),
  (69, .getfield 134, 3, 7, 16, 0, [0, 629]),
  (72, .invokevirtual 131, 3, 99, 2, 0, [0, 724]),
  (75, .bastore, 1, 0, 0, 0, []),
  (76, .aload_n 0, 1, 0, 0, 0, []),
  (77, .getfield 62, 3, 7, 26, 0, [0, 639]),
  (80, .aload_n 0, 1, 0, 0, 0, []),
  (81, .getfield 125, 3, 7, 25, 0, [0, 638]),
  (84, .aload_n 0, 1, 0, 0, 0, []),
  (85, .getfield 89, 3, 7, 15, 0, [0, 628]),
  (88, .iconst 1, 1, 0, 0, 1, []),
  (89, .iadd, 1, 0, 0, 0, []),
  (90, .iastore, 1, 0, 0, 0, []),
  (91, .aload_n 0, 1, 0, 0, 0, []),
  (92, .getfield 65, 3, 7, 27, 0, [0, 640]),
  (95, .aload_n 0, 1, 0, 0, 0, []),
  (96, .getfield 125, 3, 7, 25, 0, [0, 638]),
  (99, .iconst 1, 1, 0, 0, 1, []),
  (100, .aload_n 0, 1, 0, 0, 0, []),
  (101, .getfield 134, 3, 7, 16, 0, [0, 629]),
  (104, .iadd, 1, 0, 0, 0, []),
  (105, .iastore, 1, 0, 0, 0, []),
  (106, .aload_n 0, 1, 0, 0, 0, []),
  (107, .dup, 1, 0, 0, 0, []),
  (108, .getfield 125, 3, 7, 25, 0, [0, 638]),
  (111, .iconst 1, 1, 0, 0, 1, []),
  (112, .iadd, 1, 0, 0, 0, []),
  (113, .putfield 125, 3, 7, 25, 0, [0, 638]),
  (116, .aload_n 0, 1, 0, 0, 0, []),
  (117, .aload_n 0, 1, 0, 0, 0, []),
  (118, .getfield 134, 3, 7, 16, 0, [0, 629]),
  (121, .invokevirtual 150, 3, 112, 2, 0, [0, 776]),
  (124, .istore_n 1, 1, 1, 0, 0, []),
  (125, .iconst 0, 1, 0, 0, 0, []),
  (126, .istore_n 2, 1, 2, 0, 0, []),
  (127, .iload_n 2, 1, 2, 0, 0, []),
  (128, .aload_n 0, 1, 0, 0, 0, []),
  (129, .getfield 134, 3, 7, 16, 0, [0, 629]),
  (132, .if_icmp .ge 144, 3, 276, 0, 0, []),
  (135, .aload_n 0, 1, 0, 0, 0, []),
  (136, .dup, 1, 0, 0, 0, []),
  (137, .getfield 89, 3, 7, 15, 0, [0, 628]),
  (140, .iconst 1, 1, 0, 0, 1, []),
  (141, .iadd, 1, 0, 0, 0, []),
  (142, .putfield 89, 3, 7, 15, 0, [0, 628]),
  (145, .aload_n 0, 1, 0, 0, 0, []),
  (146, .getfield 75, 3, 7, 1, 0, [0, 614]),
  (149, .istore_n 3, 1, 3, 0, 0, []),
  (150, .aload_n 0, 1, 0, 0, 0, []),
  (151, .dup, 1, 0, 0, 0, []),
  (152, .getfield 75, 3, 7, 1, 0, [0, 614]),
  (155, .iconst 1, 1, 0, 0, 1, []),
  (156, .iadd, 1, 0, 0, 0, []),
  (157, .putfield 75, 3, 7, 1, 0, [0, 614]),
  (160, .aload_n 0, 1, 0, 0, 0, []),
  (161, .getfield 7, 3, 7, 2, 0, [0, 615]),
  (164, .iload_n 3, 1, 3, 0, 0, []),
  (165, .aload_n 0, 1, 0, 0, 0, []),
  (166, .getfield 44, 3, 7, 17, 0, [0, 630]),
  (169, .iload_n 2, 1, 2, 0, 0, []),
  (170, .iaload, 1, 0, 0, 0, []),
  (171, .iastore, 1, 0, 0, 0, []),
  (172, .aload_n 0, 1, 0, 0, 0, []),
  (173, .getfield 13, 3, 7, 3, 0, [0, 616]),
  (176, .iload_n 3, 1, 3, 0, 0, []),
  (177, .aload_n 0, 1, 0, 0, 0, []),
  (178, .getfield 89, 3, 7, 15, 0, [0, 628]),
  (181, .iastore, 1, 0, 0, 0, []),
  (182, .aload_n 0, 1, 0, 0, 0, []),
  (183, .getfield 19, 3, 7, 5, 0, [0, 618]),
  (186, .iload_n 3, 1, 3, 0, 0, []),
  (187, .aload_n 0, 1, 0, 0, 0, []),
  (188, .getfield 50, 3, 7, 19, 0, [0, 632]),
  (191, .iload_n 2, 1, 2, 0, 0, []),
  (192, .iaload, 1, 0, 0, 0, []),
  (193, .ifCond .ge 7, 3, 200, 0, 0, []),
  (196, .iconst 1, 1, 0, 0, 1, []),
  (197, .goto 4, 3, 201, 0, 0, []),
  (200, .iconst 0, 1, 0, 0, 0, []),
  (201, .bastore, 1, 0, 0, 0, []),
  (202, .aload_n 0, 1, 0, 0, 0, []),
  (203, .getfield 16, 3, 7, 4, 0, [0, 617]),
  (206, .iload_n 3, 1, 3, 0, 0, []),
  (207, .aload_n 0, 1, 0, 0, 0, []),
  (208, .getfield 47, 3, 7, 18, 0, [0, 631]),
  (211, .iload_n 2, 1, 2, 0, 0, []),
  (212, .iaload, 1, 0, 0, 0, []),
  (213, .iastore, 1, 0, 0, 0, []),
  (214, .aload_n 0, 1, 0, 0, 0, []),
  (215, .getfield 23, 3, 7, 6, 0, [0, 619]),
  (218, .iload_n 3, 1, 3, 0, 0, []),
  (219, .aload_n 0, 1, 0, 0, 0, []),
  (220, .getfield 50, 3, 7, 19, 0, [0, 632]),
  (223, .iload_n 2, 1, 2, 0, 0, []),
  (224, .iaload, 1, 0, 0, 0, []),
  (225, .ifCond .le 17, 3, 242, 0, 0, []),
  (228, .aload_n 0, 1, 0, 0, 0, []),
  (229, .getfield 71, 3, 7, 0, 0, [0, 613]),
  (232, .aload_n 0, 1, 0, 0, 0, []),
  (233, .getfield 50, 3, 7, 19, 0, [0, 632]),
  (236, .iload_n 2, 1, 2, 0, 0, []),
  (237, .iaload, 1, 0, 0, 0, []),
  (238, .iadd, 1, 0, 0, 0, []),
  (239, .goto 4, 3, 243, 0, 0, []),
  (242, .iconst 0, 1, 0, 0, 0, []),
  (243, .iastore, 1, 0, 0, 0, []),
  (244, .aload_n 0, 1, 0, 0, 0, []),
  (245, .getfield 26, 3, 7, 7, 0, [0, 620]),
  (248, .iload_n 3, 1, 3, 0, 0, []),
  (249, .iconst (-1), 1, 0, 0, (-1), []),
  (250, .iastore, 1, 0, 0, 0, []),
  (251, .aload_n 0, 1, 0, 0, 0, []),
  (252, .getfield 32, 3, 7, 9, 0, [0, 622]),
  (255, .iload_n 3, 1, 3, 0, 0, []),
  (256, .aload_n 0, 1, 0, 0, 0, []),
  (257, .getfield 128, 3, 7, 23, 0, [0, 636]),
  (260, .iastore, 1, 0, 0, 0, []),
  (261, .aload_n 0, 1, 0, 0, 0, []),
  (262, .getfield 35, 3, 7, 10, 0, [0, 623]),
  (265, .iload_n 3, 1, 3, 0, 0, []),
  (266, .iload_n 1, 1, 1, 0, 0, []),
  (267, .iload_n 2, 1, 2, 0, 0, []),
  (268, .iadd, 1, 0, 0, 0, []),
  (269, .iastore, 1, 0, 0, 0, []),
  (270, .iinc 2 1, 3, 2, 0, 1, []),
  (273, .goto (-146), 3, 127, 0, 0, []),
  (276, .aload_n 0, 1, 0, 0, 0, []),
  (277, .getfield 134, 3, 7, 16, 0, [0, 629]),
  (280, .istore_n 2, 1, 2, 0, 0, []),
  (281, .aload_n 0, 1, 0, 0, 0, []),
  (282, .iconst 0, 1, 0, 0, 0, []),
  (283, .putfield 134, 3, 7, 16, 0, [0, 629]),
  (286, .iload_n 2, 1, 2, 0, 0, []),
  (287, .ireturn, 1, 0, 0, 0, [])]
def am_t99 : List (Nat × am_I) := [(0, .aload_n 0, 1, 0, 0, 0, []),
  (1, .getfield 59, 3, 7, 24, 0, [0, 637]),
  (4, .aload_n 0, 1, 0, 0, 0, []),
  (5, .getfield 128, 3, 7, 23, 0, [0, 636]),
  (8, .bipush 8, 2, 0, 0, 8, []),
  (10, .irem, 1, 0, 0, 0, []),
  (11, .iaload, 1, 0, 0, 0, []),
  (12, .iconst 1, 1, 0, 0, 1, []),
  (13, .iadd, 1, 0, 0, 0, []),
  (14, .iload_n 1, 1, 1, 0, 0, []),
  (15, .iadd, 1, 0, 0, 0, []),
  (16, .bipush 16, 2, 0, 0, 16, []),
  (18, .if_icmp .le 7, 3, 25, 0, 0, []),
  (21, .iconst 1, 1, 0, 0, 1, []),
  (22, .goto 4, 3, 26, 0, 0, []),
  (25, .iconst 0, 1, 0, 0, 0, []),
  (26, .ireturn, 1, 0, 0, 0, [])]
def am_t100 : List (Nat × am_I) := [(0, .iconst 0, 1, 0, 0, 0, []),
  (1, .istore_n 2, 1, 2, 0, 0, []),
  (2, .iconst 0, 1, 0, 0, 0, []),
  (3, .istore_n 3, 1, 3, 0, 0, []),
  (4, .iload_n 3, 1, 3, 0, 0, []),
  (5, .aload_n 0, 1, 0, 0, 0, []),
  (6, .getfield 75, 3, 7, 1, 0, [0, 614]),
  (9, .if_icmp .ge 22, 3, 31, 0, 0, []),
  (12, .aload_n 0, 1, 0, 0, 0, []),
  (13, .getfield 26, 3, 7, 7, 0, [0, 620]),
  (16, .iload_n 3, 1, 3, 0, 0, []),
  (17, .iaload, 1, 0, 0, 0, []),
  (18, .iload_n 1, 1, 1, 0, 0, []),
  (19, .if_icmp .ne 6, 3, 25, 0, 0, []),
  (22, .iinc 2 1, 3, 2, 0, 1, []),
  (25, .iinc 3 1, 3, 3, 0, 1, []),
  (28, .goto (-24), 3, 4, 0, 0, []),
  (31, .iload_n 2, 1, 2, 0, 0, []),
  (32, .ireturn, 1, 0, 0, 0, [])]
def am_t101 : List (Nat × am_I) := [(0, .aload_n 0, 1, 0, 0, 0, []),
  (1, .iconst (-1), 1, 0, 0, (-1), []),
  (2, .invokevirtual 109, 3, 100, 2, 0, [0, 728]),
  (5, .ifCond .ne 4, 3, 9, 0, 0, []),
  (8, .return_, 1, 0, 0, 0, []),
  (9, .aload_n 0, 1, 0, 0, 0, []),
  (10, .getfield 106, 3, 7, 14, 0, [0, 627]),
  (13, .iconst 4, 1, 0, 0, 4, []),
  (14, .if_icmp .ne 9, 3, 23, 0, 0, []),
  (17, .aload_n 0, 1, 0, 0, 0, []),
  (18, .iconst 0, 1, 0, 0, 0, []),
  (19, .invokevirtual 119, 3, 102, 2, 0, [0, 736]),
  (22, .pop, 1, 0, 0, 0, []),
  (23, .aload_n 0, 1, 0, 0, 0, []),
  (24, .iconst (-1), 1, 0, 0, (-1), []),
  (25, .iconst (-1), 1, 0, 0, (-1), []),
  (26, .invokevirtual 99, 3, 103, 3, 0, [0, 740]),
  (29, .aload_n 0, 1, 0, 0, 0, []),
  (30, .iconst 0, 1, 0, 0, 0, []),
  (31, .invokevirtual 103, 3, 104, 2, 0, [0, 744]),
  (34, .pop, 1, 0, 0, 0, []),
  (35, .aload_n 0, 1, 0, 0, 0, []),
  (36, .dup, 1, 0, 0, 0, []),
  (37, .getfield 122, 3, 7, 13, 0, [0, 626]),
  (40, .iconst 1, 1, 0, 0, 1, []),
  (41, .iadd, 1, 0, 0, 0, []),
  (42, .putfield 122, 3, 7, 13, 0, [0, 626]),
  (45, .aload_n 0, 1, 0, 0, 0, []),
  (46, .dup, 1, 0, 0, 0, []),
  (47, .getfield 106, 3, 7, 14, 0, [0, 627]),
  (50, .iconst 1, 1, 0, 0, 1, []),
  (51, .iadd, 1, 0, 0, 0, []),
  (52, .putfield 106, 3, 7, 14, 0, [0, 627]),
  (55, .iconst 0, 1, 0, 0, 0, []),
  (56, .istore_n 1, 1, 1, 0, 0, []),
  (57, .iload_n 1, 1, 1, 0, 0, []),
  (58, .aload_n 0, 1, 0, 0, 0, []),
  (59, .getfield 75, 3, 7, 1, 0, [0, 614]),
  (62, .if_icmp .ge 37, 3, 99, 0, 0, []),
  (65, .aload_n 0, 1, 0, 0, 0, []),
  (66, .getfield 38, 3, 7, 11, 0, [0, 624]),
  (69, .iload_n 1, 1, 1, 0, 0, []),
  (70, .baload, 1, 0, 0, 0, []),
  (71, .ifCond .eq 22, 3, 93, 0, 0, []),
  (74, .aload_n 0, 1, 0, 0, 0, []),
  (75, .getfield 26, 3, 7, 7, 0, [0, 620]),
  (78, .iload_n 1, 1, 1, 0, 0, []),
  (79, .iaload, 1, 0, 0, 0, []),
  (80, .ifCond .ne 13, 3, 93, 0, 0, []),
  (83, .aload_n 0, 1, 0, 0, 0, []),
  (84, .getfield 29, 3, 7, 8, 0, [0, 621]),
  (87, .iload_n 1, 1, 1, 0, 0, []),
  (88, .aload_n 0, 1, 0, 0, 0, []),
  (89, .getfield 122, 3, 7, 13, 0, [0, 626]),
  (92, .iastore, 1, 0, 0, 0, []),
  (93, .iinc 1 1, 3, 1, 0, 1, []),
  (96, .goto (-39), 3, 57, 0, 0, []),
  (99, .aload_n 0, 1, 0, 0, 0, []),
  (100, .iconst 0, 1, 0, 0, 0, []),
  (101, .putfield 125, 3, 7, 25, 0, [0, 638]),
  (104, .return_, 1, 0, 0, 0, [])]
def am_t102 : List (Nat × am_I) := [(0, .aload_n 0, 1, 0, 0, 0, []),
  (1, .iload_n 1, 1, 1, 0, 0, []),
  (2, .iload_n 1, 1, 1, 0, 0, []),
  (3, .iconst 1, 1, 0, 0, 1, []),
  (4, .iadd, 1, 0, 0, 0, []),
  (5, .invokevirtual 99, 3, 103, 3, 0, [0, 740]),
  (8, .aload_n 0, 1, 0, 0, 0, []),
  (9, .iload_n 1, 1, 1, 0, 0, []),
  (10, .iconst 1, 1, 0, 0, 1, []),
  (11, .iadd, 1, 0, 0, 0, []),
  (12, .invokevirtual 103, 3, 104, 2, 0, [0, 744]),
  (15, .istore_n 2, 1, 2, 0, 0, []),
  (16, .iload_n 1, 1, 1, 0, 0, []),
  (17, .ifCond .ne 8, 3, 25, 0, 0, []),
  (20, .aload_n 0, 1, 0, 0, 0, []),
  (21, .iconst 0, 1, 0, 0, 0, []),
  (22, .putfield 106, 3, 7, 14, 0, [0, 627]),
  (25, .iload_n 1, 1, 1, 0, 0, []),
  (26, .ifCond .ne 20, 3, 46, 0, 0, []),
  (29, .aload_n 0, 1, 0, 0, 0, []),
  (30, .iconst 1, 1, 0, 0, 1, []),
  (31, .invokevirtual 109, 3, 100, 2, 0, [0, 728]),
  (34, .bipush 12, 2, 0, 0, 12, []),
  (36, .if_icmp .le 10, 3, 46, 0, 0, []),
  (39, .iload_n 2, 1, 2, 0, 0, []),
  (40, .aload_n 0, 1, 0, 0, 0, []),
  (41, .invokevirtual 112, 3, 109, 1, 0, [0, 764]),
  (44, .iadd, 1, 0, 0, 0, []),
  (45, .istore_n 2, 1, 2, 0, 0, []),
  (46, .aload_n 0, 1, 0, 0, 0, []),
  (47, .invokevirtual 116, 3, 110, 1, 0, [0, 768]),
  (50, .iload_n 2, 1, 2, 0, 0, []),
  (51, .ireturn, 1, 0, 0, 0, [])]
def am_t103 : List (Nat × am_I) := [(0, .iconst 0, 1, 0, 0, 0, []),
  (1, .istore_n 3, 1, 3, 0, 0, []),
  (2, .iload_n 3, 1, 3, 0, 0, []),
  (3, .aload_n 0, 1, 0, 0, 0, []),
  (4, .getfield 75, 3, 7, 1, 0, [0, 614]),
  (7, .if_icmp .ge 40, 3, 47, 0, 0, []),
  (10, .aload_n 0, 1, 0, 0, 0, []),
  (11, .getfield 38, 3, 7, 11, 0, [0, 624]),
  (14, .iload_n 3, 1, 3, 0, 0, []),
  (15, .aload_n 0, 1, 0, 0, 0, []),
  (16, .getfield 26, 3, 7, 7, 0, [0, 620]),
  (19, .iload_n 3, 1, 3, 0, 0, []),
  (20, .iaload, 1, 0, 0, 0, []),
  (21, .iload_n 1, 1, 1, 0, 0, []),
  (22, .if_icmp .eq 13, 3, 35, 0, 0, []),
  (25, .aload_n 0, 1, 0, 0, 0, []),
  (26, .getfield 26, 3, 7, 7, 0, [0, 620]),
  (29, .iload_n 3, 1, 3, 0, 0, []),
  (30, .iaload, 1, 0, 0, 0, []),
  (31, .iload_n 2, 1, 2, 0, 0, []),
  (32, .if_icmp .ne 7, 3, 39, 0, 0, []),
  (35, .iconst 1, 1, 0, 0, 1, []),
  (36, .goto 4, 3, 40, 0, 0, []),
  (39, .iconst 0, 1, 0, 0, 0, []),
  (40, .bastore, 1, 0, 0, 0, []),
  (41, .iinc 3 1, 3, 3, 0, 1, []),
  (44, .goto (-42), 3, 2, 0, 0, []),
  (47, .return_, 1, 0, 0, 0, [])]
def am_t104 : List (Nat × am_I) := [(0, .iconst 0, 1, 0, 0, 0, []),
  (1, .istore_n 2, 1, 2, 0, 0, []),
  (2, .iload_n 2, 1, 2, 0, 0, []),
  (3, .aload_n 0, 1, 0, 0, 0, []),
  (4, .getfield 75, 3, 7, 1, 0, [0, 614]),
  (7, .if_icmp .ge 58, 3, 65, 0, 0, []),
  (10, .aload_n 0, 1, 0, 0, 0, []),
  (11, .getfield 41, 3, 7, 12, 0, [0, 625]),
  (14, .iload_n 2, 1, 2, 0, 0, []),
  (15, .iconst 0, 1, 0, 0, 0, []),
  (16, .bastore, 1, 0, 0, 0, []),
  (17, .aload_n 0, 1, 0, 0, 0, []),
  (18, .getfield 38, 3, 7, 11, 0, [0, 624]),
  (21, .iload_n 2, 1, 2, 0, 0, []),
  (22, .baload, 1, 0, 0, 0, []),
  (23, .ifCond .ne 6, 3, 29, 0, 0, []),
  (26, .goto 33, 3, 59, 0, 0, []),
  (29, .aload_n 0, 1, 0, 0, 0, []),
  (30, .iload_n 2, 1, 2, 0, 0, []),
  (31, .invokevirtual 82, 3, 105, 2, 0, [0, 748]),
  (34, .istore_n 3, 1, 3, 0, 0, []),
  (35, .aload_n 0, 1, 0, 0, 0, []),
  (36, .getfield 41, 3, 7, 12, 0, [0, 625]),
  (39, .iload_n 2, 1, 2, 0, 0, []),
  (40, .iload_n 3, 1, 3, 0, 0, []),
  (41, .ifCond .lt 16, 3, 57, 0, 0, []),
  (44, .aload_n 0, 1, 0, 0, 0, []),
  (45, .iload_n 2, 1, 2, 0, 0, []),
  (46, .iload_n 3, 1, 3, 0, 0, []),
  (47, .invokevirtual 86, 3, 106, 3, 0, [0, 752]),
  (50, .ifCond .ne 7, 3, 57, 0, 0, []),
  (53, .iconst 1, 1, 0, 0, 1, []),
  (54, .goto 4, 3, 58, 0, 0, []),
  (57, .iconst 0, 1, 0, 0, 0, []),
  (58, .bastore, 1, 0, 0, 0, []),
  (59, .iinc 2 1, 3, 2, 0, 1, []),
  (62, .goto (-60), 3, 2, 0, 0, []),
  (65, .iconst 1, 1, 0, 0, 1, []),
  (66, .istore_n 2, 1, 2, 0, 0, []),
  (67, .iload_n 2, 1, 2, 0, 0, []),
  (68, .aload_n 0, 1, 0, 0, 0, []),
  (69, .getfield 89, 3, 7, 15, 0, [0, 628]),
  (72, .if_icmp .gt 81, 3, 153, 0, 0, []),
  (75, .iload_n 1, 1, 1, 0, 0, []),
  (76, .iconst 2, 1, 0, 0, 2, []),
  (77, .if_icmp .ne 76, 3, 153, 0, 0, []),
  (80, .iconst 0, 1, 0, 0, 0, []),
  (81, .istore_n 3, 1, 3, 0, 0, []),
  (82, .iload_n 3, 1, 3, 0, 0, []),
  (83, .aload_n 0, 1, 0, 0, 0, []),
  (84, .getfield 75, 3, 7, 1, 0, [0, 614]),
  (87, .if_icmp .ge 60, 3, 147, 0, 0, []),
  (90, .aload_n 0, 1, 0, 0, 0, []),
  (91, .getfield 38, 3, 7, 11, 0, [0, 624]),
  (94, .iload_n 3, 1, 3, 0, 0, []),
  (95, .baload, 1, 0, 0, 0, []),
  (96, .ifCond .eq 45, 3, 141, 0, 0, []),
  (99, .aload_n 0, 1, 0, 0, 0, []),
  (100, .getfield 13, 3, 7, 3, 0, [0, 616]),
  (103, .iload_n 3, 1, 3, 0, 0, []),
  (104, .iaload, 1, 0, 0, 0, []),
  (105, .iload_n 2, 1, 2, 0, 0, []),
  (106, .if_icmp .ne 35, 3, 141, 0, 0, []),
  (109, .aload_n 0, 1, 0, 0, 0, []),
  (110, .getfield 41, 3, 7, 12, 0, [0, 625]),
  (113, .iload_n 3, 1, 3, 0, 0, []),
  (114, .baload, 1, 0, 0, 0, []),
  (115, .ifCond .ne 26, 3, 141, 0, 0, []),
  (118, .aload_n 0, 1, 0, 0, 0, []),
  (119, .iload_n 3, 1, 3, 0, 0, []),
  (120, .invokevirtual 92, 3, 107, 2, 0, [0, 756]),
  (123, .ifCond .eq 18, 3, 141, 0, 0, []),
  (126, .aload_n 0, 1, 0, 0, 0, []),
  (127, .iload_n 3, 1, 3, 0, 0, []),
  (128, .invokevirtual 96, 3, 108, 2, 0, [0, 760]),
  (131, .ifCond .eq 10, 3, 141, 0, 0, []),
  (134, .aload_n 0, 1, 0, 0, 0, []),
  (135, .getfield 41, 3, 7, 12, 0, [0, 625]),
  (138, .iload_n 3, 1, 3, 0, 0, []),
  (139, .iconst 1, 1, 0, 0, 1, []),
  (140, .bastore, 1, 0, 0, 0, []),
  (141, .iinc 3 1, 3, 3, 0, 1, []),
  (144, .goto (-62), 3, 82, 0, 0, []),
  (147, .iinc 2 1, 3, 2, 0, 1, []),
  (150, .goto (-83), 3, 67, 0, 0, []),
  (153, .iconst 0, 1, 0, 0, 0, []),
  (154, .istore_n 2, 1, 2, 0, 0, []),
  (155, .iconst 0, 1, 0, 0, 0, []),
  (156, .istore_n 3, 1, 3, 0, 0, []),
  (157, .iload_n 3, 1, 3, 0, 0, []),
  (158, .aload_n 0, 1, 0, 0, 0, []),
  (159, .getfield 75, 3, 7, 1, 0, [0, 614]),
  (162, .if_icmp .ge 59, 3, 221, 0, 0, []),
  (165, .aload_n 0, 1, 0, 0, 0, []),
  (166, .getfield 38, 3, 7, 11, 0, [0, 624]),
  (169, .iload_n 3, 1, 3, 0, 0, []),
  (170, .baload, 1, 0, 0, 0, []),
  (171, .ifCond .ne 6, 3, 177, 0, 0, []),
  (174, .goto 41, 3, 215, 0, 0, []),
  (177, .aload_n 0, 1, 0, 0, 0, []),
  (178, .getfield 26, 3, 7, 7, 0, [0, 620]),
  (181, .iload_n 3, 1, 3, 0, 0, []),
  (182, .aload_n 0, 1, 0, 0, 0, []),
  (183, .getfield 41, 3, 7, 12, 0, [0, 625]),
  (186, .iload_n 3, 1, 3, 0, 0, []),
  (187, .baload, 1, 0, 0, 0, []),
  (188, .ifCond .eq 8, 3, 196, 0, 0, []),
  (191, .bipush 9, 2, 0, 0, 9, []),
  (193, .goto 4, 3, 197, 0, 0, []),
  (196, .iload_n 1, 1, 1, 0, 0, []),
  (197, .iastore, 1, 0, 0, 0, []),
  (198, .aload_n 0, 1, 0, 0, 0, []),
  (199, .getfield 41, 3, 7, 12, 0, [0, 625]),
  (202, .iload_n 3, 1, 3, 0, 0, []),
  (203, .baload, 1, 0, 0, 0, []),
  (204, .ifCond .eq 9, 3, 213, 0, 0, []),
  (207, .iload_n 2, 1, 2, 0, 0, []),
  (208, .iconst 1, 1, 0, 0, 1, []),
  (209, .iadd, 1, 0, 0, 0, []),
  (210, .goto 4, 3, 214, 0, 0, []),
  (213, .iload_n 2, 1, 2, 0, 0, []),
  (214, .istore_n 2, 1, 2, 0, 0, []),
  (215, .iinc 3 1, 3, 3, 0, 1, []),
  (218, .goto (-61), 3, 157, 0, 0, []),
  (221, .iload_n 2, 1, 2, 0, 0, []),
  (222, .ireturn, 1, 0, 0, 0, [])]
def am_t105 : List (Nat × am_I) := [(0, .iconst (-1), 1, 0, 0, (-1), []),
  (1, .istore_n 2, 1, 2, 0, 0, []),
  (2, .iconst 0, 1, 0, 0, 0, []),
  (3, .istore_n 3, 1, 3, 0, 0, []),
  (4, .iload_n 3, 1, 3, 0, 0, []),
  (5, .aload_n 0, 1, 0, 0, 0, []),
  (6, .getfield 75, 3, 7, 1, 0, [0, 614]),
  (9, .if_icmp .ge 81, 3, 90, 0, 0, []),
  (12, .aload_n 0, 1, 0, 0, 0, []),
  (13, .getfield 38, 3, 7, 11, 0, [0, 624]),
  (16, .iload_n 3, 1, 3, 0, 0, []),
  (17, .baload, 1, 0, 0, 0, []),
  (18, .ifCond .eq 37, 3, 55, 0, 0, []),
  (21, .aload_n 0, 1, 0, 0, 0, []),
  (22, .getfield 7, 3, 7, 2, 0, [0, 615]),
  (25, .iload_n 3, 1, 3, 0, 0, []),
  (26, .iaload, 1, 0, 0, 0, []),
  (27, .aload_n 0, 1, 0, 0, 0, []),
  (28, .getfield 7, 3, 7, 2, 0, [0, 615]),
  (31, .iload_n 1, 1, 1, 0, 0, []),
  (32, .iaload, 1, 0, 0, 0, []),
  (33, .if_icmp .ne 22, 3, 55, 0, 0, []),
  (36, .aload_n 0, 1, 0, 0, 0, []),
  (37, .getfield 13, 3, 7, 3, 0, [0, 616]),
  (40, .iload_n 3, 1, 3, 0, 0, []),
  (41, .iaload, 1, 0, 0, 0, []),
  (42, .aload_n 0, 1, 0, 0, 0, []),
  (43, .getfield 13, 3, 7, 3, 0, [0, 616]),
  (46, .iload_n 1, 1, 1, 0, 0, []),
  (47, .iaload, 1, 0, 0, 0, []),
  (48, .if_icmp .le 7, 3, 55, 0, 0, []),
  (51, .iconst 1, 1, 0, 0, 1, []),
  (52, .goto 4, 3, 56, 0, 0, []),
  (55, .iconst 0, 1, 0, 0, 0, []),
  (56, .istore 4, 2, 4, 0, 0, []),
  (58, .iload 4, 2, 4, 0, 0, []),
  (60, .ifCond .eq 24, 3, 84, 0, 0, []),
  (63, .iload_n 2, 1, 2, 0, 0, []),
  (64, .ifCond .lt 18, 3, 82, 0, 0, []),
  (67, .aload_n 0, 1, 0, 0, 0, []),
  (68, .getfield 13, 3, 7, 3, 0, [0, 616]),
  (71, .iload_n 3, 1, 3, 0, 0, []),
  (72, .iaload, 1, 0, 0, 0, []),
  (73, .aload_n 0, 1, 0, 0, 0, []),
  (74, .getfield 13, 3, 7, 3, 0, [0, 616]),
  (77, .iload_n 2, 1, 2, 0, 0, []),
  (78, .iaload, 1, 0, 0, 0, []),
  (79, .if_icmp .ge 5, 3, 84, 0, 0, []),
  (82, .iload_n 3, 1, 3, 0, 0, []),
  (83, .istore_n 2, 1, 2, 0, 0, []),
  (84, .iinc 3 1, 3, 3, 0, 1, []),
  (87, .goto (-83), 3, 4, 0, 0, []),
  (90, .iload_n 2, 1, 2, 0, 0, []),
  (91, .ireturn, 1, 0, 0, 0, [])]
def am_t106 : List (Nat × am_I) := [(0, .iconst 0, 1, 0, 0, 0, []),
  (1, .istore_n 3, 1, 3, 0, 0, []),
  (2, .iconst 0, 1, 0, 0, 0, []),
  (3, .istore 4, 2, 4, 0, 0, []),
  (5, .iload 4, 2, 4, 0, 0, []),
  (7, .iconst 3, 1, 0, 0, 3, []),
  (8, .if_icmp .ge 61, 3, 69, 0, 0, []),
  (11, .iload_n 3, 1, 3, 0, 0, []),
  (12, .ifCond .ne 45, 3, 57, 0, 0, []),
  (15, .aload_n 0, 1, 0, 0, 0, []),
  (16, .getfield 53, 3, 7, 20, 0, [0, 633]),
  (19, .iload 4, 2, 4, 0, 0, []),
  (21, .baload, 1, 0, 0, 0, []),
  (22, .ifCond .eq 39, 3, 61, 0, 0, []),
  (25, .aload_n 0, 1, 0, 0, 0, []),
  (26, .getfield 13, 3, 7, 3, 0, [0, 616]),
  (29, .iload_n 1, 1, 1, 0, 0, []),
  (30, .iaload, 1, 0, 0, 0, []),
  (31, .aload_n 0, 1, 0, 0, 0, []),
  (32, .getfield 56, 3, 7, 21, 0, [0, 634]),
  (35, .iload 4, 2, 4, 0, 0, []),
  (37, .iaload, 1, 0, 0, 0, []),
  (38, .if_icmp .gt 23, 3, 61, 0, 0, []),
  (41, .aload_n 0, 1, 0, 0, 0, []),
  (42, .getfield 56, 3, 7, 21, 0, [0, 634]),
  (45, .iload 4, 2, 4, 0, 0, []),
  (47, .iaload, 1, 0, 0, 0, []),
  (48, .aload_n 0, 1, 0, 0, 0, []),
  (49, .getfield 13, 3, 7, 3, 0, [0, 616]),
  (52, .iload_n 2, 1, 2, 0, 0, []),
  (53, .iaload, 1, 0, 0, 0, []),
  (54, .if_icmp .ge 7, 3, 61, 0, 0, []),
  (57, .iconst 1, 1, 0, 0, 1, []),
  (58, .goto 4, 3, 62, 0, 0, []),
  (61, .iconst 0, 1, 0, 0, 0, []),
  (62, .istore_n 3, 1, 3, 0, 0, []),
  (63, .iinc 4 1, 3, 4, 0, 1, []),
  (66, .goto (-61), 3, 5, 0, 0, []),
  (69, .iload_n 3, 1, 3, 0, 0, []),
  (70, .ireturn, 1, 0, 0, 0, [])]
def am_t107 : List (Nat × am_I) := [(0, .aload_n 0, 1, 0, 0, 0, []),
  (1, .getfield 19, 3, 7, 5, 0, [0, 618]),
  (4, .iload_n 1, 1, 1, 0, 0, []),
  (5, .baload, 1, 0, 0, 0, []),
  (6, .ifCond .ne 25, 3, 31, 0, 0, []),
  (9, .aload_n 0, 1, 0, 0, 0, []),
  (10, .getfield 23, 3, 7, 6, 0, [0, 619]),
  (13, .iload_n 1, 1, 1, 0, 0, []),
  (14, .iaload, 1, 0, 0, 0, []),
  (15, .ifCond .le 20, 3, 35, 0, 0, []),
  (18, .aload_n 0, 1, 0, 0, 0, []),
  (19, .getfield 71, 3, 7, 0, 0, [0, 613]),
  (22, .aload_n 0, 1, 0, 0, 0, []),
  (23, .getfield 23, 3, 7, 6, 0, [0, 619]),
  (26, .iload_n 1, 1, 1, 0, 0, []),
  (27, .iaload, 1, 0, 0, 0, []),
  (28, .if_icmp .lt 7, 3, 35, 0, 0, []),
  (31, .iconst 1, 1, 0, 0, 1, []),
  (32, .goto 4, 3, 36, 0, 0, []),
  (35, .iconst 0, 1, 0, 0, 0, []),
  (36, .ireturn, 1, 0, 0, 0, [])]
def am_t108 : List (Nat × am_I) := [(0, .iconst 1, 1, 0, 0, 1, []),
  (1, .istore_n 2, 1, 2, 0, 0, []),
  (2, .iconst 0, 1, 0, 0, 0, []),
  (3, .istore_n 3, 1, 3, 0, 0, []),
  (4, .iload_n 3, 1, 3, 0, 0, []),
  (5, .aload_n 0, 1, 0, 0, 0, []),
  (6, .getfield 75, 3, 7, 1, 0, [0, 614]),
  (9, .if_icmp .ge 59, 3, 68, 0, 0, []),
  (12, .aload_n 0, 1, 0, 0, 0, []),
  (13, .getfield 38, 3, 7, 11, 0, [0, 624]),
  (16, .iload_n 3, 1, 3, 0, 0, []),
  (17, .baload, 1, 0, 0, 0, []),
  (18, .ifCond .eq 44, 3, 62, 0, 0, []),
  (21, .aload_n 0, 1, 0, 0, 0, []),
  (22, .getfield 41, 3, 7, 12, 0, [0, 625]),
  (25, .iload_n 3, 1, 3, 0, 0, []),
  (26, .baload, 1, 0, 0, 0, []),
  (27, .ifCond .ne 35, 3, 62, 0, 0, []),
  (30, .aload_n 0, 1, 0, 0, 0, []),
  (31, .getfield 7, 3, 7, 2, 0, [0, 615]),
  (34, .iload_n 3, 1, 3, 0, 0, []),
  (35, .iaload, 1, 0, 0, 0, []),
  (36, .aload_n 0, 1, 0, 0, 0, []),
  (37, .getfield 7, 3, 7, 2, 0, [0, 615]),
  (40, .iload_n 1, 1, 1, 0, 0, []),
  (41, .iaload, 1, 0, 0, 0, []),
  (42, .if_icmp .ne 20, 3, 62, 0, 0, []),
  (45, .aload_n 0, 1, 0, 0, 0, []),
  (46, .getfield 13, 3, 7, 3, 0, [0, 616]),
  (49, .iload_n 3, 1, 3, 0, 0, []),
  (50, .iaload, 1, 0, 0, 0, []),
  (51, .aload_n 0, 1, 0, 0, 0, []),
  (52, .getfield 13, 3, 7, 3, 0, [0, 616]),
  (55, .iload_n 1, 1, 1, 0, 0, []),
  (56, .iaload, 1, 0, 0, 0, []),
  (57, .if_icmp .ge 5, 3, 62, 0, 0, []),
  (60, .iconst 0, 1, 0, 0, 0, []),
  (61, .istore_n 2, 1, 2, 0, 0, []),
  (62, .iinc 3 1, 3, 3, 0, 1, []),
  (65, .goto (-61), 3, 4, 0, 0, []),
  (68, .iload_n 2, 1, 2, 0, 0, []),
  (69, .ireturn, 1, 0, 0, 0, [])]
def am_t109 : List (Nat × am_I) := [(0, .aload_n 0, 1, 0, 0, 0, []),
  (1, .iconst 1, 1, 0, 0, 1, []),
  (2, .iconst 2, 1, 0, 0, 2, []),
  (3, .invokevirtual 99, 3, 103, 3, 0, [0, 740]),
  (6, .aload_n 0, 1, 0, 0, 0, []),
  (7, .iconst 2, 1, 0, 0, 2, []),
  (8, .invokevirtual 103, 3, 104, 2, 0, [0, 744]),
  (11, .ireturn, 1, 0, 0, 0, [])]
def am_t110 : List (Nat × am_I) := [(0, .iconst 0, 1, 0, 0, 0, []),
  (1, .istore_n 1, 1, 1, 0, 0, []),
  (2, .iload_n 1, 1, 1, 0, 0, []),
  (3, .aload_n 0, 1, 0, 0, 0, []),
  (4, .getfield 75, 3, 7, 1, 0, [0, 614]),
  (7, .if_icmp .ge 84, 3, 91, 0, 0, []),
  (10, .aload_n 0, 1, 0, 0, 0, []),
  (11, .getfield 26, 3, 7, 7, 0, [0, 620]),
  (14, .iload_n 1, 1, 1, 0, 0, []),
  (15, .iaload, 1, 0, 0, 0, []),
  (16, .iconst 1, 1, 0, 0, 1, []),
  (17, .if_icmp .eq 16, 3, 33, 0, 0, []),
  (20, .aload_n 0, 1, 0, 0, 0, []),
  (21, .getfield 26, 3, 7, 7, 0, [0, 620]),
  (24, .iload_n 1, 1, 1, 0, 0, []),
  (25, .iaload, 1, 0, 0, 0, []),
  (26, .iconst 2, 1, 0, 0, 2, []),
  (27, .if_icmp .eq 6, 3, 33, 0, 0, []),
  (30, .goto 55, 3, 85, 0, 0, []),
  (33, .iconst 0, 1, 0, 0, 0, []),
  (34, .istore_n 2, 1, 2, 0, 0, []),
  (35, .iconst 0, 1, 0, 0, 0, []),
  (36, .istore_n 3, 1, 3, 0, 0, []),
  (37, .iload_n 3, 1, 3, 0, 0, []),
  (38, .aload_n 0, 1, 0, 0, 0, []),
  (39, .getfield 75, 3, 7, 1, 0, [0, 614]),
  (42, .if_icmp .ge 36, 3, 78, 0, 0, []),
  (45, .aload_n 0, 1, 0, 0, 0, []),
  (46, .getfield 26, 3, 7, 7, 0, [0, 620]),
  (49, .iload_n 3, 1, 3, 0, 0, []),
  (50, .iaload, 1, 0, 0, 0, []),
  (51, .aload_n 0, 1, 0, 0, 0, []),
  (52, .getfield 26, 3, 7, 7, 0, [0, 620]),
  (55, .iload_n 1, 1, 1, 0, 0, []),
  (56, .iaload, 1, 0, 0, 0, []),
  (57, .if_icmp .ne 15, 3, 72, 0, 0, []),
  (60, .aload_n 0, 1, 0, 0, 0, []),
  (61, .iload_n 3, 1, 3, 0, 0, []),
  (62, .iload_n 1, 1, 1, 0, 0, []),
  (63, .invokevirtual 78, 3, 111, 3, 0, [0, 772]),
  (66, .ifCond .eq 6, 3, 72, 0, 0, []),
  (69, .iinc 2 1, 3, 2, 0, 1, []),
  (72, .iinc 3 1, 3, 3, 0, 1, []),
  (75, .goto (-38), 3, 37, 0, 0, []),
  (78, .aload_n 0, 1, 0, 0, 0, []),
  (79, .getfield 29, 3, 7, 8, 0, [0, 621]),
  (82, .iload_n 1, 1, 1, 0, 0, []),
  (83, .iload_n 2, 1, 2, 0, 0, []),
  (84, .iastore, 1, 0, 0, 0, []),
  (85, .iinc 1 1, 3, 1, 0, 1, []),
  (88, .goto (-86), 3, 2, 0, 0, []),
  (91, .return_, 1, 0, 0, 0, [])]
def am_t111 : List (Nat × am_I) := [(0, .aload_n 0, 1, 0, 0, 0, []),
  (1, .getfield 7, 3, 7, 2, 0, [0, 615]),
  (4, .iload_n 1, 1, 1, 0, 0, []),
  (5, .iaload, 1, 0, 0, 0, []),
  (6, .aload_n 0, 1, 0, 0, 0, []),
  (7, .getfield 7, 3, 7, 2, 0, [0, 615]),
  (10, .iload_n 2, 1, 2, 0, 0, []),
  (11, .iaload, 1, 0, 0, 0, []),
  (12, .if_icmp .lt 33, 3, 45, 0, 0, []),
  (15, .aload_n 0, 1, 0, 0, 0, []),
  (16, .getfield 7, 3, 7, 2, 0, [0, 615]),
  (19, .iload_n 1, 1, 1, 0, 0, []),
  (20, .iaload, 1, 0, 0, 0, []),
  (21, .aload_n 0, 1, 0, 0, 0, []),
  (22, .getfield 7, 3, 7, 2, 0, [0, 615]),
  (25, .iload_n 2, 1, 2, 0, 0, []),
  (26, .iaload, 1, 0, 0, 0, []),
  (27, .if_icmp .ne 22, 3, 49, 0, 0, []),
  (30, .aload_n 0, 1, 0, 0, 0, []),
  (31, .getfield 13, 3, 7, 3, 0, [0, 616]),
  (34, .iload_n 1, 1, 1, 0, 0, []),
  (35, .iaload, 1, 0, 0, 0, []),
  (36, .aload_n 0, 1, 0, 0, 0, []),
  (37, .getfield 13, 3, 7, 3, 0, [0, 616]),
  (40, .iload_n 2, 1, 2, 0, 0, []),
  (41, .iaload, 1, 0, 0, 0, []),
  (42, .if_icmp .le 7, 3, 49, 0, 0, []),
  (45, .iconst 1, 1, 0, 0, 1, []),
  (46, .goto 4, 3, 50, 0, 0, []),
  (49, .iconst 0, 1, 0, 0, 0, []),
  (50, .ireturn, 1, 0, 0, 0, [])]
def am_t112 : List (Nat × am_I) := [(0, .aload_n 0, 1, 0, 0, 0, []),
  (1, .iload_n 1, 1, 1, 0, 0, []),
  (2, .invokevirtual 131, 3, 99, 2, 0, [0, 724]),
  (5, .ifCond .eq 26, 3, 31, 0, 0, []),
  (8, .aload_n 0, 1, 0, 0, 0, []),
  (9, .dup, 1, 0, 0, 0, []),
  (10, .getfield 128, 3, 7, 23, 0, [0, 636]),
  (13, .iconst 1, 1, 0, 0, 1, []),
  (14, .iadd, 1, 0, 0, 0, []),
  (15, .putfield 128, 3, 7, 23, 0, [0, 636]),
  (18, .aload_n 0, 1, 0, 0, 0, []),
  (19, .getfield 59, 3, 7, 24, 0, [0, 637]),
  (22, .aload_n 0, 1, 0, 0, 0, []),
  (23, .getfield 128, 3, 7, 23, 0, [0, 636]),
  (26, .bipush 8, 2, 0, 0, 8, []),
  (28, .irem, 1, 0, 0, 0, []),
  (29, .iconst 0, 1, 0, 0, 0, []),
  (30, .iastore, 1, 0, 0, 0, []),
  (31, .aload_n 0, 1, 0, 0, 0, []),
  (32, .getfield 59, 3, 7, 24, 0, [0, 637]),
  (35, .aload_n 0, 1, 0, 0, 0, []),
  (36, .getfield 128, 3, 7, 23, 0, [0, 636]),
  (39, .bipush 8, 2, 0, 0, 8, []),
  (41, .irem, 1, 0, 0, 0, []),
  (42, .iaload, 1, 0, 0, 0, []),
  (43, .iconst 1, 1, 0, 0, 1, []),
  (44, .iadd, 1, 0, 0, 0, []),
  (45, .istore_n 2, 1, 2, 0, 0, []),
  (46, .aload_n 0, 1, 0, 0, 0, []),
  (47, .getfield 59, 3, 7, 24, 0, [0, 637]),
  (50, .aload_n 0, 1, 0, 0, 0, []),
  (51, .getfield 128, 3, 7, 23, 0, [0, 636]),
  (54, .bipush 8, 2, 0, 0, 8, []),
  (56, .irem, 1, 0, 0, 0, []),
  (57, .iload_n 2, 1, 2, 0, 0, []),
  (58, .iload_n 1, 1, 1, 0, 0, []),
  (59, .iadd, 1, 0, 0, 0, []),
  (60, .iastore, 1, 0, 0, 0, []),
  (61, .iload_n 2, 1, 2, 0, 0, []),
  (62, .ireturn, 1, 0, 0, 0, [])]
def am_t113 : List (Nat × am_I) := [(0, .aload_n 0, 1, 0, 0, 0, []),
  (1, .getfield 125, 3, 7, 25, 0, [0, 638]),
  (4, .istore_n 1, 1, 1, 0, 0, []),
  (5, .aload_n 0, 1, 0, 0, 0, []),
  (6, .iconst 0, 1, 0, 0, 0, []),
  (7, .putfield 125, 3, 7, 25, 0, [0, 638]),
  (10, .iload_n 1, 1, 1, 0, 0, []),
  (11, .ireturn, 1, 0, 0, 0, [])]
def am_t114 : List (Nat × am_I) := [(0, .aload_n 0, 1, 0, 0, 0, []),
  (1, .iconst (-1), 1, 0, 0, (-1), []),
  (2, .invokevirtual 109, 3, 100, 2, 0, [0, 728]),
  (5, .istore_n 1, 1, 1, 0, 0, []),
  (6, .aload_n 0, 1, 0, 0, 0, []),
  (7, .invokevirtual 147, 3, 101, 1, 0, [0, 732]),
  (10, .iload_n 1, 1, 1, 0, 0, []),
  (11, .ireturn, 1, 0, 0, 0, [])]
def am_t115 : List (Nat × am_I) := [(0, .iload_n 1, 1, 1, 0, 0, []),
  (1, .ifCond .lt 8, 3, 9, 0, 0, []),
  (4, .iload_n 1, 1, 1, 0, 0, []),
  (5, .iconst 1, 1, 0, 0, 1, []),
  (6, .if_icmp .le 5, 3, 11, 0, 0, []),
  (9, .iconst (-1), 1, 0, 0, (-1), []),
  (10, .ireturn, 1, 0, 0, 0, []),
  (11, .aload_n 0, 1, 0, 0, 0, []),
  (12, .iload_n 1, 1, 1, 0, 0, []),
  (13, .invokevirtual 109, 3, 100, 2, 0, [0, 728]),
  (16, .ifCond .ne 8, 3, 24, 0, 0, []),
  (19, .bipush (-2), 2, 0, 0, (-2), []),
  (21, .goto 8, 3, 29, 0, 0, []),
  (24, .aload_n 0, 1, 0, 0, 0, []),
  (25, .iload_n 1, 1, 1, 0, 0, []),
  (26, .invokevirtual 119, 3, 102, 2, 0, [0, 736]),
  (29, .ireturn, 1, 0, 0, 0, [])]
def am_t116 : List (Nat × am_I) := [(0, .aload_n 0, 1, 0, 0, 0, []),
  (1, .getfield 144, 3, 7, 22, 0, [0, 635]),
  (4, .aload_n 0, 1, 0, 0, 0, []),
  (5, .getfield 128, 3, 7, 23, 0, [0, 636]),
  (8, .if_icmp .ne 6, 3, 14, 0, 0, []),
  (11, .bipush (-2), 2, 0, 0, (-2), []),
  (13, .ireturn, 1, 0, 0, 0, []),
  (14, .aload_n 0, 1, 0, 0, 0, []),
  (15, .invokevirtual 147, 3, 101, 1, 0, [0, 732]),
  (18, .aload_n 0, 1, 0, 0, 0, []),
  (19, .aload_n 0, 1, 0, 0, 0, []),
  (20, .getfield 144, 3, 7, 22, 0, [0, 635]),
  (23, .invokevirtual 156, 3, 117, 2, 0, [0, 796]),
  (26, .istore_n 1, 1, 1, 0, 0, []),
  (27, .aload_n 0, 1, 0, 0, 0, []),
  (28, .getfield 128, 3, 7, 23, 0, [0, 636]),
  (31, .aload_n 0, 1, 0, 0, 0, []),
  (32, .getfield 144, 3, 7, 22, 0, [0, 635]),
  (35, .isub, 1, 0, 0, 0, []),
  (36, .iconst 1, 1, 0, 0, 1, []),
  (37, .iadd, 1, 0, 0, 0, []),
  (38, .aload_n 0, 1, 0, 0, 0, []),
  (39, .iload_n 1, 1, 1, 0, 0, []),
  (40, .invokevirtual 159, 3, 119, 2, 0, [0, 804]),
  (43, .iadd, 1, 0, 0, 0, []),
  (44, .bipush 8, 2, 0, 0, 8, []),
  (46, .if_icmp .le 6, 3, 52, 0, 0, []),
  (49, .bipush (-3), 2, 0, 0, (-3), []),
  (51, .ireturn, 1, 0, 0, 0, []),
  (52, .iload_n 1, 1, 1, 0, 0, []),
  (53, .istore_n 2, 1, 2, 0, 0, []),
  (54, .iload_n 2, 1, 2, 0, 0, []),
  (55, .ifCond .le 75, 3, 130, 0, 0, []),
  (58, .iload_n 2, 1, 2, 0, 0, []),
  (59, .bipush 6, 2, 0, 0, 6, []),
  (61, .if_icmp .ge 7, 3, 68, 0, 0, []),
  (64, .iload_n 2, 1, 2, 0, 0, []),
  (65, .goto 5, 3, 70, 0, 0, []),
  (68, .bipush 6, 2, 0, 0, 6, []),
  (70, .istore_n 3, 1, 3, 0, 0, []),
  (71, .aload_n 0, 1, 0, 0, 0, []),
  (72, .iload_n 3, 1, 3, 0, 0, []),
  (73, .invokevirtual 150, 3, 112, 2, 0, [0, 776]),
  (76, .istore 4, 2, 4, 0, 0, []),
  (78, .iconst 0, 1, 0, 0, 0, []),
  (79, .istore 5, 2, 5, 0, 0, []),
  (81, .iload 5, 2, 5, 0, 0, []),
  (83, .iload_n 3, 1, 3, 0, 0, []),
  (84, .if_icmp .ge 38, 3, 122, 0, 0, []),
  (87, .aload_n 0, 1, 0, 0, 0, []),
  (88, .invokevirtual 162, 3, 120, 1, 0, [0, 808]),
  (91, .istore 6, 2, 6, 0, 0, []),
  (93, .aload_n 0, 1, 0, 0, 0, []),
  (94, .getfield 32, 3, 7, 9, 0, [0, 622]),
  (97, .iload 6, 2, 6, 0, 0, []),
  (99, .aload_n 0, 1, 0, 0, 0, []),
  (100, .getfield 128, 3, 7, 23, 0, [0, 636]),
  (103, .iastore, 1, 0, 0, 0, []),
  (104, .aload_n 0, 1, 0, 0, 0, []),
  (105, .getfield 35, 3, 7, 10, 0, [0, 623]),
  (108, .iload 6, 2, 6, 0, 0, []),
  (110, .iload 4, 2, 4, 0, 0, []),
  (112, .iload 5, 2, 5, 0, 0, []),
  (114, .iadd, 1, 0, 0, 0, []),
  (115, .iastore, 1, 0, 0, 0, []),
  (116, .iinc 5 1, 3, 5, 0, 1, []),
  (119, .goto (-38), 3, 81, 0, 0, []),
  (122, .iload_n 2, 1, 2, 0, 0, []),
  (123, .bipush 6, 2, 0, 0, 6, []),
  (125, .isub, 1, 0, 0, 0, []),
  (126, .istore_n 2, 1, 2, 0, 0, []),
  (127, .goto (-73), 3, 54, 0, 0, []),
  (130, .aload_n 0, 1, 0, 0, 0, []),
  (131, .iconst 0, 1, 0, 0, 0, []),
  (132, .putfield 125, 3, 7, 25, 0, [0, 638]),
  (135, .aload_n 0, 1, 0, 0, 0, []),
  (136, .dup, 1, 0, 0, 0, []),
  (137, .getfield 144, 3, 7, 22, 0, [0, 635]),
  (140, .iconst 1, 1, 0, 0, 1, []),
  (141, .iadd, 1, 0, 0, 0, []),
  (142, .putfield 144, 3, 7, 22, 0, [0, 635]),
  (145, .iload_n 1, 1, 1, 0, 0, []),
  (146, .ireturn, 1, 0, 0, 0, [])]
def am_t117 : List (Nat × am_I) := [(0, .iconst 0, 1, 0, 0, 0, []),
  (1, .istore_n 2, 1, 2, 0, 0, []),
  (2, .iconst 0, 1, 0, 0, 0, []),
  (3, .istore_n 3, 1, 3, 0, 0, []),
  (4, .iload_n 3, 1, 3, 0, 0, []),
  (5, .aload_n 0, 1, 0, 0, 0, []),
  (6, .getfield 75, 3, 7, 1, 0, [0, 614]),
  (9, .if_icmp .ge 21, 3, 30, 0, 0, []),
  (12, .aload_n 0, 1, 0, 0, 0, []),
  (13, .iload_n 3, 1, 3, 0, 0, []),
  (14, .iload_n 1, 1, 1, 0, 0, []),
  (15, .invokevirtual 153, 3, 118, 3, 0, [0, 800]),
  (18, .ifCond .eq 6, 3, 24, 0, 0, []),
  (21, .iinc 2 1, 3, 2, 0, 1, []),
  (24, .iinc 3 1, 3, 3, 0, 1, []),
  (27, .goto (-23), 3, 4, 0, 0, []),
  (30, .iload_n 2, 1, 2, 0, 0, []),
  (31, .ireturn, 1, 0, 0, 0, [])]
def am_t118 : List (Nat × am_I) := [(0, .aload_n 0, 1, 0, 0, 0, []),
  (1, .getfield 26, 3, 7, 7, 0, [0, 620]),
  (4, .iload_n 1, 1, 1, 0, 0, []),
  (5, .iaload, 1, 0, 0, 0, []),
  (6, .bipush 9, 2, 0, 0, 9, []),
  (8, .if_icmp .eq 26, 3, 34, 0, 0, []),
  (11, .aload_n 0, 1, 0, 0, 0, []),
  (12, .getfield 19, 3, 7, 5, 0, [0, 618]),
  (15, .iload_n 1, 1, 1, 0, 0, []),
  (16, .baload, 1, 0, 0, 0, []),
  (17, .ifCond .ne 17, 3, 34, 0, 0, []),
  (20, .aload_n 0, 1, 0, 0, 0, []),
  (21, .getfield 32, 3, 7, 9, 0, [0, 622]),
  (24, .iload_n 1, 1, 1, 0, 0, []),
  (25, .iaload, 1, 0, 0, 0, []),
  (26, .iload_n 2, 1, 2, 0, 0, []),
  (27, .if_icmp .ne 7, 3, 34, 0, 0, []),
  (30, .iconst 1, 1, 0, 0, 1, []),
  (31, .goto 4, 3, 35, 0, 0, []),
  (34, .iconst 0, 1, 0, 0, 0, []),
  (35, .ireturn, 1, 0, 0, 0, [])]
def am_t119 : List (Nat × am_I) := [(0, .iconst 0, 1, 0, 0, 0, []),
  (1, .istore_n 2, 1, 2, 0, 0, []),
  (2, .aload_n 0, 1, 0, 0, 0, []),
  (3, .getfield 59, 3, 7, 24, 0, [0, 637]),
  (6, .aload_n 0, 1, 0, 0, 0, []),
  (7, .getfield 128, 3, 7, 23, 0, [0, 636]),
  (10, .bipush 8, 2, 0, 0, 8, []),
  (12, .irem, 1, 0, 0, 0, []),
  (13, .iaload, 1, 0, 0, 0, []),
  (14, .istore_n 3, 1, 3, 0, 0, []),
  (15, .iload_n 1, 1, 1, 0, 0, []),
  (16, .istore 4, 2, 4, 0, 0, []),
  (18, .iload 4, 2, 4, 0, 0, []),
  (20, .ifCond .le 50, 3, 70, 0, 0, []),
  (23, .iconst 1, 1, 0, 0, 1, []),
  (24, .iload 4, 2, 4, 0, 0, []),
  (26, .bipush 6, 2, 0, 0, 6, []),
  (28, .if_icmp .ge 8, 3, 36, 0, 0, []),
  (31, .iload 4, 2, 4, 0, 0, []),
  (33, .goto 5, 3, 38, 0, 0, []),
  (36, .bipush 6, 2, 0, 0, 6, []),
  (38, .iadd, 1, 0, 0, 0, []),
  (39, .istore 5, 2, 5, 0, 0, []),
  (41, .iload_n 3, 1, 3, 0, 0, []),
  (42, .iload 5, 2, 5, 0, 0, []),
  (44, .iadd, 1, 0, 0, 0, []),
  (45, .bipush 16, 2, 0, 0, 16, []),
  (47, .if_icmp .le 8, 3, 55, 0, 0, []),
  (50, .iinc 2 1, 3, 2, 0, 1, []),
  (53, .iconst 0, 1, 0, 0, 0, []),
  (54, .istore_n 3, 1, 3, 0, 0, []),
  (55, .iload_n 3, 1, 3, 0, 0, []),
  (56, .iload 5, 2, 5, 0, 0, []),
  (58, .iadd, 1, 0, 0, 0, []),
  (59, .istore_n 3, 1, 3, 0, 0, []),
  (60, .iload 4, 2, 4, 0, 0, []),
  (62, .bipush 6, 2, 0, 0, 6, []),
  (64, .isub, 1, 0, 0, 0, []),
  (65, .istore 4, 2, 4, 0, 0, []),
  (67, .goto (-49), 3, 18, 0, 0, []),
  (70, .iload_n 2, 1, 2, 0, 0, []),
  (71, .ireturn, 1, 0, 0, 0, [])]
def am_t120 : List (Nat × am_I) := [(0, .iconst (-1), 1, 0, 0, (-1), []),
  (1, .istore_n 1, 1, 1, 0, 0, []),
  (2, .iconst 0, 1, 0, 0, 0, []),
  (3, .istore_n 2, 1, 2, 0, 0, []),
  (4, .iload_n 2, 1, 2, 0, 0, []),
  (5, .aload_n 0, 1, 0, 0, 0, []),
  (6, .getfield 75, 3, 7, 1, 0, [0, 614]),
  (9, .if_icmp .ge 42, 3, 51, 0, 0, []),
  (12, .aload_n 0, 1, 0, 0, 0, []),
  (13, .iload_n 2, 1, 2, 0, 0, []),
  (14, .aload_n 0, 1, 0, 0, 0, []),
  (15, .getfield 144, 3, 7, 22, 0, [0, 635]),
  (18, .invokevirtual 153, 3, 118, 3, 0, [0, 800]),
  (21, .ifCond .eq 24, 3, 45, 0, 0, []),
  (24, .iload_n 1, 1, 1, 0, 0, []),
  (25, .ifCond .lt 18, 3, 43, 0, 0, []),
  (28, .aload_n 0, 1, 0, 0, 0, []),
  (29, .getfield 35, 3, 7, 10, 0, [0, 623]),
  (32, .iload_n 2, 1, 2, 0, 0, []),
  (33, .iaload, 1, 0, 0, 0, []),
  (34, .aload_n 0, 1, 0, 0, 0, []),
  (35, .getfield 35, 3, 7, 10, 0, [0, 623]),
  (38, .iload_n 1, 1, 1, 0, 0, []),
  (39, .iaload, 1, 0, 0, 0, []),
  (40, .if_icmp .ge 5, 3, 45, 0, 0, []),
  (43, .iload_n 2, 1, 2, 0, 0, []),
  (44, .istore_n 1, 1, 1, 0, 0, []),
  (45, .iinc 2 1, 3, 2, 0, 1, []),
  (48, .goto (-44), 3, 4, 0, 0, []),
  (51, .iload_n 1, 1, 1, 0, 0, []),
  (52, .ireturn, 1, 0, 0, 0, [])]
def am_t121 : List (Nat × am_I) := [(0, .iconst 0, 1, 0, 0, 0, []),
  (1, .istore_n 1, 1, 1, 0, 0, []),
  (2, .iload_n 1, 1, 1, 0, 0, []),
  (3, .iconst 3, 1, 0, 0, 3, []),
  (4, .if_icmp .ge 37, 3, 41, 0, 0, []),
  (7, .aload_n 0, 1, 0, 0, 0, []),
  (8, .getfield 53, 3, 7, 20, 0, [0, 633]),
  (11, .iload_n 1, 1, 1, 0, 0, []),
  (12, .baload, 1, 0, 0, 0, []),
  (13, .ifCond .ne 22, 3, 35, 0, 0, []),
  (16, .aload_n 0, 1, 0, 0, 0, []),
  (17, .getfield 53, 3, 7, 20, 0, [0, 633]),
  (20, .iload_n 1, 1, 1, 0, 0, []),
  (21, .iconst 1, 1, 0, 0, 1, []),
  (22, .bastore, 1, 0, 0, 0, []),
  (23, .aload_n 0, 1, 0, 0, 0, []),
  (24, .getfield 56, 3, 7, 21, 0, [0, 634]),
  (27, .iload_n 1, 1, 1, 0, 0, []),
  (28, .aload_n 0, 1, 0, 0, 0, []),
  (29, .getfield 89, 3, 7, 15, 0, [0, 628]),
  (32, .iastore, 1, 0, 0, 0, []),
  (33, .iload_n 1, 1, 1, 0, 0, []),
  (34, .ireturn, 1, 0, 0, 0, []),
  (35, .iinc 1 1, 3, 1, 0, 1, []),
  (38, .goto (-36), 3, 2, 0, 0, []),
  (41, .bipush (-3), 2, 0, 0, (-3), []),
  (43, .ireturn, 1, 0, 0, 0, [])]
def am_t122 : List (Nat × am_I) := [(0, .iload_n 1, 1, 1, 0, 0, []),
  (1, .ifCond .lt 8, 3, 9, 0, 0, []),
  (4, .iload_n 1, 1, 1, 0, 0, []),
  (5, .iconst 2, 1, 0, 0, 2, []),
  (6, .if_icmp .le 5, 3, 11, 0, 0, []),
  (9, .iconst 0, 1, 0, 0, 0, []),
  (10, .ireturn, 1, 0, 0, 0, []),
  (11, .aload_n 0, 1, 0, 0, 0, []),
  (12, .getfield 53, 3, 7, 20, 0, [0, 633]),
  (15, .iload_n 1, 1, 1, 0, 0, []),
  (16, .baload, 1, 0, 0, 0, []),
  (17, .istore_n 2, 1, 2, 0, 0, []),
  (18, .aload_n 0, 1, 0, 0, 0, []),
  (19, .getfield 53, 3, 7, 20, 0, [0, 633]),
  (22, .iload_n 1, 1, 1, 0, 0, []),
  (23, .iconst 0, 1, 0, 0, 0, []),
  (24, .bastore, 1, 0, 0, 0, []),
  (25, .iload_n 2, 1, 2, 0, 0, []),
  (26, .ireturn, 1, 0, 0, 0, [])]
def am_t123 : List (Nat × am_I) := [(0, .iload_n 1, 1, 1, 0, 0, []),
  (1, .ifCond .lt 10, 3, 11, 0, 0, []),
  (4, .iload_n 1, 1, 1, 0, 0, []),
  (5, .sipush 1000, 3, 0, 0, 1000, []),
  (8, .if_icmp .le 5, 3, 13, 0, 0, []),
  (11, .iconst (-1), 1, 0, 0, (-1), []),
  (12, .ireturn, 1, 0, 0, 0, []),
  (13, .aload_n 0, 1, 0, 0, 0, []),
  (14, .aload_n 0, 1, 0, 0, 0, []),
  (15, .getfield 71, 3, 7, 0, 0, [0, 613]),
  (18, .iload_n 1, 1, 1, 0, 0, []),
  (19, .iadd, 1, 0, 0, 0, []),
  (20, .putfield 71, 3, 7, 0, 0, [0, 613]),
  (23, .aload_n 0, 1, 0, 0, 0, []),
  (24, .getfield 71, 3, 7, 0, 0, [0, 613]),
  (27, .ireturn, 1, 0, 0, 0, [])]
def am_t124 : List (Nat × am_I) := [(0, .iload_n 1, 1, 1, 0, 0, []),
  (1, .ifCond .ge 7, 3, 8, 0, 0, []),
  (4, .iconst 0, 1, 0, 0, 0, []),
  (5, .goto 19, 3, 24, 0, 0, []),
  (8, .iload_n 1, 1, 1, 0, 0, []),
  (9, .aload_n 0, 1, 0, 0, 0, []),
  (10, .getfield 125, 3, 7, 25, 0, [0, 638]),
  (13, .if_icmp .le 10, 3, 23, 0, 0, []),
  (16, .aload_n 0, 1, 0, 0, 0, []),
  (17, .getfield 125, 3, 7, 25, 0, [0, 638]),
  (20, .goto 4, 3, 24, 0, 0, []),
  (23, .iload_n 1, 1, 1, 0, 0, []),
  (24, .istore_n 2, 1, 2, 0, 0, []),
  (25, .aload_n 0, 1, 0, 0, 0, []),
  (26, .getfield 125, 3, 7, 25, 0, [0, 638]),
  (29, .iload_n 2, 1, 2, 0, 0, []),
  (30, .isub, 1, 0, 0, 0, []),
  (31, .istore_n 3, 1, 3, 0, 0, []),
  (32, .aload_n 0, 1, 0, 0, 0, []),
  (33, .getfield 125, 3, 7, 25, 0, [0, 638]),
  (36, .iconst 1, 1, 0, 0, 1, []),
  (37, .isub, 1, 0, 0, 0, []),
  (38, .istore 4, 2, 4, 0, 0, []),
  (40, .iload 4, 2, 4, 0, 0, []),
  (42, .iload_n 2, 1, 2, 0, 0, []),
  (43, .if_icmp .lt 77, 3, 120, 0, 0, []),
  (46, .aload_n 0, 1, 0, 0, 0, []),
  (47, .getfield 68, 3, 7, 28, 0, [0, 641]),
  (50, .iload 4, 2, 4, 0, 0, []),
  (52, .baload, 1, 0, 0, 0, []),
  (53, .ifCond .eq 16, 3, 69, 0, 0, []),
  (56, .aload_n 0, 1, 0, 0, 0, []),
  (57, .dup, 1, 0, 0, 0, []),
  (58, .getfield 128, 3, 7, 23, 0, [0, 636]),
  (61, .iconst 1, 1, 0, 0, 1, []),
  (62, .isub, 1, 0, 0, 0, []),
  (63, .putfield 128, 3, 7, 23, 0, [0, 636]),
  (66, .goto 35, 3, 101, 0, 0, []),
  (69, .aload_n 0, 1, 0, 0, 0, []),
  (70, .getfield 59, 3, 7, 24, 0, [0, 637]),
  (73, .aload_n 0, 1, 0, 0, 0, []),
  (74, .getfield 128, 3, 7, 23, 0, [0, 636]),
  (77, .bipush 8, 2, 0, 0, 8, []),
  (79, .irem, 1, 0, 0, 0, []),
  (80, .aload_n 0, 1, 0, 0, 0, []),
  (81, .getfield 59, 3, 7, 24, 0, [0, 637]),
  (84, .aload_n 0, 1, 0, 0, 0, []),
  (85, .getfield 128, 3, 7, 23, 0, [0, 636]),
  (88, .bipush 8, 2, 0, 0, 8, []),
  (90, .irem, 1, 0, 0, 0, []),
  (91, .iaload, 1, 0, 0, 0, []),
  (92, .aload_n 0, 1, 0, 0, 0, []),
  (93, .getfield 65, 3, 7, 27, 0, [0, 640]),
  (96, .iload 4, 2, 4, 0, 0, []),
  (98, .iaload, 1, 0, 0, 0, []),
  (99, .isub, 1, 0, 0, 0, []),
  (100, .iastore, 1, 0, 0, 0, []),
  (101, .aload_n 0, 1, 0, 0, 0, []),
  (102, .aload_n 0, 1, 0, 0, 0, []),
  (103, .getfield 62, 3, 7, 26, 0, [0, 639]),
  (106, .iload 4, 2, 4, 0, 0, []),
  (108, .iaload, 1, 0, 0, 0, []),
  (109, .iconst 1, 1, 0, 0, 1, []),
  (110, .isub, 1, 0, 0, 0, []),
  (111, .putfield 89, 3, 7, 15, 0, [0, 628]),
  (114, .iinc 4 (-1), 3, 4, 0, (-1), []),
  (117, .goto (-77), 3, 40, 0, 0, []),
  (120, .iconst 0, 1, 0, 0, 0, []),
  (121, .istore 4, 2, 4, 0, 0, []),
  (123, .iload 4, 2, 4, 0, 0, []),
  (125, .aload_n 0, 1, 0, 0, 0, []),
  (126, .getfield 75, 3, 7, 1, 0, [0, 614]),
  (129, .if_icmp .ge 43, 3, 172, 0, 0, []),
  (132, .aload_n 0, 1, 0, 0, 0, []),
  (133, .getfield 26, 3, 7, 7, 0, [0, 620]),
  (136, .iload 4, 2, 4, 0, 0, []),
  (138, .iaload, 1, 0, 0, 0, []),
  (139, .iconst (-1), 1, 0, 0, (-1), []),
  (140, .if_icmp .ne 26, 3, 166, 0, 0, []),
  (143, .aload_n 0, 1, 0, 0, 0, []),
  (144, .getfield 13, 3, 7, 3, 0, [0, 616]),
  (147, .iload 4, 2, 4, 0, 0, []),
  (149, .iaload, 1, 0, 0, 0, []),
  (150, .aload_n 0, 1, 0, 0, 0, []),
  (151, .getfield 89, 3, 7, 15, 0, [0, 628]),
  (154, .if_icmp .le 12, 3, 166, 0, 0, []),
  (157, .aload_n 0, 1, 0, 0, 0, []),
  (158, .getfield 26, 3, 7, 7, 0, [0, 620]),
  (161, .iload 4, 2, 4, 0, 0, []),
  (163, .bipush 9, 2, 0, 0, 9, []),
  (165, .iastore, 1, 0, 0, 0, []),
  (166, .iinc 4 1, 3, 4, 0, 1, []),
  (169, .goto (-46), 3, 123, 0, 0, []),
  (172, .aload_n 0, 1, 0, 0, 0, []),
  (173, .iconst 0, 1, 0, 0, 0, []),
  (174, .putfield 125, 3, 7, 25, 0, [0, 638]),
  (177, .aload_n 0, 1, 0, 0, 0, []),
  (178, .iconst 0, 1, 0, 0, 0, []),
  (179, .putfield 134, 3, 7, 16, 0, [0, 629]),
  (182, .iconst 0, 1, 0, 0, 0, []),
  (183, .istore 4, 2, 4, 0, 0, []),
  (185, .iload 4, 2, 4, 0, 0, []),
  (187, .iconst 3, 1, 0, 0, 3, []),
  (188, .if_icmp .ge 17, 3, 205, 0, 0, []),
  (191, .aload_n 0, 1, 0, 0, 0, []),
  (192, .getfield 53, 3, 7, 20, 0, [0, 633]),
  (195, .iload 4, 2, 4, 0, 0, []),
  (197, .iconst 0, 1, 0, 0, 0, []),
  (198, .bastore, 1, 0, 0, 0, []),
  (199, .iinc 4 1, 3, 4, 0, 1, []),
  (202, .goto (-17), 3, 185, 0, 0, []),
  (205, .iload_n 3, 1, 3, 0, 0, []),
  (206, .ireturn, 1, 0, 0, 0, [])]
def am_t125 : List (Nat × am_I) := [(0, .aload_n 0, 1, 0, 0, 0, []),
  (1, .iload_n 1, 1, 1, 0, 0, []),
  (2, .invokevirtual 196, 3, 126, 2, 0, [0, 832]),
  (5, .ifCond .eq 10, 3, 15, 0, 0, []),
  (8, .iload_n 2, 1, 2, 0, 0, []),
  (9, .invokestatic 137, 3, 95, 1, 0, [0, 709]),
  (12, .ifCond .ne 5, 3, 17, 0, 0, []),
  (15, .iconst 0, 1, 0, 0, 0, []),
  (16, .ireturn, 1, 0, 0, 0, []),
  (17, .aload_n 0, 1, 0, 0, 0, []),
  (18, .iload_n 1, 1, 1, 0, 0, []),
  (19, .iload_n 2, 1, 2, 0, 0, []),
  (20, .invokevirtual 199, 3, 127, 3, 0, [0, 836]),
  (23, .istore_n 3, 1, 3, 0, 0, []),
  (24, .iload_n 3, 1, 3, 0, 0, []),
  (25, .ifCond .lt 15, 3, 40, 0, 0, []),
  (28, .aload_n 0, 1, 0, 0, 0, []),
  (29, .iload_n 3, 1, 3, 0, 0, []),
  (30, .invokevirtual 92, 3, 107, 2, 0, [0, 756]),
  (33, .ifCond .ne 7, 3, 40, 0, 0, []),
  (36, .iconst 1, 1, 0, 0, 1, []),
  (37, .goto 4, 3, 41, 0, 0, []),
  (40, .iconst 0, 1, 0, 0, 0, []),
  (41, .ireturn, 1, 0, 0, 0, [])]
def am_t126 : List (Nat × am_I) := [(0, .iload_n 1, 1, 1, 0, 0, []),
  (1, .iconst (-1), 1, 0, 0, (-1), []),
  (2, .if_icmp .eq 21, 3, 23, 0, 0, []),
  (5, .iload_n 1, 1, 1, 0, 0, []),
  (6, .ifCond .lt 21, 3, 27, 0, 0, []),
  (9, .iload_n 1, 1, 1, 0, 0, []),
  (10, .iconst 3, 1, 0, 0, 3, []),
  (11, .if_icmp .ge 16, 3, 27, 0, 0, []),
  (14, .aload_n 0, 1, 0, 0, 0, []),
  (15, .getfield 53, 3, 7, 20, 0, [0, 633]),
  (18, .iload_n 1, 1, 1, 0, 0, []),
  (19, .baload, 1, 0, 0, 0, []),
  (20, .ifCond .eq 7, 3, 27, 0, 0, []),
  (23, .iconst 1, 1, 0, 0, 1, []),
  (24, .goto 4, 3, 28, 0, 0, []),
  (27, .iconst 0, 1, 0, 0, 0, []),
  (28, .ireturn, 1, 0, 0, 0, [])]
def am_t127 : List (Nat × am_I) := [(0, .aload_n 0, 1, 0, 0, 0, []),
  (1, .iconst 0, 1, 0, 0, 0, []),
  (2, .putfield 183, 3, 7, 29, 0, [0, 642]),
  (5, .aload_n 0, 1, 0, 0, 0, []),
  (6, .iconst (-1), 1, 0, 0, (-1), []),
  (7, .iconst 0, 1, 0, 0, 0, []),
  (8, .iload_n 1, 1, 1, 0, 0, []),
  (9, .iload_n 2, 1, 2, 0, 0, []),
  (10, .invokevirtual 186, 3, 128, 5, 0, [0, 840]),
  (13, .istore_n 3, 1, 3, 0, 0, []),
  (14, .iconst 0, 1, 0, 0, 0, []),
  (15, .istore 4, 2, 4, 0, 0, []),
  (17, .iload 4, 2, 4, 0, 0, []),
  (19, .iconst 3, 1, 0, 0, 3, []),
  (20, .if_icmp .ge 69, 3, 89, 0, 0, []),
  (23, .iconst 0, 1, 0, 0, 0, []),
  (24, .istore 5, 2, 5, 0, 0, []),
  (26, .iload 5, 2, 5, 0, 0, []),
  (28, .aload_n 0, 1, 0, 0, 0, []),
  (29, .iload 4, 2, 4, 0, 0, []),
  (31, .invokevirtual 190, 3, 132, 2, 0, [0, 856]),
  (34, .if_icmp .ge 49, 3, 83, 0, 0, []),
  (37, .iload_n 3, 1, 3, 0, 0, []),
  (38, .ifCond .ge 45, 3, 83, 0, 0, []),
  (41, .aload_n 0, 1, 0, 0, 0, []),
  (42, .iload 4, 2, 4, 0, 0, []),
  (44, .iload 5, 2, 5, 0, 0, []),
  (46, .iload_n 2, 1, 2, 0, 0, []),
  (47, .invokevirtual 193, 3, 133, 4, 0, [0, 860]),
  (50, .ifCond .ne 6, 3, 56, 0, 0, []),
  (53, .goto 24, 3, 77, 0, 0, []),
  (56, .aload_n 0, 1, 0, 0, 0, []),
  (57, .dup, 1, 0, 0, 0, []),
  (58, .getfield 183, 3, 7, 29, 0, [0, 642]),
  (61, .iconst 1, 1, 0, 0, 1, []),
  (62, .iadd, 1, 0, 0, 0, []),
  (63, .putfield 183, 3, 7, 29, 0, [0, 642]),
  (66, .aload_n 0, 1, 0, 0, 0, []),
  (67, .iload 4, 2, 4, 0, 0, []),
  (69, .iload 5, 2, 5, 0, 0, []),
  (71, .iload_n 1, 1, 1, 0, 0, []),
  (72, .iload_n 2, 1, 2, 0, 0, []),
  (73, .invokevirtual 186, 3, 128, 5, 0, [0, 840]),
  (76, .istore_n 3, 1, 3, 0, 0, []),
  (77, .iinc 5 1, 3, 5, 0, 1, []),
  (80, .goto (-54), 3, 26, 0, 0, []),
  (83, .iinc 4 1, 3, 4, 0, 1, []),
  (86, .goto (-69), 3, 17, 0, 0, []),
  (89, .iload_n 3, 1, 3, 0, 0, []),
  (90, .ireturn, 1, 0, 0, 0, [])]
def am_t128 : List (Nat × am_I) := [(0, .iconst (-1), 1, 0, 0, (-1), []),
  (1, .istore 5, 2, 5, 0, 0, []),
  (3, .iconst 0, 1, 0, 0, 0, []),
  (4, .istore 6, 2, 6, 0, 0, []),
  (6, .iload 6, 2, 6, 0, 0, []),
  (8, .aload_n 0, 1, 0, 0, 0, []),
  (9, .getfield 75, 3, 7, 1, 0, [0, 614]),
  (12, .if_icmp .ge 80, 3, 92, 0, 0, []),
  (15, .aload_n 0, 1, 0, 0, 0, []),
  (16, .iload 6, 2, 6, 0, 0, []),
  (18, .iload_n 1, 1, 1, 0, 0, []),
  (19, .iload_n 2, 1, 2, 0, 0, []),
  (20, .invokevirtual 168, 3, 129, 4, 0, [0, 844]),
  (23, .ifCond .eq 29, 3, 52, 0, 0, []),
  (26, .aload_n 0, 1, 0, 0, 0, []),
  (27, .getfield 7, 3, 7, 2, 0, [0, 615]),
  (30, .iload 6, 2, 6, 0, 0, []),
  (32, .iaload, 1, 0, 0, 0, []),
  (33, .iload 4, 2, 4, 0, 0, []),
  (35, .if_icmp .ne 17, 3, 52, 0, 0, []),
  (38, .aload_n 0, 1, 0, 0, 0, []),
  (39, .iload 6, 2, 6, 0, 0, []),
  (41, .iload_n 3, 1, 3, 0, 0, []),
  (42, .invokevirtual 172, 3, 131, 3, 0, [0, 852]),
  (45, .ifCond .eq 7, 3, 52, 0, 0, []),
  (48, .iconst 1, 1, 0, 0, 1, []),
  (49, .goto 4, 3, 53, 0, 0, []),
  (52, .iconst 0, 1, 0, 0, 0, []),
  (53, .istore 7, 2, 7, 0, 0, []),
  (55, .iload 7, 2, 7, 0, 0, []),
  (57, .ifCond .eq 29, 3, 86, 0, 0, []),
  (60, .iload 5, 2, 5, 0, 0, []),
  (62, .ifCond .lt 20, 3, 82, 0, 0, []),
  (65, .aload_n 0, 1, 0, 0, 0, []),
  (66, .getfield 13, 3, 7, 3, 0, [0, 616]),
  (69, .iload 6, 2, 6, 0, 0, []),
  (71, .iaload, 1, 0, 0, 0, []),
  (72, .aload_n 0, 1, 0, 0, 0, []),
  (73, .getfield 13, 3, 7, 3, 0, [0, 616]),
  (76, .iload 5, 2, 5, 0, 0, []),
  (78, .iaload, 1, 0, 0, 0, []),
  (79, .if_icmp .le 7, 3, 86, 0, 0, []),
  (82, .iload 6, 2, 6, 0, 0, []),
  (84, .istore 5, 2, 5, 0, 0, []),
  (86, .iinc 6 1, 3, 6, 0, 1, []),
  (89, .goto (-83), 3, 6, 0, 0, []),
  (92, .iload 5, 2, 5, 0, 0, []),
  (94, .ireturn, 1, 0, 0, 0, [])]
def am_t129 : List (Nat × am_I) := [(0, .aload_n 0, 1, 0, 0, 0, []),
  (1, .getfield 26, 3, 7, 7, 0, [0, 620]),
  (4, .iload_n 1, 1, 1, 0, 0, []),
  (5, .iaload, 1, 0, 0, 0, []),
  (6, .iload_n 2, 1, 2, 0, 0, []),
  (7, .if_icmp .ne 21, 3, 28, 0, 0, []),
  (10, .iload_n 2, 1, 2, 0, 0, []),
  (11, .iconst (-1), 1, 0, 0, (-1), []),
  (12, .if_icmp .eq 12, 3, 24, 0, 0, []),
  (15, .aload_n 0, 1, 0, 0, 0, []),
  (16, .iload_n 1, 1, 1, 0, 0, []),
  (17, .invokevirtual 165, 3, 130, 2, 0, [0, 848]),
  (20, .iload_n 3, 1, 3, 0, 0, []),
  (21, .if_icmp .ne 7, 3, 28, 0, 0, []),
  (24, .iconst 1, 1, 0, 0, 1, []),
  (25, .goto 4, 3, 29, 0, 0, []),
  (28, .iconst 0, 1, 0, 0, 0, []),
  (29, .ireturn, 1, 0, 0, 0, [])]
def am_t130 : List (Nat × am_I) := [(0, .aload_n 0, 1, 0, 0, 0, []),
  (1, .getfield 26, 3, 7, 7, 0, [0, 620]),
  (4, .iload_n 1, 1, 1, 0, 0, []),
  (5, .iaload, 1, 0, 0, 0, []),
  (6, .ifCond .ne 17, 3, 23, 0, 0, []),
  (9, .aload_n 0, 1, 0, 0, 0, []),
  (10, .getfield 122, 3, 7, 13, 0, [0, 626]),
  (13, .aload_n 0, 1, 0, 0, 0, []),
  (14, .getfield 29, 3, 7, 8, 0, [0, 621]),
  (17, .iload_n 1, 1, 1, 0, 0, []),
  (18, .iaload, 1, 0, 0, 0, []),
  (19, .isub, 1, 0, 0, 0, []),
  (20, .goto 12, 3, 32, 0, 0, []),
  (23, .aload_n 0, 1, 0, 0, 0, []),
  (24, .getfield 29, 3, 7, 8, 0, [0, 621]),
  (27, .iload_n 1, 1, 1, 0, 0, []),
  (28, .iaload, 1, 0, 0, 0, []),
  (29, .bipush 6, 2, 0, 0, 6, []),
  (31, .idiv, 1, 0, 0, 0, []),
  (32, .ireturn, 1, 0, 0, 0, [])]
def am_t131 : List (Nat × am_I) := [(0, .iload_n 2, 1, 2, 0, 0, []),
  (1, .ifCond .lt 18, 3, 19, 0, 0, []),
  (4, .aload_n 0, 1, 0, 0, 0, []),
  (5, .getfield 13, 3, 7, 3, 0, [0, 616]),
  (8, .iload_n 1, 1, 1, 0, 0, []),
  (9, .iaload, 1, 0, 0, 0, []),
  (10, .aload_n 0, 1, 0, 0, 0, []),
  (11, .getfield 56, 3, 7, 21, 0, [0, 634]),
  (14, .iload_n 2, 1, 2, 0, 0, []),
  (15, .iaload, 1, 0, 0, 0, []),
  (16, .if_icmp .gt 7, 3, 23, 0, 0, []),
  (19, .iconst 1, 1, 0, 0, 1, []),
  (20, .goto 4, 3, 24, 0, 0, []),
  (23, .iconst 0, 1, 0, 0, 0, []),
  (24, .ireturn, 1, 0, 0, 0, [])]
def am_t132 : List (Nat × am_I) := [(0, .iload_n 1, 1, 1, 0, 0, []),
  (1, .ifCond .ne 10, 3, 11, 0, 0, []),
  (4, .aload_n 0, 1, 0, 0, 0, []),
  (5, .getfield 106, 3, 7, 14, 0, [0, 627]),
  (8, .goto 13, 3, 21, 0, 0, []),
  (11, .aload_n 0, 1, 0, 0, 0, []),
  (12, .iload_n 1, 1, 1, 0, 0, []),
  (13, .invokevirtual 109, 3, 100, 2, 0, [0, 728]),
  (16, .iconst 5, 1, 0, 0, 5, []),
  (17, .iadd, 1, 0, 0, 0, []),
  (18, .bipush 6, 2, 0, 0, 6, []),
  (20, .idiv, 1, 0, 0, 0, []),
  (21, .ireturn, 1, 0, 0, 0, [])]
def am_t133 : List (Nat × am_I) := [(0, .aload_n 0, 1, 0, 0, 0, []),
  (1, .iload_n 1, 1, 1, 0, 0, []),
  (2, .iload_n 2, 1, 2, 0, 0, []),
  (3, .invokevirtual 175, 3, 134, 3, 0, [0, 864]),
  (6, .istore 4, 2, 4, 0, 0, []),
  (8, .iload 4, 2, 4, 0, 0, []),
  (10, .iconst 5, 1, 0, 0, 5, []),
  (11, .iload_n 3, 1, 3, 0, 0, []),
  (12, .imul, 1, 0, 0, 0, []),
  (13, .iconst 1, 1, 0, 0, 1, []),
  (14, .iadd, 1, 0, 0, 0, []),
  (15, .bipush 32, 2, 0, 0, 32, []),
  (17, .irem, 1, 0, 0, 0, []),
  (18, .ishr, 1, 0, 0, 0, []),
  (19, .iconst 1, 1, 0, 0, 1, []),
  (20, .iand, 1, 0, 0, 0, []),
  (21, .iconst 1, 1, 0, 0, 1, []),
  (22, .if_icmp .ne 26, 3, 48, 0, 0, []),
  (25, .iload 4, 2, 4, 0, 0, []),
  (27, .bipush 11, 2, 0, 0, 11, []),
  (29, .iload_n 3, 1, 3, 0, 0, []),
  (30, .imul, 1, 0, 0, 0, []),
  (31, .bipush 7, 2, 0, 0, 7, []),
  (33, .iadd, 1, 0, 0, 0, []),
  (34, .bipush 32, 2, 0, 0, 32, []),
  (36, .irem, 1, 0, 0, 0, []),
  (37, .ishr, 1, 0, 0, 0, []),
  (38, .iconst 1, 1, 0, 0, 1, []),
  (39, .iand, 1, 0, 0, 0, []),
  (40, .iconst 1, 1, 0, 0, 1, []),
  (41, .if_icmp .ne 7, 3, 48, 0, 0, []),
  (44, .iconst 1, 1, 0, 0, 1, []),
  (45, .goto 4, 3, 49, 0, 0, []),
  (48, .iconst 0, 1, 0, 0, 0, []),
  (49, .istore 5, 2, 5, 0, 0, []),
  (51, .iload 5, 2, 5, 0, 0, []),
  (53, .ifCond .eq 29, 3, 82, 0, 0, []),
  (56, .iload_n 3, 1, 3, 0, 0, []),
  (57, .aload_n 0, 1, 0, 0, 0, []),
  (58, .iload_n 1, 1, 1, 0, 0, []),
  (59, .iload_n 2, 1, 2, 0, 0, []),
  (60, .iconst 0, 1, 0, 0, 0, []),
  (61, .invokevirtual 179, 3, 135, 4, 0, [0, 868]),
  (64, .if_icmp .lt 18, 3, 82, 0, 0, []),
  (67, .iload_n 3, 1, 3, 0, 0, []),
  (68, .aload_n 0, 1, 0, 0, 0, []),
  (69, .iload_n 1, 1, 1, 0, 0, []),
  (70, .iload_n 2, 1, 2, 0, 0, []),
  (71, .iconst 1, 1, 0, 0, 1, []),
  (72, .invokevirtual 179, 3, 135, 4, 0, [0, 868]),
  (75, .if_icmp .gt 7, 3, 82, 0, 0, []),
  (78, .iconst 1, 1, 0, 0, 1, []),
  (79, .goto 4, 3, 83, 0, 0, []),
  (82, .iconst 0, 1, 0, 0, 0, []),
  (83, .ireturn, 1, 0, 0, 0, [])]
def am_t134 : List (Nat × am_I) := [(0, .iconst 0, 1, 0, 0, 0, []),
  (1, .istore_n 3, 1, 3, 0, 0, []),
  (2, .iconst 0, 1, 0, 0, 0, []),
  (3, .istore 4, 2, 4, 0, 0, []),
  (5, .iload 4, 2, 4, 0, 0, []),
  (7, .aload_n 0, 1, 0, 0, 0, []),
  (8, .getfield 75, 3, 7, 1, 0, [0, 614]),
  (11, .if_icmp .ge 58, 3, 69, 0, 0, []),
  (14, .aload_n 0, 1, 0, 0, 0, []),
  (15, .iload 4, 2, 4, 0, 0, []),
  (17, .iload_n 1, 1, 1, 0, 0, []),
  (18, .iload_n 2, 1, 2, 0, 0, []),
  (19, .invokevirtual 168, 3, 129, 4, 0, [0, 844]),
  (22, .ifCond .eq 41, 3, 63, 0, 0, []),
  (25, .iload_n 3, 1, 3, 0, 0, []),
  (26, .iconst 1, 1, 0, 0, 1, []),
  (27, .iconst 5, 1, 0, 0, 5, []),
  (28, .aload_n 0, 1, 0, 0, 0, []),
  (29, .getfield 7, 3, 7, 2, 0, [0, 615]),
  (32, .iload 4, 2, 4, 0, 0, []),
  (34, .iaload, 1, 0, 0, 0, []),
  (35, .imul, 1, 0, 0, 0, []),
  (36, .iconst 1, 1, 0, 0, 1, []),
  (37, .iadd, 1, 0, 0, 0, []),
  (38, .bipush 32, 2, 0, 0, 32, []),
  (40, .irem, 1, 0, 0, 0, []),
  (41, .ishl, 1, 0, 0, 0, []),
  (42, .ior, 1, 0, 0, 0, []),
  (43, .iconst 1, 1, 0, 0, 1, []),
  (44, .bipush 11, 2, 0, 0, 11, []),
  (46, .aload_n 0, 1, 0, 0, 0, []),
  (47, .getfield 7, 3, 7, 2, 0, [0, 615]),
  (50, .iload 4, 2, 4, 0, 0, []),
  (52, .iaload, 1, 0, 0, 0, []),
  (53, .imul, 1, 0, 0, 0, []),
  (54, .bipush 7, 2, 0, 0, 7, []),
  (56, .iadd, 1, 0, 0, 0, []),
  (57, .bipush 32, 2, 0, 0, 32, []),
  (59, .irem, 1, 0, 0, 0, []),
  (60, .ishl, 1, 0, 0, 0, []),
  (61, .ior, 1, 0, 0, 0, []),
  (62, .istore_n 3, 1, 3, 0, 0, []),
  (63, .iinc 4 1, 3, 4, 0, 1, []),
  (66, .goto (-61), 3, 5, 0, 0, []),
  (69, .iload_n 3, 1, 3, 0, 0, []),
  (70, .ireturn, 1, 0, 0, 0, [])]
def am_t135 : List (Nat × am_I) := [(0, .iconst (-1), 1, 0, 0, (-1), []),
  (1, .istore 4, 2, 4, 0, 0, []),
  (3, .iconst 0, 1, 0, 0, 0, []),
  (4, .istore 5, 2, 5, 0, 0, []),
  (6, .iload 5, 2, 5, 0, 0, []),
  (8, .aload_n 0, 1, 0, 0, 0, []),
  (9, .getfield 75, 3, 7, 1, 0, [0, 614]),
  (12, .if_icmp .ge 73, 3, 85, 0, 0, []),
  (15, .aload_n 0, 1, 0, 0, 0, []),
  (16, .iload 5, 2, 5, 0, 0, []),
  (18, .iload_n 1, 1, 1, 0, 0, []),
  (19, .iload_n 2, 1, 2, 0, 0, []),
  (20, .invokevirtual 168, 3, 129, 4, 0, [0, 844]),
  (23, .ifCond .ne 6, 3, 29, 0, 0, []),
  (26, .goto 53, 3, 79, 0, 0, []),
  (29, .iload 4, 2, 4, 0, 0, []),
  (31, .ifCond .lt 34, 3, 65, 0, 0, []),
  (34, .iload_n 3, 1, 3, 0, 0, []),
  (35, .ifCond .eq 18, 3, 53, 0, 0, []),
  (38, .aload_n 0, 1, 0, 0, 0, []),
  (39, .getfield 7, 3, 7, 2, 0, [0, 615]),
  (42, .iload 5, 2, 5, 0, 0, []),
  (44, .iaload, 1, 0, 0, 0, []),
  (45, .iload 4, 2, 4, 0, 0, []),
  (47, .if_icmp .le 28, 3, 75, 0, 0, []),
  (50, .goto 15, 3, 65, 0, 0, []),
  (53, .aload_n 0, 1, 0, 0, 0, []),
  (54, .getfield 7, 3, 7, 2, 0, [0, 615]),
  (57, .iload 5, 2, 5, 0, 0, []),
  (59, .iaload, 1, 0, 0, 0, []),
  (60, .iload 4, 2, 4, 0, 0, []),
  (62, .if_icmp .ge 13, 3, 75, 0, 0, []),
  (65, .aload_n 0, 1, 0, 0, 0, []),
  (66, .getfield 7, 3, 7, 2, 0, [0, 615]),
  (69, .iload 5, 2, 5, 0, 0, []),
  (71, .iaload, 1, 0, 0, 0, []),
  (72, .goto 5, 3, 77, 0, 0, []),
  (75, .iload 4, 2, 4, 0, 0, []),
  (77, .istore 4, 2, 4, 0, 0, []),
  (79, .iinc 5 1, 3, 5, 0, 1, []),
  (82, .goto (-76), 3, 6, 0, 0, []),
  (85, .iload 4, 2, 4, 0, 0, []),
  (87, .ireturn, 1, 0, 0, 0, [])]
def am_t136 : List (Nat × am_I) := [(0, .aload_n 0, 1, 0, 0, 0, []),
  (1, .iload_n 1, 1, 1, 0, 0, []),
  (2, .invokevirtual 196, 3, 126, 2, 0, [0, 832]),
  (5, .ifCond .eq 10, 3, 15, 0, 0, []),
  (8, .iload_n 2, 1, 2, 0, 0, []),
  (9, .invokestatic 137, 3, 95, 1, 0, [0, 709]),
  (12, .ifCond .ne 5, 3, 17, 0, 0, []),
  (15, .iconst 0, 1, 0, 0, 0, []),
  (16, .ireturn, 1, 0, 0, 0, []),
  (17, .aload_n 0, 1, 0, 0, 0, []),
  (18, .iload_n 1, 1, 1, 0, 0, []),
  (19, .iload_n 2, 1, 2, 0, 0, []),
  (20, .invokevirtual 199, 3, 127, 3, 0, [0, 836]),
  (23, .istore_n 3, 1, 3, 0, 0, []),
  (24, .iload_n 3, 1, 3, 0, 0, []),
  (25, .ifCond .lt 11, 3, 36, 0, 0, []),
  (28, .aload_n 0, 1, 0, 0, 0, []),
  (29, .iload_n 3, 1, 3, 0, 0, []),
  (30, .invokevirtual 92, 3, 107, 2, 0, [0, 756]),
  (33, .ifCond .eq 7, 3, 40, 0, 0, []),
  (36, .iconst 0, 1, 0, 0, 0, []),
  (37, .goto 9, 3, 46, 0, 0, []),
  (40, .aload_n 0, 1, 0, 0, 0, []),
  (41, .getfield 16, 3, 7, 4, 0, [0, 617]),
  (44, .iload_n 3, 1, 3, 0, 0, []),
  (45, .iaload, 1, 0, 0, 0, []),
  (46, .ireturn, 1, 0, 0, 0, [])]
def am_t137 : List (Nat × am_I) := [(0, .aload_n 0, 1, 0, 0, 0, []),
  (1, .iload_n 1, 1, 1, 0, 0, []),
  (2, .invokevirtual 196, 3, 126, 2, 0, [0, 832]),
  (5, .ifCond .eq 7, 3, 12, 0, 0, []),
  (8, .iload_n 3, 1, 3, 0, 0, []),
  (9, .ifCond .ge 5, 3, 14, 0, 0, []),
  (12, .iconst (-1), 1, 0, 0, (-1), []),
  (13, .ireturn, 1, 0, 0, 0, []),
  (14, .iconst 0, 1, 0, 0, 0, []),
  (15, .istore 4, 2, 4, 0, 0, []),
  (17, .iload_n 2, 1, 2, 0, 0, []),
  (18, .ifCond .ge 7, 3, 25, 0, 0, []),
  (21, .iconst 0, 1, 0, 0, 0, []),
  (22, .goto 4, 3, 26, 0, 0, []),
  (25, .iload_n 2, 1, 2, 0, 0, []),
  (26, .istore 5, 2, 5, 0, 0, []),
  (28, .iload 5, 2, 5, 0, 0, []),
  (30, .bipush 32, 2, 0, 0, 32, []),
  (32, .if_icmp .ge 34, 3, 66, 0, 0, []),
  (35, .aload_n 0, 1, 0, 0, 0, []),
  (36, .iload_n 1, 1, 1, 0, 0, []),
  (37, .iload 5, 2, 5, 0, 0, []),
  (39, .invokevirtual 202, 3, 138, 3, 0, [0, 880]),
  (42, .ifCond .ne 6, 3, 48, 0, 0, []),
  (45, .goto 15, 3, 60, 0, 0, []),
  (48, .iload 4, 2, 4, 0, 0, []),
  (50, .iload_n 3, 1, 3, 0, 0, []),
  (51, .if_icmp .ne 6, 3, 57, 0, 0, []),
  (54, .iload 5, 2, 5, 0, 0, []),
  (56, .ireturn, 1, 0, 0, 0, []),
  (57, .iinc 4 1, 3, 4, 0, 1, []),
  (60, .iinc 5 1, 3, 5, 0, 1, []),
  (63, .goto (-35), 3, 28, 0, 0, []),
  (66, .bipush (-2), 2, 0, 0, (-2), []),
  (68, .ireturn, 1, 0, 0, 0, [])]
def am_t138 : List (Nat × am_I) := [(0, .iconst (-1), 1, 0, 0, (-1), []),
  (1, .istore_n 3, 1, 3, 0, 0, []),
  (2, .iconst 0, 1, 0, 0, 0, []),
  (3, .istore 4, 2, 4, 0, 0, []),
  (5, .iload 4, 2, 4, 0, 0, []),
  (7, .aload_n 0, 1, 0, 0, 0, []),
  (8, .getfield 75, 3, 7, 1, 0, [0, 614]),
  (11, .if_icmp .ge 77, 3, 88, 0, 0, []),
  (14, .aload_n 0, 1, 0, 0, 0, []),
  (15, .getfield 26, 3, 7, 7, 0, [0, 620]),
  (18, .iload 4, 2, 4, 0, 0, []),
  (20, .iaload, 1, 0, 0, 0, []),
  (21, .bipush 9, 2, 0, 0, 9, []),
  (23, .if_icmp .eq 28, 3, 51, 0, 0, []),
  (26, .aload_n 0, 1, 0, 0, 0, []),
  (27, .getfield 7, 3, 7, 2, 0, [0, 615]),
  (30, .iload 4, 2, 4, 0, 0, []),
  (32, .iaload, 1, 0, 0, 0, []),
  (33, .iload_n 2, 1, 2, 0, 0, []),
  (34, .if_icmp .ne 17, 3, 51, 0, 0, []),
  (37, .aload_n 0, 1, 0, 0, 0, []),
  (38, .iload 4, 2, 4, 0, 0, []),
  (40, .iload_n 1, 1, 1, 0, 0, []),
  (41, .invokevirtual 172, 3, 131, 3, 0, [0, 852]),
  (44, .ifCond .eq 7, 3, 51, 0, 0, []),
  (47, .iconst 1, 1, 0, 0, 1, []),
  (48, .goto 4, 3, 52, 0, 0, []),
  (51, .iconst 0, 1, 0, 0, 0, []),
  (52, .istore 5, 2, 5, 0, 0, []),
  (54, .iload 5, 2, 5, 0, 0, []),
  (56, .ifCond .eq 26, 3, 82, 0, 0, []),
  (59, .iload_n 3, 1, 3, 0, 0, []),
  (60, .ifCond .lt 19, 3, 79, 0, 0, []),
  (63, .aload_n 0, 1, 0, 0, 0, []),
  (64, .getfield 13, 3, 7, 3, 0, [0, 616]),
  (67, .iload 4, 2, 4, 0, 0, []),
  (69, .iaload, 1, 0, 0, 0, []),
  (70, .aload_n 0, 1, 0, 0, 0, []),
  (71, .getfield 13, 3, 7, 3, 0, [0, 616]),
  (74, .iload_n 3, 1, 3, 0, 0, []),
  (75, .iaload, 1, 0, 0, 0, []),
  (76, .if_icmp .le 6, 3, 82, 0, 0, []),
  (79, .iload 4, 2, 4, 0, 0, []),
  (81, .istore_n 3, 1, 3, 0, 0, []),
  (82, .iinc 4 1, 3, 4, 0, 1, []),
  (85, .goto (-80), 3, 5, 0, 0, []),
  (88, .iload_n 3, 1, 3, 0, 0, []),
  (89, .ifCond .lt 15, 3, 104, 0, 0, []),
  (92, .aload_n 0, 1, 0, 0, 0, []),
  (93, .iload_n 3, 1, 3, 0, 0, []),
  (94, .invokevirtual 92, 3, 107, 2, 0, [0, 756]),
  (97, .ifCond .ne 7, 3, 104, 0, 0, []),
  (100, .iconst 1, 1, 0, 0, 1, []),
  (101, .goto 4, 3, 105, 0, 0, []),
  (104, .iconst 0, 1, 0, 0, 0, []),
  (105, .ireturn, 1, 0, 0, 0, [])]
def am_t139 : List (Nat × am_I) := [(0, .aload_n 0, 1, 0, 0, 0, []),
  (1, .getfield 183, 3, 7, 29, 0, [0, 642]),
  (4, .ireturn, 1, 0, 0, 0, [])]
def am_t140 : List (Nat × am_I) := [(0, .iload_n 1, 1, 1, 0, 0, []),
  (1, .ifCond .lt 8, 3, 9, 0, 0, []),
  (4, .iload_n 1, 1, 1, 0, 0, []),
  (5, .iconst 2, 1, 0, 0, 2, []),
  (6, .if_icmp .le 6, 3, 12, 0, 0, []),
  (9, .bipush (-2), 2, 0, 0, (-2), []),
  (11, .ireturn, 1, 0, 0, 0, []),
  (12, .aload_n 0, 1, 0, 0, 0, []),
  (13, .iload_n 1, 1, 1, 0, 0, []),
  (14, .invokevirtual 190, 3, 132, 2, 0, [0, 856]),
  (17, .istore 4, 2, 4, 0, 0, []),
  (19, .iload_n 2, 1, 2, 0, 0, []),
  (20, .iconst (-1), 1, 0, 0, (-1), []),
  (21, .if_icmp .ne 6, 3, 27, 0, 0, []),
  (24, .iload 4, 2, 4, 0, 0, []),
  (26, .ireturn, 1, 0, 0, 0, []),
  (27, .iload_n 2, 1, 2, 0, 0, []),
  (28, .ifCond .lt 9, 3, 37, 0, 0, []),
  (31, .iload_n 2, 1, 2, 0, 0, []),
  (32, .iload 4, 2, 4, 0, 0, []),
  (34, .if_icmp .lt 6, 3, 40, 0, 0, []),
  (37, .bipush (-2), 2, 0, 0, (-2), []),
  (39, .ireturn, 1, 0, 0, 0, []),
  (40, .iconst 0, 1, 0, 0, 0, []),
  (41, .istore 5, 2, 5, 0, 0, []),
  (43, .iconst 0, 1, 0, 0, 0, []),
  (44, .istore 6, 2, 6, 0, 0, []),
  (46, .iconst 0, 1, 0, 0, 0, []),
  (47, .istore 7, 2, 7, 0, 0, []),
  (49, .iload 7, 2, 7, 0, 0, []),
  (51, .aload_n 0, 1, 0, 0, 0, []),
  (52, .getfield 75, 3, 7, 1, 0, [0, 614]),
  (55, .if_icmp .ge 52, 3, 107, 0, 0, []),
  (58, .aload_n 0, 1, 0, 0, 0, []),
  (59, .iload 7, 2, 7, 0, 0, []),
  (61, .iload_n 1, 1, 1, 0, 0, []),
  (62, .iload_n 2, 1, 2, 0, 0, []),
  (63, .invokevirtual 168, 3, 129, 4, 0, [0, 844]),
  (66, .ifCond .ne 6, 3, 72, 0, 0, []),
  (69, .goto 32, 3, 101, 0, 0, []),
  (72, .iinc 5 1, 3, 5, 0, 1, []),
  (75, .aload_n 0, 1, 0, 0, 0, []),
  (76, .getfield 13, 3, 7, 3, 0, [0, 616]),
  (79, .iload 7, 2, 7, 0, 0, []),
  (81, .iaload, 1, 0, 0, 0, []),
  (82, .iload 6, 2, 6, 0, 0, []),
  (84, .if_icmp .le 13, 3, 97, 0, 0, []),
  (87, .aload_n 0, 1, 0, 0, 0, []),
  (88, .getfield 13, 3, 7, 3, 0, [0, 616]),
  (91, .iload 7, 2, 7, 0, 0, []),
  (93, .iaload, 1, 0, 0, 0, []),
  (94, .goto 5, 3, 99, 0, 0, []),
  (97, .iload 6, 2, 6, 0, 0, []),
  (99, .istore 6, 2, 6, 0, 0, []),
  (101, .iinc 7 1, 3, 7, 0, 1, []),
  (104, .goto (-55), 3, 49, 0, 0, []),
  (107, .iload_n 3, 1, 3, 0, 0, []),
  (108, .tableswitch 65 0 4 #[36, 39, 46, 54, 62], 36, 173, 0, 0, [144, 147, 154, 162, 170]),
  (144, .iload 5, 2, 5, 0, 0, []),
  (146, .ireturn, 1, 0, 0, 0, []),
  (147, .aload_n 0, 1, 0, 0, 0, []),
  (148, .iload_n 1, 1, 1, 0, 0, []),
  (149, .iload_n 2, 1, 2, 0, 0, []),
  (150, .invokevirtual 175, 3, 134, 3, 0, [0, 864]),
  (153, .ireturn, 1, 0, 0, 0, []),
  (154, .aload_n 0, 1, 0, 0, 0, []),
  (155, .iload_n 1, 1, 1, 0, 0, []),
  (156, .iload_n 2, 1, 2, 0, 0, []),
  (157, .iconst 0, 1, 0, 0, 0, []),
  (158, .invokevirtual 179, 3, 135, 4, 0, [0, 868]),
  (161, .ireturn, 1, 0, 0, 0, []),
  (162, .aload_n 0, 1, 0, 0, 0, []),
  (163, .iload_n 1, 1, 1, 0, 0, []),
  (164, .iload_n 2, 1, 2, 0, 0, []),
  (165, .iconst 1, 1, 0, 0, 1, []),
  (166, .invokevirtual 179, 3, 135, 4, 0, [0, 868]),
  (169, .ireturn, 1, 0, 0, 0, []),
  (170, .iload 6, 2, 6, 0, 0, []),
  (172, .ireturn, 1, 0, 0, 0, []),
  (173, .bipush (-2), 2, 0, 0, (-2), []),
  (175, .ireturn, 1, 0, 0, 0, [])]
def am_t141 : List (Nat × am_I) := [(0, .aload_n 0, 1, 0, 0, 0, []),
  (1, .getfield 128, 3, 7, 23, 0, [0, 636]),
  (4, .aload_n 0, 1, 0, 0, 0, []),
  (5, .getfield 144, 3, 7, 22, 0, [0, 635]),
  (8, .isub, 1, 0, 0, 0, []),
  (9, .iconst 1, 1, 0, 0, 1, []),
  (10, .iadd, 1, 0, 0, 0, []),
  (11, .istore_n 3, 1, 3, 0, 0, []),
  (12, .iload_n 1, 1, 1, 0, 0, []),
  (13, .iconst (-1), 1, 0, 0, (-1), []),
  (14, .if_icmp .ne 5, 3, 19, 0, 0, []),
  (17, .iload_n 3, 1, 3, 0, 0, []),
  (18, .ireturn, 1, 0, 0, 0, []),
  (19, .iload_n 1, 1, 1, 0, 0, []),
  (20, .ifCond .lt 8, 3, 28, 0, 0, []),
  (23, .iload_n 1, 1, 1, 0, 0, []),
  (24, .iload_n 3, 1, 3, 0, 0, []),
  (25, .if_icmp .lt 6, 3, 31, 0, 0, []),
  (28, .bipush (-2), 2, 0, 0, (-2), []),
  (30, .ireturn, 1, 0, 0, 0, []),
  (31, .iload_n 2, 1, 2, 0, 0, []),
  (32, .tableswitch 61 0 2 #[28, 35, 50], 28, 93, 0, 0, [60, 67, 82]),
  (60, .aload_n 0, 1, 0, 0, 0, []),
  (61, .getfield 144, 3, 7, 22, 0, [0, 635]),
  (64, .iload_n 1, 1, 1, 0, 0, []),
  (65, .iadd, 1, 0, 0, 0, []),
  (66, .ireturn, 1, 0, 0, 0, []),
  (67, .aload_n 0, 1, 0, 0, 0, []),
  (68, .getfield 59, 3, 7, 24, 0, [0, 637]),
  (71, .aload_n 0, 1, 0, 0, 0, []),
  (72, .getfield 144, 3, 7, 22, 0, [0, 635]),
  (75, .iload_n 1, 1, 1, 0, 0, []),
  (76, .iadd, 1, 0, 0, 0, []),
  (77, .bipush 8, 2, 0, 0, 8, []),
  (79, .irem, 1, 0, 0, 0, []),
  (80, .iaload, 1, 0, 0, 0, []),
  (81, .ireturn, 1, 0, 0, 0, []),
  (82, .aload_n 0, 1, 0, 0, 0, []),
  (83, .aload_n 0, 1, 0, 0, 0, []),
  (84, .getfield 144, 3, 7, 22, 0, [0, 635]),
  (87, .iload_n 1, 1, 1, 0, 0, []),
  (88, .iadd, 1, 0, 0, 0, []),
  (89, .invokevirtual 156, 3, 117, 2, 0, [0, 796]),
  (92, .ireturn, 1, 0, 0, 0, []),
  (93, .bipush (-2), 2, 0, 0, (-2), []),
  (95, .ireturn, 1, 0, 0, 0, [])]
def am_t142 : List (Nat × am_I) := [(0, .iload_n 1, 1, 1, 0, 0, []),
  (1, .tableswitch 101 0 4 #[35, 41, 46, 51, 56], 35, 102, 0, 0, [36, 42, 47, 52, 57]),
  (36, .aload_n 0, 1, 0, 0, 0, []),
  (37, .iconst (-1), 1, 0, 0, (-1), []),
  (38, .invokevirtual 109, 3, 100, 2, 0, [0, 728]),
  (41, .ireturn, 1, 0, 0, 0, []),
  (42, .aload_n 0, 1, 0, 0, 0, []),
  (43, .getfield 89, 3, 7, 15, 0, [0, 628]),
  (46, .ireturn, 1, 0, 0, 0, []),
  (47, .aload_n 0, 1, 0, 0, 0, []),
  (48, .getfield 125, 3, 7, 25, 0, [0, 638]),
  (51, .ireturn, 1, 0, 0, 0, []),
  (52, .aload_n 0, 1, 0, 0, 0, []),
  (53, .getfield 134, 3, 7, 16, 0, [0, 629]),
  (56, .ireturn, 1, 0, 0, 0, []),
  (57, .aload_n 0, 1, 0, 0, 0, []),
  (58, .getfield 53, 3, 7, 20, 0, [0, 633]),
  (61, .iconst 0, 1, 0, 0, 0, []),
  (62, .baload, 1, 0, 0, 0, []),
  (63, .ifCond .eq 7, 3, 70, 0, 0, []),
  (66, .iconst 1, 1, 0, 0, 1, []),
  (67, .goto 4, 3, 71, 0, 0, []),
  (70, .iconst 0, 1, 0, 0, 0, []),
  (71, .aload_n 0, 1, 0, 0, 0, []),
  (72, .getfield 53, 3, 7, 20, 0, [0, 633]),
  (75, .iconst 1, 1, 0, 0, 1, []),
  (76, .baload, 1, 0, 0, 0, []),
  (77, .ifCond .eq 7, 3, 84, 0, 0, []),
  (80, .iconst 1, 1, 0, 0, 1, []),
  (81, .goto 4, 3, 85, 0, 0, []),
  (84, .iconst 0, 1, 0, 0, 0, []),
  (85, .iadd, 1, 0, 0, 0, []),
  (86, .aload_n 0, 1, 0, 0, 0, []),
  (87, .getfield 53, 3, 7, 20, 0, [0, 633]),
  (90, .iconst 2, 1, 0, 0, 2, []),
  (91, .baload, 1, 0, 0, 0, []),
  (92, .ifCond .eq 7, 3, 99, 0, 0, []),
  (95, .iconst 1, 1, 0, 0, 1, []),
  (96, .goto 4, 3, 100, 0, 0, []),
  (99, .iconst 0, 1, 0, 0, 0, []),
  (100, .iadd, 1, 0, 0, 0, []),
  (101, .ireturn, 1, 0, 0, 0, []),
  (102, .bipush (-2), 2, 0, 0, (-2), []),
  (104, .ireturn, 1, 0, 0, 0, [])]
def am_t143 : List (Nat × am_I) := [(0, .new 7, 3, 0, 14, 0, [61, 62, 50]),
  (3, .dup, 1, 0, 0, 0, []),
  (4, .invokespecial 9, 3, 0, 1, 0, [0, 63]),
  (7, .astore_n 1, 1, 1, 0, 0, []),
  (8, .new 10, 3, 7, 30, 0, [607, 608, 58]),
  (11, .dup, 1, 0, 0, 0, []),
  (12, .invokespecial 12, 3, 93, 1, 0, [0, 609]),
  (15, .astore_n 2, 1, 2, 0, 0, []),
  (16, .iconst 0, 1, 0, 0, 0, []),
  (17, .istore_n 3, 1, 3, 0, 0, []),
  (18, .iload_n 3, 1, 3, 0, 0, []),
  (19, .aload_n 0, 1, 0, 0, 0, []),
  (20, .arraylength, 1, 0, 0, 0, []),
  (21, .iconst 4, 1, 0, 0, 4, []),
  (22, .isub, 1, 0, 0, 0, []),
  (23, .if_icmp .gt 547, 3, 570, 0, 0, []),
  (26, .aload_n 0, 1, 0, 0, 0, []),
  (27, .iload_n 3, 1, 3, 0, 0, []),
  (28, .iaload, 1, 0, 0, 0, []),
  (29, .bipush 31, 2, 0, 0, 31, []),
  (31, .iand, 1, 0, 0, 0, []),
  (32, .tableswitch 532 0 17 #[88, 131, 154, 167, 180, 193, 216, 229, 242, 265, 288, 311, 344, 377, 420, 433, 476, 509], 88, 564, 0, 0, [120, 163, 186, 199, 212, 225, 248, 261, 274, 297, 320, 343, 376, 409, 452, 465, 508, 541]),
  (120, .aload_n 1, 1, 1, 0, 0, []),
  (121, .aload_n 0, 1, 0, 0, 0, []),
  (122, .iload_n 3, 1, 3, 0, 0, []),
  (123, .iconst 1, 1, 0, 0, 1, []),
  (124, .iadd, 1, 0, 0, 0, []),
  (125, .iaload, 1, 0, 0, 0, []),
  (126, .aload_n 0, 1, 0, 0, 0, []),
  (127, .iload_n 3, 1, 3, 0, 0, []),
  (128, .iconst 2, 1, 0, 0, 2, []),
  (129, .iadd, 1, 0, 0, 0, []),
  (130, .iaload, 1, 0, 0, 0, []),
  (131, .aload_n 0, 1, 0, 0, 0, []),
  (132, .iload_n 3, 1, 3, 0, 0, []),
  (133, .iconst 3, 1, 0, 0, 3, []),
  (134, .iadd, 1, 0, 0, 0, []),
  (135, .iaload, 1, 0, 0, 0, []),
  (136, .invokevirtual 13, 3, 9, 4, 0, [0, 248]),
  (139, .aload_n 2, 1, 2, 0, 0, []),
  (140, .aload_n 0, 1, 0, 0, 0, []),
  (141, .iload_n 3, 1, 3, 0, 0, []),
  (142, .iconst 1, 1, 0, 0, 1, []),
  (143, .iadd, 1, 0, 0, 0, []),
  (144, .iaload, 1, 0, 0, 0, []),
  (145, .aload_n 0, 1, 0, 0, 0, []),
  (146, .iload_n 3, 1, 3, 0, 0, []),
  (147, .iconst 2, 1, 0, 0, 2, []),
  (148, .iadd, 1, 0, 0, 0, []),
  (149, .iaload, 1, 0, 0, 0, []),
  (150, .aload_n 0, 1, 0, 0, 0, []),
  (151, .iload_n 3, 1, 3, 0, 0, []),
  (152, .iconst 3, 1, 0, 0, 3, []),
  (153, .iadd, 1, 0, 0, 0, []),
  (154, .iaload, 1, 0, 0, 0, []),
  (155, .invokevirtual 17, 3, 94, 4, 0, [0, 705]),
  (158, .if_icmp .eq 406, 3, 564, 0, 0, []),
  (161, .iconst 0, 1, 0, 0, 0, []),
  (162, .ireturn, 1, 0, 0, 0, []),
  (163, .aload_n 1, 1, 1, 0, 0, []),
  (164, .aload_n 0, 1, 0, 0, 0, []),
  (165, .iload_n 3, 1, 3, 0, 0, []),
  (166, .iconst 1, 1, 0, 0, 1, []),
  (167, .iadd, 1, 0, 0, 0, []),
  (168, .iaload, 1, 0, 0, 0, []),
  (169, .invokevirtual 18, 3, 14, 2, 0, [0, 267]),
  (172, .aload_n 2, 1, 2, 0, 0, []),
  (173, .aload_n 0, 1, 0, 0, 0, []),
  (174, .iload_n 3, 1, 3, 0, 0, []),
  (175, .iconst 1, 1, 0, 0, 1, []),
  (176, .iadd, 1, 0, 0, 0, []),
  (177, .iaload, 1, 0, 0, 0, []),
  (178, .invokevirtual 22, 3, 97, 2, 0, [0, 716]),
  (181, .if_icmp .eq 383, 3, 564, 0, 0, []),
  (184, .iconst 0, 1, 0, 0, 0, []),
  (185, .ireturn, 1, 0, 0, 0, []),
  (186, .aload_n 1, 1, 1, 0, 0, []),
  (187, .invokevirtual 23, 3, 15, 1, 0, [0, 271]),
  (190, .aload_n 2, 1, 2, 0, 0, []),
  (191, .invokevirtual 27, 3, 98, 1, 0, [0, 720]),
  (194, .if_icmp .eq 370, 3, 564, 0, 0, []),
  (197, .iconst 0, 1, 0, 0, 0, []),
  (198, .ireturn, 1, 0, 0, 0, []),
  (199, .aload_n 1, 1, 1, 0, 0, []),
  (200, .invokevirtual 28, 3, 42, 1, 0, [0, 388]),
  (203, .aload_n 2, 1, 2, 0, 0, []),
  (204, .invokevirtual 31, 3, 113, 1, 0, [0, 780]),
  (207, .if_icmp .eq 357, 3, 564, 0, 0, []),
  (210, .iconst 0, 1, 0, 0, 0, []),
  (211, .ireturn, 1, 0, 0, 0, []),
  (212, .aload_n 1, 1, 1, 0, 0, []),
  (213, .invokevirtual 32, 3, 43, 1, 0, [0, 392]),
  (216, .aload_n 2, 1, 2, 0, 0, []),
  (217, .invokevirtual 35, 3, 114, 1, 0, [0, 784]),
  (220, .if_icmp .eq 344, 3, 564, 0, 0, []),
  (223, .iconst 0, 1, 0, 0, 0, []),
  (224, .ireturn, 1, 0, 0, 0, []),
  (225, .aload_n 1, 1, 1, 0, 0, []),
  (226, .aload_n 0, 1, 0, 0, 0, []),
  (227, .iload_n 3, 1, 3, 0, 0, []),
  (228, .iconst 1, 1, 0, 0, 1, []),
  (229, .iadd, 1, 0, 0, 0, []),
  (230, .iaload, 1, 0, 0, 0, []),
  (231, .invokevirtual 36, 3, 44, 2, 0, [0, 396]),
  (234, .aload_n 2, 1, 2, 0, 0, []),
  (235, .aload_n 0, 1, 0, 0, 0, []),
  (236, .iload_n 3, 1, 3, 0, 0, []),
  (237, .iconst 1, 1, 0, 0, 1, []),
  (238, .iadd, 1, 0, 0, 0, []),
  (239, .iaload, 1, 0, 0, 0, []),
  (240, .invokevirtual 39, 3, 115, 2, 0, [0, 788]),
  (243, .if_icmp .eq 321, 3, 564, 0, 0, []),
  (246, .iconst 0, 1, 0, 0, 0, []),
  (247, .ireturn, 1, 0, 0, 0, []),
  (248, .aload_n 1, 1, 1, 0, 0, []),
  (249, .invokevirtual 40, 3, 46, 1, 0, [0, 404]),
  (252, .aload_n 2, 1, 2, 0, 0, []),
  (253, .invokevirtual 43, 3, 116, 1, 0, [0, 792]),
  (256, .if_icmp .eq 308, 3, 564, 0, 0, []),
  (259, .iconst 0, 1, 0, 0, 0, []),
  (260, .ireturn, 1, 0, 0, 0, []),
  (261, .aload_n 1, 1, 1, 0, 0, []),
  (262, .invokevirtual 44, 3, 56, 1, 0, [0, 450]),
  (265, .aload_n 2, 1, 2, 0, 0, []),
  (266, .invokevirtual 47, 3, 121, 1, 0, [0, 812]),
  (269, .if_icmp .eq 295, 3, 564, 0, 0, []),
  (272, .iconst 0, 1, 0, 0, 0, []),
  (273, .ireturn, 1, 0, 0, 0, []),
  (274, .aload_n 1, 1, 1, 0, 0, []),
  (275, .aload_n 0, 1, 0, 0, 0, []),
  (276, .iload_n 3, 1, 3, 0, 0, []),
  (277, .iconst 1, 1, 0, 0, 1, []),
  (278, .iadd, 1, 0, 0, 0, []),
  (279, .iaload, 1, 0, 0, 0, []),
  (280, .invokevirtual 48, 3, 58, 2, 0, [0, 458]),
  (283, .aload_n 2, 1, 2, 0, 0, []),
  (284, .aload_n 0, 1, 0, 0, 0, []),
  (285, .iload_n 3, 1, 3, 0, 0, []),
  (286, .iconst 1, 1, 0, 0, 1, []),
  (287, .iadd, 1, 0, 0, 0, []),
  (288, .iaload, 1, 0, 0, 0, []),
  (289, .invokevirtual 52, 3, 122, 2, 0, [0, 816]),
  (292, .if_icmp .eq 272, 3, 564, 0, 0, []),
  (295, .iconst 0, 1, 0, 0, 0, []),
  (296, .ireturn, 1, 0, 0, 0, []),
  (297, .aload_n 1, 1, 1, 0, 0, []),
  (298, .aload_n 0, 1, 0, 0, 0, []),
  (299, .iload_n 3, 1, 3, 0, 0, []),
  (300, .iconst 1, 1, 0, 0, 1, []),
  (301, .iadd, 1, 0, 0, 0, []),
  (302, .iaload, 1, 0, 0, 0, []),
  (303, .invokevirtual 53, 3, 61, 2, 0, [0, 470]),
  (306, .aload_n 2, 1, 2, 0, 0, []),
  (307, .aload_n 0, 1, 0, 0, 0, []),
  (308, .iload_n 3, 1, 3, 0, 0, []),
  (309, .iconst 1, 1, 0, 0, 1, []),
  (310, .iadd, 1, 0, 0, 0, []),
  (311, .iaload, 1, 0, 0, 0, []),
  (312, .invokevirtual 56, 3, 123, 2, 0, [0, 820]),
  (315, .if_icmp .eq 249, 3, 564, 0, 0, []),
  (318, .iconst 0, 1, 0, 0, 0, []),
  (319, .ireturn, 1, 0, 0, 0, []),
  (320, .aload_n 1, 1, 1, 0, 0, []),
  (321, .aload_n 0, 1, 0, 0, 0, []),
  (322, .iload_n 3, 1, 3, 0, 0, []),
  (323, .iconst 1, 1, 0, 0, 1, []),
  (324, .iadd, 1, 0, 0, 0, []),
  (325, .iaload, 1, 0, 0, 0, []),
  (326, .invokevirtual 57, 3, 62, 2, 0, [0, 474]),
  (329, .aload_n 2, 1, 2, 0, 0, []),
  (330, .aload_n 0, 1, 0, 0, 0, []),
  (331, .iload_n 3, 1, 3, 0, 0, []),
  (332, .iconst 1, 1, 0, 0, 1, []),
  (333, .iadd, 1, 0, 0, 0, []),
  (334, .iaload, 1, 0, 0, 0, []),
  (335, .invokevirtual 60, 3, 124, 2, 0, [0, 824]),
  (338, .if_icmp .eq 226, 3, 564, 0, 0, []),
  (341, .iconst 0, 1, 0, 0, 0, []),
  (342, .ireturn, 1, 0, 0, 0, []),
  (343, .aload_n 1, 1, 1, 0, 0, []),
  (344, .aload_n 0, 1, 0, 0, 0, []),
  (345, .iload_n 3, 1, 3, 0, 0, []),
  (346, .iconst 1, 1, 0, 0, 1, []),
  (347, .iadd, 1, 0, 0, 0, []),
  (348, .iaload, 1, 0, 0, 0, []),
  (349, .aload_n 0, 1, 0, 0, 0, []),
  (350, .iload_n 3, 1, 3, 0, 0, []),
  (351, .iconst 2, 1, 0, 0, 2, []),
  (352, .iadd, 1, 0, 0, 0, []),
  (353, .iaload, 1, 0, 0, 0, []),
  (354, .invokevirtual 61, 3, 69, 3, 0, [0, 506]),
  (357, .aload_n 2, 1, 2, 0, 0, []),
  (358, .aload_n 0, 1, 0, 0, 0, []),
  (359, .iload_n 3, 1, 3, 0, 0, []),
  (360, .iconst 1, 1, 0, 0, 1, []),
  (361, .iadd, 1, 0, 0, 0, []),
  (362, .iaload, 1, 0, 0, 0, []),
  (363, .aload_n 0, 1, 0, 0, 0, []),
  (364, .iload_n 3, 1, 3, 0, 0, []),
  (365, .iconst 2, 1, 0, 0, 2, []),
  (366, .iadd, 1, 0, 0, 0, []),
  (367, .iaload, 1, 0, 0, 0, []),
  (368, .invokevirtual 65, 3, 125, 3, 0, [0, 828]),
  (371, .if_icmp .eq 193, 3, 564, 0, 0, []),
  (374, .iconst 0, 1, 0, 0, 0, []),
  (375, .ireturn, 1, 0, 0, 0, []),
  (376, .aload_n 1, 1, 1, 0, 0, []),
  (377, .aload_n 0, 1, 0, 0, 0, []),
  (378, .iload_n 3, 1, 3, 0, 0, []),
  (379, .iconst 1, 1, 0, 0, 1, []),
  (380, .iadd, 1, 0, 0, 0, []),
  (381, .iaload, 1, 0, 0, 0, []),
  (382, .aload_n 0, 1, 0, 0, 0, []),
  (383, .iload_n 3, 1, 3, 0, 0, []),
  (384, .iconst 2, 1, 0, 0, 2, []),
  (385, .iadd, 1, 0, 0, 0, []),
  (386, .iaload, 1, 0, 0, 0, []),
  (387, .invokevirtual 66, 3, 80, 3, 0, [0, 553]),
  (390, .aload_n 2, 1, 2, 0, 0, []),
  (391, .aload_n 0, 1, 0, 0, 0, []),
  (392, .iload_n 3, 1, 3, 0, 0, []),
  (393, .iconst 1, 1, 0, 0, 1, []),
  (394, .iadd, 1, 0, 0, 0, []),
  (395, .iaload, 1, 0, 0, 0, []),
  (396, .aload_n 0, 1, 0, 0, 0, []),
  (397, .iload_n 3, 1, 3, 0, 0, []),
  (398, .iconst 2, 1, 0, 0, 2, []),
  (399, .iadd, 1, 0, 0, 0, []),
  (400, .iaload, 1, 0, 0, 0, []),
  (401, .invokevirtual 70, 3, 136, 3, 0, [0, 872]),
  (404, .if_icmp .eq 160, 3, 564, 0, 0, []),
  (407, .iconst 0, 1, 0, 0, 0, []),
  (408, .ireturn, 1, 0, 0, 0, []),
  (409, .aload_n 1, 1, 1, 0, 0, []),
  (410, .aload_n 0, 1, 0, 0, 0, []),
  (411, .iload_n 3, 1, 3, 0, 0, []),
  (412, .iconst 1, 1, 0, 0, 1, []),
  (413, .iadd, 1, 0, 0, 0, []),
  (414, .iaload, 1, 0, 0, 0, []),
  (415, .aload_n 0, 1, 0, 0, 0, []),
  (416, .iload_n 3, 1, 3, 0, 0, []),
  (417, .iconst 2, 1, 0, 0, 2, []),
  (418, .iadd, 1, 0, 0, 0, []),
  (419, .iaload, 1, 0, 0, 0, []),
  (420, .aload_n 0, 1, 0, 0, 0, []),
  (421, .iload_n 3, 1, 3, 0, 0, []),
  (422, .iconst 3, 1, 0, 0, 3, []),
  (423, .iadd, 1, 0, 0, 0, []),
  (424, .iaload, 1, 0, 0, 0, []),
  (425, .invokevirtual 71, 3, 81, 4, 0, [0, 557]),
  (428, .aload_n 2, 1, 2, 0, 0, []),
  (429, .aload_n 0, 1, 0, 0, 0, []),
  (430, .iload_n 3, 1, 3, 0, 0, []),
  (431, .iconst 1, 1, 0, 0, 1, []),
  (432, .iadd, 1, 0, 0, 0, []),
  (433, .iaload, 1, 0, 0, 0, []),
  (434, .aload_n 0, 1, 0, 0, 0, []),
  (435, .iload_n 3, 1, 3, 0, 0, []),
  (436, .iconst 2, 1, 0, 0, 2, []),
  (437, .iadd, 1, 0, 0, 0, []),
  (438, .iaload, 1, 0, 0, 0, []),
  (439, .aload_n 0, 1, 0, 0, 0, []),
  (440, .iload_n 3, 1, 3, 0, 0, []),
  (441, .iconst 3, 1, 0, 0, 3, []),
  (442, .iadd, 1, 0, 0, 0, []),
  (443, .iaload, 1, 0, 0, 0, []),
  (444, .invokevirtual 74, 3, 137, 4, 0, [0, 876]),
  (447, .if_icmp .eq 117, 3, 564, 0, 0, []),
  (450, .iconst 0, 1, 0, 0, 0, []),
  (451, .ireturn, 1, 0, 0, 0, []),
  (452, .aload_n 1, 1, 1, 0, 0, []),
  (453, .invokevirtual 75, 3, 82, 1, 0, [0, 561]),
  (456, .aload_n 2, 1, 2, 0, 0, []),
  (457, .invokevirtual 78, 3, 139, 1, 0, [0, 884]),
  (460, .if_icmp .eq 104, 3, 564, 0, 0, []),
  (463, .iconst 0, 1, 0, 0, 0, []),
  (464, .ireturn, 1, 0, 0, 0, []),
  (465, .aload_n 1, 1, 1, 0, 0, []),
  (466, .aload_n 0, 1, 0, 0, 0, []),
  (467, .iload_n 3, 1, 3, 0, 0, []),
  (468, .iconst 1, 1, 0, 0, 1, []),
  (469, .iadd, 1, 0, 0, 0, []),
  (470, .iaload, 1, 0, 0, 0, []),
  (471, .aload_n 0, 1, 0, 0, 0, []),
  (472, .iload_n 3, 1, 3, 0, 0, []),
  (473, .iconst 2, 1, 0, 0, 2, []),
  (474, .iadd, 1, 0, 0, 0, []),
  (475, .iaload, 1, 0, 0, 0, []),
  (476, .aload_n 0, 1, 0, 0, 0, []),
  (477, .iload_n 3, 1, 3, 0, 0, []),
  (478, .iconst 3, 1, 0, 0, 3, []),
  (479, .iadd, 1, 0, 0, 0, []),
  (480, .iaload, 1, 0, 0, 0, []),
  (481, .invokevirtual 79, 3, 83, 4, 0, [0, 565]),
  (484, .aload_n 2, 1, 2, 0, 0, []),
  (485, .aload_n 0, 1, 0, 0, 0, []),
  (486, .iload_n 3, 1, 3, 0, 0, []),
  (487, .iconst 1, 1, 0, 0, 1, []),
  (488, .iadd, 1, 0, 0, 0, []),
  (489, .iaload, 1, 0, 0, 0, []),
  (490, .aload_n 0, 1, 0, 0, 0, []),
  (491, .iload_n 3, 1, 3, 0, 0, []),
  (492, .iconst 2, 1, 0, 0, 2, []),
  (493, .iadd, 1, 0, 0, 0, []),
  (494, .iaload, 1, 0, 0, 0, []),
  (495, .aload_n 0, 1, 0, 0, 0, []),
  (496, .iload_n 3, 1, 3, 0, 0, []),
  (497, .iconst 3, 1, 0, 0, 3, []),
  (498, .iadd, 1, 0, 0, 0, []),
  (499, .iaload, 1, 0, 0, 0, []),
  (500, .invokevirtual 82, 3, 140, 4, 0, [0, 888]),
  (503, .if_icmp .eq 61, 3, 564, 0, 0, []),
  (506, .iconst 0, 1, 0, 0, 0, []),
  (507, .ireturn, 1, 0, 0, 0, []),
  (508, .aload_n 1, 1, 1, 0, 0, []),
  (509, .aload_n 0, 1, 0, 0, 0, []),
  (510, .iload_n 3, 1, 3, 0, 0, []),
  (511, .iconst 1, 1, 0, 0, 1, []),
  (512, .iadd, 1, 0, 0, 0, []),
  (513, .iaload, 1, 0, 0, 0, []),
  (514, .aload_n 0, 1, 0, 0, 0, []),
  (515, .iload_n 3, 1, 3, 0, 0, []),
  (516, .iconst 2, 1, 0, 0, 2, []),
  (517, .iadd, 1, 0, 0, 0, []),
  (518, .iaload, 1, 0, 0, 0, []),
  (519, .invokevirtual 83, 3, 86, 3, 0, [0, 578]),
  (522, .aload_n 2, 1, 2, 0, 0, []),
  (523, .aload_n 0, 1, 0, 0, 0, []),
  (524, .iload_n 3, 1, 3, 0, 0, []),
  (525, .iconst 1, 1, 0, 0, 1, []),
  (526, .iadd, 1, 0, 0, 0, []),
  (527, .iaload, 1, 0, 0, 0, []),
  (528, .aload_n 0, 1, 0, 0, 0, []),
  (529, .iload_n 3, 1, 3, 0, 0, []),
  (530, .iconst 2, 1, 0, 0, 2, []),
  (531, .iadd, 1, 0, 0, 0, []),
  (532, .iaload, 1, 0, 0, 0, []),
  (533, .invokevirtual 86, 3, 141, 3, 0, [0, 892]),
  (536, .if_icmp .eq 28, 3, 564, 0, 0, []),
  (539, .iconst 0, 1, 0, 0, 0, []),
  (540, .ireturn, 1, 0, 0, 0, []),
  (541, .aload_n 1, 1, 1, 0, 0, []),
  (542, .aload_n 0, 1, 0, 0, 0, []),
  (543, .iload_n 3, 1, 3, 0, 0, []),
  (544, .iconst 1, 1, 0, 0, 1, []),
  (545, .iadd, 1, 0, 0, 0, []),
  (546, .iaload, 1, 0, 0, 0, []),
  (547, .invokevirtual 87, 3, 91, 2, 0, [0, 599]),
  (550, .aload_n 2, 1, 2, 0, 0, []),
  (551, .aload_n 0, 1, 0, 0, 0, []),
  (552, .iload_n 3, 1, 3, 0, 0, []),
  (553, .iconst 1, 1, 0, 0, 1, []),
  (554, .iadd, 1, 0, 0, 0, []),
  (555, .iaload, 1, 0, 0, 0, []),
  (556, .invokevirtual 90, 3, 142, 2, 0, [0, 896]),
  (559, .if_icmp .eq 5, 3, 564, 0, 0, []),
  (562, .iconst 0, 1, 0, 0, 0, []),
  (563, .ireturn, 1, 0, 0, 0, []),
  (564, .iinc 3 4, 3, 3, 0, 4, []),
  (567, .goto (-549), 3, 18, 0, 0, []),
  (570, .iconst 1, 1, 0, 0, 1, []),
  (571, .ireturn, 1, 0, 0, 0, [])]
def am_tabs : List (List (Nat × am_I)) := [am_t0, am_t1, am_t2, am_t3, am_t4, am_t5, am_t6, am_t7, am_t8, am_t9, am_t10, am_t11, am_t12, am_t13, am_t14, am_t15, am_t16, am_t17, am_t18, am_t19, am_t20, am_t21, am_t22, am_t23, am_t24, am_t25, am_t26, am_t27, am_t28, am_t29, am_t30, am_t31, am_t32, am_t33, am_t34, am_t35, am_t36, am_t37, am_t38, am_t39, am_t40, am_t41, am_t42, am_t43, am_t44, am_t45, am_t46, am_t47, am_t48, am_t49, am_t50, am_t51, am_t52, am_t53, am_t54, am_t55, am_t56, am_t57, am_t58, am_t59, am_t60, am_t61, am_t62, am_t63, am_t64, am_t65, am_t66, am_t67, am_t68, am_t69, am_t70, am_t71, am_t72, am_t73, am_t74, am_t75, am_t76, am_t77, am_t78, am_t79, am_t80, am_t81, am_t82, am_t83, am_t84, am_t85, am_t86, am_t87, am_t88, am_t89, am_t90, am_t91, am_t92, am_t93, am_t94, am_t95, am_t96, am_t97, am_t98, am_t99, am_t100, am_t101, am_t102, am_t103, am_t104, am_t105, am_t106, am_t107, am_t108, am_t109, am_t110, am_t111, am_t112, am_t113, am_t114, am_t115, am_t116, am_t117, am_t118, am_t119, am_t120, am_t121, am_t122, am_t123, am_t124, am_t125, am_t126, am_t127, am_t128, am_t129, am_t130, am_t131, am_t132, am_t133, am_t134, am_t135, am_t136, am_t137, am_t138, am_t139, am_t140, am_t141, am_t142, am_t143]
def am_cd (j pc : Nat) : Option am_I := (am_tabs.getD j []).lookup pc
end
section
abbrev am_E : Type := (Nat × vp_A) ⊕ (Nat × List Value)
abbrev am_H : Type := (Nat → Option am_E) × Nat × Nat
abbrev am_L : Type := List (Option Value)
def am_up (h : am_H) (a : Nat) (e : am_E) : am_H := (fun q => if q = a then some e else h.1 q, h.2)
def am_nw (h : am_H) (e : am_E) (n : Nat) : am_H := (fun q => if q = h.2.1 then some e else h.1 q, h.2.1 + 1, h.2.2 + n)
theorem am_up_at (h : am_H) (a : Nat) (e : am_E) : (am_up h a e).1 a = some e := by simp [am_up]
theorem am_up_ne (h : am_H) {a b : Nat} (e : am_E) (hb : b ≠ a) : (am_up h a e).1 b = h.1 b := by simp [am_up, hb]
theorem am_up_2 (h : am_H) (a : Nat) (e : am_E) : (am_up h a e).2 = h.2 := rfl
theorem am_nw_at (h : am_H) (e : am_E) (n : Nat) : (am_nw h e n).1 h.2.1 = some e := by simp [am_nw]
theorem am_nw_ne (h : am_H) {b : Nat} (e : am_E) (n : Nat) (hb : b ≠ h.2.1) : (am_nw h e n).1 b = h.1 b := by simp [am_nw, hb]
theorem am_nw_2 (h : am_H) (e : am_E) (n : Nat) : (am_nw h e n).2 = (h.2.1 + 1, h.2.2 + n) := rfl
def am_ld : am_L → Nat → Option Value
  | [], _ => none
  | v :: _, 0 => v
  | _ :: t, n + 1 => am_ld t n
def am_sv : am_L → Nat → Value → am_L
  | [], _, _ => []
  | _ :: t, 0, v => some v :: t
  | w :: t, n + 1, v => w :: am_sv t n v
def am_at : List Value → Nat → Option Value
  | [], _ => none
  | v :: _, 0 => some v
  | _ :: t, n + 1 => am_at t n
def am_st : List Value → Nat → Value → List Value
  | [], _, _ => []
  | _ :: t, 0, v => v :: t
  | w :: t, n + 1, v => w :: am_st t n v
def am_tn : List Nat → Nat → Nat → Nat
  | [], _, d => d
  | v :: _, 0, _ => v
  | _ :: t, n + 1, d => am_tn t n d
def am_gf (e : Option am_E) (ci k : Nat) : Option Value := match e with
  | some (.inr (c, fs)) => if c = ci then am_at fs k else none
  | _ => none
def am_pf (e : Option am_E) (ci k : Nat) (v : Value) : Option am_E := match e with
  | some (.inr (c, fs)) => if c = ci ∧ k < fs.length then some (.inr (c, am_st fs k v)) else none
  | _ => none
def am_ko (e : Option am_E) : Option Nat := match e with
  | some (.inr (c, _)) => some c
  | _ => none
def am_ix (i : Int32) (n : Nat) : Option Nat := if i < 0 ∨ n ≤ i.toNatClampNeg then none else some i.toNatClampNeg
def am_ri (t : Nat) (e : Option am_E) (i : Int32) : Option Value := match e with
  | some (.inl (c, n, .inl g)) => if c = t then (match am_ix i n with | some k => some (.int (g k)) | none => none) else none
  | _ => none
def am_rq (e : Option am_E) (i : Int32) : Option Value := match e with
  | some (.inl (c, n, .inr (.inr (.inr (.inr g))))) => if 2 ≤ c ∧ c < 4 then (match am_ix i n with | some k => (match g k with | some b => some (.ref b) | none => none) | none => none) else none
  | _ => none
def am_wi (t : Nat) (e : Option am_E) (i : Int32) (x : Int32) : Option am_E := match e with
  | some (.inl (c, n, .inl g)) => if c = t then (match am_ix i n with | some k => some (.inl (c, n, .inl (upd g k x))) | none => none) else none
  | _ => none
def am_wq (e : Option am_E) (i : Int32) (v : Nat) (ev : Option am_E) : Option am_E := match e with
  | some (.inl (c, n, .inr (.inr (.inr (.inr g))))) => if 2 ≤ c ∧ c < 4 ∧ am_ko ev = some (am_ec c) then (match am_ix i n with | some k => some (.inl (c, n, .inr (.inr (.inr (.inr (va_up g k (some v))))))) | none => none) else none
  | _ => none
def am_ln (e : Option am_E) : Option Int32 := match e with
  | some (.inl (c, n, _)) => if c < 4 then some (nI n) else none
  | _ => none
def am_pop : Nat → List Value → List Value → Option (List Value × List Value)
  | 0, st, acc => some (acc, st)
  | n + 1, v :: st, acc => am_pop n st (v :: acc)
  | _ + 1, [], _ => none
def am_rt (rt : Nat) (i : Instr) (st : List Value) : Option (Option Value) := match i with
  | .ireturn => (match st with | [.int v] => if rt = 1 ∨ (rt = 2 ∧ v &&& 1 = v) then some (some (.int v)) else none | _ => none)
  | .areturn => (match st with | [.ref a] => if rt = 3 then some (some (.ref a)) else none | _ => none)
  | .return_ => (match st with | [] => if rt = 0 then some none else none | _ => none)
  | _ => none
def am_g : Nat → List Value → Bool
  | _, [] => true
  | n + 1, .int _ :: t => am_g n t
  | n + 1, .ref _ :: t => am_g n t
  | _, _ => false
def am_k (o : Option (List Value × List Value)) : Option (List Value × List Value) := match o with
  | some (av, st') => if am_g 8 av = true ∧ am_g 8 st' = true then some (av, st') else none
  | none => none
def am_cv (o : Option (List Value × List Value)) (x : Nat) (h : am_H) : Option (List Value × List Value) := match o with
  | some (.ref a :: t, st') => if am_ko (h.1 a) = some (am_kl x) then some (.ref a :: t, st') else none
  | _ => none
def am_cs (o : Option (List Value × List Value)) : Option (List Value × List Value) := match o with
  | some (.ref a :: t, st') => some (.ref a :: t, st')
  | _ => none
def am_ca (i : Instr) (x y : Nat) (st : List Value) (h : am_H) : Option (List Value × List Value) := match i with
  | .invokevirtual _ => am_k (am_cv (am_pop y st []) x h)
  | .invokestatic _ => if y < 90 then am_k (am_pop y st []) else none
  | .invokespecial _ => if y < 90 then am_k (am_cs (am_pop y st [])) else none
  | _ => none
def am_w1 (z a : Nat) (st : List Value) (o : Option am_E) : Option (List Value × Nat × am_E) := match o with
  | some e => if z ≤ a then some (st, a, e) else none
  | none => none
def am_fok (x y : Nat) (v : Value) : Bool := match v with
  | .int w => match am_ft x y with
    | 0 => true
    | 1 => w &&& 1 == w
    | _ => false
  | .ref _ => am_ft x y == 2
  | _ => false
def am_cp (ed : Option am_E) (sp dp n : Int32) : Option am_E := match ed with
  | some (.inl (c1, n1, .inl g)) => if c1 = 0 ∧ ¬ sp < 0 ∧ ¬ dp < 0 ∧ ¬ n < 0 ∧ sp.toNatClampNeg + n.toNatClampNeg ≤ n1 ∧ dp.toNatClampNeg + n.toNatClampNeg ≤ n1 then some (.inl (0, n1, .inl (va_cpy g g sp.toNatClampNeg dp.toNatClampNeg n.toNatClampNeg))) else none
  | _ => none
def am_w (z : Nat) (i : Instr) (x y : Nat) (st : List Value) (h : am_H) : Option (List Value × Nat × am_E) := match i with
  | .putfield _ => (match st with | v :: .ref a :: r => if am_fok x y v = true then am_w1 z a r (am_pf (h.1 a) x y v) else none | _ => none)
  | .iastore => (match st with | .int v :: .int k :: .ref a :: r => am_w1 z a r (am_wi 0 (h.1 a) k v) | _ => none)
  | .bastore => (match st with | .int v :: .int k :: .ref a :: r => am_w1 z a r (am_wi 1 (h.1 a) k (v &&& 1)) | _ => none)
  | .aastore => (match st with | .ref v :: .int k :: .ref a :: r => am_w1 z a r (am_wq (h.1 a) k v (h.1 v)) | _ => none)
  | .invokestatic _ => (match st with | .int n :: .int dp :: .ref b :: .int sp :: .ref a :: r => if y = 92 ∧ a = b ∧ am_g 8 r = true then am_w1 z b r (am_cp (h.1 b) sp dp n) else none | _ => none)
  | _ => none
def am_n (i : Instr) (x y : Nat) (st : List Value) : Option (List Value × am_E × Nat) := match i with
  | .new _ => some (st, .inr (x, am_df x), y)
  | .newarray _ => (match st with | .int n :: r => if ¬ n < 0 ∧ n.toNatClampNeg ≤ 1000000 then some (r, .inl (x, n.toNatClampNeg, .inl (fun _ => 0)), n.toNatClampNeg) else none | _ => none)
  | .anewarray _ => (match st with | .int n :: r => if ¬ n < 0 ∧ n.toNatClampNeg ≤ 1000000 then some (r, .inl (x, n.toNatClampNeg, .inr (.inr (.inr (.inr (fun _ => none))))), n.toNatClampNeg) else none | _ => none)
  | _ => none
abbrev am_C : Type := Nat × am_L × List Value
def am_pI (v : Option Value) (q : Nat) (lo : am_L) (st : List Value) : Option am_C := match v with
  | some (.int w) => some (q, lo, .int w :: st)
  | _ => none
def am_pR (v : Option Value) (q : Nat) (lo : am_L) (st : List Value) : Option am_C := match v with
  | some (.ref w) => some (q, lo, .ref w :: st)
  | _ => none
def am_pV (v : Option Value) (q : Nat) (lo : am_L) (st : List Value) : Option am_C := match v with
  | some (.ref w) => some (q, lo, .ref w :: st)
  | some (.int w) => some (q, lo, .int w :: st)
  | _ => none
def am_pN (v : Option Int32) (q : Nat) (lo : am_L) (st : List Value) : Option am_C := match v with
  | some w => some (q, lo, .int w :: st)
  | none => none
def am_b2 (f : Int32 → Int32 → Int32) (q : Nat) (lo : am_L) (st : List Value) : Option am_C := match st with
  | .int b :: .int a :: r => some (q, lo, .int (f a b) :: r)
  | _ => none
def am_m2 (f : Int32 → Int32 → Int32) (q : Nat) (lo : am_L) (st : List Value) : Option am_C := match st with
  | .int b :: .int a :: r => if am_g 8 r = true then some (q, lo, .int (f a b) :: r) else none
  | _ => none
def am_d2 (f : Int32 → Int32 → Int32) (q : Nat) (lo : am_L) (st : List Value) : Option am_C := match st with
  | .int b :: .int a :: r => if b = 0 then none else some (q, lo, .int (f a b) :: r)
  | _ => none
def am_c1 (f : Int32 → Bool) (x q : Nat) (lo : am_L) (st : List Value) : Option am_C := match st with
  | .int a :: r => some (if f a = true then x else q, lo, r)
  | _ => none
def am_c2 (f : Int32 → Int32 → Bool) (x q : Nat) (lo : am_L) (st : List Value) : Option am_C := match st with
  | .int b :: .int a :: r => some (if f a b = true then x else q, lo, r)
  | _ => none
def am_cA (f : Nat → Nat → Bool) (x q : Nat) (lo : am_L) (st : List Value) : Option am_C := match st with
  | .ref b :: .ref a :: r => some (if f a b = true then x else q, lo, r)
  | _ => none
def am_sI (x q : Nat) (lo : am_L) (st : List Value) : Option am_C := match st with
  | .int a :: r => if x < lo.length then some (q, am_sv lo x (.int a), r) else none
  | _ => none
def am_sR (x q : Nat) (lo : am_L) (st : List Value) : Option am_C := match st with
  | .ref a :: r => if x < lo.length then some (q, am_sv lo x (.ref a), r) else none
  | _ => none
def am_inc (v : Option Value) (c : Int32) (x q : Nat) (lo : am_L) (st : List Value) : Option am_C := match v with
  | some (.int a) => some (q, am_sv lo x (.int (a + c)), st)
  | _ => none
def am_c1f (c : ClassFile.Cond) (a : Int32) : Bool := match c with
  | .eq => a = 0
  | .ne => a ≠ 0
  | .lt => a < 0
  | .ge => 0 ≤ a
  | .gt => 0 < a
  | .le => a ≤ 0
def am_c2f (c : ClassFile.Cond) (a b : Int32) : Bool := match c with
  | .eq => a = b
  | .ne => a ≠ b
  | .lt => a < b
  | .ge => b ≤ a
  | .gt => b < a
  | .le => a ≤ b
def am_caf (c : ClassFile.ACond) (a b : Nat) : Bool := match c with
  | .eq => a = b
  | .ne => a ≠ b
def am_sw (x q : Nat) (ts : List Nat) (lo : am_L) (st : List Value) : Option am_C := match st with
  | .int a :: r => some (if a < 0 ∨ ts.length ≤ a.toNatClampNeg then x else am_tn ts a.toNatClampNeg x, lo, r)
  | _ => none
def am_s (i : Instr) (x y : Nat) (c : Int32) (ts : List Nat) (q : Nat) (lo : am_L) (st : List Value) (h : am_H) : Option am_C := match i with
  | .iconst _ => some (q, lo, .int c :: st)
  | .bipush _ => some (q, lo, .int c :: st)
  | .sipush _ => some (q, lo, .int c :: st)
  | .iload_n _ => am_pI (am_ld lo x) q lo st
  | .iload _ => am_pI (am_ld lo x) q lo st
  | .aload_n _ => am_pR (am_ld lo x) q lo st
  | .aload _ => am_pR (am_ld lo x) q lo st
  | .istore_n _ => am_sI x q lo st
  | .istore _ => am_sI x q lo st
  | .astore_n _ => am_sR x q lo st
  | .astore _ => am_sR x q lo st
  | .iinc _ _ => am_inc (am_ld lo x) c x q lo st
  | .iadd => am_b2 (fun a b => a + b) q lo st
  | .isub => am_b2 (fun a b => a - b) q lo st
  | .imul => am_b2 (fun a b => a * b) q lo st
  | .iand => am_b2 (fun a b => a &&& b) q lo st
  | .ior => am_b2 (fun a b => a ||| b) q lo st
  | .ishl => am_b2 (fun a b => a <<< (b &&& 31)) q lo st
  | .ishr => am_b2 (fun a b => a >>> (b &&& 31)) q lo st
  | .idiv => am_d2 (fun a b => a / b) q lo st
  | .irem => am_d2 (fun a b => a - a / b * b) q lo st
  | .dup => (match st with | v :: r => if v.category = 1 then some (q, lo, v :: v :: r) else none | _ => none)
  | .pop => (match st with | v :: r => if v.category = 1 then some (q, lo, r) else none | _ => none)
  | .dup_x1 => (match st with | v :: w :: r => if v.category = 1 ∧ w.category = 1 then some (q, lo, v :: w :: v :: r) else none | _ => none)
  | .dup_x2 => (match st with | v :: w :: u :: r => if v.category = 1 ∧ w.category = 1 ∧ u.category = 1 then some (q, lo, v :: w :: u :: v :: r) else none | _ => none)
  | .dup2 => (match st with | v :: w :: r => if v.category = 1 ∧ w.category = 1 then some (q, lo, v :: w :: v :: w :: r) else none | _ => none)
  | .ifCond k _ => am_c1 (am_c1f k) x q lo st
  | .if_icmp k _ => am_c2 (am_c2f k) x q lo st
  | .if_acmp k _ => am_cA (am_caf k) x q lo st
  | .goto _ => some (x, lo, st)
  | .tableswitch _ _ _ _ => am_sw x q ts lo st
  | .getfield _ => (match st with | .ref a :: r => am_pV (am_gf (h.1 a) x y) q lo r | _ => none)
  | .iaload => (match st with | .int k :: .ref a :: r => am_pV (am_ri 0 (h.1 a) k) q lo r | _ => none)
  | .baload => (match st with | .int k :: .ref a :: r => am_pV (am_ri 1 (h.1 a) k) q lo r | _ => none)
  | .aaload => (match st with | .int k :: .ref a :: r => am_pV (am_rq (h.1 a) k) q lo r | _ => none)
  | .arraylength => (match st with | .ref a :: r => am_pN (am_ln (h.1 a)) q lo r | _ => none)
  | .invokespecial _ => (match st with | .ref _ :: r => if y = 99 ∧ am_g 8 r = true then some (q, lo, r) else none | _ => none)
  | .invokestatic _ => if y = 90 then am_m2 (fun a b => if a < b then b else a) q lo st else if y = 91 then am_m2 (fun a b => if b < a then b else a) q lo st else none
  | _ => none
def am_run (z : Nat) (C : Nat → List Value → am_H → Option Value → am_H → Prop) (j : Nat) : Nat → Nat → am_L → List Value → am_H → Option Value → am_H → Prop
  | 0, _, _, _, _, _, _ => False
  | n + 1, pc, lo, st, h, r, h' => match am_cd j pc with
    | none => False
    | some (i, l, x, y, c, ts) => match am_rt (am_ret j) i st with
      | some v => r = v ∧ h' = h
      | none => match am_ca i x y st h with
        | some (av, st') => ∃ v h1, C x av h v h1 ∧ am_run z C j n (pc + l) lo (v.toList ++ st') h1 r h'
        | none => match am_w z i x y st h with
          | some (st', a, e) => am_run z C j n (pc + l) lo st' (am_up h a e) r h'
          | none => match am_n i x y st with
            | some (st', e, k) => am_run z C j n (pc + l) lo (.ref h.2.1 :: st') (am_nw h e k) r h'
            | none => match am_s i x y c ts (pc + l) lo st h with
              | some q => am_run z C j n q.1 q.2.1 q.2.2 h r h'
              | none => False
def am_en (j : Nat) (av : List Value) : am_L := av.map some ++ List.replicate (am_mx j - av.length) none
def am_M (z : Nat) : Nat → Nat → List Value → am_H → Option Value → am_H → Prop
  | 0, _, _, _, _, _ => False
  | d + 1, j, av, h, r, h' => ∃ n, am_run z (am_M z d) j n 0 (am_en j av) [] h r h'
def am_R (z d j pc : Nat) (lo : am_L) (st : List Value) (h : am_H) (r : Option Value) (h' : am_H) : Prop := ∃ n, am_run z (am_M z d) j n pc lo st h r h'
def am_CL (z d j x : Nat) (av : List Value) (pc : Nat) (lo : am_L) (st : List Value) (h : am_H) (r : Option Value) (h' : am_H) : Prop := ∃ v h1, am_M z d x av h v h1 ∧ am_R z d j pc lo (v.toList ++ st) h1 r h'
def am_K (z d j : Nat) (o : Option am_C) (h : am_H) (r : Option Value) (h' : am_H) : Prop := match o with
  | some q => am_R z d j q.1 q.2.1 q.2.2 h r h'
  | none => False
def am_KC (z d j x pc : Nat) (lo : am_L) (o : Option (List Value × List Value)) (h : am_H) (r : Option Value) (h' : am_H) : Prop := match o with
  | some (av, st') => am_CL z d j x av pc lo st' h r h'
  | none => False
def am_KW (z d j pc : Nat) (lo : am_L) (o : Option (List Value × Nat × am_E)) (h : am_H) (r : Option Value) (h' : am_H) : Prop := match o with
  | some (st', a, e) => am_R z d j pc lo st' (am_up h a e) r h'
  | none => False
def am_KN (z d j pc : Nat) (lo : am_L) (o : Option (List Value × am_E × Nat)) (h : am_H) (r : Option Value) (h' : am_H) : Prop := match o with
  | some (st', e, k) => am_R z d j pc lo (.ref h.2.1 :: st') (am_nw h e k) r h'
  | none => False
def am_X (z d j : Nat) (o : Option am_I) (pc : Nat) (lo : am_L) (st : List Value) (h : am_H) (r : Option Value) (h' : am_H) : Prop := match o with
  | none => False
  | some (i, l, x, y, c, ts) => match am_rt (am_ret j) i st with
    | some v => r = v ∧ h' = h
    | none => match am_ca i x y st h with
      | some (av, st') => am_CL z d j x av (pc + l) lo st' h r h'
      | none => match am_w z i x y st h with
        | some (st', a, e) => am_R z d j (pc + l) lo st' (am_up h a e) r h'
        | none => match am_n i x y st with
          | some (st', e, k) => am_R z d j (pc + l) lo (.ref h.2.1 :: st') (am_nw h e k) r h'
          | none => am_K z d j (am_s i x y c ts (pc + l) lo st h) h r h'
theorem am_R_iff (z d j pc : Nat) (lo : am_L) (st : List Value) (h : am_H) (r : Option Value) (h' : am_H) : am_R z d j pc lo st h r h' ↔ am_X z d j (am_cd j pc) pc lo st h r h' := by
  constructor
  · rintro ⟨n, hn⟩
    cases n with
    | zero => exact hn.elim
    | succ n =>
      unfold am_run at hn
      unfold am_X
      cases hc : am_cd j pc with
      | none => rw [hc] at hn; exact hn.elim
      | some q =>
        obtain ⟨i, l, x, y, c, ts⟩ := q
        rw [hc] at hn
        dsimp only at hn ⊢
        cases hrt : am_rt (am_ret j) i st with
        | some v => rw [hrt] at hn; exact hn
        | none =>
          rw [hrt] at hn
          dsimp only at hn ⊢
          cases hca : am_ca i x y st h with
          | some q =>
            obtain ⟨av, st'⟩ := q
            rw [hca] at hn
            obtain ⟨v, h1, a, b⟩ := hn
            exact ⟨v, h1, a, n, b⟩
          | none =>
            rw [hca] at hn
            dsimp only at hn ⊢
            cases hw : am_w z i x y st h with
            | some q =>
              obtain ⟨st', a, e⟩ := q
              rw [hw] at hn
              exact ⟨n, hn⟩
            | none =>
              rw [hw] at hn
              dsimp only at hn ⊢
              cases hnw : am_n i x y st with
              | some q =>
                obtain ⟨st', e, k⟩ := q
                rw [hnw] at hn
                exact ⟨n, hn⟩
              | none =>
                rw [hnw] at hn
                dsimp only at hn ⊢
                cases hs : am_s i x y c ts (pc + l) lo st h with
                | some q =>
                  rw [hs] at hn
                  exact ⟨n, hn⟩
                | none =>
                  rw [hs] at hn
                  exact hn.elim
  · intro hn
    unfold am_X at hn
    split at hn
    · exact hn.elim
    · rename_i i l x y c ts hc
      split at hn
      · rename_i v hv
        exact ⟨1, by unfold am_run; rw [hc]; dsimp only; rw [hv]; exact hn⟩
      · rename_i hv
        split at hn
        · rename_i av st' hv2
          obtain ⟨v, h1, a, n, b⟩ := hn
          exact ⟨n + 1, by unfold am_run; rw [hc]; dsimp only; rw [hv]; dsimp only; rw [hv2]; exact ⟨v, h1, a, b⟩⟩
        · rename_i hv2
          split at hn
          · rename_i hv3
            obtain ⟨n, b⟩ := hn
            exact ⟨n + 1, by unfold am_run; rw [hc]; dsimp only; rw [hv]; dsimp only; rw [hv2]; dsimp only; rw [hv3]; exact b⟩
          · rename_i hv3
            split at hn
            · rename_i hv4
              obtain ⟨n, b⟩ := hn
              exact ⟨n + 1, by unfold am_run; rw [hc]; dsimp only; rw [hv]; dsimp only; rw [hv2]; dsimp only; rw [hv3]; dsimp only; rw [hv4]; exact b⟩
            · rename_i hv4
              unfold am_K at hn
              split at hn
              · rename_i hv5
                obtain ⟨n, b⟩ := hn
                exact ⟨n + 1, by unfold am_run; rw [hc]; dsimp only; rw [hv]; dsimp only; rw [hv2]; dsimp only; rw [hv3]; dsimp only; rw [hv4]; dsimp only; rw [hv5]; exact b⟩
              · exact hn.elim
theorem am_R_eq (z d j pc : Nat) (lo : am_L) (st : List Value) (h : am_H) (r : Option Value) (h' : am_H) : am_R z d j pc lo st h r h' = am_X z d j (am_cd j pc) pc lo st h r h' := propext (am_R_iff ..)
theorem am_M_eq (z d j : Nat) (av : List Value) (h : am_H) (r : Option Value) (h' : am_H) : am_M z (d + 1) j av h r h' = am_R z d j 0 (am_en j av) [] h r h' := rfl
theorem am_CL_of {z d j x : Nat} {av : List Value} {pc : Nat} {lo : am_L} {st : List Value} {h h1 : am_H} {v r : Option Value} {h' : am_H} (hm : am_M z d x av h v h1) (k : am_R z d j pc lo (v.toList ++ st) h1 r h') : am_CL z d j x av pc lo st h r h' := ⟨v, h1, hm, k⟩
end
section
theorem rx_iconst (z d j l x y pc : Nat) (c : Int32) (ts : List Nat) (lo : am_L) (st : List Value) (h : am_H) (r : Option Value) (h' : am_H) (k : Int) : am_X z d j (some (.iconst k, l, x, y, c, ts)) pc lo st h r h' = am_R z d j (pc + l) lo (.int c :: st) h r h' := rfl
theorem rx_bipush (z d j l x y pc : Nat) (c : Int32) (ts : List Nat) (lo : am_L) (st : List Value) (h : am_H) (r : Option Value) (h' : am_H) (k : Int) : am_X z d j (some (.bipush k, l, x, y, c, ts)) pc lo st h r h' = am_R z d j (pc + l) lo (.int c :: st) h r h' := rfl
theorem rx_sipush (z d j l x y pc : Nat) (c : Int32) (ts : List Nat) (lo : am_L) (st : List Value) (h : am_H) (r : Option Value) (h' : am_H) (k : Int) : am_X z d j (some (.sipush k, l, x, y, c, ts)) pc lo st h r h' = am_R z d j (pc + l) lo (.int c :: st) h r h' := rfl
theorem rx_iload_n (z d j l x y pc : Nat) (c : Int32) (ts : List Nat) (lo : am_L) (st : List Value) (h : am_H) (r : Option Value) (h' : am_H) (k : Fin 4) : am_X z d j (some (.iload_n k, l, x, y, c, ts)) pc lo st h r h' = am_K z d j (am_pI (am_ld lo x) (pc + l) lo st) h r h' := rfl
theorem rx_iload (z d j l x y pc : Nat) (c : Int32) (ts : List Nat) (lo : am_L) (st : List Value) (h : am_H) (r : Option Value) (h' : am_H) (k : Nat) : am_X z d j (some (.iload k, l, x, y, c, ts)) pc lo st h r h' = am_K z d j (am_pI (am_ld lo x) (pc + l) lo st) h r h' := rfl
theorem rx_aload_n (z d j l x y pc : Nat) (c : Int32) (ts : List Nat) (lo : am_L) (st : List Value) (h : am_H) (r : Option Value) (h' : am_H) (k : Fin 4) : am_X z d j (some (.aload_n k, l, x, y, c, ts)) pc lo st h r h' = am_K z d j (am_pR (am_ld lo x) (pc + l) lo st) h r h' := rfl
theorem rx_aload (z d j l x y pc : Nat) (c : Int32) (ts : List Nat) (lo : am_L) (st : List Value) (h : am_H) (r : Option Value) (h' : am_H) (k : Nat) : am_X z d j (some (.aload k, l, x, y, c, ts)) pc lo st h r h' = am_K z d j (am_pR (am_ld lo x) (pc + l) lo st) h r h' := rfl
theorem rx_istore_n (z d j l x y pc : Nat) (c : Int32) (ts : List Nat) (lo : am_L) (st : List Value) (h : am_H) (r : Option Value) (h' : am_H) (k : Fin 4) : am_X z d j (some (.istore_n k, l, x, y, c, ts)) pc lo st h r h' = am_K z d j (am_sI x (pc + l) lo st) h r h' := rfl
theorem rx_istore (z d j l x y pc : Nat) (c : Int32) (ts : List Nat) (lo : am_L) (st : List Value) (h : am_H) (r : Option Value) (h' : am_H) (k : Nat) : am_X z d j (some (.istore k, l, x, y, c, ts)) pc lo st h r h' = am_K z d j (am_sI x (pc + l) lo st) h r h' := rfl
theorem rx_astore_n (z d j l x y pc : Nat) (c : Int32) (ts : List Nat) (lo : am_L) (st : List Value) (h : am_H) (r : Option Value) (h' : am_H) (k : Fin 4) : am_X z d j (some (.astore_n k, l, x, y, c, ts)) pc lo st h r h' = am_K z d j (am_sR x (pc + l) lo st) h r h' := rfl
theorem rx_astore (z d j l x y pc : Nat) (c : Int32) (ts : List Nat) (lo : am_L) (st : List Value) (h : am_H) (r : Option Value) (h' : am_H) (k : Nat) : am_X z d j (some (.astore k, l, x, y, c, ts)) pc lo st h r h' = am_K z d j (am_sR x (pc + l) lo st) h r h' := rfl
theorem rx_iinc (z d j l x y pc : Nat) (c : Int32) (ts : List Nat) (lo : am_L) (st : List Value) (h : am_H) (r : Option Value) (h' : am_H) (k : Nat) (n : Int) : am_X z d j (some (.iinc k n, l, x, y, c, ts)) pc lo st h r h' = am_K z d j (am_inc (am_ld lo x) c x (pc + l) lo st) h r h' := rfl
theorem rx_iadd (z d j l x y pc : Nat) (c : Int32) (ts : List Nat) (lo : am_L) (st : List Value) (h : am_H) (r : Option Value) (h' : am_H) (a b : Int32) : am_X z d j (some (.iadd, l, x, y, c, ts)) pc lo (.int b :: .int a :: st) h r h' = am_R z d j (pc + l) lo (.int (a + b) :: st) h r h' := rfl
theorem rx_isub (z d j l x y pc : Nat) (c : Int32) (ts : List Nat) (lo : am_L) (st : List Value) (h : am_H) (r : Option Value) (h' : am_H) (a b : Int32) : am_X z d j (some (.isub, l, x, y, c, ts)) pc lo (.int b :: .int a :: st) h r h' = am_R z d j (pc + l) lo (.int (a - b) :: st) h r h' := rfl
theorem rx_imul (z d j l x y pc : Nat) (c : Int32) (ts : List Nat) (lo : am_L) (st : List Value) (h : am_H) (r : Option Value) (h' : am_H) (a b : Int32) : am_X z d j (some (.imul, l, x, y, c, ts)) pc lo (.int b :: .int a :: st) h r h' = am_R z d j (pc + l) lo (.int (a * b) :: st) h r h' := rfl
theorem rx_iand (z d j l x y pc : Nat) (c : Int32) (ts : List Nat) (lo : am_L) (st : List Value) (h : am_H) (r : Option Value) (h' : am_H) (a b : Int32) : am_X z d j (some (.iand, l, x, y, c, ts)) pc lo (.int b :: .int a :: st) h r h' = am_R z d j (pc + l) lo (.int (a &&& b) :: st) h r h' := rfl
theorem rx_ior (z d j l x y pc : Nat) (c : Int32) (ts : List Nat) (lo : am_L) (st : List Value) (h : am_H) (r : Option Value) (h' : am_H) (a b : Int32) : am_X z d j (some (.ior, l, x, y, c, ts)) pc lo (.int b :: .int a :: st) h r h' = am_R z d j (pc + l) lo (.int (a ||| b) :: st) h r h' := rfl
theorem rx_ishl (z d j l x y pc : Nat) (c : Int32) (ts : List Nat) (lo : am_L) (st : List Value) (h : am_H) (r : Option Value) (h' : am_H) (a b : Int32) : am_X z d j (some (.ishl, l, x, y, c, ts)) pc lo (.int b :: .int a :: st) h r h' = am_R z d j (pc + l) lo (.int (a <<< (b &&& 31)) :: st) h r h' := rfl
theorem rx_ishr (z d j l x y pc : Nat) (c : Int32) (ts : List Nat) (lo : am_L) (st : List Value) (h : am_H) (r : Option Value) (h' : am_H) (a b : Int32) : am_X z d j (some (.ishr, l, x, y, c, ts)) pc lo (.int b :: .int a :: st) h r h' = am_R z d j (pc + l) lo (.int (a >>> (b &&& 31)) :: st) h r h' := rfl
theorem rx_idiv (z d j l x y pc : Nat) (c : Int32) (ts : List Nat) (lo : am_L) (st : List Value) (h : am_H) (r : Option Value) (h' : am_H) (a b : Int32) (hb : ¬ b = 0) : am_X z d j (some (.idiv, l, x, y, c, ts)) pc lo (.int b :: .int a :: st) h r h' = am_R z d j (pc + l) lo (.int (a / b) :: st) h r h' := by
  show am_K z d j (am_d2 (fun a b => a / b) (pc + l) lo (.int b :: .int a :: st)) h r h' = _
  simp only [am_d2, hb, if_false, am_K]
theorem rx_irem (z d j l x y pc : Nat) (c : Int32) (ts : List Nat) (lo : am_L) (st : List Value) (h : am_H) (r : Option Value) (h' : am_H) (a b : Int32) (hb : ¬ b = 0) : am_X z d j (some (.irem, l, x, y, c, ts)) pc lo (.int b :: .int a :: st) h r h' = am_R z d j (pc + l) lo (.int (a - a / b * b) :: st) h r h' := by
  show am_K z d j (am_d2 (fun a b => a - a / b * b) (pc + l) lo (.int b :: .int a :: st)) h r h' = _
  simp only [am_d2, hb, if_false, am_K]
theorem rx_dup_i (z d j l x y pc : Nat) (c : Int32) (ts : List Nat) (lo : am_L) (st : List Value) (h : am_H) (r : Option Value) (h' : am_H) (a : Int32) : am_X z d j (some (.dup, l, x, y, c, ts)) pc lo (.int a :: st) h r h' = am_R z d j (pc + l) lo (.int a :: .int a :: st) h r h' := rfl
theorem rx_dup_r (z d j l x y pc : Nat) (c : Int32) (ts : List Nat) (lo : am_L) (st : List Value) (h : am_H) (r : Option Value) (h' : am_H) (a : Nat) : am_X z d j (some (.dup, l, x, y, c, ts)) pc lo (.ref a :: st) h r h' = am_R z d j (pc + l) lo (.ref a :: .ref a :: st) h r h' := rfl
theorem rx_pop_i (z d j l x y pc : Nat) (c : Int32) (ts : List Nat) (lo : am_L) (st : List Value) (h : am_H) (r : Option Value) (h' : am_H) (a : Int32) : am_X z d j (some (.pop, l, x, y, c, ts)) pc lo (.int a :: st) h r h' = am_R z d j (pc + l) lo st h r h' := rfl
theorem rx_pop_r (z d j l x y pc : Nat) (c : Int32) (ts : List Nat) (lo : am_L) (st : List Value) (h : am_H) (r : Option Value) (h' : am_H) (a : Nat) : am_X z d j (some (.pop, l, x, y, c, ts)) pc lo (.ref a :: st) h r h' = am_R z d j (pc + l) lo st h r h' := rfl
theorem rx_dup_x1 (z d j l x y pc : Nat) (c : Int32) (ts : List Nat) (lo : am_L) (st : List Value) (h : am_H) (r : Option Value) (h' : am_H) (a : Int32) (b : Nat) : am_X z d j (some (.dup_x1, l, x, y, c, ts)) pc lo (.int a :: .ref b :: st) h r h' = am_R z d j (pc + l) lo (.int a :: .ref b :: .int a :: st) h r h' := rfl
theorem rx_dup_x2 (z d j l x y pc : Nat) (c : Int32) (ts : List Nat) (lo : am_L) (st : List Value) (h : am_H) (r : Option Value) (h' : am_H) (a b : Int32) (e : Nat) : am_X z d j (some (.dup_x2, l, x, y, c, ts)) pc lo (.int a :: .int b :: .ref e :: st) h r h' = am_R z d j (pc + l) lo (.int a :: .int b :: .ref e :: .int a :: st) h r h' := rfl
theorem rx_dup2 (z d j l x y pc : Nat) (c : Int32) (ts : List Nat) (lo : am_L) (st : List Value) (h : am_H) (r : Option Value) (h' : am_H) (a : Int32) (b : Nat) : am_X z d j (some (.dup2, l, x, y, c, ts)) pc lo (.int a :: .ref b :: st) h r h' = am_R z d j (pc + l) lo (.int a :: .ref b :: .int a :: .ref b :: st) h r h' := rfl
theorem rx_if_eq (z d j l x y pc : Nat) (c : Int32) (ts : List Nat) (lo : am_L) (st : List Value) (h : am_H) (r : Option Value) (h' : am_H) (a : Int32) (o : Int) : am_X z d j (some (.ifCond .eq o, l, x, y, c, ts)) pc lo (.int a :: st) h r h' = if a = 0 then am_R z d j x lo st h r h' else am_R z d j (pc + l) lo st h r h' := by
  show am_R z d j (if am_c1f .eq a = true then x else pc + l) lo st h r h' = _
  by_cases q : a = 0 <;> simp [am_c1f, q]
theorem rx_if_ne (z d j l x y pc : Nat) (c : Int32) (ts : List Nat) (lo : am_L) (st : List Value) (h : am_H) (r : Option Value) (h' : am_H) (a : Int32) (o : Int) : am_X z d j (some (.ifCond .ne o, l, x, y, c, ts)) pc lo (.int a :: st) h r h' = if ¬ a = 0 then am_R z d j x lo st h r h' else am_R z d j (pc + l) lo st h r h' := by
  show am_R z d j (if am_c1f .ne a = true then x else pc + l) lo st h r h' = _
  by_cases q : ¬ a = 0 <;> simp [am_c1f, q]
theorem rx_if_lt (z d j l x y pc : Nat) (c : Int32) (ts : List Nat) (lo : am_L) (st : List Value) (h : am_H) (r : Option Value) (h' : am_H) (a : Int32) (o : Int) : am_X z d j (some (.ifCond .lt o, l, x, y, c, ts)) pc lo (.int a :: st) h r h' = if a < 0 then am_R z d j x lo st h r h' else am_R z d j (pc + l) lo st h r h' := by
  show am_R z d j (if am_c1f .lt a = true then x else pc + l) lo st h r h' = _
  by_cases q : a < 0 <;> simp [am_c1f, q]
theorem rx_if_ge (z d j l x y pc : Nat) (c : Int32) (ts : List Nat) (lo : am_L) (st : List Value) (h : am_H) (r : Option Value) (h' : am_H) (a : Int32) (o : Int) : am_X z d j (some (.ifCond .ge o, l, x, y, c, ts)) pc lo (.int a :: st) h r h' = if 0 ≤ a then am_R z d j x lo st h r h' else am_R z d j (pc + l) lo st h r h' := by
  show am_R z d j (if am_c1f .ge a = true then x else pc + l) lo st h r h' = _
  by_cases q : 0 ≤ a <;> simp [am_c1f, q]
theorem rx_if_gt (z d j l x y pc : Nat) (c : Int32) (ts : List Nat) (lo : am_L) (st : List Value) (h : am_H) (r : Option Value) (h' : am_H) (a : Int32) (o : Int) : am_X z d j (some (.ifCond .gt o, l, x, y, c, ts)) pc lo (.int a :: st) h r h' = if 0 < a then am_R z d j x lo st h r h' else am_R z d j (pc + l) lo st h r h' := by
  show am_R z d j (if am_c1f .gt a = true then x else pc + l) lo st h r h' = _
  by_cases q : 0 < a <;> simp [am_c1f, q]
theorem rx_if_le (z d j l x y pc : Nat) (c : Int32) (ts : List Nat) (lo : am_L) (st : List Value) (h : am_H) (r : Option Value) (h' : am_H) (a : Int32) (o : Int) : am_X z d j (some (.ifCond .le o, l, x, y, c, ts)) pc lo (.int a :: st) h r h' = if a ≤ 0 then am_R z d j x lo st h r h' else am_R z d j (pc + l) lo st h r h' := by
  show am_R z d j (if am_c1f .le a = true then x else pc + l) lo st h r h' = _
  by_cases q : a ≤ 0 <;> simp [am_c1f, q]
theorem rx_icmp_eq (z d j l x y pc : Nat) (c : Int32) (ts : List Nat) (lo : am_L) (st : List Value) (h : am_H) (r : Option Value) (h' : am_H) (a b : Int32) (o : Int) : am_X z d j (some (.if_icmp .eq o, l, x, y, c, ts)) pc lo (.int b :: .int a :: st) h r h' = if a = b then am_R z d j x lo st h r h' else am_R z d j (pc + l) lo st h r h' := by
  show am_R z d j (if am_c2f .eq a b = true then x else pc + l) lo st h r h' = _
  by_cases q : a = b <;> simp [am_c2f, q]
theorem rx_icmp_ne (z d j l x y pc : Nat) (c : Int32) (ts : List Nat) (lo : am_L) (st : List Value) (h : am_H) (r : Option Value) (h' : am_H) (a b : Int32) (o : Int) : am_X z d j (some (.if_icmp .ne o, l, x, y, c, ts)) pc lo (.int b :: .int a :: st) h r h' = if ¬ a = b then am_R z d j x lo st h r h' else am_R z d j (pc + l) lo st h r h' := by
  show am_R z d j (if am_c2f .ne a b = true then x else pc + l) lo st h r h' = _
  by_cases q : ¬ a = b <;> simp [am_c2f, q]
theorem rx_icmp_lt (z d j l x y pc : Nat) (c : Int32) (ts : List Nat) (lo : am_L) (st : List Value) (h : am_H) (r : Option Value) (h' : am_H) (a b : Int32) (o : Int) : am_X z d j (some (.if_icmp .lt o, l, x, y, c, ts)) pc lo (.int b :: .int a :: st) h r h' = if a < b then am_R z d j x lo st h r h' else am_R z d j (pc + l) lo st h r h' := by
  show am_R z d j (if am_c2f .lt a b = true then x else pc + l) lo st h r h' = _
  by_cases q : a < b <;> simp [am_c2f, q]
theorem rx_icmp_ge (z d j l x y pc : Nat) (c : Int32) (ts : List Nat) (lo : am_L) (st : List Value) (h : am_H) (r : Option Value) (h' : am_H) (a b : Int32) (o : Int) : am_X z d j (some (.if_icmp .ge o, l, x, y, c, ts)) pc lo (.int b :: .int a :: st) h r h' = if b ≤ a then am_R z d j x lo st h r h' else am_R z d j (pc + l) lo st h r h' := by
  show am_R z d j (if am_c2f .ge a b = true then x else pc + l) lo st h r h' = _
  by_cases q : b ≤ a <;> simp [am_c2f, q]
theorem rx_icmp_gt (z d j l x y pc : Nat) (c : Int32) (ts : List Nat) (lo : am_L) (st : List Value) (h : am_H) (r : Option Value) (h' : am_H) (a b : Int32) (o : Int) : am_X z d j (some (.if_icmp .gt o, l, x, y, c, ts)) pc lo (.int b :: .int a :: st) h r h' = if b < a then am_R z d j x lo st h r h' else am_R z d j (pc + l) lo st h r h' := by
  show am_R z d j (if am_c2f .gt a b = true then x else pc + l) lo st h r h' = _
  by_cases q : b < a <;> simp [am_c2f, q]
theorem rx_icmp_le (z d j l x y pc : Nat) (c : Int32) (ts : List Nat) (lo : am_L) (st : List Value) (h : am_H) (r : Option Value) (h' : am_H) (a b : Int32) (o : Int) : am_X z d j (some (.if_icmp .le o, l, x, y, c, ts)) pc lo (.int b :: .int a :: st) h r h' = if a ≤ b then am_R z d j x lo st h r h' else am_R z d j (pc + l) lo st h r h' := by
  show am_R z d j (if am_c2f .le a b = true then x else pc + l) lo st h r h' = _
  by_cases q : a ≤ b <;> simp [am_c2f, q]
theorem rx_acmp_eq (z d j l x y pc : Nat) (c : Int32) (ts : List Nat) (lo : am_L) (st : List Value) (h : am_H) (r : Option Value) (h' : am_H) (a b : Nat) (o : Int) : am_X z d j (some (.if_acmp .eq o, l, x, y, c, ts)) pc lo (.ref b :: .ref a :: st) h r h' = if a = b then am_R z d j x lo st h r h' else am_R z d j (pc + l) lo st h r h' := by
  show am_R z d j (if am_caf .eq a b = true then x else pc + l) lo st h r h' = _
  by_cases q : a = b <;> simp [am_caf, q]
theorem rx_acmp_ne (z d j l x y pc : Nat) (c : Int32) (ts : List Nat) (lo : am_L) (st : List Value) (h : am_H) (r : Option Value) (h' : am_H) (a b : Nat) (o : Int) : am_X z d j (some (.if_acmp .ne o, l, x, y, c, ts)) pc lo (.ref b :: .ref a :: st) h r h' = if ¬ a = b then am_R z d j x lo st h r h' else am_R z d j (pc + l) lo st h r h' := by
  show am_R z d j (if am_caf .ne a b = true then x else pc + l) lo st h r h' = _
  by_cases q : ¬ a = b <;> simp [am_caf, q]
theorem rx_goto (z d j l x y pc : Nat) (c : Int32) (ts : List Nat) (lo : am_L) (st : List Value) (h : am_H) (r : Option Value) (h' : am_H) (o : Int) : am_X z d j (some (.goto o, l, x, y, c, ts)) pc lo st h r h' = am_R z d j x lo st h r h' := rfl
theorem rx_tableswitch (z d j l x y pc : Nat) (c : Int32) (ts : List Nat) (lo : am_L) (st : List Value) (h : am_H) (r : Option Value) (h' : am_H) (o1 o2 o3 : Int) (o4 : Array Int) (a : Int32) : am_X z d j (some (.tableswitch o1 o2 o3 o4, l, x, y, c, ts)) pc lo (.int a :: st) h r h' = am_R z d j (if a < 0 ∨ ts.length ≤ a.toNatClampNeg then x else am_tn ts a.toNatClampNeg x) lo st h r h' := rfl
theorem rx_getfield (z d j l x y pc : Nat) (c : Int32) (ts : List Nat) (lo : am_L) (st : List Value) (h : am_H) (r : Option Value) (h' : am_H) (k a : Nat) : am_X z d j (some (.getfield k, l, x, y, c, ts)) pc lo (.ref a :: st) h r h' = am_K z d j (am_pV (am_gf (h.1 a) x y) (pc + l) lo st) h r h' := rfl
theorem rx_iaload (z d j l x y pc : Nat) (c : Int32) (ts : List Nat) (lo : am_L) (st : List Value) (h : am_H) (r : Option Value) (h' : am_H) (i : Int32) (a : Nat) : am_X z d j (some (.iaload, l, x, y, c, ts)) pc lo (.int i :: .ref a :: st) h r h' = am_K z d j (am_pV (am_ri 0 (h.1 a) i) (pc + l) lo st) h r h' := rfl
theorem rx_baload (z d j l x y pc : Nat) (c : Int32) (ts : List Nat) (lo : am_L) (st : List Value) (h : am_H) (r : Option Value) (h' : am_H) (i : Int32) (a : Nat) : am_X z d j (some (.baload, l, x, y, c, ts)) pc lo (.int i :: .ref a :: st) h r h' = am_K z d j (am_pV (am_ri 1 (h.1 a) i) (pc + l) lo st) h r h' := rfl
theorem rx_aaload (z d j l x y pc : Nat) (c : Int32) (ts : List Nat) (lo : am_L) (st : List Value) (h : am_H) (r : Option Value) (h' : am_H) (i : Int32) (a : Nat) : am_X z d j (some (.aaload, l, x, y, c, ts)) pc lo (.int i :: .ref a :: st) h r h' = am_K z d j (am_pV (am_rq (h.1 a) i) (pc + l) lo st) h r h' := rfl
theorem rx_arraylength (z d j l x y pc : Nat) (c : Int32) (ts : List Nat) (lo : am_L) (st : List Value) (h : am_H) (r : Option Value) (h' : am_H) (a : Nat) : am_X z d j (some (.arraylength, l, x, y, c, ts)) pc lo (.ref a :: st) h r h' = am_K z d j (am_pN (am_ln (h.1 a)) (pc + l) lo st) h r h' := rfl
theorem rx_ireturn (z d j l x y pc : Nat) (c : Int32) (ts : List Nat) (lo : am_L) (h : am_H) (r : Option Value) (h' : am_H) (v : Int32) : am_X z d j (some (.ireturn, l, x, y, c, ts)) pc lo [.int v] h r h' = (if am_ret j = 1 ∨ (am_ret j = 2 ∧ v &&& 1 = v) then (r = some (.int v) ∧ h' = h) else False) := by
  by_cases q : am_ret j = 1 ∨ (am_ret j = 2 ∧ v &&& 1 = v)
  · simp only [am_X, am_rt, q, if_true]
  · simp only [am_X, am_rt, q, if_false, am_ca, am_w, am_n, am_s, am_K]
theorem rx_areturn (z d j l x y pc : Nat) (c : Int32) (ts : List Nat) (lo : am_L) (h : am_H) (r : Option Value) (h' : am_H) (v : Nat) : am_X z d j (some (.areturn, l, x, y, c, ts)) pc lo [.ref v] h r h' = (if am_ret j = 3 then (r = some (.ref v) ∧ h' = h) else False) := by
  by_cases q : am_ret j = 3
  · simp only [am_X, am_rt, q, if_true]
  · simp only [am_X, am_rt, q, if_false, am_ca, am_w, am_n, am_s, am_K]
theorem rx_return (z d j l x y pc : Nat) (c : Int32) (ts : List Nat) (lo : am_L) (h : am_H) (r : Option Value) (h' : am_H) : am_X z d j (some (.return_, l, x, y, c, ts)) pc lo [] h r h' = (if am_ret j = 0 then (r = none ∧ h' = h) else False) := by
  by_cases q : am_ret j = 0
  · simp only [am_X, am_rt, q, if_true]
  · simp only [am_X, am_rt, q, if_false, am_ca, am_w, am_n, am_s, am_K]
theorem rx_invv (z d j l x y pc : Nat) (c : Int32) (ts : List Nat) (lo : am_L) (st : List Value) (h : am_H) (r : Option Value) (h' : am_H) (k : Nat) : am_X z d j (some (.invokevirtual k, l, x, y, c, ts)) pc lo st h r h' = am_KC z d j x (pc + l) lo (am_k (am_cv (am_pop y st []) x h)) h r h' := by
  simp only [am_X, am_rt, am_ca, am_KC, am_w, am_n, am_s, am_K]
theorem rx_invs (z d j l x y pc : Nat) (c : Int32) (ts : List Nat) (lo : am_L) (st : List Value) (h : am_H) (r : Option Value) (h' : am_H) (k : Nat) (hy : y < 90) : am_X z d j (some (.invokestatic k, l, x, y, c, ts)) pc lo st h r h' = am_KC z d j x (pc + l) lo (am_k (am_pop y st [])) h r h' := by
  have h0 : ¬ y = 92 := by omega
  have h1 : ¬ y = 90 := by omega
  have h2 : ¬ y = 91 := by omega
  cases hk : am_k (am_pop y st []) with
  | some q => simp only [am_X, am_rt, am_ca, hy, if_true, hk, am_KC]
  | none =>
    simp only [am_X, am_rt, am_ca, hy, if_true, hk, am_KC, am_n, am_s, h1, h2, if_false, am_K]
    have hw : am_w z (.invokestatic k) x y st h = none := by
      simp only [am_w, h0, false_and, if_false]
      split <;> rfl
    rw [hw]
theorem rx_invi (z d j l x y pc : Nat) (c : Int32) (ts : List Nat) (lo : am_L) (st : List Value) (h : am_H) (r : Option Value) (h' : am_H) (k : Nat) (hy : y < 90) : am_X z d j (some (.invokespecial k, l, x, y, c, ts)) pc lo st h r h' = am_KC z d j x (pc + l) lo (am_k (am_cs (am_pop y st []))) h r h' := by
  have h0 : ¬ y = 99 := by omega
  cases hk : am_k (am_cs (am_pop y st [])) with
  | some q => simp only [am_X, am_rt, am_ca, hy, if_true, hk, am_KC]
  | none =>
    simp only [am_X, am_rt, am_ca, hy, if_true, hk, am_KC, am_n, am_w]
    have hw : am_s (.invokespecial k) x y c ts (pc + l) lo st h = none := by
      simp only [am_s, h0, false_and, if_false]
      split <;> rfl
    rw [hw]
    rfl
theorem rx_max (z d j l x pc : Nat) (c : Int32) (ts : List Nat) (lo : am_L) (st : List Value) (h : am_H) (r : Option Value) (h' : am_H) (k : Nat) (a b : Int32) : am_X z d j (some (.invokestatic k, l, x, 90, c, ts)) pc lo (.int b :: .int a :: st) h r h' = am_K z d j (am_m2 (fun a b => if a < b then b else a) (pc + l) lo (.int b :: .int a :: st)) h r h' := by
  have h0 : ¬ (90 : Nat) = 92 := by decide
  have hw : am_w z (.invokestatic k) x 90 (.int b :: .int a :: st) h = none := by
    simp only [am_w, h0, false_and, if_false]
    split <;> rfl
  have hca : am_ca (.invokestatic k) x 90 (.int b :: .int a :: st) h = none := by simp [am_ca]
  have hs : am_s (.invokestatic k) x 90 c ts (pc + l) lo (.int b :: .int a :: st) h = am_m2 (fun a b => if a < b then b else a) (pc + l) lo (.int b :: .int a :: st) := by simp [am_s]
  simp only [am_X, am_rt, hca, hw, am_n, hs]
theorem rx_min (z d j l x pc : Nat) (c : Int32) (ts : List Nat) (lo : am_L) (st : List Value) (h : am_H) (r : Option Value) (h' : am_H) (k : Nat) (a b : Int32) : am_X z d j (some (.invokestatic k, l, x, 91, c, ts)) pc lo (.int b :: .int a :: st) h r h' = am_K z d j (am_m2 (fun a b => if b < a then b else a) (pc + l) lo (.int b :: .int a :: st)) h r h' := by
  have h0 : ¬ (91 : Nat) = 92 := by decide
  have hw : am_w z (.invokestatic k) x 91 (.int b :: .int a :: st) h = none := by
    simp only [am_w, h0, false_and, if_false]
    split <;> rfl
  have hca : am_ca (.invokestatic k) x 91 (.int b :: .int a :: st) h = none := by simp [am_ca]
  have hs : am_s (.invokestatic k) x 91 c ts (pc + l) lo (.int b :: .int a :: st) h = am_m2 (fun a b => if b < a then b else a) (pc + l) lo (.int b :: .int a :: st) := by simp [am_s]
  simp only [am_X, am_rt, hca, hw, am_n, hs]
theorem rx_copy (z d j l x pc : Nat) (c : Int32) (ts : List Nat) (lo : am_L) (st : List Value) (h : am_H) (r : Option Value) (h' : am_H) (k b : Nat) (n dp sp : Int32) (hg : am_g 8 st = true) : am_X z d j (some (.invokestatic k, l, x, 92, c, ts)) pc lo (.int n :: .int dp :: .ref b :: .int sp :: .ref b :: st) h r h' = am_KW z d j (pc + l) lo (am_w1 z b st (am_cp (h.1 b) sp dp n)) h r h' := by
  have hw : am_w z (.invokestatic k) x 92 (.int n :: .int dp :: .ref b :: .int sp :: .ref b :: st) h = am_w1 z b st (am_cp (h.1 b) sp dp n) := by
    simp only [am_w, hg, and_self, if_true]
  cases hk : am_w1 z b st (am_cp (h.1 b) sp dp n) with
  | some q => rw [hk] at hw; simp only [am_X, am_rt, am_ca, hw, am_KW]; rfl
  | none => rw [hk] at hw; simp only [am_X, am_rt, am_ca, hw, am_KW, am_n, am_s, am_K]; rfl
theorem rx_objInit (z d j l x pc : Nat) (c : Int32) (ts : List Nat) (lo : am_L) (st : List Value) (h : am_H) (r : Option Value) (h' : am_H) (k a : Nat) (hg : am_g 8 st = true) : am_X z d j (some (.invokespecial k, l, x, 99, c, ts)) pc lo (.ref a :: st) h r h' = am_R z d j (pc + l) lo st h r h' := by
  show am_K z d j (if (99 : Nat) = 99 ∧ am_g 8 st = true then some (pc + l, lo, st) else none) h r h' = _
  simp only [hg, and_self, if_true, am_K]
theorem rx_putfield (z d j l x y pc : Nat) (c : Int32) (ts : List Nat) (lo : am_L) (st : List Value) (h : am_H) (r : Option Value) (h' : am_H) (k a : Nat) (v : Value) (hf : am_fok x y v = true) : am_X z d j (some (.putfield k, l, x, y, c, ts)) pc lo (v :: .ref a :: st) h r h' = am_KW z d j (pc + l) lo (am_w1 z a st (am_pf (h.1 a) x y v)) h r h' := by
  have hw : am_w z (.putfield k) x y (v :: .ref a :: st) h = am_w1 z a st (am_pf (h.1 a) x y v) := by
    simp only [am_w, hf, if_true]
  cases hk : am_w1 z a st (am_pf (h.1 a) x y v) with
  | some q => rw [hk] at hw; simp only [am_X, am_rt, am_ca, hw, am_KW]
  | none => rw [hk] at hw; simp only [am_X, am_rt, am_ca, hw, am_KW, am_n, am_s, am_K]
theorem rx_iastore (z d j l x y pc : Nat) (c : Int32) (ts : List Nat) (lo : am_L) (st : List Value) (h : am_H) (r : Option Value) (h' : am_H) (a : Nat) (v i : Int32) : am_X z d j (some (.iastore, l, x, y, c, ts)) pc lo (.int v :: .int i :: .ref a :: st) h r h' = am_KW z d j (pc + l) lo (am_w1 z a st (am_wi 0 (h.1 a) i v)) h r h' := by
  have hw : am_w z .iastore x y (.int v :: .int i :: .ref a :: st) h = am_w1 z a st (am_wi 0 (h.1 a) i v) := rfl
  cases hk : am_w1 z a st (am_wi 0 (h.1 a) i v) with
  | some q => rw [hk] at hw; simp only [am_X, am_rt, am_ca, hw, am_KW]
  | none => rw [hk] at hw; simp only [am_X, am_rt, am_ca, hw, am_KW, am_n, am_s, am_K]
theorem rx_bastore (z d j l x y pc : Nat) (c : Int32) (ts : List Nat) (lo : am_L) (st : List Value) (h : am_H) (r : Option Value) (h' : am_H) (a : Nat) (v i : Int32) : am_X z d j (some (.bastore, l, x, y, c, ts)) pc lo (.int v :: .int i :: .ref a :: st) h r h' = am_KW z d j (pc + l) lo (am_w1 z a st (am_wi 1 (h.1 a) i (v &&& 1))) h r h' := by
  have hw : am_w z .bastore x y (.int v :: .int i :: .ref a :: st) h = am_w1 z a st (am_wi 1 (h.1 a) i (v &&& 1)) := rfl
  cases hk : am_w1 z a st (am_wi 1 (h.1 a) i (v &&& 1)) with
  | some q => rw [hk] at hw; simp only [am_X, am_rt, am_ca, hw, am_KW]
  | none => rw [hk] at hw; simp only [am_X, am_rt, am_ca, hw, am_KW, am_n, am_s, am_K]
theorem rx_aastore (z d j l x y pc : Nat) (c : Int32) (ts : List Nat) (lo : am_L) (st : List Value) (h : am_H) (r : Option Value) (h' : am_H) (a v : Nat) (i : Int32) : am_X z d j (some (.aastore, l, x, y, c, ts)) pc lo (.ref v :: .int i :: .ref a :: st) h r h' = am_KW z d j (pc + l) lo (am_w1 z a st (am_wq (h.1 a) i v (h.1 v))) h r h' := by
  have hw : am_w z .aastore x y (.ref v :: .int i :: .ref a :: st) h = am_w1 z a st (am_wq (h.1 a) i v (h.1 v)) := rfl
  cases hk : am_w1 z a st (am_wq (h.1 a) i v (h.1 v)) with
  | some q => rw [hk] at hw; simp only [am_X, am_rt, am_ca, hw, am_KW]
  | none => rw [hk] at hw; simp only [am_X, am_rt, am_ca, hw, am_KW, am_n, am_s, am_K]
theorem rx_new (z d j l x y pc : Nat) (c : Int32) (ts : List Nat) (lo : am_L) (st : List Value) (h : am_H) (r : Option Value) (h' : am_H) (k : Nat) : am_X z d j (some (.new k, l, x, y, c, ts)) pc lo st h r h' = am_R z d j (pc + l) lo (.ref h.2.1 :: st) (am_nw h (.inr (x, am_df x)) y) r h' := rfl
theorem rx_newarray (z d j l x y pc : Nat) (c : Int32) (ts : List Nat) (lo : am_L) (st : List Value) (h : am_H) (r : Option Value) (h' : am_H) (t : ArrayType) (n : Int32) (hn : ¬ n < 0 ∧ n.toNatClampNeg ≤ 1000000) : am_X z d j (some (.newarray t, l, x, y, c, ts)) pc lo (.int n :: st) h r h' = am_R z d j (pc + l) lo (.ref h.2.1 :: st) (am_nw h (.inl (x, n.toNatClampNeg, .inl (fun _ => 0))) n.toNatClampNeg) r h' := by
  have hw : am_n (.newarray t) x y (.int n :: st) = some (st, .inl (x, n.toNatClampNeg, .inl (fun _ => 0)), n.toNatClampNeg) := by
    simp only [am_n, hn, not_false_eq_true, and_self, if_true]
  simp only [am_X, am_rt, am_ca, am_w, hw]
theorem rx_anewarray (z d j l x y pc : Nat) (c : Int32) (ts : List Nat) (lo : am_L) (st : List Value) (h : am_H) (r : Option Value) (h' : am_H) (k : Nat) (n : Int32) (hn : ¬ n < 0 ∧ n.toNatClampNeg ≤ 1000000) : am_X z d j (some (.anewarray k, l, x, y, c, ts)) pc lo (.int n :: st) h r h' = am_R z d j (pc + l) lo (.ref h.2.1 :: st) (am_nw h (.inl (x, n.toNatClampNeg, .inr (.inr (.inr (.inr (fun _ => none)))))) n.toNatClampNeg) r h' := by
  have hw : am_n (.anewarray k) x y (.int n :: st) = some (st, .inl (x, n.toNatClampNeg, .inr (.inr (.inr (.inr (fun _ => none))))), n.toNatClampNeg) := by
    simp only [am_n, hn, not_false_eq_true, and_self, if_true]
  simp only [am_X, am_rt, am_ca, am_w, hw]
theorem ev_K (z d j q : Nat) (lo : am_L) (st : List Value) (h : am_H) (r : Option Value) (h' : am_H) : am_K z d j (some (q, lo, st)) h r h' = am_R z d j q lo st h r h' := rfl
theorem ev_pI (w : Int32) (q : Nat) (lo : am_L) (st : List Value) : am_pI (some (.int w)) q lo st = some (q, lo, .int w :: st) := rfl
theorem ev_pR (w : Nat) (q : Nat) (lo : am_L) (st : List Value) : am_pR (some (.ref w)) q lo st = some (q, lo, .ref w :: st) := rfl
theorem ev_pVi (w : Int32) (q : Nat) (lo : am_L) (st : List Value) : am_pV (some (.int w)) q lo st = some (q, lo, .int w :: st) := rfl
theorem ev_pVr (w : Nat) (q : Nat) (lo : am_L) (st : List Value) : am_pV (some (.ref w)) q lo st = some (q, lo, .ref w :: st) := rfl
theorem ev_pN (w : Int32) (q : Nat) (lo : am_L) (st : List Value) : am_pN (some w) q lo st = some (q, lo, .int w :: st) := rfl
theorem ev_m2 (f : Int32 → Int32 → Int32) (q : Nat) (lo : am_L) (st : List Value) (a b : Int32) (hg : am_g 8 st = true) : am_m2 f q lo (.int b :: .int a :: st) = some (q, lo, .int (f a b) :: st) := by
  simp only [am_m2, hg, if_true]
theorem ev_sI (x q : Nat) (lo : am_L) (st : List Value) (a : Int32) (hx : x < lo.length) : am_sI x q lo (.int a :: st) = some (q, am_sv lo x (.int a), st) := by
  simp only [am_sI, hx, if_true]
theorem ev_sR (x q : Nat) (lo : am_L) (st : List Value) (a : Nat) (hx : x < lo.length) : am_sR x q lo (.ref a :: st) = some (q, am_sv lo x (.ref a), st) := by
  simp only [am_sR, hx, if_true]
theorem ev_inc (a c : Int32) (x q : Nat) (lo : am_L) (st : List Value) : am_inc (some (.int a)) c x q lo st = some (q, am_sv lo x (.int (a + c)), st) := rfl
theorem ev_gf (c k : Nat) (fs : List Value) : am_gf (some (.inr (c, fs))) c k = am_at fs k := by simp only [am_gf, if_true]
theorem ev_pf (c k : Nat) (fs : List Value) (v : Value) (hk : k < fs.length) : am_pf (some (.inr (c, fs))) c k v = some (.inr (c, am_st fs k v)) := by simp only [am_pf, hk, and_self, if_true]
theorem ev_ko (c : Nat) (fs : List Value) : am_ko (some (.inr (c, fs))) = some c := rfl
theorem ev_ri (t n k : Nat) (g : Nat → Int32) (i : Int32) (hi : am_ix i n = some k) : am_ri t (some (.inl (t, n, .inl g))) i = some (.int (g k)) := by simp only [am_ri, hi, if_true]
theorem ev_rq (t n k b : Nat) (g : Nat → Option Nat) (i : Int32) (ht : 2 ≤ t ∧ t < 4) (hi : am_ix i n = some k) (hg : g k = some b) : am_rq (some (.inl (t, n, .inr (.inr (.inr (.inr g)))))) i = some (.ref b) := by simp only [am_rq, hi, ht, and_self, if_true, hg]
theorem ev_wi (t n k : Nat) (g : Nat → Int32) (i v : Int32) (hi : am_ix i n = some k) : am_wi t (some (.inl (t, n, .inl g))) i v = some (.inl (t, n, .inl (upd g k v))) := by simp only [am_wi, hi, if_true]
theorem ev_wq (t n k v : Nat) (g : Nat → Option Nat) (i : Int32) (ev : Option am_E) (ht : 2 ≤ t ∧ t < 4) (hi : am_ix i n = some k) (hv : am_ko ev = some (am_ec t)) : am_wq (some (.inl (t, n, .inr (.inr (.inr (.inr g)))))) i v ev = some (.inl (t, n, .inr (.inr (.inr (.inr (va_up g k (some v))))))) := by simp only [am_wq, hi, ht, hv, and_self, if_true]
theorem ev_ln (t n : Nat) (g : (Nat → Int32) ⊕ (Nat → Int64) ⊕ (Nat → UInt32) ⊕ (Nat → UInt64) ⊕ (Nat → Option Nat)) (ht : t < 4) : am_ln (some (.inl (t, n, g))) = some (nI n) := by simp only [am_ln, ht, if_true]
theorem ev_w1 (z a : Nat) (st : List Value) (e : am_E) (hz : z ≤ a) : am_w1 z a st (some e) = some (st, a, e) := by simp only [am_w1, hz, if_true]
theorem ev_KW (z d j pc a : Nat) (lo : am_L) (st : List Value) (e : am_E) (h : am_H) (r : Option Value) (h' : am_H) : am_KW z d j pc lo (some (st, a, e)) h r h' = am_R z d j pc lo st (am_up h a e) r h' := rfl
theorem ev_KC (z d j x pc : Nat) (lo : am_L) (av st : List Value) (h : am_H) (r : Option Value) (h' : am_H) : am_KC z d j x pc lo (some (av, st)) h r h' = am_CL z d j x av pc lo st h r h' := rfl
theorem ev_k (av st : List Value) (h1 : am_g 8 av = true) (h2 : am_g 8 st = true) : am_k (some (av, st)) = some (av, st) := by simp only [am_k, h1, h2, and_self, if_true]
theorem ev_cv (a x : Nat) (t st : List Value) (h : am_H) (hk : am_ko (h.1 a) = some (am_kl x)) : am_cv (some (.ref a :: t, st)) x h = some (.ref a :: t, st) := by simp only [am_cv, hk, if_true]
theorem ev_cs (a : Nat) (t st : List Value) : am_cs (some (.ref a :: t, st)) = some (.ref a :: t, st) := rfl
theorem ev_ix {k n : Nat} (hk : k < n) (hn : n < 2 ^ 31) : am_ix (nI k) n = some k := by
  have h := nI_in hk hn
  have hc := nI_clamp (n := k) (by omega)
  unfold am_ix
  rw [if_neg h, hc]
theorem ev_pop0 (st acc : List Value) : am_pop 0 st acc = some (acc, st) := rfl
theorem ev_pops (n : Nat) (v : Value) (st acc : List Value) : am_pop (n + 1) (v :: st) acc = am_pop n st (v :: acc) := rfl
end
section
def am_tr (cA : Nat → ClassId) (e : am_E) : va_E := match e with
  | .inl (t, a) => .inl (cA t, a)
  | .inr o => .inr o
def am_W (D : va_G) (cA : Nat → ClassId) (h : am_H) (H : Heap) : Prop := H.size = h.2.1 ∧ ∀ (a : Nat) (e : am_E), h.1 a = some e → va_at D am_cl (a, am_tr cA e) H
def am_tys (cA : Nat → ClassId) : List (ClassId × FieldType) := [(cA 0, .int), (cA 1, .boolean), (cA 2, .object am_s2), (cA 3, .object am_s3)]
def am_isN (w : Cond) : Bool := match w with
  | .fieldLinkNest .. => true
  | .methodLinkNest .. => true
  | _ => false
def am_WS : List Cond := lw_tbl.filter goodWord
def am_KX (D : va_G) (cA : Nat → ClassId) (U : State) : Prop := va_K D am_cl (am_tys cA) U ∧ (∀ w ∈ lw_tbl, am_isN w = true → va_Nw w U) ∧ va_AO am_s2 U ∧ va_AO am_s3 U
theorem am_KX.moved {D : va_G} {cA : Nat → ClassId} {u U : State} (hW : u.WarmedH U.vm) (h : am_KX D cA u) : am_KX D cA U := by
  refine ⟨h.1.moved hW.alike, fun w hw hn => ?_, h.2.2.1.moved hW.alike, h.2.2.2.moved hW.alike⟩
  have h2 := h.2.1 w hw hn
  unfold am_isN at hn
  split at hn
  · exact va_Nw.warmF hW h2
  · exact va_Nw.warmM hW h2
  · cases hn
theorem am_KX.same {D : va_G} {cA : Nat → ClassId} {u U : State} (hv : u.vm = U.vm) (h : am_KX D cA u) : am_KX D cA U := by
  have ha : u.vm.Alike U.vm := by rw [hv]; exact Vm.Alike.refl _
  refine ⟨h.1.moved ha, fun w hw hn => ?_, h.2.2.1.moved ha, h.2.2.2.moved ha⟩
  have h2 := h.2.1 w hw hn
  unfold am_isN at hn
  split at hn
  · exact va_Nw.same rfl hv h2
  · exact va_Nw.same rfl hv h2
  · cases hn
theorem am_inWS {w : Cond} (h : w ∈ lw_tbl) (g : goodWord w = true) : w ∈ am_WS := List.mem_filter.mpr ⟨h, g⟩
theorem am_ld_svs : ∀ (lo : am_L) (x : Nat) (v : Value), x < lo.length → am_ld (am_sv lo x v) x = some v
  | [], x, v, h => absurd h (Nat.not_lt_zero _)
  | _ :: _, 0, _, _ => rfl
  | _ :: t, x + 1, v, h => am_ld_svs t x v (Nat.lt_of_succ_lt_succ h)
theorem am_ld_svn : ∀ (lo : am_L) (x i : Nat) (v : Value), i ≠ x → am_ld (am_sv lo x v) i = am_ld lo i
  | [], x, i, v, h => rfl
  | _ :: _, 0, 0, _, h => absurd rfl h
  | _ :: _, 0, _ + 1, _, _ => rfl
  | _ :: _, _ + 1, 0, _, _ => rfl
  | _ :: t, x + 1, i + 1, v, h => am_ld_svn t x i v (fun q => h (by rw [q]))
theorem am_sv_len : ∀ (lo : am_L) (x : Nat) (v : Value), (am_sv lo x v).length = lo.length
  | [], _, _ => rfl
  | _ :: _, 0, _ => rfl
  | _ :: t, x + 1, v => congrArg (· + 1) (am_sv_len t x v)
theorem am_ld_lt : ∀ (lo : am_L) (i : Nat) (v : Value), am_ld lo i = some v → i < lo.length
  | [], _, _, h => by cases h
  | _ :: _, 0, _, _ => Nat.succ_pos _
  | _ :: t, i + 1, v, h => Nat.succ_lt_succ (am_ld_lt t i v h)
def am_ll : Nat → am_L → List (Nat × Value)
  | _, [] => []
  | k, some v :: t => (k, v) :: am_ll (k + 1) t
  | k, none :: t => am_ll (k + 1) t
theorem am_ll_in : ∀ (lo : am_L) (k i : Nat) (v : Value), am_ld lo i = some v → (k + i, v) ∈ am_ll k lo
  | [], _, _, _, h => by cases h
  | some w :: t, k, 0, v, h => by
    have e : w = v := Option.some.inj h
    subst e
    exact List.mem_cons_self
  | none :: t, k, 0, v, h => by cases h
  | some w :: t, k, i + 1, v, h => by
    have := am_ll_in t (k + 1) i v h
    rw [show k + (i + 1) = k + 1 + i by omega]
    exact List.mem_cons_of_mem _ this
  | none :: t, k, i + 1, v, h => by
    have := am_ll_in t (k + 1) i v h
    rw [show k + (i + 1) = k + 1 + i by omega]
    exact this
theorem am_ll_of : ∀ (lo : am_L) (k : Nat) (q : Nat × Value), q ∈ am_ll k lo → ∃ i, q.1 = k + i ∧ am_ld lo i = some q.2
  | [], _, _, h => by cases h
  | some w :: t, k, q, h => by
    rcases List.mem_cons.mp h with h | h
    · subst h
      exact ⟨0, rfl, rfl⟩
    · obtain ⟨i, h1, h2⟩ := am_ll_of t (k + 1) q h
      exact ⟨i + 1, by rw [h1]; omega, h2⟩
  | none :: t, k, q, h => by
    obtain ⟨i, h1, h2⟩ := am_ll_of t (k + 1) q h
    exact ⟨i + 1, by rw [h1]; omega, h2⟩
def am_rl (n : Nat) (ls : Array Slot) (lo : am_L) : Prop := ls.size = n ∧ lo.length = n ∧ lv_wf ls ∧ ∀ (i : Nat) (v : Value), am_ld lo i = some v → ls[i]? = some (.val v) ∧ v.category = 1
theorem am_rl.has {n : Nat} {ls : Array Slot} {lo : am_L} (h : am_rl n ls lo) : lv_has ls n (am_ll 0 lo) := by
  refine ⟨h.1, h.2.2.1, fun q hq => ?_⟩
  obtain ⟨i, h1, h2⟩ := am_ll_of lo 0 q hq
  rw [h1, Nat.zero_add]
  exact (h.2.2.2 i q.2 h2).1
theorem am_rl.at {n : Nat} {ls : Array Slot} {lo : am_L} (h : am_rl n ls lo) {i : Nat} {v : Value} (hv : am_ld lo i = some v) : ls[i]? = some (.val v) := (h.2.2.2 i v hv).1
theorem am_rl.store {n : Nat} {ls ls' : Array Slot} {lo : am_L} {x : Nat} {v : Value} (h : am_rl n ls lo) (hx : x < n) (hc : v.category = 1) (h' : lv_has ls' n ((x, v) :: (am_ll 0 lo).filter (fun q => !(q.1 == x) && !(q.1 + 1 == x && q.2.category == 2)))) : am_rl n ls' (am_sv lo x v) := by
  refine ⟨h'.1, by rw [am_sv_len]; exact h.2.1, h'.2.1, fun i w hw => ?_⟩
  by_cases hi : i = x
  · subst hi
    rw [am_ld_svs _ _ _ (by rw [h.2.1]; exact hx)] at hw
    cases hw
    exact ⟨h'.2.2 (i, v) List.mem_cons_self, hc⟩
  · rw [am_ld_svn _ _ _ _ hi] at hw
    have hc1 := (h.2.2.2 i w hw).2
    refine ⟨h'.2.2 (i, w) (List.mem_cons_of_mem _ (List.mem_filter.mpr ⟨?_, ?_⟩)), hc1⟩
    · have := am_ll_in lo 0 i w hw
      rwa [Nat.zero_add] at this
    · simp [hi, hc1]
theorem am_en_ld : ∀ (av : List Value) (k i n : Nat) (v : Value), (∀ w ∈ av, w.category = 1) → am_ld (av.map some ++ List.replicate n none) i = some v → (k + i, v) ∈ lv_args k av ∧ v.category = 1
  | [], k, i, n, v, _, h => by
    exfalso
    have : ∀ (n i : Nat), am_ld (List.replicate n none) i = none := by
      intro n
      induction n with
      | zero => intro i; rfl
      | succ n ih =>
        intro i
        cases i with
        | zero => rfl
        | succ i => exact ih i
    rw [List.map_nil, List.nil_append, this] at h
    cases h
  | w :: t, k, 0, n, v, hc, h => by
    have e : w = v := Option.some.inj h
    subst e
    exact ⟨List.mem_cons_self, hc w List.mem_cons_self⟩
  | w :: t, k, i + 1, n, v, hc, h => by
    have hw := hc w List.mem_cons_self
    obtain ⟨h1, h2⟩ := am_en_ld t (k + 1) i n v (fun u hu => hc u (List.mem_cons_of_mem _ hu)) h
    refine ⟨?_, h2⟩
    show (k + (i + 1), v) ∈ (k, w) :: lv_args (if w.category = 2 then k + 2 else k + 1) t
    rw [if_neg (by omega), show k + (i + 1) = k + 1 + i by omega]
    exact List.mem_cons_of_mem _ h1
theorem am_sl_len : ∀ (av : List Value), (∀ w ∈ av, w.category = 1) → (lg_sl av).length = av.length
  | [], _ => rfl
  | w :: t, hc => by
    have hw := hc w List.mem_cons_self
    have ih := am_sl_len t (fun u hu => hc u (List.mem_cons_of_mem _ hu))
    simp only [lg_sl] at ih ⊢
    rw [List.flatMap_cons, List.length_append, ih, if_neg (by omega)]
    simp; omega
theorem am_rl.entry {j : Nat} {av : List Value} (hc : ∀ w ∈ av, w.category = 1) (hl : av.length ≤ am_mx j) : am_rl (am_mx j) ((lg_sl av ++ List.replicate (am_mx j - (lg_sl av).length) Slot.unset).toArray) (am_en j av) := by
  have hlen := am_sl_len av hc
  have h := lv_entry av (n := am_mx j) (by rw [hlen]; exact hl)
  refine ⟨h.1, ?_, h.2.1, fun i v hv => ?_⟩
  · simp only [am_en, List.length_append, List.length_map, List.length_replicate]
    omega
  · obtain ⟨h1, h2⟩ := am_en_ld av 0 i _ v hc hv
    rw [Nat.zero_add] at h1
    exact ⟨h.2.2 (i, v) h1, h2⟩
theorem am_g_cat : ∀ (n : Nat) (st : List Value), am_g n st = true → (st.map fun v => v.category).sum ≤ n
  | n, [], _ => by simp
  | 0, v :: t, h => by cases v <;> cases h
  | n + 1, v :: t, h => by
    cases v with
    | int w =>
      have := am_g_cat n t h
      rw [List.map_cons, List.sum_cons]
      show 1 + _ ≤ _
      omega
    | ref w =>
      have := am_g_cat n t h
      rw [List.map_cons, List.sum_cons]
      show 1 + _ ≤ _
      omega
    | _ => cases h
theorem am_g_one : ∀ (n : Nat) (st : List Value), am_g n st = true → ∀ w ∈ st, w.category = 1
  | n, [], _ => fun _ h => by cases h
  | 0, v :: t, h => by cases v <;> cases h
  | n + 1, v :: t, h => by
    cases v with
    | int w =>
      have := am_g_one n t h
      intro u hu
      rcases List.mem_cons.mp hu with hu | hu
      · rw [hu]; rfl
      · exact this u hu
    | ref w =>
      have := am_g_one n t h
      intro u hu
      rcases List.mem_cons.mp hu with hu | hu
      · rw [hu]; rfl
      · exact this u hu
    | _ => cases h
theorem am_at_get : ∀ (fs : List Value) (k : Nat), am_at fs k = fs[k]?
  | [], k => by simp [am_at]
  | _ :: _, 0 => by simp [am_at]
  | _ :: t, k + 1 => by simp [am_at, am_at_get t k]
theorem am_st_set : ∀ (fs : List Value) (k : Nat) (v : Value), am_st fs k v = fs.set k v
  | [], k, v => by simp [am_st]
  | _ :: _, 0, v => by simp [am_st]
  | _ :: t, k + 1, v => by simp [am_st, am_st_set t k v]
theorem am_P1 {D : va_G} {q : Nat × va_E} {H : Heap} (h : va_at D am_cl q H) : va_P D am_cl [q] H := by
  intro k x hk
  cases k with
  | zero =>
    have : q = x := by simpa using hk
    rw [← this]; exact h
  | succ k => simp at hk
theorem am_W.up {D : va_G} {cA : Nat → ClassId} {h : am_H} {H H1 : Heap} {a : Nat} {e : am_E} (hW : am_W D cA h H) (he : va_at D am_cl (a, am_tr cA e) H1) (z : H1.size = H.size) (oq : ∀ q : Nat, q ≠ a → H1[q]? = H[q]?) : am_W D cA (am_up h a e) H1 := by
  refine ⟨by rw [z]; exact hW.1, fun b x hx => ?_⟩
  by_cases hb : b = a
  · subst hb
    rw [am_up_at] at hx
    cases hx
    exact he
  · rw [am_up_ne _ _ hb] at hx
    exact (hW.2 b x hx).kept (oq b hb)
theorem am_W.nw {D : va_G} {cA : Nat → ClassId} {h : am_H} {H H1 : Heap} {e : am_E} {n : Nat} (hW : am_W D cA h H) (he : va_at D am_cl (H.size, am_tr cA e) H1) (z : H1.size = H.size + 1) (oq : ∀ q : Nat, q < H.size → H1[q]? = H[q]?) : am_W D cA (am_nw h e n) H1 := by
  refine ⟨by rw [z, hW.1]; rfl, fun b x hx => ?_⟩
  by_cases hb : b = h.2.1
  · subst hb
    rw [am_nw_at] at hx
    cases hx
    rw [← hW.1]
    exact he
  · rw [am_nw_ne _ _ _ hb] at hx
    have hx' := hW.2 b x hx
    exact hx'.kept (oq b hx'.lt)
def am_wd (pw : Nat) (w : Cond) : Bool := decide (lw_tbl[pw]? = some w) && goodWord w
theorem am_wd_in {pw : Nat} {w : Cond} (h : am_wd pw w = true) : w ∈ am_WS := by
  simp only [am_wd, Bool.and_eq_true, decide_eq_true_eq] at h
  exact am_inWS (List.mem_of_getElem? h.1) h.2
theorem am_lay0 : ∀ k, k < 14 → am_wd ((am_lp.getD 0 []).getD k 0) (u_lay "LayerVault" am_T0 k) = true := by decide +kernel
theorem am_ty0 : ∀ k, k < 14 → parseFieldDescriptor (am_T0 k).2.2.1 = some (am_tf 0 k) := by decide +kernel
theorem am_nm0 : ∀ a, a < 14 → ∀ b, b < 14 → a ≠ b → (am_T0 a).2.1 ≠ (am_T0 b).2.1 := by decide +kernel
theorem am_dv0 : ∀ k, k < 14 → defaultValue (am_tf 0 k) = vp_V (am_df 0) k := by decide +kernel
theorem am_lay1 : ∀ k, k < 8 → am_wd ((am_lp.getD 1 []).getD k 0) (u_lay "LayerVault$Entry" am_T1 k) = true := by decide +kernel
theorem am_ty1 : ∀ k, k < 8 → parseFieldDescriptor (am_T1 k).2.2.1 = some (am_tf 1 k) := by decide +kernel
theorem am_nm1 : ∀ a, a < 8 → ∀ b, b < 8 → a ≠ b → (am_T1 a).2.1 ≠ (am_T1 b).2.1 := by decide +kernel
theorem am_dv1 : ∀ k, k < 8 → defaultValue (am_tf 1 k) = vp_V (am_df 1) k := by decide +kernel
theorem am_lay2 : ∀ k, k < 3 → am_wd ((am_lp.getD 2 []).getD k 0) (u_lay "LayerVault$Row" am_T2 k) = true := by decide +kernel
theorem am_ty2 : ∀ k, k < 3 → parseFieldDescriptor (am_T2 k).2.2.1 = some (am_tf 2 k) := by decide +kernel
theorem am_nm2 : ∀ a, a < 3 → ∀ b, b < 3 → a ≠ b → (am_T2 a).2.1 ≠ (am_T2 b).2.1 := by decide +kernel
theorem am_dv2 : ∀ k, k < 3 → defaultValue (am_tf 2 k) = vp_V (am_df 2) k := by decide +kernel
theorem am_lay3 : ∀ k, k < 2 → am_wd ((am_lp.getD 3 []).getD k 0) (u_lay "LayerVault$Table" am_T3 k) = true := by decide +kernel
theorem am_ty3 : ∀ k, k < 2 → parseFieldDescriptor (am_T3 k).2.2.1 = some (am_tf 3 k) := by decide +kernel
theorem am_nm3 : ∀ a, a < 2 → ∀ b, b < 2 → a ≠ b → (am_T3 a).2.1 ≠ (am_T3 b).2.1 := by decide +kernel
theorem am_dv3 : ∀ k, k < 2 → defaultValue (am_tf 3 k) = vp_V (am_df 3) k := by decide +kernel
theorem am_lay4 : ∀ k, k < 2 → am_wd ((am_lp.getD 4 []).getD k 0) (u_lay "LayerVault$Level" am_T4 k) = true := by decide +kernel
theorem am_ty4 : ∀ k, k < 2 → parseFieldDescriptor (am_T4 k).2.2.1 = some (am_tf 4 k) := by decide +kernel
theorem am_nm4 : ∀ a, a < 2 → ∀ b, b < 2 → a ≠ b → (am_T4 a).2.1 ≠ (am_T4 b).2.1 := by decide +kernel
theorem am_dv4 : ∀ k, k < 2 → defaultValue (am_tf 4 k) = vp_V (am_df 4) k := by decide +kernel
theorem am_lay5 : ∀ k, k < 7 → am_wd ((am_lp.getD 5 []).getD k 0) (u_lay "LayerVault$Log" am_T5 k) = true := by decide +kernel
theorem am_ty5 : ∀ k, k < 7 → parseFieldDescriptor (am_T5 k).2.2.1 = some (am_tf 5 k) := by decide +kernel
theorem am_nm5 : ∀ a, a < 7 → ∀ b, b < 7 → a ≠ b → (am_T5 a).2.1 ≠ (am_T5 b).2.1 := by decide +kernel
theorem am_dv5 : ∀ k, k < 7 → defaultValue (am_tf 5 k) = vp_V (am_df 5) k := by decide +kernel
theorem am_lay6 : ∀ k, k < 1 → am_wd ((am_lp.getD 6 []).getD k 0) (u_lay "LayerVault$Snapshots" am_T6 k) = true := by decide +kernel
theorem am_ty6 : ∀ k, k < 1 → parseFieldDescriptor (am_T6 k).2.2.1 = some (am_tf 6 k) := by decide +kernel
theorem am_nm6 : ∀ a, a < 1 → ∀ b, b < 1 → a ≠ b → (am_T6 a).2.1 ≠ (am_T6 b).2.1 := by decide +kernel
theorem am_dv6 : ∀ k, k < 1 → defaultValue (am_tf 6 k) = vp_V (am_df 6) k := by decide +kernel
theorem am_lay7 : ∀ k, k < 30 → am_wd ((am_lp.getD 7 []).getD k 0) (u_lay "LayerVaultModel" am_T7 k) = true := by decide +kernel
theorem am_ty7 : ∀ k, k < 30 → parseFieldDescriptor (am_T7 k).2.2.1 = some (am_tf 7 k) := by decide +kernel
theorem am_nm7 : ∀ a, a < 30 → ∀ b, b < 30 → a ≠ b → (am_T7 a).2.1 ≠ (am_T7 b).2.1 := by decide +kernel
theorem am_dv7 : ∀ k, k < 30 → defaultValue (am_tf 7 k) = vp_V (am_df 7) k := by decide +kernel
theorem am_lay {x : Nat} {C : String} {T : u_T} {N : Nat} (h : am_cl[x]? = some (C, T, N)) : ∀ w ∈ u_ws C T N, w ∈ am_WS := by
  intro w hw
  obtain ⟨k, hk, rfl⟩ := List.mem_map.mp hw
  have hk := List.mem_range.mp hk
  match x, h with
  | 0, h => cases h; exact am_wd_in (am_lay0 k hk)
  | 1, h => cases h; exact am_wd_in (am_lay1 k hk)
  | 2, h => cases h; exact am_wd_in (am_lay2 k hk)
  | 3, h => cases h; exact am_wd_in (am_lay3 k hk)
  | 4, h => cases h; exact am_wd_in (am_lay4 k hk)
  | 5, h => cases h; exact am_wd_in (am_lay5 k hk)
  | 6, h => cases h; exact am_wd_in (am_lay6 k hk)
  | 7, h => cases h; exact am_wd_in (am_lay7 k hk)
  | n + 8, h => simp at h
theorem am_clok {x : Nat} {C : String} {T : u_T} {N : Nat} (h : am_cl[x]? = some (C, T, N)) : (∀ k, k < N → parseFieldDescriptor (T k).2.2.1 = some (am_tf x k)) ∧ ∀ a, a < N → ∀ b, b < N → a ≠ b → (T a).2.1 ≠ (T b).2.1 := by
  match x, h with
  | 0, h => cases h; exact ⟨am_ty0, am_nm0⟩
  | 1, h => cases h; exact ⟨am_ty1, am_nm1⟩
  | 2, h => cases h; exact ⟨am_ty2, am_nm2⟩
  | 3, h => cases h; exact ⟨am_ty3, am_nm3⟩
  | 4, h => cases h; exact ⟨am_ty4, am_nm4⟩
  | 5, h => cases h; exact ⟨am_ty5, am_nm5⟩
  | 6, h => cases h; exact ⟨am_ty6, am_nm6⟩
  | 7, h => cases h; exact ⟨am_ty7, am_nm7⟩
  | n + 8, h => simp at h
theorem am_dfok {x : Nat} {C : String} {T : u_T} {N : Nat} (h : am_cl[x]? = some (C, T, N)) : ∀ k, k < N → defaultValue (am_tf x k) = vp_V (am_df x) k := by
  match x, h with
  | 0, h => cases h; exact am_dv0
  | 1, h => cases h; exact am_dv1
  | 2, h => cases h; exact am_dv2
  | 3, h => cases h; exact am_dv3
  | 4, h => cases h; exact am_dv4
  | 5, h => cases h; exact am_dv5
  | 6, h => cases h; exact am_dv6
  | 7, h => cases h; exact am_dv7
  | n + 8, h => simp at h
theorem am_ec2 : am_cl[am_ec 2]? = some (am_s2, am_T1, 8) := rfl
theorem am_ec3 : am_cl[am_ec 3]? = some (am_s3, am_T3, 2) := rfl
def am_fw (j idx x y : Nat) (ts : List Nat) : Bool := match am_cl[x]?, ts with
  | some (_, T, N), [0, pw] => decide (y < N) && am_wd pw (.fieldLink (am_y j).cls idx (T y).1 (T y).2.1 (T y).2.2.1)
  | some (_, T, N), [1, pw] => decide (y < N) && (match lw_tbl[pw]? with | some (.fieldLinkNest o i r n d _) => decide (o = (am_y j).cls) && decide (i = idx) && decide (r = (T y).1) && decide (n = (T y).2.1) && decide (d = (T y).2.2.1) | _ => false)
  | _, _ => false
theorem am_fw_spec {j idx x y : Nat} {ts : List Nat} (h : am_fw j idx x y ts = true) : ∃ C T N, am_cl[x]? = some (C, T, N) ∧ y < N ∧ (Cond.fieldLink (am_y j).cls idx (T y).1 (T y).2.1 (T y).2.2.1 ∈ am_WS ∨ ∃ hst, Cond.fieldLinkNest (am_y j).cls idx (T y).1 (T y).2.1 (T y).2.2.1 hst ∈ lw_tbl) := by
  unfold am_fw at h
  split at h
  · rename_i C T N pw hc
    simp only [Bool.and_eq_true, decide_eq_true_eq] at h
    exact ⟨C, T, N, hc, h.1, Or.inl (am_wd_in h.2)⟩
  · rename_i C T N pw hc
    simp only [Bool.and_eq_true, decide_eq_true_eq] at h
    refine ⟨C, T, N, hc, h.1, Or.inr ?_⟩
    have h2 := h.2
    split at h2
    · rename_i o i r n d hst hw
      simp only [Bool.and_eq_true, decide_eq_true_eq] at h2
      obtain ⟨⟨⟨⟨rfl, rfl⟩, rfl⟩, rfl⟩, rfl⟩ := h2
      exact ⟨hst, List.mem_of_getElem? hw⟩
    · cases h2
  · cases h
def am_fp (j x y : Nat) : Bool := match am_cl[x]? with
  | some (_, T, _) => if (T y).2.2.2 = true then decide ((am_y j).name = "<init>") && decide ((T y).1 = (am_y j).cls) else true
  | none => false
def am_mok (x : Nat) : Bool := am_wd (am_pp x 0) (.code (am_y x) (am_by x) (am_mx x) (am_rty x)) && am_wd (am_pp x 1) (.initialized (am_y x).cls) && plainName (am_y x).cls && decide ((am_y x).cls ≠ "java/lang/invoke/MethodHandle") && decide ((am_y x).cls ≠ "java/lang/invoke/VarHandle") && decide (am_mx x ≤ 21)
def am_ml (j idx x : Nat) (ts : List Nat) : Bool := match ts with
  | [0, pw] => am_wd pw (.methodLink (am_y j).cls idx (am_y x))
  | [1, pw] => (match lw_tbl[pw]? with | some (.methodLinkNest o i y _) => decide (o = (am_y j).cls) && decide (i = idx) && decide (y = am_y x) | _ => false)
  | _ => false
theorem am_ml_spec {j idx x : Nat} {ts : List Nat} (h : am_ml j idx x ts = true) : Cond.methodLink (am_y j).cls idx (am_y x) ∈ am_WS ∨ ∃ hst, Cond.methodLinkNest (am_y j).cls idx (am_y x) hst ∈ lw_tbl := by
  unfold am_ml at h
  split at h
  · exact Or.inl (am_wd_in h)
  · split at h
    · rename_i o i y hst hw
      simp only [Bool.and_eq_true, decide_eq_true_eq] at h
      obtain ⟨⟨rfl, rfl⟩, rfl⟩ := h
      exact Or.inr ⟨hst, List.mem_of_getElem? hw⟩
    · cases h
  · cases h
def am_np (x : Nat) : Option Nat := (parseMethodDescriptor (am_y x).desc).map (fun d => d.parameters.length)
def am_vb (j pc : Nat) (q : am_I) : Bool := match q with
  | (i, l, x, y, c, ts) => match i with
    | .iconst n => decide (l = 1) && decide (Int32.ofInt n = c)
    | .bipush n => decide (l = 2) && decide ((Int8.ofInt n).toInt32 = c)
    | .sipush n => decide (l = 3) && decide ((Int16.ofInt n).toInt32 = c)
    | .iload_n k => decide (l = 1) && decide ((k : Nat) = x)
    | .iload k => decide (l = 2) && decide (k = x)
    | .aload_n k => decide (l = 1) && decide ((k : Nat) = x)
    | .aload k => decide (l = 2) && decide (k = x)
    | .istore_n k => decide (l = 1) && decide ((k : Nat) = x)
    | .istore k => decide (l = 2) && decide (k = x)
    | .astore_n k => decide (l = 1) && decide ((k : Nat) = x)
    | .astore k => decide (l = 2) && decide (k = x)
    | .iinc k n => decide (l = 3) && decide (k = x) && decide (Int32.ofInt n = c)
    | .iadd => decide (l = 1)
    | .isub => decide (l = 1)
    | .imul => decide (l = 1)
    | .iand => decide (l = 1)
    | .ior => decide (l = 1)
    | .ishl => decide (l = 1)
    | .ishr => decide (l = 1)
    | .idiv => decide (l = 1)
    | .irem => decide (l = 1)
    | .dup => decide (l = 1)
    | .pop => decide (l = 1)
    | .dup_x1 => decide (l = 1)
    | .dup_x2 => decide (l = 1)
    | .dup2 => decide (l = 1)
    | .ifCond _ o => decide (l = 3) && decide ((pc : Int) + o = (x : Int))
    | .if_icmp _ o => decide (l = 3) && decide ((pc : Int) + o = (x : Int))
    | .if_acmp _ o => decide (l = 3) && decide ((pc : Int) + o = (x : Int))
    | .goto o => decide (l = 3) && decide ((pc : Int) + o = (x : Int))
    | .tableswitch dd a b offs => decide (a = 0) && decide (b = (ts.length : Int) - 1) && decide ((pc : Int) + dd = (x : Int)) && (List.range ts.length).all (fun k => decide (offs[k]? = some ((am_tn ts k x : Int) - (pc : Int))))
    | .getfield k => decide (l = 3) && am_fw j k x y ts
    | .putfield k => decide (l = 3) && am_fw j k x y ts && am_fp j x y
    | .iaload => decide (l = 1)
    | .baload => decide (l = 1)
    | .aaload => decide (l = 1)
    | .iastore => decide (l = 1)
    | .bastore => decide (l = 1)
    | .aastore => decide (l = 1)
    | .arraylength => decide (l = 1)
    | .new k => decide (l = 3) && (match am_cl[x]?, ts with | some (C, _, N), [p1, p2, p3] => decide (y = N) && am_wd p1 (.classLink (am_y j).cls k C) && am_wd p2 (.instantiable C N) && am_wd p3 (.initialized C) | _, _ => false)
    | .newarray t => decide (l = 2) && (match ts with | [p1] => am_wd p1 (.arrayClass (newarray.typeOf t)) | _ => false) && ((decide (newarray.typeOf t = .int) && decide (x = 0)) || (decide (newarray.typeOf t = .boolean) && decide (x = 1)))
    | .anewarray k => decide (l = 3) && (match ts with | [p1] => (decide (x = 2) && am_wd p1 (.classLink (am_y j).cls k am_s2)) || (decide (x = 3) && am_wd p1 (.classLink (am_y j).cls k am_s3)) | _ => false)
    | .invokevirtual k => decide (l = 3) && am_mok x && am_ml j k x ts && decide ((am_np x).map (· + 1) = some y) && decide (y ≤ am_mx x) && decide (am_cl[am_kl x]?.map (fun q => q.1) = some (am_y x).cls) && am_wd (am_pp x 2) (.instanceMethod (am_y x)) && am_wd (am_pp x 3) (.selects (am_y x).cls (am_y x) (am_y x))
    | .invokestatic k => decide (l = 3) && (if y = 90 then (match ts with | [p1, p2, p3, p4] => am_wd p1 (.methodLink (am_y j).cls k Lib.Math.max.name) && am_wd p2 (.static Lib.Math.max.name) && am_wd p3 (.initialized "java/lang/Math") && am_wd p4 (.code Lib.Math.max.name Lib.Math.max.code 2 (some .int)) | _ => false)
        else if y = 91 then (match ts with | [p1, p2, p3, p4] => am_wd p1 (.methodLink (am_y j).cls k Lib.Math.min.name) && am_wd p2 (.static Lib.Math.min.name) && am_wd p3 (.initialized "java/lang/Math") && am_wd p4 (.code Lib.Math.min.name Lib.Math.min.code 2 (some .int)) | _ => false)
        else if y = 92 then (match ts with | [p1, p2, p3, p4] => am_wd p1 (.methodLink (am_y j).cls k arraycopyName) && am_wd p2 (.native arraycopyName) && am_wd p3 (.static arraycopyName) && am_wd p4 (.initialized "java/lang/System") | _ => false)
        else am_mok x && am_ml j k x ts && decide (am_np x = some y) && decide (y ≤ am_mx x) && am_wd (am_pp x 2) (.static (am_y x)))
    | .invokespecial k => decide (l = 3) && (if y = 99 then (match ts with | [p1, p2, p3] => am_wd p1 (.methodLink (am_y j).cls k objectInit) && am_wd p2 (.instanceMethod objectInit) && am_wd p3 (.code objectInit ⟨#[0xb1]⟩ 1 none) | _ => false)
        else am_mok x && am_ml j k x ts && decide ((am_np x).map (· + 1) = some y) && decide (y ≤ am_mx x) && decide ((am_y x).name = "<init>") && decide (am_rty x = none) && am_wd (am_pp x 2) (.instanceMethod (am_y x)))
    | .ireturn => decide (l = 1)
    | .areturn => decide (l = 1)
    | .return_ => decide (l = 1)
    | _ => false
end
section
def am_ck (j : Nat) (e : Nat × am_I) : Bool := decide (decode (am_by j) e.1 = .ok (e.2.1, e.2.2.1)) && am_vb j e.1 e.2
theorem am_all_split {j : Nat} {t : List (Nat × am_I)} (n : Nat) (h1 : (t.take n).all (am_ck j) = true) (h2 : (t.drop n).all (am_ck j) = true) : t.all (am_ck j) = true := by
  rw [← List.take_append_drop n t, List.all_append, h1, h2]; rfl
set_option maxRecDepth 100000 in
theorem am_v0_0 : ((am_t0.drop 0).take 60).all (am_ck 0) = true := by decide +kernel
set_option maxRecDepth 100000 in
theorem am_v0_60 : ((am_t0.drop 60).take 60).all (am_ck 0) = true := by decide +kernel
set_option maxRecDepth 100000 in
theorem am_v1_0 : ((am_t1.drop 0).take 60).all (am_ck 1) = true := by decide +kernel
set_option maxRecDepth 100000 in
theorem am_v2_0 : ((am_t2.drop 0).take 60).all (am_ck 2) = true := by decide +kernel
set_option maxRecDepth 100000 in
theorem am_v3_0 : ((am_t3.drop 0).take 60).all (am_ck 3) = true := by decide +kernel
set_option maxRecDepth 100000 in
theorem am_v4_0 : ((am_t4.drop 0).take 60).all (am_ck 4) = true := by decide +kernel
set_option maxRecDepth 100000 in
theorem am_v5_0 : ((am_t5.drop 0).take 60).all (am_ck 5) = true := by decide +kernel
set_option maxRecDepth 100000 in
theorem am_v6_0 : ((am_t6.drop 0).take 60).all (am_ck 6) = true := by decide +kernel
set_option maxRecDepth 100000 in
theorem am_v7_0 : ((am_t7.drop 0).take 60).all (am_ck 7) = true := by decide +kernel
set_option maxRecDepth 100000 in
theorem am_v8_0 : ((am_t8.drop 0).take 60).all (am_ck 8) = true := by decide +kernel
set_option maxRecDepth 100000 in
theorem am_v9_0 : ((am_t9.drop 0).take 60).all (am_ck 9) = true := by decide +kernel
set_option maxRecDepth 100000 in
theorem am_v10_0 : ((am_t10.drop 0).take 60).all (am_ck 10) = true := by decide +kernel
set_option maxRecDepth 100000 in
theorem am_v11_0 : ((am_t11.drop 0).take 60).all (am_ck 11) = true := by decide +kernel
set_option maxRecDepth 100000 in
theorem am_v12_0 : ((am_t12.drop 0).take 60).all (am_ck 12) = true := by decide +kernel
set_option maxRecDepth 100000 in
theorem am_v13_0 : ((am_t13.drop 0).take 60).all (am_ck 13) = true := by decide +kernel
set_option maxRecDepth 100000 in
theorem am_v14_0 : ((am_t14.drop 0).take 60).all (am_ck 14) = true := by decide +kernel
set_option maxRecDepth 100000 in
theorem am_v15_0 : ((am_t15.drop 0).take 60).all (am_ck 15) = true := by decide +kernel
set_option maxRecDepth 100000 in
theorem am_v16_0 : ((am_t16.drop 0).take 60).all (am_ck 16) = true := by decide +kernel
set_option maxRecDepth 100000 in
theorem am_v17_0 : ((am_t17.drop 0).take 60).all (am_ck 17) = true := by decide +kernel
set_option maxRecDepth 100000 in
theorem am_v18_0 : ((am_t18.drop 0).take 60).all (am_ck 18) = true := by decide +kernel
set_option maxRecDepth 100000 in
theorem am_v19_0 : ((am_t19.drop 0).take 60).all (am_ck 19) = true := by decide +kernel
set_option maxRecDepth 100000 in
theorem am_v20_0 : ((am_t20.drop 0).take 60).all (am_ck 20) = true := by decide +kernel
set_option maxRecDepth 100000 in
theorem am_v21_0 : ((am_t21.drop 0).take 60).all (am_ck 21) = true := by decide +kernel
set_option maxRecDepth 100000 in
theorem am_v22_0 : ((am_t22.drop 0).take 60).all (am_ck 22) = true := by decide +kernel
set_option maxRecDepth 100000 in
theorem am_v23_0 : ((am_t23.drop 0).take 60).all (am_ck 23) = true := by decide +kernel
set_option maxRecDepth 100000 in
theorem am_v24_0 : ((am_t24.drop 0).take 60).all (am_ck 24) = true := by decide +kernel
set_option maxRecDepth 100000 in
theorem am_v25_0 : ((am_t25.drop 0).take 60).all (am_ck 25) = true := by decide +kernel
set_option maxRecDepth 100000 in
theorem am_v26_0 : ((am_t26.drop 0).take 60).all (am_ck 26) = true := by decide +kernel
set_option maxRecDepth 100000 in
theorem am_v27_0 : ((am_t27.drop 0).take 60).all (am_ck 27) = true := by decide +kernel
set_option maxRecDepth 100000 in
theorem am_v28_0 : ((am_t28.drop 0).take 60).all (am_ck 28) = true := by decide +kernel
set_option maxRecDepth 100000 in
theorem am_v29_0 : ((am_t29.drop 0).take 60).all (am_ck 29) = true := by decide +kernel
set_option maxRecDepth 100000 in
theorem am_v30_0 : ((am_t30.drop 0).take 60).all (am_ck 30) = true := by decide +kernel
set_option maxRecDepth 100000 in
theorem am_v30_60 : ((am_t30.drop 60).take 60).all (am_ck 30) = true := by decide +kernel
set_option maxRecDepth 100000 in
theorem am_v31_0 : ((am_t31.drop 0).take 60).all (am_ck 31) = true := by decide +kernel
set_option maxRecDepth 100000 in
theorem am_v32_0 : ((am_t32.drop 0).take 60).all (am_ck 32) = true := by decide +kernel
set_option maxRecDepth 100000 in
theorem am_v33_0 : ((am_t33.drop 0).take 60).all (am_ck 33) = true := by decide +kernel
set_option maxRecDepth 100000 in
theorem am_v34_0 : ((am_t34.drop 0).take 60).all (am_ck 34) = true := by decide +kernel
set_option maxRecDepth 100000 in
theorem am_v35_0 : ((am_t35.drop 0).take 60).all (am_ck 35) = true := by decide +kernel
set_option maxRecDepth 100000 in
theorem am_v36_0 : ((am_t36.drop 0).take 60).all (am_ck 36) = true := by decide +kernel
set_option maxRecDepth 100000 in
theorem am_v37_0 : ((am_t37.drop 0).take 60).all (am_ck 37) = true := by decide +kernel
set_option maxRecDepth 100000 in
theorem am_v38_0 : ((am_t38.drop 0).take 60).all (am_ck 38) = true := by decide +kernel
set_option maxRecDepth 100000 in
theorem am_v39_0 : ((am_t39.drop 0).take 60).all (am_ck 39) = true := by decide +kernel
set_option maxRecDepth 100000 in
theorem am_v40_0 : ((am_t40.drop 0).take 60).all (am_ck 40) = true := by decide +kernel
set_option maxRecDepth 100000 in
theorem am_v41_0 : ((am_t41.drop 0).take 60).all (am_ck 41) = true := by decide +kernel
set_option maxRecDepth 100000 in
theorem am_v42_0 : ((am_t42.drop 0).take 60).all (am_ck 42) = true := by decide +kernel
set_option maxRecDepth 100000 in
theorem am_v43_0 : ((am_t43.drop 0).take 60).all (am_ck 43) = true := by decide +kernel
set_option maxRecDepth 100000 in
theorem am_v44_0 : ((am_t44.drop 0).take 60).all (am_ck 44) = true := by decide +kernel
set_option maxRecDepth 100000 in
theorem am_v45_0 : ((am_t45.drop 0).take 60).all (am_ck 45) = true := by decide +kernel
set_option maxRecDepth 100000 in
theorem am_v46_0 : ((am_t46.drop 0).take 60).all (am_ck 46) = true := by decide +kernel
set_option maxRecDepth 100000 in
theorem am_v47_0 : ((am_t47.drop 0).take 60).all (am_ck 47) = true := by decide +kernel
set_option maxRecDepth 100000 in
theorem am_v48_0 : ((am_t48.drop 0).take 60).all (am_ck 48) = true := by decide +kernel
set_option maxRecDepth 100000 in
theorem am_v49_0 : ((am_t49.drop 0).take 60).all (am_ck 49) = true := by decide +kernel
set_option maxRecDepth 100000 in
theorem am_v50_0 : ((am_t50.drop 0).take 60).all (am_ck 50) = true := by decide +kernel
set_option maxRecDepth 100000 in
theorem am_v51_0 : ((am_t51.drop 0).take 60).all (am_ck 51) = true := by decide +kernel
set_option maxRecDepth 100000 in
theorem am_v52_0 : ((am_t52.drop 0).take 60).all (am_ck 52) = true := by decide +kernel
set_option maxRecDepth 100000 in
theorem am_v53_0 : ((am_t53.drop 0).take 60).all (am_ck 53) = true := by decide +kernel
set_option maxRecDepth 100000 in
theorem am_v54_0 : ((am_t54.drop 0).take 60).all (am_ck 54) = true := by decide +kernel
set_option maxRecDepth 100000 in
theorem am_v55_0 : ((am_t55.drop 0).take 60).all (am_ck 55) = true := by decide +kernel
set_option maxRecDepth 100000 in
theorem am_v56_0 : ((am_t56.drop 0).take 60).all (am_ck 56) = true := by decide +kernel
set_option maxRecDepth 100000 in
theorem am_v57_0 : ((am_t57.drop 0).take 60).all (am_ck 57) = true := by decide +kernel
set_option maxRecDepth 100000 in
theorem am_v58_0 : ((am_t58.drop 0).take 60).all (am_ck 58) = true := by decide +kernel
set_option maxRecDepth 100000 in
theorem am_v59_0 : ((am_t59.drop 0).take 60).all (am_ck 59) = true := by decide +kernel
set_option maxRecDepth 100000 in
theorem am_v60_0 : ((am_t60.drop 0).take 60).all (am_ck 60) = true := by decide +kernel
set_option maxRecDepth 100000 in
theorem am_v61_0 : ((am_t61.drop 0).take 60).all (am_ck 61) = true := by decide +kernel
set_option maxRecDepth 100000 in
theorem am_v62_0 : ((am_t62.drop 0).take 60).all (am_ck 62) = true := by decide +kernel
set_option maxRecDepth 100000 in
theorem am_v63_0 : ((am_t63.drop 0).take 60).all (am_ck 63) = true := by decide +kernel
set_option maxRecDepth 100000 in
theorem am_v64_0 : ((am_t64.drop 0).take 60).all (am_ck 64) = true := by decide +kernel
set_option maxRecDepth 100000 in
theorem am_v65_0 : ((am_t65.drop 0).take 60).all (am_ck 65) = true := by decide +kernel
set_option maxRecDepth 100000 in
theorem am_v66_0 : ((am_t66.drop 0).take 60).all (am_ck 66) = true := by decide +kernel
set_option maxRecDepth 100000 in
theorem am_v67_0 : ((am_t67.drop 0).take 60).all (am_ck 67) = true := by decide +kernel
set_option maxRecDepth 100000 in
theorem am_v68_0 : ((am_t68.drop 0).take 60).all (am_ck 68) = true := by decide +kernel
set_option maxRecDepth 100000 in
theorem am_v69_0 : ((am_t69.drop 0).take 60).all (am_ck 69) = true := by decide +kernel
set_option maxRecDepth 100000 in
theorem am_v70_0 : ((am_t70.drop 0).take 60).all (am_ck 70) = true := by decide +kernel
set_option maxRecDepth 100000 in
theorem am_v71_0 : ((am_t71.drop 0).take 60).all (am_ck 71) = true := by decide +kernel
set_option maxRecDepth 100000 in
theorem am_v72_0 : ((am_t72.drop 0).take 60).all (am_ck 72) = true := by decide +kernel
set_option maxRecDepth 100000 in
theorem am_v73_0 : ((am_t73.drop 0).take 60).all (am_ck 73) = true := by decide +kernel
set_option maxRecDepth 100000 in
theorem am_v74_0 : ((am_t74.drop 0).take 60).all (am_ck 74) = true := by decide +kernel
set_option maxRecDepth 100000 in
theorem am_v75_0 : ((am_t75.drop 0).take 60).all (am_ck 75) = true := by decide +kernel
set_option maxRecDepth 100000 in
theorem am_v76_0 : ((am_t76.drop 0).take 60).all (am_ck 76) = true := by decide +kernel
set_option maxRecDepth 100000 in
theorem am_v77_0 : ((am_t77.drop 0).take 60).all (am_ck 77) = true := by decide +kernel
set_option maxRecDepth 100000 in
theorem am_v78_0 : ((am_t78.drop 0).take 60).all (am_ck 78) = true := by decide +kernel
set_option maxRecDepth 100000 in
theorem am_v79_0 : ((am_t79.drop 0).take 60).all (am_ck 79) = true := by decide +kernel
set_option maxRecDepth 100000 in
theorem am_v80_0 : ((am_t80.drop 0).take 60).all (am_ck 80) = true := by decide +kernel
set_option maxRecDepth 100000 in
theorem am_v81_0 : ((am_t81.drop 0).take 60).all (am_ck 81) = true := by decide +kernel
set_option maxRecDepth 100000 in
theorem am_v82_0 : ((am_t82.drop 0).take 60).all (am_ck 82) = true := by decide +kernel
set_option maxRecDepth 100000 in
theorem am_v83_0 : ((am_t83.drop 0).take 60).all (am_ck 83) = true := by decide +kernel
set_option maxRecDepth 100000 in
theorem am_v84_0 : ((am_t84.drop 0).take 60).all (am_ck 84) = true := by decide +kernel
set_option maxRecDepth 100000 in
theorem am_v85_0 : ((am_t85.drop 0).take 60).all (am_ck 85) = true := by decide +kernel
set_option maxRecDepth 100000 in
theorem am_v86_0 : ((am_t86.drop 0).take 60).all (am_ck 86) = true := by decide +kernel
set_option maxRecDepth 100000 in
theorem am_v87_0 : ((am_t87.drop 0).take 60).all (am_ck 87) = true := by decide +kernel
set_option maxRecDepth 100000 in
theorem am_v88_0 : ((am_t88.drop 0).take 60).all (am_ck 88) = true := by decide +kernel
set_option maxRecDepth 100000 in
theorem am_v89_0 : ((am_t89.drop 0).take 60).all (am_ck 89) = true := by decide +kernel
set_option maxRecDepth 100000 in
theorem am_v90_0 : ((am_t90.drop 0).take 60).all (am_ck 90) = true := by decide +kernel
set_option maxRecDepth 100000 in
theorem am_v91_0 : ((am_t91.drop 0).take 60).all (am_ck 91) = true := by decide +kernel
set_option maxRecDepth 100000 in
theorem am_v92_0 : ((am_t92.drop 0).take 60).all (am_ck 92) = true := by decide +kernel
set_option maxRecDepth 100000 in
theorem am_v93_0 : ((am_t93.drop 0).take 60).all (am_ck 93) = true := by decide +kernel
set_option maxRecDepth 100000 in
theorem am_v93_60 : ((am_t93.drop 60).take 60).all (am_ck 93) = true := by decide +kernel
set_option maxRecDepth 100000 in
theorem am_v94_0 : ((am_t94.drop 0).take 60).all (am_ck 94) = true := by decide +kernel
set_option maxRecDepth 100000 in
theorem am_v95_0 : ((am_t95.drop 0).take 60).all (am_ck 95) = true := by decide +kernel
set_option maxRecDepth 100000 in
theorem am_v96_0 : ((am_t96.drop 0).take 60).all (am_ck 96) = true := by decide +kernel
set_option maxRecDepth 100000 in
theorem am_v97_0 : ((am_t97.drop 0).take 60).all (am_ck 97) = true := by decide +kernel
set_option maxRecDepth 100000 in
theorem am_v98_0 : ((am_t98.drop 0).take 60).all (am_ck 98) = true := by decide +kernel
set_option maxRecDepth 100000 in
theorem am_v98_60 : ((am_t98.drop 60).take 60).all (am_ck 98) = true := by decide +kernel
set_option maxRecDepth 100000 in
theorem am_v98_120 : ((am_t98.drop 120).take 60).all (am_ck 98) = true := by decide +kernel
set_option maxRecDepth 100000 in
theorem am_v99_0 : ((am_t99.drop 0).take 60).all (am_ck 99) = true := by decide +kernel
set_option maxRecDepth 100000 in
theorem am_v100_0 : ((am_t100.drop 0).take 60).all (am_ck 100) = true := by decide +kernel
set_option maxRecDepth 100000 in
theorem am_v101_0 : ((am_t101.drop 0).take 60).all (am_ck 101) = true := by decide +kernel
set_option maxRecDepth 100000 in
theorem am_v101_60 : ((am_t101.drop 60).take 60).all (am_ck 101) = true := by decide +kernel
set_option maxRecDepth 100000 in
theorem am_v102_0 : ((am_t102.drop 0).take 60).all (am_ck 102) = true := by decide +kernel
set_option maxRecDepth 100000 in
theorem am_v103_0 : ((am_t103.drop 0).take 60).all (am_ck 103) = true := by decide +kernel
set_option maxRecDepth 100000 in
theorem am_v104_0 : ((am_t104.drop 0).take 60).all (am_ck 104) = true := by decide +kernel
set_option maxRecDepth 100000 in
theorem am_v104_60 : ((am_t104.drop 60).take 60).all (am_ck 104) = true := by decide +kernel
set_option maxRecDepth 100000 in
theorem am_v104_120 : ((am_t104.drop 120).take 60).all (am_ck 104) = true := by decide +kernel
set_option maxRecDepth 100000 in
theorem am_v105_0 : ((am_t105.drop 0).take 60).all (am_ck 105) = true := by decide +kernel
set_option maxRecDepth 100000 in
theorem am_v106_0 : ((am_t106.drop 0).take 60).all (am_ck 106) = true := by decide +kernel
set_option maxRecDepth 100000 in
theorem am_v107_0 : ((am_t107.drop 0).take 60).all (am_ck 107) = true := by decide +kernel
set_option maxRecDepth 100000 in
theorem am_v108_0 : ((am_t108.drop 0).take 60).all (am_ck 108) = true := by decide +kernel
set_option maxRecDepth 100000 in
theorem am_v109_0 : ((am_t109.drop 0).take 60).all (am_ck 109) = true := by decide +kernel
set_option maxRecDepth 100000 in
theorem am_v110_0 : ((am_t110.drop 0).take 60).all (am_ck 110) = true := by decide +kernel
set_option maxRecDepth 100000 in
theorem am_v111_0 : ((am_t111.drop 0).take 60).all (am_ck 111) = true := by decide +kernel
set_option maxRecDepth 100000 in
theorem am_v112_0 : ((am_t112.drop 0).take 60).all (am_ck 112) = true := by decide +kernel
set_option maxRecDepth 100000 in
theorem am_v113_0 : ((am_t113.drop 0).take 60).all (am_ck 113) = true := by decide +kernel
set_option maxRecDepth 100000 in
theorem am_v114_0 : ((am_t114.drop 0).take 60).all (am_ck 114) = true := by decide +kernel
set_option maxRecDepth 100000 in
theorem am_v115_0 : ((am_t115.drop 0).take 60).all (am_ck 115) = true := by decide +kernel
set_option maxRecDepth 100000 in
theorem am_v116_0 : ((am_t116.drop 0).take 60).all (am_ck 116) = true := by decide +kernel
set_option maxRecDepth 100000 in
theorem am_v116_60 : ((am_t116.drop 60).take 60).all (am_ck 116) = true := by decide +kernel
set_option maxRecDepth 100000 in
theorem am_v117_0 : ((am_t117.drop 0).take 60).all (am_ck 117) = true := by decide +kernel
set_option maxRecDepth 100000 in
theorem am_v118_0 : ((am_t118.drop 0).take 60).all (am_ck 118) = true := by decide +kernel
set_option maxRecDepth 100000 in
theorem am_v119_0 : ((am_t119.drop 0).take 60).all (am_ck 119) = true := by decide +kernel
set_option maxRecDepth 100000 in
theorem am_v120_0 : ((am_t120.drop 0).take 60).all (am_ck 120) = true := by decide +kernel
set_option maxRecDepth 100000 in
theorem am_v121_0 : ((am_t121.drop 0).take 60).all (am_ck 121) = true := by decide +kernel
set_option maxRecDepth 100000 in
theorem am_v122_0 : ((am_t122.drop 0).take 60).all (am_ck 122) = true := by decide +kernel
set_option maxRecDepth 100000 in
theorem am_v123_0 : ((am_t123.drop 0).take 60).all (am_ck 123) = true := by decide +kernel
set_option maxRecDepth 100000 in
theorem am_v124_0 : ((am_t124.drop 0).take 60).all (am_ck 124) = true := by decide +kernel
set_option maxRecDepth 100000 in
theorem am_v124_60 : ((am_t124.drop 60).take 60).all (am_ck 124) = true := by decide +kernel
set_option maxRecDepth 100000 in
theorem am_v125_0 : ((am_t125.drop 0).take 60).all (am_ck 125) = true := by decide +kernel
set_option maxRecDepth 100000 in
theorem am_v126_0 : ((am_t126.drop 0).take 60).all (am_ck 126) = true := by decide +kernel
set_option maxRecDepth 100000 in
theorem am_v127_0 : ((am_t127.drop 0).take 60).all (am_ck 127) = true := by decide +kernel
set_option maxRecDepth 100000 in
theorem am_v128_0 : ((am_t128.drop 0).take 60).all (am_ck 128) = true := by decide +kernel
set_option maxRecDepth 100000 in
theorem am_v129_0 : ((am_t129.drop 0).take 60).all (am_ck 129) = true := by decide +kernel
set_option maxRecDepth 100000 in
theorem am_v130_0 : ((am_t130.drop 0).take 60).all (am_ck 130) = true := by decide +kernel
set_option maxRecDepth 100000 in
theorem am_v131_0 : ((am_t131.drop 0).take 60).all (am_ck 131) = true := by decide +kernel
set_option maxRecDepth 100000 in
theorem am_v132_0 : ((am_t132.drop 0).take 60).all (am_ck 132) = true := by decide +kernel
set_option maxRecDepth 100000 in
theorem am_v133_0 : ((am_t133.drop 0).take 60).all (am_ck 133) = true := by decide +kernel
set_option maxRecDepth 100000 in
theorem am_v134_0 : ((am_t134.drop 0).take 60).all (am_ck 134) = true := by decide +kernel
set_option maxRecDepth 100000 in
theorem am_v135_0 : ((am_t135.drop 0).take 60).all (am_ck 135) = true := by decide +kernel
set_option maxRecDepth 100000 in
theorem am_v136_0 : ((am_t136.drop 0).take 60).all (am_ck 136) = true := by decide +kernel
set_option maxRecDepth 100000 in
theorem am_v137_0 : ((am_t137.drop 0).take 60).all (am_ck 137) = true := by decide +kernel
set_option maxRecDepth 100000 in
theorem am_v138_0 : ((am_t138.drop 0).take 60).all (am_ck 138) = true := by decide +kernel
set_option maxRecDepth 100000 in
theorem am_v139_0 : ((am_t139.drop 0).take 60).all (am_ck 139) = true := by decide +kernel
set_option maxRecDepth 100000 in
theorem am_v140_0 : ((am_t140.drop 0).take 60).all (am_ck 140) = true := by decide +kernel
set_option maxRecDepth 100000 in
theorem am_v140_60 : ((am_t140.drop 60).take 60).all (am_ck 140) = true := by decide +kernel
set_option maxRecDepth 100000 in
theorem am_v141_0 : ((am_t141.drop 0).take 60).all (am_ck 141) = true := by decide +kernel
set_option maxRecDepth 100000 in
theorem am_v142_0 : ((am_t142.drop 0).take 60).all (am_ck 142) = true := by decide +kernel
set_option maxRecDepth 100000 in
theorem am_v143_0 : ((am_t143.drop 0).take 60).all (am_ck 143) = true := by decide +kernel
set_option maxRecDepth 100000 in
theorem am_v143_60 : ((am_t143.drop 60).take 60).all (am_ck 143) = true := by decide +kernel
set_option maxRecDepth 100000 in
theorem am_v143_120 : ((am_t143.drop 120).take 60).all (am_ck 143) = true := by decide +kernel
set_option maxRecDepth 100000 in
theorem am_v143_180 : ((am_t143.drop 180).take 60).all (am_ck 143) = true := by decide +kernel
set_option maxRecDepth 100000 in
theorem am_v143_240 : ((am_t143.drop 240).take 60).all (am_ck 143) = true := by decide +kernel
set_option maxRecDepth 100000 in
theorem am_v143_300 : ((am_t143.drop 300).take 60).all (am_ck 143) = true := by decide +kernel
set_option maxRecDepth 100000 in
theorem am_v143_360 : ((am_t143.drop 360).take 60).all (am_ck 143) = true := by decide +kernel
set_option maxRecDepth 100000 in
theorem am_v0 : am_t0.all (am_ck 0) = true := by
  have h60 : (am_t0.drop 60).all (am_ck 0) = true := by
    have h := am_v0_60
    rw [List.take_of_length_le (by decide +kernel)] at h
    exact h
  have h0 : (am_t0.drop 0).all (am_ck 0) = true := am_all_split 60 am_v0_0 (by rw [List.drop_drop]; exact h60)
  rw [List.drop_zero] at h0
  exact h0
set_option maxRecDepth 100000 in
theorem am_v1 : am_t1.all (am_ck 1) = true := by
  have h := am_v1_0
  rw [List.drop_zero, List.take_of_length_le (by decide +kernel)] at h
  exact h
set_option maxRecDepth 100000 in
theorem am_v2 : am_t2.all (am_ck 2) = true := by
  have h := am_v2_0
  rw [List.drop_zero, List.take_of_length_le (by decide +kernel)] at h
  exact h
set_option maxRecDepth 100000 in
theorem am_v3 : am_t3.all (am_ck 3) = true := by
  have h := am_v3_0
  rw [List.drop_zero, List.take_of_length_le (by decide +kernel)] at h
  exact h
set_option maxRecDepth 100000 in
theorem am_v4 : am_t4.all (am_ck 4) = true := by
  have h := am_v4_0
  rw [List.drop_zero, List.take_of_length_le (by decide +kernel)] at h
  exact h
set_option maxRecDepth 100000 in
theorem am_v5 : am_t5.all (am_ck 5) = true := by
  have h := am_v5_0
  rw [List.drop_zero, List.take_of_length_le (by decide +kernel)] at h
  exact h
set_option maxRecDepth 100000 in
theorem am_v6 : am_t6.all (am_ck 6) = true := by
  have h := am_v6_0
  rw [List.drop_zero, List.take_of_length_le (by decide +kernel)] at h
  exact h
set_option maxRecDepth 100000 in
theorem am_v7 : am_t7.all (am_ck 7) = true := by
  have h := am_v7_0
  rw [List.drop_zero, List.take_of_length_le (by decide +kernel)] at h
  exact h
set_option maxRecDepth 100000 in
theorem am_v8 : am_t8.all (am_ck 8) = true := by
  have h := am_v8_0
  rw [List.drop_zero, List.take_of_length_le (by decide +kernel)] at h
  exact h
set_option maxRecDepth 100000 in
theorem am_v9 : am_t9.all (am_ck 9) = true := by
  have h := am_v9_0
  rw [List.drop_zero, List.take_of_length_le (by decide +kernel)] at h
  exact h
set_option maxRecDepth 100000 in
theorem am_v10 : am_t10.all (am_ck 10) = true := by
  have h := am_v10_0
  rw [List.drop_zero, List.take_of_length_le (by decide +kernel)] at h
  exact h
set_option maxRecDepth 100000 in
theorem am_v11 : am_t11.all (am_ck 11) = true := by
  have h := am_v11_0
  rw [List.drop_zero, List.take_of_length_le (by decide +kernel)] at h
  exact h
set_option maxRecDepth 100000 in
theorem am_v12 : am_t12.all (am_ck 12) = true := by
  have h := am_v12_0
  rw [List.drop_zero, List.take_of_length_le (by decide +kernel)] at h
  exact h
set_option maxRecDepth 100000 in
theorem am_v13 : am_t13.all (am_ck 13) = true := by
  have h := am_v13_0
  rw [List.drop_zero, List.take_of_length_le (by decide +kernel)] at h
  exact h
set_option maxRecDepth 100000 in
theorem am_v14 : am_t14.all (am_ck 14) = true := by
  have h := am_v14_0
  rw [List.drop_zero, List.take_of_length_le (by decide +kernel)] at h
  exact h
set_option maxRecDepth 100000 in
theorem am_v15 : am_t15.all (am_ck 15) = true := by
  have h := am_v15_0
  rw [List.drop_zero, List.take_of_length_le (by decide +kernel)] at h
  exact h
set_option maxRecDepth 100000 in
theorem am_v16 : am_t16.all (am_ck 16) = true := by
  have h := am_v16_0
  rw [List.drop_zero, List.take_of_length_le (by decide +kernel)] at h
  exact h
set_option maxRecDepth 100000 in
theorem am_v17 : am_t17.all (am_ck 17) = true := by
  have h := am_v17_0
  rw [List.drop_zero, List.take_of_length_le (by decide +kernel)] at h
  exact h
set_option maxRecDepth 100000 in
theorem am_v18 : am_t18.all (am_ck 18) = true := by
  have h := am_v18_0
  rw [List.drop_zero, List.take_of_length_le (by decide +kernel)] at h
  exact h
set_option maxRecDepth 100000 in
theorem am_v19 : am_t19.all (am_ck 19) = true := by
  have h := am_v19_0
  rw [List.drop_zero, List.take_of_length_le (by decide +kernel)] at h
  exact h
set_option maxRecDepth 100000 in
theorem am_v20 : am_t20.all (am_ck 20) = true := by
  have h := am_v20_0
  rw [List.drop_zero, List.take_of_length_le (by decide +kernel)] at h
  exact h
set_option maxRecDepth 100000 in
theorem am_v21 : am_t21.all (am_ck 21) = true := by
  have h := am_v21_0
  rw [List.drop_zero, List.take_of_length_le (by decide +kernel)] at h
  exact h
set_option maxRecDepth 100000 in
theorem am_v22 : am_t22.all (am_ck 22) = true := by
  have h := am_v22_0
  rw [List.drop_zero, List.take_of_length_le (by decide +kernel)] at h
  exact h
set_option maxRecDepth 100000 in
theorem am_v23 : am_t23.all (am_ck 23) = true := by
  have h := am_v23_0
  rw [List.drop_zero, List.take_of_length_le (by decide +kernel)] at h
  exact h
set_option maxRecDepth 100000 in
theorem am_v24 : am_t24.all (am_ck 24) = true := by
  have h := am_v24_0
  rw [List.drop_zero, List.take_of_length_le (by decide +kernel)] at h
  exact h
set_option maxRecDepth 100000 in
theorem am_v25 : am_t25.all (am_ck 25) = true := by
  have h := am_v25_0
  rw [List.drop_zero, List.take_of_length_le (by decide +kernel)] at h
  exact h
set_option maxRecDepth 100000 in
theorem am_v26 : am_t26.all (am_ck 26) = true := by
  have h := am_v26_0
  rw [List.drop_zero, List.take_of_length_le (by decide +kernel)] at h
  exact h
set_option maxRecDepth 100000 in
theorem am_v27 : am_t27.all (am_ck 27) = true := by
  have h := am_v27_0
  rw [List.drop_zero, List.take_of_length_le (by decide +kernel)] at h
  exact h
set_option maxRecDepth 100000 in
theorem am_v28 : am_t28.all (am_ck 28) = true := by
  have h := am_v28_0
  rw [List.drop_zero, List.take_of_length_le (by decide +kernel)] at h
  exact h
set_option maxRecDepth 100000 in
theorem am_v29 : am_t29.all (am_ck 29) = true := by
  have h := am_v29_0
  rw [List.drop_zero, List.take_of_length_le (by decide +kernel)] at h
  exact h
set_option maxRecDepth 100000 in
theorem am_v30 : am_t30.all (am_ck 30) = true := by
  have h60 : (am_t30.drop 60).all (am_ck 30) = true := by
    have h := am_v30_60
    rw [List.take_of_length_le (by decide +kernel)] at h
    exact h
  have h0 : (am_t30.drop 0).all (am_ck 30) = true := am_all_split 60 am_v30_0 (by rw [List.drop_drop]; exact h60)
  rw [List.drop_zero] at h0
  exact h0
set_option maxRecDepth 100000 in
theorem am_v31 : am_t31.all (am_ck 31) = true := by
  have h := am_v31_0
  rw [List.drop_zero, List.take_of_length_le (by decide +kernel)] at h
  exact h
set_option maxRecDepth 100000 in
theorem am_v32 : am_t32.all (am_ck 32) = true := by
  have h := am_v32_0
  rw [List.drop_zero, List.take_of_length_le (by decide +kernel)] at h
  exact h
set_option maxRecDepth 100000 in
theorem am_v33 : am_t33.all (am_ck 33) = true := by
  have h := am_v33_0
  rw [List.drop_zero, List.take_of_length_le (by decide +kernel)] at h
  exact h
set_option maxRecDepth 100000 in
theorem am_v34 : am_t34.all (am_ck 34) = true := by
  have h := am_v34_0
  rw [List.drop_zero, List.take_of_length_le (by decide +kernel)] at h
  exact h
set_option maxRecDepth 100000 in
theorem am_v35 : am_t35.all (am_ck 35) = true := by
  have h := am_v35_0
  rw [List.drop_zero, List.take_of_length_le (by decide +kernel)] at h
  exact h
set_option maxRecDepth 100000 in
theorem am_v36 : am_t36.all (am_ck 36) = true := by
  have h := am_v36_0
  rw [List.drop_zero, List.take_of_length_le (by decide +kernel)] at h
  exact h
set_option maxRecDepth 100000 in
theorem am_v37 : am_t37.all (am_ck 37) = true := by
  have h := am_v37_0
  rw [List.drop_zero, List.take_of_length_le (by decide +kernel)] at h
  exact h
set_option maxRecDepth 100000 in
theorem am_v38 : am_t38.all (am_ck 38) = true := by
  have h := am_v38_0
  rw [List.drop_zero, List.take_of_length_le (by decide +kernel)] at h
  exact h
set_option maxRecDepth 100000 in
theorem am_v39 : am_t39.all (am_ck 39) = true := by
  have h := am_v39_0
  rw [List.drop_zero, List.take_of_length_le (by decide +kernel)] at h
  exact h
set_option maxRecDepth 100000 in
theorem am_v40 : am_t40.all (am_ck 40) = true := by
  have h := am_v40_0
  rw [List.drop_zero, List.take_of_length_le (by decide +kernel)] at h
  exact h
set_option maxRecDepth 100000 in
theorem am_v41 : am_t41.all (am_ck 41) = true := by
  have h := am_v41_0
  rw [List.drop_zero, List.take_of_length_le (by decide +kernel)] at h
  exact h
set_option maxRecDepth 100000 in
theorem am_v42 : am_t42.all (am_ck 42) = true := by
  have h := am_v42_0
  rw [List.drop_zero, List.take_of_length_le (by decide +kernel)] at h
  exact h
set_option maxRecDepth 100000 in
theorem am_v43 : am_t43.all (am_ck 43) = true := by
  have h := am_v43_0
  rw [List.drop_zero, List.take_of_length_le (by decide +kernel)] at h
  exact h
set_option maxRecDepth 100000 in
theorem am_v44 : am_t44.all (am_ck 44) = true := by
  have h := am_v44_0
  rw [List.drop_zero, List.take_of_length_le (by decide +kernel)] at h
  exact h
set_option maxRecDepth 100000 in
theorem am_v45 : am_t45.all (am_ck 45) = true := by
  have h := am_v45_0
  rw [List.drop_zero, List.take_of_length_le (by decide +kernel)] at h
  exact h
set_option maxRecDepth 100000 in
theorem am_v46 : am_t46.all (am_ck 46) = true := by
  have h := am_v46_0
  rw [List.drop_zero, List.take_of_length_le (by decide +kernel)] at h
  exact h
set_option maxRecDepth 100000 in
theorem am_v47 : am_t47.all (am_ck 47) = true := by
  have h := am_v47_0
  rw [List.drop_zero, List.take_of_length_le (by decide +kernel)] at h
  exact h
set_option maxRecDepth 100000 in
theorem am_v48 : am_t48.all (am_ck 48) = true := by
  have h := am_v48_0
  rw [List.drop_zero, List.take_of_length_le (by decide +kernel)] at h
  exact h
set_option maxRecDepth 100000 in
theorem am_v49 : am_t49.all (am_ck 49) = true := by
  have h := am_v49_0
  rw [List.drop_zero, List.take_of_length_le (by decide +kernel)] at h
  exact h
set_option maxRecDepth 100000 in
theorem am_v50 : am_t50.all (am_ck 50) = true := by
  have h := am_v50_0
  rw [List.drop_zero, List.take_of_length_le (by decide +kernel)] at h
  exact h
set_option maxRecDepth 100000 in
theorem am_v51 : am_t51.all (am_ck 51) = true := by
  have h := am_v51_0
  rw [List.drop_zero, List.take_of_length_le (by decide +kernel)] at h
  exact h
set_option maxRecDepth 100000 in
theorem am_v52 : am_t52.all (am_ck 52) = true := by
  have h := am_v52_0
  rw [List.drop_zero, List.take_of_length_le (by decide +kernel)] at h
  exact h
set_option maxRecDepth 100000 in
theorem am_v53 : am_t53.all (am_ck 53) = true := by
  have h := am_v53_0
  rw [List.drop_zero, List.take_of_length_le (by decide +kernel)] at h
  exact h
set_option maxRecDepth 100000 in
theorem am_v54 : am_t54.all (am_ck 54) = true := by
  have h := am_v54_0
  rw [List.drop_zero, List.take_of_length_le (by decide +kernel)] at h
  exact h
set_option maxRecDepth 100000 in
theorem am_v55 : am_t55.all (am_ck 55) = true := by
  have h := am_v55_0
  rw [List.drop_zero, List.take_of_length_le (by decide +kernel)] at h
  exact h
set_option maxRecDepth 100000 in
theorem am_v56 : am_t56.all (am_ck 56) = true := by
  have h := am_v56_0
  rw [List.drop_zero, List.take_of_length_le (by decide +kernel)] at h
  exact h
set_option maxRecDepth 100000 in
theorem am_v57 : am_t57.all (am_ck 57) = true := by
  have h := am_v57_0
  rw [List.drop_zero, List.take_of_length_le (by decide +kernel)] at h
  exact h
set_option maxRecDepth 100000 in
theorem am_v58 : am_t58.all (am_ck 58) = true := by
  have h := am_v58_0
  rw [List.drop_zero, List.take_of_length_le (by decide +kernel)] at h
  exact h
set_option maxRecDepth 100000 in
theorem am_v59 : am_t59.all (am_ck 59) = true := by
  have h := am_v59_0
  rw [List.drop_zero, List.take_of_length_le (by decide +kernel)] at h
  exact h
set_option maxRecDepth 100000 in
theorem am_v60 : am_t60.all (am_ck 60) = true := by
  have h := am_v60_0
  rw [List.drop_zero, List.take_of_length_le (by decide +kernel)] at h
  exact h
set_option maxRecDepth 100000 in
theorem am_v61 : am_t61.all (am_ck 61) = true := by
  have h := am_v61_0
  rw [List.drop_zero, List.take_of_length_le (by decide +kernel)] at h
  exact h
set_option maxRecDepth 100000 in
theorem am_v62 : am_t62.all (am_ck 62) = true := by
  have h := am_v62_0
  rw [List.drop_zero, List.take_of_length_le (by decide +kernel)] at h
  exact h
set_option maxRecDepth 100000 in
theorem am_v63 : am_t63.all (am_ck 63) = true := by
  have h := am_v63_0
  rw [List.drop_zero, List.take_of_length_le (by decide +kernel)] at h
  exact h
set_option maxRecDepth 100000 in
theorem am_v64 : am_t64.all (am_ck 64) = true := by
  have h := am_v64_0
  rw [List.drop_zero, List.take_of_length_le (by decide +kernel)] at h
  exact h
set_option maxRecDepth 100000 in
theorem am_v65 : am_t65.all (am_ck 65) = true := by
  have h := am_v65_0
  rw [List.drop_zero, List.take_of_length_le (by decide +kernel)] at h
  exact h
set_option maxRecDepth 100000 in
theorem am_v66 : am_t66.all (am_ck 66) = true := by
  have h := am_v66_0
  rw [List.drop_zero, List.take_of_length_le (by decide +kernel)] at h
  exact h
set_option maxRecDepth 100000 in
theorem am_v67 : am_t67.all (am_ck 67) = true := by
  have h := am_v67_0
  rw [List.drop_zero, List.take_of_length_le (by decide +kernel)] at h
  exact h
set_option maxRecDepth 100000 in
theorem am_v68 : am_t68.all (am_ck 68) = true := by
  have h := am_v68_0
  rw [List.drop_zero, List.take_of_length_le (by decide +kernel)] at h
  exact h
set_option maxRecDepth 100000 in
theorem am_v69 : am_t69.all (am_ck 69) = true := by
  have h := am_v69_0
  rw [List.drop_zero, List.take_of_length_le (by decide +kernel)] at h
  exact h
set_option maxRecDepth 100000 in
theorem am_v70 : am_t70.all (am_ck 70) = true := by
  have h := am_v70_0
  rw [List.drop_zero, List.take_of_length_le (by decide +kernel)] at h
  exact h
set_option maxRecDepth 100000 in
theorem am_v71 : am_t71.all (am_ck 71) = true := by
  have h := am_v71_0
  rw [List.drop_zero, List.take_of_length_le (by decide +kernel)] at h
  exact h
set_option maxRecDepth 100000 in
theorem am_v72 : am_t72.all (am_ck 72) = true := by
  have h := am_v72_0
  rw [List.drop_zero, List.take_of_length_le (by decide +kernel)] at h
  exact h
set_option maxRecDepth 100000 in
theorem am_v73 : am_t73.all (am_ck 73) = true := by
  have h := am_v73_0
  rw [List.drop_zero, List.take_of_length_le (by decide +kernel)] at h
  exact h
set_option maxRecDepth 100000 in
theorem am_v74 : am_t74.all (am_ck 74) = true := by
  have h := am_v74_0
  rw [List.drop_zero, List.take_of_length_le (by decide +kernel)] at h
  exact h
set_option maxRecDepth 100000 in
theorem am_v75 : am_t75.all (am_ck 75) = true := by
  have h := am_v75_0
  rw [List.drop_zero, List.take_of_length_le (by decide +kernel)] at h
  exact h
set_option maxRecDepth 100000 in
theorem am_v76 : am_t76.all (am_ck 76) = true := by
  have h := am_v76_0
  rw [List.drop_zero, List.take_of_length_le (by decide +kernel)] at h
  exact h
set_option maxRecDepth 100000 in
theorem am_v77 : am_t77.all (am_ck 77) = true := by
  have h := am_v77_0
  rw [List.drop_zero, List.take_of_length_le (by decide +kernel)] at h
  exact h
set_option maxRecDepth 100000 in
theorem am_v78 : am_t78.all (am_ck 78) = true := by
  have h := am_v78_0
  rw [List.drop_zero, List.take_of_length_le (by decide +kernel)] at h
  exact h
set_option maxRecDepth 100000 in
theorem am_v79 : am_t79.all (am_ck 79) = true := by
  have h := am_v79_0
  rw [List.drop_zero, List.take_of_length_le (by decide +kernel)] at h
  exact h
set_option maxRecDepth 100000 in
theorem am_v80 : am_t80.all (am_ck 80) = true := by
  have h := am_v80_0
  rw [List.drop_zero, List.take_of_length_le (by decide +kernel)] at h
  exact h
set_option maxRecDepth 100000 in
theorem am_v81 : am_t81.all (am_ck 81) = true := by
  have h := am_v81_0
  rw [List.drop_zero, List.take_of_length_le (by decide +kernel)] at h
  exact h
set_option maxRecDepth 100000 in
theorem am_v82 : am_t82.all (am_ck 82) = true := by
  have h := am_v82_0
  rw [List.drop_zero, List.take_of_length_le (by decide +kernel)] at h
  exact h
set_option maxRecDepth 100000 in
theorem am_v83 : am_t83.all (am_ck 83) = true := by
  have h := am_v83_0
  rw [List.drop_zero, List.take_of_length_le (by decide +kernel)] at h
  exact h
set_option maxRecDepth 100000 in
theorem am_v84 : am_t84.all (am_ck 84) = true := by
  have h := am_v84_0
  rw [List.drop_zero, List.take_of_length_le (by decide +kernel)] at h
  exact h
set_option maxRecDepth 100000 in
theorem am_v85 : am_t85.all (am_ck 85) = true := by
  have h := am_v85_0
  rw [List.drop_zero, List.take_of_length_le (by decide +kernel)] at h
  exact h
set_option maxRecDepth 100000 in
theorem am_v86 : am_t86.all (am_ck 86) = true := by
  have h := am_v86_0
  rw [List.drop_zero, List.take_of_length_le (by decide +kernel)] at h
  exact h
set_option maxRecDepth 100000 in
theorem am_v87 : am_t87.all (am_ck 87) = true := by
  have h := am_v87_0
  rw [List.drop_zero, List.take_of_length_le (by decide +kernel)] at h
  exact h
set_option maxRecDepth 100000 in
theorem am_v88 : am_t88.all (am_ck 88) = true := by
  have h := am_v88_0
  rw [List.drop_zero, List.take_of_length_le (by decide +kernel)] at h
  exact h
set_option maxRecDepth 100000 in
theorem am_v89 : am_t89.all (am_ck 89) = true := by
  have h := am_v89_0
  rw [List.drop_zero, List.take_of_length_le (by decide +kernel)] at h
  exact h
set_option maxRecDepth 100000 in
theorem am_v90 : am_t90.all (am_ck 90) = true := by
  have h := am_v90_0
  rw [List.drop_zero, List.take_of_length_le (by decide +kernel)] at h
  exact h
set_option maxRecDepth 100000 in
theorem am_v91 : am_t91.all (am_ck 91) = true := by
  have h := am_v91_0
  rw [List.drop_zero, List.take_of_length_le (by decide +kernel)] at h
  exact h
set_option maxRecDepth 100000 in
theorem am_v92 : am_t92.all (am_ck 92) = true := by
  have h := am_v92_0
  rw [List.drop_zero, List.take_of_length_le (by decide +kernel)] at h
  exact h
set_option maxRecDepth 100000 in
theorem am_v93 : am_t93.all (am_ck 93) = true := by
  have h60 : (am_t93.drop 60).all (am_ck 93) = true := by
    have h := am_v93_60
    rw [List.take_of_length_le (by decide +kernel)] at h
    exact h
  have h0 : (am_t93.drop 0).all (am_ck 93) = true := am_all_split 60 am_v93_0 (by rw [List.drop_drop]; exact h60)
  rw [List.drop_zero] at h0
  exact h0
set_option maxRecDepth 100000 in
theorem am_v94 : am_t94.all (am_ck 94) = true := by
  have h := am_v94_0
  rw [List.drop_zero, List.take_of_length_le (by decide +kernel)] at h
  exact h
set_option maxRecDepth 100000 in
theorem am_v95 : am_t95.all (am_ck 95) = true := by
  have h := am_v95_0
  rw [List.drop_zero, List.take_of_length_le (by decide +kernel)] at h
  exact h
set_option maxRecDepth 100000 in
theorem am_v96 : am_t96.all (am_ck 96) = true := by
  have h := am_v96_0
  rw [List.drop_zero, List.take_of_length_le (by decide +kernel)] at h
  exact h
set_option maxRecDepth 100000 in
theorem am_v97 : am_t97.all (am_ck 97) = true := by
  have h := am_v97_0
  rw [List.drop_zero, List.take_of_length_le (by decide +kernel)] at h
  exact h
set_option maxRecDepth 100000 in
theorem am_v98 : am_t98.all (am_ck 98) = true := by
  have h120 : (am_t98.drop 120).all (am_ck 98) = true := by
    have h := am_v98_120
    rw [List.take_of_length_le (by decide +kernel)] at h
    exact h
  have h60 : (am_t98.drop 60).all (am_ck 98) = true := am_all_split 60 am_v98_60 (by rw [List.drop_drop]; exact h120)
  have h0 : (am_t98.drop 0).all (am_ck 98) = true := am_all_split 60 am_v98_0 (by rw [List.drop_drop]; exact h60)
  rw [List.drop_zero] at h0
  exact h0
set_option maxRecDepth 100000 in
theorem am_v99 : am_t99.all (am_ck 99) = true := by
  have h := am_v99_0
  rw [List.drop_zero, List.take_of_length_le (by decide +kernel)] at h
  exact h
set_option maxRecDepth 100000 in
theorem am_v100 : am_t100.all (am_ck 100) = true := by
  have h := am_v100_0
  rw [List.drop_zero, List.take_of_length_le (by decide +kernel)] at h
  exact h
set_option maxRecDepth 100000 in
theorem am_v101 : am_t101.all (am_ck 101) = true := by
  have h60 : (am_t101.drop 60).all (am_ck 101) = true := by
    have h := am_v101_60
    rw [List.take_of_length_le (by decide +kernel)] at h
    exact h
  have h0 : (am_t101.drop 0).all (am_ck 101) = true := am_all_split 60 am_v101_0 (by rw [List.drop_drop]; exact h60)
  rw [List.drop_zero] at h0
  exact h0
set_option maxRecDepth 100000 in
theorem am_v102 : am_t102.all (am_ck 102) = true := by
  have h := am_v102_0
  rw [List.drop_zero, List.take_of_length_le (by decide +kernel)] at h
  exact h
set_option maxRecDepth 100000 in
theorem am_v103 : am_t103.all (am_ck 103) = true := by
  have h := am_v103_0
  rw [List.drop_zero, List.take_of_length_le (by decide +kernel)] at h
  exact h
set_option maxRecDepth 100000 in
theorem am_v104 : am_t104.all (am_ck 104) = true := by
  have h120 : (am_t104.drop 120).all (am_ck 104) = true := by
    have h := am_v104_120
    rw [List.take_of_length_le (by decide +kernel)] at h
    exact h
  have h60 : (am_t104.drop 60).all (am_ck 104) = true := am_all_split 60 am_v104_60 (by rw [List.drop_drop]; exact h120)
  have h0 : (am_t104.drop 0).all (am_ck 104) = true := am_all_split 60 am_v104_0 (by rw [List.drop_drop]; exact h60)
  rw [List.drop_zero] at h0
  exact h0
set_option maxRecDepth 100000 in
theorem am_v105 : am_t105.all (am_ck 105) = true := by
  have h := am_v105_0
  rw [List.drop_zero, List.take_of_length_le (by decide +kernel)] at h
  exact h
set_option maxRecDepth 100000 in
theorem am_v106 : am_t106.all (am_ck 106) = true := by
  have h := am_v106_0
  rw [List.drop_zero, List.take_of_length_le (by decide +kernel)] at h
  exact h
set_option maxRecDepth 100000 in
theorem am_v107 : am_t107.all (am_ck 107) = true := by
  have h := am_v107_0
  rw [List.drop_zero, List.take_of_length_le (by decide +kernel)] at h
  exact h
set_option maxRecDepth 100000 in
theorem am_v108 : am_t108.all (am_ck 108) = true := by
  have h := am_v108_0
  rw [List.drop_zero, List.take_of_length_le (by decide +kernel)] at h
  exact h
set_option maxRecDepth 100000 in
theorem am_v109 : am_t109.all (am_ck 109) = true := by
  have h := am_v109_0
  rw [List.drop_zero, List.take_of_length_le (by decide +kernel)] at h
  exact h
set_option maxRecDepth 100000 in
theorem am_v110 : am_t110.all (am_ck 110) = true := by
  have h := am_v110_0
  rw [List.drop_zero, List.take_of_length_le (by decide +kernel)] at h
  exact h
set_option maxRecDepth 100000 in
theorem am_v111 : am_t111.all (am_ck 111) = true := by
  have h := am_v111_0
  rw [List.drop_zero, List.take_of_length_le (by decide +kernel)] at h
  exact h
set_option maxRecDepth 100000 in
theorem am_v112 : am_t112.all (am_ck 112) = true := by
  have h := am_v112_0
  rw [List.drop_zero, List.take_of_length_le (by decide +kernel)] at h
  exact h
set_option maxRecDepth 100000 in
theorem am_v113 : am_t113.all (am_ck 113) = true := by
  have h := am_v113_0
  rw [List.drop_zero, List.take_of_length_le (by decide +kernel)] at h
  exact h
set_option maxRecDepth 100000 in
theorem am_v114 : am_t114.all (am_ck 114) = true := by
  have h := am_v114_0
  rw [List.drop_zero, List.take_of_length_le (by decide +kernel)] at h
  exact h
set_option maxRecDepth 100000 in
theorem am_v115 : am_t115.all (am_ck 115) = true := by
  have h := am_v115_0
  rw [List.drop_zero, List.take_of_length_le (by decide +kernel)] at h
  exact h
set_option maxRecDepth 100000 in
theorem am_v116 : am_t116.all (am_ck 116) = true := by
  have h60 : (am_t116.drop 60).all (am_ck 116) = true := by
    have h := am_v116_60
    rw [List.take_of_length_le (by decide +kernel)] at h
    exact h
  have h0 : (am_t116.drop 0).all (am_ck 116) = true := am_all_split 60 am_v116_0 (by rw [List.drop_drop]; exact h60)
  rw [List.drop_zero] at h0
  exact h0
set_option maxRecDepth 100000 in
theorem am_v117 : am_t117.all (am_ck 117) = true := by
  have h := am_v117_0
  rw [List.drop_zero, List.take_of_length_le (by decide +kernel)] at h
  exact h
set_option maxRecDepth 100000 in
theorem am_v118 : am_t118.all (am_ck 118) = true := by
  have h := am_v118_0
  rw [List.drop_zero, List.take_of_length_le (by decide +kernel)] at h
  exact h
set_option maxRecDepth 100000 in
theorem am_v119 : am_t119.all (am_ck 119) = true := by
  have h := am_v119_0
  rw [List.drop_zero, List.take_of_length_le (by decide +kernel)] at h
  exact h
set_option maxRecDepth 100000 in
theorem am_v120 : am_t120.all (am_ck 120) = true := by
  have h := am_v120_0
  rw [List.drop_zero, List.take_of_length_le (by decide +kernel)] at h
  exact h
set_option maxRecDepth 100000 in
theorem am_v121 : am_t121.all (am_ck 121) = true := by
  have h := am_v121_0
  rw [List.drop_zero, List.take_of_length_le (by decide +kernel)] at h
  exact h
set_option maxRecDepth 100000 in
theorem am_v122 : am_t122.all (am_ck 122) = true := by
  have h := am_v122_0
  rw [List.drop_zero, List.take_of_length_le (by decide +kernel)] at h
  exact h
set_option maxRecDepth 100000 in
theorem am_v123 : am_t123.all (am_ck 123) = true := by
  have h := am_v123_0
  rw [List.drop_zero, List.take_of_length_le (by decide +kernel)] at h
  exact h
set_option maxRecDepth 100000 in
theorem am_v124 : am_t124.all (am_ck 124) = true := by
  have h60 : (am_t124.drop 60).all (am_ck 124) = true := by
    have h := am_v124_60
    rw [List.take_of_length_le (by decide +kernel)] at h
    exact h
  have h0 : (am_t124.drop 0).all (am_ck 124) = true := am_all_split 60 am_v124_0 (by rw [List.drop_drop]; exact h60)
  rw [List.drop_zero] at h0
  exact h0
set_option maxRecDepth 100000 in
theorem am_v125 : am_t125.all (am_ck 125) = true := by
  have h := am_v125_0
  rw [List.drop_zero, List.take_of_length_le (by decide +kernel)] at h
  exact h
set_option maxRecDepth 100000 in
theorem am_v126 : am_t126.all (am_ck 126) = true := by
  have h := am_v126_0
  rw [List.drop_zero, List.take_of_length_le (by decide +kernel)] at h
  exact h
set_option maxRecDepth 100000 in
theorem am_v127 : am_t127.all (am_ck 127) = true := by
  have h := am_v127_0
  rw [List.drop_zero, List.take_of_length_le (by decide +kernel)] at h
  exact h
set_option maxRecDepth 100000 in
theorem am_v128 : am_t128.all (am_ck 128) = true := by
  have h := am_v128_0
  rw [List.drop_zero, List.take_of_length_le (by decide +kernel)] at h
  exact h
set_option maxRecDepth 100000 in
theorem am_v129 : am_t129.all (am_ck 129) = true := by
  have h := am_v129_0
  rw [List.drop_zero, List.take_of_length_le (by decide +kernel)] at h
  exact h
set_option maxRecDepth 100000 in
theorem am_v130 : am_t130.all (am_ck 130) = true := by
  have h := am_v130_0
  rw [List.drop_zero, List.take_of_length_le (by decide +kernel)] at h
  exact h
set_option maxRecDepth 100000 in
theorem am_v131 : am_t131.all (am_ck 131) = true := by
  have h := am_v131_0
  rw [List.drop_zero, List.take_of_length_le (by decide +kernel)] at h
  exact h
set_option maxRecDepth 100000 in
theorem am_v132 : am_t132.all (am_ck 132) = true := by
  have h := am_v132_0
  rw [List.drop_zero, List.take_of_length_le (by decide +kernel)] at h
  exact h
set_option maxRecDepth 100000 in
theorem am_v133 : am_t133.all (am_ck 133) = true := by
  have h := am_v133_0
  rw [List.drop_zero, List.take_of_length_le (by decide +kernel)] at h
  exact h
set_option maxRecDepth 100000 in
theorem am_v134 : am_t134.all (am_ck 134) = true := by
  have h := am_v134_0
  rw [List.drop_zero, List.take_of_length_le (by decide +kernel)] at h
  exact h
set_option maxRecDepth 100000 in
theorem am_v135 : am_t135.all (am_ck 135) = true := by
  have h := am_v135_0
  rw [List.drop_zero, List.take_of_length_le (by decide +kernel)] at h
  exact h
set_option maxRecDepth 100000 in
theorem am_v136 : am_t136.all (am_ck 136) = true := by
  have h := am_v136_0
  rw [List.drop_zero, List.take_of_length_le (by decide +kernel)] at h
  exact h
set_option maxRecDepth 100000 in
theorem am_v137 : am_t137.all (am_ck 137) = true := by
  have h := am_v137_0
  rw [List.drop_zero, List.take_of_length_le (by decide +kernel)] at h
  exact h
set_option maxRecDepth 100000 in
theorem am_v138 : am_t138.all (am_ck 138) = true := by
  have h := am_v138_0
  rw [List.drop_zero, List.take_of_length_le (by decide +kernel)] at h
  exact h
set_option maxRecDepth 100000 in
theorem am_v139 : am_t139.all (am_ck 139) = true := by
  have h := am_v139_0
  rw [List.drop_zero, List.take_of_length_le (by decide +kernel)] at h
  exact h
set_option maxRecDepth 100000 in
theorem am_v140 : am_t140.all (am_ck 140) = true := by
  have h60 : (am_t140.drop 60).all (am_ck 140) = true := by
    have h := am_v140_60
    rw [List.take_of_length_le (by decide +kernel)] at h
    exact h
  have h0 : (am_t140.drop 0).all (am_ck 140) = true := am_all_split 60 am_v140_0 (by rw [List.drop_drop]; exact h60)
  rw [List.drop_zero] at h0
  exact h0
set_option maxRecDepth 100000 in
theorem am_v141 : am_t141.all (am_ck 141) = true := by
  have h := am_v141_0
  rw [List.drop_zero, List.take_of_length_le (by decide +kernel)] at h
  exact h
set_option maxRecDepth 100000 in
theorem am_v142 : am_t142.all (am_ck 142) = true := by
  have h := am_v142_0
  rw [List.drop_zero, List.take_of_length_le (by decide +kernel)] at h
  exact h
set_option maxRecDepth 100000 in
theorem am_v143 : am_t143.all (am_ck 143) = true := by
  have h360 : (am_t143.drop 360).all (am_ck 143) = true := by
    have h := am_v143_360
    rw [List.take_of_length_le (by decide +kernel)] at h
    exact h
  have h300 : (am_t143.drop 300).all (am_ck 143) = true := am_all_split 60 am_v143_300 (by rw [List.drop_drop]; exact h360)
  have h240 : (am_t143.drop 240).all (am_ck 143) = true := am_all_split 60 am_v143_240 (by rw [List.drop_drop]; exact h300)
  have h180 : (am_t143.drop 180).all (am_ck 143) = true := am_all_split 60 am_v143_180 (by rw [List.drop_drop]; exact h240)
  have h120 : (am_t143.drop 120).all (am_ck 143) = true := am_all_split 60 am_v143_120 (by rw [List.drop_drop]; exact h180)
  have h60 : (am_t143.drop 60).all (am_ck 143) = true := am_all_split 60 am_v143_60 (by rw [List.drop_drop]; exact h120)
  have h0 : (am_t143.drop 0).all (am_ck 143) = true := am_all_split 60 am_v143_0 (by rw [List.drop_drop]; exact h60)
  rw [List.drop_zero] at h0
  exact h0
def am_good (q : List (Nat × am_I) × Nat) : Prop := q.1.all (am_ck q.2) = true
theorem am_vall : ∀ j, j < 144 → (am_tabs.getD j []).all (am_ck j) = true := by
  intro j hj
  match j, hj with
  | 0, _ => exact am_v0
  | 1, _ => exact am_v1
  | 2, _ => exact am_v2
  | 3, _ => exact am_v3
  | 4, _ => exact am_v4
  | 5, _ => exact am_v5
  | 6, _ => exact am_v6
  | 7, _ => exact am_v7
  | 8, _ => exact am_v8
  | 9, _ => exact am_v9
  | 10, _ => exact am_v10
  | 11, _ => exact am_v11
  | 12, _ => exact am_v12
  | 13, _ => exact am_v13
  | 14, _ => exact am_v14
  | 15, _ => exact am_v15
  | 16, _ => exact am_v16
  | 17, _ => exact am_v17
  | 18, _ => exact am_v18
  | 19, _ => exact am_v19
  | 20, _ => exact am_v20
  | 21, _ => exact am_v21
  | 22, _ => exact am_v22
  | 23, _ => exact am_v23
  | 24, _ => exact am_v24
  | 25, _ => exact am_v25
  | 26, _ => exact am_v26
  | 27, _ => exact am_v27
  | 28, _ => exact am_v28
  | 29, _ => exact am_v29
  | 30, _ => exact am_v30
  | 31, _ => exact am_v31
  | 32, _ => exact am_v32
  | 33, _ => exact am_v33
  | 34, _ => exact am_v34
  | 35, _ => exact am_v35
  | 36, _ => exact am_v36
  | 37, _ => exact am_v37
  | 38, _ => exact am_v38
  | 39, _ => exact am_v39
  | 40, _ => exact am_v40
  | 41, _ => exact am_v41
  | 42, _ => exact am_v42
  | 43, _ => exact am_v43
  | 44, _ => exact am_v44
  | 45, _ => exact am_v45
  | 46, _ => exact am_v46
  | 47, _ => exact am_v47
  | 48, _ => exact am_v48
  | 49, _ => exact am_v49
  | 50, _ => exact am_v50
  | 51, _ => exact am_v51
  | 52, _ => exact am_v52
  | 53, _ => exact am_v53
  | 54, _ => exact am_v54
  | 55, _ => exact am_v55
  | 56, _ => exact am_v56
  | 57, _ => exact am_v57
  | 58, _ => exact am_v58
  | 59, _ => exact am_v59
  | 60, _ => exact am_v60
  | 61, _ => exact am_v61
  | 62, _ => exact am_v62
  | 63, _ => exact am_v63
  | 64, _ => exact am_v64
  | 65, _ => exact am_v65
  | 66, _ => exact am_v66
  | 67, _ => exact am_v67
  | 68, _ => exact am_v68
  | 69, _ => exact am_v69
  | 70, _ => exact am_v70
  | 71, _ => exact am_v71
  | 72, _ => exact am_v72
  | 73, _ => exact am_v73
  | 74, _ => exact am_v74
  | 75, _ => exact am_v75
  | 76, _ => exact am_v76
  | 77, _ => exact am_v77
  | 78, _ => exact am_v78
  | 79, _ => exact am_v79
  | 80, _ => exact am_v80
  | 81, _ => exact am_v81
  | 82, _ => exact am_v82
  | 83, _ => exact am_v83
  | 84, _ => exact am_v84
  | 85, _ => exact am_v85
  | 86, _ => exact am_v86
  | 87, _ => exact am_v87
  | 88, _ => exact am_v88
  | 89, _ => exact am_v89
  | 90, _ => exact am_v90
  | 91, _ => exact am_v91
  | 92, _ => exact am_v92
  | 93, _ => exact am_v93
  | 94, _ => exact am_v94
  | 95, _ => exact am_v95
  | 96, _ => exact am_v96
  | 97, _ => exact am_v97
  | 98, _ => exact am_v98
  | 99, _ => exact am_v99
  | 100, _ => exact am_v100
  | 101, _ => exact am_v101
  | 102, _ => exact am_v102
  | 103, _ => exact am_v103
  | 104, _ => exact am_v104
  | 105, _ => exact am_v105
  | 106, _ => exact am_v106
  | 107, _ => exact am_v107
  | 108, _ => exact am_v108
  | 109, _ => exact am_v109
  | 110, _ => exact am_v110
  | 111, _ => exact am_v111
  | 112, _ => exact am_v112
  | 113, _ => exact am_v113
  | 114, _ => exact am_v114
  | 115, _ => exact am_v115
  | 116, _ => exact am_v116
  | 117, _ => exact am_v117
  | 118, _ => exact am_v118
  | 119, _ => exact am_v119
  | 120, _ => exact am_v120
  | 121, _ => exact am_v121
  | 122, _ => exact am_v122
  | 123, _ => exact am_v123
  | 124, _ => exact am_v124
  | 125, _ => exact am_v125
  | 126, _ => exact am_v126
  | 127, _ => exact am_v127
  | 128, _ => exact am_v128
  | 129, _ => exact am_v129
  | 130, _ => exact am_v130
  | 131, _ => exact am_v131
  | 132, _ => exact am_v132
  | 133, _ => exact am_v133
  | 134, _ => exact am_v134
  | 135, _ => exact am_v135
  | 136, _ => exact am_v136
  | 137, _ => exact am_v137
  | 138, _ => exact am_v138
  | 139, _ => exact am_v139
  | 140, _ => exact am_v140
  | 141, _ => exact am_v141
  | 142, _ => exact am_v142
  | 143, _ => exact am_v143
  | n + 144, h => exact absurd h (by omega)
theorem am_lookup_mem : ∀ (t : List (Nat × am_I)) (pc : Nat) (q : am_I), t.lookup pc = some q → (pc, q) ∈ t
  | [], _, _, h => by cases h
  | (a, b) :: t, pc, q, h => by
    rw [List.lookup_cons] at h
    split at h
    · rename_i he
      have e1 : pc = a := by simpa using he
      cases h
      rw [e1]
      exact List.mem_cons_self
    · exact List.mem_cons_of_mem _ (am_lookup_mem t pc q h)
theorem am_all {j pc : Nat} {i : Instr} {l x y : Nat} {c : Int32} {ts : List Nat} (h : am_cd j pc = some (i, l, x, y, c, ts)) : decode (am_by j) pc = .ok (i, l) ∧ am_vb j pc (i, l, x, y, c, ts) = true := by
  have hj : j < 144 := by
    rcases Nat.lt_or_ge j 144 with g | g
    · exact g
    · exfalso
      unfold am_cd at h
      have hl : am_tabs.length = 144 := by decide +kernel
      rw [List.getD_eq_getElem?_getD, List.getElem?_eq_none (by omega)] at h
      cases h
  have h1 := List.all_eq_true.mp (am_vall j hj) _ (am_lookup_mem _ _ _ h)
  simp only [am_ck, Bool.and_eq_true, decide_eq_true_eq] at h1
  exact h1
end
section
def am_cx (p : Program) (c : Code) (meth : Method) (j : Nat) (s : State) (m : MethodId) (args : Array Value) (D : va_G) (cA : Nat → ClassId) : Prop :=
  p.tables.exec = Jvm.exec ∧ c.code = am_by j ∧ c.maxLocals = am_mx j ∧ s.vm.findClass (am_y j).cls = some m.cls ∧ (∀ w ∈ am_WS, w.before args s = true) ∧ am_KX D cA s ∧ meth.name = (am_y j).name
section AMS
variable {p : Program} {l : Launch} {e : Env} {R : Room} {s : State} {m : MethodId} {args : Array Value} {below : List Frame} {meth : Method} {c : Code} {H : Heap} {locs : List Loc} {cells slots : Nat} {Q : State → Prop}
variable {D : va_G} {cA : Nat → ClassId} {j pc : Nat} {ls : Array Slot}
theorem am_ix_spec {i : Int32} {n k : Nat} (h : am_ix i n = some k) : vp_in i n ∧ k = i.toNatClampNeg := by
  unfold am_ix at h
  split at h
  · cases h
  · rename_i hn
    exact ⟨hn, (Option.some.inj h).symm⟩
theorem am_tyA {U : State} (hK : va_K D am_cl (am_tys cA) U) {t : Nat} (ht : 2 ≤ t ∧ t < 4) : ∃ r : vw_C, am_cl[am_ec t]? = some r ∧ (am_tys cA)[t]? = some (cA t, .object r.1) := by
  obtain ⟨h2, h4⟩ := ht
  rcases (by omega : t = 2 ∨ t = 3) with rfl | rfl
  · exact ⟨_, am_ec2, rfl⟩
  · exact ⟨_, am_ec3, rfl⟩
set_option maxHeartbeats 4000000 in
theorem am_ss (hc : am_cx p c meth j s m args D cA) (hR : 1 ≤ R.frames ∧ 40 ≤ R.locals) (hcs : cells ≤ R.cells ∧ slots ≤ R.slots) {i : Instr} {l' x y : Nat} {cc : Int32} {ts : List Nat} {lo : am_L} {st : List Value} {h : am_H} {q : am_C} (hd : decode (am_by j) pc = .ok (i, l')) (hv : am_vb j pc (i, l', x, y, cc, ts) = true) (hs : am_s i x y cc ts (pc + l') lo st h = some q) (hl : am_rl (am_mx j) ls lo) (hW : am_W D cA h H)
    (kk : ∀ ls', am_rl (am_mx j) ls' q.2.1 → W p l e R s m args below meth c H locs cells slots Q (F0 m q.1 ls' q.2.2)) : W p l e R s m args below meth c H locs cells slots Q (F0 m pc ls st) := by
  obtain ⟨hx, hb, hml, hown, hts, hK, hnm⟩ := hc
  cases i with
  | iconst n =>
    simp only [am_vb, Bool.and_eq_true, decide_eq_true_eq] at hv
    obtain ⟨rfl, hv⟩ := hv
    cases hs
    exact lv_iconst hx hb hd hv (kk ls hl)
  | bipush n =>
    simp only [am_vb, Bool.and_eq_true, decide_eq_true_eq] at hv
    obtain ⟨rfl, hv⟩ := hv
    cases hs
    exact lv_bipush hx hb hd hv (kk ls hl)
  | sipush n =>
    simp only [am_vb, Bool.and_eq_true, decide_eq_true_eq] at hv
    obtain ⟨rfl, hv⟩ := hv
    cases hs
    exact lv_sipush hx hb hd hv (kk ls hl)
  | iload_n n =>
    simp only [am_vb, Bool.and_eq_true, decide_eq_true_eq] at hv
    obtain ⟨rfl, hv⟩ := hv
    simp only [am_s, am_pI] at hs
    split at hs
    · rename_i w hw
      cases hs
      exact lv_iload_n hx hb hd hv (hl.at hw) (kk ls hl)
    · cases hs
  | iload n =>
    simp only [am_vb, Bool.and_eq_true, decide_eq_true_eq] at hv
    obtain ⟨rfl, rfl⟩ := hv
    simp only [am_s, am_pI] at hs
    split at hs
    · rename_i w hw
      cases hs
      exact lv_iload hx hb hd (hl.at hw) (kk ls hl)
    · cases hs
  | aload_n n =>
    simp only [am_vb, Bool.and_eq_true, decide_eq_true_eq] at hv
    obtain ⟨rfl, hv⟩ := hv
    simp only [am_s, am_pR] at hs
    split at hs
    · rename_i w hw
      cases hs
      exact lv_aload_n hx hb hd hv (hl.at hw) (kk ls hl)
    · cases hs
  | aload n =>
    simp only [am_vb, Bool.and_eq_true, decide_eq_true_eq] at hv
    obtain ⟨rfl, rfl⟩ := hv
    simp only [am_s, am_pR] at hs
    split at hs
    · rename_i w hw
      cases hs
      exact lv_aload hx hb hd (hl.at hw) (kk ls hl)
    · cases hs
  | istore_n n =>
    simp only [am_vb, Bool.and_eq_true, decide_eq_true_eq] at hv
    obtain ⟨rfl, hv⟩ := hv
    simp only [am_s, am_sI] at hs
    split at hs
    · split at hs
      · rename_i a r hlt
        cases hs
        rw [hl.2.1] at hlt
        exact lv_istore_n hx hb hd hv hl.has hlt rfl (fun ls' h' => kk ls' (hl.store hlt rfl h'))
      · cases hs
    · cases hs
  | istore n =>
    simp only [am_vb, Bool.and_eq_true, decide_eq_true_eq] at hv
    obtain ⟨rfl, rfl⟩ := hv
    simp only [am_s, am_sI] at hs
    split at hs
    · split at hs
      · rename_i a r hlt
        cases hs
        rw [hl.2.1] at hlt
        exact lv_istore hx hb hd hl.has hlt rfl (fun ls' h' => kk ls' (hl.store hlt rfl h'))
      · cases hs
    · cases hs
  | astore_n n =>
    simp only [am_vb, Bool.and_eq_true, decide_eq_true_eq] at hv
    obtain ⟨rfl, hv⟩ := hv
    simp only [am_s, am_sR] at hs
    split at hs
    · split at hs
      · rename_i a r hlt
        cases hs
        rw [hl.2.1] at hlt
        exact lv_astore_n hx hb hd hv hl.has hlt rfl (fun ls' h' => kk ls' (hl.store hlt rfl h'))
      · cases hs
    · cases hs
  | astore n =>
    simp only [am_vb, Bool.and_eq_true, decide_eq_true_eq] at hv
    obtain ⟨rfl, rfl⟩ := hv
    simp only [am_s, am_sR] at hs
    split at hs
    · split at hs
      · rename_i a r hlt
        cases hs
        rw [hl.2.1] at hlt
        exact lv_astore hx hb hd hl.has hlt rfl (fun ls' h' => kk ls' (hl.store hlt rfl h'))
      · cases hs
    · cases hs
  | iinc k n =>
    simp only [am_vb, Bool.and_eq_true, decide_eq_true_eq] at hv
    obtain ⟨⟨rfl, rfl⟩, hv⟩ := hv
    simp only [am_s, am_inc] at hs
    split at hs
    · rename_i a hw
      cases hs
      have hlt : k < am_mx j := by
        have := am_ld_lt lo k _ hw
        rw [hl.2.1] at this; exact this
      have hin := am_ll_in lo 0 k _ hw
      rw [Nat.zero_add] at hin
      obtain ⟨w, hw2⟩ := List.getElem?_of_mem hin
      exact lv_iinc hx hb hd hl.has hw2 (by rw [hv]) hlt rfl (fun ls' h' => kk ls' (hl.store hlt rfl h'))
    · cases hs
  | iadd =>
    simp only [am_vb, decide_eq_true_eq] at hv
    subst hv
    simp only [am_s, am_b2] at hs
    split at hs
    · cases hs
      exact lv_iadd hx hb hd (kk ls hl)
    · cases hs
  | isub =>
    simp only [am_vb, decide_eq_true_eq] at hv
    subst hv
    simp only [am_s, am_b2] at hs
    split at hs
    · cases hs
      exact lv_isub hx hb hd (kk ls hl)
    · cases hs
  | imul =>
    simp only [am_vb, decide_eq_true_eq] at hv
    subst hv
    simp only [am_s, am_b2] at hs
    split at hs
    · cases hs
      exact lv_imul hx hb hd (kk ls hl)
    · cases hs
  | iand =>
    simp only [am_vb, decide_eq_true_eq] at hv
    subst hv
    simp only [am_s, am_b2] at hs
    split at hs
    · cases hs
      exact lv_iand hx hb hd (kk ls hl)
    · cases hs
  | ior =>
    simp only [am_vb, decide_eq_true_eq] at hv
    subst hv
    simp only [am_s, am_b2] at hs
    split at hs
    · cases hs
      exact lv_ior hx hb hd (kk ls hl)
    · cases hs
  | ishl =>
    simp only [am_vb, decide_eq_true_eq] at hv
    subst hv
    simp only [am_s, am_b2] at hs
    split at hs
    · cases hs
      exact lv_ishl hx hb hd (kk ls hl)
    · cases hs
  | ishr =>
    simp only [am_vb, decide_eq_true_eq] at hv
    subst hv
    simp only [am_s, am_b2] at hs
    split at hs
    · cases hs
      exact lv_ishr hx hb hd (kk ls hl)
    · cases hs
  | idiv =>
    simp only [am_vb, decide_eq_true_eq] at hv
    subst hv
    simp only [am_s, am_d2] at hs
    split at hs
    · split at hs
      · cases hs
      · rename_i hne
        cases hs
        exact lv_idiv hx hb hd hne (kk ls hl)
    · cases hs
  | irem =>
    simp only [am_vb, decide_eq_true_eq] at hv
    subst hv
    simp only [am_s, am_d2] at hs
    split at hs
    · split at hs
      · cases hs
      · rename_i hne
        cases hs
        exact lv_irem hx hb hd hne (kk ls hl)
    · cases hs
  | dup =>
    simp only [am_vb, decide_eq_true_eq] at hv
    subst hv
    simp only [am_s] at hs
    split at hs
    · split at hs
      · rename_i hc1
        cases hs
        exact lv_dup hx hb hd hc1 (kk ls hl)
      · cases hs
    · cases hs
  | pop =>
    simp only [am_vb, decide_eq_true_eq] at hv
    subst hv
    simp only [am_s] at hs
    split at hs
    · split at hs
      · rename_i hc1
        cases hs
        exact lv_pop hx hb hd hc1 (kk ls hl)
      · cases hs
    · cases hs
  | dup_x1 =>
    simp only [am_vb, decide_eq_true_eq] at hv
    subst hv
    simp only [am_s] at hs
    split at hs
    · split at hs
      · rename_i hc1
        cases hs
        exact lv_dup_x1 hx hb hd hc1.1 hc1.2 (kk ls hl)
      · cases hs
    · cases hs
  | dup_x2 =>
    simp only [am_vb, decide_eq_true_eq] at hv
    subst hv
    simp only [am_s] at hs
    split at hs
    · split at hs
      · rename_i hc1
        cases hs
        exact lv_dup_x2 hx hb hd hc1.1 hc1.2.1 hc1.2.2 (kk ls hl)
      · cases hs
    · cases hs
  | dup2 =>
    simp only [am_vb, decide_eq_true_eq] at hv
    subst hv
    simp only [am_s] at hs
    split at hs
    · split at hs
      · rename_i hc1
        cases hs
        exact lv_dup2_11 hx hb hd hc1.1 hc1.2 (kk ls hl)
      · cases hs
    · cases hs
  | goto o =>
    simp only [am_vb, Bool.and_eq_true, decide_eq_true_eq] at hv
    obtain ⟨rfl, hv⟩ := hv
    cases hs
    exact lv_goto hx hb hd hv (kk ls hl)
  | ifCond k o =>
    simp only [am_vb, Bool.and_eq_true, decide_eq_true_eq] at hv
    obtain ⟨rfl, hv⟩ := hv
    simp only [am_s, am_c1] at hs
    split at hs
    · cases hs
      have kk := kk ls hl
      dsimp only at kk
      cases k with
      | eq => exact lv_if_eq hx hb hd hv (fun g => by rw [if_pos (by simp [am_c1f, g])] at kk; exact kk) (fun g => by rw [if_neg (by simp [am_c1f, g])] at kk; exact kk)
      | ne => exact lv_if_ne hx hb hd hv (fun g => by rw [if_pos (by simp [am_c1f, g])] at kk; exact kk) (fun g => by rw [if_neg (by simp [am_c1f, g])] at kk; exact kk)
      | lt => exact lv_if_lt hx hb hd hv (fun g => by rw [if_pos (by simp [am_c1f, g])] at kk; exact kk) (fun g => by rw [if_neg (by simp [am_c1f, g])] at kk; exact kk)
      | ge => exact lv_if_ge hx hb hd hv (fun g => by rw [if_pos (by simp [am_c1f, g])] at kk; exact kk) (fun g => by rw [if_neg (by simp [am_c1f, g])] at kk; exact kk)
      | gt => exact lv_if_gt hx hb hd hv (fun g => by rw [if_pos (by simp [am_c1f, g])] at kk; exact kk) (fun g => by rw [if_neg (by simp [am_c1f, g])] at kk; exact kk)
      | le => exact lv_if_le hx hb hd hv (fun g => by rw [if_pos (by simp [am_c1f, g])] at kk; exact kk) (fun g => by rw [if_neg (by simp [am_c1f, g])] at kk; exact kk)
    · cases hs
  | if_icmp k o =>
    simp only [am_vb, Bool.and_eq_true, decide_eq_true_eq] at hv
    obtain ⟨rfl, hv⟩ := hv
    simp only [am_s, am_c2] at hs
    split at hs
    · cases hs
      have kk := kk ls hl
      dsimp only at kk
      cases k with
      | eq => exact lv_icmp_eq hx hb hd hv (fun g => by rw [if_pos (by simp [am_c2f, g])] at kk; exact kk) (fun g => by rw [if_neg (by simp [am_c2f, g])] at kk; exact kk)
      | ne => exact lv_icmp_ne hx hb hd hv (fun g => by rw [if_pos (by simp [am_c2f, g])] at kk; exact kk) (fun g => by rw [if_neg (by simp [am_c2f, g])] at kk; exact kk)
      | lt => exact lv_icmp_lt hx hb hd hv (fun g => by rw [if_pos (by simp [am_c2f, g])] at kk; exact kk) (fun g => by rw [if_neg (by simp [am_c2f, g])] at kk; exact kk)
      | ge => exact lv_icmp_ge hx hb hd hv (fun g => by rw [if_pos (by simp [am_c2f, g])] at kk; exact kk) (fun g => by rw [if_neg (by simp [am_c2f, g])] at kk; exact kk)
      | gt => exact lv_icmp_gt hx hb hd hv (fun g => by rw [if_pos (by simp [am_c2f, g])] at kk; exact kk) (fun g => by rw [if_neg (by simp [am_c2f, g])] at kk; exact kk)
      | le => exact lv_icmp_le hx hb hd hv (fun g => by rw [if_pos (by simp [am_c2f, g])] at kk; exact kk) (fun g => by rw [if_neg (by simp [am_c2f, g])] at kk; exact kk)
    · cases hs
  | if_acmp k o =>
    simp only [am_vb, Bool.and_eq_true, decide_eq_true_eq] at hv
    obtain ⟨rfl, hv⟩ := hv
    simp only [am_s, am_cA] at hs
    split at hs
    · rename_i b a r
      cases hs
      have kk := kk ls hl
      dsimp only at kk
      cases k with
      | eq => exact lv_acmp_eq (rx := some a) (ry := some b) hx hb hd hv (fun g => by rw [if_pos (by simpa [am_caf] using g)] at kk; exact kk) (fun g => by rw [if_neg (by simpa [am_caf] using g)] at kk; exact kk)
      | ne => exact lv_acmp_ne (rx := some a) (ry := some b) hx hb hd hv (fun g => by rw [if_pos (by simpa [am_caf] using g)] at kk; exact kk) (fun g => by rw [if_neg (by simpa [am_caf] using g)] at kk; exact kk)
    · cases hs
  | tableswitch dd a b offs =>
    simp only [am_vb, Bool.and_eq_true, decide_eq_true_eq, List.all_eq_true, List.mem_range] at hv
    obtain ⟨⟨⟨rfl, rfl⟩, hv⟩, hv2⟩ := hv
    simp only [am_s, am_sw] at hs
    split at hs
    · rename_i w r
      cases hs
      have kk := kk ls hl
      dsimp only at kk
      by_cases g : w < 0 ∨ ts.length ≤ w.toNatClampNeg
      · rw [if_pos g] at kk
        refine lv_tableOut hx hb hd ?_ hv kk
        rcases g with g | g
        · left
          simpa using Int32.lt_iff_toInt_lt.mp g
        · have : w.toNatClampNeg = w.toInt.toNat := rfl
          by_cases hw : w.toInt < 0
          · exact Or.inl hw
          · right
            omega
      · rw [if_neg g] at kk
        have g1 : ¬ w < 0 := fun z => g (Or.inl z)
        have g2 : w.toNatClampNeg < ts.length := Nat.not_le.mp fun z => g (Or.inr z)
        have g3 : (0 : Int) ≤ w.toInt := by
          have := Int32.not_lt.mp g1
          simpa using Int32.le_iff_toInt_le.mp this
        have g4 : w.toNatClampNeg = w.toInt.toNat := rfl
        refine lv_tableIn hx hb hd (off := (am_tn ts w.toNatClampNeg x : Int) - (pc : Int)) (by omega) (by omega) ?_ (by omega) kk
        rw [Int.sub_zero, ← g4]
        exact hv2 _ g2
    · cases hs
  | getfield k =>
    simp only [am_vb, Bool.and_eq_true, decide_eq_true_eq] at hv
    obtain ⟨rfl, hv⟩ := hv
    obtain ⟨C, T, N, h1, h2, h3⟩ := am_fw_spec hv
    simp only [am_s] at hs
    split at hs
    · rename_i a r
      have key : ∀ v, am_gf (h.1 a) x y = some v → W p l e R s m args below meth c H locs cells slots Q (F0 m (pc + 3) ls (v :: r)) → W p l e R s m args below meth c H locs cells slots Q (F0 m pc ls (.ref a :: r)) := by
        intro v hgf kk
        unfold am_gf at hgf
        split at hgf
        · rename_i ci fs hcell
          split at hgf
          · rename_i hci
            subst hci
            have hat := hW.2 a _ hcell
            rw [am_at_get] at hgf
            rcases h3 with h3 | ⟨hst, h3⟩
            · exact va_get (ws := [(a, .inr (ci, fs))]) hx hb hts (am_lay h1) hown hK.1 (am_P1 hat) 0 rfl h1 y h2 (hts _ h3) (fun _ z => z) hgf hd kk
            · exact va_getN (ws := [(a, .inr (ci, fs))]) hx hb hts (am_lay h1) hown hK.1 (am_P1 hat) 0 rfl h1 y h2 (va_Nw.use rfl (hK.2.1 _ h3 rfl)) (fun _ z => z) hgf hd kk
          · cases hgf
        · cases hgf
      unfold am_pV at hs
      split at hs
      · rename_i w hw
        cases hs
        exact key _ hw (kk ls hl)
      · rename_i w hw
        cases hs
        exact key _ hw (kk ls hl)
      · cases hs
    · cases hs
  | iaload =>
    simp only [am_vb, decide_eq_true_eq] at hv
    subst hv
    simp only [am_s] at hs
    split at hs
    · rename_i k a r
      unfold am_pV at hs
      have key : ∀ v, am_ri 0 (h.1 a) k = some v → W p l e R s m args below meth c H locs cells slots Q (F0 m (pc + 1) ls (v :: r)) → W p l e R s m args below meth c H locs cells slots Q (F0 m pc ls (.int k :: .ref a :: r)) := by
        intro v hgf kk
        unfold am_ri at hgf
        split at hgf
        · rename_i t n g hcell
          split at hgf
          · rename_i ht
            subst ht
            split at hgf
            · rename_i w hw
              obtain ⟨hin, rfl⟩ := am_ix_spec hw
              cases hgf
              exact va_iald (ws := [(a, .inl (cA 0, n, .inl g))]) hx hb hK.1 (am_P1 (hW.2 a _ hcell)) 0 0 rfl rfl hin hd kk
            · cases hgf
          · cases hgf
        · cases hgf
      split at hs
      · rename_i w hw
        cases hs
        exact key _ hw (kk ls hl)
      · rename_i w hw
        cases hs
        exact key _ hw (kk ls hl)
      · cases hs
    · cases hs
  | baload =>
    simp only [am_vb, decide_eq_true_eq] at hv
    subst hv
    simp only [am_s] at hs
    split at hs
    · rename_i k a r
      unfold am_pV at hs
      have key : ∀ v, am_ri 1 (h.1 a) k = some v → W p l e R s m args below meth c H locs cells slots Q (F0 m (pc + 1) ls (v :: r)) → W p l e R s m args below meth c H locs cells slots Q (F0 m pc ls (.int k :: .ref a :: r)) := by
        intro v hgf kk
        unfold am_ri at hgf
        split at hgf
        · rename_i t n g hcell
          split at hgf
          · rename_i ht
            subst ht
            split at hgf
            · rename_i w hw
              obtain ⟨hin, rfl⟩ := am_ix_spec hw
              cases hgf
              exact va_zald (ws := [(a, .inl (cA 1, n, .inl g))]) hx hb hK.1 (am_P1 (hW.2 a _ hcell)) 0 1 rfl rfl hin hd kk
            · cases hgf
          · cases hgf
        · cases hgf
      split at hs
      · rename_i w hw
        cases hs
        exact key _ hw (kk ls hl)
      · rename_i w hw
        cases hs
        exact key _ hw (kk ls hl)
      · cases hs
    · cases hs
  | aaload =>
    simp only [am_vb, decide_eq_true_eq] at hv
    subst hv
    simp only [am_s] at hs
    split at hs
    · rename_i k a r
      unfold am_pV at hs
      have key : ∀ v, am_rq (h.1 a) k = some v → W p l e R s m args below meth c H locs cells slots Q (F0 m (pc + 1) ls (v :: r)) → W p l e R s m args below meth c H locs cells slots Q (F0 m pc ls (.int k :: .ref a :: r)) := by
        intro v hgf kk
        unfold am_rq at hgf
        split at hgf
        · rename_i t n g hcell
          split at hgf
          · rename_i ht
            obtain ⟨rc, -, htt⟩ := am_tyA hK.1 ht
            split at hgf
            · rename_i w hw
              obtain ⟨hin, rfl⟩ := am_ix_spec hw
              split at hgf
              · rename_i b hb2
                cases hgf
                refine va_aldq (ws := [(a, .inl (cA t, n, .inr (.inr (.inr (.inr g)))))]) hx hb hK.1 (am_P1 (hW.2 a _ hcell)) 0 t rfl htt hin hd ?_
                rw [hb2]
                exact kk
              · cases hgf
            · cases hgf
          · cases hgf
        · cases hgf
      split at hs
      · rename_i w hw
        cases hs
        exact key _ hw (kk ls hl)
      · rename_i w hw
        cases hs
        exact key _ hw (kk ls hl)
      · cases hs
    · cases hs
  | arraylength =>
    simp only [am_vb, decide_eq_true_eq] at hv
    subst hv
    simp only [am_s] at hs
    split at hs
    · rename_i a r
      unfold am_pN at hs
      split at hs
      · rename_i w hw
        cases hs
        unfold am_ln at hw
        split at hw
        · rename_i t n g hcell
          split at hw
          · rename_i ht
            have hw2 := Option.some.inj hw
            have htt : ∃ ty, (am_tys cA)[t]? = some (cA t, ty) := by
              rcases (by omega : t = 0 ∨ t = 1 ∨ t = 2 ∨ t = 3) with rfl | rfl | rfl | rfl
              · exact ⟨_, rfl⟩
              · exact ⟨_, rfl⟩
              · exact ⟨_, rfl⟩
              · exact ⟨_, rfl⟩
            obtain ⟨ty, htt⟩ := htt
            exact va_alen (ws := [(a, .inl (cA t, n, g))]) hx hb hK.1 (am_P1 (hW.2 a _ hcell)) 0 t rfl htt hw2 hd (kk ls hl)
          · cases hw
        · cases hw
      · cases hs
    · cases hs
  | invokespecial k =>
    simp only [am_s] at hs
    split at hs
    · rename_i a r
      split at hs
      · rename_i hy
        obtain ⟨rfl, hg⟩ := hy
        cases hs
        simp only [am_vb, Bool.and_eq_true, decide_eq_true_eq, if_true] at hv
        obtain ⟨rfl, hv⟩ := hv
        split at hv
        · simp only [Bool.and_eq_true] at hv
          obtain ⟨⟨w1, w2⟩, w3⟩ := hv
          have hg2 := am_g_cat _ _ hg
          exact W.objInit hx hb hown (hts _ (am_wd_in w1)) (hts _ (am_wd_in w2)) (hts _ (am_wd_in w3)) rfl (by rw [hml]; exact hl.1) rfl hd hR.1 (by show 2 * 0 + _ + 12 ≤ _; omega) (kk ls hl)
        · cases hv
      · cases hs
    · cases hs
  | invokestatic k =>
    simp only [am_s] at hs
    split at hs
    · rename_i hy
      subst hy
      simp only [am_vb, Bool.and_eq_true, decide_eq_true_eq, if_true] at hv
      obtain ⟨rfl, hv⟩ := hv
      unfold am_m2 at hs
      split at hs
      · split at hs
        · rename_i hg
          cases hs
          split at hv
          · simp only [Bool.and_eq_true] at hv
            obtain ⟨⟨⟨w1, w2⟩, w3⟩, w4⟩ := hv
            have hg2 := am_g_cat _ _ hg
            exact va_mmax hx hb (by rw [hml, hl.1]) hown (hts _ (am_wd_in w1)) (hts _ (am_wd_in w2)) (hts _ (am_wd_in w3)) (hts _ (am_wd_in w4)) hR.1 (by omega) hcs.1 hcs.2 hd (kk ls hl)
          · cases hv
        · cases hs
      · cases hs
    · split at hs
      · rename_i hy hy2
        subst hy2
        simp only [am_vb, Bool.and_eq_true, decide_eq_true_eq] at hv
        obtain ⟨rfl, hv⟩ := hv
        rw [if_neg (by decide), if_pos trivial] at hv
        unfold am_m2 at hs
        split at hs
        · split at hs
          · rename_i hg
            cases hs
            split at hv
            · simp only [Bool.and_eq_true] at hv
              obtain ⟨⟨⟨w1, w2⟩, w3⟩, w4⟩ := hv
              have hg2 := am_g_cat _ _ hg
              exact va_mmin hx hb (by rw [hml, hl.1]) hown (hts _ (am_wd_in w1)) (hts _ (am_wd_in w2)) (hts _ (am_wd_in w3)) (hts _ (am_wd_in w4)) hR.1 (by omega) hcs.1 hcs.2 hd (kk ls hl)
            · cases hv
          · cases hs
        · cases hs
      · cases hs
  | _ => exact absurd hs (by simp [am_s])
end AMS
end
section
theorem am_bool {w : Int32} (h : w &&& 1 = w) : w = 0 ∨ w = 1 := by
  have e := pk_and w (m := 1) 1 (by decide)
  rw [h] at e
  have h2 : w.toBitVec.toNat % 2 ^ 1 < 2 := Nat.mod_lt _ (by decide)
  rcases (by omega : w.toBitVec.toNat % 2 ^ 1 = 0 ∨ w.toBitVec.toNat % 2 ^ 1 = 1) with g | g
  · left; rw [e, g]; rfl
  · right; rw [e, g]; rfl
theorem am_fok_spec {x y : Nat} {v : Value} (h : am_fok x y v = true) : narrow (am_tf x y) v = v ∧ fits (am_tf x y) v = true := by
  unfold am_fok at h
  split at h
  · rename_i w
    unfold am_ft at h
    cases ht : am_tf x y with
    | int => exact ⟨rfl, rfl⟩
    | boolean =>
      rw [ht] at h
      have hw : w &&& 1 = w := by simpa using h
      refine ⟨by show Value.int (w &&& 1) = _; rw [hw], ?_⟩
      show (w == 0 || w == 1) = true
      rcases am_bool hw with g | g <;> rw [g] <;> rfl
    | _ => rw [ht] at h; cases h
  · unfold am_ft at h
    cases ht : am_tf x y with
    | object n => exact ⟨rfl, rfl⟩
    | array n => exact ⟨rfl, rfl⟩
    | _ => rw [ht] at h; cases h
  · cases h
section AMT
variable {p : Program} {l : Launch} {e : Env} {R : Room} {s : State} {m : MethodId} {args : Array Value} {below : List Frame} {meth : Method} {c : Code} {H : Heap} {locs : List Loc} {cells slots : Nat} {Q : State → Prop}
variable {D : va_G} {cA : Nat → ClassId} {j pc : Nat} {ls : Array Slot} {z : Nat}
theorem am_lays {x : Nat} {C : String} {T : u_T} {N : Nat} (h1 : am_cl[x]? = some (C, T, N)) (hts : ∀ w ∈ am_WS, w.before args s = true) {y : Nat} (h2 : y < N) : (Cond.lays C (T y).1 (T y).2.1 (T y).2.2.1).before args s = true ∨ (Cond.laysFinal C (T y).1 (T y).2.1 (T y).2.2.1).before args s = true := u_lays hts (am_lay h1) h2
set_option maxHeartbeats 4000000 in
theorem am_pput (hc : am_cx p c meth j s m args D cA) {k x y a : Nat} {ts : List Nat} {h : am_H} {r : List Value} {v : Value} {en : am_E} (hd : decode (am_by j) pc = .ok (.putfield k, 3)) (hfw : am_fw j k x y ts = true) (hfp : am_fp j x y = true) (hok : am_fok x y v = true) (hpf : am_pf (h.1 a) x y v = some en) (hz : z ≤ a) (hW : am_W D cA h H) (hS : va_S (fun q => z ≤ q) s.heap H locs)
    (kk : ∀ H' locs', am_W D cA (am_up h a en) H' → va_S (fun q => z ≤ q) s.heap H' locs' → W p l e R s m args below meth c H' locs' cells slots Q (F0 m (pc + 3) ls r)) : W p l e R s m args below meth c H locs cells slots Q (F0 m pc ls (v :: .ref a :: r)) := by
  obtain ⟨hx, hb, hml, hown, hts, hK, hnm⟩ := hc
  obtain ⟨C, T, N, h1, h2, h3⟩ := am_fw_spec hfw
  obtain ⟨hn, hfit⟩ := am_fok_spec hok
  obtain ⟨hty, hnames⟩ := am_clok h1
  have hpf2 : ∃ fs, h.1 a = some (.inr (x, fs)) ∧ y < fs.length ∧ en = .inr (x, am_st fs y v) := by
    unfold am_pf at hpf
    split at hpf
    · rename_i ci fs hcell
      split at hpf
      · rename_i hci
        obtain ⟨hci, hlen⟩ := hci
        subst hci
        exact ⟨fs, hcell, hlen, (Option.some.inj hpf).symm⟩
      · cases hpf
    · cases hpf
  obtain ⟨fs, hcell, hlen, hen⟩ := hpf2
  have hat := hW.2 a _ hcell
  obtain ⟨rr, g1, cell, q1, q2, q3, q4⟩ := hat
  have hr : rr = (C, T, N) := Option.some.inj (g1.symm.trans h1)
  subst hr
  have hap := va_apart (own := (am_y j).cls) hts (am_lay h1) (am_tf x) hty hnames hK.1 h1
  obtain ⟨hSl, hfc, kC, hkC, hkind⟩ := hK.1.1 x _ h1
  obtain ⟨cf, kf, fi, f, hi, hsl⟩ := hSl y h2
  have hst := (u_facts hfc hkC (am_lays h1 hts h2) hi).1
  have fin : ∀ (H' : Heap), H'[a]? = some (cell.setSlot f.slot v) → H'.size = H.size → (∀ q, q ≠ a → H'[q]? = H[q]?) → W p l e R s m args below meth c H' (locs ++ [⟨a, f.slot⟩]) cells slots Q (F0 m (pc + 3) ls r) := by
    intro H' e1 e2 e3
    rw [hsl] at e1 ⊢
    refine kk H' _ ?_ (hS.put e2 e3 hz)
    rw [hen, am_st_set]
    exact hW.up ⟨_, h1, t_OB.to (V := updV (vp_V fs) y v) ⟨_, e1, q2, q3, t_set q4 hap h2 v⟩ (fun j _ => vp_updV_set hlen v j)⟩ e2 e3
  have hlay := hts _ (am_lay h1 _ (u_in_lay h2))
  have hfp2 : (T y).2.2.2 = true → (am_y j).name = "<init>" ∧ (T y).1 = (am_y j).cls := by
    intro hf
    unfold am_fp at hfp
    rw [h1] at hfp
    dsimp only at hfp
    rw [if_pos hf] at hfp
    simpa using hfp
  unfold u_lay at hlay
  by_cases hf : (T y).2.2.2 = true
  · obtain ⟨hin, hdecl⟩ := hfp2 hf
    rw [if_pos hf] at hlay
    have hcf : m.cls = cf := by
      obtain ⟨_, _, c', _, _, _, -, -, hf', -, -, -, hown2, -⟩ := Cond.laysFinal_spec hlay
      have e1 : c' = cf := by have := hi.symm.trans hf'; simp at this; exact this.1.symm
      rw [hdecl] at hown2
      rw [← e1]; exact Option.some.inj (hown.symm.trans hown2)
    have h6 := u_fits hfc hkC hkind (Or.inr hlay) hi (hty y h2) hn hfit
    rcases h3 with h3 | ⟨hst2, h3⟩
    · exact W.putFinK hx hb hown (hts _ h3) hi hst hcf (by rw [hnm]; exact hin) (by rw [q2]; exact h6) q1 q3 (by rw [hsl]; exact k2_hasslot (q4 y h2)) rfl rfl hd fin
    · have ha : a < H.size := (Array.getElem?_eq_some_iff.mp q1).1
      refine va_Wputf hx hb hown (va_Nw.use rfl (hK.2.1 _ h3 rfl)) hi hst (Or.inr ⟨hcf, by rw [hnm]; exact hin⟩) q1 (by rw [q3]; exact fun h => by cases h) (by rw [hsl]; exact k2_hasslot (q4 y h2)) h6.1 (by rw [q2, q3]; exact h6.2) rfl rfl hd (fin _ ?_ ?_ ?_)
      · simp [Array.getElem?_setIfInBounds, ha]
      · simp
      · intro q hq
        simp [Array.getElem?_setIfInBounds, Ne.symm hq]
  · rw [if_neg hf] at hlay
    have h6 := u_store hfc hkC hkind hlay hi (hty y h2) hn hfit
    rcases h3 with h3 | ⟨hst2, h3⟩
    · exact W.putK hx hb (f := f) ⟨hown, hts _ h3, ⟨_, _, _, hi⟩, hst⟩ (by rw [q2]; exact h6) q1 q3 (by rw [hsl]; exact k2_hasslot (q4 y h2)) rfl rfl hd fin
    · exact va_WputK hx hb (f := f) hown (va_Nw.use rfl (hK.2.1 _ h3 rfl)) hi hst (by rw [q2]; exact h6) q1 q3 (by rw [hsl]; exact k2_hasslot (q4 y h2)) rfl rfl hd fin
set_option maxHeartbeats 4000000 in
theorem am_ww (hc : am_cx p c meth j s m args D cA) (hR : 1 ≤ R.frames ∧ 40 ≤ R.locals) {i : Instr} {l' x y a : Nat} {cc : Int32} {ts : List Nat} {lo : am_L} {st r : List Value} {h : am_H} {en : am_E} (hd : decode (am_by j) pc = .ok (i, l')) (hv : am_vb j pc (i, l', x, y, cc, ts) = true) (hs : am_w z i x y st h = some (r, a, en)) (hl : am_rl (am_mx j) ls lo) (hW : am_W D cA h H) (hS : va_S (fun q => z ≤ q) s.heap H locs)
    (kk : ∀ H' locs', am_W D cA (am_up h a en) H' → va_S (fun q => z ≤ q) s.heap H' locs' → W p l e R s m args below meth c H' locs' cells slots Q (F0 m (pc + l') ls r)) : W p l e R s m args below meth c H locs cells slots Q (F0 m pc ls st) := by
  have h1 : ∀ {z a b : Nat} {st r : List Value} {o : Option am_E} {en : am_E}, am_w1 z a st o = some (r, b, en) → z ≤ b ∧ r = st ∧ b = a ∧ o = some en := by
    intro z a b st r o en h
    unfold am_w1 at h
    split at h
    · split at h
      · cases h; exact ⟨by assumption, rfl, rfl, rfl⟩
      · cases h
    · cases h
  cases i with
  | putfield k =>
    simp only [am_vb, Bool.and_eq_true, decide_eq_true_eq] at hv
    obtain ⟨⟨rfl, hv⟩, hfp⟩ := hv
    simp only [am_w] at hs
    split at hs
    · split at hs
      · rename_i hok
        obtain ⟨hz, rfl, rfl, ho⟩ := h1 hs
        exact am_pput hc hd hv hfp hok ho hz hW hS kk
      · cases hs
    · cases hs
  | iastore =>
    obtain ⟨hx, hb, hml, hown, hts, hK, hnm⟩ := hc
    simp only [am_vb, decide_eq_true_eq] at hv
    subst hv
    simp only [am_w] at hs
    split at hs
    · rename_i v k a' r'
      obtain ⟨hz, rfl, rfl, ho⟩ := h1 hs
      unfold am_wi at ho
      split at ho
      · rename_i t n g hcell
        split at ho
        · rename_i ht
          subst ht
          split at ho
          · rename_i w hw
            obtain ⟨hin, rfl⟩ := am_ix_spec hw
            have ho := Option.some.inj ho
            refine W.iast hx hb (hW.2 _ _ hcell) ((hK.1.2 0 _ rfl).1 n (fun j => .int (g j))) (fun q => by cases q) (by show ¬ (k < 0 ∨ (arrV _ _ _).slots.size ≤ _); rw [arrV_size]; exact hin) rfl rfl hd fun H1 e z1 oq => ?_
            refine kk H1 _ ?_ (hS.put z1 oq hz)
            rw [← ho]
            refine hW.up ?_ z1 oq
            show H1[_]? = some (vp_cell _ _)
            rw [e]
            show some ((vp_cell _ _).setSlot _ _) = _
            rw [vp_cell_i, vp_cell_i, arrV_store]
            congr 2
            funext q
            by_cases hq : q = k.toNatClampNeg
            · subst hq
              simp [updV, upd]
            · simp [updV, upd, hq]
          · cases ho
        · cases ho
      · cases ho
    · cases hs
  | bastore =>
    obtain ⟨hx, hb, hml, hown, hts, hK, hnm⟩ := hc
    simp only [am_vb, decide_eq_true_eq] at hv
    subst hv
    simp only [am_w] at hs
    split at hs
    · rename_i v k a' r'
      obtain ⟨hz, rfl, rfl, ho⟩ := h1 hs
      unfold am_wi at ho
      split at ho
      · rename_i t n g hcell
        split at ho
        · rename_i ht
          subst ht
          split at ho
          · rename_i w hw
            obtain ⟨hin, rfl⟩ := am_ix_spec hw
            have ho := Option.some.inj ho
            refine W.zast hx hb (hW.2 _ _ hcell) ((hK.1.2 1 _ rfl).1 n (fun j => .int (g j))) (fun q => by cases q) (by show ¬ (k < 0 ∨ (arrV _ _ _).slots.size ≤ _); rw [arrV_size]; exact hin) rfl rfl hd fun H1 e z1 oq => ?_
            refine kk H1 _ ?_ (hS.put z1 oq hz)
            rw [← ho]
            refine hW.up ?_ z1 oq
            show H1[_]? = some (vp_cell _ _)
            rw [e]
            show some ((vp_cell _ _).setSlot _ _) = _
            rw [vp_cell_i, vp_cell_i, arrV_store]
            congr 2
            funext q
            by_cases hq : q = k.toNatClampNeg
            · subst hq
              simp [updV, upd, narrow]
            · simp [updV, upd, hq]
          · cases ho
        · cases ho
      · cases ho
    · cases hs
  | aastore =>
    obtain ⟨hx, hb, hml, hown, hts, hK, hnm⟩ := hc
    simp only [am_vb, decide_eq_true_eq] at hv
    subst hv
    simp only [am_w] at hs
    split at hs
    · rename_i v k a' r'
      obtain ⟨hz, rfl, rfl, ho⟩ := h1 hs
      unfold am_wq at ho
      split at ho
      · rename_i t n g hcell
        split at ho
        · rename_i ht
          obtain ⟨ht1, ht2, hko⟩ := ht
          obtain ⟨rc, hrc, htt⟩ := am_tyA hK.1 ⟨ht1, ht2⟩
          split at ho
          · rename_i w hw
            obtain ⟨hin, rfl⟩ := am_ix_spec hw
            have ho := Option.some.inj ho
            have hlt : k.toNatClampNeg < n := Nat.not_le.mp fun q => hin (Or.inr q)
            have h0 : ¬ k < 0 := fun q => hin (Or.inl q)
            have hev : ∃ fs, h.1 v = some (.inr (am_ec t, fs)) := by
              unfold am_ko at hko
              split at hko
              · rename_i ck fs hcv
                cases hko
                exact ⟨fs, hcv⟩
              · cases hko
            obtain ⟨fs, hcv⟩ := hev
            obtain ⟨r', hr', cellV, g1, g2, g3, -⟩ := hW.2 v _ hcv
            have hcls := (hK.1.1 (am_ec t) rc hrc).2
            obtain ⟨kA, comp, k1, k2, k3, -⟩ := (hK.1.2 t _ htt).2
            have hcomp : comp = D.1 (am_ec t) := Option.some.inj (k3.symm.trans hcls.1)
            subst hcomp
            obtain ⟨kC, hkC, -⟩ := hcls.2
            refine W.aast hx hb (hW.2 _ _ hcell) (fun q h => by cases h) (fun h => by cases h) k1 k2 rfl hkC ⟨h0, by show _ < (arrV _ _ _).slots.size; rw [arrV_size]; exact hlt⟩ g1 (fun q h => by rw [g3] at h; cases h) (by rw [g2]; exact hkC) (by rw [g2]; exact va_assign hcls) rfl rfl hd fun H1 e z1 oq => ?_
            refine kk H1 _ ?_ (hS.put z1 oq hz)
            rw [← ho]
            refine hW.up ?_ z1 oq
            show H1[_]? = some (vp_cell _ _)
            rw [e]
            show some ((vp_cell _ _).setSlot _ _) = _
            rw [vp_cell_q, vp_cell_q, arrV_store]
            congr 2
            funext q
            by_cases hq : q = k.toNatClampNeg
            · subst hq
              simp [updV, va_up, va_rf]
            · simp [updV, va_up, hq]
          · cases ho
        · cases ho
      · cases ho
    · cases hs
  | invokestatic k =>
    obtain ⟨hx, hb, hml, hown, hts, hK, hnm⟩ := hc
    simp only [am_w] at hs
    split at hs
    · rename_i n dp b sp a' r'
      split at hs
      · rename_i hy
        obtain ⟨rfl, hab, hg⟩ := hy
        subst hab
        obtain ⟨hz, hr, ha, ho⟩ := h1 hs
        subst hr
        subst ha
        simp only [am_vb, Bool.and_eq_true, decide_eq_true_eq] at hv
        obtain ⟨rfl, hv⟩ := hv
        rw [if_neg (by decide), if_neg (by decide), if_pos trivial] at hv
        split at hv
        · simp only [Bool.and_eq_true] at hv
          obtain ⟨⟨⟨w1, w2⟩, w3⟩, w4⟩ := hv
          have hg2 := am_g_cat _ _ hg
          unfold am_cp at ho
          split at ho
          · rename_i c1 n1 g hc1
            split at ho
            · rename_i hcond
              obtain ⟨rfl, q1, q2, q3, q4, q5⟩ := hcond
              have ho := Option.some.inj ho
              have nn : ∀ z : Int32, ¬ z < 0 → z.toInt = (z.toNatClampNeg : Int) := by
                intro z hz
                have hz0 : (0 : Int) ≤ z.toInt := by
                  have := Int32.not_lt.mp hz
                  simpa using Int32.le_iff_toInt_le.mp this
                show z.toInt = ((z.toInt.toNat : Nat) : Int)
                omega
              intro T hT X
              have hcc : H[a]? = some (vp_cell (cA 0) (n1, .inl g)) := hW.2 a _ hc1
              obtain ⟨-, k0, hk0, cm0, hkk0⟩ := (hK.1.2 0 _ rfl).1 n1 (fun j => .int (g j))
              obtain ⟨vm', X', step⟩ := X.arraycopy hx hown (hts _ (am_wd_in w1)) (hts _ (am_wd_in w2)) (hts _ (am_wd_in w3)) (hts _ (am_wd_in w4)) (src := a) (dst := a) (cs := vp_cell (cA 0) (n1, .inl g)) (cd := vp_cell (cA 0) (n1, .inl g)) (srcPos := sp) (destPos := dp) (n := n) (by rw [hT]; exact hcc) (by rw [hT]; exact hcc)
                (fun _ h => by cases h) (fun _ h => by cases h) (fun h => by cases h) (fun h => by cases h) hk0 hk0 hkk0 hkk0 (by simp [show refKind .int = false from rfl]) q1 q2 q3
                (by rw [nn sp q1, nn n q3]; show ¬ _ > ((arrV (cA 0) n1 (fun j => .int (g j))).slots.size : Int); rw [arrV_size]; omega)
                (by rw [nn dp q2, nn n q3]; show ¬ _ > ((arrV (cA 0) n1 (fun j => .int (g j))).slots.size : Int); rw [arrV_size]; omega)
                (fun vm₁ _ i hi => by
                  have e : (vp_cell (cA 0) (n1, .inl g)).slots.getD (sp.toNatClampNeg + i) .null = .int (g (sp.toNatClampNeg + i)) := by
                    show (arrV (cA 0) n1 (fun j => .int (g j))).slots.getD _ _ = _
                    rw [Array.getD_eq_getD_getElem?, arrV_read _ _ (by omega)]
                    rfl
                  refine ⟨?_, ?_⟩
                  · rw [e]
                    rfl
                  · rw [e]
                    exact trivial)
                (g := F0 m pc ls (.int n :: .int dp :: .ref a :: .int sp :: .ref a :: r)) rfl (by rw [hml]; exact hl.1) (rest := r) rfl (by rw [hb]; exact hd) hR.1 (by show 2 * 0 + _ + (7 + 11) ≤ _; omega)
              have e1 : copied (vp_cell (cA 0) (n1, .inl g)) (vp_cell (cA 0) (n1, .inl g)) sp dp n = vp_cell (cA 0) (n1, .inl (va_cpy g g sp.toNatClampNeg dp.toNatClampNeg n.toNatClampNeg)) := va_copied (fun z => .int z) (cA 0) (cA 0) g g q4
              rw [e1] at X' step
              have hlt : a < H.size := (Array.getElem?_eq_some_iff.mp hcc).1
              have hheap : ((T.setVm vm').setCell a (vp_cell (cA 0) (n1, .inl (va_cpy g g sp.toNatClampNeg dp.toNatClampNeg n.toNatClampNeg)))).heap = H.setIfInBounds a (vp_cell (cA 0) (n1, .inl (va_cpy g g sp.toNatClampNeg dp.toNatClampNeg n.toNatClampNeg))) := by rw [← hT]; rfl
              have oq : ∀ q : Nat, q ≠ a → (H.setIfInBounds a (vp_cell (cA 0) (n1, .inl (va_cpy g g sp.toNatClampNeg dp.toNatClampNeg n.toNatClampNeg))))[q]? = H[q]? := fun q hq => by simp [Array.getElem?_setIfInBounds, Ne.symm hq]
              obtain ⟨t, a1, b1⟩ := kk (H.setIfInBounds a (vp_cell (cA 0) (n1, .inl (va_cpy g g sp.toNatClampNeg dp.toNatClampNeg n.toNatClampNeg)))) _ (by
                  rw [← ho]
                  refine hW.up ?_ (by simp) oq
                  show (H.setIfInBounds a _)[a]? = some (vp_cell _ _)
                  simp [Array.getElem?_setIfInBounds, hlt]) ⟨by simp; exact hS.1, fun q g1 g2 => by
                  rw [oq q (fun e => g2 (by rw [e]; exact hz))]
                  exact hS.2.1 q g1 g2, fun q hq => by
                  rcases List.mem_append.mp hq with h | h
                  · exact hS.2.2 q h
                  · obtain ⟨z, -, hz2⟩ := List.mem_map.mp h
                    rw [← hz2]
                    exact hz⟩ _ hheap X'
              exact ⟨t, step t a1, b1⟩
            · cases ho
          · cases ho
        · cases hv
      · cases hs
    · cases hs
  | _ => exact absurd hs (by simp [am_w])
end AMT
end
section
section AMN
variable {p : Program} {l : Launch} {e : Env} {R : Room} {s : State} {m : MethodId} {args : Array Value} {below : List Frame} {meth : Method} {c : Code} {H : Heap} {locs : List Loc} {cells slots : Nat} {Q : State → Prop}
variable {D : va_G} {cA : Nat → ClassId} {j pc : Nat} {ls : Array Slot} {z : Nat}
set_option maxHeartbeats 4000000 in
theorem am_nn (hc : am_cx p c meth j s m args D cA) {i : Instr} {l' x y k : Nat} {cc : Int32} {ts : List Nat} {st r : List Value} {h : am_H} {en : am_E} (hd : decode (am_by j) pc = .ok (i, l')) (hv : am_vb j pc (i, l', x, y, cc, ts) = true) (hs : am_n i x y st = some (r, en, k)) (hW : am_W D cA h H) (hS : va_S (fun q => z ≤ q) s.heap H locs) (hcells : cells + 1 ≤ R.cells) (hslots : slots + k ≤ R.slots)
    (kk : ∀ H', am_W D cA (am_nw h en k) H' → va_S (fun q => z ≤ q) s.heap H' locs → W p l e R s m args below meth c H' locs (cells + 1) (slots + k) Q (F0 m (pc + l') ls (.ref h.2.1 :: r))) : W p l e R s m args below meth c H locs cells slots Q (F0 m pc ls st) := by
  obtain ⟨hx, hb, hml, hown, hts, hK, hnm⟩ := hc
  have hSn : ∀ H1 : Heap, H1.size = H.size + 1 → (∀ q : Nat, q < H.size → H1[q]? = H[q]?) → va_S (fun q => z ≤ q) s.heap H1 locs := fun H1 z1 o1 => ⟨Nat.le_trans hS.1 (by omega), fun q h1 h2 => (o1 q (Nat.lt_of_lt_of_le h1 hS.1)).trans (hS.2.1 q h1 h2), hS.2.2⟩
  cases i with
  | new idx =>
    simp only [am_vb, Bool.and_eq_true, decide_eq_true_eq] at hv
    obtain ⟨rfl, hv⟩ := hv
    split at hv
    · rename_i C T N p1 p2 p3 h1
      simp only [Bool.and_eq_true, decide_eq_true_eq] at hv
      obtain ⟨⟨⟨rfl, w1⟩, w2⟩, w3⟩ := hv
      cases hs
      obtain ⟨hty, hnames⟩ := am_clok h1
      have hKn := hK.1.1 x _ h1
      refine W.newcK hx hb hown (hts _ (am_wd_in w1)) (hts _ (am_wd_in w2)) (hts _ (am_wd_in w3)) rfl hd hcells hslots hKn.2.1 hW.1 fun H1 kC hkC e1 z1 o1 => ?_
      rw [← hW.1] at e1 z1 o1
      exact kk H1 (hW.nw ⟨_, h1, (u_born (am_tf x) hts (am_lay h1) hKn hkC e1 hty).to (am_dfok h1)⟩ z1 o1) (hSn H1 z1 o1)
    · cases hv
  | newarray t =>
    simp only [am_vb, Bool.and_eq_true, Bool.or_eq_true, decide_eq_true_eq] at hv
    obtain ⟨⟨rfl, hv⟩, hv2⟩ := hv
    split at hv
    · simp only [am_n] at hs
      split at hs
      · rename_i n r'
        split at hs
        · rename_i hn
          cases hs
          rcases hv2 with ⟨ht, rfl⟩ | ⟨ht, rfl⟩
          · refine va_newaK hx hb (hts _ (am_wd_in hv)) rfl hd rfl hn.1 rfl (by rw [ht]; show _ * 4 ≤ _; have := hn.2; omega) hcells hslots hW.1 fun H1 cA' e1 z1 o1 hAr hNm => ?_
            rw [← hW.1] at e1 z1 o1
            rw [ht] at e1 hNm
            have hcA : cA' = cA 0 := Option.some.inj (hNm.symm.trans (hK.1.2 0 _ rfl).2)
            subst hcA
            exact kk H1 (hW.nw e1 z1 o1) (hSn H1 z1 o1)
          · refine va_newaK hx hb (hts _ (am_wd_in hv)) rfl hd rfl hn.1 rfl (by rw [ht]; show _ * 1 ≤ _; have := hn.2; omega) hcells hslots hW.1 fun H1 cA' e1 z1 o1 hAr hNm => ?_
            rw [← hW.1] at e1 z1 o1
            rw [ht] at e1 hNm
            have hcA : cA' = cA 1 := Option.some.inj (hNm.symm.trans (hK.1.2 1 _ rfl).2)
            subst hcA
            exact kk H1 (hW.nw e1 z1 o1) (hSn H1 z1 o1)
        · cases hs
      · cases hs
    · cases hv
  | anewarray idx =>
    simp only [am_vb, Bool.and_eq_true, decide_eq_true_eq] at hv
    obtain ⟨rfl, hv⟩ := hv
    split at hv
    · simp only [Bool.and_eq_true, Bool.or_eq_true, decide_eq_true_eq] at hv
      simp only [am_n] at hs
      split at hs
      · rename_i n r'
        split at hs
        · rename_i hn
          cases hs
          rcases hv with ⟨rfl, w1⟩ | ⟨rfl, w1⟩
          · refine W.anew hx hb hown (hts _ (am_wd_in w1)) (va_AO.use hK.2.2.1) rfl hd rfl hn.1 (by have := hn.2; omega) hcells hslots fun cA' kA comp f1 f2 f3 f4 => ?_
            have hcA : cA' = cA 2 := by
              obtain ⟨_, _, _, _, _, q⟩ := (hK.1.2 2 _ rfl).2
              exact Option.some.inj (f1.symm.trans q)
            subst hcA
            generalize hH1 : H.push ({ cls := cA 2, slots := Array.replicate n.toNatClampNeg .null, vm := .none } : Cell) = H1
            have z1 : H1.size = H.size + 1 := by rw [← hH1, Array.size_push]
            have e1 : H1[H.size]? = some (arrV (cA 2) n.toNatClampNeg (fun _ => .null)) := by rw [← hH1, Array.getElem?_push_size, ← arrV_new]
            have o1 : ∀ q : Nat, q < H.size → H1[q]? = H[q]? := fun q hq => by rw [← hH1, Array.getElem?_push, if_neg (Nat.ne_of_lt hq)]
            have k2 := kk H1 (hW.nw e1 z1 o1) (hSn H1 z1 o1)
            rw [← hW.1] at k2
            exact k2
          · refine W.anew hx hb hown (hts _ (am_wd_in w1)) (va_AO.use hK.2.2.2) rfl hd rfl hn.1 (by have := hn.2; omega) hcells hslots fun cA' kA comp f1 f2 f3 f4 => ?_
            have hcA : cA' = cA 3 := by
              obtain ⟨_, _, _, _, _, q⟩ := (hK.1.2 3 _ rfl).2
              exact Option.some.inj (f1.symm.trans q)
            subst hcA
            generalize hH1 : H.push ({ cls := cA 3, slots := Array.replicate n.toNatClampNeg .null, vm := .none } : Cell) = H1
            have z1 : H1.size = H.size + 1 := by rw [← hH1, Array.size_push]
            have e1 : H1[H.size]? = some (arrV (cA 3) n.toNatClampNeg (fun _ => .null)) := by rw [← hH1, Array.getElem?_push_size, ← arrV_new]
            have o1 : ∀ q : Nat, q < H.size → H1[q]? = H[q]? := fun q hq => by rw [← hH1, Array.getElem?_push, if_neg (Nat.ne_of_lt hq)]
            have k2 := kk H1 (hW.nw e1 z1 o1) (hSn H1 z1 o1)
            rw [← hW.1] at k2
            exact k2
        · cases hs
      · cases hs
    · cases hv
  | _ => exact absurd hs (by simp [am_n])
theorem am_pop_spec : ∀ (n : Nat) (st acc av st' : List Value), am_pop n st acc = some (av, st') → ∃ pre, av = pre ++ acc ∧ st = pre.reverse ++ st' ∧ pre.length = n
  | 0, st, acc, av, st', h => by
    cases h
    exact ⟨[], rfl, rfl, rfl⟩
  | n + 1, [], acc, av, st', h => by cases h
  | n + 1, v :: st, acc, av, st', h => by
    obtain ⟨pre, h1, h2, h3⟩ := am_pop_spec n st (v :: acc) av st' h
    exact ⟨pre ++ [v], by rw [h1]; simp, by rw [h2]; simp, by simp [h3]⟩
def am_Qc (D : va_G) (cA : Nat → ClassId) (r : Option Value) (h' : am_H) (A : Nat → Prop) : Array Value → State → Outcome → State → Prop := fun _ st o t => o = .returned r ∧ am_W D cA h' t.heap ∧ va_F A st t
def am_Pc (D : va_G) (cA : Nat → ClassId) (av : List Value) (h : am_H) : Array Value → State → Prop := va_Pc av (fun U => am_KX D cA U ∧ am_W D cA h U.heap)
theorem am_Pc_blind {av : List Value} {h : am_H} : FrameBlind (am_Pc D cA av h) := fun a U g mk q => by
  obtain ⟨q0, q1, q2⟩ := q
  exact ⟨q0, q1.same (u := U) (U := U.calling g mk a) rfl, q2⟩
def am_rm (d mc ms : Nat) : Room := { frames := d, cells := mc, slots := ms, locals := 40 * d }
def am_ws (x : Nat) : List Cond := Cond.code (am_y x) (am_by x) (am_mx x) (am_rty x) :: am_WS
theorem am_cont {v : Option Value} {h1 : am_H} {st st' : List Value} {mc ms : Nat} {a : Array Value} (hr : va_Run p l e R s m args below meth c H locs cells slots mc ms (F0 m pc ls st) st' (am_Qc D cA v h1 (fun q => z ≤ q) a) (fun q => z ≤ q)) (hS : va_S (fun q => z ≤ q) s.heap H locs)
    (kk : ∀ H1 locs1, am_W D cA h1 H1 → va_S (fun q => z ≤ q) s.heap H1 locs1 → W p l e R s m args below meth c H1 locs1 (cells + mc) (slots + ms) Q (F0 m (pc + 3) ls (v.toList ++ st'))) : W p l e R s m args below meth c H locs cells slots Q (F0 m pc ls st) := by
  intro T hT X
  obtain ⟨v', st₀, t, T', L, h0, X', hL, e1, e2, ⟨hv, hw, hz, hk⟩, sx⟩ := hr T hT X
  cases hv
  rw [h0] at hz hk
  obtain ⟨t2, a1, b1⟩ := kk T'.heap (locs ++ L) (by rw [e1]; exact hw) ⟨Nat.le_trans hS.1 (by rw [e1]; exact hz), fun q h1 h2 => by rw [e1, hk q (Nat.lt_of_lt_of_le h1 hS.1) h2]; exact hS.2.1 q h1 h2, fun q hq => by
      rcases List.mem_append.mp hq with h | h
      · exact hS.2.2 q h
      · exact hL q h⟩ T' rfl X'
  exact ⟨t2, sx t2 a1, b1⟩
set_option maxHeartbeats 4000000 in
theorem am_cc (hc : am_cx p c meth j s m args D cA) {d : Nat} (hRf : d + 1 ≤ R.frames) (hRl : 40 * d + 40 ≤ R.locals) {i : Instr} {l' x y mc ms : Nat} {cc : Int32} {ts : List Nat} {lo : am_L} {st av st' : List Value} {h h1 : am_H} {v : Option Value} (hd : decode (am_by j) pc = .ok (i, l')) (hv : am_vb j pc (i, l', x, y, cc, ts) = true) (hs : am_ca i x y st h = some (av, st')) (hl : am_rl (am_mx j) ls lo) (hW : am_W D cA h H) (hS : va_S (fun q => z ≤ q) s.heap H locs) (hcells : cells + mc ≤ R.cells) (hslots : slots + ms ≤ R.slots)
    (hM : (∀ w ∈ av, w.category = 1) → av.length ≤ am_mx x → am_mok x = true → Met l (am_y x) (am_ws x) (am_rm d mc ms) (am_Pc D cA av h) (am_Qc D cA v h1 (fun q => z ≤ q)) mc ms (fun q => z ≤ q))
    (kk : ∀ H' locs', am_W D cA h1 H' → va_S (fun q => z ≤ q) s.heap H' locs' → W p l e R s m args below meth c H' locs' (cells + mc) (slots + ms) Q (F0 m (pc + l') ls (v.toList ++ st'))) : W p l e R s m args below meth c H locs cells slots Q (F0 m pc ls st) := by
  have hc0 := hc
  obtain ⟨hx, hb, hml, hown, hts, hK, hnm⟩ := hc
  have hkk : ∀ {o : Option (List Value × List Value)}, am_k o = some (av, st') → o = some (av, st') ∧ am_g 8 av = true ∧ am_g 8 st' = true := by
    intro o ho
    unfold am_k at ho
    split at ho
    · split at ho
      · rename_i hg
        cases ho
        exact ⟨rfl, hg⟩
      · cases ho
    · cases ho
  have hmk : am_mok x = true → Cond.code (am_y x) (am_by x) (am_mx x) (am_rty x) ∈ am_WS ∧ Cond.initialized (am_y x).cls ∈ am_WS ∧ (am_y x).cls ≠ "java/lang/invoke/MethodHandle" ∧ (am_y x).cls ≠ "java/lang/invoke/VarHandle" ∧ am_mx x ≤ 21 := by
    intro hm
    simp only [am_mok, Bool.and_eq_true, decide_eq_true_eq] at hm
    obtain ⟨⟨⟨⟨⟨m1, m2⟩, m3⟩, m4⟩, m5⟩, m6⟩ := hm
    exact ⟨am_wd_in m1, am_wd_in m2, m4, m5, m6⟩
  have hpay : am_mok x = true → ∀ w ∈ am_ws x, ∀ (a' : Array Value) (U : State), s.WarmedH U.vm → w.before a' U = true := by
    intro hm
    refine pay_in hts (fun w hw => ?_)
    have hin : w ∈ am_WS := by
      rcases List.mem_cons.mp hw with h | h
      · rw [h]; exact (hmk hm).1
      · exact h
    exact ⟨hin, good_of_word (List.mem_filter.mp hin).2⟩
  have hnp : ∀ n, am_np x = some n → ∀ sig, parseMethodDescriptor (am_y x).desc = some sig → n = sig.parameters.length := by
    intro n hn sig hsig
    unfold am_np at hn
    rw [hsig] at hn
    exact (Option.some.inj hn).symm
  have hpre : ∀ (U : State), U.heap = H → s.WarmedH U.vm → am_Pc D cA av h av.toArray U := fun U hU hWU => ⟨rfl, hK.moved hWU, by rw [hU]; exact hW⟩
  cases i with
  | invokevirtual k =>
    simp only [am_vb, Bool.and_eq_true, decide_eq_true_eq] at hv
    obtain ⟨⟨⟨⟨⟨⟨⟨rfl, v1⟩, v2⟩, v3⟩, v4⟩, v5⟩, v6⟩, v7⟩ := hv
    simp only [am_ca] at hs
    obtain ⟨ho, g1, g2⟩ := hkk hs
    unfold am_cv at ho
    split at ho
    · rename_i a t st2 hpop
      split at ho
      · rename_i hko
        cases ho
        obtain ⟨pre, p1, p2, p3⟩ := am_pop_spec _ _ _ _ _ hpop
        rw [List.append_nil] at p1
        subst p1
        have hlen : (Value.ref a :: t).length = y := p3
        have hM := hM (am_g_one _ _ g1) (by rw [hlen]; exact v4) v1
        obtain ⟨m1, m2, m4, m5, m6⟩ := hmk v1
        have hst : st = t.reverse ++ Value.ref a :: st' := by rw [p2]; simp
        have hcat := am_g_cat _ _ g2
        have hev : ∃ fs, h.1 a = some (.inr (am_kl x, fs)) := by
          unfold am_ko at hko
          split at hko
          · rename_i ck fs hcv
            cases hko
            exact ⟨fs, hcv⟩
          · cases hko
        obtain ⟨fs, hcv⟩ := hev
        have hcl : ∃ q : vw_C, am_cl[am_kl x]? = some q ∧ q.1 = (am_y x).cls := by
          cases hq : am_cl[am_kl x]? with
          | none => rw [hq] at v5; cases v5
          | some q => rw [hq] at v5; exact ⟨q, rfl, Option.some.inj v5⟩
        obtain ⟨q, hq1, hq2⟩ := hcl
        obtain ⟨n, hn⟩ : ∃ n, am_np x = some n ∧ n + 1 = y := by
          cases hnn : am_np x with
          | none => rw [hnn] at v3; cases v3
          | some n => rw [hnn] at v3; exact ⟨n, rfl, Option.some.inj v3⟩
        have hrecv := va_recv (ws := [(a, .inr (am_kl x, fs))]) (q0 := 0) hK.1 (am_P1 (hW.2 a _ hcv)) hq1 rfl
        rw [hq2] at hrecv
        have hp : PreV s H (am_y x).cls a (am_Pc D cA (Value.ref a :: t) h) t := ⟨am_Pc_blind, hrecv, hpre⟩
        rw [hst]
        refine am_cont (mc := mc) (ms := ms) (st' := st') (a := (Value.ref a :: t).toArray) ?_ hS kk
        rcases am_ml_spec v2 with w2 | ⟨hst2, w2⟩
        · exact va_runV (n := n) ⟨hx, hb, hml, hown, hts⟩ hM ⟨⟨rfl, rfl, hRf, by show 8 + (am_mx x + 11) + 40 * d ≤ _; omega, hpay v1, List.mem_cons_self, hts _ m1, hts _ m2, ⟨m4, m5⟩, hnp n hn.1, hts _ w2⟩, hts _ (am_wd_in v6), hts _ (am_wd_in v7)⟩ hp rfl (by have := hn.2; simp at hlen; omega) hl.1 rfl (by show 2 * 0 + _ ≤ _; omega) hd ⟨hcells, hslots⟩
        · exact va_runVN (n := n) (host := hst2) ⟨hx, hb, hml, hown, hts⟩ hM ⟨⟨⟨rfl, rfl, hRf, by show 8 + (am_mx x + 11) + 40 * d ≤ _; omega, hpay v1, List.mem_cons_self⟩, hts _ m1, hts _ m2, ⟨m4, m5⟩, hnp n hn.1, va_Nw.use rfl (hK.2.1 _ w2 rfl)⟩, hts _ (am_wd_in v6), hts _ (am_wd_in v7)⟩ hp rfl (by have := hn.2; simp at hlen; omega) hl.1 rfl (by show 2 * 0 + _ ≤ _; omega) hd ⟨hcells, hslots⟩
      · cases ho
    · cases ho
  | invokestatic k =>
    simp only [am_ca] at hs
    split at hs
    · rename_i hy
      obtain ⟨ho, g1, g2⟩ := hkk hs
      simp only [am_vb, Bool.and_eq_true, decide_eq_true_eq] at hv
      obtain ⟨rfl, hv⟩ := hv
      rw [if_neg (by omega), if_neg (by omega), if_neg (by omega)] at hv
      simp only [Bool.and_eq_true, decide_eq_true_eq] at hv
      obtain ⟨⟨⟨⟨v1, v2⟩, v3⟩, v4⟩, v6⟩ := hv
      obtain ⟨pre, p1, p2, p3⟩ := am_pop_spec _ _ _ _ _ ho
      rw [List.append_nil] at p1
      subst p1
      have hM := hM (am_g_one _ _ g1) (by rw [p3]; exact v4) v1
      obtain ⟨m1, m2, m4, m5, m6⟩ := hmk v1
      have hcat := am_g_cat _ _ g2
      have hp : PreS s H (am_Pc D cA av h) av := ⟨am_Pc_blind, hpre⟩
      rw [p2]
      refine am_cont (mc := mc) (ms := ms) (st' := st') (a := av.toArray) ?_ hS kk
      rcases am_ml_spec v2 with w2 | ⟨hst2, w2⟩
      · exact va_runS (n := y) ⟨hx, hb, hml, hown, hts⟩ hM ⟨⟨rfl, rfl, hRf, by show 8 + (am_mx x + 11) + 40 * d ≤ _; omega, hpay v1, List.mem_cons_self, hts _ m1, hts _ m2, ⟨m4, m5⟩, hnp y v3, hts _ w2⟩, hts _ (am_wd_in v6)⟩ hp rfl p3 hl.1 rfl (by show 2 * 0 + _ ≤ _; omega) hd ⟨hcells, hslots⟩
      · exact va_runSN (n := y) (host := hst2) ⟨hx, hb, hml, hown, hts⟩ hM ⟨⟨⟨rfl, rfl, hRf, by show 8 + (am_mx x + 11) + 40 * d ≤ _; omega, hpay v1, List.mem_cons_self⟩, hts _ m1, hts _ m2, ⟨m4, m5⟩, hnp y v3, va_Nw.use rfl (hK.2.1 _ w2 rfl)⟩, hts _ (am_wd_in v6), trivial⟩ hp rfl p3 hl.1 rfl (by show 2 * 0 + _ ≤ _; omega) hd ⟨hcells, hslots⟩
    · cases hs
  | invokespecial k =>
    simp only [am_ca] at hs
    split at hs
    · rename_i hy
      obtain ⟨ho, g1, g2⟩ := hkk hs
      simp only [am_vb, Bool.and_eq_true, decide_eq_true_eq] at hv
      obtain ⟨rfl, hv⟩ := hv
      rw [if_neg (by omega)] at hv
      simp only [Bool.and_eq_true, decide_eq_true_eq] at hv
      obtain ⟨⟨⟨⟨⟨⟨v1, v2⟩, v3⟩, v4⟩, v5⟩, v8⟩, v6⟩ := hv
      unfold am_cs at ho
      split at ho
      · rename_i a t st2 hpop
        cases ho
        obtain ⟨pre, p1, p2, p3⟩ := am_pop_spec _ _ _ _ _ hpop
        rw [List.append_nil] at p1
        subst p1
        have hlen : (Value.ref a :: t).length = y := p3
        have hM := hM (am_g_one _ _ g1) (by rw [hlen]; exact v4) v1
        obtain ⟨m1, m2, m4, m5, m6⟩ := hmk v1
        have hst : st = t.reverse ++ Value.ref a :: st' := by rw [p2]; simp
        have hcat := am_g_cat _ _ g2
        obtain ⟨n, hn⟩ : ∃ n, am_np x = some n ∧ n + 1 = y := by
          cases hnn : am_np x with
          | none => rw [hnn] at v3; cases v3
          | some n => rw [hnn] at v3; exact ⟨n, rfl, Option.some.inj v3⟩
        have hp : PreS s H (am_Pc D cA (Value.ref a :: t) h) (.ref a :: t) := ⟨am_Pc_blind, hpre⟩
        have hpay2 := hpay v1
        have hmem : Cond.code (am_y x) (am_by x) (am_mx x) none ∈ am_ws x := by rw [← v8]; exact List.mem_cons_self
        rw [v8] at m1
        rw [hst]
        refine am_cont (mc := mc) (ms := ms) (st' := st') (a := (Value.ref a :: t).toArray) ?_ hS kk
        rcases am_ml_spec v2 with w2 | ⟨hst2, w2⟩
        · exact va_runI (n := n) ⟨hx, hb, hml, hown, hts⟩ hM ⟨⟨rfl, rfl, hRf, by show 8 + (am_mx x + 11) + 40 * d ≤ _; omega, hpay2, hmem, hts _ m1, hts _ m2, ⟨m4, m5⟩, hnp n hn.1, hts _ w2⟩, v5, hts _ (am_wd_in v6)⟩ hp rfl (by have := hn.2; simp at hlen; omega) hl.1 rfl (by show 2 * 0 + _ ≤ _; omega) hd ⟨hcells, hslots⟩
        · exact va_runIN (n := n) (host := hst2) ⟨hx, hb, hml, hown, hts⟩ hM ⟨⟨⟨rfl, rfl, hRf, by show 8 + (am_mx x + 11) + 40 * d ≤ _; omega, hpay2, hmem⟩, hts _ m1, hts _ m2, ⟨m4, m5⟩, hnp n hn.1, va_Nw.use rfl (hK.2.1 _ w2 rfl)⟩, v5, hts _ (am_wd_in v6)⟩ hp rfl (by have := hn.2; simp at hlen; omega) hl.1 rfl (by show 2 * 0 + _ ≤ _; omega) hd ⟨hcells, hslots⟩
      · cases ho
    · cases hs
  | _ => exact absurd hs (by simp [am_ca])
end AMN
theorem am_run_mono {z : Nat} {C : Nat → List Value → am_H → Option Value → am_H → Prop} (hC : ∀ x av h v h1, C x av h v h1 → h.2.1 ≤ h1.2.1 ∧ h.2.2 ≤ h1.2.2) {j : Nat} : ∀ (n pc : Nat) (lo : am_L) (st : List Value) (h : am_H) (r : Option Value) (h' : am_H), am_run z C j n pc lo st h r h' → h.2.1 ≤ h'.2.1 ∧ h.2.2 ≤ h'.2.2 := by
  intro n
  induction n with
  | zero => intro pc lo st h r h' hn; exact hn.elim
  | succ n ih =>
    intro pc lo st h r h' hn
    unfold am_run at hn
    split at hn
    · exact hn.elim
    · split at hn
      · rw [hn.2]; exact ⟨Nat.le_refl _, Nat.le_refl _⟩
      · split at hn
        · obtain ⟨v, h1, a, b⟩ := hn
          have q1 := hC _ _ _ _ _ a
          have q2 := ih _ _ _ _ _ _ b
          omega
        · split at hn
          · have q2 := ih _ _ _ _ _ _ hn
            rw [am_up_2] at q2
            exact q2
          · split at hn
            · have q2 := ih _ _ _ _ _ _ hn
              rw [am_nw_2] at q2
              dsimp only at q2
              omega
            · split at hn
              · exact ih _ _ _ _ _ _ hn
              · exact hn.elim
theorem am_M_mono {z : Nat} : ∀ (d x : Nat) (av : List Value) (h : am_H) (v : Option Value) (h1 : am_H), am_M z d x av h v h1 → h.2.1 ≤ h1.2.1 ∧ h.2.2 ≤ h1.2.2 := by
  intro d
  induction d with
  | zero => intro x av h v h1 hm; exact hm.elim
  | succ d ih =>
    intro x av h v h1 hm
    obtain ⟨n, hn⟩ := hm
    exact am_run_mono ih n _ _ _ _ _ _ hn
section AMV
variable {p : Program} {l : Launch} {e : Env} {R : Room} {s : State} {m : MethodId} {args : Array Value} {below : List Frame} {meth : Method} {c : Code} {Q : State → Prop}
variable {D : va_G} {cA : Nat → ClassId} {j : Nat} {z : Nat}
set_option maxHeartbeats 4000000 in
theorem am_walk (hc : am_cx p c meth j s m args D cA) {d : Nat} (hRf : d + 1 ≤ R.frames) (hRl : 40 * d + 40 ≤ R.locals) {c0 s0 : Nat} {r : Option Value} {h' : am_H} (hRc : h'.2.1 - c0 ≤ R.cells) (hRs : h'.2.2 - s0 ≤ R.slots)
    (IH : ∀ x av h v h1, am_M z d x av h v h1 → (∀ w ∈ av, w.category = 1) → av.length ≤ am_mx x → am_mok x = true → Met l (am_y x) (am_ws x) (am_rm d (h1.2.1 - h.2.1) (h1.2.2 - h.2.2)) (am_Pc D cA av h) (am_Qc D cA v h1 (fun q => z ≤ q)) (h1.2.1 - h.2.1) (h1.2.2 - h.2.2) (fun q => z ≤ q))
    (hend : ∀ (pc : Nat) (i : Instr) (ls : Array Slot) (H : Heap) (locs : List Loc) (st : List Value), decode (am_by j) pc = .ok (i, 1) → am_rt (am_ret j) i st = some r → am_W D cA h' H → va_S (fun q => z ≤ q) s.heap H locs → W p l e R s m args below meth c H locs (h'.2.1 - c0) (h'.2.2 - s0) Q (F0 m pc ls st)) :
    ∀ (n pc : Nat) (lo : am_L) (st : List Value) (h : am_H) (H : Heap) (locs : List Loc) (ls : Array Slot), am_run z (am_M z d) j n pc lo st h r h' → am_rl (am_mx j) ls lo → am_W D cA h H → va_S (fun q => z ≤ q) s.heap H locs → c0 ≤ h.2.1 → s0 ≤ h.2.2 → W p l e R s m args below meth c H locs (h.2.1 - c0) (h.2.2 - s0) Q (F0 m pc ls st) := by
  intro n
  induction n with
  | zero => intro pc lo st h H locs ls hn; exact hn.elim
  | succ n ih =>
    intro pc lo st h H locs ls hn hl hW hS hc0 hs0
    have hmono := am_run_mono (am_M_mono d) (n + 1) _ _ _ _ _ _ hn
    unfold am_run at hn
    split at hn
    · exact hn.elim
    · rename_i i l' x y cc ts hcd
      obtain ⟨hd, hv⟩ := am_all hcd
      split at hn
      · rename_i v hrt
        obtain ⟨rfl, rfl⟩ := hn
        have hl1 : l' = 1 := by
          cases i <;> first | (simp only [am_vb, decide_eq_true_eq] at hv; exact hv) | (simp [am_rt] at hrt)
        subst hl1
        exact hend pc i ls H locs st hd hrt hW hS
      · split at hn
        · rename_i av st' hca
          obtain ⟨v, h1, hm, hn⟩ := hn
          have q1 := am_M_mono d _ _ _ _ _ hm
          have q2 := am_run_mono (am_M_mono d) n _ _ _ _ _ _ hn
          refine am_cc hc hRf hRl hd hv hca hl hW hS (mc := h1.2.1 - h.2.1) (ms := h1.2.2 - h.2.2) (by omega) (by omega) (IH x av h v h1 hm) (fun H' locs' hW' hS' => ?_)
          have k := ih _ _ _ _ H' locs' ls hn hl hW' hS' (by omega) (by omega)
          rw [show h.2.1 - c0 + (h1.2.1 - h.2.1) = h1.2.1 - c0 by omega, show h.2.2 - s0 + (h1.2.2 - h.2.2) = h1.2.2 - s0 by omega]
          exact k
        · split at hn
          · rename_i st' a en hw
            refine am_ww hc ⟨by omega, by omega⟩ hd hv hw hl hW hS (fun H' locs' hW' hS' => ?_)
            have k := ih (pc + l') lo st' (am_up h a en) H' locs' ls hn hl hW' hS' hc0 hs0
            exact k
          · split at hn
            · rename_i st' en k hnw
              have q2 := am_run_mono (am_M_mono d) n _ _ _ _ _ _ hn
              rw [am_nw_2] at q2
              dsimp only at q2
              refine am_nn hc hd hv hnw hW hS (by omega) (by omega) (fun H' hW' hS' => ?_)
              have kq := ih _ _ _ _ H' locs ls hn hl hW' hS' (by rw [am_nw_2]; dsimp only; omega) (by rw [am_nw_2]; dsimp only; omega)
              rw [am_nw_2] at kq
              dsimp only at kq
              rw [show h.2.1 - c0 + 1 = h.2.1 + 1 - c0 by omega, show h.2.2 - s0 + k = h.2.2 + k - s0 by omega]
              exact kq
            · split at hn
              · rename_i q hq
                exact am_ss hc ⟨by omega, by omega⟩ ⟨by omega, by omega⟩ hd hv hq hl hW (fun ls' hl' => ih _ _ _ _ H locs ls' hn hl' hW hS hc0 hs0)
              · exact hn.elim
end AMV
set_option maxHeartbeats 4000000 in
theorem am_sound (l : Launch) (D : va_G) (cA : Nat → ClassId) (z : Nat) : ∀ (d x : Nat) (av : List Value) (h : am_H) (v : Option Value) (h1 : am_H), am_M z d x av h v h1 → (∀ w ∈ av, w.category = 1) → av.length ≤ am_mx x → am_mok x = true → Met l (am_y x) (am_ws x) (am_rm d (h1.2.1 - h.2.1) (h1.2.2 - h.2.2)) (am_Pc D cA av h) (am_Qc D cA v h1 (fun q => z ≤ q)) (h1.2.1 - h.2.1) (h1.2.2 - h.2.2) (fun q => z ≤ q) := by
  intro d
  induction d with
  | zero => intro x av h v h1 hm; exact hm.elim
  | succ d ih =>
    intro x av h v h1 hm hcat hlen hmok
    obtain ⟨n, hn⟩ := hm
    have hpl : plainName (am_y x).cls = true := by
      simp only [am_mok, Bool.and_eq_true, decide_eq_true_eq] at hmok
      exact hmok.1.1.1.2
    refine Met.ofW (cc := am_by x) (maxL := am_mx x) (ret := am_rty x) hpl rfl ?_
    intro p e s m args below meth c s₁ B hml hv
    obtain ⟨rfl, hK, hW⟩ := hv
    have hts := atoms_spec (ws := am_ws x) B.pre
    have hin : meth.name = (am_y x).name := (name_of_methodNamed B.named B.method).1
    have hcx : am_cx p c meth x s m av.toArray D cA := ⟨B.exec, B.bytes, hml, findClass_of_methodNamed B.named, fun w hw => hts w (List.mem_cons_of_mem _ hw), hK, hin⟩
    rw [lg_entry_eq]
    have key := am_walk (R := (headSpec (am_ws x) (am_rm (d + 1) (h1.2.1 - h.2.1) (h1.2.2 - h.2.2))).room) (below := below) (e := e) (Q := MQ below (am_Qc D cA v h1 (fun q => z ≤ q)) av.toArray s (h1.2.1 - h.2.1) (h1.2.2 - h.2.2) (fun q => z ≤ q)) hcx (d := d) (Nat.le_refl _) (by show 40 * d + 40 ≤ 40 * (d + 1); omega) (c0 := h.2.1) (s0 := h.2.2) (r := v) (h' := h1) (Nat.le_refl _) (Nat.le_refl _) ih ?_ n 0 (am_en x av) [] h s.heap [] _ hn (am_rl.entry hcat hlen) hW va_S.rf (Nat.le_refl _) (Nat.le_refl _)
    · rw [Nat.sub_self, Nat.sub_self] at key
      exact key
    · intro pc i ls H locs st hd hrt hW' hS'
      have hq : ∀ t : State, t.heap = H → s.WarmedH t.vm → am_Qc D cA v h1 (fun q => z ≤ q) av.toArray s (.returned v) t := fun t ht _ => ⟨rfl, by rw [ht]; exact hW', hS'.F ht⟩
      have hret : am_ret x = am_rc (am_rty x) := rfl
      cases i with
      | ireturn =>
        simp only [am_rt] at hrt
        split at hrt
        · rename_i w
          split at hrt
          · rename_i hc1
            cases hrt
            rw [hret] at hc1
            cases hr : am_rty x with
            | none => rw [hr] at hc1; rcases hc1 with q | q <;> simp [am_rc] at q
            | some ty =>
              rw [hr] at hc1
              cases ty with
              | int => exact W.iret B.exec B.bytes (B.returns.trans hr) hq hS'.2.2 hd B.notSynchronized
              | boolean =>
                rcases hc1 with q | q
                · cases q
                · exact W.zret B.exec B.bytes (B.returns.trans hr) (by show Value.int (w &&& 1) = _; rw [q.2]) hq hS'.2.2 hd B.notSynchronized
              | _ => rcases hc1 with q | q <;> simp [am_rc] at q
          · cases hrt
        · cases hrt
      | areturn =>
        simp only [am_rt] at hrt
        split at hrt
        · rename_i w
          split at hrt
          · rename_i hc1
            cases hrt
            rw [hret] at hc1
            cases hr : am_rty x with
            | none => rw [hr] at hc1; cases hc1
            | some ty =>
              rw [hr] at hc1
              cases ty with
              | object nm => exact W.aret B.exec B.bytes (B.returns.trans hr) (Or.inl ⟨_, rfl⟩) (Or.inr ⟨_, rfl⟩) hq hS'.2.2 hd B.notSynchronized
              | _ => cases hc1
          · cases hrt
        · cases hrt
      | return_ =>
        simp only [am_rt] at hrt
        split at hrt
        · split at hrt
          · rename_i hc1
            cases hrt
            rw [hret] at hc1
            cases hr : am_rty x with
            | none => exact W.vret B.exec B.bytes (B.returns.trans hr) hq hS'.2.2 hd B.notSynchronized
            | some ty => rw [hr] at hc1; cases ty <;> cases hc1
          · cases hrt
        · cases hrt
      | _ => exact absurd hrt (by simp [am_rt])
end
section
def am_jn (h : am_H) (G : Nat → Option am_E) : am_H := (fun a => match h.1 a with | some e => some e | none => G a, h.2)
theorem am_jn_some {h : am_H} {G : Nat → Option am_E} {a : Nat} {e : am_E} (he : h.1 a = some e) : (am_jn h G).1 a = some e := by simp only [am_jn, he]
theorem am_jn_none {h : am_H} {G : Nat → Option am_E} {a : Nat} (he : h.1 a = none) : (am_jn h G).1 a = G a := by simp only [am_jn, he]
theorem am_jn_up (h : am_H) (G : Nat → Option am_E) (a : Nat) (e : am_E) : am_up (am_jn h G) a e = am_jn (am_up h a e) G := by
  unfold am_up am_jn
  congr 1
  funext q
  by_cases hq : q = a <;> simp [hq]
theorem am_jn_nw (h : am_H) (G : Nat → Option am_E) (e : am_E) (n : Nat) : am_nw (am_jn h G) e n = am_jn (am_nw h e n) G := by
  unfold am_nw am_jn
  congr 1
  funext q
  by_cases hq : q = h.2.1 <;> simp [hq]
theorem am_jn_2 (h : am_H) (G : Nat → Option am_E) : (am_jn h G).2 = h.2 := rfl
theorem am_gf_jn {h : am_H} {G : Nat → Option am_E} {a x y : Nat} {v : Value} (hv : am_gf (h.1 a) x y = some v) : am_gf ((am_jn h G).1 a) x y = some v := by
  cases hh : h.1 a with
  | none => rw [hh] at hv; cases hv
  | some e => rw [am_jn_some hh, ← hh]; exact hv
theorem am_ri_jn {h : am_H} {G : Nat → Option am_E} {a t : Nat} {i : Int32} {v : Value} (hv : am_ri t (h.1 a) i = some v) : am_ri t ((am_jn h G).1 a) i = some v := by
  cases hh : h.1 a with
  | none => rw [hh] at hv; cases hv
  | some e => rw [am_jn_some hh, ← hh]; exact hv
theorem am_rq_jn {h : am_H} {G : Nat → Option am_E} {a : Nat} {i : Int32} {v : Value} (hv : am_rq (h.1 a) i = some v) : am_rq ((am_jn h G).1 a) i = some v := by
  cases hh : h.1 a with
  | none => rw [hh] at hv; cases hv
  | some e => rw [am_jn_some hh, ← hh]; exact hv
theorem am_ln_jn {h : am_H} {G : Nat → Option am_E} {a : Nat} {v : Int32} (hv : am_ln (h.1 a) = some v) : am_ln ((am_jn h G).1 a) = some v := by
  cases hh : h.1 a with
  | none => rw [hh] at hv; cases hv
  | some e => rw [am_jn_some hh, ← hh]; exact hv
theorem am_pV_jn {o o' : Option Value} {q : Nat} {lo : am_L} {st : List Value} {c : am_C} (h : am_pV o q lo st = some c) (ho : ∀ v, o = some v → o' = some v) : am_pV o' q lo st = some c := by
  cases o with
  | none => cases h
  | some v => rw [ho v rfl]; exact h
theorem am_s_jn {i : Instr} {x y : Nat} {c : Int32} {ts : List Nat} {q : Nat} {lo : am_L} {st : List Value} {h : am_H} {G : Nat → Option am_E} {r : am_C} (hs : am_s i x y c ts q lo st h = some r) : am_s i x y c ts q lo st (am_jn h G) = some r := by
  cases i with
  | getfield k =>
    simp only [am_s] at hs ⊢
    split at hs
    · exact am_pV_jn hs (fun v hv => am_gf_jn hv)
    · cases hs
  | iaload =>
    simp only [am_s] at hs ⊢
    split at hs
    · exact am_pV_jn hs (fun v hv => am_ri_jn hv)
    · cases hs
  | baload =>
    simp only [am_s] at hs ⊢
    split at hs
    · exact am_pV_jn hs (fun v hv => am_ri_jn hv)
    · cases hs
  | aaload =>
    simp only [am_s] at hs ⊢
    split at hs
    · exact am_pV_jn hs (fun v hv => am_rq_jn hv)
    · cases hs
  | arraylength =>
    simp only [am_s] at hs ⊢
    split at hs
    · rename_i a r
      unfold am_pN at hs ⊢
      split at hs
      · rename_i w hw
        rw [am_ln_jn hw]
        exact hs
      · cases hs
    · cases hs
  | _ => exact hs
theorem am_ko_jn {h : am_H} {G : Nat → Option am_E} {a k : Nat} (hv : am_ko (h.1 a) = some k) : am_ko ((am_jn h G).1 a) = some k := by
  cases hh : h.1 a with
  | none => rw [hh] at hv; cases hv
  | some e => rw [am_jn_some hh, ← hh]; exact hv
theorem am_ca_jn {i : Instr} {x y : Nat} {st : List Value} {h : am_H} {G : Nat → Option am_E} {r : List Value × List Value} (hs : am_ca i x y st h = some r) : am_ca i x y st (am_jn h G) = some r := by
  cases i with
  | invokevirtual k =>
    simp only [am_ca] at hs ⊢
    have : ∀ {o}, am_cv (am_pop y st []) x h = some o → am_cv (am_pop y st []) x (am_jn h G) = some o := by
      intro o ho
      unfold am_cv at ho ⊢
      split at ho
      · split at ho
        · rename_i hko
          rw [if_pos (am_ko_jn hko)]
          exact ho
        · cases ho
      · cases ho
    cases hcv : am_cv (am_pop y st []) x h with
    | none => rw [hcv] at hs; cases hs
    | some o => rw [this hcv, ← hcv]; exact hs
  | _ => exact hs
theorem am_w1_jn {z a : Nat} {st : List Value} {o o' : Option am_E} {r : List Value × Nat × am_E} (h : am_w1 z a st o = some r) (ho : ∀ v, o = some v → o' = some v) : am_w1 z a st o' = some r := by
  cases o with
  | none => cases h
  | some v => rw [ho v rfl]; exact h
theorem am_w_jn {z : Nat} {i : Instr} {x y : Nat} {st : List Value} {h : am_H} {G : Nat → Option am_E} {r : List Value × Nat × am_E} (hs : am_w z i x y st h = some r) : am_w z i x y st (am_jn h G) = some r := by
  cases i with
  | putfield k =>
    simp only [am_w] at hs ⊢
    split at hs
    · split at hs
      · rename_i v a r' hok
        rw [if_pos hok]
        refine am_w1_jn hs (fun e he => ?_)
        cases hh : h.1 a with
        | none => rw [hh] at he; cases he
        | some e' => rw [am_jn_some hh, ← hh]; exact he
      · cases hs
    · cases hs
  | iastore =>
    simp only [am_w] at hs ⊢
    split at hs
    · rename_i v k a r'
      refine am_w1_jn hs (fun e he => ?_)
      cases hh : h.1 a with
      | none => rw [hh] at he; cases he
      | some e' => rw [am_jn_some hh, ← hh]; exact he
    · cases hs
  | bastore =>
    simp only [am_w] at hs ⊢
    split at hs
    · rename_i v k a r'
      refine am_w1_jn hs (fun e he => ?_)
      cases hh : h.1 a with
      | none => rw [hh] at he; cases he
      | some e' => rw [am_jn_some hh, ← hh]; exact he
    · cases hs
  | aastore =>
    simp only [am_w] at hs ⊢
    split at hs
    · rename_i v k a r'
      refine am_w1_jn hs (fun e he => ?_)
      cases hh : h.1 a with
      | none => rw [hh] at he; cases he
      | some e' =>
        rw [am_jn_some hh, ← hh]
        cases hv : h.1 v with
        | none =>
          exfalso
          rw [hv] at he
          unfold am_wq at he
          split at he
          · split at he
            · rename_i hc
              cases hc.2.2
            · cases he
          · cases he
        | some ev => rw [am_jn_some hv, ← hv]; exact he
    · cases hs
  | invokestatic k =>
    simp only [am_w] at hs ⊢
    split at hs
    · rename_i n dp b sp a r'
      split at hs
      · rename_i hc
        rw [if_pos hc]
        refine am_w1_jn hs (fun e he => ?_)
        cases hh : h.1 b with
        | none => rw [hh] at he; cases he
        | some e' => rw [am_jn_some hh, ← hh]; exact he
      · cases hs
    · cases hs
  | _ => exact hs
theorem am_caw_jn {z : Nat} {i : Instr} {x y : Nat} {st : List Value} {h : am_H} {G : Nat → Option am_E} (hs : am_ca i x y st h = none) (hn : ∃ r, am_w z i x y st h = some r) : am_ca i x y st (am_jn h G) = none := by
  cases i with
  | invokevirtual k => obtain ⟨r, hr⟩ := hn; cases hr
  | _ => exact hs
theorem am_can_jn {i : Instr} {x y : Nat} {st : List Value} {h : am_H} {G : Nat → Option am_E} (hs : am_ca i x y st h = none) (hn : ∃ r, am_n i x y st = some r) : am_ca i x y st (am_jn h G) = none := by
  cases i with
  | invokevirtual k => obtain ⟨r, hr⟩ := hn; cases hr
  | _ => exact hs
theorem am_cas_jn {i : Instr} {x y : Nat} {c : Int32} {ts : List Nat} {q : Nat} {lo : am_L} {st : List Value} {h : am_H} {G : Nat → Option am_E} (hs : am_ca i x y st h = none) (hn : ∃ r, am_s i x y c ts q lo st h = some r) : am_ca i x y st (am_jn h G) = none := by
  cases i with
  | invokevirtual k => obtain ⟨r, hr⟩ := hn; cases hr
  | _ => exact hs
theorem am_wn_jn {z : Nat} {i : Instr} {x y : Nat} {st : List Value} {h : am_H} {G : Nat → Option am_E} (hn : ∃ r, am_n i x y st = some r) : am_w z i x y st (am_jn h G) = none := by
  cases i with
  | new k => rfl
  | newarray t => rfl
  | anewarray k => rfl
  | _ => obtain ⟨r, hr⟩ := hn; exact absurd hr (by simp [am_n])
theorem am_ws_jn {z : Nat} {i : Instr} {x y : Nat} {c : Int32} {ts : List Nat} {q : Nat} {lo : am_L} {st : List Value} {h : am_H} {G : Nat → Option am_E} (hn : ∃ r, am_s i x y c ts q lo st h = some r) : am_w z i x y st (am_jn h G) = none := by
  cases i with
  | putfield k => obtain ⟨r, hr⟩ := hn; cases hr
  | iastore => obtain ⟨r, hr⟩ := hn; cases hr
  | bastore => obtain ⟨r, hr⟩ := hn; cases hr
  | aastore => obtain ⟨r, hr⟩ := hn; cases hr
  | invokestatic k =>
    obtain ⟨r, hr⟩ := hn
    have hy : ¬ y = 92 := by
      intro hy
      subst hy
      simp only [am_s] at hr
      rw [if_neg (by decide), if_neg (by decide)] at hr
      cases hr
    simp only [am_w, hy, false_and, if_false]
    split <;> rfl
  | _ => rfl
theorem am_run_jn {z : Nat} {C : Nat → List Value → am_H → Option Value → am_H → Prop} {G : Nat → Option am_E} (hC : ∀ x av h v h1, C x av h v h1 → C x av (am_jn h G) v (am_jn h1 G)) {j : Nat} : ∀ (n pc : Nat) (lo : am_L) (st : List Value) (h : am_H) (r : Option Value) (h' : am_H), am_run z C j n pc lo st h r h' → am_run z C j n pc lo st (am_jn h G) r (am_jn h' G) := by
  intro n
  induction n with
  | zero => intro pc lo st h r h' hn; exact hn.elim
  | succ n ih =>
    intro pc lo st h r h' hn
    unfold am_run at hn ⊢
    cases hcd : am_cd j pc with
    | none => rw [hcd] at hn; exact hn.elim
    | some q =>
      obtain ⟨i, l, x, y, c, ts⟩ := q
      rw [hcd] at hn
      dsimp only at hn ⊢
      cases hrt : am_rt (am_ret j) i st with
      | some v =>
        rw [hrt] at hn
        obtain ⟨rfl, rfl⟩ := hn
        exact ⟨rfl, rfl⟩
      | none =>
        rw [hrt] at hn
        dsimp only at hn ⊢
        cases hca : am_ca i x y st h with
        | some q =>
          obtain ⟨av, st'⟩ := q
          rw [hca] at hn
          rw [am_ca_jn hca]
          obtain ⟨v, h1, a, b⟩ := hn
          exact ⟨v, am_jn h1 G, hC _ _ _ _ _ a, ih _ _ _ _ _ _ b⟩
        | none =>
          rw [hca] at hn
          dsimp only at hn
          cases hw : am_w z i x y st h with
          | some q =>
            obtain ⟨st', a, e⟩ := q
            rw [hw] at hn
            rw [am_caw_jn hca ⟨_, hw⟩]
            dsimp only
            rw [am_w_jn hw]
            dsimp only
            rw [am_jn_up]
            exact ih _ _ _ _ _ _ hn
          | none =>
            rw [hw] at hn
            dsimp only at hn
            cases hnw : am_n i x y st with
            | some q =>
              obtain ⟨st', e, k⟩ := q
              rw [hnw] at hn
              rw [am_can_jn hca ⟨_, hnw⟩]
              dsimp only
              rw [am_wn_jn ⟨_, hnw⟩]
              dsimp only
              rw [am_jn_nw]
              exact ih _ _ _ _ _ _ hn
            | none =>
              rw [hnw] at hn
              dsimp only at hn
              cases hs : am_s i x y c ts (pc + l) lo st h with
              | some q =>
                rw [hs] at hn
                rw [am_cas_jn hca ⟨_, hs⟩]
                dsimp only
                rw [am_ws_jn ⟨_, hs⟩]
                dsimp only
                rw [am_s_jn hs]
                exact ih _ _ _ _ _ _ hn
              | none =>
                rw [hs] at hn
                exact hn.elim
theorem am_M_jn {z : Nat} {G : Nat → Option am_E} : ∀ (d x : Nat) (av : List Value) (h : am_H) (v : Option Value) (h1 : am_H), am_M z d x av h v h1 → am_M z d x av (am_jn h G) v (am_jn h1 G) := by
  intro d
  induction d with
  | zero => intro x av h v h1 hm; exact hm.elim
  | succ d ih =>
    intro x av h v h1 hm
    obtain ⟨n, hn⟩ := hm
    exact ⟨n, am_run_jn ih n _ _ _ _ _ _ hn⟩
theorem am_run_up {z : Nat} {C C' : Nat → List Value → am_H → Option Value → am_H → Prop} (hC : ∀ x av h v h1, C x av h v h1 → C' x av h v h1) {j : Nat} : ∀ (n pc : Nat) (lo : am_L) (st : List Value) (h : am_H) (r : Option Value) (h' : am_H), am_run z C j n pc lo st h r h' → am_run z C' j n pc lo st h r h' := by
  intro n
  induction n with
  | zero => intro pc lo st h r h' hn; exact hn.elim
  | succ n ih =>
    intro pc lo st h r h' hn
    unfold am_run at hn ⊢
    cases hcd : am_cd j pc with
    | none => rw [hcd] at hn; exact hn.elim
    | some q =>
      obtain ⟨i, l, x, y, c, ts⟩ := q
      rw [hcd] at hn
      dsimp only at hn ⊢
      cases hrt : am_rt (am_ret j) i st with
      | some v =>
        rw [hrt] at hn
        exact hn
      | none =>
        rw [hrt] at hn
        dsimp only at hn ⊢
        cases hca : am_ca i x y st h with
        | some q =>
          obtain ⟨av, st'⟩ := q
          rw [hca] at hn
          obtain ⟨v, h1, a, b⟩ := hn
          exact ⟨v, h1, hC _ _ _ _ _ a, ih _ _ _ _ _ _ b⟩
        | none =>
          rw [hca] at hn
          dsimp only at hn ⊢
          cases hw : am_w z i x y st h with
          | some q =>
            obtain ⟨st', a, e⟩ := q
            rw [hw] at hn
            exact ih _ _ _ _ _ _ hn
          | none =>
            rw [hw] at hn
            dsimp only at hn ⊢
            cases hnw : am_n i x y st with
            | some q =>
              obtain ⟨st', e, k⟩ := q
              rw [hnw] at hn
              exact ih _ _ _ _ _ _ hn
            | none =>
              rw [hnw] at hn
              dsimp only at hn ⊢
              cases hs : am_s i x y c ts (pc + l) lo st h with
              | some q =>
                rw [hs] at hn
                exact ih _ _ _ _ _ _ hn
              | none =>
                rw [hs] at hn
                exact hn.elim
theorem am_M_up1 {z : Nat} : ∀ (d x : Nat) (av : List Value) (h : am_H) (v : Option Value) (h1 : am_H), am_M z d x av h v h1 → am_M z (d + 1) x av h v h1 := by
  intro d
  induction d with
  | zero => intro x av h v h1 hm; exact hm.elim
  | succ d ih =>
    intro x av h v h1 hm
    obtain ⟨n, hn⟩ := hm
    exact ⟨n, am_run_up ih n _ _ _ _ _ _ hn⟩
theorem am_M_up {z d d' x : Nat} {av : List Value} {h : am_H} {v : Option Value} {h1 : am_H} (hd : d ≤ d') (hm : am_M z d x av h v h1) : am_M z d' x av h v h1 := by
  obtain ⟨k, rfl⟩ := Nat.le.dest hd
  clear hd
  induction k with
  | zero => exact hm
  | succ k ih => exact am_M_up1 _ _ _ _ _ _ ih
end
section
theorem en_0 (v0 : Value) : am_en 0 [v0] = [some v0] := by
  have h : am_mx 0 = 1 := by decide +kernel
  unfold am_en
  rw [h]
  rfl
theorem rt_0 : am_ret 0 = 0 := by decide +kernel
theorem kl_0 : am_kl 0 = 0 := by decide +kernel
set_option maxRecDepth 100000 in
theorem cx_0 : am_cd 0 0 = some (.aload_n 0, 1, 0, 0, 0, []) ∧ am_cd 0 1 = some (.invokespecial 3, 3, 0, 99, 0, [66, 67, 68]) ∧ am_cd 0 4 = some (.aload_n 0, 1, 0, 0, 0, []) ∧ am_cd 0 5 = some (.new 9, 3, 1, 8, 0, [69, 70, 51]) ∧ am_cd 0 8 = some (.dup, 1, 0, 0, 0, []) ∧ am_cd 0 9 = some (.iconst (-1), 1, 0, 0, (-1), []) ∧ am_cd 0 10 = some (.iconst 0, 1, 0, 0, 0, []) ∧ am_cd 0 11 = some (.iconst 0, 1, 0, 0, 0, []) ∧ am_cd 0 12 = some (.iconst 1, 1, 0, 0, 1, []) ∧ am_cd 0 13 = some (.invokespecial 11, 3, 1, 5, 0, [0, 71]) ∧ am_cd 0 16 = some (.putfield 14, 3, 0, 0, 0, [0, 205]) ∧ am_cd 0 19 = some (.aload_n 0, 1, 0, 0, 0, []) ∧ am_cd 0 20 = some (.new 18, 3, 2, 3, 0, [111, 112, 52]) ∧ am_cd 0 23 = some (.dup, 1, 0, 0, 0, []) ∧ am_cd 0 24 = some (.bipush 6, 2, 0, 0, 6, []) ∧ am_cd 0 26 = some (.aload_n 0, 1, 0, 0, 0, []) ∧ am_cd 0 27 = some (.getfield 14, 3, 0, 0, 0, [0, 205]) ∧ am_cd 0 30 = some (.invokespecial 20, 3, 2, 3, 0, [0, 113]) ∧ am_cd 0 33 = some (.putfield 23, 3, 0, 1, 0, [0, 206]) ∧ am_cd 0 36 = some (.aload_n 0, 1, 0, 0, 0, []) ∧ am_cd 0 37 = some (.new 18, 3, 2, 3, 0, [111, 112, 52]) ∧ am_cd 0 40 = some (.dup, 1, 0, 0, 0, []) ∧ am_cd 0 41 = some (.bipush 8, 2, 0, 0, 8, []) ∧ am_cd 0 43 = some (.aload_n 0, 1, 0, 0, 0, []) ∧ am_cd 0 44 = some (.getfield 14, 3, 0, 0, 0, [0, 205]) ∧ am_cd 0 47 = some (.invokespecial 20, 3, 2, 3, 0, [0, 113]) ∧ am_cd 0 50 = some (.putfield 27, 3, 0, 2, 0, [0, 207]) ∧ am_cd 0 53 = some (.aload_n 0, 1, 0, 0, 0, []) ∧ am_cd 0 54 = some (.new 30, 3, 4, 2, 0, [129, 130, 53]) ∧ am_cd 0 57 = some (.dup, 1, 0, 0, 0, []) ∧ am_cd 0 58 = some (.iconst 4, 1, 0, 0, 4, []) ∧ am_cd 0 59 = some (.bipush 8, 2, 0, 0, 8, []) ∧ am_cd 0 61 = some (.aload_n 0, 1, 0, 0, 0, []) ∧ am_cd 0 62 = some (.getfield 14, 3, 0, 0, 0, [0, 205]) ∧ am_cd 0 65 = some (.invokespecial 32, 3, 3, 4, 0, [0, 131]) ∧ am_cd 0 68 = some (.putfield 35, 3, 0, 3, 0, [0, 208]) ∧ am_cd 0 71 = some (.aload_n 0, 1, 0, 0, 0, []) ∧ am_cd 0 72 = some (.new 30, 3, 4, 2, 0, [129, 130, 53]) ∧ am_cd 0 75 = some (.dup, 1, 0, 0, 0, []) ∧ am_cd 0 76 = some (.bipush 44, 2, 0, 0, 44, []) ∧ am_cd 0 78 = some (.invokestatic 39, 3, 5, 1, 0, [0, 160]) ∧ am_cd 0 81 = some (.bipush 6, 2, 0, 0, 6, []) ∧ am_cd 0 83 = some (.aload_n 0, 1, 0, 0, 0, []) ∧ am_cd 0 84 = some (.getfield 14, 3, 0, 0, 0, [0, 205]) ∧ am_cd 0 87 = some (.invokespecial 32, 3, 3, 4, 0, [0, 131]) ∧ am_cd 0 90 = some (.putfield 43, 3, 0, 4, 0, [0, 209]) ∧ am_cd 0 93 = some (.aload_n 0, 1, 0, 0, 0, []) ∧ am_cd 0 94 = some (.new 30, 3, 4, 2, 0, [129, 130, 53]) ∧ am_cd 0 97 = some (.dup, 1, 0, 0, 0, []) ∧ am_cd 0 98 = some (.sipush 128, 3, 0, 0, 128, []) ∧ am_cd 0 101 = some (.invokestatic 39, 3, 5, 1, 0, [0, 160]) ∧ am_cd 0 104 = some (.bipush 6, 2, 0, 0, 6, []) ∧ am_cd 0 106 = some (.aload_n 0, 1, 0, 0, 0, []) ∧ am_cd 0 107 = some (.getfield 14, 3, 0, 0, 0, [0, 205]) ∧ am_cd 0 110 = some (.invokespecial 32, 3, 3, 4, 0, [0, 131]) ∧ am_cd 0 113 = some (.putfield 46, 3, 0, 5, 0, [0, 210]) ∧ am_cd 0 116 = some (.aload_n 0, 1, 0, 0, 0, []) ∧ am_cd 0 117 = some (.new 18, 3, 2, 3, 0, [111, 112, 52]) ∧ am_cd 0 120 = some (.dup, 1, 0, 0, 0, []) ∧ am_cd 0 121 = some (.sipush 172, 3, 0, 0, 172, []) ∧ am_cd 0 124 = some (.aload_n 0, 1, 0, 0, 0, []) ∧ am_cd 0 125 = some (.getfield 14, 3, 0, 0, 0, [0, 205]) ∧ am_cd 0 128 = some (.invokespecial 20, 3, 2, 3, 0, [0, 113]) ∧ am_cd 0 131 = some (.putfield 49, 3, 0, 6, 0, [0, 211]) ∧ am_cd 0 134 = some (.aload_n 0, 1, 0, 0, 0, []) ∧ am_cd 0 135 = some (.new 18, 3, 2, 3, 0, [111, 112, 52]) ∧ am_cd 0 138 = some (.dup, 1, 0, 0, 0, []) ∧ am_cd 0 139 = some (.bipush 16, 2, 0, 0, 16, []) ∧ am_cd 0 141 = some (.aload_n 0, 1, 0, 0, 0, []) ∧ am_cd 0 142 = some (.getfield 14, 3, 0, 0, 0, [0, 205]) ∧ am_cd 0 145 = some (.invokespecial 20, 3, 2, 3, 0, [0, 113]) ∧ am_cd 0 148 = some (.putfield 52, 3, 0, 7, 0, [0, 212]) ∧ am_cd 0 151 = some (.aload_n 0, 1, 0, 0, 0, []) ∧ am_cd 0 152 = some (.new 55, 3, 5, 7, 0, [163, 164, 55]) ∧ am_cd 0 155 = some (.dup, 1, 0, 0, 0, []) ∧ am_cd 0 156 = some (.invokespecial 57, 3, 6, 1, 0, [1, 165]) ∧ am_cd 0 159 = some (.putfield 58, 3, 0, 8, 0, [0, 213]) ∧ am_cd 0 162 = some (.aload_n 0, 1, 0, 0, 0, []) ∧ am_cd 0 163 = some (.new 62, 3, 6, 1, 0, [192, 193, 56]) ∧ am_cd 0 166 = some (.dup, 1, 0, 0, 0, []) ∧ am_cd 0 167 = some (.invokespecial 64, 3, 7, 1, 0, [0, 194]) ∧ am_cd 0 170 = some (.putfield 65, 3, 0, 9, 0, [0, 214]) ∧ am_cd 0 173 = some (.return_, 1, 0, 0, 0, []) := ⟨rfl, rfl, rfl, rfl, rfl, rfl, rfl, rfl, rfl, rfl, rfl, rfl, rfl, rfl, rfl, rfl, rfl, rfl, rfl, rfl, rfl, rfl, rfl, rfl, rfl, rfl, rfl, rfl, rfl, rfl, rfl, rfl, rfl, rfl, rfl, rfl, rfl, rfl, rfl, rfl, rfl, rfl, rfl, rfl, rfl, rfl, rfl, rfl, rfl, rfl, rfl, rfl, rfl, rfl, rfl, rfl, rfl, rfl, rfl, rfl, rfl, rfl, rfl, rfl, rfl, rfl, rfl, rfl, rfl, rfl, rfl, rfl, rfl, rfl, rfl, rfl, rfl, rfl, rfl, rfl, rfl, rfl, rfl⟩
theorem en_1 (v0 v1 v2 v3 v4 : Value) : am_en 1 [v0, v1, v2, v3, v4] = [some v0, some v1, some v2, some v3, some v4] := by
  have h : am_mx 1 = 5 := by decide +kernel
  unfold am_en
  rw [h]
  rfl
theorem rt_1 : am_ret 1 = 0 := by decide +kernel
theorem kl_1 : am_kl 1 = 1 := by decide +kernel
set_option maxRecDepth 100000 in
theorem cx_1 : am_cd 1 0 = some (.aload_n 0, 1, 0, 0, 0, []) ∧ am_cd 1 1 = some (.invokespecial 3, 3, 0, 99, 0, [74, 67, 68]) ∧ am_cd 1 4 = some (.aload_n 0, 1, 0, 0, 0, []) ∧ am_cd 1 5 = some (.iload_n 1, 1, 1, 0, 0, []) ∧ am_cd 1 6 = some (.putfield 9, 3, 1, 0, 0, [0, 75]) ∧ am_cd 1 9 = some (.aload_n 0, 1, 0, 0, 0, []) ∧ am_cd 1 10 = some (.iload_n 2, 1, 2, 0, 0, []) ∧ am_cd 1 11 = some (.putfield 15, 3, 1, 1, 0, [0, 78]) ∧ am_cd 1 14 = some (.aload_n 0, 1, 0, 0, 0, []) ∧ am_cd 1 15 = some (.iload_n 3, 1, 3, 0, 0, []) ∧ am_cd 1 16 = some (.putfield 18, 3, 1, 2, 0, [0, 80]) ∧ am_cd 1 19 = some (.aload_n 0, 1, 0, 0, 0, []) ∧ am_cd 1 20 = some (.iload 4, 2, 4, 0, 0, []) ∧ am_cd 1 22 = some (.putfield 21, 3, 1, 3, 0, [0, 82]) ∧ am_cd 1 25 = some (.return_, 1, 0, 0, 0, []) := ⟨rfl, rfl, rfl, rfl, rfl, rfl, rfl, rfl, rfl, rfl, rfl, rfl, rfl, rfl, rfl⟩
theorem en_2 (v0 v1 v2 : Value) : am_en 2 [v0, v1, v2] = [some v0, some v1, some v2, none] := by
  have h : am_mx 2 = 4 := by decide +kernel
  unfold am_en
  rw [h]
  rfl
theorem rt_2 : am_ret 2 = 0 := by decide +kernel
theorem kl_2 : am_kl 2 = 2 := by decide +kernel
set_option maxRecDepth 100000 in
theorem cx_2 : am_cd 2 0 = some (.aload_n 0, 1, 0, 0, 0, []) ∧ am_cd 2 1 = some (.invokespecial 1, 3, 0, 99, 0, [116, 67, 68]) ∧ am_cd 2 4 = some (.aload_n 0, 1, 0, 0, 0, []) ∧ am_cd 2 5 = some (.aload_n 2, 1, 2, 0, 0, []) ∧ am_cd 2 6 = some (.putfield 7, 3, 2, 0, 0, [0, 119]) ∧ am_cd 2 9 = some (.aload_n 0, 1, 0, 0, 0, []) ∧ am_cd 2 10 = some (.iload_n 1, 1, 1, 0, 0, []) ∧ am_cd 2 11 = some (.anewarray 13, 3, 2, 0, 0, [117]) ∧ am_cd 2 14 = some (.putfield 15, 3, 2, 1, 0, [0, 120]) ∧ am_cd 2 17 = some (.iconst 0, 1, 0, 0, 0, []) ∧ am_cd 2 18 = some (.istore_n 3, 1, 3, 0, 0, []) ∧ am_cd 2 20 = some (.iload_n 1, 1, 1, 0, 0, []) ∧ am_cd 2 21 = some (.if_icmp .ge 16, 3, 37, 0, 0, []) ∧ am_cd 2 24 = some (.aload_n 0, 1, 0, 0, 0, []) ∧ am_cd 2 25 = some (.getfield 15, 3, 2, 1, 0, [0, 120]) ∧ am_cd 2 28 = some (.iload_n 3, 1, 3, 0, 0, []) ∧ am_cd 2 29 = some (.aload_n 2, 1, 2, 0, 0, []) ∧ am_cd 2 30 = some (.aastore, 1, 0, 0, 0, []) ∧ am_cd 2 31 = some (.iinc 3 1, 3, 3, 0, 1, []) ∧ am_cd 2 34 = some (.goto (-15), 3, 19, 0, 0, []) ∧ am_cd 2 37 = some (.return_, 1, 0, 0, 0, []) := ⟨rfl, rfl, rfl, rfl, rfl, rfl, rfl, rfl, rfl, rfl, rfl, rfl, rfl, rfl, rfl, rfl, rfl, rfl, rfl, rfl, rfl⟩
theorem cxh_2_19 : am_cd 2 19 = some (.iload_n 3, 1, 3, 0, 0, []) := rfl
theorem en_3 (v0 v1 v2 v3 : Value) : am_en 3 [v0, v1, v2, v3] = [some v0, some v1, some v2, some v3, none] := by
  have h : am_mx 3 = 5 := by decide +kernel
  unfold am_en
  rw [h]
  rfl
theorem rt_3 : am_ret 3 = 0 := by decide +kernel
theorem kl_3 : am_kl 3 = 4 := by decide +kernel
set_option maxRecDepth 100000 in
theorem cx_3 : am_cd 3 0 = some (.aload_n 0, 1, 0, 0, 0, []) ∧ am_cd 3 1 = some (.invokespecial 3, 3, 0, 99, 0, [134, 67, 68]) ∧ am_cd 3 4 = some (.aload_n 0, 1, 0, 0, 0, []) ∧ am_cd 3 5 = some (.iload_n 1, 1, 1, 0, 0, []) ∧ am_cd 3 6 = some (.anewarray 9, 3, 3, 0, 0, [135]) ∧ am_cd 3 9 = some (.putfield 11, 3, 4, 0, 0, [0, 153]) ∧ am_cd 3 12 = some (.iconst 0, 1, 0, 0, 0, []) ∧ am_cd 3 13 = some (.istore 4, 2, 4, 0, 0, []) ∧ am_cd 3 17 = some (.iload_n 1, 1, 1, 0, 0, []) ∧ am_cd 3 18 = some (.if_icmp .ge 25, 3, 43, 0, 0, []) ∧ am_cd 3 21 = some (.aload_n 0, 1, 0, 0, 0, []) ∧ am_cd 3 22 = some (.getfield 11, 3, 4, 0, 0, [0, 153]) ∧ am_cd 3 25 = some (.iload 4, 2, 4, 0, 0, []) ∧ am_cd 3 27 = some (.new 9, 3, 3, 2, 0, [135, 137, 54]) ∧ am_cd 3 30 = some (.dup, 1, 0, 0, 0, []) ∧ am_cd 3 31 = some (.iload_n 2, 1, 2, 0, 0, []) ∧ am_cd 3 32 = some (.aload_n 3, 1, 3, 0, 0, []) ∧ am_cd 3 33 = some (.invokespecial 17, 3, 4, 3, 0, [0, 138]) ∧ am_cd 3 36 = some (.aastore, 1, 0, 0, 0, []) ∧ am_cd 3 37 = some (.iinc 4 1, 3, 4, 0, 1, []) ∧ am_cd 3 40 = some (.goto (-25), 3, 15, 0, 0, []) ∧ am_cd 3 43 = some (.return_, 1, 0, 0, 0, []) := ⟨rfl, rfl, rfl, rfl, rfl, rfl, rfl, rfl, rfl, rfl, rfl, rfl, rfl, rfl, rfl, rfl, rfl, rfl, rfl, rfl, rfl, rfl⟩
theorem cxh_3_15 : am_cd 3 15 = some (.iload 4, 2, 4, 0, 0, []) := rfl
theorem en_4 (v0 v1 v2 : Value) : am_en 4 [v0, v1, v2] = [some v0, some v1, some v2] := by
  have h : am_mx 4 = 3 := by decide +kernel
  unfold am_en
  rw [h]
  rfl
theorem rt_4 : am_ret 4 = 0 := by decide +kernel
theorem kl_4 : am_kl 4 = 3 := by decide +kernel
set_option maxRecDepth 100000 in
theorem cx_4 : am_cd 4 0 = some (.aload_n 0, 1, 0, 0, 0, []) ∧ am_cd 4 1 = some (.invokespecial 3, 3, 0, 99, 0, [141, 67, 68]) ∧ am_cd 4 4 = some (.aload_n 0, 1, 0, 0, 0, []) ∧ am_cd 4 5 = some (.new 9, 3, 2, 3, 0, [142, 112, 52]) ∧ am_cd 4 8 = some (.dup, 1, 0, 0, 0, []) ∧ am_cd 4 9 = some (.iload_n 1, 1, 1, 0, 0, []) ∧ am_cd 4 10 = some (.aload_n 2, 1, 2, 0, 0, []) ∧ am_cd 4 11 = some (.invokespecial 11, 3, 2, 3, 0, [0, 143]) ∧ am_cd 4 14 = some (.putfield 14, 3, 3, 0, 0, [0, 144]) ∧ am_cd 4 17 = some (.return_, 1, 0, 0, 0, []) := ⟨rfl, rfl, rfl, rfl, rfl, rfl, rfl, rfl, rfl, rfl⟩
theorem en_5 (v0 : Value) : am_en 5 [v0] = [some v0] := by
  have h : am_mx 5 = 1 := by decide +kernel
  unfold am_en
  rw [h]
  rfl
theorem rt_5 : am_ret 5 = 1 := by decide +kernel
theorem kl_5 : am_kl 5 = 0 := by decide +kernel
set_option maxRecDepth 100000 in
theorem cx_5 : am_cd 5 0 = some (.iload_n 0, 1, 0, 0, 0, []) ∧ am_cd 5 1 = some (.bipush 6, 2, 0, 0, 6, []) ∧ am_cd 5 3 = some (.iadd, 1, 0, 0, 0, []) ∧ am_cd 5 4 = some (.iconst 1, 1, 0, 0, 1, []) ∧ am_cd 5 5 = some (.isub, 1, 0, 0, 0, []) ∧ am_cd 5 6 = some (.bipush 6, 2, 0, 0, 6, []) ∧ am_cd 5 8 = some (.idiv, 1, 0, 0, 0, []) ∧ am_cd 5 9 = some (.ireturn, 1, 0, 0, 0, []) := ⟨rfl, rfl, rfl, rfl, rfl, rfl, rfl, rfl⟩
theorem en_6 (v0 : Value) : am_en 6 [v0] = [some v0] := by
  have h : am_mx 6 = 1 := by decide +kernel
  unfold am_en
  rw [h]
  rfl
theorem rt_6 : am_ret 6 = 0 := by decide +kernel
theorem kl_6 : am_kl 6 = 5 := by decide +kernel
set_option maxRecDepth 100000 in
theorem cx_6 : am_cd 6 0 = some (.aload_n 0, 1, 0, 0, 0, []) ∧ am_cd 6 1 = some (.invokespecial 3, 3, 0, 99, 0, [168, 67, 68]) ∧ am_cd 6 4 = some (.aload_n 0, 1, 0, 0, 0, []) ∧ am_cd 6 5 = some (.bipush 8, 2, 0, 0, 8, []) ∧ am_cd 6 7 = some (.newarray .int, 2, 0, 0, 0, [191]) ∧ am_cd 6 9 = some (.putfield 9, 3, 5, 0, 0, [0, 169]) ∧ am_cd 6 12 = some (.aload_n 0, 1, 0, 0, 0, []) ∧ am_cd 6 13 = some (.iconst 1, 1, 0, 0, 1, []) ∧ am_cd 6 14 = some (.putfield 15, 3, 5, 2, 0, [0, 171]) ∧ am_cd 6 17 = some (.aload_n 0, 1, 0, 0, 0, []) ∧ am_cd 6 18 = some (.bipush 8, 2, 0, 0, 8, []) ∧ am_cd 6 20 = some (.newarray .int, 2, 0, 0, 0, [191]) ∧ am_cd 6 22 = some (.putfield 19, 3, 5, 3, 0, [0, 172]) ∧ am_cd 6 25 = some (.aload_n 0, 1, 0, 0, 0, []) ∧ am_cd 6 26 = some (.bipush 8, 2, 0, 0, 8, []) ∧ am_cd 6 28 = some (.newarray .int, 2, 0, 0, 0, [191]) ∧ am_cd 6 30 = some (.putfield 22, 3, 5, 4, 0, [0, 173]) ∧ am_cd 6 33 = some (.aload_n 0, 1, 0, 0, 0, []) ∧ am_cd 6 34 = some (.bipush 8, 2, 0, 0, 8, []) ∧ am_cd 6 36 = some (.newarray .int, 2, 0, 0, 0, [191]) ∧ am_cd 6 38 = some (.putfield 25, 3, 5, 5, 0, [0, 174]) ∧ am_cd 6 41 = some (.return_, 1, 0, 0, 0, []) := ⟨rfl, rfl, rfl, rfl, rfl, rfl, rfl, rfl, rfl, rfl, rfl, rfl, rfl, rfl, rfl, rfl, rfl, rfl, rfl, rfl, rfl, rfl⟩
theorem en_7 (v0 : Value) : am_en 7 [v0] = [some v0] := by
  have h : am_mx 7 = 1 := by decide +kernel
  unfold am_en
  rw [h]
  rfl
theorem rt_7 : am_ret 7 = 0 := by decide +kernel
theorem kl_7 : am_kl 7 = 6 := by decide +kernel
set_option maxRecDepth 100000 in
theorem cx_7 : am_cd 7 0 = some (.aload_n 0, 1, 0, 0, 0, []) ∧ am_cd 7 1 = some (.invokespecial 3, 3, 0, 99, 0, [197, 67, 68]) ∧ am_cd 7 4 = some (.aload_n 0, 1, 0, 0, 0, []) ∧ am_cd 7 5 = some (.iconst 3, 1, 0, 0, 3, []) ∧ am_cd 7 6 = some (.newarray .int, 2, 0, 0, 0, [191]) ∧ am_cd 7 8 = some (.putfield 9, 3, 6, 0, 0, [0, 201]) ∧ am_cd 7 11 = some (.aload_n 0, 1, 0, 0, 0, []) ∧ am_cd 7 12 = some (.getfield 9, 3, 6, 0, 0, [0, 201]) ∧ am_cd 7 15 = some (.iconst (-1), 1, 0, 0, (-1), []) ∧ am_cd 7 16 = some (.invokestatic 15, 3, 8, 2, 0, [0, 198]) ∧ am_cd 7 19 = some (.return_, 1, 0, 0, 0, []) := ⟨rfl, rfl, rfl, rfl, rfl, rfl, rfl, rfl, rfl, rfl, rfl⟩
theorem en_8 (v0 v1 : Value) : am_en 8 [v0, v1] = [some v0, some v1, none, none] := by
  have h : am_mx 8 = 4 := by decide +kernel
  unfold am_en
  rw [h]
  rfl
theorem rt_8 : am_ret 8 = 0 := by decide +kernel
set_option maxRecDepth 100000 in
theorem cx_8 : am_cd 8 0 = some (.iconst 0, 1, 0, 0, 0, []) ∧ am_cd 8 1 = some (.istore_n 2, 1, 2, 0, 0, []) ∧ am_cd 8 2 = some (.aload_n 0, 1, 0, 0, 0, []) ∧ am_cd 8 3 = some (.arraylength, 1, 0, 0, 0, []) ∧ am_cd 8 4 = some (.istore_n 3, 1, 3, 0, 0, []) ∧ am_cd 8 6 = some (.iload_n 3, 1, 3, 0, 0, []) ∧ am_cd 8 7 = some (.if_icmp .ge 13, 3, 20, 0, 0, []) ∧ am_cd 8 10 = some (.aload_n 0, 1, 0, 0, 0, []) ∧ am_cd 8 11 = some (.iload_n 2, 1, 2, 0, 0, []) ∧ am_cd 8 12 = some (.iload_n 1, 1, 1, 0, 0, []) ∧ am_cd 8 13 = some (.iastore, 1, 0, 0, 0, []) ∧ am_cd 8 14 = some (.iinc 2 1, 3, 2, 0, 1, []) ∧ am_cd 8 17 = some (.goto (-12), 3, 5, 0, 0, []) ∧ am_cd 8 20 = some (.return_, 1, 0, 0, 0, []) := ⟨rfl, rfl, rfl, rfl, rfl, rfl, rfl, rfl, rfl, rfl, rfl, rfl, rfl, rfl⟩
theorem cxh_8_5 : am_cd 8 5 = some (.iload_n 2, 1, 2, 0, 0, []) := rfl
theorem en_9 (v0 v1 v2 v3 : Value) : am_en 9 [v0, v1, v2, v3] = [some v0, some v1, some v2, some v3] := by
  have h : am_mx 9 = 4 := by decide +kernel
  unfold am_en
  rw [h]
  rfl
theorem rt_9 : am_ret 9 = 1 := by decide +kernel
theorem kl_9 : am_kl 9 = 0 := by decide +kernel
set_option maxRecDepth 100000 in
theorem cx_9 : am_cd 9 0 = some (.iload_n 1, 1, 1, 0, 0, []) ∧ am_cd 9 1 = some (.invokestatic 69, 3, 10, 1, 0, [0, 252]) ∧ am_cd 9 4 = some (.ifCond .eq 14, 3, 18, 0, 0, []) ∧ am_cd 9 7 = some (.iload_n 3, 1, 3, 0, 0, []) ∧ am_cd 9 8 = some (.ifCond .lt 10, 3, 18, 0, 0, []) ∧ am_cd 9 11 = some (.iload_n 3, 1, 3, 0, 0, []) ∧ am_cd 9 12 = some (.sipush 1000, 3, 0, 0, 1000, []) ∧ am_cd 9 15 = some (.if_icmp .le 5, 3, 20, 0, 0, []) ∧ am_cd 9 18 = some (.iconst (-1), 1, 0, 0, (-1), []) ∧ am_cd 9 19 = some (.ireturn, 1, 0, 0, 0, []) ∧ am_cd 9 20 = some (.aload_n 0, 1, 0, 0, 0, []) ∧ am_cd 9 21 = some (.iload_n 1, 1, 1, 0, 0, []) ∧ am_cd 9 22 = some (.iload_n 2, 1, 2, 0, 0, []) ∧ am_cd 9 23 = some (.iload_n 3, 1, 3, 0, 0, []) ∧ am_cd 9 24 = some (.iconst 0, 1, 0, 0, 0, []) ∧ am_cd 9 25 = some (.invokevirtual 73, 3, 11, 5, 0, [0, 255]) ∧ am_cd 9 28 = some (.ireturn, 1, 0, 0, 0, []) := ⟨rfl, rfl, rfl, rfl, rfl, rfl, rfl, rfl, rfl, rfl, rfl, rfl, rfl, rfl, rfl, rfl, rfl⟩
theorem en_10 (v0 : Value) : am_en 10 [v0] = [some v0] := by
  have h : am_mx 10 = 1 := by decide +kernel
  unfold am_en
  rw [h]
  rfl
theorem rt_10 : am_ret 10 = 2 := by decide +kernel
theorem kl_10 : am_kl 10 = 0 := by decide +kernel
set_option maxRecDepth 100000 in
theorem cx_10 : am_cd 10 0 = some (.iload_n 0, 1, 0, 0, 0, []) ∧ am_cd 10 1 = some (.ifCond .lt 13, 3, 14, 0, 0, []) ∧ am_cd 10 4 = some (.iload_n 0, 1, 0, 0, 0, []) ∧ am_cd 10 5 = some (.bipush 32, 2, 0, 0, 32, []) ∧ am_cd 10 7 = some (.if_icmp .ge 7, 3, 14, 0, 0, []) ∧ am_cd 10 10 = some (.iconst 1, 1, 0, 0, 1, []) ∧ am_cd 10 11 = some (.goto 4, 3, 15, 0, 0, []) ∧ am_cd 10 14 = some (.iconst 0, 1, 0, 0, 0, []) ∧ am_cd 10 15 = some (.ireturn, 1, 0, 0, 0, []) := ⟨rfl, rfl, rfl, rfl, rfl, rfl, rfl, rfl, rfl⟩
theorem en_11 (v0 v1 v2 v3 v4 : Value) : am_en 11 [v0, v1, v2, v3, v4] = [some v0, some v1, some v2, some v3, some v4] := by
  have h : am_mx 11 = 5 := by decide +kernel
  unfold am_en
  rw [h]
  rfl
theorem rt_11 : am_ret 11 = 1 := by decide +kernel
theorem kl_11 : am_kl 11 = 0 := by decide +kernel
set_option maxRecDepth 100000 in
theorem cx_11 : am_cd 11 0 = some (.aload_n 0, 1, 0, 0, 0, []) ∧ am_cd 11 1 = some (.getfield 23, 3, 0, 1, 0, [0, 206]) ∧ am_cd 11 4 = some (.invokevirtual 77, 3, 12, 1, 0, [0, 259]) ∧ am_cd 11 7 = some (.bipush 6, 2, 0, 0, 6, []) ∧ am_cd 11 9 = some (.if_icmp .lt 6, 3, 15, 0, 0, []) ∧ am_cd 11 12 = some (.bipush (-3), 2, 0, 0, (-3), []) ∧ am_cd 11 14 = some (.ireturn, 1, 0, 0, 0, []) ∧ am_cd 11 15 = some (.aload_n 0, 1, 0, 0, 0, []) ∧ am_cd 11 16 = some (.getfield 23, 3, 0, 1, 0, [0, 206]) ∧ am_cd 11 19 = some (.new 9, 3, 1, 8, 0, [69, 70, 51]) ∧ am_cd 11 22 = some (.dup, 1, 0, 0, 0, []) ∧ am_cd 11 23 = some (.iload_n 1, 1, 1, 0, 0, []) ∧ am_cd 11 24 = some (.iload_n 2, 1, 2, 0, 0, []) ∧ am_cd 11 25 = some (.iload_n 3, 1, 3, 0, 0, []) ∧ am_cd 11 26 = some (.iload 4, 2, 4, 0, 0, []) ∧ am_cd 11 28 = some (.invokespecial 11, 3, 1, 5, 0, [0, 71]) ∧ am_cd 11 31 = some (.invokevirtual 198, 3, 13, 2, 0, [0, 263]) ∧ am_cd 11 34 = some (.aload_n 0, 1, 0, 0, 0, []) ∧ am_cd 11 35 = some (.getfield 23, 3, 0, 1, 0, [0, 206]) ∧ am_cd 11 38 = some (.invokevirtual 77, 3, 12, 1, 0, [0, 259]) ∧ am_cd 11 41 = some (.ireturn, 1, 0, 0, 0, []) := ⟨rfl, rfl, rfl, rfl, rfl, rfl, rfl, rfl, rfl, rfl, rfl, rfl, rfl, rfl, rfl, rfl, rfl, rfl, rfl, rfl, rfl⟩
theorem en_12 (v0 : Value) : am_en 12 [v0] = [some v0] := by
  have h : am_mx 12 = 1 := by decide +kernel
  unfold am_en
  rw [h]
  rfl
theorem rt_12 : am_ret 12 = 1 := by decide +kernel
theorem kl_12 : am_kl 12 = 2 := by decide +kernel
set_option maxRecDepth 100000 in
theorem cx_12 : am_cd 12 0 = some (.aload_n 0, 1, 0, 0, 0, []) ∧ am_cd 12 1 = some (.getfield 19, 3, 2, 2, 0, [0, 121]) ∧ am_cd 12 4 = some (.ireturn, 1, 0, 0, 0, []) := ⟨rfl, rfl, rfl⟩
theorem en_13 (v0 v1 : Value) : am_en 13 [v0, v1] = [some v0, some v1] := by
  have h : am_mx 13 = 2 := by decide +kernel
  unfold am_en
  rw [h]
  rfl
theorem rt_13 : am_ret 13 = 0 := by decide +kernel
theorem kl_13 : am_kl 13 = 2 := by decide +kernel
set_option maxRecDepth 100000 in
theorem cx_13 : am_cd 13 0 = some (.aload_n 0, 1, 0, 0, 0, []) ∧ am_cd 13 1 = some (.getfield 19, 3, 2, 2, 0, [0, 121]) ∧ am_cd 13 4 = some (.aload_n 0, 1, 0, 0, 0, []) ∧ am_cd 13 5 = some (.getfield 15, 3, 2, 1, 0, [0, 120]) ∧ am_cd 13 8 = some (.arraylength, 1, 0, 0, 0, []) ∧ am_cd 13 9 = some (.if_icmp .ge 23, 3, 32, 0, 0, []) ∧ am_cd 13 12 = some (.aload_n 0, 1, 0, 0, 0, []) ∧ am_cd 13 13 = some (.getfield 15, 3, 2, 1, 0, [0, 120]) ∧ am_cd 13 16 = some (.aload_n 0, 1, 0, 0, 0, []) ∧ am_cd 13 17 = some (.getfield 19, 3, 2, 2, 0, [0, 121]) ∧ am_cd 13 20 = some (.aload_n 1, 1, 1, 0, 0, []) ∧ am_cd 13 21 = some (.aastore, 1, 0, 0, 0, []) ∧ am_cd 13 22 = some (.aload_n 0, 1, 0, 0, 0, []) ∧ am_cd 13 23 = some (.dup, 1, 0, 0, 0, []) ∧ am_cd 13 24 = some (.getfield 19, 3, 2, 2, 0, [0, 121]) ∧ am_cd 13 27 = some (.iconst 1, 1, 0, 0, 1, []) ∧ am_cd 13 28 = some (.iadd, 1, 0, 0, 0, []) ∧ am_cd 13 29 = some (.putfield 19, 3, 2, 2, 0, [0, 121]) ∧ am_cd 13 32 = some (.return_, 1, 0, 0, 0, []) := ⟨rfl, rfl, rfl, rfl, rfl, rfl, rfl, rfl, rfl, rfl, rfl, rfl, rfl, rfl, rfl, rfl, rfl, rfl, rfl⟩
theorem en_14 (v0 v1 : Value) : am_en 14 [v0, v1] = [some v0, some v1] := by
  have h : am_mx 14 = 2 := by decide +kernel
  unfold am_en
  rw [h]
  rfl
theorem rt_14 : am_ret 14 = 1 := by decide +kernel
theorem kl_14 : am_kl 14 = 0 := by decide +kernel
set_option maxRecDepth 100000 in
theorem cx_14 : am_cd 14 0 = some (.iload_n 1, 1, 1, 0, 0, []) ∧ am_cd 14 1 = some (.invokestatic 69, 3, 10, 1, 0, [0, 252]) ∧ am_cd 14 4 = some (.ifCond .ne 5, 3, 9, 0, 0, []) ∧ am_cd 14 7 = some (.iconst (-1), 1, 0, 0, (-1), []) ∧ am_cd 14 8 = some (.ireturn, 1, 0, 0, 0, []) ∧ am_cd 14 9 = some (.aload_n 0, 1, 0, 0, 0, []) ∧ am_cd 14 10 = some (.iload_n 1, 1, 1, 0, 0, []) ∧ am_cd 14 11 = some (.iconst 0, 1, 0, 0, 0, []) ∧ am_cd 14 12 = some (.iconst 0, 1, 0, 0, 0, []) ∧ am_cd 14 13 = some (.iconst 1, 1, 0, 0, 1, []) ∧ am_cd 14 14 = some (.invokevirtual 73, 3, 11, 5, 0, [0, 255]) ∧ am_cd 14 17 = some (.ireturn, 1, 0, 0, 0, []) := ⟨rfl, rfl, rfl, rfl, rfl, rfl, rfl, rfl, rfl, rfl, rfl, rfl⟩
theorem en_15 (v0 : Value) : am_en 15 [v0] = [some v0, none] := by
  have h : am_mx 15 = 2 := by decide +kernel
  unfold am_en
  rw [h]
  rfl
theorem rt_15 : am_ret 15 = 1 := by decide +kernel
theorem kl_15 : am_kl 15 = 0 := by decide +kernel
set_option maxRecDepth 100000 in
theorem cx_15 : am_cd 15 0 = some (.aload_n 0, 1, 0, 0, 0, []) ∧ am_cd 15 1 = some (.getfield 23, 3, 0, 1, 0, [0, 206]) ∧ am_cd 15 4 = some (.invokevirtual 77, 3, 12, 1, 0, [0, 259]) ∧ am_cd 15 7 = some (.istore_n 1, 1, 1, 0, 0, []) ∧ am_cd 15 8 = some (.iload_n 1, 1, 1, 0, 0, []) ∧ am_cd 15 9 = some (.ifCond .ne 6, 3, 15, 0, 0, []) ∧ am_cd 15 12 = some (.bipush (-2), 2, 0, 0, (-2), []) ∧ am_cd 15 14 = some (.ireturn, 1, 0, 0, 0, []) ∧ am_cd 15 15 = some (.aload_n 0, 1, 0, 0, 0, []) ∧ am_cd 15 16 = some (.getfield 58, 3, 0, 8, 0, [0, 213]) ∧ am_cd 15 19 = some (.iload_n 1, 1, 1, 0, 0, []) ∧ am_cd 15 20 = some (.invokevirtual 81, 3, 16, 2, 0, [0, 275]) ∧ am_cd 15 23 = some (.ifCond .eq 6, 3, 29, 0, 0, []) ∧ am_cd 15 26 = some (.bipush (-3), 2, 0, 0, (-3), []) ∧ am_cd 15 28 = some (.ireturn, 1, 0, 0, 0, []) ∧ am_cd 15 29 = some (.aload_n 0, 1, 0, 0, 0, []) ∧ am_cd 15 30 = some (.getfield 27, 3, 0, 2, 0, [0, 207]) ∧ am_cd 15 33 = some (.invokevirtual 77, 3, 12, 1, 0, [0, 259]) ∧ am_cd 15 36 = some (.iload_n 1, 1, 1, 0, 0, []) ∧ am_cd 15 37 = some (.iadd, 1, 0, 0, 0, []) ∧ am_cd 15 38 = some (.bipush 8, 2, 0, 0, 8, []) ∧ am_cd 15 40 = some (.if_icmp .le 8, 3, 48, 0, 0, []) ∧ am_cd 15 43 = some (.aload_n 0, 1, 0, 0, 0, []) ∧ am_cd 15 44 = some (.invokevirtual 84, 3, 18, 1, 0, [0, 283]) ∧ am_cd 15 47 = some (.pop, 1, 0, 0, 0, []) ∧ am_cd 15 48 = some (.aload_n 0, 1, 0, 0, 0, []) ∧ am_cd 15 49 = some (.invokevirtual 87, 3, 37, 1, 0, [0, 368]) ∧ am_cd 15 52 = some (.iload_n 1, 1, 1, 0, 0, []) ∧ am_cd 15 53 = some (.ireturn, 1, 0, 0, 0, []) := ⟨rfl, rfl, rfl, rfl, rfl, rfl, rfl, rfl, rfl, rfl, rfl, rfl, rfl, rfl, rfl, rfl, rfl, rfl, rfl, rfl, rfl, rfl, rfl, rfl, rfl, rfl, rfl, rfl, rfl⟩
theorem en_16 (v0 v1 : Value) : am_en 16 [v0, v1] = [some v0, some v1] := by
  have h : am_mx 16 = 2 := by decide +kernel
  unfold am_en
  rw [h]
  rfl
theorem rt_16 : am_ret 16 = 2 := by decide +kernel
theorem kl_16 : am_kl 16 = 5 := by decide +kernel
set_option maxRecDepth 100000 in
theorem cx_16 : am_cd 16 0 = some (.aload_n 0, 1, 0, 0, 0, []) ∧ am_cd 16 1 = some (.iload_n 1, 1, 1, 0, 0, []) ∧ am_cd 16 2 = some (.invokevirtual 34, 3, 17, 2, 0, [0, 279]) ∧ am_cd 16 5 = some (.ifCond .eq 16, 3, 21, 0, 0, []) ∧ am_cd 16 8 = some (.aload_n 0, 1, 0, 0, 0, []) ∧ am_cd 16 9 = some (.getfield 15, 3, 5, 2, 0, [0, 171]) ∧ am_cd 16 12 = some (.bipush 8, 2, 0, 0, 8, []) ∧ am_cd 16 14 = some (.if_icmp .lt 7, 3, 21, 0, 0, []) ∧ am_cd 16 17 = some (.iconst 1, 1, 0, 0, 1, []) ∧ am_cd 16 18 = some (.goto 4, 3, 22, 0, 0, []) ∧ am_cd 16 21 = some (.iconst 0, 1, 0, 0, 0, []) ∧ am_cd 16 22 = some (.ireturn, 1, 0, 0, 0, []) := ⟨rfl, rfl, rfl, rfl, rfl, rfl, rfl, rfl, rfl, rfl, rfl, rfl⟩
theorem en_17 (v0 v1 : Value) : am_en 17 [v0, v1] = [some v0, some v1] := by
  have h : am_mx 17 = 2 := by decide +kernel
  unfold am_en
  rw [h]
  rfl
theorem rt_17 : am_ret 17 = 2 := by decide +kernel
theorem kl_17 : am_kl 17 = 5 := by decide +kernel
set_option maxRecDepth 100000 in
theorem cx_17 : am_cd 17 0 = some (.aload_n 0, 1, 0, 0, 0, []) ∧ am_cd 17 1 = some (.getfield 9, 3, 5, 0, 0, [0, 169]) ∧ am_cd 17 4 = some (.aload_n 0, 1, 0, 0, 0, []) ∧ am_cd 17 5 = some (.getfield 15, 3, 5, 2, 0, [0, 171]) ∧ am_cd 17 8 = some (.iconst 1, 1, 0, 0, 1, []) ∧ am_cd 17 9 = some (.isub, 1, 0, 0, 0, []) ∧ am_cd 17 10 = some (.iaload, 1, 0, 0, 0, []) ∧ am_cd 17 11 = some (.iconst 1, 1, 0, 0, 1, []) ∧ am_cd 17 12 = some (.iadd, 1, 0, 0, 0, []) ∧ am_cd 17 13 = some (.iload_n 1, 1, 1, 0, 0, []) ∧ am_cd 17 14 = some (.iadd, 1, 0, 0, 0, []) ∧ am_cd 17 15 = some (.bipush 16, 2, 0, 0, 16, []) ∧ am_cd 17 17 = some (.if_icmp .le 7, 3, 24, 0, 0, []) ∧ am_cd 17 20 = some (.iconst 1, 1, 0, 0, 1, []) ∧ am_cd 17 21 = some (.goto 4, 3, 25, 0, 0, []) ∧ am_cd 17 24 = some (.iconst 0, 1, 0, 0, 0, []) ∧ am_cd 17 25 = some (.ireturn, 1, 0, 0, 0, []) := ⟨rfl, rfl, rfl, rfl, rfl, rfl, rfl, rfl, rfl, rfl, rfl, rfl, rfl, rfl, rfl, rfl, rfl⟩
theorem en_18 (v0 : Value) : am_en 18 [v0] = [some v0, none, none] := by
  have h : am_mx 18 = 3 := by decide +kernel
  unfold am_en
  rw [h]
  rfl
theorem rt_18 : am_ret 18 = 1 := by decide +kernel
theorem kl_18 : am_kl 18 = 0 := by decide +kernel
set_option maxRecDepth 100000 in
theorem cx_18 : am_cd 18 0 = some (.aload_n 0, 1, 0, 0, 0, []) ∧ am_cd 18 1 = some (.getfield 27, 3, 0, 2, 0, [0, 207]) ∧ am_cd 18 4 = some (.invokevirtual 77, 3, 12, 1, 0, [0, 259]) ∧ am_cd 18 7 = some (.istore_n 1, 1, 1, 0, 0, []) ∧ am_cd 18 8 = some (.iload_n 1, 1, 1, 0, 0, []) ∧ am_cd 18 9 = some (.ifCond .ne 5, 3, 14, 0, 0, []) ∧ am_cd 18 12 = some (.iconst 0, 1, 0, 0, 0, []) ∧ am_cd 18 13 = some (.ireturn, 1, 0, 0, 0, []) ∧ am_cd 18 14 = some (.aload_n 0, 1, 0, 0, 0, []) ∧ am_cd 18 15 = some (.getfield 35, 3, 0, 3, 0, [0, 208]) ∧ am_cd 18 18 = some (.invokevirtual 97, 3, 19, 1, 0, [0, 287]) ∧ am_cd 18 21 = some (.iconst 4, 1, 0, 0, 4, []) ∧ am_cd 18 22 = some (.if_icmp .lt 8, 3, 30, 0, 0, []) ∧ am_cd 18 25 = some (.aload_n 0, 1, 0, 0, 0, []) ∧ am_cd 18 26 = some (.invokevirtual 100, 3, 20, 1, 0, [0, 291]) ∧ am_cd 18 29 = some (.pop, 1, 0, 0, 0, []) ∧ am_cd 18 30 = some (.aload_n 0, 1, 0, 0, 0, []) ∧ am_cd 18 31 = some (.getfield 49, 3, 0, 6, 0, [0, 211]) ∧ am_cd 18 34 = some (.invokevirtual 138, 3, 22, 1, 0, [0, 299]) ∧ am_cd 18 37 = some (.iconst 0, 1, 0, 0, 0, []) ∧ am_cd 18 38 = some (.istore_n 2, 1, 2, 0, 0, []) ∧ am_cd 18 40 = some (.iload_n 1, 1, 1, 0, 0, []) ∧ am_cd 18 41 = some (.if_icmp .ge 24, 3, 65, 0, 0, []) ∧ am_cd 18 44 = some (.aload_n 0, 1, 0, 0, 0, []) ∧ am_cd 18 45 = some (.getfield 49, 3, 0, 6, 0, [0, 211]) ∧ am_cd 18 48 = some (.aload_n 0, 1, 0, 0, 0, []) ∧ am_cd 18 49 = some (.getfield 27, 3, 0, 2, 0, [0, 207]) ∧ am_cd 18 52 = some (.iload_n 2, 1, 2, 0, 0, []) ∧ am_cd 18 53 = some (.invokevirtual 208, 3, 24, 2, 0, [0, 358]) ∧ am_cd 18 56 = some (.invokevirtual 224, 3, 25, 2, 0, [0, 359]) ∧ am_cd 18 59 = some (.iinc 2 1, 3, 2, 0, 1, []) ∧ am_cd 18 62 = some (.goto (-23), 3, 39, 0, 0, []) ∧ am_cd 18 65 = some (.aload_n 0, 1, 0, 0, 0, []) ∧ am_cd 18 66 = some (.getfield 27, 3, 0, 2, 0, [0, 207]) ∧ am_cd 18 69 = some (.invokevirtual 138, 3, 22, 1, 0, [0, 299]) ∧ am_cd 18 72 = some (.aload_n 0, 1, 0, 0, 0, []) ∧ am_cd 18 73 = some (.getfield 49, 3, 0, 6, 0, [0, 211]) ∧ am_cd 18 76 = some (.aload_n 0, 1, 0, 0, 0, []) ∧ am_cd 18 77 = some (.getfield 65, 3, 0, 9, 0, [0, 214]) ∧ am_cd 18 80 = some (.invokevirtual 227, 3, 28, 2, 0, [0, 324]) ∧ am_cd 18 83 = some (.pop, 1, 0, 0, 0, []) ∧ am_cd 18 84 = some (.aload_n 0, 1, 0, 0, 0, []) ∧ am_cd 18 85 = some (.getfield 35, 3, 0, 3, 0, [0, 208]) ∧ am_cd 18 88 = some (.aload_n 0, 1, 0, 0, 0, []) ∧ am_cd 18 89 = some (.getfield 49, 3, 0, 6, 0, [0, 211]) ∧ am_cd 18 92 = some (.invokevirtual 231, 3, 35, 2, 0, [0, 360]) ∧ am_cd 18 95 = some (.aload_n 0, 1, 0, 0, 0, []) ∧ am_cd 18 96 = some (.getfield 58, 3, 0, 8, 0, [0, 213]) ∧ am_cd 18 99 = some (.invokevirtual 90, 3, 36, 1, 0, [0, 364]) ∧ am_cd 18 102 = some (.pop, 1, 0, 0, 0, []) ∧ am_cd 18 103 = some (.iload_n 1, 1, 1, 0, 0, []) ∧ am_cd 18 104 = some (.ireturn, 1, 0, 0, 0, []) := ⟨rfl, rfl, rfl, rfl, rfl, rfl, rfl, rfl, rfl, rfl, rfl, rfl, rfl, rfl, rfl, rfl, rfl, rfl, rfl, rfl, rfl, rfl, rfl, rfl, rfl, rfl, rfl, rfl, rfl, rfl, rfl, rfl, rfl, rfl, rfl, rfl, rfl, rfl, rfl, rfl, rfl, rfl, rfl, rfl, rfl, rfl, rfl, rfl, rfl, rfl, rfl, rfl⟩
theorem cxh_18_39 : am_cd 18 39 = some (.iload_n 2, 1, 2, 0, 0, []) := rfl
theorem en_19 (v0 : Value) : am_en 19 [v0] = [some v0] := by
  have h : am_mx 19 = 1 := by decide +kernel
  unfold am_en
  rw [h]
  rfl
theorem rt_19 : am_ret 19 = 1 := by decide +kernel
theorem kl_19 : am_kl 19 = 4 := by decide +kernel
set_option maxRecDepth 100000 in
theorem cx_19 : am_cd 19 0 = some (.aload_n 0, 1, 0, 0, 0, []) ∧ am_cd 19 1 = some (.getfield 20, 3, 4, 1, 0, [0, 154]) ∧ am_cd 19 4 = some (.ireturn, 1, 0, 0, 0, []) := ⟨rfl, rfl, rfl⟩
theorem en_20 (v0 : Value) : am_en 20 [v0] = [some v0, none] := by
  have h : am_mx 20 = 2 := by decide +kernel
  unfold am_en
  rw [h]
  rfl
theorem rt_20 : am_ret 20 = 1 := by decide +kernel
theorem kl_20 : am_kl 20 = 0 := by decide +kernel
set_option maxRecDepth 100000 in
theorem cx_20 : am_cd 20 0 = some (.aload_n 0, 1, 0, 0, 0, []) ∧ am_cd 20 1 = some (.aload_n 0, 1, 0, 0, 0, []) ∧ am_cd 20 2 = some (.getfield 35, 3, 0, 3, 0, [0, 208]) ∧ am_cd 20 5 = some (.aload_n 0, 1, 0, 0, 0, []) ∧ am_cd 20 6 = some (.getfield 43, 3, 0, 4, 0, [0, 209]) ∧ am_cd 20 9 = some (.invokevirtual 103, 3, 21, 3, 0, [0, 295]) ∧ am_cd 20 12 = some (.istore_n 1, 1, 1, 0, 0, []) ∧ am_cd 20 13 = some (.aload_n 0, 1, 0, 0, 0, []) ∧ am_cd 20 14 = some (.getfield 49, 3, 0, 6, 0, [0, 211]) ∧ am_cd 20 17 = some (.invokevirtual 77, 3, 12, 1, 0, [0, 259]) ∧ am_cd 20 20 = some (.bipush 12, 2, 0, 0, 12, []) ∧ am_cd 20 22 = some (.if_icmp .le 18, 3, 40, 0, 0, []) ∧ am_cd 20 25 = some (.iload_n 1, 1, 1, 0, 0, []) ∧ am_cd 20 26 = some (.aload_n 0, 1, 0, 0, 0, []) ∧ am_cd 20 27 = some (.aload_n 0, 1, 0, 0, 0, []) ∧ am_cd 20 28 = some (.getfield 43, 3, 0, 4, 0, [0, 209]) ∧ am_cd 20 31 = some (.aload_n 0, 1, 0, 0, 0, []) ∧ am_cd 20 32 = some (.getfield 46, 3, 0, 5, 0, [0, 210]) ∧ am_cd 20 35 = some (.invokevirtual 103, 3, 21, 3, 0, [0, 295]) ∧ am_cd 20 38 = some (.iadd, 1, 0, 0, 0, []) ∧ am_cd 20 39 = some (.istore_n 1, 1, 1, 0, 0, []) ∧ am_cd 20 40 = some (.iload_n 1, 1, 1, 0, 0, []) ∧ am_cd 20 41 = some (.ireturn, 1, 0, 0, 0, []) := ⟨rfl, rfl, rfl, rfl, rfl, rfl, rfl, rfl, rfl, rfl, rfl, rfl, rfl, rfl, rfl, rfl, rfl, rfl, rfl, rfl, rfl, rfl, rfl⟩
theorem en_21 (v0 v1 v2 : Value) : am_en 21 [v0, v1, v2] = [some v0, some v1, some v2, none] := by
  have h : am_mx 21 = 4 := by decide +kernel
  unfold am_en
  rw [h]
  rfl
theorem rt_21 : am_ret 21 = 1 := by decide +kernel
theorem kl_21 : am_kl 21 = 0 := by decide +kernel
set_option maxRecDepth 100000 in
theorem cx_21 : am_cd 21 0 = some (.aload_n 0, 1, 0, 0, 0, []) ∧ am_cd 21 1 = some (.getfield 49, 3, 0, 6, 0, [0, 211]) ∧ am_cd 21 4 = some (.invokevirtual 138, 3, 22, 1, 0, [0, 299]) ∧ am_cd 21 7 = some (.aload_n 2, 1, 2, 0, 0, []) ∧ am_cd 21 8 = some (.aload_n 0, 1, 0, 0, 0, []) ∧ am_cd 21 9 = some (.getfield 49, 3, 0, 6, 0, [0, 211]) ∧ am_cd 21 12 = some (.invokevirtual 235, 3, 23, 2, 0, [0, 303]) ∧ am_cd 21 15 = some (.aload_n 1, 1, 1, 0, 0, []) ∧ am_cd 21 16 = some (.aload_n 0, 1, 0, 0, 0, []) ∧ am_cd 21 17 = some (.getfield 49, 3, 0, 6, 0, [0, 211]) ∧ am_cd 21 20 = some (.invokevirtual 235, 3, 23, 2, 0, [0, 303]) ∧ am_cd 21 23 = some (.aload_n 0, 1, 0, 0, 0, []) ∧ am_cd 21 24 = some (.getfield 49, 3, 0, 6, 0, [0, 211]) ∧ am_cd 21 27 = some (.aload_n 0, 1, 0, 0, 0, []) ∧ am_cd 21 28 = some (.getfield 65, 3, 0, 9, 0, [0, 214]) ∧ am_cd 21 31 = some (.invokevirtual 227, 3, 28, 2, 0, [0, 324]) ∧ am_cd 21 34 = some (.istore_n 3, 1, 3, 0, 0, []) ∧ am_cd 21 35 = some (.aload_n 2, 1, 2, 0, 0, []) ∧ am_cd 21 36 = some (.aload_n 0, 1, 0, 0, 0, []) ∧ am_cd 21 37 = some (.getfield 46, 3, 0, 5, 0, [0, 210]) ∧ am_cd 21 40 = some (.if_acmp .ne 17, 3, 57, 0, 0, []) ∧ am_cd 21 43 = some (.iload_n 3, 1, 3, 0, 0, []) ∧ am_cd 21 44 = some (.aload_n 0, 1, 0, 0, 0, []) ∧ am_cd 21 45 = some (.getfield 49, 3, 0, 6, 0, [0, 211]) ∧ am_cd 21 48 = some (.aload_n 0, 1, 0, 0, 0, []) ∧ am_cd 21 49 = some (.getfield 132, 3, 0, 10, 0, [0, 215]) ∧ am_cd 21 52 = some (.invokevirtual 238, 3, 30, 2, 0, [0, 332]) ∧ am_cd 21 55 = some (.iadd, 1, 0, 0, 0, []) ∧ am_cd 21 56 = some (.istore_n 3, 1, 3, 0, 0, []) ∧ am_cd 21 57 = some (.aload_n 2, 1, 2, 0, 0, []) ∧ am_cd 21 58 = some (.aload_n 0, 1, 0, 0, 0, []) ∧ am_cd 21 59 = some (.getfield 49, 3, 0, 6, 0, [0, 211]) ∧ am_cd 21 62 = some (.invokevirtual 241, 3, 32, 2, 0, [0, 340]) ∧ am_cd 21 65 = some (.iload_n 3, 1, 3, 0, 0, []) ∧ am_cd 21 66 = some (.ireturn, 1, 0, 0, 0, []) := ⟨rfl, rfl, rfl, rfl, rfl, rfl, rfl, rfl, rfl, rfl, rfl, rfl, rfl, rfl, rfl, rfl, rfl, rfl, rfl, rfl, rfl, rfl, rfl, rfl, rfl, rfl, rfl, rfl, rfl, rfl, rfl, rfl, rfl, rfl, rfl⟩
theorem en_22 (v0 : Value) : am_en 22 [v0] = [some v0] := by
  have h : am_mx 22 = 1 := by decide +kernel
  unfold am_en
  rw [h]
  rfl
theorem rt_22 : am_ret 22 = 0 := by decide +kernel
theorem kl_22 : am_kl 22 = 2 := by decide +kernel
set_option maxRecDepth 100000 in
theorem cx_22 : am_cd 22 0 = some (.aload_n 0, 1, 0, 0, 0, []) ∧ am_cd 22 1 = some (.iconst 0, 1, 0, 0, 0, []) ∧ am_cd 22 2 = some (.putfield 19, 3, 2, 2, 0, [0, 121]) ∧ am_cd 22 5 = some (.return_, 1, 0, 0, 0, []) := ⟨rfl, rfl, rfl, rfl⟩
theorem en_23 (v0 v1 : Value) : am_en 23 [v0, v1] = [some v0, some v1, none, none, none] := by
  have h : am_mx 23 = 5 := by decide +kernel
  unfold am_en
  rw [h]
  rfl
theorem rt_23 : am_ret 23 = 0 := by decide +kernel
theorem kl_23 : am_kl 23 = 4 := by decide +kernel
set_option maxRecDepth 100000 in
theorem cx_23 : am_cd 23 0 = some (.iconst 0, 1, 0, 0, 0, []) ∧ am_cd 23 1 = some (.istore_n 2, 1, 2, 0, 0, []) ∧ am_cd 23 3 = some (.aload_n 0, 1, 0, 0, 0, []) ∧ am_cd 23 4 = some (.getfield 20, 3, 4, 1, 0, [0, 154]) ∧ am_cd 23 7 = some (.if_icmp .ge 47, 3, 54, 0, 0, []) ∧ am_cd 23 10 = some (.aload_n 0, 1, 0, 0, 0, []) ∧ am_cd 23 11 = some (.getfield 11, 3, 4, 0, 0, [0, 153]) ∧ am_cd 23 14 = some (.iload_n 2, 1, 2, 0, 0, []) ∧ am_cd 23 15 = some (.aaload, 1, 0, 0, 0, []) ∧ am_cd 23 16 = some (.getfield 44, 3, 3, 0, 0, [0, 145]) ∧ am_cd 23 19 = some (.astore_n 3, 1, 3, 0, 0, []) ∧ am_cd 23 20 = some (.iconst 0, 1, 0, 0, 0, []) ∧ am_cd 23 21 = some (.istore 4, 2, 4, 0, 0, []) ∧ am_cd 23 25 = some (.aload_n 3, 1, 3, 0, 0, []) ∧ am_cd 23 26 = some (.invokevirtual 24, 3, 12, 1, 0, [0, 307]) ∧ am_cd 23 29 = some (.if_icmp .ge 19, 3, 48, 0, 0, []) ∧ am_cd 23 32 = some (.aload_n 1, 1, 1, 0, 0, []) ∧ am_cd 23 33 = some (.aload_n 3, 1, 3, 0, 0, []) ∧ am_cd 23 34 = some (.iload 4, 2, 4, 0, 0, []) ∧ am_cd 23 36 = some (.invokevirtual 48, 3, 24, 2, 0, [0, 308]) ∧ am_cd 23 39 = some (.invokevirtual 52, 3, 25, 2, 0, [0, 312]) ∧ am_cd 23 42 = some (.iinc 4 1, 3, 4, 0, 1, []) ∧ am_cd 23 45 = some (.goto (-22), 3, 23, 0, 0, []) ∧ am_cd 23 48 = some (.iinc 2 1, 3, 2, 0, 1, []) ∧ am_cd 23 51 = some (.goto (-49), 3, 2, 0, 0, []) ∧ am_cd 23 54 = some (.aload_n 0, 1, 0, 0, 0, []) ∧ am_cd 23 55 = some (.iconst 0, 1, 0, 0, 0, []) ∧ am_cd 23 56 = some (.putfield 20, 3, 4, 1, 0, [0, 154]) ∧ am_cd 23 59 = some (.return_, 1, 0, 0, 0, []) := ⟨rfl, rfl, rfl, rfl, rfl, rfl, rfl, rfl, rfl, rfl, rfl, rfl, rfl, rfl, rfl, rfl, rfl, rfl, rfl, rfl, rfl, rfl, rfl, rfl, rfl, rfl, rfl, rfl, rfl⟩
theorem cxh_23_2 : am_cd 23 2 = some (.iload_n 2, 1, 2, 0, 0, []) := rfl
theorem cxh_23_23 : am_cd 23 23 = some (.iload 4, 2, 4, 0, 0, []) := rfl
theorem en_24 (v0 v1 : Value) : am_en 24 [v0, v1] = [some v0, some v1] := by
  have h : am_mx 24 = 2 := by decide +kernel
  unfold am_en
  rw [h]
  rfl
theorem rt_24 : am_ret 24 = 3 := by decide +kernel
theorem kl_24 : am_kl 24 = 2 := by decide +kernel
set_option maxRecDepth 100000 in
theorem cx_24 : am_cd 24 0 = some (.iload_n 1, 1, 1, 0, 0, []) ∧ am_cd 24 1 = some (.ifCond .lt 20, 3, 21, 0, 0, []) ∧ am_cd 24 4 = some (.iload_n 1, 1, 1, 0, 0, []) ∧ am_cd 24 5 = some (.aload_n 0, 1, 0, 0, 0, []) ∧ am_cd 24 6 = some (.getfield 19, 3, 2, 2, 0, [0, 121]) ∧ am_cd 24 9 = some (.if_icmp .ge 12, 3, 21, 0, 0, []) ∧ am_cd 24 12 = some (.aload_n 0, 1, 0, 0, 0, []) ∧ am_cd 24 13 = some (.getfield 15, 3, 2, 1, 0, [0, 120]) ∧ am_cd 24 16 = some (.iload_n 1, 1, 1, 0, 0, []) ∧ am_cd 24 17 = some (.aaload, 1, 0, 0, 0, []) ∧ am_cd 24 18 = some (.goto 7, 3, 25, 0, 0, []) ∧ am_cd 24 21 = some (.aload_n 0, 1, 0, 0, 0, []) ∧ am_cd 24 22 = some (.getfield 7, 3, 2, 0, 0, [0, 119]) ∧ am_cd 24 25 = some (.areturn, 1, 0, 0, 0, []) := ⟨rfl, rfl, rfl, rfl, rfl, rfl, rfl, rfl, rfl, rfl, rfl, rfl, rfl, rfl⟩
theorem en_25 (v0 v1 : Value) : am_en 25 [v0, v1] = [some v0, some v1, none] := by
  have h : am_mx 25 = 3 := by decide +kernel
  unfold am_en
  rw [h]
  rfl
theorem rt_25 : am_ret 25 = 0 := by decide +kernel
theorem kl_25 : am_kl 25 = 2 := by decide +kernel
set_option maxRecDepth 100000 in
theorem cx_25 : am_cd 25 0 = some (.aload_n 0, 1, 0, 0, 0, []) ∧ am_cd 25 1 = some (.getfield 19, 3, 2, 2, 0, [0, 121]) ∧ am_cd 25 4 = some (.istore_n 2, 1, 2, 0, 0, []) ∧ am_cd 25 6 = some (.ifCond .le 24, 3, 30, 0, 0, []) ∧ am_cd 25 9 = some (.aload_n 1, 1, 1, 0, 0, []) ∧ am_cd 25 10 = some (.aload_n 0, 1, 0, 0, 0, []) ∧ am_cd 25 11 = some (.getfield 15, 3, 2, 1, 0, [0, 120]) ∧ am_cd 25 14 = some (.iload_n 2, 1, 2, 0, 0, []) ∧ am_cd 25 15 = some (.iconst 1, 1, 0, 0, 1, []) ∧ am_cd 25 16 = some (.isub, 1, 0, 0, 0, []) ∧ am_cd 25 17 = some (.aaload, 1, 0, 0, 0, []) ∧ am_cd 25 18 = some (.invokevirtual 29, 3, 26, 2, 0, [0, 316]) ∧ am_cd 25 21 = some (.ifCond .eq 9, 3, 30, 0, 0, []) ∧ am_cd 25 24 = some (.iinc 2 (-1), 3, 2, 0, (-1), []) ∧ am_cd 25 27 = some (.goto (-22), 3, 5, 0, 0, []) ∧ am_cd 25 30 = some (.aload_n 0, 1, 0, 0, 0, []) ∧ am_cd 25 31 = some (.iload_n 2, 1, 2, 0, 0, []) ∧ am_cd 25 32 = some (.aload_n 1, 1, 1, 0, 0, []) ∧ am_cd 25 33 = some (.invokevirtual 33, 3, 27, 3, 0, [0, 320]) ∧ am_cd 25 36 = some (.return_, 1, 0, 0, 0, []) := ⟨rfl, rfl, rfl, rfl, rfl, rfl, rfl, rfl, rfl, rfl, rfl, rfl, rfl, rfl, rfl, rfl, rfl, rfl, rfl, rfl⟩
theorem cxh_25_5 : am_cd 25 5 = some (.iload_n 2, 1, 2, 0, 0, []) := rfl
theorem en_26 (v0 v1 : Value) : am_en 26 [v0, v1] = [some v0, some v1] := by
  have h : am_mx 26 = 2 := by decide +kernel
  unfold am_en
  rw [h]
  rfl
theorem rt_26 : am_ret 26 = 2 := by decide +kernel
theorem kl_26 : am_kl 26 = 1 := by decide +kernel
set_option maxRecDepth 100000 in
theorem cx_26 : am_cd 26 0 = some (.aload_n 0, 1, 0, 0, 0, []) ∧ am_cd 26 1 = some (.getfield 9, 3, 1, 0, 0, [0, 75]) ∧ am_cd 26 4 = some (.aload_n 1, 1, 1, 0, 0, []) ∧ am_cd 26 5 = some (.getfield 9, 3, 1, 0, 0, [0, 75]) ∧ am_cd 26 8 = some (.if_icmp .lt 25, 3, 33, 0, 0, []) ∧ am_cd 26 11 = some (.aload_n 0, 1, 0, 0, 0, []) ∧ am_cd 26 12 = some (.getfield 9, 3, 1, 0, 0, [0, 75]) ∧ am_cd 26 15 = some (.aload_n 1, 1, 1, 0, 0, []) ∧ am_cd 26 16 = some (.getfield 9, 3, 1, 0, 0, [0, 75]) ∧ am_cd 26 19 = some (.if_icmp .ne 18, 3, 37, 0, 0, []) ∧ am_cd 26 22 = some (.aload_n 0, 1, 0, 0, 0, []) ∧ am_cd 26 23 = some (.getfield 28, 3, 1, 4, 0, [0, 83]) ∧ am_cd 26 26 = some (.aload_n 1, 1, 1, 0, 0, []) ∧ am_cd 26 27 = some (.getfield 28, 3, 1, 4, 0, [0, 83]) ∧ am_cd 26 30 = some (.if_icmp .le 7, 3, 37, 0, 0, []) ∧ am_cd 26 33 = some (.iconst 1, 1, 0, 0, 1, []) ∧ am_cd 26 34 = some (.goto 4, 3, 38, 0, 0, []) ∧ am_cd 26 37 = some (.iconst 0, 1, 0, 0, 0, []) ∧ am_cd 26 38 = some (.ireturn, 1, 0, 0, 0, []) := ⟨rfl, rfl, rfl, rfl, rfl, rfl, rfl, rfl, rfl, rfl, rfl, rfl, rfl, rfl, rfl, rfl, rfl, rfl, rfl⟩
theorem en_27 (v0 v1 v2 : Value) : am_en 27 [v0, v1, v2] = [some v0, some v1, some v2, none] := by
  have h : am_mx 27 = 4 := by decide +kernel
  unfold am_en
  rw [h]
  rfl
theorem rt_27 : am_ret 27 = 0 := by decide +kernel
theorem kl_27 : am_kl 27 = 2 := by decide +kernel
set_option maxRecDepth 100000 in
theorem cx_27 : am_cd 27 0 = some (.aload_n 0, 1, 0, 0, 0, []) ∧ am_cd 27 1 = some (.getfield 19, 3, 2, 2, 0, [0, 121]) ∧ am_cd 27 4 = some (.aload_n 0, 1, 0, 0, 0, []) ∧ am_cd 27 5 = some (.getfield 15, 3, 2, 1, 0, [0, 120]) ∧ am_cd 27 8 = some (.arraylength, 1, 0, 0, 0, []) ∧ am_cd 27 9 = some (.if_icmp .lt 4, 3, 13, 0, 0, []) ∧ am_cd 27 12 = some (.return_, 1, 0, 0, 0, []) ∧ am_cd 27 13 = some (.aload_n 0, 1, 0, 0, 0, []) ∧ am_cd 27 14 = some (.getfield 19, 3, 2, 2, 0, [0, 121]) ∧ am_cd 27 17 = some (.istore_n 3, 1, 3, 0, 0, []) ∧ am_cd 27 19 = some (.iload_n 1, 1, 1, 0, 0, []) ∧ am_cd 27 20 = some (.if_icmp .le 23, 3, 43, 0, 0, []) ∧ am_cd 27 23 = some (.aload_n 0, 1, 0, 0, 0, []) ∧ am_cd 27 24 = some (.getfield 15, 3, 2, 1, 0, [0, 120]) ∧ am_cd 27 27 = some (.iload_n 3, 1, 3, 0, 0, []) ∧ am_cd 27 28 = some (.aload_n 0, 1, 0, 0, 0, []) ∧ am_cd 27 29 = some (.getfield 15, 3, 2, 1, 0, [0, 120]) ∧ am_cd 27 32 = some (.iload_n 3, 1, 3, 0, 0, []) ∧ am_cd 27 33 = some (.iconst 1, 1, 0, 0, 1, []) ∧ am_cd 27 34 = some (.isub, 1, 0, 0, 0, []) ∧ am_cd 27 35 = some (.aaload, 1, 0, 0, 0, []) ∧ am_cd 27 36 = some (.aastore, 1, 0, 0, 0, []) ∧ am_cd 27 37 = some (.iinc 3 (-1), 3, 3, 0, (-1), []) ∧ am_cd 27 40 = some (.goto (-22), 3, 18, 0, 0, []) ∧ am_cd 27 43 = some (.aload_n 0, 1, 0, 0, 0, []) ∧ am_cd 27 44 = some (.getfield 15, 3, 2, 1, 0, [0, 120]) ∧ am_cd 27 47 = some (.iload_n 1, 1, 1, 0, 0, []) ∧ am_cd 27 48 = some (.aload_n 2, 1, 2, 0, 0, []) ∧ am_cd 27 49 = some (.aastore, 1, 0, 0, 0, []) ∧ am_cd 27 50 = some (.aload_n 0, 1, 0, 0, 0, []) ∧ am_cd 27 51 = some (.dup, 1, 0, 0, 0, []) ∧ am_cd 27 52 = some (.getfield 19, 3, 2, 2, 0, [0, 121]) ∧ am_cd 27 55 = some (.iconst 1, 1, 0, 0, 1, []) ∧ am_cd 27 56 = some (.iadd, 1, 0, 0, 0, []) ∧ am_cd 27 57 = some (.putfield 19, 3, 2, 2, 0, [0, 121]) ∧ am_cd 27 60 = some (.return_, 1, 0, 0, 0, []) := ⟨rfl, rfl, rfl, rfl, rfl, rfl, rfl, rfl, rfl, rfl, rfl, rfl, rfl, rfl, rfl, rfl, rfl, rfl, rfl, rfl, rfl, rfl, rfl, rfl, rfl, rfl, rfl, rfl, rfl, rfl, rfl, rfl, rfl, rfl, rfl, rfl⟩
theorem cxh_27_18 : am_cd 27 18 = some (.iload_n 3, 1, 3, 0, 0, []) := rfl
theorem en_28 (v0 v1 : Value) : am_en 28 [v0, v1] = [some v0, some v1, none, none, none, none] := by
  have h : am_mx 28 = 6 := by decide +kernel
  unfold am_en
  rw [h]
  rfl
theorem rt_28 : am_ret 28 = 1 := by decide +kernel
theorem kl_28 : am_kl 28 = 2 := by decide +kernel
set_option maxRecDepth 100000 in
theorem cx_28 : am_cd 28 0 = some (.iconst 0, 1, 0, 0, 0, []) ∧ am_cd 28 1 = some (.istore_n 2, 1, 2, 0, 0, []) ∧ am_cd 28 2 = some (.aload_n 0, 1, 0, 0, 0, []) ∧ am_cd 28 3 = some (.getfield 7, 3, 2, 0, 0, [0, 119]) ∧ am_cd 28 6 = some (.astore_n 3, 1, 3, 0, 0, []) ∧ am_cd 28 7 = some (.iconst 0, 1, 0, 0, 0, []) ∧ am_cd 28 8 = some (.istore 4, 2, 4, 0, 0, []) ∧ am_cd 28 12 = some (.aload_n 0, 1, 0, 0, 0, []) ∧ am_cd 28 13 = some (.getfield 19, 3, 2, 2, 0, [0, 121]) ∧ am_cd 28 16 = some (.if_icmp .ge 54, 3, 70, 0, 0, []) ∧ am_cd 28 19 = some (.aload_n 0, 1, 0, 0, 0, []) ∧ am_cd 28 20 = some (.getfield 15, 3, 2, 1, 0, [0, 120]) ∧ am_cd 28 23 = some (.iload 4, 2, 4, 0, 0, []) ∧ am_cd 28 25 = some (.aaload, 1, 0, 0, 0, []) ∧ am_cd 28 26 = some (.astore 5, 2, 5, 0, 0, []) ∧ am_cd 28 28 = some (.aload 5, 2, 5, 0, 0, []) ∧ am_cd 28 30 = some (.getfield 40, 3, 1, 0, 0, [0, 77]) ∧ am_cd 28 33 = some (.aload_n 3, 1, 3, 0, 0, []) ∧ am_cd 28 34 = some (.getfield 40, 3, 1, 0, 0, [0, 77]) ∧ am_cd 28 37 = some (.if_icmp .ne 13, 3, 50, 0, 0, []) ∧ am_cd 28 40 = some (.aload_n 1, 1, 1, 0, 0, []) ∧ am_cd 28 41 = some (.aload 5, 2, 5, 0, 0, []) ∧ am_cd 28 43 = some (.aload_n 3, 1, 3, 0, 0, []) ∧ am_cd 28 44 = some (.invokevirtual 54, 3, 29, 3, 0, [0, 328]) ∧ am_cd 28 47 = some (.ifCond .eq 14, 3, 61, 0, 0, []) ∧ am_cd 28 50 = some (.aload_n 0, 1, 0, 0, 0, []) ∧ am_cd 28 51 = some (.getfield 15, 3, 2, 1, 0, [0, 120]) ∧ am_cd 28 54 = some (.iload_n 2, 1, 2, 0, 0, []) ∧ am_cd 28 55 = some (.aload 5, 2, 5, 0, 0, []) ∧ am_cd 28 57 = some (.aastore, 1, 0, 0, 0, []) ∧ am_cd 28 58 = some (.iinc 2 1, 3, 2, 0, 1, []) ∧ am_cd 28 61 = some (.aload 5, 2, 5, 0, 0, []) ∧ am_cd 28 63 = some (.astore_n 3, 1, 3, 0, 0, []) ∧ am_cd 28 64 = some (.iinc 4 1, 3, 4, 0, 1, []) ∧ am_cd 28 67 = some (.goto (-57), 3, 10, 0, 0, []) ∧ am_cd 28 70 = some (.aload_n 0, 1, 0, 0, 0, []) ∧ am_cd 28 71 = some (.getfield 19, 3, 2, 2, 0, [0, 121]) ∧ am_cd 28 74 = some (.iload_n 2, 1, 2, 0, 0, []) ∧ am_cd 28 75 = some (.isub, 1, 0, 0, 0, []) ∧ am_cd 28 76 = some (.istore 4, 2, 4, 0, 0, []) ∧ am_cd 28 78 = some (.aload_n 0, 1, 0, 0, 0, []) ∧ am_cd 28 79 = some (.iload_n 2, 1, 2, 0, 0, []) ∧ am_cd 28 80 = some (.putfield 19, 3, 2, 2, 0, [0, 121]) ∧ am_cd 28 83 = some (.iload 4, 2, 4, 0, 0, []) ∧ am_cd 28 85 = some (.ireturn, 1, 0, 0, 0, []) := ⟨rfl, rfl, rfl, rfl, rfl, rfl, rfl, rfl, rfl, rfl, rfl, rfl, rfl, rfl, rfl, rfl, rfl, rfl, rfl, rfl, rfl, rfl, rfl, rfl, rfl, rfl, rfl, rfl, rfl, rfl, rfl, rfl, rfl, rfl, rfl, rfl, rfl, rfl, rfl, rfl, rfl, rfl, rfl, rfl, rfl⟩
theorem cxh_28_10 : am_cd 28 10 = some (.iload 4, 2, 4, 0, 0, []) := rfl
theorem en_29 (v0 v1 v2 : Value) : am_en 29 [v0, v1, v2] = [some v0, some v1, some v2, none] := by
  have h : am_mx 29 = 4 := by decide +kernel
  unfold am_en
  rw [h]
  rfl
theorem rt_29 : am_ret 29 = 2 := by decide +kernel
theorem kl_29 : am_kl 29 = 6 := by decide +kernel
set_option maxRecDepth 100000 in
theorem cx_29 : am_cd 29 0 = some (.iconst 0, 1, 0, 0, 0, []) ∧ am_cd 29 1 = some (.istore_n 3, 1, 3, 0, 0, []) ∧ am_cd 29 3 = some (.iconst 3, 1, 0, 0, 3, []) ∧ am_cd 29 4 = some (.if_icmp .ge 37, 3, 41, 0, 0, []) ∧ am_cd 29 7 = some (.aload_n 0, 1, 0, 0, 0, []) ∧ am_cd 29 8 = some (.getfield 9, 3, 6, 0, 0, [0, 201]) ∧ am_cd 29 11 = some (.iload_n 3, 1, 3, 0, 0, []) ∧ am_cd 29 12 = some (.iaload, 1, 0, 0, 0, []) ∧ am_cd 29 13 = some (.aload_n 1, 1, 1, 0, 0, []) ∧ am_cd 29 14 = some (.getfield 25, 3, 1, 4, 0, [0, 84]) ∧ am_cd 29 17 = some (.if_icmp .lt 18, 3, 35, 0, 0, []) ∧ am_cd 29 20 = some (.aload_n 0, 1, 0, 0, 0, []) ∧ am_cd 29 21 = some (.getfield 9, 3, 6, 0, 0, [0, 201]) ∧ am_cd 29 24 = some (.iload_n 3, 1, 3, 0, 0, []) ∧ am_cd 29 25 = some (.iaload, 1, 0, 0, 0, []) ∧ am_cd 29 26 = some (.aload_n 2, 1, 2, 0, 0, []) ∧ am_cd 29 27 = some (.getfield 25, 3, 1, 4, 0, [0, 84]) ∧ am_cd 29 30 = some (.if_icmp .ge 5, 3, 35, 0, 0, []) ∧ am_cd 29 33 = some (.iconst 1, 1, 0, 0, 1, []) ∧ am_cd 29 34 = some (.ireturn, 1, 0, 0, 0, []) ∧ am_cd 29 35 = some (.iinc 3 1, 3, 3, 0, 1, []) ∧ am_cd 29 38 = some (.goto (-36), 3, 2, 0, 0, []) ∧ am_cd 29 41 = some (.iconst 0, 1, 0, 0, 0, []) ∧ am_cd 29 42 = some (.ireturn, 1, 0, 0, 0, []) := ⟨rfl, rfl, rfl, rfl, rfl, rfl, rfl, rfl, rfl, rfl, rfl, rfl, rfl, rfl, rfl, rfl, rfl, rfl, rfl, rfl, rfl, rfl, rfl, rfl⟩
theorem cxh_29_2 : am_cd 29 2 = some (.iload_n 3, 1, 3, 0, 0, []) := rfl
theorem en_30 (v0 v1 : Value) : am_en 30 [v0, v1] = [some v0, some v1, none, none, none, none] := by
  have h : am_mx 30 = 6 := by decide +kernel
  unfold am_en
  rw [h]
  rfl
theorem rt_30 : am_ret 30 = 1 := by decide +kernel
theorem kl_30 : am_kl 30 = 2 := by decide +kernel
set_option maxRecDepth 100000 in
theorem cx_30 : am_cd 30 0 = some (.aload_n 0, 1, 0, 0, 0, []) ∧ am_cd 30 1 = some (.getfield 19, 3, 2, 2, 0, [0, 121]) ∧ am_cd 30 4 = some (.istore_n 2, 1, 2, 0, 0, []) ∧ am_cd 30 5 = some (.aload_n 0, 1, 0, 0, 0, []) ∧ am_cd 30 6 = some (.getfield 7, 3, 2, 0, 0, [0, 119]) ∧ am_cd 30 9 = some (.astore_n 3, 1, 3, 0, 0, []) ∧ am_cd 30 10 = some (.aload_n 0, 1, 0, 0, 0, []) ∧ am_cd 30 11 = some (.getfield 19, 3, 2, 2, 0, [0, 121]) ∧ am_cd 30 14 = some (.iconst 1, 1, 0, 0, 1, []) ∧ am_cd 30 15 = some (.isub, 1, 0, 0, 0, []) ∧ am_cd 30 16 = some (.istore 4, 2, 4, 0, 0, []) ∧ am_cd 30 20 = some (.ifCond .lt 53, 3, 73, 0, 0, []) ∧ am_cd 30 23 = some (.aload_n 0, 1, 0, 0, 0, []) ∧ am_cd 30 24 = some (.getfield 15, 3, 2, 1, 0, [0, 120]) ∧ am_cd 30 27 = some (.iload 4, 2, 4, 0, 0, []) ∧ am_cd 30 29 = some (.aaload, 1, 0, 0, 0, []) ∧ am_cd 30 30 = some (.astore 5, 2, 5, 0, 0, []) ∧ am_cd 30 32 = some (.aload 5, 2, 5, 0, 0, []) ∧ am_cd 30 34 = some (.getfield 40, 3, 1, 0, 0, [0, 77]) ∧ am_cd 30 37 = some (.aload_n 3, 1, 3, 0, 0, []) ∧ am_cd 30 38 = some (.getfield 40, 3, 1, 0, 0, [0, 77]) ∧ am_cd 30 41 = some (.if_icmp .eq 12, 3, 53, 0, 0, []) ∧ am_cd 30 44 = some (.aload 5, 2, 5, 0, 0, []) ∧ am_cd 30 46 = some (.iload_n 1, 1, 1, 0, 0, []) ∧ am_cd 30 47 = some (.invokevirtual 60, 3, 31, 2, 0, [0, 336]) ∧ am_cd 30 50 = some (.ifCond .ne 17, 3, 67, 0, 0, []) ∧ am_cd 30 53 = some (.iinc 2 (-1), 3, 2, 0, (-1), []) ∧ am_cd 30 56 = some (.aload_n 0, 1, 0, 0, 0, []) ∧ am_cd 30 57 = some (.getfield 15, 3, 2, 1, 0, [0, 120]) ∧ am_cd 30 60 = some (.iload_n 2, 1, 2, 0, 0, []) ∧ am_cd 30 61 = some (.aload 5, 2, 5, 0, 0, []) ∧ am_cd 30 63 = some (.aastore, 1, 0, 0, 0, []) ∧ am_cd 30 64 = some (.aload 5, 2, 5, 0, 0, []) ∧ am_cd 30 66 = some (.astore_n 3, 1, 3, 0, 0, []) ∧ am_cd 30 67 = some (.iinc 4 (-1), 3, 4, 0, (-1), []) ∧ am_cd 30 70 = some (.goto (-52), 3, 18, 0, 0, []) ∧ am_cd 30 73 = some (.aload_n 0, 1, 0, 0, 0, []) ∧ am_cd 30 74 = some (.dup, 1, 0, 0, 0, []) ∧ am_cd 30 75 = some (.getfield 19, 3, 2, 2, 0, [0, 121]) ∧ am_cd 30 78 = some (.iload_n 2, 1, 2, 0, 0, []) ∧ am_cd 30 79 = some (.isub, 1, 0, 0, 0, []) ∧ am_cd 30 80 = some (.putfield 19, 3, 2, 2, 0, [0, 121]) ∧ am_cd 30 83 = some (.iconst 0, 1, 0, 0, 0, []) ∧ am_cd 30 84 = some (.istore 4, 2, 4, 0, 0, []) ∧ am_cd 30 88 = some (.aload_n 0, 1, 0, 0, 0, []) ∧ am_cd 30 89 = some (.getfield 19, 3, 2, 2, 0, [0, 121]) ∧ am_cd 30 92 = some (.if_icmp .ge 25, 3, 117, 0, 0, []) ∧ am_cd 30 95 = some (.aload_n 0, 1, 0, 0, 0, []) ∧ am_cd 30 96 = some (.getfield 15, 3, 2, 1, 0, [0, 120]) ∧ am_cd 30 99 = some (.iload 4, 2, 4, 0, 0, []) ∧ am_cd 30 101 = some (.aload_n 0, 1, 0, 0, 0, []) ∧ am_cd 30 102 = some (.getfield 15, 3, 2, 1, 0, [0, 120]) ∧ am_cd 30 105 = some (.iload_n 2, 1, 2, 0, 0, []) ∧ am_cd 30 106 = some (.iload 4, 2, 4, 0, 0, []) ∧ am_cd 30 108 = some (.iadd, 1, 0, 0, 0, []) ∧ am_cd 30 109 = some (.aaload, 1, 0, 0, 0, []) ∧ am_cd 30 110 = some (.aastore, 1, 0, 0, 0, []) ∧ am_cd 30 111 = some (.iinc 4 1, 3, 4, 0, 1, []) ∧ am_cd 30 114 = some (.goto (-28), 3, 86, 0, 0, []) ∧ am_cd 30 117 = some (.iload_n 2, 1, 2, 0, 0, []) ∧ am_cd 30 118 = some (.ireturn, 1, 0, 0, 0, []) := ⟨rfl, rfl, rfl, rfl, rfl, rfl, rfl, rfl, rfl, rfl, rfl, rfl, rfl, rfl, rfl, rfl, rfl, rfl, rfl, rfl, rfl, rfl, rfl, rfl, rfl, rfl, rfl, rfl, rfl, rfl, rfl, rfl, rfl, rfl, rfl, rfl, rfl, rfl, rfl, rfl, rfl, rfl, rfl, rfl, rfl, rfl, rfl, rfl, rfl, rfl, rfl, rfl, rfl, rfl, rfl, rfl, rfl, rfl, rfl, rfl, rfl⟩
theorem cxh_30_18 : am_cd 30 18 = some (.iload 4, 2, 4, 0, 0, []) := rfl
theorem cxh_30_86 : am_cd 30 86 = some (.iload 4, 2, 4, 0, 0, []) := rfl
theorem en_31 (v0 v1 : Value) : am_en 31 [v0, v1] = [some v0, some v1] := by
  have h : am_mx 31 = 2 := by decide +kernel
  unfold am_en
  rw [h]
  rfl
theorem rt_31 : am_ret 31 = 2 := by decide +kernel
theorem kl_31 : am_kl 31 = 1 := by decide +kernel
set_option maxRecDepth 100000 in
theorem cx_31 : am_cd 31 0 = some (.aload_n 0, 1, 0, 0, 0, []) ∧ am_cd 31 1 = some (.getfield 21, 3, 1, 3, 0, [0, 82]) ∧ am_cd 31 4 = some (.ifCond .ne 18, 3, 22, 0, 0, []) ∧ am_cd 31 7 = some (.aload_n 0, 1, 0, 0, 0, []) ∧ am_cd 31 8 = some (.getfield 18, 3, 1, 2, 0, [0, 80]) ∧ am_cd 31 11 = some (.ifCond .le 15, 3, 26, 0, 0, []) ∧ am_cd 31 14 = some (.iload_n 1, 1, 1, 0, 0, []) ∧ am_cd 31 15 = some (.aload_n 0, 1, 0, 0, 0, []) ∧ am_cd 31 16 = some (.getfield 25, 3, 1, 5, 0, [0, 88]) ∧ am_cd 31 19 = some (.if_icmp .lt 7, 3, 26, 0, 0, []) ∧ am_cd 31 22 = some (.iconst 1, 1, 0, 0, 1, []) ∧ am_cd 31 23 = some (.goto 4, 3, 27, 0, 0, []) ∧ am_cd 31 26 = some (.iconst 0, 1, 0, 0, 0, []) ∧ am_cd 31 27 = some (.ireturn, 1, 0, 0, 0, []) := ⟨rfl, rfl, rfl, rfl, rfl, rfl, rfl, rfl, rfl, rfl, rfl, rfl, rfl, rfl⟩
theorem en_32 (v0 v1 : Value) : am_en 32 [v0, v1] = [some v0, some v1, none] := by
  have h : am_mx 32 = 3 := by decide +kernel
  unfold am_en
  rw [h]
  rfl
theorem rt_32 : am_ret 32 = 0 := by decide +kernel
theorem kl_32 : am_kl 32 = 4 := by decide +kernel
set_option maxRecDepth 100000 in
theorem cx_32 : am_cd 32 0 = some (.aload_n 0, 1, 0, 0, 0, []) ∧ am_cd 32 1 = some (.aload_n 1, 1, 1, 0, 0, []) ∧ am_cd 32 2 = some (.invokevirtual 24, 3, 12, 1, 0, [0, 307]) ∧ am_cd 32 5 = some (.invokestatic 34, 3, 5, 1, 0, [1, 344]) ∧ am_cd 32 8 = some (.aload_n 0, 1, 0, 0, 0, []) ∧ am_cd 32 9 = some (.getfield 11, 3, 4, 0, 0, [0, 153]) ∧ am_cd 32 12 = some (.arraylength, 1, 0, 0, 0, []) ∧ am_cd 32 13 = some (.invokestatic 38, 3, 0, 91, 0, [345, 346, 59, 347]) ∧ am_cd 32 16 = some (.putfield 20, 3, 4, 1, 0, [0, 154]) ∧ am_cd 32 19 = some (.iconst 0, 1, 0, 0, 0, []) ∧ am_cd 32 20 = some (.istore_n 2, 1, 2, 0, 0, []) ∧ am_cd 32 22 = some (.aload_n 0, 1, 0, 0, 0, []) ∧ am_cd 32 23 = some (.getfield 20, 3, 4, 1, 0, [0, 154]) ∧ am_cd 32 26 = some (.if_icmp .ge 37, 3, 63, 0, 0, []) ∧ am_cd 32 29 = some (.aload_n 0, 1, 0, 0, 0, []) ∧ am_cd 32 30 = some (.getfield 11, 3, 4, 0, 0, [0, 153]) ∧ am_cd 32 33 = some (.iload_n 2, 1, 2, 0, 0, []) ∧ am_cd 32 34 = some (.aaload, 1, 0, 0, 0, []) ∧ am_cd 32 35 = some (.aload_n 1, 1, 1, 0, 0, []) ∧ am_cd 32 36 = some (.iload_n 2, 1, 2, 0, 0, []) ∧ am_cd 32 37 = some (.bipush 6, 2, 0, 0, 6, []) ∧ am_cd 32 39 = some (.imul, 1, 0, 0, 0, []) ∧ am_cd 32 40 = some (.iload_n 2, 1, 2, 0, 0, []) ∧ am_cd 32 41 = some (.bipush 6, 2, 0, 0, 6, []) ∧ am_cd 32 43 = some (.imul, 1, 0, 0, 0, []) ∧ am_cd 32 44 = some (.bipush 6, 2, 0, 0, 6, []) ∧ am_cd 32 46 = some (.iadd, 1, 0, 0, 0, []) ∧ am_cd 32 47 = some (.aload_n 1, 1, 1, 0, 0, []) ∧ am_cd 32 48 = some (.invokevirtual 24, 3, 12, 1, 0, [0, 307]) ∧ am_cd 32 51 = some (.invokestatic 38, 3, 0, 91, 0, [345, 346, 59, 347]) ∧ am_cd 32 54 = some (.invokevirtual 30, 3, 33, 4, 0, [0, 348]) ∧ am_cd 32 57 = some (.iinc 2 1, 3, 2, 0, 1, []) ∧ am_cd 32 60 = some (.goto (-39), 3, 21, 0, 0, []) ∧ am_cd 32 63 = some (.return_, 1, 0, 0, 0, []) := ⟨rfl, rfl, rfl, rfl, rfl, rfl, rfl, rfl, rfl, rfl, rfl, rfl, rfl, rfl, rfl, rfl, rfl, rfl, rfl, rfl, rfl, rfl, rfl, rfl, rfl, rfl, rfl, rfl, rfl, rfl, rfl, rfl, rfl, rfl⟩
theorem cxh_32_21 : am_cd 32 21 = some (.iload_n 2, 1, 2, 0, 0, []) := rfl
theorem en_33 (v0 v1 v2 v3 : Value) : am_en 33 [v0, v1, v2, v3] = [some v0, some v1, some v2, some v3, none] := by
  have h : am_mx 33 = 5 := by decide +kernel
  unfold am_en
  rw [h]
  rfl
theorem rt_33 : am_ret 33 = 0 := by decide +kernel
theorem kl_33 : am_kl 33 = 3 := by decide +kernel
set_option maxRecDepth 100000 in
theorem cx_33 : am_cd 33 0 = some (.aload_n 0, 1, 0, 0, 0, []) ∧ am_cd 33 1 = some (.getfield 14, 3, 3, 0, 0, [0, 144]) ∧ am_cd 33 4 = some (.invokevirtual 20, 3, 22, 1, 0, [0, 352]) ∧ am_cd 33 7 = some (.aload_n 0, 1, 0, 0, 0, []) ∧ am_cd 33 8 = some (.iconst 0, 1, 0, 0, 0, []) ∧ am_cd 33 9 = some (.putfield 23, 3, 3, 1, 0, [0, 147]) ∧ am_cd 33 12 = some (.iload_n 2, 1, 2, 0, 0, []) ∧ am_cd 33 13 = some (.istore 4, 2, 4, 0, 0, []) ∧ am_cd 33 17 = some (.iload_n 3, 1, 3, 0, 0, []) ∧ am_cd 33 18 = some (.if_icmp .ge 43, 3, 61, 0, 0, []) ∧ am_cd 33 21 = some (.aload_n 0, 1, 0, 0, 0, []) ∧ am_cd 33 22 = some (.getfield 14, 3, 3, 0, 0, [0, 144]) ∧ am_cd 33 25 = some (.aload_n 1, 1, 1, 0, 0, []) ∧ am_cd 33 26 = some (.iload 4, 2, 4, 0, 0, []) ∧ am_cd 33 28 = some (.invokevirtual 27, 3, 24, 2, 0, [0, 353]) ∧ am_cd 33 31 = some (.invokevirtual 31, 3, 13, 2, 0, [0, 354]) ∧ am_cd 33 34 = some (.aload_n 0, 1, 0, 0, 0, []) ∧ am_cd 33 35 = some (.dup, 1, 0, 0, 0, []) ∧ am_cd 33 36 = some (.getfield 23, 3, 3, 1, 0, [0, 147]) ∧ am_cd 33 39 = some (.aload_n 1, 1, 1, 0, 0, []) ∧ am_cd 33 40 = some (.iload 4, 2, 4, 0, 0, []) ∧ am_cd 33 42 = some (.invokevirtual 27, 3, 24, 2, 0, [0, 353]) ∧ am_cd 33 45 = some (.getfield 35, 3, 1, 0, 0, [0, 76]) ∧ am_cd 33 48 = some (.invokestatic 40, 3, 34, 1, 0, [0, 355]) ∧ am_cd 33 51 = some (.ior, 1, 0, 0, 0, []) ∧ am_cd 33 52 = some (.putfield 23, 3, 3, 1, 0, [0, 147]) ∧ am_cd 33 55 = some (.iinc 4 1, 3, 4, 0, 1, []) ∧ am_cd 33 58 = some (.goto (-43), 3, 15, 0, 0, []) ∧ am_cd 33 61 = some (.return_, 1, 0, 0, 0, []) := ⟨rfl, rfl, rfl, rfl, rfl, rfl, rfl, rfl, rfl, rfl, rfl, rfl, rfl, rfl, rfl, rfl, rfl, rfl, rfl, rfl, rfl, rfl, rfl, rfl, rfl, rfl, rfl, rfl, rfl⟩
theorem cxh_33_15 : am_cd 33 15 = some (.iload 4, 2, 4, 0, 0, []) := rfl
theorem en_34 (v0 : Value) : am_en 34 [v0] = [some v0] := by
  have h : am_mx 34 = 1 := by decide +kernel
  unfold am_en
  rw [h]
  rfl
theorem rt_34 : am_ret 34 = 1 := by decide +kernel
theorem kl_34 : am_kl 34 = 3 := by decide +kernel
set_option maxRecDepth 100000 in
theorem cx_34 : am_cd 34 0 = some (.iconst 1, 1, 0, 0, 1, []) ∧ am_cd 34 1 = some (.iconst 5, 1, 0, 0, 5, []) ∧ am_cd 34 2 = some (.iload_n 0, 1, 0, 0, 0, []) ∧ am_cd 34 3 = some (.imul, 1, 0, 0, 0, []) ∧ am_cd 34 4 = some (.iconst 1, 1, 0, 0, 1, []) ∧ am_cd 34 5 = some (.iadd, 1, 0, 0, 0, []) ∧ am_cd 34 6 = some (.bipush 32, 2, 0, 0, 32, []) ∧ am_cd 34 8 = some (.irem, 1, 0, 0, 0, []) ∧ am_cd 34 9 = some (.ishl, 1, 0, 0, 0, []) ∧ am_cd 34 10 = some (.iconst 1, 1, 0, 0, 1, []) ∧ am_cd 34 11 = some (.bipush 11, 2, 0, 0, 11, []) ∧ am_cd 34 13 = some (.iload_n 0, 1, 0, 0, 0, []) ∧ am_cd 34 14 = some (.imul, 1, 0, 0, 0, []) ∧ am_cd 34 15 = some (.bipush 7, 2, 0, 0, 7, []) ∧ am_cd 34 17 = some (.iadd, 1, 0, 0, 0, []) ∧ am_cd 34 18 = some (.bipush 32, 2, 0, 0, 32, []) ∧ am_cd 34 20 = some (.irem, 1, 0, 0, 0, []) ∧ am_cd 34 21 = some (.ishl, 1, 0, 0, 0, []) ∧ am_cd 34 22 = some (.ior, 1, 0, 0, 0, []) ∧ am_cd 34 23 = some (.ireturn, 1, 0, 0, 0, []) := ⟨rfl, rfl, rfl, rfl, rfl, rfl, rfl, rfl, rfl, rfl, rfl, rfl, rfl, rfl, rfl, rfl, rfl, rfl, rfl, rfl⟩
theorem en_35 (v0 v1 : Value) : am_en 35 [v0, v1] = [some v0, some v1, none, none] := by
  have h : am_mx 35 = 4 := by decide +kernel
  unfold am_en
  rw [h]
  rfl
theorem rt_35 : am_ret 35 = 0 := by decide +kernel
theorem kl_35 : am_kl 35 = 4 := by decide +kernel
set_option maxRecDepth 100000 in
theorem cx_35 : am_cd 35 0 = some (.aload_n 0, 1, 0, 0, 0, []) ∧ am_cd 35 1 = some (.getfield 20, 3, 4, 1, 0, [0, 154]) ∧ am_cd 35 4 = some (.aload_n 0, 1, 0, 0, 0, []) ∧ am_cd 35 5 = some (.getfield 11, 3, 4, 0, 0, [0, 153]) ∧ am_cd 35 8 = some (.arraylength, 1, 0, 0, 0, []) ∧ am_cd 35 9 = some (.if_icmp .lt 4, 3, 13, 0, 0, []) ∧ am_cd 35 12 = some (.return_, 1, 0, 0, 0, []) ∧ am_cd 35 13 = some (.aload_n 0, 1, 0, 0, 0, []) ∧ am_cd 35 14 = some (.getfield 11, 3, 4, 0, 0, [0, 153]) ∧ am_cd 35 17 = some (.aload_n 0, 1, 0, 0, 0, []) ∧ am_cd 35 18 = some (.getfield 20, 3, 4, 1, 0, [0, 154]) ∧ am_cd 35 21 = some (.aaload, 1, 0, 0, 0, []) ∧ am_cd 35 22 = some (.astore_n 2, 1, 2, 0, 0, []) ∧ am_cd 35 23 = some (.aload_n 0, 1, 0, 0, 0, []) ∧ am_cd 35 24 = some (.getfield 20, 3, 4, 1, 0, [0, 154]) ∧ am_cd 35 27 = some (.istore_n 3, 1, 3, 0, 0, []) ∧ am_cd 35 29 = some (.ifCond .le 23, 3, 52, 0, 0, []) ∧ am_cd 35 32 = some (.aload_n 0, 1, 0, 0, 0, []) ∧ am_cd 35 33 = some (.getfield 11, 3, 4, 0, 0, [0, 153]) ∧ am_cd 35 36 = some (.iload_n 3, 1, 3, 0, 0, []) ∧ am_cd 35 37 = some (.aload_n 0, 1, 0, 0, 0, []) ∧ am_cd 35 38 = some (.getfield 11, 3, 4, 0, 0, [0, 153]) ∧ am_cd 35 41 = some (.iload_n 3, 1, 3, 0, 0, []) ∧ am_cd 35 42 = some (.iconst 1, 1, 0, 0, 1, []) ∧ am_cd 35 43 = some (.isub, 1, 0, 0, 0, []) ∧ am_cd 35 44 = some (.aaload, 1, 0, 0, 0, []) ∧ am_cd 35 45 = some (.aastore, 1, 0, 0, 0, []) ∧ am_cd 35 46 = some (.iinc 3 (-1), 3, 3, 0, (-1), []) ∧ am_cd 35 49 = some (.goto (-21), 3, 28, 0, 0, []) ∧ am_cd 35 52 = some (.aload_n 0, 1, 0, 0, 0, []) ∧ am_cd 35 53 = some (.getfield 11, 3, 4, 0, 0, [0, 153]) ∧ am_cd 35 56 = some (.iconst 0, 1, 0, 0, 0, []) ∧ am_cd 35 57 = some (.aload_n 2, 1, 2, 0, 0, []) ∧ am_cd 35 58 = some (.aastore, 1, 0, 0, 0, []) ∧ am_cd 35 59 = some (.aload_n 2, 1, 2, 0, 0, []) ∧ am_cd 35 60 = some (.aload_n 1, 1, 1, 0, 0, []) ∧ am_cd 35 61 = some (.iconst 0, 1, 0, 0, 0, []) ∧ am_cd 35 62 = some (.aload_n 1, 1, 1, 0, 0, []) ∧ am_cd 35 63 = some (.invokevirtual 24, 3, 12, 1, 0, [0, 307]) ∧ am_cd 35 66 = some (.invokevirtual 30, 3, 33, 4, 0, [0, 348]) ∧ am_cd 35 69 = some (.aload_n 0, 1, 0, 0, 0, []) ∧ am_cd 35 70 = some (.dup, 1, 0, 0, 0, []) ∧ am_cd 35 71 = some (.getfield 20, 3, 4, 1, 0, [0, 154]) ∧ am_cd 35 74 = some (.iconst 1, 1, 0, 0, 1, []) ∧ am_cd 35 75 = some (.iadd, 1, 0, 0, 0, []) ∧ am_cd 35 76 = some (.putfield 20, 3, 4, 1, 0, [0, 154]) ∧ am_cd 35 79 = some (.return_, 1, 0, 0, 0, []) := ⟨rfl, rfl, rfl, rfl, rfl, rfl, rfl, rfl, rfl, rfl, rfl, rfl, rfl, rfl, rfl, rfl, rfl, rfl, rfl, rfl, rfl, rfl, rfl, rfl, rfl, rfl, rfl, rfl, rfl, rfl, rfl, rfl, rfl, rfl, rfl, rfl, rfl, rfl, rfl, rfl, rfl, rfl, rfl, rfl, rfl, rfl, rfl⟩
theorem cxh_35_28 : am_cd 35 28 = some (.iload_n 3, 1, 3, 0, 0, []) := rfl
theorem en_36 (v0 : Value) : am_en 36 [v0] = [some v0, none] := by
  have h : am_mx 36 = 2 := by decide +kernel
  unfold am_en
  rw [h]
  rfl
theorem rt_36 : am_ret 36 = 1 := by decide +kernel
theorem kl_36 : am_kl 36 = 5 := by decide +kernel
set_option maxRecDepth 100000 in
theorem cx_36 : am_cd 36 0 = some (.aload_n 0, 1, 0, 0, 0, []) ∧ am_cd 36 1 = some (.getfield 31, 3, 5, 6, 0, [0, 175]) ∧ am_cd 36 4 = some (.istore_n 1, 1, 1, 0, 0, []) ∧ am_cd 36 5 = some (.aload_n 0, 1, 0, 0, 0, []) ∧ am_cd 36 6 = some (.iconst 0, 1, 0, 0, 0, []) ∧ am_cd 36 7 = some (.putfield 31, 3, 5, 6, 0, [0, 175]) ∧ am_cd 36 10 = some (.iload_n 1, 1, 1, 0, 0, []) ∧ am_cd 36 11 = some (.ireturn, 1, 0, 0, 0, []) := ⟨rfl, rfl, rfl, rfl, rfl, rfl, rfl, rfl⟩
theorem en_37 (v0 : Value) : am_en 37 [v0] = [some v0, none, none] := by
  have h : am_mx 37 = 3 := by decide +kernel
  unfold am_en
  rw [h]
  rfl
theorem rt_37 : am_ret 37 = 0 := by decide +kernel
theorem kl_37 : am_kl 37 = 0 := by decide +kernel
set_option maxRecDepth 100000 in
theorem cx_37 : am_cd 37 0 = some (.aload_n 0, 1, 0, 0, 0, []) ∧ am_cd 37 1 = some (.getfield 58, 3, 0, 8, 0, [0, 213]) ∧ am_cd 37 4 = some (.aload_n 0, 1, 0, 0, 0, []) ∧ am_cd 37 5 = some (.getfield 122, 3, 0, 11, 0, [0, 216]) ∧ am_cd 37 8 = some (.invokevirtual 202, 3, 38, 2, 0, [0, 372]) ∧ am_cd 37 11 = some (.aload_n 0, 1, 0, 0, 0, []) ∧ am_cd 37 12 = some (.getfield 58, 3, 0, 8, 0, [0, 213]) ∧ am_cd 37 15 = some (.aload_n 0, 1, 0, 0, 0, []) ∧ am_cd 37 16 = some (.getfield 23, 3, 0, 1, 0, [0, 206]) ∧ am_cd 37 19 = some (.invokevirtual 77, 3, 12, 1, 0, [0, 259]) ∧ am_cd 37 22 = some (.invokevirtual 205, 3, 39, 2, 0, [0, 376]) ∧ am_cd 37 25 = some (.iconst 0, 1, 0, 0, 0, []) ∧ am_cd 37 26 = some (.istore_n 1, 1, 1, 0, 0, []) ∧ am_cd 37 28 = some (.aload_n 0, 1, 0, 0, 0, []) ∧ am_cd 37 29 = some (.getfield 23, 3, 0, 1, 0, [0, 206]) ∧ am_cd 37 32 = some (.invokevirtual 77, 3, 12, 1, 0, [0, 259]) ∧ am_cd 37 35 = some (.if_icmp .ge 65, 3, 100, 0, 0, []) ∧ am_cd 37 38 = some (.aload_n 0, 1, 0, 0, 0, []) ∧ am_cd 37 39 = some (.getfield 23, 3, 0, 1, 0, [0, 206]) ∧ am_cd 37 42 = some (.iload_n 1, 1, 1, 0, 0, []) ∧ am_cd 37 43 = some (.invokevirtual 208, 3, 24, 2, 0, [0, 358]) ∧ am_cd 37 46 = some (.astore_n 2, 1, 2, 0, 0, []) ∧ am_cd 37 47 = some (.aload_n 0, 1, 0, 0, 0, []) ∧ am_cd 37 48 = some (.dup, 1, 0, 0, 0, []) ∧ am_cd 37 49 = some (.getfield 122, 3, 0, 11, 0, [0, 216]) ∧ am_cd 37 52 = some (.iconst 1, 1, 0, 0, 1, []) ∧ am_cd 37 53 = some (.iadd, 1, 0, 0, 0, []) ∧ am_cd 37 54 = some (.putfield 122, 3, 0, 11, 0, [0, 216]) ∧ am_cd 37 57 = some (.aload_n 2, 1, 2, 0, 0, []) ∧ am_cd 37 58 = some (.aload_n 0, 1, 0, 0, 0, []) ∧ am_cd 37 59 = some (.getfield 122, 3, 0, 11, 0, [0, 216]) ∧ am_cd 37 62 = some (.putfield 212, 3, 1, 4, 0, [0, 87]) ∧ am_cd 37 65 = some (.aload_n 2, 1, 2, 0, 0, []) ∧ am_cd 37 66 = some (.aload_n 0, 1, 0, 0, 0, []) ∧ am_cd 37 67 = some (.getfield 132, 3, 0, 10, 0, [0, 215]) ∧ am_cd 37 70 = some (.aload_n 2, 1, 2, 0, 0, []) ∧ am_cd 37 71 = some (.getfield 215, 3, 1, 2, 0, [0, 81]) ∧ am_cd 37 74 = some (.iadd, 1, 0, 0, 0, []) ∧ am_cd 37 75 = some (.putfield 218, 3, 1, 5, 0, [0, 89]) ∧ am_cd 37 78 = some (.aload_n 0, 1, 0, 0, 0, []) ∧ am_cd 37 79 = some (.getfield 58, 3, 0, 8, 0, [0, 213]) ∧ am_cd 37 82 = some (.aload_n 2, 1, 2, 0, 0, []) ∧ am_cd 37 83 = some (.invokevirtual 221, 3, 40, 2, 0, [0, 380]) ∧ am_cd 37 86 = some (.aload_n 0, 1, 0, 0, 0, []) ∧ am_cd 37 87 = some (.getfield 27, 3, 0, 2, 0, [0, 207]) ∧ am_cd 37 90 = some (.aload_n 2, 1, 2, 0, 0, []) ∧ am_cd 37 91 = some (.invokevirtual 198, 3, 13, 2, 0, [0, 263]) ∧ am_cd 37 94 = some (.iinc 1 1, 3, 1, 0, 1, []) ∧ am_cd 37 97 = some (.goto (-70), 3, 27, 0, 0, []) ∧ am_cd 37 100 = some (.aload_n 0, 1, 0, 0, 0, []) ∧ am_cd 37 101 = some (.getfield 23, 3, 0, 1, 0, [0, 206]) ∧ am_cd 37 104 = some (.invokevirtual 138, 3, 22, 1, 0, [0, 299]) ∧ am_cd 37 107 = some (.return_, 1, 0, 0, 0, []) := ⟨rfl, rfl, rfl, rfl, rfl, rfl, rfl, rfl, rfl, rfl, rfl, rfl, rfl, rfl, rfl, rfl, rfl, rfl, rfl, rfl, rfl, rfl, rfl, rfl, rfl, rfl, rfl, rfl, rfl, rfl, rfl, rfl, rfl, rfl, rfl, rfl, rfl, rfl, rfl, rfl, rfl, rfl, rfl, rfl, rfl, rfl, rfl, rfl, rfl, rfl, rfl, rfl, rfl⟩
theorem cxh_37_27 : am_cd 37 27 = some (.iload_n 1, 1, 1, 0, 0, []) := rfl
theorem en_38 (v0 v1 : Value) : am_en 38 [v0, v1] = [some v0, some v1] := by
  have h : am_mx 38 = 2 := by decide +kernel
  unfold am_en
  rw [h]
  rfl
theorem rt_38 : am_ret 38 = 0 := by decide +kernel
theorem kl_38 : am_kl 38 = 5 := by decide +kernel
set_option maxRecDepth 100000 in
theorem cx_38 : am_cd 38 0 = some (.aload_n 0, 1, 0, 0, 0, []) ∧ am_cd 38 1 = some (.getfield 31, 3, 5, 6, 0, [0, 175]) ∧ am_cd 38 4 = some (.bipush 8, 2, 0, 0, 8, []) ∧ am_cd 38 6 = some (.if_icmp .lt 4, 3, 10, 0, 0, []) ∧ am_cd 38 9 = some (.return_, 1, 0, 0, 0, []) ∧ am_cd 38 10 = some (.aload_n 0, 1, 0, 0, 0, []) ∧ am_cd 38 11 = some (.getfield 19, 3, 5, 3, 0, [0, 172]) ∧ am_cd 38 14 = some (.aload_n 0, 1, 0, 0, 0, []) ∧ am_cd 38 15 = some (.getfield 31, 3, 5, 6, 0, [0, 175]) ∧ am_cd 38 18 = some (.aload_n 0, 1, 0, 0, 0, []) ∧ am_cd 38 19 = some (.getfield 15, 3, 5, 2, 0, [0, 171]) ∧ am_cd 38 22 = some (.iastore, 1, 0, 0, 0, []) ∧ am_cd 38 23 = some (.aload_n 0, 1, 0, 0, 0, []) ∧ am_cd 38 24 = some (.getfield 22, 3, 5, 4, 0, [0, 173]) ∧ am_cd 38 27 = some (.aload_n 0, 1, 0, 0, 0, []) ∧ am_cd 38 28 = some (.getfield 31, 3, 5, 6, 0, [0, 175]) ∧ am_cd 38 31 = some (.aload_n 0, 1, 0, 0, 0, []) ∧ am_cd 38 32 = some (.getfield 9, 3, 5, 0, 0, [0, 169]) ∧ am_cd 38 35 = some (.aload_n 0, 1, 0, 0, 0, []) ∧ am_cd 38 36 = some (.getfield 15, 3, 5, 2, 0, [0, 171]) ∧ am_cd 38 39 = some (.iconst 1, 1, 0, 0, 1, []) ∧ am_cd 38 40 = some (.isub, 1, 0, 0, 0, []) ∧ am_cd 38 41 = some (.iaload, 1, 0, 0, 0, []) ∧ am_cd 38 42 = some (.iastore, 1, 0, 0, 0, []) ∧ am_cd 38 43 = some (.aload_n 0, 1, 0, 0, 0, []) ∧ am_cd 38 44 = some (.getfield 25, 3, 5, 5, 0, [0, 174]) ∧ am_cd 38 47 = some (.aload_n 0, 1, 0, 0, 0, []) ∧ am_cd 38 48 = some (.getfield 31, 3, 5, 6, 0, [0, 175]) ∧ am_cd 38 51 = some (.iload_n 1, 1, 1, 0, 0, []) ∧ am_cd 38 52 = some (.iastore, 1, 0, 0, 0, []) ∧ am_cd 38 53 = some (.aload_n 0, 1, 0, 0, 0, []) ∧ am_cd 38 54 = some (.dup, 1, 0, 0, 0, []) ∧ am_cd 38 55 = some (.getfield 31, 3, 5, 6, 0, [0, 175]) ∧ am_cd 38 58 = some (.iconst 1, 1, 0, 0, 1, []) ∧ am_cd 38 59 = some (.iadd, 1, 0, 0, 0, []) ∧ am_cd 38 60 = some (.putfield 31, 3, 5, 6, 0, [0, 175]) ∧ am_cd 38 63 = some (.return_, 1, 0, 0, 0, []) := ⟨rfl, rfl, rfl, rfl, rfl, rfl, rfl, rfl, rfl, rfl, rfl, rfl, rfl, rfl, rfl, rfl, rfl, rfl, rfl, rfl, rfl, rfl, rfl, rfl, rfl, rfl, rfl, rfl, rfl, rfl, rfl, rfl, rfl, rfl, rfl, rfl, rfl⟩
theorem en_39 (v0 v1 : Value) : am_en 39 [v0, v1] = [some v0, some v1] := by
  have h : am_mx 39 = 2 := by decide +kernel
  unfold am_en
  rw [h]
  rfl
theorem rt_39 : am_ret 39 = 0 := by decide +kernel
theorem kl_39 : am_kl 39 = 5 := by decide +kernel
set_option maxRecDepth 100000 in
theorem cx_39 : am_cd 39 0 = some (.aload_n 0, 1, 0, 0, 0, []) ∧ am_cd 39 1 = some (.iload_n 1, 1, 1, 0, 0, []) ∧ am_cd 39 2 = some (.invokevirtual 34, 3, 17, 2, 0, [0, 279]) ∧ am_cd 39 5 = some (.ifCond .eq 32, 3, 37, 0, 0, []) ∧ am_cd 39 8 = some (.aload_n 0, 1, 0, 0, 0, []) ∧ am_cd 39 9 = some (.getfield 15, 3, 5, 2, 0, [0, 171]) ∧ am_cd 39 12 = some (.bipush 8, 2, 0, 0, 8, []) ∧ am_cd 39 14 = some (.if_icmp .ge 23, 3, 37, 0, 0, []) ∧ am_cd 39 17 = some (.aload_n 0, 1, 0, 0, 0, []) ∧ am_cd 39 18 = some (.getfield 9, 3, 5, 0, 0, [0, 169]) ∧ am_cd 39 21 = some (.aload_n 0, 1, 0, 0, 0, []) ∧ am_cd 39 22 = some (.getfield 15, 3, 5, 2, 0, [0, 171]) ∧ am_cd 39 25 = some (.iconst 0, 1, 0, 0, 0, []) ∧ am_cd 39 26 = some (.iastore, 1, 0, 0, 0, []) ∧ am_cd 39 27 = some (.aload_n 0, 1, 0, 0, 0, []) ∧ am_cd 39 28 = some (.dup, 1, 0, 0, 0, []) ∧ am_cd 39 29 = some (.getfield 15, 3, 5, 2, 0, [0, 171]) ∧ am_cd 39 32 = some (.iconst 1, 1, 0, 0, 1, []) ∧ am_cd 39 33 = some (.iadd, 1, 0, 0, 0, []) ∧ am_cd 39 34 = some (.putfield 15, 3, 5, 2, 0, [0, 171]) ∧ am_cd 39 37 = some (.aload_n 0, 1, 0, 0, 0, []) ∧ am_cd 39 38 = some (.getfield 9, 3, 5, 0, 0, [0, 169]) ∧ am_cd 39 41 = some (.aload_n 0, 1, 0, 0, 0, []) ∧ am_cd 39 42 = some (.getfield 15, 3, 5, 2, 0, [0, 171]) ∧ am_cd 39 45 = some (.iconst 1, 1, 0, 0, 1, []) ∧ am_cd 39 46 = some (.isub, 1, 0, 0, 0, []) ∧ am_cd 39 47 = some (.dup2, 1, 0, 0, 0, []) ∧ am_cd 39 48 = some (.iaload, 1, 0, 0, 0, []) ∧ am_cd 39 49 = some (.iconst 1, 1, 0, 0, 1, []) ∧ am_cd 39 50 = some (.iadd, 1, 0, 0, 0, []) ∧ am_cd 39 51 = some (.iastore, 1, 0, 0, 0, []) ∧ am_cd 39 52 = some (.return_, 1, 0, 0, 0, []) := ⟨rfl, rfl, rfl, rfl, rfl, rfl, rfl, rfl, rfl, rfl, rfl, rfl, rfl, rfl, rfl, rfl, rfl, rfl, rfl, rfl, rfl, rfl, rfl, rfl, rfl, rfl, rfl, rfl, rfl, rfl, rfl, rfl⟩
theorem en_40 (v0 v1 : Value) : am_en 40 [v0, v1] = [some v0, some v1] := by
  have h : am_mx 40 = 2 := by decide +kernel
  unfold am_en
  rw [h]
  rfl
theorem rt_40 : am_ret 40 = 0 := by decide +kernel
theorem kl_40 : am_kl 40 = 5 := by decide +kernel
set_option maxRecDepth 100000 in
theorem cx_40 : am_cd 40 0 = some (.aload_n 1, 1, 1, 0, 0, []) ∧ am_cd 40 1 = some (.aload_n 0, 1, 0, 0, 0, []) ∧ am_cd 40 2 = some (.aload_n 0, 1, 0, 0, 0, []) ∧ am_cd 40 3 = some (.getfield 15, 3, 5, 2, 0, [0, 171]) ∧ am_cd 40 6 = some (.iconst 1, 1, 0, 0, 1, []) ∧ am_cd 40 7 = some (.isub, 1, 0, 0, 0, []) ∧ am_cd 40 8 = some (.invokevirtual 44, 3, 41, 2, 0, [0, 384]) ∧ am_cd 40 11 = some (.putfield 48, 3, 1, 6, 0, [0, 91]) ∧ am_cd 40 14 = some (.aload_n 1, 1, 1, 0, 0, []) ∧ am_cd 40 15 = some (.aload_n 0, 1, 0, 0, 0, []) ∧ am_cd 40 16 = some (.getfield 9, 3, 5, 0, 0, [0, 169]) ∧ am_cd 40 19 = some (.aload_n 0, 1, 0, 0, 0, []) ∧ am_cd 40 20 = some (.getfield 15, 3, 5, 2, 0, [0, 171]) ∧ am_cd 40 23 = some (.iconst 1, 1, 0, 0, 1, []) ∧ am_cd 40 24 = some (.isub, 1, 0, 0, 0, []) ∧ am_cd 40 25 = some (.iaload, 1, 0, 0, 0, []) ∧ am_cd 40 26 = some (.putfield 53, 3, 1, 7, 0, [0, 93]) ∧ am_cd 40 29 = some (.aload_n 0, 1, 0, 0, 0, []) ∧ am_cd 40 30 = some (.getfield 9, 3, 5, 0, 0, [0, 169]) ∧ am_cd 40 33 = some (.aload_n 0, 1, 0, 0, 0, []) ∧ am_cd 40 34 = some (.getfield 15, 3, 5, 2, 0, [0, 171]) ∧ am_cd 40 37 = some (.iconst 1, 1, 0, 0, 1, []) ∧ am_cd 40 38 = some (.isub, 1, 0, 0, 0, []) ∧ am_cd 40 39 = some (.dup2, 1, 0, 0, 0, []) ∧ am_cd 40 40 = some (.iaload, 1, 0, 0, 0, []) ∧ am_cd 40 41 = some (.iconst 1, 1, 0, 0, 1, []) ∧ am_cd 40 42 = some (.iadd, 1, 0, 0, 0, []) ∧ am_cd 40 43 = some (.iastore, 1, 0, 0, 0, []) ∧ am_cd 40 44 = some (.return_, 1, 0, 0, 0, []) := ⟨rfl, rfl, rfl, rfl, rfl, rfl, rfl, rfl, rfl, rfl, rfl, rfl, rfl, rfl, rfl, rfl, rfl, rfl, rfl, rfl, rfl, rfl, rfl, rfl, rfl, rfl, rfl, rfl, rfl⟩
theorem en_41 (v0 v1 : Value) : am_en 41 [v0, v1] = [some v0, some v1] := by
  have h : am_mx 41 = 2 := by decide +kernel
  unfold am_en
  rw [h]
  rfl
theorem rt_41 : am_ret 41 = 1 := by decide +kernel
theorem kl_41 : am_kl 41 = 5 := by decide +kernel
set_option maxRecDepth 100000 in
theorem cx_41 : am_cd 41 0 = some (.aload_n 0, 1, 0, 0, 0, []) ∧ am_cd 41 1 = some (.getfield 28, 3, 5, 1, 0, [0, 170]) ∧ am_cd 41 4 = some (.iload_n 1, 1, 1, 0, 0, []) ∧ am_cd 41 5 = some (.iadd, 1, 0, 0, 0, []) ∧ am_cd 41 6 = some (.ireturn, 1, 0, 0, 0, []) := ⟨rfl, rfl, rfl, rfl, rfl⟩
theorem en_42 (v0 : Value) : am_en 42 [v0] = [some v0] := by
  have h : am_mx 42 = 1 := by decide +kernel
  unfold am_en
  rw [h]
  rfl
theorem rt_42 : am_ret 42 = 1 := by decide +kernel
theorem kl_42 : am_kl 42 = 0 := by decide +kernel
set_option maxRecDepth 100000 in
theorem cx_42 : am_cd 42 0 = some (.aload_n 0, 1, 0, 0, 0, []) ∧ am_cd 42 1 = some (.getfield 58, 3, 0, 8, 0, [0, 213]) ∧ am_cd 42 4 = some (.invokevirtual 90, 3, 36, 1, 0, [0, 364]) ∧ am_cd 42 7 = some (.ireturn, 1, 0, 0, 0, []) := ⟨rfl, rfl, rfl, rfl⟩
theorem en_43 (v0 : Value) : am_en 43 [v0] = [some v0] := by
  have h : am_mx 43 = 1 := by decide +kernel
  unfold am_en
  rw [h]
  rfl
theorem rt_43 : am_ret 43 = 1 := by decide +kernel
theorem kl_43 : am_kl 43 = 0 := by decide +kernel
set_option maxRecDepth 100000 in
theorem cx_43 : am_cd 43 0 = some (.aload_n 0, 1, 0, 0, 0, []) ∧ am_cd 43 1 = some (.invokevirtual 84, 3, 18, 1, 0, [0, 283]) ∧ am_cd 43 4 = some (.ireturn, 1, 0, 0, 0, []) := ⟨rfl, rfl, rfl⟩
theorem en_44 (v0 v1 : Value) : am_en 44 [v0, v1] = [some v0, some v1] := by
  have h : am_mx 44 = 2 := by decide +kernel
  unfold am_en
  rw [h]
  rfl
theorem rt_44 : am_ret 44 = 1 := by decide +kernel
theorem kl_44 : am_kl 44 = 0 := by decide +kernel
set_option maxRecDepth 100000 in
theorem cx_44 : am_cd 44 0 = some (.iload_n 1, 1, 1, 0, 0, []) ∧ am_cd 44 1 = some (.ifCond .eq 10, 3, 11, 0, 0, []) ∧ am_cd 44 4 = some (.iload_n 1, 1, 1, 0, 0, []) ∧ am_cd 44 5 = some (.iconst 1, 1, 0, 0, 1, []) ∧ am_cd 44 6 = some (.if_icmp .eq 5, 3, 11, 0, 0, []) ∧ am_cd 44 9 = some (.iconst (-1), 1, 0, 0, (-1), []) ∧ am_cd 44 10 = some (.ireturn, 1, 0, 0, 0, []) ∧ am_cd 44 11 = some (.aload_n 0, 1, 0, 0, 0, []) ∧ am_cd 44 12 = some (.iload_n 1, 1, 1, 0, 0, []) ∧ am_cd 44 13 = some (.invokevirtual 93, 3, 45, 2, 0, [0, 400]) ∧ am_cd 44 16 = some (.invokevirtual 97, 3, 19, 1, 0, [0, 287]) ∧ am_cd 44 19 = some (.ifCond .ne 6, 3, 25, 0, 0, []) ∧ am_cd 44 22 = some (.bipush (-2), 2, 0, 0, (-2), []) ∧ am_cd 44 24 = some (.ireturn, 1, 0, 0, 0, []) ∧ am_cd 44 25 = some (.iload_n 1, 1, 1, 0, 0, []) ∧ am_cd 44 26 = some (.ifCond .ne 10, 3, 36, 0, 0, []) ∧ am_cd 44 29 = some (.aload_n 0, 1, 0, 0, 0, []) ∧ am_cd 44 30 = some (.invokevirtual 100, 3, 20, 1, 0, [0, 291]) ∧ am_cd 44 33 = some (.goto 15, 3, 48, 0, 0, []) ∧ am_cd 44 36 = some (.aload_n 0, 1, 0, 0, 0, []) ∧ am_cd 44 37 = some (.aload_n 0, 1, 0, 0, 0, []) ∧ am_cd 44 38 = some (.getfield 43, 3, 0, 4, 0, [0, 209]) ∧ am_cd 44 41 = some (.aload_n 0, 1, 0, 0, 0, []) ∧ am_cd 44 42 = some (.getfield 46, 3, 0, 5, 0, [0, 210]) ∧ am_cd 44 45 = some (.invokevirtual 103, 3, 21, 3, 0, [0, 295]) ∧ am_cd 44 48 = some (.ireturn, 1, 0, 0, 0, []) := ⟨rfl, rfl, rfl, rfl, rfl, rfl, rfl, rfl, rfl, rfl, rfl, rfl, rfl, rfl, rfl, rfl, rfl, rfl, rfl, rfl, rfl, rfl, rfl, rfl, rfl, rfl⟩
theorem en_45 (v0 v1 : Value) : am_en 45 [v0, v1] = [some v0, some v1] := by
  have h : am_mx 45 = 2 := by decide +kernel
  unfold am_en
  rw [h]
  rfl
theorem rt_45 : am_ret 45 = 3 := by decide +kernel
theorem kl_45 : am_kl 45 = 0 := by decide +kernel
set_option maxRecDepth 100000 in
theorem cx_45 : am_cd 45 0 = some (.iload_n 1, 1, 1, 0, 0, []) ∧ am_cd 45 1 = some (.ifCond .ne 10, 3, 11, 0, 0, []) ∧ am_cd 45 4 = some (.aload_n 0, 1, 0, 0, 0, []) ∧ am_cd 45 5 = some (.getfield 35, 3, 0, 3, 0, [0, 208]) ∧ am_cd 45 8 = some (.goto 19, 3, 27, 0, 0, []) ∧ am_cd 45 11 = some (.iload_n 1, 1, 1, 0, 0, []) ∧ am_cd 45 12 = some (.iconst 1, 1, 0, 0, 1, []) ∧ am_cd 45 13 = some (.if_icmp .ne 10, 3, 23, 0, 0, []) ∧ am_cd 45 16 = some (.aload_n 0, 1, 0, 0, 0, []) ∧ am_cd 45 17 = some (.getfield 43, 3, 0, 4, 0, [0, 209]) ∧ am_cd 45 20 = some (.goto 7, 3, 27, 0, 0, []) ∧ am_cd 45 23 = some (.aload_n 0, 1, 0, 0, 0, []) ∧ am_cd 45 24 = some (.getfield 46, 3, 0, 5, 0, [0, 210]) ∧ am_cd 45 27 = some (.areturn, 1, 0, 0, 0, []) := ⟨rfl, rfl, rfl, rfl, rfl, rfl, rfl, rfl, rfl, rfl, rfl, rfl, rfl, rfl⟩
theorem en_46 (v0 : Value) : am_en 46 [v0] = [some v0] := by
  have h : am_mx 46 = 1 := by decide +kernel
  unfold am_en
  rw [h]
  rfl
theorem rt_46 : am_ret 46 = 1 := by decide +kernel
theorem kl_46 : am_kl 46 = 0 := by decide +kernel
set_option maxRecDepth 100000 in
theorem cx_46 : am_cd 46 0 = some (.aload_n 0, 1, 0, 0, 0, []) ∧ am_cd 46 1 = some (.getfield 58, 3, 0, 8, 0, [0, 213]) ∧ am_cd 46 4 = some (.invokevirtual 107, 3, 47, 1, 0, [0, 408]) ∧ am_cd 46 7 = some (.iconst 1, 1, 0, 0, 1, []) ∧ am_cd 46 8 = some (.if_icmp .gt 6, 3, 14, 0, 0, []) ∧ am_cd 46 11 = some (.bipush (-2), 2, 0, 0, (-2), []) ∧ am_cd 46 13 = some (.ireturn, 1, 0, 0, 0, []) ∧ am_cd 46 14 = some (.aload_n 0, 1, 0, 0, 0, []) ∧ am_cd 46 15 = some (.invokevirtual 84, 3, 18, 1, 0, [0, 283]) ∧ am_cd 46 18 = some (.pop, 1, 0, 0, 0, []) ∧ am_cd 46 19 = some (.aload_n 0, 1, 0, 0, 0, []) ∧ am_cd 46 20 = some (.invokevirtual 110, 3, 48, 1, 0, [0, 412]) ∧ am_cd 46 23 = some (.aload_n 0, 1, 0, 0, 0, []) ∧ am_cd 46 24 = some (.getfield 58, 3, 0, 8, 0, [0, 213]) ∧ am_cd 46 27 = some (.aload_n 0, 1, 0, 0, 0, []) ∧ am_cd 46 28 = some (.getfield 52, 3, 0, 7, 0, [0, 212]) ∧ am_cd 46 31 = some (.invokevirtual 77, 3, 12, 1, 0, [0, 259]) ∧ am_cd 46 34 = some (.invokevirtual 113, 3, 53, 2, 0, [0, 433]) ∧ am_cd 46 37 = some (.bipush 8, 2, 0, 0, 8, []) ∧ am_cd 46 39 = some (.if_icmp .le 6, 3, 45, 0, 0, []) ∧ am_cd 46 42 = some (.bipush (-3), 2, 0, 0, (-3), []) ∧ am_cd 46 44 = some (.ireturn, 1, 0, 0, 0, []) ∧ am_cd 46 45 = some (.aload_n 0, 1, 0, 0, 0, []) ∧ am_cd 46 46 = some (.invokevirtual 116, 3, 54, 1, 0, [0, 438]) ∧ am_cd 46 49 = some (.aload_n 0, 1, 0, 0, 0, []) ∧ am_cd 46 50 = some (.getfield 58, 3, 0, 8, 0, [0, 213]) ∧ am_cd 46 53 = some (.invokevirtual 90, 3, 36, 1, 0, [0, 364]) ∧ am_cd 46 56 = some (.pop, 1, 0, 0, 0, []) ∧ am_cd 46 57 = some (.aload_n 0, 1, 0, 0, 0, []) ∧ am_cd 46 58 = some (.getfield 58, 3, 0, 8, 0, [0, 213]) ∧ am_cd 46 61 = some (.invokevirtual 119, 3, 55, 1, 0, [0, 443]) ∧ am_cd 46 64 = some (.aload_n 0, 1, 0, 0, 0, []) ∧ am_cd 46 65 = some (.getfield 52, 3, 0, 7, 0, [0, 212]) ∧ am_cd 46 68 = some (.invokevirtual 77, 3, 12, 1, 0, [0, 259]) ∧ am_cd 46 71 = some (.ireturn, 1, 0, 0, 0, []) := ⟨rfl, rfl, rfl, rfl, rfl, rfl, rfl, rfl, rfl, rfl, rfl, rfl, rfl, rfl, rfl, rfl, rfl, rfl, rfl, rfl, rfl, rfl, rfl, rfl, rfl, rfl, rfl, rfl, rfl, rfl, rfl, rfl, rfl, rfl, rfl⟩
theorem en_47 (v0 : Value) : am_en 47 [v0] = [some v0] := by
  have h : am_mx 47 = 1 := by decide +kernel
  unfold am_en
  rw [h]
  rfl
theorem rt_47 : am_ret 47 = 1 := by decide +kernel
theorem kl_47 : am_kl 47 = 5 := by decide +kernel
set_option maxRecDepth 100000 in
theorem cx_47 : am_cd 47 0 = some (.aload_n 0, 1, 0, 0, 0, []) ∧ am_cd 47 1 = some (.getfield 15, 3, 5, 2, 0, [0, 171]) ∧ am_cd 47 4 = some (.ireturn, 1, 0, 0, 0, []) := ⟨rfl, rfl, rfl⟩
theorem en_48 (v0 : Value) : am_en 48 [v0] = [some v0, none] := by
  have h : am_mx 48 = 2 := by decide +kernel
  unfold am_en
  rw [h]
  rfl
theorem rt_48 : am_ret 48 = 0 := by decide +kernel
theorem kl_48 : am_kl 48 = 0 := by decide +kernel
set_option maxRecDepth 100000 in
theorem cx_48 : am_cd 48 0 = some (.aload_n 0, 1, 0, 0, 0, []) ∧ am_cd 48 1 = some (.getfield 52, 3, 0, 7, 0, [0, 212]) ∧ am_cd 48 4 = some (.invokevirtual 138, 3, 22, 1, 0, [0, 299]) ∧ am_cd 48 7 = some (.iconst 0, 1, 0, 0, 0, []) ∧ am_cd 48 8 = some (.istore_n 1, 1, 1, 0, 0, []) ∧ am_cd 48 10 = some (.iconst 3, 1, 0, 0, 3, []) ∧ am_cd 48 11 = some (.if_icmp .ge 29, 3, 40, 0, 0, []) ∧ am_cd 48 14 = some (.aload_n 0, 1, 0, 0, 0, []) ∧ am_cd 48 15 = some (.iload_n 1, 1, 1, 0, 0, []) ∧ am_cd 48 16 = some (.invokevirtual 93, 3, 45, 2, 0, [0, 400]) ∧ am_cd 48 19 = some (.aload_n 0, 1, 0, 0, 0, []) ∧ am_cd 48 20 = some (.getfield 58, 3, 0, 8, 0, [0, 213]) ∧ am_cd 48 23 = some (.iconst 0, 1, 0, 0, 0, []) ∧ am_cd 48 24 = some (.invokevirtual 185, 3, 41, 2, 0, [0, 416]) ∧ am_cd 48 27 = some (.aload_n 0, 1, 0, 0, 0, []) ∧ am_cd 48 28 = some (.getfield 52, 3, 0, 7, 0, [0, 212]) ∧ am_cd 48 31 = some (.invokevirtual 244, 3, 49, 3, 0, [0, 417]) ∧ am_cd 48 34 = some (.iinc 1 1, 3, 1, 0, 1, []) ∧ am_cd 48 37 = some (.goto (-28), 3, 9, 0, 0, []) ∧ am_cd 48 40 = some (.return_, 1, 0, 0, 0, []) := ⟨rfl, rfl, rfl, rfl, rfl, rfl, rfl, rfl, rfl, rfl, rfl, rfl, rfl, rfl, rfl, rfl, rfl, rfl, rfl, rfl⟩
theorem cxh_48_9 : am_cd 48 9 = some (.iload_n 1, 1, 1, 0, 0, []) := rfl
theorem en_49 (v0 v1 v2 : Value) : am_en 49 [v0, v1, v2] = [some v0, some v1, some v2, none] := by
  have h : am_mx 49 = 4 := by decide +kernel
  unfold am_en
  rw [h]
  rfl
theorem rt_49 : am_ret 49 = 0 := by decide +kernel
theorem kl_49 : am_kl 49 = 4 := by decide +kernel
set_option maxRecDepth 100000 in
theorem cx_49 : am_cd 49 0 = some (.iconst 0, 1, 0, 0, 0, []) ∧ am_cd 49 1 = some (.istore_n 3, 1, 3, 0, 0, []) ∧ am_cd 49 3 = some (.aload_n 0, 1, 0, 0, 0, []) ∧ am_cd 49 4 = some (.getfield 20, 3, 4, 1, 0, [0, 154]) ∧ am_cd 49 7 = some (.if_icmp .ge 23, 3, 30, 0, 0, []) ∧ am_cd 49 10 = some (.aload_n 0, 1, 0, 0, 0, []) ∧ am_cd 49 11 = some (.getfield 11, 3, 4, 0, 0, [0, 153]) ∧ am_cd 49 14 = some (.iload_n 3, 1, 3, 0, 0, []) ∧ am_cd 49 15 = some (.aaload, 1, 0, 0, 0, []) ∧ am_cd 49 16 = some (.getfield 44, 3, 3, 0, 0, [0, 145]) ∧ am_cd 49 19 = some (.iload_n 1, 1, 1, 0, 0, []) ∧ am_cd 49 20 = some (.aload_n 2, 1, 2, 0, 0, []) ∧ am_cd 49 21 = some (.invokevirtual 59, 3, 50, 3, 0, [0, 421]) ∧ am_cd 49 24 = some (.iinc 3 1, 3, 3, 0, 1, []) ∧ am_cd 49 27 = some (.goto (-25), 3, 2, 0, 0, []) ∧ am_cd 49 30 = some (.return_, 1, 0, 0, 0, []) := ⟨rfl, rfl, rfl, rfl, rfl, rfl, rfl, rfl, rfl, rfl, rfl, rfl, rfl, rfl, rfl, rfl⟩
theorem cxh_49_2 : am_cd 49 2 = some (.iload_n 3, 1, 3, 0, 0, []) := rfl
theorem en_50 (v0 v1 v2 : Value) : am_en 50 [v0, v1, v2] = [some v0, some v1, some v2, none] := by
  have h : am_mx 50 = 4 := by decide +kernel
  unfold am_en
  rw [h]
  rfl
theorem rt_50 : am_ret 50 = 0 := by decide +kernel
theorem kl_50 : am_kl 50 = 2 := by decide +kernel
set_option maxRecDepth 100000 in
theorem cx_50 : am_cd 50 0 = some (.iconst 0, 1, 0, 0, 0, []) ∧ am_cd 50 1 = some (.istore_n 3, 1, 3, 0, 0, []) ∧ am_cd 50 3 = some (.aload_n 0, 1, 0, 0, 0, []) ∧ am_cd 50 4 = some (.getfield 19, 3, 2, 2, 0, [0, 121]) ∧ am_cd 50 7 = some (.if_icmp .ge 32, 3, 39, 0, 0, []) ∧ am_cd 50 10 = some (.aload_n 0, 1, 0, 0, 0, []) ∧ am_cd 50 11 = some (.getfield 15, 3, 2, 1, 0, [0, 120]) ∧ am_cd 50 14 = some (.iload_n 3, 1, 3, 0, 0, []) ∧ am_cd 50 15 = some (.aaload, 1, 0, 0, 0, []) ∧ am_cd 50 16 = some (.iload_n 1, 1, 1, 0, 0, []) ∧ am_cd 50 17 = some (.invokevirtual 46, 3, 51, 2, 0, [0, 425]) ∧ am_cd 50 20 = some (.ifCond .eq 13, 3, 33, 0, 0, []) ∧ am_cd 50 23 = some (.aload_n 2, 1, 2, 0, 0, []) ∧ am_cd 50 24 = some (.aload_n 0, 1, 0, 0, 0, []) ∧ am_cd 50 25 = some (.getfield 15, 3, 2, 1, 0, [0, 120]) ∧ am_cd 50 28 = some (.iload_n 3, 1, 3, 0, 0, []) ∧ am_cd 50 29 = some (.aaload, 1, 0, 0, 0, []) ∧ am_cd 50 30 = some (.invokevirtual 50, 3, 52, 2, 0, [0, 429]) ∧ am_cd 50 33 = some (.iinc 3 1, 3, 3, 0, 1, []) ∧ am_cd 50 36 = some (.goto (-34), 3, 2, 0, 0, []) ∧ am_cd 50 39 = some (.return_, 1, 0, 0, 0, []) := ⟨rfl, rfl, rfl, rfl, rfl, rfl, rfl, rfl, rfl, rfl, rfl, rfl, rfl, rfl, rfl, rfl, rfl, rfl, rfl, rfl, rfl⟩
theorem cxh_50_2 : am_cd 50 2 = some (.iload_n 3, 1, 3, 0, 0, []) := rfl
theorem en_51 (v0 v1 : Value) : am_en 51 [v0, v1] = [some v0, some v1] := by
  have h : am_mx 51 = 2 := by decide +kernel
  unfold am_en
  rw [h]
  rfl
theorem rt_51 : am_ret 51 = 2 := by decide +kernel
theorem kl_51 : am_kl 51 = 1 := by decide +kernel
set_option maxRecDepth 100000 in
theorem cx_51 : am_cd 51 0 = some (.aload_n 0, 1, 0, 0, 0, []) ∧ am_cd 51 1 = some (.getfield 21, 3, 1, 3, 0, [0, 82]) ∧ am_cd 51 4 = some (.ifCond .ne 15, 3, 19, 0, 0, []) ∧ am_cd 51 7 = some (.aload_n 0, 1, 0, 0, 0, []) ∧ am_cd 51 8 = some (.getfield 31, 3, 1, 6, 0, [0, 90]) ∧ am_cd 51 11 = some (.iload_n 1, 1, 1, 0, 0, []) ∧ am_cd 51 12 = some (.if_icmp .ne 7, 3, 19, 0, 0, []) ∧ am_cd 51 15 = some (.iconst 1, 1, 0, 0, 1, []) ∧ am_cd 51 16 = some (.goto 4, 3, 20, 0, 0, []) ∧ am_cd 51 19 = some (.iconst 0, 1, 0, 0, 0, []) ∧ am_cd 51 20 = some (.ireturn, 1, 0, 0, 0, []) := ⟨rfl, rfl, rfl, rfl, rfl, rfl, rfl, rfl, rfl, rfl, rfl⟩
theorem en_52 (v0 v1 : Value) : am_en 52 [v0, v1] = [some v0, some v1, none] := by
  have h : am_mx 52 = 3 := by decide +kernel
  unfold am_en
  rw [h]
  rfl
theorem rt_52 : am_ret 52 = 0 := by decide +kernel
theorem kl_52 : am_kl 52 = 2 := by decide +kernel
set_option maxRecDepth 100000 in
theorem cx_52 : am_cd 52 0 = some (.aload_n 0, 1, 0, 0, 0, []) ∧ am_cd 52 1 = some (.getfield 19, 3, 2, 2, 0, [0, 121]) ∧ am_cd 52 4 = some (.istore_n 2, 1, 2, 0, 0, []) ∧ am_cd 52 6 = some (.ifCond .le 27, 3, 33, 0, 0, []) ∧ am_cd 52 9 = some (.aload_n 1, 1, 1, 0, 0, []) ∧ am_cd 52 10 = some (.getfield 37, 3, 1, 7, 0, [0, 92]) ∧ am_cd 52 13 = some (.aload_n 0, 1, 0, 0, 0, []) ∧ am_cd 52 14 = some (.getfield 15, 3, 2, 1, 0, [0, 120]) ∧ am_cd 52 17 = some (.iload_n 2, 1, 2, 0, 0, []) ∧ am_cd 52 18 = some (.iconst 1, 1, 0, 0, 1, []) ∧ am_cd 52 19 = some (.isub, 1, 0, 0, 0, []) ∧ am_cd 52 20 = some (.aaload, 1, 0, 0, 0, []) ∧ am_cd 52 21 = some (.getfield 37, 3, 1, 7, 0, [0, 92]) ∧ am_cd 52 24 = some (.if_icmp .ge 9, 3, 33, 0, 0, []) ∧ am_cd 52 27 = some (.iinc 2 (-1), 3, 2, 0, (-1), []) ∧ am_cd 52 30 = some (.goto (-25), 3, 5, 0, 0, []) ∧ am_cd 52 33 = some (.aload_n 0, 1, 0, 0, 0, []) ∧ am_cd 52 34 = some (.iload_n 2, 1, 2, 0, 0, []) ∧ am_cd 52 35 = some (.aload_n 1, 1, 1, 0, 0, []) ∧ am_cd 52 36 = some (.invokevirtual 33, 3, 27, 3, 0, [0, 320]) ∧ am_cd 52 39 = some (.return_, 1, 0, 0, 0, []) := ⟨rfl, rfl, rfl, rfl, rfl, rfl, rfl, rfl, rfl, rfl, rfl, rfl, rfl, rfl, rfl, rfl, rfl, rfl, rfl, rfl, rfl⟩
theorem cxh_52_5 : am_cd 52 5 = some (.iload_n 2, 1, 2, 0, 0, []) := rfl
theorem en_53 (v0 v1 : Value) : am_en 53 [v0, v1] = [some v0, some v1, none, none, none, none] := by
  have h : am_mx 53 = 6 := by decide +kernel
  unfold am_en
  rw [h]
  rfl
theorem rt_53 : am_ret 53 = 1 := by decide +kernel
theorem kl_53 : am_kl 53 = 5 := by decide +kernel
set_option maxRecDepth 100000 in
theorem cx_53 : am_cd 53 0 = some (.aload_n 0, 1, 0, 0, 0, []) ∧ am_cd 53 1 = some (.getfield 15, 3, 5, 2, 0, [0, 171]) ∧ am_cd 53 4 = some (.istore_n 2, 1, 2, 0, 0, []) ∧ am_cd 53 5 = some (.bipush 16, 2, 0, 0, 16, []) ∧ am_cd 53 7 = some (.aload_n 0, 1, 0, 0, 0, []) ∧ am_cd 53 8 = some (.getfield 9, 3, 5, 0, 0, [0, 169]) ∧ am_cd 53 11 = some (.aload_n 0, 1, 0, 0, 0, []) ∧ am_cd 53 12 = some (.getfield 15, 3, 5, 2, 0, [0, 171]) ∧ am_cd 53 15 = some (.iconst 1, 1, 0, 0, 1, []) ∧ am_cd 53 16 = some (.isub, 1, 0, 0, 0, []) ∧ am_cd 53 17 = some (.iaload, 1, 0, 0, 0, []) ∧ am_cd 53 18 = some (.isub, 1, 0, 0, 0, []) ∧ am_cd 53 19 = some (.istore_n 3, 1, 3, 0, 0, []) ∧ am_cd 53 20 = some (.iload_n 1, 1, 1, 0, 0, []) ∧ am_cd 53 21 = some (.istore 4, 2, 4, 0, 0, []) ∧ am_cd 53 25 = some (.ifCond .le 37, 3, 62, 0, 0, []) ∧ am_cd 53 28 = some (.iconst 1, 1, 0, 0, 1, []) ∧ am_cd 53 29 = some (.iload 4, 2, 4, 0, 0, []) ∧ am_cd 53 31 = some (.bipush 6, 2, 0, 0, 6, []) ∧ am_cd 53 33 = some (.invokestatic 38, 3, 0, 91, 0, [437, 346, 59, 347]) ∧ am_cd 53 36 = some (.iadd, 1, 0, 0, 0, []) ∧ am_cd 53 37 = some (.istore 5, 2, 5, 0, 0, []) ∧ am_cd 53 39 = some (.iload 5, 2, 5, 0, 0, []) ∧ am_cd 53 41 = some (.iload_n 3, 1, 3, 0, 0, []) ∧ am_cd 53 42 = some (.if_icmp .le 9, 3, 51, 0, 0, []) ∧ am_cd 53 45 = some (.iinc 2 1, 3, 2, 0, 1, []) ∧ am_cd 53 48 = some (.bipush 16, 2, 0, 0, 16, []) ∧ am_cd 53 50 = some (.istore_n 3, 1, 3, 0, 0, []) ∧ am_cd 53 51 = some (.iload_n 3, 1, 3, 0, 0, []) ∧ am_cd 53 52 = some (.iload 5, 2, 5, 0, 0, []) ∧ am_cd 53 54 = some (.isub, 1, 0, 0, 0, []) ∧ am_cd 53 55 = some (.istore_n 3, 1, 3, 0, 0, []) ∧ am_cd 53 56 = some (.iinc 4 (-6), 3, 4, 0, (-6), []) ∧ am_cd 53 59 = some (.goto (-36), 3, 23, 0, 0, []) ∧ am_cd 53 62 = some (.iload_n 2, 1, 2, 0, 0, []) ∧ am_cd 53 63 = some (.ireturn, 1, 0, 0, 0, []) := ⟨rfl, rfl, rfl, rfl, rfl, rfl, rfl, rfl, rfl, rfl, rfl, rfl, rfl, rfl, rfl, rfl, rfl, rfl, rfl, rfl, rfl, rfl, rfl, rfl, rfl, rfl, rfl, rfl, rfl, rfl, rfl, rfl, rfl, rfl, rfl, rfl⟩
theorem cxh_53_23 : am_cd 53 23 = some (.iload 4, 2, 4, 0, 0, []) := rfl
theorem en_54 (v0 : Value) : am_en 54 [v0] = [some v0, none] := by
  have h : am_mx 54 = 2 := by decide +kernel
  unfold am_en
  rw [h]
  rfl
theorem rt_54 : am_ret 54 = 0 := by decide +kernel
theorem kl_54 : am_kl 54 = 0 := by decide +kernel
set_option maxRecDepth 100000 in
theorem cx_54 : am_cd 54 0 = some (.iconst 0, 1, 0, 0, 0, []) ∧ am_cd 54 1 = some (.istore_n 1, 1, 1, 0, 0, []) ∧ am_cd 54 3 = some (.aload_n 0, 1, 0, 0, 0, []) ∧ am_cd 54 4 = some (.getfield 52, 3, 0, 7, 0, [0, 212]) ∧ am_cd 54 7 = some (.invokevirtual 77, 3, 12, 1, 0, [0, 259]) ∧ am_cd 54 10 = some (.if_icmp .ge 52, 3, 62, 0, 0, []) ∧ am_cd 54 13 = some (.iload_n 1, 1, 1, 0, 0, []) ∧ am_cd 54 14 = some (.bipush 6, 2, 0, 0, 6, []) ∧ am_cd 54 16 = some (.irem, 1, 0, 0, 0, []) ∧ am_cd 54 17 = some (.ifCond .ne 24, 3, 41, 0, 0, []) ∧ am_cd 54 20 = some (.aload_n 0, 1, 0, 0, 0, []) ∧ am_cd 54 21 = some (.getfield 58, 3, 0, 8, 0, [0, 213]) ∧ am_cd 54 24 = some (.bipush 6, 2, 0, 0, 6, []) ∧ am_cd 54 26 = some (.aload_n 0, 1, 0, 0, 0, []) ∧ am_cd 54 27 = some (.getfield 52, 3, 0, 7, 0, [0, 212]) ∧ am_cd 54 30 = some (.invokevirtual 77, 3, 12, 1, 0, [0, 259]) ∧ am_cd 54 33 = some (.iload_n 1, 1, 1, 0, 0, []) ∧ am_cd 54 34 = some (.isub, 1, 0, 0, 0, []) ∧ am_cd 54 35 = some (.invokestatic 144, 3, 0, 91, 0, [442, 346, 59, 347]) ∧ am_cd 54 38 = some (.invokevirtual 205, 3, 39, 2, 0, [0, 376]) ∧ am_cd 54 41 = some (.aload_n 0, 1, 0, 0, 0, []) ∧ am_cd 54 42 = some (.getfield 58, 3, 0, 8, 0, [0, 213]) ∧ am_cd 54 45 = some (.aload_n 0, 1, 0, 0, 0, []) ∧ am_cd 54 46 = some (.getfield 52, 3, 0, 7, 0, [0, 212]) ∧ am_cd 54 49 = some (.iload_n 1, 1, 1, 0, 0, []) ∧ am_cd 54 50 = some (.invokevirtual 208, 3, 24, 2, 0, [0, 358]) ∧ am_cd 54 53 = some (.invokevirtual 221, 3, 40, 2, 0, [0, 380]) ∧ am_cd 54 56 = some (.iinc 1 1, 3, 1, 0, 1, []) ∧ am_cd 54 59 = some (.goto (-57), 3, 2, 0, 0, []) ∧ am_cd 54 62 = some (.return_, 1, 0, 0, 0, []) := ⟨rfl, rfl, rfl, rfl, rfl, rfl, rfl, rfl, rfl, rfl, rfl, rfl, rfl, rfl, rfl, rfl, rfl, rfl, rfl, rfl, rfl, rfl, rfl, rfl, rfl, rfl, rfl, rfl, rfl, rfl⟩
theorem cxh_54_2 : am_cd 54 2 = some (.iload_n 1, 1, 1, 0, 0, []) := rfl
theorem en_55 (v0 : Value) : am_en 55 [v0] = [some v0] := by
  have h : am_mx 55 = 1 := by decide +kernel
  unfold am_en
  rw [h]
  rfl
theorem rt_55 : am_ret 55 = 0 := by decide +kernel
theorem kl_55 : am_kl 55 = 5 := by decide +kernel
set_option maxRecDepth 100000 in
theorem cx_55 : am_cd 55 0 = some (.aload_n 0, 1, 0, 0, 0, []) ∧ am_cd 55 1 = some (.getfield 15, 3, 5, 2, 0, [0, 171]) ∧ am_cd 55 4 = some (.iconst 1, 1, 0, 0, 1, []) ∧ am_cd 55 5 = some (.if_icmp .gt 4, 3, 9, 0, 0, []) ∧ am_cd 55 8 = some (.return_, 1, 0, 0, 0, []) ∧ am_cd 55 9 = some (.aload_n 0, 1, 0, 0, 0, []) ∧ am_cd 55 10 = some (.dup, 1, 0, 0, 0, []) ∧ am_cd 55 11 = some (.getfield 15, 3, 5, 2, 0, [0, 171]) ∧ am_cd 55 14 = some (.iconst 1, 1, 0, 0, 1, []) ∧ am_cd 55 15 = some (.isub, 1, 0, 0, 0, []) ∧ am_cd 55 16 = some (.putfield 15, 3, 5, 2, 0, [0, 171]) ∧ am_cd 55 19 = some (.aload_n 0, 1, 0, 0, 0, []) ∧ am_cd 55 20 = some (.dup, 1, 0, 0, 0, []) ∧ am_cd 55 21 = some (.getfield 28, 3, 5, 1, 0, [0, 170]) ∧ am_cd 55 24 = some (.iconst 1, 1, 0, 0, 1, []) ∧ am_cd 55 25 = some (.iadd, 1, 0, 0, 0, []) ∧ am_cd 55 26 = some (.putfield 28, 3, 5, 1, 0, [0, 170]) ∧ am_cd 55 29 = some (.aload_n 0, 1, 0, 0, 0, []) ∧ am_cd 55 30 = some (.getfield 9, 3, 5, 0, 0, [0, 169]) ∧ am_cd 55 33 = some (.iconst 1, 1, 0, 0, 1, []) ∧ am_cd 55 34 = some (.aload_n 0, 1, 0, 0, 0, []) ∧ am_cd 55 35 = some (.getfield 9, 3, 5, 0, 0, [0, 169]) ∧ am_cd 55 38 = some (.iconst 0, 1, 0, 0, 0, []) ∧ am_cd 55 39 = some (.aload_n 0, 1, 0, 0, 0, []) ∧ am_cd 55 40 = some (.getfield 15, 3, 5, 2, 0, [0, 171]) ∧ am_cd 55 43 = some (.invokestatic 56, 3, 0, 92, 0, [447, 449, 448, 60]) ∧ am_cd 55 46 = some (.return_, 1, 0, 0, 0, []) := ⟨rfl, rfl, rfl, rfl, rfl, rfl, rfl, rfl, rfl, rfl, rfl, rfl, rfl, rfl, rfl, rfl, rfl, rfl, rfl, rfl, rfl, rfl, rfl, rfl, rfl, rfl, rfl⟩
theorem en_56 (v0 : Value) : am_en 56 [v0] = [some v0] := by
  have h : am_mx 56 = 1 := by decide +kernel
  unfold am_en
  rw [h]
  rfl
theorem rt_56 : am_ret 56 = 1 := by decide +kernel
theorem kl_56 : am_kl 56 = 0 := by decide +kernel
set_option maxRecDepth 100000 in
theorem cx_56 : am_cd 56 0 = some (.aload_n 0, 1, 0, 0, 0, []) ∧ am_cd 56 1 = some (.getfield 65, 3, 0, 9, 0, [0, 214]) ∧ am_cd 56 4 = some (.aload_n 0, 1, 0, 0, 0, []) ∧ am_cd 56 5 = some (.getfield 122, 3, 0, 11, 0, [0, 216]) ∧ am_cd 56 8 = some (.invokevirtual 126, 3, 57, 2, 0, [0, 454]) ∧ am_cd 56 11 = some (.ireturn, 1, 0, 0, 0, []) := ⟨rfl, rfl, rfl, rfl, rfl, rfl⟩
theorem en_57 (v0 v1 : Value) : am_en 57 [v0, v1] = [some v0, some v1, none] := by
  have h : am_mx 57 = 3 := by decide +kernel
  unfold am_en
  rw [h]
  rfl
theorem rt_57 : am_ret 57 = 1 := by decide +kernel
theorem kl_57 : am_kl 57 = 6 := by decide +kernel
set_option maxRecDepth 100000 in
theorem cx_57 : am_cd 57 0 = some (.iconst 0, 1, 0, 0, 0, []) ∧ am_cd 57 1 = some (.istore_n 2, 1, 2, 0, 0, []) ∧ am_cd 57 3 = some (.iconst 3, 1, 0, 0, 3, []) ∧ am_cd 57 4 = some (.if_icmp .ge 28, 3, 32, 0, 0, []) ∧ am_cd 57 7 = some (.aload_n 0, 1, 0, 0, 0, []) ∧ am_cd 57 8 = some (.getfield 9, 3, 6, 0, 0, [0, 201]) ∧ am_cd 57 11 = some (.iload_n 2, 1, 2, 0, 0, []) ∧ am_cd 57 12 = some (.iaload, 1, 0, 0, 0, []) ∧ am_cd 57 13 = some (.iconst (-1), 1, 0, 0, (-1), []) ∧ am_cd 57 14 = some (.if_icmp .ne 12, 3, 26, 0, 0, []) ∧ am_cd 57 17 = some (.aload_n 0, 1, 0, 0, 0, []) ∧ am_cd 57 18 = some (.getfield 9, 3, 6, 0, 0, [0, 201]) ∧ am_cd 57 21 = some (.iload_n 2, 1, 2, 0, 0, []) ∧ am_cd 57 22 = some (.iload_n 1, 1, 1, 0, 0, []) ∧ am_cd 57 23 = some (.iastore, 1, 0, 0, 0, []) ∧ am_cd 57 24 = some (.iload_n 2, 1, 2, 0, 0, []) ∧ am_cd 57 25 = some (.ireturn, 1, 0, 0, 0, []) ∧ am_cd 57 26 = some (.iinc 2 1, 3, 2, 0, 1, []) ∧ am_cd 57 29 = some (.goto (-27), 3, 2, 0, 0, []) ∧ am_cd 57 32 = some (.bipush (-3), 2, 0, 0, (-3), []) ∧ am_cd 57 34 = some (.ireturn, 1, 0, 0, 0, []) := ⟨rfl, rfl, rfl, rfl, rfl, rfl, rfl, rfl, rfl, rfl, rfl, rfl, rfl, rfl, rfl, rfl, rfl, rfl, rfl, rfl, rfl⟩
theorem cxh_57_2 : am_cd 57 2 = some (.iload_n 2, 1, 2, 0, 0, []) := rfl
theorem en_58 (v0 v1 : Value) : am_en 58 [v0, v1] = [some v0, some v1] := by
  have h : am_mx 58 = 2 := by decide +kernel
  unfold am_en
  rw [h]
  rfl
theorem rt_58 : am_ret 58 = 2 := by decide +kernel
theorem kl_58 : am_kl 58 = 0 := by decide +kernel
set_option maxRecDepth 100000 in
theorem cx_58 : am_cd 58 0 = some (.aload_n 0, 1, 0, 0, 0, []) ∧ am_cd 58 1 = some (.getfield 65, 3, 0, 9, 0, [0, 214]) ∧ am_cd 58 4 = some (.iload_n 1, 1, 1, 0, 0, []) ∧ am_cd 58 5 = some (.invokevirtual 129, 3, 59, 2, 0, [0, 462]) ∧ am_cd 58 8 = some (.ireturn, 1, 0, 0, 0, []) := ⟨rfl, rfl, rfl, rfl, rfl⟩
theorem en_59 (v0 v1 : Value) : am_en 59 [v0, v1] = [some v0, some v1] := by
  have h : am_mx 59 = 2 := by decide +kernel
  unfold am_en
  rw [h]
  rfl
theorem rt_59 : am_ret 59 = 2 := by decide +kernel
theorem kl_59 : am_kl 59 = 6 := by decide +kernel
set_option maxRecDepth 100000 in
theorem cx_59 : am_cd 59 0 = some (.aload_n 0, 1, 0, 0, 0, []) ∧ am_cd 59 1 = some (.iload_n 1, 1, 1, 0, 0, []) ∧ am_cd 59 2 = some (.invokevirtual 21, 3, 60, 2, 0, [0, 466]) ∧ am_cd 59 5 = some (.iconst (-1), 1, 0, 0, (-1), []) ∧ am_cd 59 6 = some (.if_icmp .ne 5, 3, 11, 0, 0, []) ∧ am_cd 59 9 = some (.iconst 0, 1, 0, 0, 0, []) ∧ am_cd 59 10 = some (.ireturn, 1, 0, 0, 0, []) ∧ am_cd 59 11 = some (.aload_n 0, 1, 0, 0, 0, []) ∧ am_cd 59 12 = some (.getfield 9, 3, 6, 0, 0, [0, 201]) ∧ am_cd 59 15 = some (.iload_n 1, 1, 1, 0, 0, []) ∧ am_cd 59 16 = some (.iconst (-1), 1, 0, 0, (-1), []) ∧ am_cd 59 17 = some (.iastore, 1, 0, 0, 0, []) ∧ am_cd 59 18 = some (.iconst 1, 1, 0, 0, 1, []) ∧ am_cd 59 19 = some (.ireturn, 1, 0, 0, 0, []) := ⟨rfl, rfl, rfl, rfl, rfl, rfl, rfl, rfl, rfl, rfl, rfl, rfl, rfl, rfl⟩
theorem en_60 (v0 v1 : Value) : am_en 60 [v0, v1] = [some v0, some v1] := by
  have h : am_mx 60 = 2 := by decide +kernel
  unfold am_en
  rw [h]
  rfl
theorem rt_60 : am_ret 60 = 1 := by decide +kernel
theorem kl_60 : am_kl 60 = 6 := by decide +kernel
set_option maxRecDepth 100000 in
theorem cx_60 : am_cd 60 0 = some (.iload_n 1, 1, 1, 0, 0, []) ∧ am_cd 60 1 = some (.ifCond .lt 17, 3, 18, 0, 0, []) ∧ am_cd 60 4 = some (.iload_n 1, 1, 1, 0, 0, []) ∧ am_cd 60 5 = some (.iconst 3, 1, 0, 0, 3, []) ∧ am_cd 60 6 = some (.if_icmp .ge 12, 3, 18, 0, 0, []) ∧ am_cd 60 9 = some (.aload_n 0, 1, 0, 0, 0, []) ∧ am_cd 60 10 = some (.getfield 9, 3, 6, 0, 0, [0, 201]) ∧ am_cd 60 13 = some (.iload_n 1, 1, 1, 0, 0, []) ∧ am_cd 60 14 = some (.iaload, 1, 0, 0, 0, []) ∧ am_cd 60 15 = some (.goto 4, 3, 19, 0, 0, []) ∧ am_cd 60 18 = some (.iconst (-1), 1, 0, 0, (-1), []) ∧ am_cd 60 19 = some (.ireturn, 1, 0, 0, 0, []) := ⟨rfl, rfl, rfl, rfl, rfl, rfl, rfl, rfl, rfl, rfl, rfl, rfl⟩
theorem en_61 (v0 v1 : Value) : am_en 61 [v0, v1] = [some v0, some v1] := by
  have h : am_mx 61 = 2 := by decide +kernel
  unfold am_en
  rw [h]
  rfl
theorem rt_61 : am_ret 61 = 1 := by decide +kernel
theorem kl_61 : am_kl 61 = 0 := by decide +kernel
set_option maxRecDepth 100000 in
theorem cx_61 : am_cd 61 0 = some (.iload_n 1, 1, 1, 0, 0, []) ∧ am_cd 61 1 = some (.ifCond .lt 10, 3, 11, 0, 0, []) ∧ am_cd 61 4 = some (.iload_n 1, 1, 1, 0, 0, []) ∧ am_cd 61 5 = some (.sipush 1000, 3, 0, 0, 1000, []) ∧ am_cd 61 8 = some (.if_icmp .le 5, 3, 13, 0, 0, []) ∧ am_cd 61 11 = some (.iconst (-1), 1, 0, 0, (-1), []) ∧ am_cd 61 12 = some (.ireturn, 1, 0, 0, 0, []) ∧ am_cd 61 13 = some (.aload_n 0, 1, 0, 0, 0, []) ∧ am_cd 61 14 = some (.dup, 1, 0, 0, 0, []) ∧ am_cd 61 15 = some (.getfield 132, 3, 0, 10, 0, [0, 215]) ∧ am_cd 61 18 = some (.iload_n 1, 1, 1, 0, 0, []) ∧ am_cd 61 19 = some (.iadd, 1, 0, 0, 0, []) ∧ am_cd 61 20 = some (.putfield 132, 3, 0, 10, 0, [0, 215]) ∧ am_cd 61 23 = some (.aload_n 0, 1, 0, 0, 0, []) ∧ am_cd 61 24 = some (.getfield 132, 3, 0, 10, 0, [0, 215]) ∧ am_cd 61 27 = some (.ireturn, 1, 0, 0, 0, []) := ⟨rfl, rfl, rfl, rfl, rfl, rfl, rfl, rfl, rfl, rfl, rfl, rfl, rfl, rfl, rfl, rfl⟩
theorem en_62 (v0 v1 : Value) : am_en 62 [v0, v1] = [some v0, some v1, none, none] := by
  have h : am_mx 62 = 4 := by decide +kernel
  unfold am_en
  rw [h]
  rfl
theorem rt_62 : am_ret 62 = 1 := by decide +kernel
theorem kl_62 : am_kl 62 = 0 := by decide +kernel
set_option maxRecDepth 100000 in
theorem cx_62 : am_cd 62 0 = some (.aload_n 0, 1, 0, 0, 0, []) ∧ am_cd 62 1 = some (.getfield 65, 3, 0, 9, 0, [0, 214]) ∧ am_cd 62 4 = some (.invokevirtual 135, 3, 63, 1, 0, [0, 478]) ∧ am_cd 62 7 = some (.aload_n 0, 1, 0, 0, 0, []) ∧ am_cd 62 8 = some (.getfield 23, 3, 0, 1, 0, [0, 206]) ∧ am_cd 62 11 = some (.invokevirtual 138, 3, 22, 1, 0, [0, 299]) ∧ am_cd 62 14 = some (.aload_n 0, 1, 0, 0, 0, []) ∧ am_cd 62 15 = some (.getfield 58, 3, 0, 8, 0, [0, 213]) ∧ am_cd 62 18 = some (.invokevirtual 141, 3, 64, 1, 0, [0, 482]) ∧ am_cd 62 21 = some (.istore_n 2, 1, 2, 0, 0, []) ∧ am_cd 62 22 = some (.iconst 0, 1, 0, 0, 0, []) ∧ am_cd 62 23 = some (.iload_n 1, 1, 1, 0, 0, []) ∧ am_cd 62 24 = some (.iload_n 2, 1, 2, 0, 0, []) ∧ am_cd 62 25 = some (.invokestatic 144, 3, 0, 91, 0, [442, 346, 59, 347]) ∧ am_cd 62 28 = some (.invokestatic 150, 3, 0, 90, 0, [486, 487, 59, 488]) ∧ am_cd 62 31 = some (.istore_n 3, 1, 3, 0, 0, []) ∧ am_cd 62 32 = some (.iload_n 3, 1, 3, 0, 0, []) ∧ am_cd 62 33 = some (.iload_n 2, 1, 2, 0, 0, []) ∧ am_cd 62 34 = some (.if_icmp .ge 8, 3, 42, 0, 0, []) ∧ am_cd 62 37 = some (.aload_n 0, 1, 0, 0, 0, []) ∧ am_cd 62 38 = some (.iload_n 3, 1, 3, 0, 0, []) ∧ am_cd 62 39 = some (.invokevirtual 153, 3, 65, 2, 0, [0, 489]) ∧ am_cd 62 42 = some (.aload_n 0, 1, 0, 0, 0, []) ∧ am_cd 62 43 = some (.getfield 58, 3, 0, 8, 0, [0, 213]) ∧ am_cd 62 46 = some (.invokevirtual 90, 3, 36, 1, 0, [0, 364]) ∧ am_cd 62 49 = some (.pop, 1, 0, 0, 0, []) ∧ am_cd 62 50 = some (.iload_n 2, 1, 2, 0, 0, []) ∧ am_cd 62 51 = some (.iload_n 3, 1, 3, 0, 0, []) ∧ am_cd 62 52 = some (.isub, 1, 0, 0, 0, []) ∧ am_cd 62 53 = some (.ireturn, 1, 0, 0, 0, []) := ⟨rfl, rfl, rfl, rfl, rfl, rfl, rfl, rfl, rfl, rfl, rfl, rfl, rfl, rfl, rfl, rfl, rfl, rfl, rfl, rfl, rfl, rfl, rfl, rfl, rfl, rfl, rfl, rfl, rfl, rfl⟩
theorem en_63 (v0 : Value) : am_en 63 [v0] = [some v0] := by
  have h : am_mx 63 = 1 := by decide +kernel
  unfold am_en
  rw [h]
  rfl
theorem rt_63 : am_ret 63 = 0 := by decide +kernel
theorem kl_63 : am_kl 63 = 6 := by decide +kernel
set_option maxRecDepth 100000 in
theorem cx_63 : am_cd 63 0 = some (.aload_n 0, 1, 0, 0, 0, []) ∧ am_cd 63 1 = some (.getfield 9, 3, 6, 0, 0, [0, 201]) ∧ am_cd 63 4 = some (.iconst (-1), 1, 0, 0, (-1), []) ∧ am_cd 63 5 = some (.invokestatic 15, 3, 8, 2, 0, [0, 198]) ∧ am_cd 63 8 = some (.return_, 1, 0, 0, 0, []) := ⟨rfl, rfl, rfl, rfl, rfl⟩
theorem en_64 (v0 : Value) : am_en 64 [v0] = [some v0] := by
  have h : am_mx 64 = 1 := by decide +kernel
  unfold am_en
  rw [h]
  rfl
theorem rt_64 : am_ret 64 = 1 := by decide +kernel
theorem kl_64 : am_kl 64 = 5 := by decide +kernel
set_option maxRecDepth 100000 in
theorem cx_64 : am_cd 64 0 = some (.aload_n 0, 1, 0, 0, 0, []) ∧ am_cd 64 1 = some (.getfield 31, 3, 5, 6, 0, [0, 175]) ∧ am_cd 64 4 = some (.ireturn, 1, 0, 0, 0, []) := ⟨rfl, rfl, rfl⟩
theorem en_65 (v0 v1 : Value) : am_en 65 [v0, v1] = [some v0, some v1, none] := by
  have h : am_mx 65 = 3 := by decide +kernel
  unfold am_en
  rw [h]
  rfl
theorem rt_65 : am_ret 65 = 0 := by decide +kernel
theorem kl_65 : am_kl 65 = 0 := by decide +kernel
set_option maxRecDepth 100000 in
theorem cx_65 : am_cd 65 0 = some (.aload_n 0, 1, 0, 0, 0, []) ∧ am_cd 65 1 = some (.getfield 58, 3, 0, 8, 0, [0, 213]) ∧ am_cd 65 4 = some (.iload_n 1, 1, 1, 0, 0, []) ∧ am_cd 65 5 = some (.invokevirtual 250, 3, 66, 2, 0, [0, 493]) ∧ am_cd 65 8 = some (.istore_n 2, 1, 2, 0, 0, []) ∧ am_cd 65 9 = some (.aload_n 0, 1, 0, 0, 0, []) ∧ am_cd 65 10 = some (.getfield 27, 3, 0, 2, 0, [0, 207]) ∧ am_cd 65 13 = some (.aload_n 0, 1, 0, 0, 0, []) ∧ am_cd 65 14 = some (.getfield 122, 3, 0, 11, 0, [0, 216]) ∧ am_cd 65 17 = some (.iload_n 2, 1, 2, 0, 0, []) ∧ am_cd 65 18 = some (.isub, 1, 0, 0, 0, []) ∧ am_cd 65 19 = some (.invokevirtual 253, 3, 67, 2, 0, [0, 497]) ∧ am_cd 65 22 = some (.aload_n 0, 1, 0, 0, 0, []) ∧ am_cd 65 23 = some (.iload_n 2, 1, 2, 0, 0, []) ∧ am_cd 65 24 = some (.putfield 122, 3, 0, 11, 0, [0, 216]) ∧ am_cd 65 27 = some (.aload_n 0, 1, 0, 0, 0, []) ∧ am_cd 65 28 = some (.getfield 58, 3, 0, 8, 0, [0, 213]) ∧ am_cd 65 31 = some (.iload_n 1, 1, 1, 0, 0, []) ∧ am_cd 65 32 = some (.invokevirtual 256, 3, 68, 2, 0, [0, 502]) ∧ am_cd 65 35 = some (.return_, 1, 0, 0, 0, []) := ⟨rfl, rfl, rfl, rfl, rfl, rfl, rfl, rfl, rfl, rfl, rfl, rfl, rfl, rfl, rfl, rfl, rfl, rfl, rfl, rfl⟩
theorem en_66 (v0 v1 : Value) : am_en 66 [v0, v1] = [some v0, some v1] := by
  have h : am_mx 66 = 2 := by decide +kernel
  unfold am_en
  rw [h]
  rfl
theorem rt_66 : am_ret 66 = 1 := by decide +kernel
theorem kl_66 : am_kl 66 = 5 := by decide +kernel
set_option maxRecDepth 100000 in
theorem cx_66 : am_cd 66 0 = some (.iload_n 1, 1, 1, 0, 0, []) ∧ am_cd 66 1 = some (.ifCond .lt 20, 3, 21, 0, 0, []) ∧ am_cd 66 4 = some (.iload_n 1, 1, 1, 0, 0, []) ∧ am_cd 66 5 = some (.aload_n 0, 1, 0, 0, 0, []) ∧ am_cd 66 6 = some (.getfield 31, 3, 5, 6, 0, [0, 175]) ∧ am_cd 66 9 = some (.if_icmp .ge 12, 3, 21, 0, 0, []) ∧ am_cd 66 12 = some (.aload_n 0, 1, 0, 0, 0, []) ∧ am_cd 66 13 = some (.getfield 25, 3, 5, 5, 0, [0, 174]) ∧ am_cd 66 16 = some (.iload_n 1, 1, 1, 0, 0, []) ∧ am_cd 66 17 = some (.iaload, 1, 0, 0, 0, []) ∧ am_cd 66 18 = some (.goto 4, 3, 22, 0, 0, []) ∧ am_cd 66 21 = some (.iconst 0, 1, 0, 0, 0, []) ∧ am_cd 66 22 = some (.ireturn, 1, 0, 0, 0, []) := ⟨rfl, rfl, rfl, rfl, rfl, rfl, rfl, rfl, rfl, rfl, rfl, rfl, rfl⟩
theorem en_67 (v0 v1 : Value) : am_en 67 [v0, v1] = [some v0, some v1] := by
  have h : am_mx 67 = 2 := by decide +kernel
  unfold am_en
  rw [h]
  rfl
theorem rt_67 : am_ret 67 = 0 := by decide +kernel
theorem kl_67 : am_kl 67 = 2 := by decide +kernel
set_option maxRecDepth 100000 in
theorem cx_67 : am_cd 67 0 = some (.aload_n 0, 1, 0, 0, 0, []) ∧ am_cd 67 1 = some (.iconst 0, 1, 0, 0, 0, []) ∧ am_cd 67 2 = some (.aload_n 0, 1, 0, 0, 0, []) ∧ am_cd 67 3 = some (.getfield 19, 3, 2, 2, 0, [0, 121]) ∧ am_cd 67 6 = some (.iconst 0, 1, 0, 0, 0, []) ∧ am_cd 67 7 = some (.iload_n 1, 1, 1, 0, 0, []) ∧ am_cd 67 8 = some (.invokestatic 23, 3, 0, 90, 0, [501, 487, 59, 488]) ∧ am_cd 67 11 = some (.isub, 1, 0, 0, 0, []) ∧ am_cd 67 12 = some (.invokestatic 23, 3, 0, 90, 0, [501, 487, 59, 488]) ∧ am_cd 67 15 = some (.putfield 19, 3, 2, 2, 0, [0, 121]) ∧ am_cd 67 18 = some (.return_, 1, 0, 0, 0, []) := ⟨rfl, rfl, rfl, rfl, rfl, rfl, rfl, rfl, rfl, rfl, rfl⟩
theorem en_68 (v0 v1 : Value) : am_en 68 [v0, v1] = [some v0, some v1] := by
  have h : am_mx 68 = 2 := by decide +kernel
  unfold am_en
  rw [h]
  rfl
theorem rt_68 : am_ret 68 = 0 := by decide +kernel
theorem kl_68 : am_kl 68 = 5 := by decide +kernel
set_option maxRecDepth 100000 in
theorem cx_68 : am_cd 68 0 = some (.iload_n 1, 1, 1, 0, 0, []) ∧ am_cd 68 1 = some (.ifCond .lt 11, 3, 12, 0, 0, []) ∧ am_cd 68 4 = some (.iload_n 1, 1, 1, 0, 0, []) ∧ am_cd 68 5 = some (.aload_n 0, 1, 0, 0, 0, []) ∧ am_cd 68 6 = some (.getfield 31, 3, 5, 6, 0, [0, 175]) ∧ am_cd 68 9 = some (.if_icmp .lt 4, 3, 13, 0, 0, []) ∧ am_cd 68 12 = some (.return_, 1, 0, 0, 0, []) ∧ am_cd 68 13 = some (.aload_n 0, 1, 0, 0, 0, []) ∧ am_cd 68 14 = some (.aload_n 0, 1, 0, 0, 0, []) ∧ am_cd 68 15 = some (.getfield 19, 3, 5, 3, 0, [0, 172]) ∧ am_cd 68 18 = some (.iload_n 1, 1, 1, 0, 0, []) ∧ am_cd 68 19 = some (.iaload, 1, 0, 0, 0, []) ∧ am_cd 68 20 = some (.putfield 15, 3, 5, 2, 0, [0, 171]) ∧ am_cd 68 23 = some (.aload_n 0, 1, 0, 0, 0, []) ∧ am_cd 68 24 = some (.getfield 9, 3, 5, 0, 0, [0, 169]) ∧ am_cd 68 27 = some (.aload_n 0, 1, 0, 0, 0, []) ∧ am_cd 68 28 = some (.getfield 15, 3, 5, 2, 0, [0, 171]) ∧ am_cd 68 31 = some (.iconst 1, 1, 0, 0, 1, []) ∧ am_cd 68 32 = some (.isub, 1, 0, 0, 0, []) ∧ am_cd 68 33 = some (.aload_n 0, 1, 0, 0, 0, []) ∧ am_cd 68 34 = some (.getfield 22, 3, 5, 4, 0, [0, 173]) ∧ am_cd 68 37 = some (.iload_n 1, 1, 1, 0, 0, []) ∧ am_cd 68 38 = some (.iaload, 1, 0, 0, 0, []) ∧ am_cd 68 39 = some (.iastore, 1, 0, 0, 0, []) ∧ am_cd 68 40 = some (.aload_n 0, 1, 0, 0, 0, []) ∧ am_cd 68 41 = some (.iload_n 1, 1, 1, 0, 0, []) ∧ am_cd 68 42 = some (.putfield 31, 3, 5, 6, 0, [0, 175]) ∧ am_cd 68 45 = some (.return_, 1, 0, 0, 0, []) := ⟨rfl, rfl, rfl, rfl, rfl, rfl, rfl, rfl, rfl, rfl, rfl, rfl, rfl, rfl, rfl, rfl, rfl, rfl, rfl, rfl, rfl, rfl, rfl, rfl, rfl, rfl, rfl, rfl⟩
theorem en_69 (v0 v1 v2 : Value) : am_en 69 [v0, v1, v2] = [some v0, some v1, some v2] := by
  have h : am_mx 69 = 3 := by decide +kernel
  unfold am_en
  rw [h]
  rfl
theorem rt_69 : am_ret 69 = 2 := by decide +kernel
theorem kl_69 : am_kl 69 = 0 := by decide +kernel
set_option maxRecDepth 100000 in
theorem cx_69 : am_cd 69 0 = some (.aload_n 0, 1, 0, 0, 0, []) ∧ am_cd 69 1 = some (.iload_n 1, 1, 1, 0, 0, []) ∧ am_cd 69 2 = some (.iload_n 2, 1, 2, 0, 0, []) ∧ am_cd 69 3 = some (.invokevirtual 157, 3, 70, 3, 0, [0, 510]) ∧ am_cd 69 6 = some (.aload_n 0, 1, 0, 0, 0, []) ∧ am_cd 69 7 = some (.getfield 132, 3, 0, 10, 0, [0, 215]) ∧ am_cd 69 10 = some (.invokevirtual 161, 3, 31, 2, 0, [0, 552]) ∧ am_cd 69 13 = some (.ifCond .ne 7, 3, 20, 0, 0, []) ∧ am_cd 69 16 = some (.iconst 1, 1, 0, 0, 1, []) ∧ am_cd 69 17 = some (.goto 4, 3, 21, 0, 0, []) ∧ am_cd 69 20 = some (.iconst 0, 1, 0, 0, 0, []) ∧ am_cd 69 21 = some (.ireturn, 1, 0, 0, 0, []) := ⟨rfl, rfl, rfl, rfl, rfl, rfl, rfl, rfl, rfl, rfl, rfl, rfl⟩
theorem en_70 (v0 v1 v2 : Value) : am_en 70 [v0, v1, v2] = [some v0, some v1, some v2, none, none] := by
  have h : am_mx 70 = 5 := by decide +kernel
  unfold am_en
  rw [h]
  rfl
theorem rt_70 : am_ret 70 = 3 := by decide +kernel
theorem kl_70 : am_kl 70 = 0 := by decide +kernel
set_option maxRecDepth 100000 in
theorem cx_70 : am_cd 70 0 = some (.aload_n 0, 1, 0, 0, 0, []) ∧ am_cd 70 1 = some (.iload_n 1, 1, 1, 0, 0, []) ∧ am_cd 70 2 = some (.invokevirtual 167, 3, 71, 2, 0, [0, 514]) ∧ am_cd 70 5 = some (.istore_n 3, 1, 3, 0, 0, []) ∧ am_cd 70 6 = some (.iload_n 3, 1, 3, 0, 0, []) ∧ am_cd 70 7 = some (.iconst (-1), 1, 0, 0, (-1), []) ∧ am_cd 70 8 = some (.if_icmp .eq 10, 3, 18, 0, 0, []) ∧ am_cd 70 11 = some (.iload_n 2, 1, 2, 0, 0, []) ∧ am_cd 70 12 = some (.invokestatic 69, 3, 10, 1, 0, [0, 252]) ∧ am_cd 70 15 = some (.ifCond .ne 8, 3, 23, 0, 0, []) ∧ am_cd 70 18 = some (.aload_n 0, 1, 0, 0, 0, []) ∧ am_cd 70 19 = some (.getfield 14, 3, 0, 0, 0, [0, 205]) ∧ am_cd 70 22 = some (.areturn, 1, 0, 0, 0, []) ∧ am_cd 70 23 = some (.aload_n 0, 1, 0, 0, 0, []) ∧ am_cd 70 24 = some (.iload_n 2, 1, 2, 0, 0, []) ∧ am_cd 70 25 = some (.iload_n 3, 1, 3, 0, 0, []) ∧ am_cd 70 26 = some (.invokevirtual 170, 3, 72, 3, 0, [0, 519]) ∧ am_cd 70 29 = some (.astore 4, 2, 4, 0, 0, []) ∧ am_cd 70 31 = some (.aload_n 0, 1, 0, 0, 0, []) ∧ am_cd 70 32 = some (.aload_n 0, 1, 0, 0, 0, []) ∧ am_cd 70 33 = some (.getfield 259, 3, 0, 12, 0, [0, 217]) ∧ am_cd 70 36 = some (.putfield 173, 3, 0, 13, 0, [0, 218]) ∧ am_cd 70 39 = some (.aload 4, 2, 4, 0, 0, []) ∧ am_cd 70 41 = some (.areturn, 1, 0, 0, 0, []) := ⟨rfl, rfl, rfl, rfl, rfl, rfl, rfl, rfl, rfl, rfl, rfl, rfl, rfl, rfl, rfl, rfl, rfl, rfl, rfl, rfl, rfl, rfl, rfl, rfl⟩
theorem en_71 (v0 v1 : Value) : am_en 71 [v0, v1] = [some v0, some v1] := by
  have h : am_mx 71 = 2 := by decide +kernel
  unfold am_en
  rw [h]
  rfl
theorem rt_71 : am_ret 71 = 1 := by decide +kernel
theorem kl_71 : am_kl 71 = 0 := by decide +kernel
set_option maxRecDepth 100000 in
theorem cx_71 : am_cd 71 0 = some (.iload_n 1, 1, 1, 0, 0, []) ∧ am_cd 71 1 = some (.iconst (-1), 1, 0, 0, (-1), []) ∧ am_cd 71 2 = some (.if_icmp .ne 10, 3, 12, 0, 0, []) ∧ am_cd 71 5 = some (.aload_n 0, 1, 0, 0, 0, []) ∧ am_cd 71 6 = some (.getfield 122, 3, 0, 11, 0, [0, 216]) ∧ am_cd 71 9 = some (.goto 11, 3, 20, 0, 0, []) ∧ am_cd 71 12 = some (.aload_n 0, 1, 0, 0, 0, []) ∧ am_cd 71 13 = some (.getfield 65, 3, 0, 9, 0, [0, 214]) ∧ am_cd 71 16 = some (.iload_n 1, 1, 1, 0, 0, []) ∧ am_cd 71 17 = some (.invokevirtual 197, 3, 60, 2, 0, [0, 518]) ∧ am_cd 71 20 = some (.ireturn, 1, 0, 0, 0, []) := ⟨rfl, rfl, rfl, rfl, rfl, rfl, rfl, rfl, rfl, rfl, rfl⟩
theorem en_72 (v0 v1 v2 : Value) : am_en 72 [v0, v1, v2] = [some v0, some v1, some v2, none, none] := by
  have h : am_mx 72 = 5 := by decide +kernel
  unfold am_en
  rw [h]
  rfl
theorem rt_72 : am_ret 72 = 3 := by decide +kernel
theorem kl_72 : am_kl 72 = 0 := by decide +kernel
set_option maxRecDepth 100000 in
theorem cx_72 : am_cd 72 0 = some (.aload_n 0, 1, 0, 0, 0, []) ∧ am_cd 72 1 = some (.iconst 0, 1, 0, 0, 0, []) ∧ am_cd 72 2 = some (.putfield 259, 3, 0, 12, 0, [0, 217]) ∧ am_cd 72 5 = some (.aload_n 0, 1, 0, 0, 0, []) ∧ am_cd 72 6 = some (.getfield 27, 3, 0, 2, 0, [0, 207]) ∧ am_cd 72 9 = some (.iload_n 1, 1, 1, 0, 0, []) ∧ am_cd 72 10 = some (.iload_n 2, 1, 2, 0, 0, []) ∧ am_cd 72 11 = some (.invokevirtual 262, 3, 73, 3, 0, [0, 523]) ∧ am_cd 72 14 = some (.astore_n 3, 1, 3, 0, 0, []) ∧ am_cd 72 15 = some (.iconst 0, 1, 0, 0, 0, []) ∧ am_cd 72 16 = some (.istore 4, 2, 4, 0, 0, []) ∧ am_cd 72 20 = some (.iconst 3, 1, 0, 0, 3, []) ∧ am_cd 72 21 = some (.if_icmp .ge 29, 3, 50, 0, 0, []) ∧ am_cd 72 24 = some (.aload_n 3, 1, 3, 0, 0, []) ∧ am_cd 72 25 = some (.invokevirtual 265, 3, 74, 1, 0, [0, 527]) ∧ am_cd 72 28 = some (.ifCond .eq 22, 3, 50, 0, 0, []) ∧ am_cd 72 31 = some (.aload_n 0, 1, 0, 0, 0, []) ∧ am_cd 72 32 = some (.aload_n 0, 1, 0, 0, 0, []) ∧ am_cd 72 33 = some (.iload 4, 2, 4, 0, 0, []) ∧ am_cd 72 35 = some (.invokevirtual 93, 3, 45, 2, 0, [0, 400]) ∧ am_cd 72 38 = some (.iload_n 1, 1, 1, 0, 0, []) ∧ am_cd 72 39 = some (.iload_n 2, 1, 2, 0, 0, []) ∧ am_cd 72 40 = some (.invokevirtual 269, 3, 75, 4, 0, [0, 531]) ∧ am_cd 72 43 = some (.astore_n 3, 1, 3, 0, 0, []) ∧ am_cd 72 44 = some (.iinc 4 1, 3, 4, 0, 1, []) ∧ am_cd 72 47 = some (.goto (-29), 3, 18, 0, 0, []) ∧ am_cd 72 50 = some (.aload_n 3, 1, 3, 0, 0, []) ∧ am_cd 72 51 = some (.areturn, 1, 0, 0, 0, []) := ⟨rfl, rfl, rfl, rfl, rfl, rfl, rfl, rfl, rfl, rfl, rfl, rfl, rfl, rfl, rfl, rfl, rfl, rfl, rfl, rfl, rfl, rfl, rfl, rfl, rfl, rfl, rfl, rfl⟩
theorem cxh_72_18 : am_cd 72 18 = some (.iload 4, 2, 4, 0, 0, []) := rfl
theorem en_73 (v0 v1 v2 : Value) : am_en 73 [v0, v1, v2] = [some v0, some v1, some v2, none, none, none] := by
  have h : am_mx 73 = 6 := by decide +kernel
  unfold am_en
  rw [h]
  rfl
theorem rt_73 : am_ret 73 = 3 := by decide +kernel
theorem kl_73 : am_kl 73 = 2 := by decide +kernel
set_option maxRecDepth 100000 in
theorem cx_73 : am_cd 73 0 = some (.aload_n 0, 1, 0, 0, 0, []) ∧ am_cd 73 1 = some (.getfield 7, 3, 2, 0, 0, [0, 119]) ∧ am_cd 73 4 = some (.astore_n 3, 1, 3, 0, 0, []) ∧ am_cd 73 5 = some (.iconst 0, 1, 0, 0, 0, []) ∧ am_cd 73 6 = some (.istore 4, 2, 4, 0, 0, []) ∧ am_cd 73 10 = some (.aload_n 0, 1, 0, 0, 0, []) ∧ am_cd 73 11 = some (.getfield 19, 3, 2, 2, 0, [0, 121]) ∧ am_cd 73 14 = some (.if_icmp .ge 51, 3, 65, 0, 0, []) ∧ am_cd 73 17 = some (.aload_n 0, 1, 0, 0, 0, []) ∧ am_cd 73 18 = some (.getfield 15, 3, 2, 1, 0, [0, 120]) ∧ am_cd 73 21 = some (.iload 4, 2, 4, 0, 0, []) ∧ am_cd 73 23 = some (.aaload, 1, 0, 0, 0, []) ∧ am_cd 73 24 = some (.astore 5, 2, 5, 0, 0, []) ∧ am_cd 73 26 = some (.aload 5, 2, 5, 0, 0, []) ∧ am_cd 73 28 = some (.getfield 40, 3, 1, 0, 0, [0, 77]) ∧ am_cd 73 31 = some (.iload_n 1, 1, 1, 0, 0, []) ∧ am_cd 73 32 = some (.if_icmp .ne 27, 3, 59, 0, 0, []) ∧ am_cd 73 35 = some (.aload 5, 2, 5, 0, 0, []) ∧ am_cd 73 37 = some (.getfield 43, 3, 1, 4, 0, [0, 86]) ∧ am_cd 73 40 = some (.iload_n 2, 1, 2, 0, 0, []) ∧ am_cd 73 41 = some (.if_icmp .gt 18, 3, 59, 0, 0, []) ∧ am_cd 73 44 = some (.aload 5, 2, 5, 0, 0, []) ∧ am_cd 73 46 = some (.getfield 43, 3, 1, 4, 0, [0, 86]) ∧ am_cd 73 49 = some (.aload_n 3, 1, 3, 0, 0, []) ∧ am_cd 73 50 = some (.getfield 43, 3, 1, 4, 0, [0, 86]) ∧ am_cd 73 53 = some (.if_icmp .le 6, 3, 59, 0, 0, []) ∧ am_cd 73 56 = some (.aload 5, 2, 5, 0, 0, []) ∧ am_cd 73 58 = some (.astore_n 3, 1, 3, 0, 0, []) ∧ am_cd 73 59 = some (.iinc 4 1, 3, 4, 0, 1, []) ∧ am_cd 73 62 = some (.goto (-54), 3, 8, 0, 0, []) ∧ am_cd 73 65 = some (.aload_n 3, 1, 3, 0, 0, []) ∧ am_cd 73 66 = some (.areturn, 1, 0, 0, 0, []) := ⟨rfl, rfl, rfl, rfl, rfl, rfl, rfl, rfl, rfl, rfl, rfl, rfl, rfl, rfl, rfl, rfl, rfl, rfl, rfl, rfl, rfl, rfl, rfl, rfl, rfl, rfl, rfl, rfl, rfl, rfl, rfl, rfl⟩
theorem cxh_73_8 : am_cd 73 8 = some (.iload 4, 2, 4, 0, 0, []) := rfl
theorem en_74 (v0 : Value) : am_en 74 [v0] = [some v0] := by
  have h : am_mx 74 = 1 := by decide +kernel
  unfold am_en
  rw [h]
  rfl
theorem rt_74 : am_ret 74 = 2 := by decide +kernel
theorem kl_74 : am_kl 74 = 1 := by decide +kernel
set_option maxRecDepth 100000 in
theorem cx_74 : am_cd 74 0 = some (.aload_n 0, 1, 0, 0, 0, []) ∧ am_cd 74 1 = some (.getfield 9, 3, 1, 0, 0, [0, 75]) ∧ am_cd 74 4 = some (.iconst (-1), 1, 0, 0, (-1), []) ∧ am_cd 74 5 = some (.if_icmp .ne 7, 3, 12, 0, 0, []) ∧ am_cd 74 8 = some (.iconst 1, 1, 0, 0, 1, []) ∧ am_cd 74 9 = some (.goto 4, 3, 13, 0, 0, []) ∧ am_cd 74 12 = some (.iconst 0, 1, 0, 0, 0, []) ∧ am_cd 74 13 = some (.ireturn, 1, 0, 0, 0, []) := ⟨rfl, rfl, rfl, rfl, rfl, rfl, rfl, rfl⟩
theorem en_75 (v0 v1 v2 v3 : Value) : am_en 75 [v0, v1, v2, v3] = [some v0, some v1, some v2, some v3, none, none, none] := by
  have h : am_mx 75 = 7 := by decide +kernel
  unfold am_en
  rw [h]
  rfl
theorem rt_75 : am_ret 75 = 3 := by decide +kernel
theorem kl_75 : am_kl 75 = 0 := by decide +kernel
set_option maxRecDepth 100000 in
theorem cx_75 : am_cd 75 0 = some (.aload_n 0, 1, 0, 0, 0, []) ∧ am_cd 75 1 = some (.getfield 14, 3, 0, 0, 0, [0, 205]) ∧ am_cd 75 4 = some (.astore 4, 2, 4, 0, 0, []) ∧ am_cd 75 6 = some (.iconst 0, 1, 0, 0, 0, []) ∧ am_cd 75 7 = some (.istore 5, 2, 5, 0, 0, []) ∧ am_cd 75 11 = some (.aload_n 1, 1, 1, 0, 0, []) ∧ am_cd 75 12 = some (.invokevirtual 97, 3, 19, 1, 0, [0, 287]) ∧ am_cd 75 15 = some (.if_icmp .ge 56, 3, 71, 0, 0, []) ∧ am_cd 75 18 = some (.aload 4, 2, 4, 0, 0, []) ∧ am_cd 75 20 = some (.invokevirtual 265, 3, 74, 1, 0, [0, 527]) ∧ am_cd 75 23 = some (.ifCond .eq 48, 3, 71, 0, 0, []) ∧ am_cd 75 26 = some (.aload_n 1, 1, 1, 0, 0, []) ∧ am_cd 75 27 = some (.iload 5, 2, 5, 0, 0, []) ∧ am_cd 75 29 = some (.invokevirtual 176, 3, 76, 2, 0, [0, 535]) ∧ am_cd 75 32 = some (.astore 6, 2, 6, 0, 0, []) ∧ am_cd 75 34 = some (.aload 6, 2, 6, 0, 0, []) ∧ am_cd 75 36 = some (.iload_n 2, 1, 2, 0, 0, []) ∧ am_cd 75 37 = some (.invokevirtual 273, 3, 77, 2, 0, [0, 539]) ∧ am_cd 75 40 = some (.ifCond .eq 25, 3, 65, 0, 0, []) ∧ am_cd 75 43 = some (.aload_n 0, 1, 0, 0, 0, []) ∧ am_cd 75 44 = some (.dup, 1, 0, 0, 0, []) ∧ am_cd 75 45 = some (.getfield 259, 3, 0, 12, 0, [0, 217]) ∧ am_cd 75 48 = some (.iconst 1, 1, 0, 0, 1, []) ∧ am_cd 75 49 = some (.iadd, 1, 0, 0, 0, []) ∧ am_cd 75 50 = some (.putfield 259, 3, 0, 12, 0, [0, 217]) ∧ am_cd 75 53 = some (.aload 6, 2, 6, 0, 0, []) ∧ am_cd 75 55 = some (.getfield 276, 3, 3, 0, 0, [0, 146]) ∧ am_cd 75 58 = some (.iload_n 2, 1, 2, 0, 0, []) ∧ am_cd 75 59 = some (.iload_n 3, 1, 3, 0, 0, []) ∧ am_cd 75 60 = some (.invokevirtual 262, 3, 73, 3, 0, [0, 523]) ∧ am_cd 75 63 = some (.astore 4, 2, 4, 0, 0, []) ∧ am_cd 75 65 = some (.iinc 5 1, 3, 5, 0, 1, []) ∧ am_cd 75 68 = some (.goto (-59), 3, 9, 0, 0, []) ∧ am_cd 75 71 = some (.aload 4, 2, 4, 0, 0, []) ∧ am_cd 75 73 = some (.areturn, 1, 0, 0, 0, []) := ⟨rfl, rfl, rfl, rfl, rfl, rfl, rfl, rfl, rfl, rfl, rfl, rfl, rfl, rfl, rfl, rfl, rfl, rfl, rfl, rfl, rfl, rfl, rfl, rfl, rfl, rfl, rfl, rfl, rfl, rfl, rfl, rfl, rfl, rfl, rfl⟩
theorem cxh_75_9 : am_cd 75 9 = some (.iload 5, 2, 5, 0, 0, []) := rfl
theorem en_76 (v0 v1 : Value) : am_en 76 [v0, v1] = [some v0, some v1] := by
  have h : am_mx 76 = 2 := by decide +kernel
  unfold am_en
  rw [h]
  rfl
theorem rt_76 : am_ret 76 = 3 := by decide +kernel
theorem kl_76 : am_kl 76 = 4 := by decide +kernel
set_option maxRecDepth 100000 in
theorem cx_76 : am_cd 76 0 = some (.aload_n 0, 1, 0, 0, 0, []) ∧ am_cd 76 1 = some (.getfield 11, 3, 4, 0, 0, [0, 153]) ∧ am_cd 76 4 = some (.iload_n 1, 1, 1, 0, 0, []) ∧ am_cd 76 5 = some (.aaload, 1, 0, 0, 0, []) ∧ am_cd 76 6 = some (.areturn, 1, 0, 0, 0, []) := ⟨rfl, rfl, rfl, rfl, rfl⟩
theorem en_77 (v0 v1 : Value) : am_en 77 [v0, v1] = [some v0, some v1, none] := by
  have h : am_mx 77 = 3 := by decide +kernel
  unfold am_en
  rw [h]
  rfl
theorem rt_77 : am_ret 77 = 2 := by decide +kernel
theorem kl_77 : am_kl 77 = 3 := by decide +kernel
set_option maxRecDepth 100000 in
theorem cx_77 : am_cd 77 0 = some (.iload_n 1, 1, 1, 0, 0, []) ∧ am_cd 77 1 = some (.invokestatic 40, 3, 34, 1, 0, [0, 355]) ∧ am_cd 77 4 = some (.istore_n 2, 1, 2, 0, 0, []) ∧ am_cd 77 5 = some (.iload_n 1, 1, 1, 0, 0, []) ∧ am_cd 77 6 = some (.aload_n 0, 1, 0, 0, 0, []) ∧ am_cd 77 7 = some (.invokevirtual 44, 3, 78, 1, 0, [0, 543]) ∧ am_cd 77 10 = some (.if_icmp .lt 25, 3, 35, 0, 0, []) ∧ am_cd 77 13 = some (.iload_n 1, 1, 1, 0, 0, []) ∧ am_cd 77 14 = some (.aload_n 0, 1, 0, 0, 0, []) ∧ am_cd 77 15 = some (.invokevirtual 48, 3, 79, 1, 0, [0, 547]) ∧ am_cd 77 18 = some (.if_icmp .gt 17, 3, 35, 0, 0, []) ∧ am_cd 77 21 = some (.aload_n 0, 1, 0, 0, 0, []) ∧ am_cd 77 22 = some (.getfield 23, 3, 3, 1, 0, [0, 147]) ∧ am_cd 77 25 = some (.iload_n 2, 1, 2, 0, 0, []) ∧ am_cd 77 26 = some (.iand, 1, 0, 0, 0, []) ∧ am_cd 77 27 = some (.iload_n 2, 1, 2, 0, 0, []) ∧ am_cd 77 28 = some (.if_icmp .ne 7, 3, 35, 0, 0, []) ∧ am_cd 77 31 = some (.iconst 1, 1, 0, 0, 1, []) ∧ am_cd 77 32 = some (.goto 4, 3, 36, 0, 0, []) ∧ am_cd 77 35 = some (.iconst 0, 1, 0, 0, 0, []) ∧ am_cd 77 36 = some (.ireturn, 1, 0, 0, 0, []) := ⟨rfl, rfl, rfl, rfl, rfl, rfl, rfl, rfl, rfl, rfl, rfl, rfl, rfl, rfl, rfl, rfl, rfl, rfl, rfl, rfl, rfl⟩
theorem en_78 (v0 : Value) : am_en 78 [v0] = [some v0] := by
  have h : am_mx 78 = 1 := by decide +kernel
  unfold am_en
  rw [h]
  rfl
theorem rt_78 : am_ret 78 = 1 := by decide +kernel
theorem kl_78 : am_kl 78 = 3 := by decide +kernel
set_option maxRecDepth 100000 in
theorem cx_78 : am_cd 78 0 = some (.aload_n 0, 1, 0, 0, 0, []) ∧ am_cd 78 1 = some (.getfield 14, 3, 3, 0, 0, [0, 144]) ∧ am_cd 78 4 = some (.iconst 0, 1, 0, 0, 0, []) ∧ am_cd 78 5 = some (.invokevirtual 27, 3, 24, 2, 0, [0, 353]) ∧ am_cd 78 8 = some (.getfield 35, 3, 1, 0, 0, [0, 76]) ∧ am_cd 78 11 = some (.ireturn, 1, 0, 0, 0, []) := ⟨rfl, rfl, rfl, rfl, rfl, rfl⟩
theorem en_79 (v0 : Value) : am_en 79 [v0] = [some v0] := by
  have h : am_mx 79 = 1 := by decide +kernel
  unfold am_en
  rw [h]
  rfl
theorem rt_79 : am_ret 79 = 1 := by decide +kernel
theorem kl_79 : am_kl 79 = 3 := by decide +kernel
set_option maxRecDepth 100000 in
theorem cx_79 : am_cd 79 0 = some (.aload_n 0, 1, 0, 0, 0, []) ∧ am_cd 79 1 = some (.getfield 14, 3, 3, 0, 0, [0, 144]) ∧ am_cd 79 4 = some (.aload_n 0, 1, 0, 0, 0, []) ∧ am_cd 79 5 = some (.getfield 14, 3, 3, 0, 0, [0, 144]) ∧ am_cd 79 8 = some (.invokevirtual 51, 3, 12, 1, 0, [0, 551]) ∧ am_cd 79 11 = some (.iconst 1, 1, 0, 0, 1, []) ∧ am_cd 79 12 = some (.isub, 1, 0, 0, 0, []) ∧ am_cd 79 13 = some (.invokevirtual 27, 3, 24, 2, 0, [0, 353]) ∧ am_cd 79 16 = some (.getfield 35, 3, 1, 0, 0, [0, 76]) ∧ am_cd 79 19 = some (.ireturn, 1, 0, 0, 0, []) := ⟨rfl, rfl, rfl, rfl, rfl, rfl, rfl, rfl, rfl, rfl⟩
theorem en_80 (v0 v1 v2 : Value) : am_en 80 [v0, v1, v2] = [some v0, some v1, some v2, none] := by
  have h : am_mx 80 = 4 := by decide +kernel
  unfold am_en
  rw [h]
  rfl
theorem rt_80 : am_ret 80 = 1 := by decide +kernel
theorem kl_80 : am_kl 80 = 0 := by decide +kernel
set_option maxRecDepth 100000 in
theorem cx_80 : am_cd 80 0 = some (.aload_n 0, 1, 0, 0, 0, []) ∧ am_cd 80 1 = some (.iload_n 1, 1, 1, 0, 0, []) ∧ am_cd 80 2 = some (.iload_n 2, 1, 2, 0, 0, []) ∧ am_cd 80 3 = some (.invokevirtual 157, 3, 70, 3, 0, [0, 510]) ∧ am_cd 80 6 = some (.astore_n 3, 1, 3, 0, 0, []) ∧ am_cd 80 7 = some (.aload_n 3, 1, 3, 0, 0, []) ∧ am_cd 80 8 = some (.aload_n 0, 1, 0, 0, 0, []) ∧ am_cd 80 9 = some (.getfield 132, 3, 0, 10, 0, [0, 215]) ∧ am_cd 80 12 = some (.invokevirtual 161, 3, 31, 2, 0, [0, 552]) ∧ am_cd 80 15 = some (.ifCond .eq 7, 3, 22, 0, 0, []) ∧ am_cd 80 18 = some (.iconst 0, 1, 0, 0, 0, []) ∧ am_cd 80 19 = some (.goto 7, 3, 26, 0, 0, []) ∧ am_cd 80 22 = some (.aload_n 3, 1, 3, 0, 0, []) ∧ am_cd 80 23 = some (.getfield 164, 3, 1, 1, 0, [0, 79]) ∧ am_cd 80 26 = some (.ireturn, 1, 0, 0, 0, []) := ⟨rfl, rfl, rfl, rfl, rfl, rfl, rfl, rfl, rfl, rfl, rfl, rfl, rfl, rfl, rfl⟩
theorem en_81 (v0 v1 v2 v3 : Value) : am_en 81 [v0, v1, v2, v3] = [some v0, some v1, some v2, some v3, none, none, none] := by
  have h : am_mx 81 = 7 := by decide +kernel
  unfold am_en
  rw [h]
  rfl
theorem rt_81 : am_ret 81 = 1 := by decide +kernel
theorem kl_81 : am_kl 81 = 0 := by decide +kernel
set_option maxRecDepth 100000 in
theorem cx_81 : am_cd 81 0 = some (.aload_n 0, 1, 0, 0, 0, []) ∧ am_cd 81 1 = some (.iload_n 1, 1, 1, 0, 0, []) ∧ am_cd 81 2 = some (.invokevirtual 167, 3, 71, 2, 0, [0, 514]) ∧ am_cd 81 5 = some (.istore 4, 2, 4, 0, 0, []) ∧ am_cd 81 7 = some (.iload 4, 2, 4, 0, 0, []) ∧ am_cd 81 9 = some (.iconst (-1), 1, 0, 0, (-1), []) ∧ am_cd 81 10 = some (.if_icmp .eq 7, 3, 17, 0, 0, []) ∧ am_cd 81 13 = some (.iload_n 3, 1, 3, 0, 0, []) ∧ am_cd 81 14 = some (.ifCond .ge 5, 3, 19, 0, 0, []) ∧ am_cd 81 17 = some (.iconst (-1), 1, 0, 0, (-1), []) ∧ am_cd 81 18 = some (.ireturn, 1, 0, 0, 0, []) ∧ am_cd 81 19 = some (.iconst 0, 1, 0, 0, 0, []) ∧ am_cd 81 20 = some (.istore 5, 2, 5, 0, 0, []) ∧ am_cd 81 22 = some (.iload_n 2, 1, 2, 0, 0, []) ∧ am_cd 81 23 = some (.iconst 0, 1, 0, 0, 0, []) ∧ am_cd 81 24 = some (.invokestatic 150, 3, 0, 90, 0, [486, 487, 59, 488]) ∧ am_cd 81 27 = some (.istore 6, 2, 6, 0, 0, []) ∧ am_cd 81 31 = some (.bipush 32, 2, 0, 0, 32, []) ∧ am_cd 81 33 = some (.if_icmp .ge 39, 3, 72, 0, 0, []) ∧ am_cd 81 36 = some (.aload_n 0, 1, 0, 0, 0, []) ∧ am_cd 81 37 = some (.iload 6, 2, 6, 0, 0, []) ∧ am_cd 81 39 = some (.iload 4, 2, 4, 0, 0, []) ∧ am_cd 81 41 = some (.invokevirtual 170, 3, 72, 3, 0, [0, 519]) ∧ am_cd 81 44 = some (.aload_n 0, 1, 0, 0, 0, []) ∧ am_cd 81 45 = some (.getfield 132, 3, 0, 10, 0, [0, 215]) ∧ am_cd 81 48 = some (.invokevirtual 161, 3, 31, 2, 0, [0, 552]) ∧ am_cd 81 51 = some (.ifCond .ne 15, 3, 66, 0, 0, []) ∧ am_cd 81 54 = some (.iload 5, 2, 5, 0, 0, []) ∧ am_cd 81 56 = some (.iload_n 3, 1, 3, 0, 0, []) ∧ am_cd 81 57 = some (.if_icmp .ne 6, 3, 63, 0, 0, []) ∧ am_cd 81 60 = some (.iload 6, 2, 6, 0, 0, []) ∧ am_cd 81 62 = some (.ireturn, 1, 0, 0, 0, []) ∧ am_cd 81 63 = some (.iinc 5 1, 3, 5, 0, 1, []) ∧ am_cd 81 66 = some (.iinc 6 1, 3, 6, 0, 1, []) ∧ am_cd 81 69 = some (.goto (-40), 3, 29, 0, 0, []) ∧ am_cd 81 72 = some (.bipush (-2), 2, 0, 0, (-2), []) ∧ am_cd 81 74 = some (.ireturn, 1, 0, 0, 0, []) := ⟨rfl, rfl, rfl, rfl, rfl, rfl, rfl, rfl, rfl, rfl, rfl, rfl, rfl, rfl, rfl, rfl, rfl, rfl, rfl, rfl, rfl, rfl, rfl, rfl, rfl, rfl, rfl, rfl, rfl, rfl, rfl, rfl, rfl, rfl, rfl, rfl, rfl⟩
theorem cxh_81_29 : am_cd 81 29 = some (.iload 6, 2, 6, 0, 0, []) := rfl
theorem en_82 (v0 : Value) : am_en 82 [v0] = [some v0] := by
  have h : am_mx 82 = 1 := by decide +kernel
  unfold am_en
  rw [h]
  rfl
theorem rt_82 : am_ret 82 = 1 := by decide +kernel
theorem kl_82 : am_kl 82 = 0 := by decide +kernel
set_option maxRecDepth 100000 in
theorem cx_82 : am_cd 82 0 = some (.aload_n 0, 1, 0, 0, 0, []) ∧ am_cd 82 1 = some (.getfield 173, 3, 0, 13, 0, [0, 218]) ∧ am_cd 82 4 = some (.ireturn, 1, 0, 0, 0, []) := ⟨rfl, rfl, rfl⟩
theorem en_83 (v0 v1 v2 v3 : Value) : am_en 83 [v0, v1, v2, v3] = [some v0, some v1, some v2, some v3, none] := by
  have h : am_mx 83 = 5 := by decide +kernel
  unfold am_en
  rw [h]
  rfl
theorem rt_83 : am_ret 83 = 1 := by decide +kernel
theorem kl_83 : am_kl 83 = 0 := by decide +kernel
set_option maxRecDepth 100000 in
theorem cx_83 : am_cd 83 0 = some (.iload_n 1, 1, 1, 0, 0, []) ∧ am_cd 83 1 = some (.ifCond .lt 8, 3, 9, 0, 0, []) ∧ am_cd 83 4 = some (.iload_n 1, 1, 1, 0, 0, []) ∧ am_cd 83 5 = some (.iconst 3, 1, 0, 0, 3, []) ∧ am_cd 83 6 = some (.if_icmp .lt 6, 3, 12, 0, 0, []) ∧ am_cd 83 9 = some (.bipush (-2), 2, 0, 0, (-2), []) ∧ am_cd 83 11 = some (.ireturn, 1, 0, 0, 0, []) ∧ am_cd 83 12 = some (.aload_n 0, 1, 0, 0, 0, []) ∧ am_cd 83 13 = some (.iload_n 1, 1, 1, 0, 0, []) ∧ am_cd 83 14 = some (.invokevirtual 93, 3, 45, 2, 0, [0, 400]) ∧ am_cd 83 17 = some (.astore 4, 2, 4, 0, 0, []) ∧ am_cd 83 19 = some (.iload_n 2, 1, 2, 0, 0, []) ∧ am_cd 83 20 = some (.iconst (-1), 1, 0, 0, (-1), []) ∧ am_cd 83 21 = some (.if_icmp .ne 9, 3, 30, 0, 0, []) ∧ am_cd 83 24 = some (.aload 4, 2, 4, 0, 0, []) ∧ am_cd 83 26 = some (.invokevirtual 97, 3, 19, 1, 0, [0, 287]) ∧ am_cd 83 29 = some (.ireturn, 1, 0, 0, 0, []) ∧ am_cd 83 30 = some (.iload_n 2, 1, 2, 0, 0, []) ∧ am_cd 83 31 = some (.ifCond .lt 12, 3, 43, 0, 0, []) ∧ am_cd 83 34 = some (.iload_n 2, 1, 2, 0, 0, []) ∧ am_cd 83 35 = some (.aload 4, 2, 4, 0, 0, []) ∧ am_cd 83 37 = some (.invokevirtual 97, 3, 19, 1, 0, [0, 287]) ∧ am_cd 83 40 = some (.if_icmp .lt 6, 3, 46, 0, 0, []) ∧ am_cd 83 43 = some (.bipush (-2), 2, 0, 0, (-2), []) ∧ am_cd 83 45 = some (.ireturn, 1, 0, 0, 0, []) ∧ am_cd 83 46 = some (.aload 4, 2, 4, 0, 0, []) ∧ am_cd 83 48 = some (.iload_n 2, 1, 2, 0, 0, []) ∧ am_cd 83 49 = some (.invokevirtual 176, 3, 76, 2, 0, [0, 535]) ∧ am_cd 83 52 = some (.iload_n 3, 1, 3, 0, 0, []) ∧ am_cd 83 53 = some (.invokevirtual 180, 3, 84, 2, 0, [0, 569]) ∧ am_cd 83 56 = some (.ireturn, 1, 0, 0, 0, []) := ⟨rfl, rfl, rfl, rfl, rfl, rfl, rfl, rfl, rfl, rfl, rfl, rfl, rfl, rfl, rfl, rfl, rfl, rfl, rfl, rfl, rfl, rfl, rfl, rfl, rfl, rfl, rfl, rfl, rfl, rfl, rfl⟩
theorem en_84 (v0 v1 : Value) : am_en 84 [v0, v1] = [some v0, some v1] := by
  have h : am_mx 84 = 2 := by decide +kernel
  unfold am_en
  rw [h]
  rfl
theorem rt_84 : am_ret 84 = 1 := by decide +kernel
theorem kl_84 : am_kl 84 = 3 := by decide +kernel
set_option maxRecDepth 100000 in
theorem cx_84 : am_cd 84 0 = some (.iload_n 1, 1, 1, 0, 0, []) ∧ am_cd 84 1 = some (.tableswitch 63 0 4 #[35, 43, 48, 53, 58], 35, 64, 0, 0, [36, 44, 49, 54, 59]) ∧ am_cd 84 36 = some (.aload_n 0, 1, 0, 0, 0, []) ∧ am_cd 84 37 = some (.getfield 14, 3, 3, 0, 0, [0, 144]) ∧ am_cd 84 40 = some (.invokevirtual 51, 3, 12, 1, 0, [0, 551]) ∧ am_cd 84 43 = some (.ireturn, 1, 0, 0, 0, []) ∧ am_cd 84 44 = some (.aload_n 0, 1, 0, 0, 0, []) ∧ am_cd 84 45 = some (.getfield 23, 3, 3, 1, 0, [0, 147]) ∧ am_cd 84 48 = some (.ireturn, 1, 0, 0, 0, []) ∧ am_cd 84 49 = some (.aload_n 0, 1, 0, 0, 0, []) ∧ am_cd 84 50 = some (.invokevirtual 44, 3, 78, 1, 0, [0, 543]) ∧ am_cd 84 53 = some (.ireturn, 1, 0, 0, 0, []) ∧ am_cd 84 54 = some (.aload_n 0, 1, 0, 0, 0, []) ∧ am_cd 84 55 = some (.invokevirtual 48, 3, 79, 1, 0, [0, 547]) ∧ am_cd 84 58 = some (.ireturn, 1, 0, 0, 0, []) ∧ am_cd 84 59 = some (.aload_n 0, 1, 0, 0, 0, []) ∧ am_cd 84 60 = some (.invokevirtual 54, 3, 85, 1, 0, [0, 573]) ∧ am_cd 84 63 = some (.ireturn, 1, 0, 0, 0, []) ∧ am_cd 84 64 = some (.bipush (-2), 2, 0, 0, (-2), []) ∧ am_cd 84 66 = some (.ireturn, 1, 0, 0, 0, []) := ⟨rfl, rfl, rfl, rfl, rfl, rfl, rfl, rfl, rfl, rfl, rfl, rfl, rfl, rfl, rfl, rfl, rfl, rfl, rfl, rfl⟩
theorem en_85 (v0 : Value) : am_en 85 [v0] = [some v0, none, none] := by
  have h : am_mx 85 = 3 := by decide +kernel
  unfold am_en
  rw [h]
  rfl
theorem rt_85 : am_ret 85 = 1 := by decide +kernel
theorem kl_85 : am_kl 85 = 3 := by decide +kernel
set_option maxRecDepth 100000 in
theorem cx_85 : am_cd 85 0 = some (.iconst 0, 1, 0, 0, 0, []) ∧ am_cd 85 1 = some (.istore_n 1, 1, 1, 0, 0, []) ∧ am_cd 85 2 = some (.iconst 0, 1, 0, 0, 0, []) ∧ am_cd 85 3 = some (.istore_n 2, 1, 2, 0, 0, []) ∧ am_cd 85 5 = some (.aload_n 0, 1, 0, 0, 0, []) ∧ am_cd 85 6 = some (.getfield 14, 3, 3, 0, 0, [0, 144]) ∧ am_cd 85 9 = some (.invokevirtual 51, 3, 12, 1, 0, [0, 551]) ∧ am_cd 85 12 = some (.if_icmp .ge 25, 3, 37, 0, 0, []) ∧ am_cd 85 15 = some (.iload_n 1, 1, 1, 0, 0, []) ∧ am_cd 85 16 = some (.aload_n 0, 1, 0, 0, 0, []) ∧ am_cd 85 17 = some (.getfield 14, 3, 3, 0, 0, [0, 144]) ∧ am_cd 85 20 = some (.iload_n 2, 1, 2, 0, 0, []) ∧ am_cd 85 21 = some (.invokevirtual 27, 3, 24, 2, 0, [0, 353]) ∧ am_cd 85 24 = some (.getfield 57, 3, 1, 4, 0, [0, 85]) ∧ am_cd 85 27 = some (.invokestatic 60, 3, 0, 90, 0, [577, 487, 59, 488]) ∧ am_cd 85 30 = some (.istore_n 1, 1, 1, 0, 0, []) ∧ am_cd 85 31 = some (.iinc 2 1, 3, 2, 0, 1, []) ∧ am_cd 85 34 = some (.goto (-30), 3, 4, 0, 0, []) ∧ am_cd 85 37 = some (.iload_n 1, 1, 1, 0, 0, []) ∧ am_cd 85 38 = some (.ireturn, 1, 0, 0, 0, []) := ⟨rfl, rfl, rfl, rfl, rfl, rfl, rfl, rfl, rfl, rfl, rfl, rfl, rfl, rfl, rfl, rfl, rfl, rfl, rfl, rfl⟩
theorem cxh_85_4 : am_cd 85 4 = some (.iload_n 2, 1, 2, 0, 0, []) := rfl
theorem en_86 (v0 v1 v2 : Value) : am_en 86 [v0, v1, v2] = [some v0, some v1, some v2] := by
  have h : am_mx 86 = 3 := by decide +kernel
  unfold am_en
  rw [h]
  rfl
theorem rt_86 : am_ret 86 = 1 := by decide +kernel
theorem kl_86 : am_kl 86 = 0 := by decide +kernel
set_option maxRecDepth 100000 in
theorem cx_86 : am_cd 86 0 = some (.iload_n 1, 1, 1, 0, 0, []) ∧ am_cd 86 1 = some (.iconst (-1), 1, 0, 0, (-1), []) ∧ am_cd 86 2 = some (.if_icmp .ne 11, 3, 13, 0, 0, []) ∧ am_cd 86 5 = some (.aload_n 0, 1, 0, 0, 0, []) ∧ am_cd 86 6 = some (.getfield 58, 3, 0, 8, 0, [0, 213]) ∧ am_cd 86 9 = some (.invokevirtual 107, 3, 47, 1, 0, [0, 408]) ∧ am_cd 86 12 = some (.ireturn, 1, 0, 0, 0, []) ∧ am_cd 86 13 = some (.iload_n 1, 1, 1, 0, 0, []) ∧ am_cd 86 14 = some (.ifCond .lt 14, 3, 28, 0, 0, []) ∧ am_cd 86 17 = some (.iload_n 1, 1, 1, 0, 0, []) ∧ am_cd 86 18 = some (.aload_n 0, 1, 0, 0, 0, []) ∧ am_cd 86 19 = some (.getfield 58, 3, 0, 8, 0, [0, 213]) ∧ am_cd 86 22 = some (.invokevirtual 107, 3, 47, 1, 0, [0, 408]) ∧ am_cd 86 25 = some (.if_icmp .lt 6, 3, 31, 0, 0, []) ∧ am_cd 86 28 = some (.bipush (-2), 2, 0, 0, (-2), []) ∧ am_cd 86 30 = some (.ireturn, 1, 0, 0, 0, []) ∧ am_cd 86 31 = some (.iload_n 2, 1, 2, 0, 0, []) ∧ am_cd 86 32 = some (.tableswitch 59 0 2 #[28, 37, 46], 28, 91, 0, 0, [60, 69, 78]) ∧ am_cd 86 60 = some (.aload_n 0, 1, 0, 0, 0, []) ∧ am_cd 86 61 = some (.getfield 58, 3, 0, 8, 0, [0, 213]) ∧ am_cd 86 64 = some (.iload_n 1, 1, 1, 0, 0, []) ∧ am_cd 86 65 = some (.invokevirtual 185, 3, 41, 2, 0, [0, 416]) ∧ am_cd 86 68 = some (.ireturn, 1, 0, 0, 0, []) ∧ am_cd 86 69 = some (.aload_n 0, 1, 0, 0, 0, []) ∧ am_cd 86 70 = some (.getfield 58, 3, 0, 8, 0, [0, 213]) ∧ am_cd 86 73 = some (.iload_n 1, 1, 1, 0, 0, []) ∧ am_cd 86 74 = some (.invokevirtual 188, 3, 87, 2, 0, [0, 582]) ∧ am_cd 86 77 = some (.ireturn, 1, 0, 0, 0, []) ∧ am_cd 86 78 = some (.aload_n 0, 1, 0, 0, 0, []) ∧ am_cd 86 79 = some (.aload_n 0, 1, 0, 0, 0, []) ∧ am_cd 86 80 = some (.getfield 58, 3, 0, 8, 0, [0, 213]) ∧ am_cd 86 83 = some (.iload_n 1, 1, 1, 0, 0, []) ∧ am_cd 86 84 = some (.invokevirtual 185, 3, 41, 2, 0, [0, 416]) ∧ am_cd 86 87 = some (.invokevirtual 191, 3, 88, 2, 0, [0, 586]) ∧ am_cd 86 90 = some (.ireturn, 1, 0, 0, 0, []) ∧ am_cd 86 91 = some (.bipush (-2), 2, 0, 0, (-2), []) ∧ am_cd 86 93 = some (.ireturn, 1, 0, 0, 0, []) := ⟨rfl, rfl, rfl, rfl, rfl, rfl, rfl, rfl, rfl, rfl, rfl, rfl, rfl, rfl, rfl, rfl, rfl, rfl, rfl, rfl, rfl, rfl, rfl, rfl, rfl, rfl, rfl, rfl, rfl, rfl, rfl, rfl, rfl, rfl, rfl, rfl, rfl⟩
theorem en_87 (v0 v1 : Value) : am_en 87 [v0, v1] = [some v0, some v1] := by
  have h : am_mx 87 = 2 := by decide +kernel
  unfold am_en
  rw [h]
  rfl
theorem rt_87 : am_ret 87 = 1 := by decide +kernel
theorem kl_87 : am_kl 87 = 5 := by decide +kernel
set_option maxRecDepth 100000 in
theorem cx_87 : am_cd 87 0 = some (.iload_n 1, 1, 1, 0, 0, []) ∧ am_cd 87 1 = some (.ifCond .lt 20, 3, 21, 0, 0, []) ∧ am_cd 87 4 = some (.iload_n 1, 1, 1, 0, 0, []) ∧ am_cd 87 5 = some (.aload_n 0, 1, 0, 0, 0, []) ∧ am_cd 87 6 = some (.getfield 15, 3, 5, 2, 0, [0, 171]) ∧ am_cd 87 9 = some (.if_icmp .ge 12, 3, 21, 0, 0, []) ∧ am_cd 87 12 = some (.aload_n 0, 1, 0, 0, 0, []) ∧ am_cd 87 13 = some (.getfield 9, 3, 5, 0, 0, [0, 169]) ∧ am_cd 87 16 = some (.iload_n 1, 1, 1, 0, 0, []) ∧ am_cd 87 17 = some (.iaload, 1, 0, 0, 0, []) ∧ am_cd 87 18 = some (.goto 4, 3, 22, 0, 0, []) ∧ am_cd 87 21 = some (.iconst 0, 1, 0, 0, 0, []) ∧ am_cd 87 22 = some (.ireturn, 1, 0, 0, 0, []) := ⟨rfl, rfl, rfl, rfl, rfl, rfl, rfl, rfl, rfl, rfl, rfl, rfl, rfl⟩
theorem en_88 (v0 v1 : Value) : am_en 88 [v0, v1] = [some v0, some v1, none, none] := by
  have h : am_mx 88 = 4 := by decide +kernel
  unfold am_en
  rw [h]
  rfl
theorem rt_88 : am_ret 88 = 1 := by decide +kernel
theorem kl_88 : am_kl 88 = 0 := by decide +kernel
set_option maxRecDepth 100000 in
theorem cx_88 : am_cd 88 0 = some (.aload_n 0, 1, 0, 0, 0, []) ∧ am_cd 88 1 = some (.getfield 27, 3, 0, 2, 0, [0, 207]) ∧ am_cd 88 4 = some (.iload_n 1, 1, 1, 0, 0, []) ∧ am_cd 88 5 = some (.invokevirtual 248, 3, 89, 2, 0, [0, 590]) ∧ am_cd 88 8 = some (.istore_n 2, 1, 2, 0, 0, []) ∧ am_cd 88 9 = some (.iconst 0, 1, 0, 0, 0, []) ∧ am_cd 88 10 = some (.istore_n 3, 1, 3, 0, 0, []) ∧ am_cd 88 12 = some (.iconst 3, 1, 0, 0, 3, []) ∧ am_cd 88 13 = some (.if_icmp .ge 21, 3, 34, 0, 0, []) ∧ am_cd 88 16 = some (.iload_n 2, 1, 2, 0, 0, []) ∧ am_cd 88 17 = some (.aload_n 0, 1, 0, 0, 0, []) ∧ am_cd 88 18 = some (.iload_n 3, 1, 3, 0, 0, []) ∧ am_cd 88 19 = some (.invokevirtual 93, 3, 45, 2, 0, [0, 400]) ∧ am_cd 88 22 = some (.iload_n 1, 1, 1, 0, 0, []) ∧ am_cd 88 23 = some (.invokevirtual 249, 3, 90, 2, 0, [0, 594]) ∧ am_cd 88 26 = some (.iadd, 1, 0, 0, 0, []) ∧ am_cd 88 27 = some (.istore_n 2, 1, 2, 0, 0, []) ∧ am_cd 88 28 = some (.iinc 3 1, 3, 3, 0, 1, []) ∧ am_cd 88 31 = some (.goto (-20), 3, 11, 0, 0, []) ∧ am_cd 88 34 = some (.iload_n 2, 1, 2, 0, 0, []) ∧ am_cd 88 35 = some (.ireturn, 1, 0, 0, 0, []) := ⟨rfl, rfl, rfl, rfl, rfl, rfl, rfl, rfl, rfl, rfl, rfl, rfl, rfl, rfl, rfl, rfl, rfl, rfl, rfl, rfl, rfl⟩
theorem cxh_88_11 : am_cd 88 11 = some (.iload_n 3, 1, 3, 0, 0, []) := rfl
theorem en_89 (v0 v1 : Value) : am_en 89 [v0, v1] = [some v0, some v1, none, none] := by
  have h : am_mx 89 = 4 := by decide +kernel
  unfold am_en
  rw [h]
  rfl
theorem rt_89 : am_ret 89 = 1 := by decide +kernel
theorem kl_89 : am_kl 89 = 2 := by decide +kernel
set_option maxRecDepth 100000 in
theorem cx_89 : am_cd 89 0 = some (.iconst 0, 1, 0, 0, 0, []) ∧ am_cd 89 1 = some (.istore_n 2, 1, 2, 0, 0, []) ∧ am_cd 89 2 = some (.iconst 0, 1, 0, 0, 0, []) ∧ am_cd 89 3 = some (.istore_n 3, 1, 3, 0, 0, []) ∧ am_cd 89 5 = some (.aload_n 0, 1, 0, 0, 0, []) ∧ am_cd 89 6 = some (.getfield 19, 3, 2, 2, 0, [0, 121]) ∧ am_cd 89 9 = some (.if_icmp .ge 25, 3, 34, 0, 0, []) ∧ am_cd 89 12 = some (.aload_n 0, 1, 0, 0, 0, []) ∧ am_cd 89 13 = some (.getfield 15, 3, 2, 1, 0, [0, 120]) ∧ am_cd 89 16 = some (.iload_n 3, 1, 3, 0, 0, []) ∧ am_cd 89 17 = some (.aaload, 1, 0, 0, 0, []) ∧ am_cd 89 18 = some (.iload_n 1, 1, 1, 0, 0, []) ∧ am_cd 89 19 = some (.invokevirtual 46, 3, 51, 2, 0, [0, 425]) ∧ am_cd 89 22 = some (.ifCond .eq 6, 3, 28, 0, 0, []) ∧ am_cd 89 25 = some (.iinc 2 1, 3, 2, 0, 1, []) ∧ am_cd 89 28 = some (.iinc 3 1, 3, 3, 0, 1, []) ∧ am_cd 89 31 = some (.goto (-27), 3, 4, 0, 0, []) ∧ am_cd 89 34 = some (.iload_n 2, 1, 2, 0, 0, []) ∧ am_cd 89 35 = some (.ireturn, 1, 0, 0, 0, []) := ⟨rfl, rfl, rfl, rfl, rfl, rfl, rfl, rfl, rfl, rfl, rfl, rfl, rfl, rfl, rfl, rfl, rfl, rfl, rfl⟩
theorem cxh_89_4 : am_cd 89 4 = some (.iload_n 3, 1, 3, 0, 0, []) := rfl
theorem en_90 (v0 v1 : Value) : am_en 90 [v0, v1] = [some v0, some v1, none, none] := by
  have h : am_mx 90 = 4 := by decide +kernel
  unfold am_en
  rw [h]
  rfl
theorem rt_90 : am_ret 90 = 1 := by decide +kernel
theorem kl_90 : am_kl 90 = 4 := by decide +kernel
set_option maxRecDepth 100000 in
theorem cx_90 : am_cd 90 0 = some (.iconst 0, 1, 0, 0, 0, []) ∧ am_cd 90 1 = some (.istore_n 2, 1, 2, 0, 0, []) ∧ am_cd 90 2 = some (.iconst 0, 1, 0, 0, 0, []) ∧ am_cd 90 3 = some (.istore_n 3, 1, 3, 0, 0, []) ∧ am_cd 90 5 = some (.aload_n 0, 1, 0, 0, 0, []) ∧ am_cd 90 6 = some (.getfield 20, 3, 4, 1, 0, [0, 154]) ∧ am_cd 90 9 = some (.if_icmp .ge 25, 3, 34, 0, 0, []) ∧ am_cd 90 12 = some (.iload_n 2, 1, 2, 0, 0, []) ∧ am_cd 90 13 = some (.aload_n 0, 1, 0, 0, 0, []) ∧ am_cd 90 14 = some (.getfield 11, 3, 4, 0, 0, [0, 153]) ∧ am_cd 90 17 = some (.iload_n 3, 1, 3, 0, 0, []) ∧ am_cd 90 18 = some (.aaload, 1, 0, 0, 0, []) ∧ am_cd 90 19 = some (.getfield 44, 3, 3, 0, 0, [0, 145]) ∧ am_cd 90 22 = some (.iload_n 1, 1, 1, 0, 0, []) ∧ am_cd 90 23 = some (.invokevirtual 56, 3, 89, 2, 0, [0, 598]) ∧ am_cd 90 26 = some (.iadd, 1, 0, 0, 0, []) ∧ am_cd 90 27 = some (.istore_n 2, 1, 2, 0, 0, []) ∧ am_cd 90 28 = some (.iinc 3 1, 3, 3, 0, 1, []) ∧ am_cd 90 31 = some (.goto (-27), 3, 4, 0, 0, []) ∧ am_cd 90 34 = some (.iload_n 2, 1, 2, 0, 0, []) ∧ am_cd 90 35 = some (.ireturn, 1, 0, 0, 0, []) := ⟨rfl, rfl, rfl, rfl, rfl, rfl, rfl, rfl, rfl, rfl, rfl, rfl, rfl, rfl, rfl, rfl, rfl, rfl, rfl, rfl, rfl⟩
theorem cxh_90_4 : am_cd 90 4 = some (.iload_n 3, 1, 3, 0, 0, []) := rfl
theorem en_91 (v0 v1 : Value) : am_en 91 [v0, v1] = [some v0, some v1] := by
  have h : am_mx 91 = 2 := by decide +kernel
  unfold am_en
  rw [h]
  rfl
theorem rt_91 : am_ret 91 = 1 := by decide +kernel
theorem kl_91 : am_kl 91 = 0 := by decide +kernel
set_option maxRecDepth 100000 in
theorem cx_91 : am_cd 91 0 = some (.iload_n 1, 1, 1, 0, 0, []) ∧ am_cd 91 1 = some (.tableswitch 72 0 4 #[35, 43, 48, 56, 64], 35, 73, 0, 0, [36, 44, 49, 57, 65]) ∧ am_cd 91 36 = some (.aload_n 0, 1, 0, 0, 0, []) ∧ am_cd 91 37 = some (.getfield 27, 3, 0, 2, 0, [0, 207]) ∧ am_cd 91 40 = some (.invokevirtual 77, 3, 12, 1, 0, [0, 259]) ∧ am_cd 91 43 = some (.ireturn, 1, 0, 0, 0, []) ∧ am_cd 91 44 = some (.aload_n 0, 1, 0, 0, 0, []) ∧ am_cd 91 45 = some (.getfield 122, 3, 0, 11, 0, [0, 216]) ∧ am_cd 91 48 = some (.ireturn, 1, 0, 0, 0, []) ∧ am_cd 91 49 = some (.aload_n 0, 1, 0, 0, 0, []) ∧ am_cd 91 50 = some (.getfield 58, 3, 0, 8, 0, [0, 213]) ∧ am_cd 91 53 = some (.invokevirtual 141, 3, 64, 1, 0, [0, 482]) ∧ am_cd 91 56 = some (.ireturn, 1, 0, 0, 0, []) ∧ am_cd 91 57 = some (.aload_n 0, 1, 0, 0, 0, []) ∧ am_cd 91 58 = some (.getfield 23, 3, 0, 1, 0, [0, 206]) ∧ am_cd 91 61 = some (.invokevirtual 77, 3, 12, 1, 0, [0, 259]) ∧ am_cd 91 64 = some (.ireturn, 1, 0, 0, 0, []) ∧ am_cd 91 65 = some (.aload_n 0, 1, 0, 0, 0, []) ∧ am_cd 91 66 = some (.getfield 65, 3, 0, 9, 0, [0, 214]) ∧ am_cd 91 69 = some (.invokevirtual 194, 3, 92, 1, 0, [0, 603]) ∧ am_cd 91 72 = some (.ireturn, 1, 0, 0, 0, []) ∧ am_cd 91 73 = some (.bipush (-2), 2, 0, 0, (-2), []) ∧ am_cd 91 75 = some (.ireturn, 1, 0, 0, 0, []) := ⟨rfl, rfl, rfl, rfl, rfl, rfl, rfl, rfl, rfl, rfl, rfl, rfl, rfl, rfl, rfl, rfl, rfl, rfl, rfl, rfl, rfl, rfl, rfl⟩
theorem en_92 (v0 : Value) : am_en 92 [v0] = [some v0, none, none] := by
  have h : am_mx 92 = 3 := by decide +kernel
  unfold am_en
  rw [h]
  rfl
theorem rt_92 : am_ret 92 = 1 := by decide +kernel
theorem kl_92 : am_kl 92 = 6 := by decide +kernel
set_option maxRecDepth 100000 in
theorem cx_92 : am_cd 92 0 = some (.iconst 0, 1, 0, 0, 0, []) ∧ am_cd 92 1 = some (.istore_n 1, 1, 1, 0, 0, []) ∧ am_cd 92 2 = some (.iconst 0, 1, 0, 0, 0, []) ∧ am_cd 92 3 = some (.istore_n 2, 1, 2, 0, 0, []) ∧ am_cd 92 5 = some (.iconst 3, 1, 0, 0, 3, []) ∧ am_cd 92 6 = some (.if_icmp .ge 22, 3, 28, 0, 0, []) ∧ am_cd 92 9 = some (.aload_n 0, 1, 0, 0, 0, []) ∧ am_cd 92 10 = some (.getfield 9, 3, 6, 0, 0, [0, 201]) ∧ am_cd 92 13 = some (.iload_n 2, 1, 2, 0, 0, []) ∧ am_cd 92 14 = some (.iaload, 1, 0, 0, 0, []) ∧ am_cd 92 15 = some (.iconst (-1), 1, 0, 0, (-1), []) ∧ am_cd 92 16 = some (.if_icmp .eq 6, 3, 22, 0, 0, []) ∧ am_cd 92 19 = some (.iinc 1 1, 3, 1, 0, 1, []) ∧ am_cd 92 22 = some (.iinc 2 1, 3, 2, 0, 1, []) ∧ am_cd 92 25 = some (.goto (-21), 3, 4, 0, 0, []) ∧ am_cd 92 28 = some (.iload_n 1, 1, 1, 0, 0, []) ∧ am_cd 92 29 = some (.ireturn, 1, 0, 0, 0, []) := ⟨rfl, rfl, rfl, rfl, rfl, rfl, rfl, rfl, rfl, rfl, rfl, rfl, rfl, rfl, rfl, rfl, rfl⟩
theorem cxh_92_4 : am_cd 92 4 = some (.iload_n 2, 1, 2, 0, 0, []) := rfl
theorem en_93 (v0 : Value) : am_en 93 [v0] = [some v0] := by
  have h : am_mx 93 = 1 := by decide +kernel
  unfold am_en
  rw [h]
  rfl
theorem rt_93 : am_ret 93 = 0 := by decide +kernel
theorem kl_93 : am_kl 93 = 7 := by decide +kernel
set_option maxRecDepth 100000 in
theorem cx_93 : am_cd 93 0 = some (.aload_n 0, 1, 0, 0, 0, []) ∧ am_cd 93 1 = some (.invokespecial 1, 3, 0, 99, 0, [612, 67, 68]) ∧ am_cd 93 4 = some (.aload_n 0, 1, 0, 0, 0, []) ∧ am_cd 93 5 = some (.sipush 520, 3, 0, 0, 520, []) ∧ am_cd 93 8 = some (.newarray .int, 2, 0, 0, 0, [191]) ∧ am_cd 93 10 = some (.putfield 7, 3, 7, 2, 0, [0, 615]) ∧ am_cd 93 13 = some (.aload_n 0, 1, 0, 0, 0, []) ∧ am_cd 93 14 = some (.sipush 520, 3, 0, 0, 520, []) ∧ am_cd 93 17 = some (.newarray .int, 2, 0, 0, 0, [191]) ∧ am_cd 93 19 = some (.putfield 13, 3, 7, 3, 0, [0, 616]) ∧ am_cd 93 22 = some (.aload_n 0, 1, 0, 0, 0, []) ∧ am_cd 93 23 = some (.sipush 520, 3, 0, 0, 520, []) ∧ am_cd 93 26 = some (.newarray .int, 2, 0, 0, 0, [191]) ∧ am_cd 93 28 = some (.putfield 16, 3, 7, 4, 0, [0, 617]) ∧ am_cd 93 31 = some (.aload_n 0, 1, 0, 0, 0, []) ∧ am_cd 93 32 = some (.sipush 520, 3, 0, 0, 520, []) ∧ am_cd 93 35 = some (.newarray .boolean, 2, 1, 0, 0, [704]) ∧ am_cd 93 37 = some (.putfield 19, 3, 7, 5, 0, [0, 618]) ∧ am_cd 93 40 = some (.aload_n 0, 1, 0, 0, 0, []) ∧ am_cd 93 41 = some (.sipush 520, 3, 0, 0, 520, []) ∧ am_cd 93 44 = some (.newarray .int, 2, 0, 0, 0, [191]) ∧ am_cd 93 46 = some (.putfield 23, 3, 7, 6, 0, [0, 619]) ∧ am_cd 93 49 = some (.aload_n 0, 1, 0, 0, 0, []) ∧ am_cd 93 50 = some (.sipush 520, 3, 0, 0, 520, []) ∧ am_cd 93 53 = some (.newarray .int, 2, 0, 0, 0, [191]) ∧ am_cd 93 55 = some (.putfield 26, 3, 7, 7, 0, [0, 620]) ∧ am_cd 93 58 = some (.aload_n 0, 1, 0, 0, 0, []) ∧ am_cd 93 59 = some (.sipush 520, 3, 0, 0, 520, []) ∧ am_cd 93 62 = some (.newarray .int, 2, 0, 0, 0, [191]) ∧ am_cd 93 64 = some (.putfield 29, 3, 7, 8, 0, [0, 621]) ∧ am_cd 93 67 = some (.aload_n 0, 1, 0, 0, 0, []) ∧ am_cd 93 68 = some (.sipush 520, 3, 0, 0, 520, []) ∧ am_cd 93 71 = some (.newarray .int, 2, 0, 0, 0, [191]) ∧ am_cd 93 73 = some (.putfield 32, 3, 7, 9, 0, [0, 622]) ∧ am_cd 93 76 = some (.aload_n 0, 1, 0, 0, 0, []) ∧ am_cd 93 77 = some (.sipush 520, 3, 0, 0, 520, []) ∧ am_cd 93 80 = some (.newarray .int, 2, 0, 0, 0, [191]) ∧ am_cd 93 82 = some (.putfield 35, 3, 7, 10, 0, [0, 623]) ∧ am_cd 93 85 = some (.aload_n 0, 1, 0, 0, 0, []) ∧ am_cd 93 86 = some (.sipush 520, 3, 0, 0, 520, []) ∧ am_cd 93 89 = some (.newarray .boolean, 2, 1, 0, 0, [704]) ∧ am_cd 93 91 = some (.putfield 38, 3, 7, 11, 0, [0, 624]) ∧ am_cd 93 94 = some (.aload_n 0, 1, 0, 0, 0, []) ∧ am_cd 93 95 = some (.sipush 520, 3, 0, 0, 520, []) ∧ am_cd 93 98 = some (.newarray .boolean, 2, 1, 0, 0, [704]) ∧ am_cd 93 100 = some (.putfield 41, 3, 7, 12, 0, [0, 625]) ∧ am_cd 93 103 = some (.aload_n 0, 1, 0, 0, 0, []) ∧ am_cd 93 104 = some (.bipush 6, 2, 0, 0, 6, []) ∧ am_cd 93 106 = some (.newarray .int, 2, 0, 0, 0, [191]) ∧ am_cd 93 108 = some (.putfield 44, 3, 7, 17, 0, [0, 630]) ∧ am_cd 93 111 = some (.aload_n 0, 1, 0, 0, 0, []) ∧ am_cd 93 112 = some (.bipush 6, 2, 0, 0, 6, []) ∧ am_cd 93 114 = some (.newarray .int, 2, 0, 0, 0, [191]) ∧ am_cd 93 116 = some (.putfield 47, 3, 7, 18, 0, [0, 631]) ∧ am_cd 93 119 = some (.aload_n 0, 1, 0, 0, 0, []) ∧ am_cd 93 120 = some (.bipush 6, 2, 0, 0, 6, []) ∧ am_cd 93 122 = some (.newarray .int, 2, 0, 0, 0, [191]) ∧ am_cd 93 124 = some (.putfield 50, 3, 7, 19, 0, [0, 632]) ∧ am_cd 93 127 = some (.aload_n 0, 1, 0, 0, 0, []) ∧ am_cd 93 128 = some (.iconst 3, 1, 0, 0, 3, []) ∧ am_cd 93 129 = some (.newarray .boolean, 2, 1, 0, 0, [704]) ∧ am_cd 93 131 = some (.putfield 53, 3, 7, 20, 0, [0, 633]) ∧ am_cd 93 134 = some (.aload_n 0, 1, 0, 0, 0, []) ∧ am_cd 93 135 = some (.iconst 3, 1, 0, 0, 3, []) ∧ am_cd 93 136 = some (.newarray .int, 2, 0, 0, 0, [191]) ∧ am_cd 93 138 = some (.putfield 56, 3, 7, 21, 0, [0, 634]) ∧ am_cd 93 141 = some (.aload_n 0, 1, 0, 0, 0, []) ∧ am_cd 93 142 = some (.bipush 8, 2, 0, 0, 8, []) ∧ am_cd 93 144 = some (.newarray .int, 2, 0, 0, 0, [191]) ∧ am_cd 93 146 = some (.putfield 59, 3, 7, 24, 0, [0, 637]) ∧ am_cd 93 149 = some (.aload_n 0, 1, 0, 0, 0, []) ∧ am_cd 93 150 = some (.bipush 16, 2, 0, 0, 16, []) ∧ am_cd 93 152 = some (.newarray .int, 2, 0, 0, 0, [191]) ∧ am_cd 93 154 = some (.putfield 62, 3, 7, 26, 0, [0, 639]) ∧ am_cd 93 157 = some (.aload_n 0, 1, 0, 0, 0, []) ∧ am_cd 93 158 = some (.bipush 16, 2, 0, 0, 16, []) ∧ am_cd 93 160 = some (.newarray .int, 2, 0, 0, 0, [191]) ∧ am_cd 93 162 = some (.putfield 65, 3, 7, 27, 0, [0, 640]) ∧ am_cd 93 165 = some (.aload_n 0, 1, 0, 0, 0, []) ∧ am_cd 93 166 = some (.bipush 16, 2, 0, 0, 16, []) ∧ am_cd 93 168 = some (.newarray .boolean, 2, 1, 0, 0, [704]) ∧ am_cd 93 170 = some (.putfield 68, 3, 7, 28, 0, [0, 641]) ∧ am_cd 93 173 = some (.return_, 1, 0, 0, 0, []) := ⟨rfl, rfl, rfl, rfl, rfl, rfl, rfl, rfl, rfl, rfl, rfl, rfl, rfl, rfl, rfl, rfl, rfl, rfl, rfl, rfl, rfl, rfl, rfl, rfl, rfl, rfl, rfl, rfl, rfl, rfl, rfl, rfl, rfl, rfl, rfl, rfl, rfl, rfl, rfl, rfl, rfl, rfl, rfl, rfl, rfl, rfl, rfl, rfl, rfl, rfl, rfl, rfl, rfl, rfl, rfl, rfl, rfl, rfl, rfl, rfl, rfl, rfl, rfl, rfl, rfl, rfl, rfl, rfl, rfl, rfl, rfl, rfl, rfl, rfl, rfl, rfl, rfl, rfl, rfl, rfl, rfl, rfl, rfl⟩
theorem en_94 (v0 v1 v2 v3 : Value) : am_en 94 [v0, v1, v2, v3] = [some v0, some v1, some v2, some v3] := by
  have h : am_mx 94 = 4 := by decide +kernel
  unfold am_en
  rw [h]
  rfl
theorem rt_94 : am_ret 94 = 1 := by decide +kernel
theorem kl_94 : am_kl 94 = 7 := by decide +kernel
set_option maxRecDepth 100000 in
theorem cx_94 : am_cd 94 0 = some (.iload_n 1, 1, 1, 0, 0, []) ∧ am_cd 94 1 = some (.invokestatic 137, 3, 95, 1, 0, [0, 709]) ∧ am_cd 94 4 = some (.ifCond .eq 14, 3, 18, 0, 0, []) ∧ am_cd 94 7 = some (.iload_n 3, 1, 3, 0, 0, []) ∧ am_cd 94 8 = some (.ifCond .lt 10, 3, 18, 0, 0, []) ∧ am_cd 94 11 = some (.iload_n 3, 1, 3, 0, 0, []) ∧ am_cd 94 12 = some (.sipush 1000, 3, 0, 0, 1000, []) ∧ am_cd 94 15 = some (.if_icmp .le 7, 3, 22, 0, 0, []) ∧ am_cd 94 18 = some (.iconst (-1), 1, 0, 0, (-1), []) ∧ am_cd 94 19 = some (.goto 10, 3, 29, 0, 0, []) ∧ am_cd 94 22 = some (.aload_n 0, 1, 0, 0, 0, []) ∧ am_cd 94 23 = some (.iload_n 1, 1, 1, 0, 0, []) ∧ am_cd 94 24 = some (.iload_n 2, 1, 2, 0, 0, []) ∧ am_cd 94 25 = some (.iload_n 3, 1, 3, 0, 0, []) ∧ am_cd 94 26 = some (.invokevirtual 140, 3, 96, 4, 0, [0, 712]) ∧ am_cd 94 29 = some (.ireturn, 1, 0, 0, 0, []) := ⟨rfl, rfl, rfl, rfl, rfl, rfl, rfl, rfl, rfl, rfl, rfl, rfl, rfl, rfl, rfl, rfl⟩
theorem en_95 (v0 : Value) : am_en 95 [v0] = [some v0] := by
  have h : am_mx 95 = 1 := by decide +kernel
  unfold am_en
  rw [h]
  rfl
theorem rt_95 : am_ret 95 = 2 := by decide +kernel
theorem kl_95 : am_kl 95 = 7 := by decide +kernel
set_option maxRecDepth 100000 in
theorem cx_95 : am_cd 95 0 = some (.iload_n 0, 1, 0, 0, 0, []) ∧ am_cd 95 1 = some (.ifCond .lt 13, 3, 14, 0, 0, []) ∧ am_cd 95 4 = some (.iload_n 0, 1, 0, 0, 0, []) ∧ am_cd 95 5 = some (.bipush 32, 2, 0, 0, 32, []) ∧ am_cd 95 7 = some (.if_icmp .ge 7, 3, 14, 0, 0, []) ∧ am_cd 95 10 = some (.iconst 1, 1, 0, 0, 1, []) ∧ am_cd 95 11 = some (.goto 4, 3, 15, 0, 0, []) ∧ am_cd 95 14 = some (.iconst 0, 1, 0, 0, 0, []) ∧ am_cd 95 15 = some (.ireturn, 1, 0, 0, 0, []) := ⟨rfl, rfl, rfl, rfl, rfl, rfl, rfl, rfl, rfl⟩
theorem en_96 (v0 v1 v2 v3 : Value) : am_en 96 [v0, v1, v2, v3] = [some v0, some v1, some v2, some v3] := by
  have h : am_mx 96 = 4 := by decide +kernel
  unfold am_en
  rw [h]
  rfl
theorem rt_96 : am_ret 96 = 1 := by decide +kernel
theorem kl_96 : am_kl 96 = 7 := by decide +kernel
set_option maxRecDepth 100000 in
theorem cx_96 : am_cd 96 0 = some (.aload_n 0, 1, 0, 0, 0, []) ∧ am_cd 96 1 = some (.getfield 134, 3, 7, 16, 0, [0, 629]) ∧ am_cd 96 4 = some (.bipush 6, 2, 0, 0, 6, []) ∧ am_cd 96 6 = some (.if_icmp .ne 6, 3, 12, 0, 0, []) ∧ am_cd 96 9 = some (.bipush (-3), 2, 0, 0, (-3), []) ∧ am_cd 96 11 = some (.ireturn, 1, 0, 0, 0, []) ∧ am_cd 96 12 = some (.aload_n 0, 1, 0, 0, 0, []) ∧ am_cd 96 13 = some (.getfield 44, 3, 7, 17, 0, [0, 630]) ∧ am_cd 96 16 = some (.aload_n 0, 1, 0, 0, 0, []) ∧ am_cd 96 17 = some (.getfield 134, 3, 7, 16, 0, [0, 629]) ∧ am_cd 96 20 = some (.iload_n 1, 1, 1, 0, 0, []) ∧ am_cd 96 21 = some (.iastore, 1, 0, 0, 0, []) ∧ am_cd 96 22 = some (.aload_n 0, 1, 0, 0, 0, []) ∧ am_cd 96 23 = some (.getfield 47, 3, 7, 18, 0, [0, 631]) ∧ am_cd 96 26 = some (.aload_n 0, 1, 0, 0, 0, []) ∧ am_cd 96 27 = some (.getfield 134, 3, 7, 16, 0, [0, 629]) ∧ am_cd 96 30 = some (.iload_n 2, 1, 2, 0, 0, []) ∧ am_cd 96 31 = some (.iastore, 1, 0, 0, 0, []) ∧ am_cd 96 32 = some (.aload_n 0, 1, 0, 0, 0, []) ∧ am_cd 96 33 = some (.getfield 50, 3, 7, 19, 0, [0, 632]) ∧ am_cd 96 36 = some (.aload_n 0, 1, 0, 0, 0, []) ∧ am_cd 96 37 = some (.getfield 134, 3, 7, 16, 0, [0, 629]) ∧ am_cd 96 40 = some (.iload_n 3, 1, 3, 0, 0, []) ∧ am_cd 96 41 = some (.iastore, 1, 0, 0, 0, []) ∧ am_cd 96 42 = some (.aload_n 0, 1, 0, 0, 0, []) ∧ am_cd 96 43 = some (.dup, 1, 0, 0, 0, []) ∧ am_cd 96 44 = some (.getfield 134, 3, 7, 16, 0, [0, 629]) ∧ am_cd 96 47 = some (.iconst 1, 1, 0, 0, 1, []) ∧ am_cd 96 48 = some (.iadd, 1, 0, 0, 0, []) ∧ am_cd 96 49 = some (.putfield 134, 3, 7, 16, 0, [0, 629]) ∧ am_cd 96 52 = some (.aload_n 0, 1, 0, 0, 0, []) ∧ am_cd 96 53 = some (.getfield 134, 3, 7, 16, 0, [0, 629]) ∧ am_cd 96 56 = some (.ireturn, 1, 0, 0, 0, []) := ⟨rfl, rfl, rfl, rfl, rfl, rfl, rfl, rfl, rfl, rfl, rfl, rfl, rfl, rfl, rfl, rfl, rfl, rfl, rfl, rfl, rfl, rfl, rfl, rfl, rfl, rfl, rfl, rfl, rfl, rfl, rfl, rfl, rfl⟩
theorem en_97 (v0 v1 : Value) : am_en 97 [v0, v1] = [some v0, some v1] := by
  have h : am_mx 97 = 2 := by decide +kernel
  unfold am_en
  rw [h]
  rfl
theorem rt_97 : am_ret 97 = 1 := by decide +kernel
theorem kl_97 : am_kl 97 = 7 := by decide +kernel
set_option maxRecDepth 100000 in
theorem cx_97 : am_cd 97 0 = some (.iload_n 1, 1, 1, 0, 0, []) ∧ am_cd 97 1 = some (.invokestatic 137, 3, 95, 1, 0, [0, 709]) ∧ am_cd 97 4 = some (.ifCond .eq 13, 3, 17, 0, 0, []) ∧ am_cd 97 7 = some (.aload_n 0, 1, 0, 0, 0, []) ∧ am_cd 97 8 = some (.iload_n 1, 1, 1, 0, 0, []) ∧ am_cd 97 9 = some (.iconst 0, 1, 0, 0, 0, []) ∧ am_cd 97 10 = some (.iconst (-1), 1, 0, 0, (-1), []) ∧ am_cd 97 11 = some (.invokevirtual 140, 3, 96, 4, 0, [0, 712]) ∧ am_cd 97 14 = some (.goto 4, 3, 18, 0, 0, []) ∧ am_cd 97 17 = some (.iconst (-1), 1, 0, 0, (-1), []) ∧ am_cd 97 18 = some (.ireturn, 1, 0, 0, 0, []) := ⟨rfl, rfl, rfl, rfl, rfl, rfl, rfl, rfl, rfl, rfl, rfl⟩
theorem en_98 (v0 : Value) : am_en 98 [v0] = [some v0, none, none, none] := by
  have h : am_mx 98 = 4 := by decide +kernel
  unfold am_en
  rw [h]
  rfl
theorem rt_98 : am_ret 98 = 1 := by decide +kernel
theorem kl_98 : am_kl 98 = 7 := by decide +kernel
set_option maxRecDepth 100000 in
theorem cx_98 : am_cd 98 0 = some (.aload_n 0, 1, 0, 0, 0, []) ∧ am_cd 98 1 = some (.getfield 134, 3, 7, 16, 0, [0, 629]) ∧ am_cd 98 4 = some (.ifCond .ne 6, 3, 10, 0, 0, []) ∧ am_cd 98 7 = some (.bipush (-2), 2, 0, 0, (-2), []) ∧ am_cd 98 9 = some (.ireturn, 1, 0, 0, 0, []) ∧ am_cd 98 10 = some (.aload_n 0, 1, 0, 0, 0, []) ∧ am_cd 98 11 = some (.aload_n 0, 1, 0, 0, 0, []) ∧ am_cd 98 12 = some (.getfield 134, 3, 7, 16, 0, [0, 629]) ∧ am_cd 98 15 = some (.invokevirtual 131, 3, 99, 2, 0, [0, 724]) ∧ am_cd 98 18 = some (.ifCond .eq 22, 3, 40, 0, 0, []) ∧ am_cd 98 21 = some (.aload_n 0, 1, 0, 0, 0, []) ∧ am_cd 98 22 = some (.getfield 128, 3, 7, 23, 0, [0, 636]) ∧ am_cd 98 25 = some (.aload_n 0, 1, 0, 0, 0, []) ∧ am_cd 98 26 = some (.getfield 144, 3, 7, 22, 0, [0, 635]) ∧ am_cd 98 29 = some (.isub, 1, 0, 0, 0, []) ∧ am_cd 98 30 = some (.iconst 1, 1, 0, 0, 1, []) ∧ am_cd 98 31 = some (.iadd, 1, 0, 0, 0, []) ∧ am_cd 98 32 = some (.bipush 8, 2, 0, 0, 8, []) ∧ am_cd 98 34 = some (.if_icmp .lt 6, 3, 40, 0, 0, []) ∧ am_cd 98 37 = some (.bipush (-3), 2, 0, 0, (-3), []) ∧ am_cd 98 39 = some (.ireturn, 1, 0, 0, 0, []) ∧ am_cd 98 40 = some (.aload_n 0, 1, 0, 0, 0, []) ∧ am_cd 98 41 = some (.iconst (-1), 1, 0, 0, (-1), []) ∧ am_cd 98 42 = some (.invokevirtual 109, 3, 100, 2, 0, [0, 728]) ∧ am_cd 98 45 = some (.aload_n 0, 1, 0, 0, 0, []) ∧ am_cd 98 46 = some (.getfield 134, 3, 7, 16, 0, [0, 629]) ∧ am_cd 98 49 = some (.iadd, 1, 0, 0, 0, []) ∧ am_cd 98 50 = some (.bipush 8, 2, 0, 0, 8, []) ∧ am_cd 98 52 = some (.if_icmp .le 7, 3, 59, 0, 0, []) ∧ am_cd 98 55 = some (.aload_n 0, 1, 0, 0, 0, []) ∧ am_cd 98 56 = some (.invokevirtual 147, 3, 101, 1, 0, [0, 732]) ∧ am_cd 98 59 = some (.aload_n 0, 1, 0, 0, 0, []) ∧ am_cd 98 60 = some (.getfield 68, 3, 7, 28, 0, [0, 641]) ∧ am_cd 98 63 = some (.aload_n 0, 1, 0, 0, 0, []) ∧ am_cd 98 64 = some (.getfield 125, 3, 7, 25, 0, [0, 638]) ∧ am_cd 98 67 = some (.aload_n 0, 1, 0, 0, 0, []) ∧ am_cd 98 68 = some (.aload_n 0, 1, 0, 0, 0, []) ∧ am_cd 98 69 = some (.getfield 134, 3, 7, 16, 0, [0, 629]) ∧ am_cd 98 72 = some (.invokevirtual 131, 3, 99, 2, 0, [0, 724]) ∧ am_cd 98 75 = some (.bastore, 1, 0, 0, 0, []) ∧ am_cd 98 76 = some (.aload_n 0, 1, 0, 0, 0, []) ∧ am_cd 98 77 = some (.getfield 62, 3, 7, 26, 0, [0, 639]) ∧ am_cd 98 80 = some (.aload_n 0, 1, 0, 0, 0, []) ∧ am_cd 98 81 = some (.getfield 125, 3, 7, 25, 0, [0, 638]) ∧ am_cd 98 84 = some (.aload_n 0, 1, 0, 0, 0, []) ∧ am_cd 98 85 = some (.getfield 89, 3, 7, 15, 0, [0, 628]) ∧ am_cd 98 88 = some (.iconst 1, 1, 0, 0, 1, []) ∧ am_cd 98 89 = some (.iadd, 1, 0, 0, 0, []) ∧ am_cd 98 90 = some (.iastore, 1, 0, 0, 0, []) ∧ am_cd 98 91 = some (.aload_n 0, 1, 0, 0, 0, []) ∧ am_cd 98 92 = some (.getfield 65, 3, 7, 27, 0, [0, 640]) ∧ am_cd 98 95 = some (.aload_n 0, 1, 0, 0, 0, []) ∧ am_cd 98 96 = some (.getfield 125, 3, 7, 25, 0, [0, 638]) ∧ am_cd 98 99 = some (.iconst 1, 1, 0, 0, 1, []) ∧ am_cd 98 100 = some (.aload_n 0, 1, 0, 0, 0, []) ∧ am_cd 98 101 = some (.getfield 134, 3, 7, 16, 0, [0, 629]) ∧ am_cd 98 104 = some (.iadd, 1, 0, 0, 0, []) ∧ am_cd 98 105 = some (.iastore, 1, 0, 0, 0, []) ∧ am_cd 98 106 = some (.aload_n 0, 1, 0, 0, 0, []) ∧ am_cd 98 107 = some (.dup, 1, 0, 0, 0, []) ∧ am_cd 98 108 = some (.getfield 125, 3, 7, 25, 0, [0, 638]) ∧ am_cd 98 111 = some (.iconst 1, 1, 0, 0, 1, []) ∧ am_cd 98 112 = some (.iadd, 1, 0, 0, 0, []) ∧ am_cd 98 113 = some (.putfield 125, 3, 7, 25, 0, [0, 638]) ∧ am_cd 98 116 = some (.aload_n 0, 1, 0, 0, 0, []) ∧ am_cd 98 117 = some (.aload_n 0, 1, 0, 0, 0, []) ∧ am_cd 98 118 = some (.getfield 134, 3, 7, 16, 0, [0, 629]) ∧ am_cd 98 121 = some (.invokevirtual 150, 3, 112, 2, 0, [0, 776]) ∧ am_cd 98 124 = some (.istore_n 1, 1, 1, 0, 0, []) ∧ am_cd 98 125 = some (.iconst 0, 1, 0, 0, 0, []) ∧ am_cd 98 126 = some (.istore_n 2, 1, 2, 0, 0, []) ∧ am_cd 98 128 = some (.aload_n 0, 1, 0, 0, 0, []) ∧ am_cd 98 129 = some (.getfield 134, 3, 7, 16, 0, [0, 629]) ∧ am_cd 98 132 = some (.if_icmp .ge 144, 3, 276, 0, 0, []) ∧ am_cd 98 135 = some (.aload_n 0, 1, 0, 0, 0, []) ∧ am_cd 98 136 = some (.dup, 1, 0, 0, 0, []) ∧ am_cd 98 137 = some (.getfield 89, 3, 7, 15, 0, [0, 628]) ∧ am_cd 98 140 = some (.iconst 1, 1, 0, 0, 1, []) ∧ am_cd 98 141 = some (.iadd, 1, 0, 0, 0, []) ∧ am_cd 98 142 = some (.putfield 89, 3, 7, 15, 0, [0, 628]) ∧ am_cd 98 145 = some (.aload_n 0, 1, 0, 0, 0, []) ∧ am_cd 98 146 = some (.getfield 75, 3, 7, 1, 0, [0, 614]) ∧ am_cd 98 149 = some (.istore_n 3, 1, 3, 0, 0, []) ∧ am_cd 98 150 = some (.aload_n 0, 1, 0, 0, 0, []) ∧ am_cd 98 151 = some (.dup, 1, 0, 0, 0, []) ∧ am_cd 98 152 = some (.getfield 75, 3, 7, 1, 0, [0, 614]) ∧ am_cd 98 155 = some (.iconst 1, 1, 0, 0, 1, []) ∧ am_cd 98 156 = some (.iadd, 1, 0, 0, 0, []) ∧ am_cd 98 157 = some (.putfield 75, 3, 7, 1, 0, [0, 614]) ∧ am_cd 98 160 = some (.aload_n 0, 1, 0, 0, 0, []) ∧ am_cd 98 161 = some (.getfield 7, 3, 7, 2, 0, [0, 615]) ∧ am_cd 98 164 = some (.iload_n 3, 1, 3, 0, 0, []) ∧ am_cd 98 165 = some (.aload_n 0, 1, 0, 0, 0, []) ∧ am_cd 98 166 = some (.getfield 44, 3, 7, 17, 0, [0, 630]) ∧ am_cd 98 169 = some (.iload_n 2, 1, 2, 0, 0, []) ∧ am_cd 98 170 = some (.iaload, 1, 0, 0, 0, []) ∧ am_cd 98 171 = some (.iastore, 1, 0, 0, 0, []) ∧ am_cd 98 172 = some (.aload_n 0, 1, 0, 0, 0, []) ∧ am_cd 98 173 = some (.getfield 13, 3, 7, 3, 0, [0, 616]) ∧ am_cd 98 176 = some (.iload_n 3, 1, 3, 0, 0, []) ∧ am_cd 98 177 = some (.aload_n 0, 1, 0, 0, 0, []) ∧ am_cd 98 178 = some (.getfield 89, 3, 7, 15, 0, [0, 628]) ∧ am_cd 98 181 = some (.iastore, 1, 0, 0, 0, []) ∧ am_cd 98 182 = some (.aload_n 0, 1, 0, 0, 0, []) ∧ am_cd 98 183 = some (.getfield 19, 3, 7, 5, 0, [0, 618]) ∧ am_cd 98 186 = some (.iload_n 3, 1, 3, 0, 0, []) ∧ am_cd 98 187 = some (.aload_n 0, 1, 0, 0, 0, []) ∧ am_cd 98 188 = some (.getfield 50, 3, 7, 19, 0, [0, 632]) ∧ am_cd 98 191 = some (.iload_n 2, 1, 2, 0, 0, []) ∧ am_cd 98 192 = some (.iaload, 1, 0, 0, 0, []) ∧ am_cd 98 193 = some (.ifCond .ge 7, 3, 200, 0, 0, []) ∧ am_cd 98 196 = some (.iconst 1, 1, 0, 0, 1, []) ∧ am_cd 98 197 = some (.goto 4, 3, 201, 0, 0, []) ∧ am_cd 98 200 = some (.iconst 0, 1, 0, 0, 0, []) ∧ am_cd 98 201 = some (.bastore, 1, 0, 0, 0, []) ∧ am_cd 98 202 = some (.aload_n 0, 1, 0, 0, 0, []) ∧ am_cd 98 203 = some (.getfield 16, 3, 7, 4, 0, [0, 617]) ∧ am_cd 98 206 = some (.iload_n 3, 1, 3, 0, 0, []) ∧ am_cd 98 207 = some (.aload_n 0, 1, 0, 0, 0, []) ∧ am_cd 98 208 = some (.getfield 47, 3, 7, 18, 0, [0, 631]) ∧ am_cd 98 211 = some (.iload_n 2, 1, 2, 0, 0, []) ∧ am_cd 98 212 = some (.iaload, 1, 0, 0, 0, []) ∧ am_cd 98 213 = some (.iastore, 1, 0, 0, 0, []) ∧ am_cd 98 214 = some (.aload_n 0, 1, 0, 0, 0, []) ∧ am_cd 98 215 = some (.getfield 23, 3, 7, 6, 0, [0, 619]) ∧ am_cd 98 218 = some (.iload_n 3, 1, 3, 0, 0, []) ∧ am_cd 98 219 = some (.aload_n 0, 1, 0, 0, 0, []) ∧ am_cd 98 220 = some (.getfield 50, 3, 7, 19, 0, [0, 632]) ∧ am_cd 98 223 = some (.iload_n 2, 1, 2, 0, 0, []) ∧ am_cd 98 224 = some (.iaload, 1, 0, 0, 0, []) ∧ am_cd 98 225 = some (.ifCond .le 17, 3, 242, 0, 0, []) ∧ am_cd 98 228 = some (.aload_n 0, 1, 0, 0, 0, []) ∧ am_cd 98 229 = some (.getfield 71, 3, 7, 0, 0, [0, 613]) ∧ am_cd 98 232 = some (.aload_n 0, 1, 0, 0, 0, []) ∧ am_cd 98 233 = some (.getfield 50, 3, 7, 19, 0, [0, 632]) ∧ am_cd 98 236 = some (.iload_n 2, 1, 2, 0, 0, []) ∧ am_cd 98 237 = some (.iaload, 1, 0, 0, 0, []) ∧ am_cd 98 238 = some (.iadd, 1, 0, 0, 0, []) ∧ am_cd 98 239 = some (.goto 4, 3, 243, 0, 0, []) ∧ am_cd 98 242 = some (.iconst 0, 1, 0, 0, 0, []) ∧ am_cd 98 243 = some (.iastore, 1, 0, 0, 0, []) ∧ am_cd 98 244 = some (.aload_n 0, 1, 0, 0, 0, []) ∧ am_cd 98 245 = some (.getfield 26, 3, 7, 7, 0, [0, 620]) ∧ am_cd 98 248 = some (.iload_n 3, 1, 3, 0, 0, []) ∧ am_cd 98 249 = some (.iconst (-1), 1, 0, 0, (-1), []) ∧ am_cd 98 250 = some (.iastore, 1, 0, 0, 0, []) ∧ am_cd 98 251 = some (.aload_n 0, 1, 0, 0, 0, []) ∧ am_cd 98 252 = some (.getfield 32, 3, 7, 9, 0, [0, 622]) ∧ am_cd 98 255 = some (.iload_n 3, 1, 3, 0, 0, []) ∧ am_cd 98 256 = some (.aload_n 0, 1, 0, 0, 0, []) ∧ am_cd 98 257 = some (.getfield 128, 3, 7, 23, 0, [0, 636]) ∧ am_cd 98 260 = some (.iastore, 1, 0, 0, 0, []) ∧ am_cd 98 261 = some (.aload_n 0, 1, 0, 0, 0, []) ∧ am_cd 98 262 = some (.getfield 35, 3, 7, 10, 0, [0, 623]) ∧ am_cd 98 265 = some (.iload_n 3, 1, 3, 0, 0, []) ∧ am_cd 98 266 = some (.iload_n 1, 1, 1, 0, 0, []) ∧ am_cd 98 267 = some (.iload_n 2, 1, 2, 0, 0, []) ∧ am_cd 98 268 = some (.iadd, 1, 0, 0, 0, []) ∧ am_cd 98 269 = some (.iastore, 1, 0, 0, 0, []) ∧ am_cd 98 270 = some (.iinc 2 1, 3, 2, 0, 1, []) ∧ am_cd 98 273 = some (.goto (-146), 3, 127, 0, 0, []) ∧ am_cd 98 276 = some (.aload_n 0, 1, 0, 0, 0, []) ∧ am_cd 98 277 = some (.getfield 134, 3, 7, 16, 0, [0, 629]) ∧ am_cd 98 280 = some (.istore_n 2, 1, 2, 0, 0, []) ∧ am_cd 98 281 = some (.aload_n 0, 1, 0, 0, 0, []) ∧ am_cd 98 282 = some (.iconst 0, 1, 0, 0, 0, []) ∧ am_cd 98 283 = some (.putfield 134, 3, 7, 16, 0, [0, 629]) ∧ am_cd 98 286 = some (.iload_n 2, 1, 2, 0, 0, []) ∧ am_cd 98 287 = some (.ireturn, 1, 0, 0, 0, []) := ⟨rfl, rfl, rfl, rfl, rfl, rfl, rfl, rfl, rfl, rfl, rfl, rfl, rfl, rfl, rfl, rfl, rfl, rfl, rfl, rfl, rfl, rfl, rfl, rfl, rfl, rfl, rfl, rfl, rfl, rfl, rfl, rfl, rfl, rfl, rfl, rfl, rfl, rfl, rfl, rfl, rfl, rfl, rfl, rfl, rfl, rfl, rfl, rfl, rfl, rfl, rfl, rfl, rfl, rfl, rfl, rfl, rfl, rfl, rfl, rfl, rfl, rfl, rfl, rfl, rfl, rfl, rfl, rfl, rfl, rfl, rfl, rfl, rfl, rfl, rfl, rfl, rfl, rfl, rfl, rfl, rfl, rfl, rfl, rfl, rfl, rfl, rfl, rfl, rfl, rfl, rfl, rfl, rfl, rfl, rfl, rfl, rfl, rfl, rfl, rfl, rfl, rfl, rfl, rfl, rfl, rfl, rfl, rfl, rfl, rfl, rfl, rfl, rfl, rfl, rfl, rfl, rfl, rfl, rfl, rfl, rfl, rfl, rfl, rfl, rfl, rfl, rfl, rfl, rfl, rfl, rfl, rfl, rfl, rfl, rfl, rfl, rfl, rfl, rfl, rfl, rfl, rfl, rfl, rfl, rfl, rfl, rfl, rfl, rfl, rfl, rfl, rfl, rfl, rfl, rfl, rfl, rfl, rfl, rfl, rfl, rfl, rfl, rfl, rfl, rfl, rfl, rfl, rfl, rfl⟩
theorem cxh_98_127 : am_cd 98 127 = some (.iload_n 2, 1, 2, 0, 0, []) := rfl
theorem en_99 (v0 v1 : Value) : am_en 99 [v0, v1] = [some v0, some v1] := by
  have h : am_mx 99 = 2 := by decide +kernel
  unfold am_en
  rw [h]
  rfl
theorem rt_99 : am_ret 99 = 2 := by decide +kernel
theorem kl_99 : am_kl 99 = 7 := by decide +kernel
set_option maxRecDepth 100000 in
theorem cx_99 : am_cd 99 0 = some (.aload_n 0, 1, 0, 0, 0, []) ∧ am_cd 99 1 = some (.getfield 59, 3, 7, 24, 0, [0, 637]) ∧ am_cd 99 4 = some (.aload_n 0, 1, 0, 0, 0, []) ∧ am_cd 99 5 = some (.getfield 128, 3, 7, 23, 0, [0, 636]) ∧ am_cd 99 8 = some (.bipush 8, 2, 0, 0, 8, []) ∧ am_cd 99 10 = some (.irem, 1, 0, 0, 0, []) ∧ am_cd 99 11 = some (.iaload, 1, 0, 0, 0, []) ∧ am_cd 99 12 = some (.iconst 1, 1, 0, 0, 1, []) ∧ am_cd 99 13 = some (.iadd, 1, 0, 0, 0, []) ∧ am_cd 99 14 = some (.iload_n 1, 1, 1, 0, 0, []) ∧ am_cd 99 15 = some (.iadd, 1, 0, 0, 0, []) ∧ am_cd 99 16 = some (.bipush 16, 2, 0, 0, 16, []) ∧ am_cd 99 18 = some (.if_icmp .le 7, 3, 25, 0, 0, []) ∧ am_cd 99 21 = some (.iconst 1, 1, 0, 0, 1, []) ∧ am_cd 99 22 = some (.goto 4, 3, 26, 0, 0, []) ∧ am_cd 99 25 = some (.iconst 0, 1, 0, 0, 0, []) ∧ am_cd 99 26 = some (.ireturn, 1, 0, 0, 0, []) := ⟨rfl, rfl, rfl, rfl, rfl, rfl, rfl, rfl, rfl, rfl, rfl, rfl, rfl, rfl, rfl, rfl, rfl⟩
theorem en_100 (v0 v1 : Value) : am_en 100 [v0, v1] = [some v0, some v1, none, none] := by
  have h : am_mx 100 = 4 := by decide +kernel
  unfold am_en
  rw [h]
  rfl
theorem rt_100 : am_ret 100 = 1 := by decide +kernel
theorem kl_100 : am_kl 100 = 7 := by decide +kernel
set_option maxRecDepth 100000 in
theorem cx_100 : am_cd 100 0 = some (.iconst 0, 1, 0, 0, 0, []) ∧ am_cd 100 1 = some (.istore_n 2, 1, 2, 0, 0, []) ∧ am_cd 100 2 = some (.iconst 0, 1, 0, 0, 0, []) ∧ am_cd 100 3 = some (.istore_n 3, 1, 3, 0, 0, []) ∧ am_cd 100 5 = some (.aload_n 0, 1, 0, 0, 0, []) ∧ am_cd 100 6 = some (.getfield 75, 3, 7, 1, 0, [0, 614]) ∧ am_cd 100 9 = some (.if_icmp .ge 22, 3, 31, 0, 0, []) ∧ am_cd 100 12 = some (.aload_n 0, 1, 0, 0, 0, []) ∧ am_cd 100 13 = some (.getfield 26, 3, 7, 7, 0, [0, 620]) ∧ am_cd 100 16 = some (.iload_n 3, 1, 3, 0, 0, []) ∧ am_cd 100 17 = some (.iaload, 1, 0, 0, 0, []) ∧ am_cd 100 18 = some (.iload_n 1, 1, 1, 0, 0, []) ∧ am_cd 100 19 = some (.if_icmp .ne 6, 3, 25, 0, 0, []) ∧ am_cd 100 22 = some (.iinc 2 1, 3, 2, 0, 1, []) ∧ am_cd 100 25 = some (.iinc 3 1, 3, 3, 0, 1, []) ∧ am_cd 100 28 = some (.goto (-24), 3, 4, 0, 0, []) ∧ am_cd 100 31 = some (.iload_n 2, 1, 2, 0, 0, []) ∧ am_cd 100 32 = some (.ireturn, 1, 0, 0, 0, []) := ⟨rfl, rfl, rfl, rfl, rfl, rfl, rfl, rfl, rfl, rfl, rfl, rfl, rfl, rfl, rfl, rfl, rfl, rfl⟩
theorem cxh_100_4 : am_cd 100 4 = some (.iload_n 3, 1, 3, 0, 0, []) := rfl
theorem en_101 (v0 : Value) : am_en 101 [v0] = [some v0, none] := by
  have h : am_mx 101 = 2 := by decide +kernel
  unfold am_en
  rw [h]
  rfl
theorem rt_101 : am_ret 101 = 0 := by decide +kernel
theorem kl_101 : am_kl 101 = 7 := by decide +kernel
set_option maxRecDepth 100000 in
theorem cx_101 : am_cd 101 0 = some (.aload_n 0, 1, 0, 0, 0, []) ∧ am_cd 101 1 = some (.iconst (-1), 1, 0, 0, (-1), []) ∧ am_cd 101 2 = some (.invokevirtual 109, 3, 100, 2, 0, [0, 728]) ∧ am_cd 101 5 = some (.ifCond .ne 4, 3, 9, 0, 0, []) ∧ am_cd 101 8 = some (.return_, 1, 0, 0, 0, []) ∧ am_cd 101 9 = some (.aload_n 0, 1, 0, 0, 0, []) ∧ am_cd 101 10 = some (.getfield 106, 3, 7, 14, 0, [0, 627]) ∧ am_cd 101 13 = some (.iconst 4, 1, 0, 0, 4, []) ∧ am_cd 101 14 = some (.if_icmp .ne 9, 3, 23, 0, 0, []) ∧ am_cd 101 17 = some (.aload_n 0, 1, 0, 0, 0, []) ∧ am_cd 101 18 = some (.iconst 0, 1, 0, 0, 0, []) ∧ am_cd 101 19 = some (.invokevirtual 119, 3, 102, 2, 0, [0, 736]) ∧ am_cd 101 22 = some (.pop, 1, 0, 0, 0, []) ∧ am_cd 101 23 = some (.aload_n 0, 1, 0, 0, 0, []) ∧ am_cd 101 24 = some (.iconst (-1), 1, 0, 0, (-1), []) ∧ am_cd 101 25 = some (.iconst (-1), 1, 0, 0, (-1), []) ∧ am_cd 101 26 = some (.invokevirtual 99, 3, 103, 3, 0, [0, 740]) ∧ am_cd 101 29 = some (.aload_n 0, 1, 0, 0, 0, []) ∧ am_cd 101 30 = some (.iconst 0, 1, 0, 0, 0, []) ∧ am_cd 101 31 = some (.invokevirtual 103, 3, 104, 2, 0, [0, 744]) ∧ am_cd 101 34 = some (.pop, 1, 0, 0, 0, []) ∧ am_cd 101 35 = some (.aload_n 0, 1, 0, 0, 0, []) ∧ am_cd 101 36 = some (.dup, 1, 0, 0, 0, []) ∧ am_cd 101 37 = some (.getfield 122, 3, 7, 13, 0, [0, 626]) ∧ am_cd 101 40 = some (.iconst 1, 1, 0, 0, 1, []) ∧ am_cd 101 41 = some (.iadd, 1, 0, 0, 0, []) ∧ am_cd 101 42 = some (.putfield 122, 3, 7, 13, 0, [0, 626]) ∧ am_cd 101 45 = some (.aload_n 0, 1, 0, 0, 0, []) ∧ am_cd 101 46 = some (.dup, 1, 0, 0, 0, []) ∧ am_cd 101 47 = some (.getfield 106, 3, 7, 14, 0, [0, 627]) ∧ am_cd 101 50 = some (.iconst 1, 1, 0, 0, 1, []) ∧ am_cd 101 51 = some (.iadd, 1, 0, 0, 0, []) ∧ am_cd 101 52 = some (.putfield 106, 3, 7, 14, 0, [0, 627]) ∧ am_cd 101 55 = some (.iconst 0, 1, 0, 0, 0, []) ∧ am_cd 101 56 = some (.istore_n 1, 1, 1, 0, 0, []) ∧ am_cd 101 58 = some (.aload_n 0, 1, 0, 0, 0, []) ∧ am_cd 101 59 = some (.getfield 75, 3, 7, 1, 0, [0, 614]) ∧ am_cd 101 62 = some (.if_icmp .ge 37, 3, 99, 0, 0, []) ∧ am_cd 101 65 = some (.aload_n 0, 1, 0, 0, 0, []) ∧ am_cd 101 66 = some (.getfield 38, 3, 7, 11, 0, [0, 624]) ∧ am_cd 101 69 = some (.iload_n 1, 1, 1, 0, 0, []) ∧ am_cd 101 70 = some (.baload, 1, 0, 0, 0, []) ∧ am_cd 101 71 = some (.ifCond .eq 22, 3, 93, 0, 0, []) ∧ am_cd 101 74 = some (.aload_n 0, 1, 0, 0, 0, []) ∧ am_cd 101 75 = some (.getfield 26, 3, 7, 7, 0, [0, 620]) ∧ am_cd 101 78 = some (.iload_n 1, 1, 1, 0, 0, []) ∧ am_cd 101 79 = some (.iaload, 1, 0, 0, 0, []) ∧ am_cd 101 80 = some (.ifCond .ne 13, 3, 93, 0, 0, []) ∧ am_cd 101 83 = some (.aload_n 0, 1, 0, 0, 0, []) ∧ am_cd 101 84 = some (.getfield 29, 3, 7, 8, 0, [0, 621]) ∧ am_cd 101 87 = some (.iload_n 1, 1, 1, 0, 0, []) ∧ am_cd 101 88 = some (.aload_n 0, 1, 0, 0, 0, []) ∧ am_cd 101 89 = some (.getfield 122, 3, 7, 13, 0, [0, 626]) ∧ am_cd 101 92 = some (.iastore, 1, 0, 0, 0, []) ∧ am_cd 101 93 = some (.iinc 1 1, 3, 1, 0, 1, []) ∧ am_cd 101 96 = some (.goto (-39), 3, 57, 0, 0, []) ∧ am_cd 101 99 = some (.aload_n 0, 1, 0, 0, 0, []) ∧ am_cd 101 100 = some (.iconst 0, 1, 0, 0, 0, []) ∧ am_cd 101 101 = some (.putfield 125, 3, 7, 25, 0, [0, 638]) ∧ am_cd 101 104 = some (.return_, 1, 0, 0, 0, []) := ⟨rfl, rfl, rfl, rfl, rfl, rfl, rfl, rfl, rfl, rfl, rfl, rfl, rfl, rfl, rfl, rfl, rfl, rfl, rfl, rfl, rfl, rfl, rfl, rfl, rfl, rfl, rfl, rfl, rfl, rfl, rfl, rfl, rfl, rfl, rfl, rfl, rfl, rfl, rfl, rfl, rfl, rfl, rfl, rfl, rfl, rfl, rfl, rfl, rfl, rfl, rfl, rfl, rfl, rfl, rfl, rfl, rfl, rfl, rfl, rfl⟩
theorem cxh_101_57 : am_cd 101 57 = some (.iload_n 1, 1, 1, 0, 0, []) := rfl
theorem en_102 (v0 v1 : Value) : am_en 102 [v0, v1] = [some v0, some v1, none] := by
  have h : am_mx 102 = 3 := by decide +kernel
  unfold am_en
  rw [h]
  rfl
theorem rt_102 : am_ret 102 = 1 := by decide +kernel
theorem kl_102 : am_kl 102 = 7 := by decide +kernel
set_option maxRecDepth 100000 in
theorem cx_102 : am_cd 102 0 = some (.aload_n 0, 1, 0, 0, 0, []) ∧ am_cd 102 1 = some (.iload_n 1, 1, 1, 0, 0, []) ∧ am_cd 102 2 = some (.iload_n 1, 1, 1, 0, 0, []) ∧ am_cd 102 3 = some (.iconst 1, 1, 0, 0, 1, []) ∧ am_cd 102 4 = some (.iadd, 1, 0, 0, 0, []) ∧ am_cd 102 5 = some (.invokevirtual 99, 3, 103, 3, 0, [0, 740]) ∧ am_cd 102 8 = some (.aload_n 0, 1, 0, 0, 0, []) ∧ am_cd 102 9 = some (.iload_n 1, 1, 1, 0, 0, []) ∧ am_cd 102 10 = some (.iconst 1, 1, 0, 0, 1, []) ∧ am_cd 102 11 = some (.iadd, 1, 0, 0, 0, []) ∧ am_cd 102 12 = some (.invokevirtual 103, 3, 104, 2, 0, [0, 744]) ∧ am_cd 102 15 = some (.istore_n 2, 1, 2, 0, 0, []) ∧ am_cd 102 16 = some (.iload_n 1, 1, 1, 0, 0, []) ∧ am_cd 102 17 = some (.ifCond .ne 8, 3, 25, 0, 0, []) ∧ am_cd 102 20 = some (.aload_n 0, 1, 0, 0, 0, []) ∧ am_cd 102 21 = some (.iconst 0, 1, 0, 0, 0, []) ∧ am_cd 102 22 = some (.putfield 106, 3, 7, 14, 0, [0, 627]) ∧ am_cd 102 25 = some (.iload_n 1, 1, 1, 0, 0, []) ∧ am_cd 102 26 = some (.ifCond .ne 20, 3, 46, 0, 0, []) ∧ am_cd 102 29 = some (.aload_n 0, 1, 0, 0, 0, []) ∧ am_cd 102 30 = some (.iconst 1, 1, 0, 0, 1, []) ∧ am_cd 102 31 = some (.invokevirtual 109, 3, 100, 2, 0, [0, 728]) ∧ am_cd 102 34 = some (.bipush 12, 2, 0, 0, 12, []) ∧ am_cd 102 36 = some (.if_icmp .le 10, 3, 46, 0, 0, []) ∧ am_cd 102 39 = some (.iload_n 2, 1, 2, 0, 0, []) ∧ am_cd 102 40 = some (.aload_n 0, 1, 0, 0, 0, []) ∧ am_cd 102 41 = some (.invokevirtual 112, 3, 109, 1, 0, [0, 764]) ∧ am_cd 102 44 = some (.iadd, 1, 0, 0, 0, []) ∧ am_cd 102 45 = some (.istore_n 2, 1, 2, 0, 0, []) ∧ am_cd 102 46 = some (.aload_n 0, 1, 0, 0, 0, []) ∧ am_cd 102 47 = some (.invokevirtual 116, 3, 110, 1, 0, [0, 768]) ∧ am_cd 102 50 = some (.iload_n 2, 1, 2, 0, 0, []) ∧ am_cd 102 51 = some (.ireturn, 1, 0, 0, 0, []) := ⟨rfl, rfl, rfl, rfl, rfl, rfl, rfl, rfl, rfl, rfl, rfl, rfl, rfl, rfl, rfl, rfl, rfl, rfl, rfl, rfl, rfl, rfl, rfl, rfl, rfl, rfl, rfl, rfl, rfl, rfl, rfl, rfl, rfl⟩
theorem en_103 (v0 v1 v2 : Value) : am_en 103 [v0, v1, v2] = [some v0, some v1, some v2, none] := by
  have h : am_mx 103 = 4 := by decide +kernel
  unfold am_en
  rw [h]
  rfl
theorem rt_103 : am_ret 103 = 0 := by decide +kernel
theorem kl_103 : am_kl 103 = 7 := by decide +kernel
set_option maxRecDepth 100000 in
theorem cx_103 : am_cd 103 0 = some (.iconst 0, 1, 0, 0, 0, []) ∧ am_cd 103 1 = some (.istore_n 3, 1, 3, 0, 0, []) ∧ am_cd 103 3 = some (.aload_n 0, 1, 0, 0, 0, []) ∧ am_cd 103 4 = some (.getfield 75, 3, 7, 1, 0, [0, 614]) ∧ am_cd 103 7 = some (.if_icmp .ge 40, 3, 47, 0, 0, []) ∧ am_cd 103 10 = some (.aload_n 0, 1, 0, 0, 0, []) ∧ am_cd 103 11 = some (.getfield 38, 3, 7, 11, 0, [0, 624]) ∧ am_cd 103 14 = some (.iload_n 3, 1, 3, 0, 0, []) ∧ am_cd 103 15 = some (.aload_n 0, 1, 0, 0, 0, []) ∧ am_cd 103 16 = some (.getfield 26, 3, 7, 7, 0, [0, 620]) ∧ am_cd 103 19 = some (.iload_n 3, 1, 3, 0, 0, []) ∧ am_cd 103 20 = some (.iaload, 1, 0, 0, 0, []) ∧ am_cd 103 21 = some (.iload_n 1, 1, 1, 0, 0, []) ∧ am_cd 103 22 = some (.if_icmp .eq 13, 3, 35, 0, 0, []) ∧ am_cd 103 25 = some (.aload_n 0, 1, 0, 0, 0, []) ∧ am_cd 103 26 = some (.getfield 26, 3, 7, 7, 0, [0, 620]) ∧ am_cd 103 29 = some (.iload_n 3, 1, 3, 0, 0, []) ∧ am_cd 103 30 = some (.iaload, 1, 0, 0, 0, []) ∧ am_cd 103 31 = some (.iload_n 2, 1, 2, 0, 0, []) ∧ am_cd 103 32 = some (.if_icmp .ne 7, 3, 39, 0, 0, []) ∧ am_cd 103 35 = some (.iconst 1, 1, 0, 0, 1, []) ∧ am_cd 103 36 = some (.goto 4, 3, 40, 0, 0, []) ∧ am_cd 103 39 = some (.iconst 0, 1, 0, 0, 0, []) ∧ am_cd 103 40 = some (.bastore, 1, 0, 0, 0, []) ∧ am_cd 103 41 = some (.iinc 3 1, 3, 3, 0, 1, []) ∧ am_cd 103 44 = some (.goto (-42), 3, 2, 0, 0, []) ∧ am_cd 103 47 = some (.return_, 1, 0, 0, 0, []) := ⟨rfl, rfl, rfl, rfl, rfl, rfl, rfl, rfl, rfl, rfl, rfl, rfl, rfl, rfl, rfl, rfl, rfl, rfl, rfl, rfl, rfl, rfl, rfl, rfl, rfl, rfl, rfl⟩
theorem cxh_103_2 : am_cd 103 2 = some (.iload_n 3, 1, 3, 0, 0, []) := rfl
theorem en_104 (v0 v1 : Value) : am_en 104 [v0, v1] = [some v0, some v1, none, none] := by
  have h : am_mx 104 = 4 := by decide +kernel
  unfold am_en
  rw [h]
  rfl
theorem rt_104 : am_ret 104 = 1 := by decide +kernel
theorem kl_104 : am_kl 104 = 7 := by decide +kernel
set_option maxRecDepth 100000 in
theorem cx_104 : am_cd 104 0 = some (.iconst 0, 1, 0, 0, 0, []) ∧ am_cd 104 1 = some (.istore_n 2, 1, 2, 0, 0, []) ∧ am_cd 104 3 = some (.aload_n 0, 1, 0, 0, 0, []) ∧ am_cd 104 4 = some (.getfield 75, 3, 7, 1, 0, [0, 614]) ∧ am_cd 104 7 = some (.if_icmp .ge 58, 3, 65, 0, 0, []) ∧ am_cd 104 10 = some (.aload_n 0, 1, 0, 0, 0, []) ∧ am_cd 104 11 = some (.getfield 41, 3, 7, 12, 0, [0, 625]) ∧ am_cd 104 14 = some (.iload_n 2, 1, 2, 0, 0, []) ∧ am_cd 104 15 = some (.iconst 0, 1, 0, 0, 0, []) ∧ am_cd 104 16 = some (.bastore, 1, 0, 0, 0, []) ∧ am_cd 104 17 = some (.aload_n 0, 1, 0, 0, 0, []) ∧ am_cd 104 18 = some (.getfield 38, 3, 7, 11, 0, [0, 624]) ∧ am_cd 104 21 = some (.iload_n 2, 1, 2, 0, 0, []) ∧ am_cd 104 22 = some (.baload, 1, 0, 0, 0, []) ∧ am_cd 104 23 = some (.ifCond .ne 6, 3, 29, 0, 0, []) ∧ am_cd 104 26 = some (.goto 33, 3, 59, 0, 0, []) ∧ am_cd 104 29 = some (.aload_n 0, 1, 0, 0, 0, []) ∧ am_cd 104 30 = some (.iload_n 2, 1, 2, 0, 0, []) ∧ am_cd 104 31 = some (.invokevirtual 82, 3, 105, 2, 0, [0, 748]) ∧ am_cd 104 34 = some (.istore_n 3, 1, 3, 0, 0, []) ∧ am_cd 104 35 = some (.aload_n 0, 1, 0, 0, 0, []) ∧ am_cd 104 36 = some (.getfield 41, 3, 7, 12, 0, [0, 625]) ∧ am_cd 104 39 = some (.iload_n 2, 1, 2, 0, 0, []) ∧ am_cd 104 40 = some (.iload_n 3, 1, 3, 0, 0, []) ∧ am_cd 104 41 = some (.ifCond .lt 16, 3, 57, 0, 0, []) ∧ am_cd 104 44 = some (.aload_n 0, 1, 0, 0, 0, []) ∧ am_cd 104 45 = some (.iload_n 2, 1, 2, 0, 0, []) ∧ am_cd 104 46 = some (.iload_n 3, 1, 3, 0, 0, []) ∧ am_cd 104 47 = some (.invokevirtual 86, 3, 106, 3, 0, [0, 752]) ∧ am_cd 104 50 = some (.ifCond .ne 7, 3, 57, 0, 0, []) ∧ am_cd 104 53 = some (.iconst 1, 1, 0, 0, 1, []) ∧ am_cd 104 54 = some (.goto 4, 3, 58, 0, 0, []) ∧ am_cd 104 57 = some (.iconst 0, 1, 0, 0, 0, []) ∧ am_cd 104 58 = some (.bastore, 1, 0, 0, 0, []) ∧ am_cd 104 59 = some (.iinc 2 1, 3, 2, 0, 1, []) ∧ am_cd 104 62 = some (.goto (-60), 3, 2, 0, 0, []) ∧ am_cd 104 65 = some (.iconst 1, 1, 0, 0, 1, []) ∧ am_cd 104 66 = some (.istore_n 2, 1, 2, 0, 0, []) ∧ am_cd 104 68 = some (.aload_n 0, 1, 0, 0, 0, []) ∧ am_cd 104 69 = some (.getfield 89, 3, 7, 15, 0, [0, 628]) ∧ am_cd 104 72 = some (.if_icmp .gt 81, 3, 153, 0, 0, []) ∧ am_cd 104 75 = some (.iload_n 1, 1, 1, 0, 0, []) ∧ am_cd 104 76 = some (.iconst 2, 1, 0, 0, 2, []) ∧ am_cd 104 77 = some (.if_icmp .ne 76, 3, 153, 0, 0, []) ∧ am_cd 104 80 = some (.iconst 0, 1, 0, 0, 0, []) ∧ am_cd 104 81 = some (.istore_n 3, 1, 3, 0, 0, []) ∧ am_cd 104 83 = some (.aload_n 0, 1, 0, 0, 0, []) ∧ am_cd 104 84 = some (.getfield 75, 3, 7, 1, 0, [0, 614]) ∧ am_cd 104 87 = some (.if_icmp .ge 60, 3, 147, 0, 0, []) ∧ am_cd 104 90 = some (.aload_n 0, 1, 0, 0, 0, []) ∧ am_cd 104 91 = some (.getfield 38, 3, 7, 11, 0, [0, 624]) ∧ am_cd 104 94 = some (.iload_n 3, 1, 3, 0, 0, []) ∧ am_cd 104 95 = some (.baload, 1, 0, 0, 0, []) ∧ am_cd 104 96 = some (.ifCond .eq 45, 3, 141, 0, 0, []) ∧ am_cd 104 99 = some (.aload_n 0, 1, 0, 0, 0, []) ∧ am_cd 104 100 = some (.getfield 13, 3, 7, 3, 0, [0, 616]) ∧ am_cd 104 103 = some (.iload_n 3, 1, 3, 0, 0, []) ∧ am_cd 104 104 = some (.iaload, 1, 0, 0, 0, []) ∧ am_cd 104 105 = some (.iload_n 2, 1, 2, 0, 0, []) ∧ am_cd 104 106 = some (.if_icmp .ne 35, 3, 141, 0, 0, []) ∧ am_cd 104 109 = some (.aload_n 0, 1, 0, 0, 0, []) ∧ am_cd 104 110 = some (.getfield 41, 3, 7, 12, 0, [0, 625]) ∧ am_cd 104 113 = some (.iload_n 3, 1, 3, 0, 0, []) ∧ am_cd 104 114 = some (.baload, 1, 0, 0, 0, []) ∧ am_cd 104 115 = some (.ifCond .ne 26, 3, 141, 0, 0, []) ∧ am_cd 104 118 = some (.aload_n 0, 1, 0, 0, 0, []) ∧ am_cd 104 119 = some (.iload_n 3, 1, 3, 0, 0, []) ∧ am_cd 104 120 = some (.invokevirtual 92, 3, 107, 2, 0, [0, 756]) ∧ am_cd 104 123 = some (.ifCond .eq 18, 3, 141, 0, 0, []) ∧ am_cd 104 126 = some (.aload_n 0, 1, 0, 0, 0, []) ∧ am_cd 104 127 = some (.iload_n 3, 1, 3, 0, 0, []) ∧ am_cd 104 128 = some (.invokevirtual 96, 3, 108, 2, 0, [0, 760]) ∧ am_cd 104 131 = some (.ifCond .eq 10, 3, 141, 0, 0, []) ∧ am_cd 104 134 = some (.aload_n 0, 1, 0, 0, 0, []) ∧ am_cd 104 135 = some (.getfield 41, 3, 7, 12, 0, [0, 625]) ∧ am_cd 104 138 = some (.iload_n 3, 1, 3, 0, 0, []) ∧ am_cd 104 139 = some (.iconst 1, 1, 0, 0, 1, []) ∧ am_cd 104 140 = some (.bastore, 1, 0, 0, 0, []) ∧ am_cd 104 141 = some (.iinc 3 1, 3, 3, 0, 1, []) ∧ am_cd 104 144 = some (.goto (-62), 3, 82, 0, 0, []) ∧ am_cd 104 147 = some (.iinc 2 1, 3, 2, 0, 1, []) ∧ am_cd 104 150 = some (.goto (-83), 3, 67, 0, 0, []) ∧ am_cd 104 153 = some (.iconst 0, 1, 0, 0, 0, []) ∧ am_cd 104 154 = some (.istore_n 2, 1, 2, 0, 0, []) ∧ am_cd 104 155 = some (.iconst 0, 1, 0, 0, 0, []) ∧ am_cd 104 156 = some (.istore_n 3, 1, 3, 0, 0, []) ∧ am_cd 104 158 = some (.aload_n 0, 1, 0, 0, 0, []) ∧ am_cd 104 159 = some (.getfield 75, 3, 7, 1, 0, [0, 614]) ∧ am_cd 104 162 = some (.if_icmp .ge 59, 3, 221, 0, 0, []) ∧ am_cd 104 165 = some (.aload_n 0, 1, 0, 0, 0, []) ∧ am_cd 104 166 = some (.getfield 38, 3, 7, 11, 0, [0, 624]) ∧ am_cd 104 169 = some (.iload_n 3, 1, 3, 0, 0, []) ∧ am_cd 104 170 = some (.baload, 1, 0, 0, 0, []) ∧ am_cd 104 171 = some (.ifCond .ne 6, 3, 177, 0, 0, []) ∧ am_cd 104 174 = some (.goto 41, 3, 215, 0, 0, []) ∧ am_cd 104 177 = some (.aload_n 0, 1, 0, 0, 0, []) ∧ am_cd 104 178 = some (.getfield 26, 3, 7, 7, 0, [0, 620]) ∧ am_cd 104 181 = some (.iload_n 3, 1, 3, 0, 0, []) ∧ am_cd 104 182 = some (.aload_n 0, 1, 0, 0, 0, []) ∧ am_cd 104 183 = some (.getfield 41, 3, 7, 12, 0, [0, 625]) ∧ am_cd 104 186 = some (.iload_n 3, 1, 3, 0, 0, []) ∧ am_cd 104 187 = some (.baload, 1, 0, 0, 0, []) ∧ am_cd 104 188 = some (.ifCond .eq 8, 3, 196, 0, 0, []) ∧ am_cd 104 191 = some (.bipush 9, 2, 0, 0, 9, []) ∧ am_cd 104 193 = some (.goto 4, 3, 197, 0, 0, []) ∧ am_cd 104 196 = some (.iload_n 1, 1, 1, 0, 0, []) ∧ am_cd 104 197 = some (.iastore, 1, 0, 0, 0, []) ∧ am_cd 104 198 = some (.aload_n 0, 1, 0, 0, 0, []) ∧ am_cd 104 199 = some (.getfield 41, 3, 7, 12, 0, [0, 625]) ∧ am_cd 104 202 = some (.iload_n 3, 1, 3, 0, 0, []) ∧ am_cd 104 203 = some (.baload, 1, 0, 0, 0, []) ∧ am_cd 104 204 = some (.ifCond .eq 9, 3, 213, 0, 0, []) ∧ am_cd 104 207 = some (.iload_n 2, 1, 2, 0, 0, []) ∧ am_cd 104 208 = some (.iconst 1, 1, 0, 0, 1, []) ∧ am_cd 104 209 = some (.iadd, 1, 0, 0, 0, []) ∧ am_cd 104 210 = some (.goto 4, 3, 214, 0, 0, []) ∧ am_cd 104 213 = some (.iload_n 2, 1, 2, 0, 0, []) ∧ am_cd 104 214 = some (.istore_n 2, 1, 2, 0, 0, []) ∧ am_cd 104 215 = some (.iinc 3 1, 3, 3, 0, 1, []) ∧ am_cd 104 218 = some (.goto (-61), 3, 157, 0, 0, []) ∧ am_cd 104 221 = some (.iload_n 2, 1, 2, 0, 0, []) ∧ am_cd 104 222 = some (.ireturn, 1, 0, 0, 0, []) := ⟨rfl, rfl, rfl, rfl, rfl, rfl, rfl, rfl, rfl, rfl, rfl, rfl, rfl, rfl, rfl, rfl, rfl, rfl, rfl, rfl, rfl, rfl, rfl, rfl, rfl, rfl, rfl, rfl, rfl, rfl, rfl, rfl, rfl, rfl, rfl, rfl, rfl, rfl, rfl, rfl, rfl, rfl, rfl, rfl, rfl, rfl, rfl, rfl, rfl, rfl, rfl, rfl, rfl, rfl, rfl, rfl, rfl, rfl, rfl, rfl, rfl, rfl, rfl, rfl, rfl, rfl, rfl, rfl, rfl, rfl, rfl, rfl, rfl, rfl, rfl, rfl, rfl, rfl, rfl, rfl, rfl, rfl, rfl, rfl, rfl, rfl, rfl, rfl, rfl, rfl, rfl, rfl, rfl, rfl, rfl, rfl, rfl, rfl, rfl, rfl, rfl, rfl, rfl, rfl, rfl, rfl, rfl, rfl, rfl, rfl, rfl, rfl, rfl, rfl, rfl, rfl, rfl, rfl, rfl, rfl, rfl, rfl⟩
theorem cxh_104_2 : am_cd 104 2 = some (.iload_n 2, 1, 2, 0, 0, []) := rfl
theorem cxh_104_67 : am_cd 104 67 = some (.iload_n 2, 1, 2, 0, 0, []) := rfl
theorem cxh_104_82 : am_cd 104 82 = some (.iload_n 3, 1, 3, 0, 0, []) := rfl
theorem cxh_104_157 : am_cd 104 157 = some (.iload_n 3, 1, 3, 0, 0, []) := rfl
theorem en_105 (v0 v1 : Value) : am_en 105 [v0, v1] = [some v0, some v1, none, none, none] := by
  have h : am_mx 105 = 5 := by decide +kernel
  unfold am_en
  rw [h]
  rfl
theorem rt_105 : am_ret 105 = 1 := by decide +kernel
theorem kl_105 : am_kl 105 = 7 := by decide +kernel
set_option maxRecDepth 100000 in
theorem cx_105 : am_cd 105 0 = some (.iconst (-1), 1, 0, 0, (-1), []) ∧ am_cd 105 1 = some (.istore_n 2, 1, 2, 0, 0, []) ∧ am_cd 105 2 = some (.iconst 0, 1, 0, 0, 0, []) ∧ am_cd 105 3 = some (.istore_n 3, 1, 3, 0, 0, []) ∧ am_cd 105 5 = some (.aload_n 0, 1, 0, 0, 0, []) ∧ am_cd 105 6 = some (.getfield 75, 3, 7, 1, 0, [0, 614]) ∧ am_cd 105 9 = some (.if_icmp .ge 81, 3, 90, 0, 0, []) ∧ am_cd 105 12 = some (.aload_n 0, 1, 0, 0, 0, []) ∧ am_cd 105 13 = some (.getfield 38, 3, 7, 11, 0, [0, 624]) ∧ am_cd 105 16 = some (.iload_n 3, 1, 3, 0, 0, []) ∧ am_cd 105 17 = some (.baload, 1, 0, 0, 0, []) ∧ am_cd 105 18 = some (.ifCond .eq 37, 3, 55, 0, 0, []) ∧ am_cd 105 21 = some (.aload_n 0, 1, 0, 0, 0, []) ∧ am_cd 105 22 = some (.getfield 7, 3, 7, 2, 0, [0, 615]) ∧ am_cd 105 25 = some (.iload_n 3, 1, 3, 0, 0, []) ∧ am_cd 105 26 = some (.iaload, 1, 0, 0, 0, []) ∧ am_cd 105 27 = some (.aload_n 0, 1, 0, 0, 0, []) ∧ am_cd 105 28 = some (.getfield 7, 3, 7, 2, 0, [0, 615]) ∧ am_cd 105 31 = some (.iload_n 1, 1, 1, 0, 0, []) ∧ am_cd 105 32 = some (.iaload, 1, 0, 0, 0, []) ∧ am_cd 105 33 = some (.if_icmp .ne 22, 3, 55, 0, 0, []) ∧ am_cd 105 36 = some (.aload_n 0, 1, 0, 0, 0, []) ∧ am_cd 105 37 = some (.getfield 13, 3, 7, 3, 0, [0, 616]) ∧ am_cd 105 40 = some (.iload_n 3, 1, 3, 0, 0, []) ∧ am_cd 105 41 = some (.iaload, 1, 0, 0, 0, []) ∧ am_cd 105 42 = some (.aload_n 0, 1, 0, 0, 0, []) ∧ am_cd 105 43 = some (.getfield 13, 3, 7, 3, 0, [0, 616]) ∧ am_cd 105 46 = some (.iload_n 1, 1, 1, 0, 0, []) ∧ am_cd 105 47 = some (.iaload, 1, 0, 0, 0, []) ∧ am_cd 105 48 = some (.if_icmp .le 7, 3, 55, 0, 0, []) ∧ am_cd 105 51 = some (.iconst 1, 1, 0, 0, 1, []) ∧ am_cd 105 52 = some (.goto 4, 3, 56, 0, 0, []) ∧ am_cd 105 55 = some (.iconst 0, 1, 0, 0, 0, []) ∧ am_cd 105 56 = some (.istore 4, 2, 4, 0, 0, []) ∧ am_cd 105 58 = some (.iload 4, 2, 4, 0, 0, []) ∧ am_cd 105 60 = some (.ifCond .eq 24, 3, 84, 0, 0, []) ∧ am_cd 105 63 = some (.iload_n 2, 1, 2, 0, 0, []) ∧ am_cd 105 64 = some (.ifCond .lt 18, 3, 82, 0, 0, []) ∧ am_cd 105 67 = some (.aload_n 0, 1, 0, 0, 0, []) ∧ am_cd 105 68 = some (.getfield 13, 3, 7, 3, 0, [0, 616]) ∧ am_cd 105 71 = some (.iload_n 3, 1, 3, 0, 0, []) ∧ am_cd 105 72 = some (.iaload, 1, 0, 0, 0, []) ∧ am_cd 105 73 = some (.aload_n 0, 1, 0, 0, 0, []) ∧ am_cd 105 74 = some (.getfield 13, 3, 7, 3, 0, [0, 616]) ∧ am_cd 105 77 = some (.iload_n 2, 1, 2, 0, 0, []) ∧ am_cd 105 78 = some (.iaload, 1, 0, 0, 0, []) ∧ am_cd 105 79 = some (.if_icmp .ge 5, 3, 84, 0, 0, []) ∧ am_cd 105 82 = some (.iload_n 3, 1, 3, 0, 0, []) ∧ am_cd 105 83 = some (.istore_n 2, 1, 2, 0, 0, []) ∧ am_cd 105 84 = some (.iinc 3 1, 3, 3, 0, 1, []) ∧ am_cd 105 87 = some (.goto (-83), 3, 4, 0, 0, []) ∧ am_cd 105 90 = some (.iload_n 2, 1, 2, 0, 0, []) ∧ am_cd 105 91 = some (.ireturn, 1, 0, 0, 0, []) := ⟨rfl, rfl, rfl, rfl, rfl, rfl, rfl, rfl, rfl, rfl, rfl, rfl, rfl, rfl, rfl, rfl, rfl, rfl, rfl, rfl, rfl, rfl, rfl, rfl, rfl, rfl, rfl, rfl, rfl, rfl, rfl, rfl, rfl, rfl, rfl, rfl, rfl, rfl, rfl, rfl, rfl, rfl, rfl, rfl, rfl, rfl, rfl, rfl, rfl, rfl, rfl, rfl, rfl⟩
theorem cxh_105_4 : am_cd 105 4 = some (.iload_n 3, 1, 3, 0, 0, []) := rfl
theorem en_106 (v0 v1 v2 : Value) : am_en 106 [v0, v1, v2] = [some v0, some v1, some v2, none, none] := by
  have h : am_mx 106 = 5 := by decide +kernel
  unfold am_en
  rw [h]
  rfl
theorem rt_106 : am_ret 106 = 2 := by decide +kernel
theorem kl_106 : am_kl 106 = 7 := by decide +kernel
set_option maxRecDepth 100000 in
theorem cx_106 : am_cd 106 0 = some (.iconst 0, 1, 0, 0, 0, []) ∧ am_cd 106 1 = some (.istore_n 3, 1, 3, 0, 0, []) ∧ am_cd 106 2 = some (.iconst 0, 1, 0, 0, 0, []) ∧ am_cd 106 3 = some (.istore 4, 2, 4, 0, 0, []) ∧ am_cd 106 7 = some (.iconst 3, 1, 0, 0, 3, []) ∧ am_cd 106 8 = some (.if_icmp .ge 61, 3, 69, 0, 0, []) ∧ am_cd 106 11 = some (.iload_n 3, 1, 3, 0, 0, []) ∧ am_cd 106 12 = some (.ifCond .ne 45, 3, 57, 0, 0, []) ∧ am_cd 106 15 = some (.aload_n 0, 1, 0, 0, 0, []) ∧ am_cd 106 16 = some (.getfield 53, 3, 7, 20, 0, [0, 633]) ∧ am_cd 106 19 = some (.iload 4, 2, 4, 0, 0, []) ∧ am_cd 106 21 = some (.baload, 1, 0, 0, 0, []) ∧ am_cd 106 22 = some (.ifCond .eq 39, 3, 61, 0, 0, []) ∧ am_cd 106 25 = some (.aload_n 0, 1, 0, 0, 0, []) ∧ am_cd 106 26 = some (.getfield 13, 3, 7, 3, 0, [0, 616]) ∧ am_cd 106 29 = some (.iload_n 1, 1, 1, 0, 0, []) ∧ am_cd 106 30 = some (.iaload, 1, 0, 0, 0, []) ∧ am_cd 106 31 = some (.aload_n 0, 1, 0, 0, 0, []) ∧ am_cd 106 32 = some (.getfield 56, 3, 7, 21, 0, [0, 634]) ∧ am_cd 106 35 = some (.iload 4, 2, 4, 0, 0, []) ∧ am_cd 106 37 = some (.iaload, 1, 0, 0, 0, []) ∧ am_cd 106 38 = some (.if_icmp .gt 23, 3, 61, 0, 0, []) ∧ am_cd 106 41 = some (.aload_n 0, 1, 0, 0, 0, []) ∧ am_cd 106 42 = some (.getfield 56, 3, 7, 21, 0, [0, 634]) ∧ am_cd 106 45 = some (.iload 4, 2, 4, 0, 0, []) ∧ am_cd 106 47 = some (.iaload, 1, 0, 0, 0, []) ∧ am_cd 106 48 = some (.aload_n 0, 1, 0, 0, 0, []) ∧ am_cd 106 49 = some (.getfield 13, 3, 7, 3, 0, [0, 616]) ∧ am_cd 106 52 = some (.iload_n 2, 1, 2, 0, 0, []) ∧ am_cd 106 53 = some (.iaload, 1, 0, 0, 0, []) ∧ am_cd 106 54 = some (.if_icmp .ge 7, 3, 61, 0, 0, []) ∧ am_cd 106 57 = some (.iconst 1, 1, 0, 0, 1, []) ∧ am_cd 106 58 = some (.goto 4, 3, 62, 0, 0, []) ∧ am_cd 106 61 = some (.iconst 0, 1, 0, 0, 0, []) ∧ am_cd 106 62 = some (.istore_n 3, 1, 3, 0, 0, []) ∧ am_cd 106 63 = some (.iinc 4 1, 3, 4, 0, 1, []) ∧ am_cd 106 66 = some (.goto (-61), 3, 5, 0, 0, []) ∧ am_cd 106 69 = some (.iload_n 3, 1, 3, 0, 0, []) ∧ am_cd 106 70 = some (.ireturn, 1, 0, 0, 0, []) := ⟨rfl, rfl, rfl, rfl, rfl, rfl, rfl, rfl, rfl, rfl, rfl, rfl, rfl, rfl, rfl, rfl, rfl, rfl, rfl, rfl, rfl, rfl, rfl, rfl, rfl, rfl, rfl, rfl, rfl, rfl, rfl, rfl, rfl, rfl, rfl, rfl, rfl, rfl, rfl⟩
theorem cxh_106_5 : am_cd 106 5 = some (.iload 4, 2, 4, 0, 0, []) := rfl
theorem en_107 (v0 v1 : Value) : am_en 107 [v0, v1] = [some v0, some v1] := by
  have h : am_mx 107 = 2 := by decide +kernel
  unfold am_en
  rw [h]
  rfl
theorem rt_107 : am_ret 107 = 2 := by decide +kernel
theorem kl_107 : am_kl 107 = 7 := by decide +kernel
set_option maxRecDepth 100000 in
theorem cx_107 : am_cd 107 0 = some (.aload_n 0, 1, 0, 0, 0, []) ∧ am_cd 107 1 = some (.getfield 19, 3, 7, 5, 0, [0, 618]) ∧ am_cd 107 4 = some (.iload_n 1, 1, 1, 0, 0, []) ∧ am_cd 107 5 = some (.baload, 1, 0, 0, 0, []) ∧ am_cd 107 6 = some (.ifCond .ne 25, 3, 31, 0, 0, []) ∧ am_cd 107 9 = some (.aload_n 0, 1, 0, 0, 0, []) ∧ am_cd 107 10 = some (.getfield 23, 3, 7, 6, 0, [0, 619]) ∧ am_cd 107 13 = some (.iload_n 1, 1, 1, 0, 0, []) ∧ am_cd 107 14 = some (.iaload, 1, 0, 0, 0, []) ∧ am_cd 107 15 = some (.ifCond .le 20, 3, 35, 0, 0, []) ∧ am_cd 107 18 = some (.aload_n 0, 1, 0, 0, 0, []) ∧ am_cd 107 19 = some (.getfield 71, 3, 7, 0, 0, [0, 613]) ∧ am_cd 107 22 = some (.aload_n 0, 1, 0, 0, 0, []) ∧ am_cd 107 23 = some (.getfield 23, 3, 7, 6, 0, [0, 619]) ∧ am_cd 107 26 = some (.iload_n 1, 1, 1, 0, 0, []) ∧ am_cd 107 27 = some (.iaload, 1, 0, 0, 0, []) ∧ am_cd 107 28 = some (.if_icmp .lt 7, 3, 35, 0, 0, []) ∧ am_cd 107 31 = some (.iconst 1, 1, 0, 0, 1, []) ∧ am_cd 107 32 = some (.goto 4, 3, 36, 0, 0, []) ∧ am_cd 107 35 = some (.iconst 0, 1, 0, 0, 0, []) ∧ am_cd 107 36 = some (.ireturn, 1, 0, 0, 0, []) := ⟨rfl, rfl, rfl, rfl, rfl, rfl, rfl, rfl, rfl, rfl, rfl, rfl, rfl, rfl, rfl, rfl, rfl, rfl, rfl, rfl, rfl⟩
theorem en_108 (v0 v1 : Value) : am_en 108 [v0, v1] = [some v0, some v1, none, none] := by
  have h : am_mx 108 = 4 := by decide +kernel
  unfold am_en
  rw [h]
  rfl
theorem rt_108 : am_ret 108 = 2 := by decide +kernel
theorem kl_108 : am_kl 108 = 7 := by decide +kernel
set_option maxRecDepth 100000 in
theorem cx_108 : am_cd 108 0 = some (.iconst 1, 1, 0, 0, 1, []) ∧ am_cd 108 1 = some (.istore_n 2, 1, 2, 0, 0, []) ∧ am_cd 108 2 = some (.iconst 0, 1, 0, 0, 0, []) ∧ am_cd 108 3 = some (.istore_n 3, 1, 3, 0, 0, []) ∧ am_cd 108 5 = some (.aload_n 0, 1, 0, 0, 0, []) ∧ am_cd 108 6 = some (.getfield 75, 3, 7, 1, 0, [0, 614]) ∧ am_cd 108 9 = some (.if_icmp .ge 59, 3, 68, 0, 0, []) ∧ am_cd 108 12 = some (.aload_n 0, 1, 0, 0, 0, []) ∧ am_cd 108 13 = some (.getfield 38, 3, 7, 11, 0, [0, 624]) ∧ am_cd 108 16 = some (.iload_n 3, 1, 3, 0, 0, []) ∧ am_cd 108 17 = some (.baload, 1, 0, 0, 0, []) ∧ am_cd 108 18 = some (.ifCond .eq 44, 3, 62, 0, 0, []) ∧ am_cd 108 21 = some (.aload_n 0, 1, 0, 0, 0, []) ∧ am_cd 108 22 = some (.getfield 41, 3, 7, 12, 0, [0, 625]) ∧ am_cd 108 25 = some (.iload_n 3, 1, 3, 0, 0, []) ∧ am_cd 108 26 = some (.baload, 1, 0, 0, 0, []) ∧ am_cd 108 27 = some (.ifCond .ne 35, 3, 62, 0, 0, []) ∧ am_cd 108 30 = some (.aload_n 0, 1, 0, 0, 0, []) ∧ am_cd 108 31 = some (.getfield 7, 3, 7, 2, 0, [0, 615]) ∧ am_cd 108 34 = some (.iload_n 3, 1, 3, 0, 0, []) ∧ am_cd 108 35 = some (.iaload, 1, 0, 0, 0, []) ∧ am_cd 108 36 = some (.aload_n 0, 1, 0, 0, 0, []) ∧ am_cd 108 37 = some (.getfield 7, 3, 7, 2, 0, [0, 615]) ∧ am_cd 108 40 = some (.iload_n 1, 1, 1, 0, 0, []) ∧ am_cd 108 41 = some (.iaload, 1, 0, 0, 0, []) ∧ am_cd 108 42 = some (.if_icmp .ne 20, 3, 62, 0, 0, []) ∧ am_cd 108 45 = some (.aload_n 0, 1, 0, 0, 0, []) ∧ am_cd 108 46 = some (.getfield 13, 3, 7, 3, 0, [0, 616]) ∧ am_cd 108 49 = some (.iload_n 3, 1, 3, 0, 0, []) ∧ am_cd 108 50 = some (.iaload, 1, 0, 0, 0, []) ∧ am_cd 108 51 = some (.aload_n 0, 1, 0, 0, 0, []) ∧ am_cd 108 52 = some (.getfield 13, 3, 7, 3, 0, [0, 616]) ∧ am_cd 108 55 = some (.iload_n 1, 1, 1, 0, 0, []) ∧ am_cd 108 56 = some (.iaload, 1, 0, 0, 0, []) ∧ am_cd 108 57 = some (.if_icmp .ge 5, 3, 62, 0, 0, []) ∧ am_cd 108 60 = some (.iconst 0, 1, 0, 0, 0, []) ∧ am_cd 108 61 = some (.istore_n 2, 1, 2, 0, 0, []) ∧ am_cd 108 62 = some (.iinc 3 1, 3, 3, 0, 1, []) ∧ am_cd 108 65 = some (.goto (-61), 3, 4, 0, 0, []) ∧ am_cd 108 68 = some (.iload_n 2, 1, 2, 0, 0, []) ∧ am_cd 108 69 = some (.ireturn, 1, 0, 0, 0, []) := ⟨rfl, rfl, rfl, rfl, rfl, rfl, rfl, rfl, rfl, rfl, rfl, rfl, rfl, rfl, rfl, rfl, rfl, rfl, rfl, rfl, rfl, rfl, rfl, rfl, rfl, rfl, rfl, rfl, rfl, rfl, rfl, rfl, rfl, rfl, rfl, rfl, rfl, rfl, rfl, rfl, rfl⟩
theorem cxh_108_4 : am_cd 108 4 = some (.iload_n 3, 1, 3, 0, 0, []) := rfl
theorem en_109 (v0 : Value) : am_en 109 [v0] = [some v0] := by
  have h : am_mx 109 = 1 := by decide +kernel
  unfold am_en
  rw [h]
  rfl
theorem rt_109 : am_ret 109 = 1 := by decide +kernel
theorem kl_109 : am_kl 109 = 7 := by decide +kernel
set_option maxRecDepth 100000 in
theorem cx_109 : am_cd 109 0 = some (.aload_n 0, 1, 0, 0, 0, []) ∧ am_cd 109 1 = some (.iconst 1, 1, 0, 0, 1, []) ∧ am_cd 109 2 = some (.iconst 2, 1, 0, 0, 2, []) ∧ am_cd 109 3 = some (.invokevirtual 99, 3, 103, 3, 0, [0, 740]) ∧ am_cd 109 6 = some (.aload_n 0, 1, 0, 0, 0, []) ∧ am_cd 109 7 = some (.iconst 2, 1, 0, 0, 2, []) ∧ am_cd 109 8 = some (.invokevirtual 103, 3, 104, 2, 0, [0, 744]) ∧ am_cd 109 11 = some (.ireturn, 1, 0, 0, 0, []) := ⟨rfl, rfl, rfl, rfl, rfl, rfl, rfl, rfl⟩
theorem en_110 (v0 : Value) : am_en 110 [v0] = [some v0, none, none, none] := by
  have h : am_mx 110 = 4 := by decide +kernel
  unfold am_en
  rw [h]
  rfl
theorem rt_110 : am_ret 110 = 0 := by decide +kernel
theorem kl_110 : am_kl 110 = 7 := by decide +kernel
set_option maxRecDepth 100000 in
theorem cx_110 : am_cd 110 0 = some (.iconst 0, 1, 0, 0, 0, []) ∧ am_cd 110 1 = some (.istore_n 1, 1, 1, 0, 0, []) ∧ am_cd 110 3 = some (.aload_n 0, 1, 0, 0, 0, []) ∧ am_cd 110 4 = some (.getfield 75, 3, 7, 1, 0, [0, 614]) ∧ am_cd 110 7 = some (.if_icmp .ge 84, 3, 91, 0, 0, []) ∧ am_cd 110 10 = some (.aload_n 0, 1, 0, 0, 0, []) ∧ am_cd 110 11 = some (.getfield 26, 3, 7, 7, 0, [0, 620]) ∧ am_cd 110 14 = some (.iload_n 1, 1, 1, 0, 0, []) ∧ am_cd 110 15 = some (.iaload, 1, 0, 0, 0, []) ∧ am_cd 110 16 = some (.iconst 1, 1, 0, 0, 1, []) ∧ am_cd 110 17 = some (.if_icmp .eq 16, 3, 33, 0, 0, []) ∧ am_cd 110 20 = some (.aload_n 0, 1, 0, 0, 0, []) ∧ am_cd 110 21 = some (.getfield 26, 3, 7, 7, 0, [0, 620]) ∧ am_cd 110 24 = some (.iload_n 1, 1, 1, 0, 0, []) ∧ am_cd 110 25 = some (.iaload, 1, 0, 0, 0, []) ∧ am_cd 110 26 = some (.iconst 2, 1, 0, 0, 2, []) ∧ am_cd 110 27 = some (.if_icmp .eq 6, 3, 33, 0, 0, []) ∧ am_cd 110 30 = some (.goto 55, 3, 85, 0, 0, []) ∧ am_cd 110 33 = some (.iconst 0, 1, 0, 0, 0, []) ∧ am_cd 110 34 = some (.istore_n 2, 1, 2, 0, 0, []) ∧ am_cd 110 35 = some (.iconst 0, 1, 0, 0, 0, []) ∧ am_cd 110 36 = some (.istore_n 3, 1, 3, 0, 0, []) ∧ am_cd 110 38 = some (.aload_n 0, 1, 0, 0, 0, []) ∧ am_cd 110 39 = some (.getfield 75, 3, 7, 1, 0, [0, 614]) ∧ am_cd 110 42 = some (.if_icmp .ge 36, 3, 78, 0, 0, []) ∧ am_cd 110 45 = some (.aload_n 0, 1, 0, 0, 0, []) ∧ am_cd 110 46 = some (.getfield 26, 3, 7, 7, 0, [0, 620]) ∧ am_cd 110 49 = some (.iload_n 3, 1, 3, 0, 0, []) ∧ am_cd 110 50 = some (.iaload, 1, 0, 0, 0, []) ∧ am_cd 110 51 = some (.aload_n 0, 1, 0, 0, 0, []) ∧ am_cd 110 52 = some (.getfield 26, 3, 7, 7, 0, [0, 620]) ∧ am_cd 110 55 = some (.iload_n 1, 1, 1, 0, 0, []) ∧ am_cd 110 56 = some (.iaload, 1, 0, 0, 0, []) ∧ am_cd 110 57 = some (.if_icmp .ne 15, 3, 72, 0, 0, []) ∧ am_cd 110 60 = some (.aload_n 0, 1, 0, 0, 0, []) ∧ am_cd 110 61 = some (.iload_n 3, 1, 3, 0, 0, []) ∧ am_cd 110 62 = some (.iload_n 1, 1, 1, 0, 0, []) ∧ am_cd 110 63 = some (.invokevirtual 78, 3, 111, 3, 0, [0, 772]) ∧ am_cd 110 66 = some (.ifCond .eq 6, 3, 72, 0, 0, []) ∧ am_cd 110 69 = some (.iinc 2 1, 3, 2, 0, 1, []) ∧ am_cd 110 72 = some (.iinc 3 1, 3, 3, 0, 1, []) ∧ am_cd 110 75 = some (.goto (-38), 3, 37, 0, 0, []) ∧ am_cd 110 78 = some (.aload_n 0, 1, 0, 0, 0, []) ∧ am_cd 110 79 = some (.getfield 29, 3, 7, 8, 0, [0, 621]) ∧ am_cd 110 82 = some (.iload_n 1, 1, 1, 0, 0, []) ∧ am_cd 110 83 = some (.iload_n 2, 1, 2, 0, 0, []) ∧ am_cd 110 84 = some (.iastore, 1, 0, 0, 0, []) ∧ am_cd 110 85 = some (.iinc 1 1, 3, 1, 0, 1, []) ∧ am_cd 110 88 = some (.goto (-86), 3, 2, 0, 0, []) ∧ am_cd 110 91 = some (.return_, 1, 0, 0, 0, []) := ⟨rfl, rfl, rfl, rfl, rfl, rfl, rfl, rfl, rfl, rfl, rfl, rfl, rfl, rfl, rfl, rfl, rfl, rfl, rfl, rfl, rfl, rfl, rfl, rfl, rfl, rfl, rfl, rfl, rfl, rfl, rfl, rfl, rfl, rfl, rfl, rfl, rfl, rfl, rfl, rfl, rfl, rfl, rfl, rfl, rfl, rfl, rfl, rfl, rfl, rfl⟩
theorem cxh_110_2 : am_cd 110 2 = some (.iload_n 1, 1, 1, 0, 0, []) := rfl
theorem cxh_110_37 : am_cd 110 37 = some (.iload_n 3, 1, 3, 0, 0, []) := rfl
theorem en_111 (v0 v1 v2 : Value) : am_en 111 [v0, v1, v2] = [some v0, some v1, some v2] := by
  have h : am_mx 111 = 3 := by decide +kernel
  unfold am_en
  rw [h]
  rfl
theorem rt_111 : am_ret 111 = 2 := by decide +kernel
theorem kl_111 : am_kl 111 = 7 := by decide +kernel
set_option maxRecDepth 100000 in
theorem cx_111 : am_cd 111 0 = some (.aload_n 0, 1, 0, 0, 0, []) ∧ am_cd 111 1 = some (.getfield 7, 3, 7, 2, 0, [0, 615]) ∧ am_cd 111 4 = some (.iload_n 1, 1, 1, 0, 0, []) ∧ am_cd 111 5 = some (.iaload, 1, 0, 0, 0, []) ∧ am_cd 111 6 = some (.aload_n 0, 1, 0, 0, 0, []) ∧ am_cd 111 7 = some (.getfield 7, 3, 7, 2, 0, [0, 615]) ∧ am_cd 111 10 = some (.iload_n 2, 1, 2, 0, 0, []) ∧ am_cd 111 11 = some (.iaload, 1, 0, 0, 0, []) ∧ am_cd 111 12 = some (.if_icmp .lt 33, 3, 45, 0, 0, []) ∧ am_cd 111 15 = some (.aload_n 0, 1, 0, 0, 0, []) ∧ am_cd 111 16 = some (.getfield 7, 3, 7, 2, 0, [0, 615]) ∧ am_cd 111 19 = some (.iload_n 1, 1, 1, 0, 0, []) ∧ am_cd 111 20 = some (.iaload, 1, 0, 0, 0, []) ∧ am_cd 111 21 = some (.aload_n 0, 1, 0, 0, 0, []) ∧ am_cd 111 22 = some (.getfield 7, 3, 7, 2, 0, [0, 615]) ∧ am_cd 111 25 = some (.iload_n 2, 1, 2, 0, 0, []) ∧ am_cd 111 26 = some (.iaload, 1, 0, 0, 0, []) ∧ am_cd 111 27 = some (.if_icmp .ne 22, 3, 49, 0, 0, []) ∧ am_cd 111 30 = some (.aload_n 0, 1, 0, 0, 0, []) ∧ am_cd 111 31 = some (.getfield 13, 3, 7, 3, 0, [0, 616]) ∧ am_cd 111 34 = some (.iload_n 1, 1, 1, 0, 0, []) ∧ am_cd 111 35 = some (.iaload, 1, 0, 0, 0, []) ∧ am_cd 111 36 = some (.aload_n 0, 1, 0, 0, 0, []) ∧ am_cd 111 37 = some (.getfield 13, 3, 7, 3, 0, [0, 616]) ∧ am_cd 111 40 = some (.iload_n 2, 1, 2, 0, 0, []) ∧ am_cd 111 41 = some (.iaload, 1, 0, 0, 0, []) ∧ am_cd 111 42 = some (.if_icmp .le 7, 3, 49, 0, 0, []) ∧ am_cd 111 45 = some (.iconst 1, 1, 0, 0, 1, []) ∧ am_cd 111 46 = some (.goto 4, 3, 50, 0, 0, []) ∧ am_cd 111 49 = some (.iconst 0, 1, 0, 0, 0, []) ∧ am_cd 111 50 = some (.ireturn, 1, 0, 0, 0, []) := ⟨rfl, rfl, rfl, rfl, rfl, rfl, rfl, rfl, rfl, rfl, rfl, rfl, rfl, rfl, rfl, rfl, rfl, rfl, rfl, rfl, rfl, rfl, rfl, rfl, rfl, rfl, rfl, rfl, rfl, rfl, rfl⟩
theorem en_112 (v0 v1 : Value) : am_en 112 [v0, v1] = [some v0, some v1, none] := by
  have h : am_mx 112 = 3 := by decide +kernel
  unfold am_en
  rw [h]
  rfl
theorem rt_112 : am_ret 112 = 1 := by decide +kernel
theorem kl_112 : am_kl 112 = 7 := by decide +kernel
set_option maxRecDepth 100000 in
theorem cx_112 : am_cd 112 0 = some (.aload_n 0, 1, 0, 0, 0, []) ∧ am_cd 112 1 = some (.iload_n 1, 1, 1, 0, 0, []) ∧ am_cd 112 2 = some (.invokevirtual 131, 3, 99, 2, 0, [0, 724]) ∧ am_cd 112 5 = some (.ifCond .eq 26, 3, 31, 0, 0, []) ∧ am_cd 112 8 = some (.aload_n 0, 1, 0, 0, 0, []) ∧ am_cd 112 9 = some (.dup, 1, 0, 0, 0, []) ∧ am_cd 112 10 = some (.getfield 128, 3, 7, 23, 0, [0, 636]) ∧ am_cd 112 13 = some (.iconst 1, 1, 0, 0, 1, []) ∧ am_cd 112 14 = some (.iadd, 1, 0, 0, 0, []) ∧ am_cd 112 15 = some (.putfield 128, 3, 7, 23, 0, [0, 636]) ∧ am_cd 112 18 = some (.aload_n 0, 1, 0, 0, 0, []) ∧ am_cd 112 19 = some (.getfield 59, 3, 7, 24, 0, [0, 637]) ∧ am_cd 112 22 = some (.aload_n 0, 1, 0, 0, 0, []) ∧ am_cd 112 23 = some (.getfield 128, 3, 7, 23, 0, [0, 636]) ∧ am_cd 112 26 = some (.bipush 8, 2, 0, 0, 8, []) ∧ am_cd 112 28 = some (.irem, 1, 0, 0, 0, []) ∧ am_cd 112 29 = some (.iconst 0, 1, 0, 0, 0, []) ∧ am_cd 112 30 = some (.iastore, 1, 0, 0, 0, []) ∧ am_cd 112 31 = some (.aload_n 0, 1, 0, 0, 0, []) ∧ am_cd 112 32 = some (.getfield 59, 3, 7, 24, 0, [0, 637]) ∧ am_cd 112 35 = some (.aload_n 0, 1, 0, 0, 0, []) ∧ am_cd 112 36 = some (.getfield 128, 3, 7, 23, 0, [0, 636]) ∧ am_cd 112 39 = some (.bipush 8, 2, 0, 0, 8, []) ∧ am_cd 112 41 = some (.irem, 1, 0, 0, 0, []) ∧ am_cd 112 42 = some (.iaload, 1, 0, 0, 0, []) ∧ am_cd 112 43 = some (.iconst 1, 1, 0, 0, 1, []) ∧ am_cd 112 44 = some (.iadd, 1, 0, 0, 0, []) ∧ am_cd 112 45 = some (.istore_n 2, 1, 2, 0, 0, []) ∧ am_cd 112 46 = some (.aload_n 0, 1, 0, 0, 0, []) ∧ am_cd 112 47 = some (.getfield 59, 3, 7, 24, 0, [0, 637]) ∧ am_cd 112 50 = some (.aload_n 0, 1, 0, 0, 0, []) ∧ am_cd 112 51 = some (.getfield 128, 3, 7, 23, 0, [0, 636]) ∧ am_cd 112 54 = some (.bipush 8, 2, 0, 0, 8, []) ∧ am_cd 112 56 = some (.irem, 1, 0, 0, 0, []) ∧ am_cd 112 57 = some (.iload_n 2, 1, 2, 0, 0, []) ∧ am_cd 112 58 = some (.iload_n 1, 1, 1, 0, 0, []) ∧ am_cd 112 59 = some (.iadd, 1, 0, 0, 0, []) ∧ am_cd 112 60 = some (.iastore, 1, 0, 0, 0, []) ∧ am_cd 112 61 = some (.iload_n 2, 1, 2, 0, 0, []) ∧ am_cd 112 62 = some (.ireturn, 1, 0, 0, 0, []) := ⟨rfl, rfl, rfl, rfl, rfl, rfl, rfl, rfl, rfl, rfl, rfl, rfl, rfl, rfl, rfl, rfl, rfl, rfl, rfl, rfl, rfl, rfl, rfl, rfl, rfl, rfl, rfl, rfl, rfl, rfl, rfl, rfl, rfl, rfl, rfl, rfl, rfl, rfl, rfl, rfl⟩
theorem en_113 (v0 : Value) : am_en 113 [v0] = [some v0, none] := by
  have h : am_mx 113 = 2 := by decide +kernel
  unfold am_en
  rw [h]
  rfl
theorem rt_113 : am_ret 113 = 1 := by decide +kernel
theorem kl_113 : am_kl 113 = 7 := by decide +kernel
set_option maxRecDepth 100000 in
theorem cx_113 : am_cd 113 0 = some (.aload_n 0, 1, 0, 0, 0, []) ∧ am_cd 113 1 = some (.getfield 125, 3, 7, 25, 0, [0, 638]) ∧ am_cd 113 4 = some (.istore_n 1, 1, 1, 0, 0, []) ∧ am_cd 113 5 = some (.aload_n 0, 1, 0, 0, 0, []) ∧ am_cd 113 6 = some (.iconst 0, 1, 0, 0, 0, []) ∧ am_cd 113 7 = some (.putfield 125, 3, 7, 25, 0, [0, 638]) ∧ am_cd 113 10 = some (.iload_n 1, 1, 1, 0, 0, []) ∧ am_cd 113 11 = some (.ireturn, 1, 0, 0, 0, []) := ⟨rfl, rfl, rfl, rfl, rfl, rfl, rfl, rfl⟩
theorem en_114 (v0 : Value) : am_en 114 [v0] = [some v0, none] := by
  have h : am_mx 114 = 2 := by decide +kernel
  unfold am_en
  rw [h]
  rfl
theorem rt_114 : am_ret 114 = 1 := by decide +kernel
theorem kl_114 : am_kl 114 = 7 := by decide +kernel
set_option maxRecDepth 100000 in
theorem cx_114 : am_cd 114 0 = some (.aload_n 0, 1, 0, 0, 0, []) ∧ am_cd 114 1 = some (.iconst (-1), 1, 0, 0, (-1), []) ∧ am_cd 114 2 = some (.invokevirtual 109, 3, 100, 2, 0, [0, 728]) ∧ am_cd 114 5 = some (.istore_n 1, 1, 1, 0, 0, []) ∧ am_cd 114 6 = some (.aload_n 0, 1, 0, 0, 0, []) ∧ am_cd 114 7 = some (.invokevirtual 147, 3, 101, 1, 0, [0, 732]) ∧ am_cd 114 10 = some (.iload_n 1, 1, 1, 0, 0, []) ∧ am_cd 114 11 = some (.ireturn, 1, 0, 0, 0, []) := ⟨rfl, rfl, rfl, rfl, rfl, rfl, rfl, rfl⟩
theorem en_115 (v0 v1 : Value) : am_en 115 [v0, v1] = [some v0, some v1] := by
  have h : am_mx 115 = 2 := by decide +kernel
  unfold am_en
  rw [h]
  rfl
theorem rt_115 : am_ret 115 = 1 := by decide +kernel
theorem kl_115 : am_kl 115 = 7 := by decide +kernel
set_option maxRecDepth 100000 in
theorem cx_115 : am_cd 115 0 = some (.iload_n 1, 1, 1, 0, 0, []) ∧ am_cd 115 1 = some (.ifCond .lt 8, 3, 9, 0, 0, []) ∧ am_cd 115 4 = some (.iload_n 1, 1, 1, 0, 0, []) ∧ am_cd 115 5 = some (.iconst 1, 1, 0, 0, 1, []) ∧ am_cd 115 6 = some (.if_icmp .le 5, 3, 11, 0, 0, []) ∧ am_cd 115 9 = some (.iconst (-1), 1, 0, 0, (-1), []) ∧ am_cd 115 10 = some (.ireturn, 1, 0, 0, 0, []) ∧ am_cd 115 11 = some (.aload_n 0, 1, 0, 0, 0, []) ∧ am_cd 115 12 = some (.iload_n 1, 1, 1, 0, 0, []) ∧ am_cd 115 13 = some (.invokevirtual 109, 3, 100, 2, 0, [0, 728]) ∧ am_cd 115 16 = some (.ifCond .ne 8, 3, 24, 0, 0, []) ∧ am_cd 115 19 = some (.bipush (-2), 2, 0, 0, (-2), []) ∧ am_cd 115 21 = some (.goto 8, 3, 29, 0, 0, []) ∧ am_cd 115 24 = some (.aload_n 0, 1, 0, 0, 0, []) ∧ am_cd 115 25 = some (.iload_n 1, 1, 1, 0, 0, []) ∧ am_cd 115 26 = some (.invokevirtual 119, 3, 102, 2, 0, [0, 736]) ∧ am_cd 115 29 = some (.ireturn, 1, 0, 0, 0, []) := ⟨rfl, rfl, rfl, rfl, rfl, rfl, rfl, rfl, rfl, rfl, rfl, rfl, rfl, rfl, rfl, rfl, rfl⟩
theorem en_116 (v0 : Value) : am_en 116 [v0] = [some v0, none, none, none, none, none, none] := by
  have h : am_mx 116 = 7 := by decide +kernel
  unfold am_en
  rw [h]
  rfl
theorem rt_116 : am_ret 116 = 1 := by decide +kernel
theorem kl_116 : am_kl 116 = 7 := by decide +kernel
set_option maxRecDepth 100000 in
theorem cx_116 : am_cd 116 0 = some (.aload_n 0, 1, 0, 0, 0, []) ∧ am_cd 116 1 = some (.getfield 144, 3, 7, 22, 0, [0, 635]) ∧ am_cd 116 4 = some (.aload_n 0, 1, 0, 0, 0, []) ∧ am_cd 116 5 = some (.getfield 128, 3, 7, 23, 0, [0, 636]) ∧ am_cd 116 8 = some (.if_icmp .ne 6, 3, 14, 0, 0, []) ∧ am_cd 116 11 = some (.bipush (-2), 2, 0, 0, (-2), []) ∧ am_cd 116 13 = some (.ireturn, 1, 0, 0, 0, []) ∧ am_cd 116 14 = some (.aload_n 0, 1, 0, 0, 0, []) ∧ am_cd 116 15 = some (.invokevirtual 147, 3, 101, 1, 0, [0, 732]) ∧ am_cd 116 18 = some (.aload_n 0, 1, 0, 0, 0, []) ∧ am_cd 116 19 = some (.aload_n 0, 1, 0, 0, 0, []) ∧ am_cd 116 20 = some (.getfield 144, 3, 7, 22, 0, [0, 635]) ∧ am_cd 116 23 = some (.invokevirtual 156, 3, 117, 2, 0, [0, 796]) ∧ am_cd 116 26 = some (.istore_n 1, 1, 1, 0, 0, []) ∧ am_cd 116 27 = some (.aload_n 0, 1, 0, 0, 0, []) ∧ am_cd 116 28 = some (.getfield 128, 3, 7, 23, 0, [0, 636]) ∧ am_cd 116 31 = some (.aload_n 0, 1, 0, 0, 0, []) ∧ am_cd 116 32 = some (.getfield 144, 3, 7, 22, 0, [0, 635]) ∧ am_cd 116 35 = some (.isub, 1, 0, 0, 0, []) ∧ am_cd 116 36 = some (.iconst 1, 1, 0, 0, 1, []) ∧ am_cd 116 37 = some (.iadd, 1, 0, 0, 0, []) ∧ am_cd 116 38 = some (.aload_n 0, 1, 0, 0, 0, []) ∧ am_cd 116 39 = some (.iload_n 1, 1, 1, 0, 0, []) ∧ am_cd 116 40 = some (.invokevirtual 159, 3, 119, 2, 0, [0, 804]) ∧ am_cd 116 43 = some (.iadd, 1, 0, 0, 0, []) ∧ am_cd 116 44 = some (.bipush 8, 2, 0, 0, 8, []) ∧ am_cd 116 46 = some (.if_icmp .le 6, 3, 52, 0, 0, []) ∧ am_cd 116 49 = some (.bipush (-3), 2, 0, 0, (-3), []) ∧ am_cd 116 51 = some (.ireturn, 1, 0, 0, 0, []) ∧ am_cd 116 52 = some (.iload_n 1, 1, 1, 0, 0, []) ∧ am_cd 116 53 = some (.istore_n 2, 1, 2, 0, 0, []) ∧ am_cd 116 55 = some (.ifCond .le 75, 3, 130, 0, 0, []) ∧ am_cd 116 58 = some (.iload_n 2, 1, 2, 0, 0, []) ∧ am_cd 116 59 = some (.bipush 6, 2, 0, 0, 6, []) ∧ am_cd 116 61 = some (.if_icmp .ge 7, 3, 68, 0, 0, []) ∧ am_cd 116 64 = some (.iload_n 2, 1, 2, 0, 0, []) ∧ am_cd 116 65 = some (.goto 5, 3, 70, 0, 0, []) ∧ am_cd 116 68 = some (.bipush 6, 2, 0, 0, 6, []) ∧ am_cd 116 70 = some (.istore_n 3, 1, 3, 0, 0, []) ∧ am_cd 116 71 = some (.aload_n 0, 1, 0, 0, 0, []) ∧ am_cd 116 72 = some (.iload_n 3, 1, 3, 0, 0, []) ∧ am_cd 116 73 = some (.invokevirtual 150, 3, 112, 2, 0, [0, 776]) ∧ am_cd 116 76 = some (.istore 4, 2, 4, 0, 0, []) ∧ am_cd 116 78 = some (.iconst 0, 1, 0, 0, 0, []) ∧ am_cd 116 79 = some (.istore 5, 2, 5, 0, 0, []) ∧ am_cd 116 83 = some (.iload_n 3, 1, 3, 0, 0, []) ∧ am_cd 116 84 = some (.if_icmp .ge 38, 3, 122, 0, 0, []) ∧ am_cd 116 87 = some (.aload_n 0, 1, 0, 0, 0, []) ∧ am_cd 116 88 = some (.invokevirtual 162, 3, 120, 1, 0, [0, 808]) ∧ am_cd 116 91 = some (.istore 6, 2, 6, 0, 0, []) ∧ am_cd 116 93 = some (.aload_n 0, 1, 0, 0, 0, []) ∧ am_cd 116 94 = some (.getfield 32, 3, 7, 9, 0, [0, 622]) ∧ am_cd 116 97 = some (.iload 6, 2, 6, 0, 0, []) ∧ am_cd 116 99 = some (.aload_n 0, 1, 0, 0, 0, []) ∧ am_cd 116 100 = some (.getfield 128, 3, 7, 23, 0, [0, 636]) ∧ am_cd 116 103 = some (.iastore, 1, 0, 0, 0, []) ∧ am_cd 116 104 = some (.aload_n 0, 1, 0, 0, 0, []) ∧ am_cd 116 105 = some (.getfield 35, 3, 7, 10, 0, [0, 623]) ∧ am_cd 116 108 = some (.iload 6, 2, 6, 0, 0, []) ∧ am_cd 116 110 = some (.iload 4, 2, 4, 0, 0, []) ∧ am_cd 116 112 = some (.iload 5, 2, 5, 0, 0, []) ∧ am_cd 116 114 = some (.iadd, 1, 0, 0, 0, []) ∧ am_cd 116 115 = some (.iastore, 1, 0, 0, 0, []) ∧ am_cd 116 116 = some (.iinc 5 1, 3, 5, 0, 1, []) ∧ am_cd 116 119 = some (.goto (-38), 3, 81, 0, 0, []) ∧ am_cd 116 122 = some (.iload_n 2, 1, 2, 0, 0, []) ∧ am_cd 116 123 = some (.bipush 6, 2, 0, 0, 6, []) ∧ am_cd 116 125 = some (.isub, 1, 0, 0, 0, []) ∧ am_cd 116 126 = some (.istore_n 2, 1, 2, 0, 0, []) ∧ am_cd 116 127 = some (.goto (-73), 3, 54, 0, 0, []) ∧ am_cd 116 130 = some (.aload_n 0, 1, 0, 0, 0, []) ∧ am_cd 116 131 = some (.iconst 0, 1, 0, 0, 0, []) ∧ am_cd 116 132 = some (.putfield 125, 3, 7, 25, 0, [0, 638]) ∧ am_cd 116 135 = some (.aload_n 0, 1, 0, 0, 0, []) ∧ am_cd 116 136 = some (.dup, 1, 0, 0, 0, []) ∧ am_cd 116 137 = some (.getfield 144, 3, 7, 22, 0, [0, 635]) ∧ am_cd 116 140 = some (.iconst 1, 1, 0, 0, 1, []) ∧ am_cd 116 141 = some (.iadd, 1, 0, 0, 0, []) ∧ am_cd 116 142 = some (.putfield 144, 3, 7, 22, 0, [0, 635]) ∧ am_cd 116 145 = some (.iload_n 1, 1, 1, 0, 0, []) ∧ am_cd 116 146 = some (.ireturn, 1, 0, 0, 0, []) := ⟨rfl, rfl, rfl, rfl, rfl, rfl, rfl, rfl, rfl, rfl, rfl, rfl, rfl, rfl, rfl, rfl, rfl, rfl, rfl, rfl, rfl, rfl, rfl, rfl, rfl, rfl, rfl, rfl, rfl, rfl, rfl, rfl, rfl, rfl, rfl, rfl, rfl, rfl, rfl, rfl, rfl, rfl, rfl, rfl, rfl, rfl, rfl, rfl, rfl, rfl, rfl, rfl, rfl, rfl, rfl, rfl, rfl, rfl, rfl, rfl, rfl, rfl, rfl, rfl, rfl, rfl, rfl, rfl, rfl, rfl, rfl, rfl, rfl, rfl, rfl, rfl, rfl, rfl, rfl, rfl, rfl⟩
theorem cxh_116_54 : am_cd 116 54 = some (.iload_n 2, 1, 2, 0, 0, []) := rfl
theorem cxh_116_81 : am_cd 116 81 = some (.iload 5, 2, 5, 0, 0, []) := rfl
theorem en_117 (v0 v1 : Value) : am_en 117 [v0, v1] = [some v0, some v1, none, none] := by
  have h : am_mx 117 = 4 := by decide +kernel
  unfold am_en
  rw [h]
  rfl
theorem rt_117 : am_ret 117 = 1 := by decide +kernel
theorem kl_117 : am_kl 117 = 7 := by decide +kernel
set_option maxRecDepth 100000 in
theorem cx_117 : am_cd 117 0 = some (.iconst 0, 1, 0, 0, 0, []) ∧ am_cd 117 1 = some (.istore_n 2, 1, 2, 0, 0, []) ∧ am_cd 117 2 = some (.iconst 0, 1, 0, 0, 0, []) ∧ am_cd 117 3 = some (.istore_n 3, 1, 3, 0, 0, []) ∧ am_cd 117 5 = some (.aload_n 0, 1, 0, 0, 0, []) ∧ am_cd 117 6 = some (.getfield 75, 3, 7, 1, 0, [0, 614]) ∧ am_cd 117 9 = some (.if_icmp .ge 21, 3, 30, 0, 0, []) ∧ am_cd 117 12 = some (.aload_n 0, 1, 0, 0, 0, []) ∧ am_cd 117 13 = some (.iload_n 3, 1, 3, 0, 0, []) ∧ am_cd 117 14 = some (.iload_n 1, 1, 1, 0, 0, []) ∧ am_cd 117 15 = some (.invokevirtual 153, 3, 118, 3, 0, [0, 800]) ∧ am_cd 117 18 = some (.ifCond .eq 6, 3, 24, 0, 0, []) ∧ am_cd 117 21 = some (.iinc 2 1, 3, 2, 0, 1, []) ∧ am_cd 117 24 = some (.iinc 3 1, 3, 3, 0, 1, []) ∧ am_cd 117 27 = some (.goto (-23), 3, 4, 0, 0, []) ∧ am_cd 117 30 = some (.iload_n 2, 1, 2, 0, 0, []) ∧ am_cd 117 31 = some (.ireturn, 1, 0, 0, 0, []) := ⟨rfl, rfl, rfl, rfl, rfl, rfl, rfl, rfl, rfl, rfl, rfl, rfl, rfl, rfl, rfl, rfl, rfl⟩
theorem cxh_117_4 : am_cd 117 4 = some (.iload_n 3, 1, 3, 0, 0, []) := rfl
theorem en_118 (v0 v1 v2 : Value) : am_en 118 [v0, v1, v2] = [some v0, some v1, some v2] := by
  have h : am_mx 118 = 3 := by decide +kernel
  unfold am_en
  rw [h]
  rfl
theorem rt_118 : am_ret 118 = 2 := by decide +kernel
theorem kl_118 : am_kl 118 = 7 := by decide +kernel
set_option maxRecDepth 100000 in
theorem cx_118 : am_cd 118 0 = some (.aload_n 0, 1, 0, 0, 0, []) ∧ am_cd 118 1 = some (.getfield 26, 3, 7, 7, 0, [0, 620]) ∧ am_cd 118 4 = some (.iload_n 1, 1, 1, 0, 0, []) ∧ am_cd 118 5 = some (.iaload, 1, 0, 0, 0, []) ∧ am_cd 118 6 = some (.bipush 9, 2, 0, 0, 9, []) ∧ am_cd 118 8 = some (.if_icmp .eq 26, 3, 34, 0, 0, []) ∧ am_cd 118 11 = some (.aload_n 0, 1, 0, 0, 0, []) ∧ am_cd 118 12 = some (.getfield 19, 3, 7, 5, 0, [0, 618]) ∧ am_cd 118 15 = some (.iload_n 1, 1, 1, 0, 0, []) ∧ am_cd 118 16 = some (.baload, 1, 0, 0, 0, []) ∧ am_cd 118 17 = some (.ifCond .ne 17, 3, 34, 0, 0, []) ∧ am_cd 118 20 = some (.aload_n 0, 1, 0, 0, 0, []) ∧ am_cd 118 21 = some (.getfield 32, 3, 7, 9, 0, [0, 622]) ∧ am_cd 118 24 = some (.iload_n 1, 1, 1, 0, 0, []) ∧ am_cd 118 25 = some (.iaload, 1, 0, 0, 0, []) ∧ am_cd 118 26 = some (.iload_n 2, 1, 2, 0, 0, []) ∧ am_cd 118 27 = some (.if_icmp .ne 7, 3, 34, 0, 0, []) ∧ am_cd 118 30 = some (.iconst 1, 1, 0, 0, 1, []) ∧ am_cd 118 31 = some (.goto 4, 3, 35, 0, 0, []) ∧ am_cd 118 34 = some (.iconst 0, 1, 0, 0, 0, []) ∧ am_cd 118 35 = some (.ireturn, 1, 0, 0, 0, []) := ⟨rfl, rfl, rfl, rfl, rfl, rfl, rfl, rfl, rfl, rfl, rfl, rfl, rfl, rfl, rfl, rfl, rfl, rfl, rfl, rfl, rfl⟩
theorem en_119 (v0 v1 : Value) : am_en 119 [v0, v1] = [some v0, some v1, none, none, none, none] := by
  have h : am_mx 119 = 6 := by decide +kernel
  unfold am_en
  rw [h]
  rfl
theorem rt_119 : am_ret 119 = 1 := by decide +kernel
theorem kl_119 : am_kl 119 = 7 := by decide +kernel
set_option maxRecDepth 100000 in
theorem cx_119 : am_cd 119 0 = some (.iconst 0, 1, 0, 0, 0, []) ∧ am_cd 119 1 = some (.istore_n 2, 1, 2, 0, 0, []) ∧ am_cd 119 2 = some (.aload_n 0, 1, 0, 0, 0, []) ∧ am_cd 119 3 = some (.getfield 59, 3, 7, 24, 0, [0, 637]) ∧ am_cd 119 6 = some (.aload_n 0, 1, 0, 0, 0, []) ∧ am_cd 119 7 = some (.getfield 128, 3, 7, 23, 0, [0, 636]) ∧ am_cd 119 10 = some (.bipush 8, 2, 0, 0, 8, []) ∧ am_cd 119 12 = some (.irem, 1, 0, 0, 0, []) ∧ am_cd 119 13 = some (.iaload, 1, 0, 0, 0, []) ∧ am_cd 119 14 = some (.istore_n 3, 1, 3, 0, 0, []) ∧ am_cd 119 15 = some (.iload_n 1, 1, 1, 0, 0, []) ∧ am_cd 119 16 = some (.istore 4, 2, 4, 0, 0, []) ∧ am_cd 119 20 = some (.ifCond .le 50, 3, 70, 0, 0, []) ∧ am_cd 119 23 = some (.iconst 1, 1, 0, 0, 1, []) ∧ am_cd 119 24 = some (.iload 4, 2, 4, 0, 0, []) ∧ am_cd 119 26 = some (.bipush 6, 2, 0, 0, 6, []) ∧ am_cd 119 28 = some (.if_icmp .ge 8, 3, 36, 0, 0, []) ∧ am_cd 119 31 = some (.iload 4, 2, 4, 0, 0, []) ∧ am_cd 119 33 = some (.goto 5, 3, 38, 0, 0, []) ∧ am_cd 119 36 = some (.bipush 6, 2, 0, 0, 6, []) ∧ am_cd 119 38 = some (.iadd, 1, 0, 0, 0, []) ∧ am_cd 119 39 = some (.istore 5, 2, 5, 0, 0, []) ∧ am_cd 119 41 = some (.iload_n 3, 1, 3, 0, 0, []) ∧ am_cd 119 42 = some (.iload 5, 2, 5, 0, 0, []) ∧ am_cd 119 44 = some (.iadd, 1, 0, 0, 0, []) ∧ am_cd 119 45 = some (.bipush 16, 2, 0, 0, 16, []) ∧ am_cd 119 47 = some (.if_icmp .le 8, 3, 55, 0, 0, []) ∧ am_cd 119 50 = some (.iinc 2 1, 3, 2, 0, 1, []) ∧ am_cd 119 53 = some (.iconst 0, 1, 0, 0, 0, []) ∧ am_cd 119 54 = some (.istore_n 3, 1, 3, 0, 0, []) ∧ am_cd 119 55 = some (.iload_n 3, 1, 3, 0, 0, []) ∧ am_cd 119 56 = some (.iload 5, 2, 5, 0, 0, []) ∧ am_cd 119 58 = some (.iadd, 1, 0, 0, 0, []) ∧ am_cd 119 59 = some (.istore_n 3, 1, 3, 0, 0, []) ∧ am_cd 119 60 = some (.iload 4, 2, 4, 0, 0, []) ∧ am_cd 119 62 = some (.bipush 6, 2, 0, 0, 6, []) ∧ am_cd 119 64 = some (.isub, 1, 0, 0, 0, []) ∧ am_cd 119 65 = some (.istore 4, 2, 4, 0, 0, []) ∧ am_cd 119 67 = some (.goto (-49), 3, 18, 0, 0, []) ∧ am_cd 119 70 = some (.iload_n 2, 1, 2, 0, 0, []) ∧ am_cd 119 71 = some (.ireturn, 1, 0, 0, 0, []) := ⟨rfl, rfl, rfl, rfl, rfl, rfl, rfl, rfl, rfl, rfl, rfl, rfl, rfl, rfl, rfl, rfl, rfl, rfl, rfl, rfl, rfl, rfl, rfl, rfl, rfl, rfl, rfl, rfl, rfl, rfl, rfl, rfl, rfl, rfl, rfl, rfl, rfl, rfl, rfl, rfl, rfl⟩
theorem cxh_119_18 : am_cd 119 18 = some (.iload 4, 2, 4, 0, 0, []) := rfl
theorem en_120 (v0 : Value) : am_en 120 [v0] = [some v0, none, none] := by
  have h : am_mx 120 = 3 := by decide +kernel
  unfold am_en
  rw [h]
  rfl
theorem rt_120 : am_ret 120 = 1 := by decide +kernel
theorem kl_120 : am_kl 120 = 7 := by decide +kernel
set_option maxRecDepth 100000 in
theorem cx_120 : am_cd 120 0 = some (.iconst (-1), 1, 0, 0, (-1), []) ∧ am_cd 120 1 = some (.istore_n 1, 1, 1, 0, 0, []) ∧ am_cd 120 2 = some (.iconst 0, 1, 0, 0, 0, []) ∧ am_cd 120 3 = some (.istore_n 2, 1, 2, 0, 0, []) ∧ am_cd 120 5 = some (.aload_n 0, 1, 0, 0, 0, []) ∧ am_cd 120 6 = some (.getfield 75, 3, 7, 1, 0, [0, 614]) ∧ am_cd 120 9 = some (.if_icmp .ge 42, 3, 51, 0, 0, []) ∧ am_cd 120 12 = some (.aload_n 0, 1, 0, 0, 0, []) ∧ am_cd 120 13 = some (.iload_n 2, 1, 2, 0, 0, []) ∧ am_cd 120 14 = some (.aload_n 0, 1, 0, 0, 0, []) ∧ am_cd 120 15 = some (.getfield 144, 3, 7, 22, 0, [0, 635]) ∧ am_cd 120 18 = some (.invokevirtual 153, 3, 118, 3, 0, [0, 800]) ∧ am_cd 120 21 = some (.ifCond .eq 24, 3, 45, 0, 0, []) ∧ am_cd 120 24 = some (.iload_n 1, 1, 1, 0, 0, []) ∧ am_cd 120 25 = some (.ifCond .lt 18, 3, 43, 0, 0, []) ∧ am_cd 120 28 = some (.aload_n 0, 1, 0, 0, 0, []) ∧ am_cd 120 29 = some (.getfield 35, 3, 7, 10, 0, [0, 623]) ∧ am_cd 120 32 = some (.iload_n 2, 1, 2, 0, 0, []) ∧ am_cd 120 33 = some (.iaload, 1, 0, 0, 0, []) ∧ am_cd 120 34 = some (.aload_n 0, 1, 0, 0, 0, []) ∧ am_cd 120 35 = some (.getfield 35, 3, 7, 10, 0, [0, 623]) ∧ am_cd 120 38 = some (.iload_n 1, 1, 1, 0, 0, []) ∧ am_cd 120 39 = some (.iaload, 1, 0, 0, 0, []) ∧ am_cd 120 40 = some (.if_icmp .ge 5, 3, 45, 0, 0, []) ∧ am_cd 120 43 = some (.iload_n 2, 1, 2, 0, 0, []) ∧ am_cd 120 44 = some (.istore_n 1, 1, 1, 0, 0, []) ∧ am_cd 120 45 = some (.iinc 2 1, 3, 2, 0, 1, []) ∧ am_cd 120 48 = some (.goto (-44), 3, 4, 0, 0, []) ∧ am_cd 120 51 = some (.iload_n 1, 1, 1, 0, 0, []) ∧ am_cd 120 52 = some (.ireturn, 1, 0, 0, 0, []) := ⟨rfl, rfl, rfl, rfl, rfl, rfl, rfl, rfl, rfl, rfl, rfl, rfl, rfl, rfl, rfl, rfl, rfl, rfl, rfl, rfl, rfl, rfl, rfl, rfl, rfl, rfl, rfl, rfl, rfl, rfl⟩
theorem cxh_120_4 : am_cd 120 4 = some (.iload_n 2, 1, 2, 0, 0, []) := rfl
theorem en_121 (v0 : Value) : am_en 121 [v0] = [some v0, none] := by
  have h : am_mx 121 = 2 := by decide +kernel
  unfold am_en
  rw [h]
  rfl
theorem rt_121 : am_ret 121 = 1 := by decide +kernel
theorem kl_121 : am_kl 121 = 7 := by decide +kernel
set_option maxRecDepth 100000 in
theorem cx_121 : am_cd 121 0 = some (.iconst 0, 1, 0, 0, 0, []) ∧ am_cd 121 1 = some (.istore_n 1, 1, 1, 0, 0, []) ∧ am_cd 121 3 = some (.iconst 3, 1, 0, 0, 3, []) ∧ am_cd 121 4 = some (.if_icmp .ge 37, 3, 41, 0, 0, []) ∧ am_cd 121 7 = some (.aload_n 0, 1, 0, 0, 0, []) ∧ am_cd 121 8 = some (.getfield 53, 3, 7, 20, 0, [0, 633]) ∧ am_cd 121 11 = some (.iload_n 1, 1, 1, 0, 0, []) ∧ am_cd 121 12 = some (.baload, 1, 0, 0, 0, []) ∧ am_cd 121 13 = some (.ifCond .ne 22, 3, 35, 0, 0, []) ∧ am_cd 121 16 = some (.aload_n 0, 1, 0, 0, 0, []) ∧ am_cd 121 17 = some (.getfield 53, 3, 7, 20, 0, [0, 633]) ∧ am_cd 121 20 = some (.iload_n 1, 1, 1, 0, 0, []) ∧ am_cd 121 21 = some (.iconst 1, 1, 0, 0, 1, []) ∧ am_cd 121 22 = some (.bastore, 1, 0, 0, 0, []) ∧ am_cd 121 23 = some (.aload_n 0, 1, 0, 0, 0, []) ∧ am_cd 121 24 = some (.getfield 56, 3, 7, 21, 0, [0, 634]) ∧ am_cd 121 27 = some (.iload_n 1, 1, 1, 0, 0, []) ∧ am_cd 121 28 = some (.aload_n 0, 1, 0, 0, 0, []) ∧ am_cd 121 29 = some (.getfield 89, 3, 7, 15, 0, [0, 628]) ∧ am_cd 121 32 = some (.iastore, 1, 0, 0, 0, []) ∧ am_cd 121 33 = some (.iload_n 1, 1, 1, 0, 0, []) ∧ am_cd 121 34 = some (.ireturn, 1, 0, 0, 0, []) ∧ am_cd 121 35 = some (.iinc 1 1, 3, 1, 0, 1, []) ∧ am_cd 121 38 = some (.goto (-36), 3, 2, 0, 0, []) ∧ am_cd 121 41 = some (.bipush (-3), 2, 0, 0, (-3), []) ∧ am_cd 121 43 = some (.ireturn, 1, 0, 0, 0, []) := ⟨rfl, rfl, rfl, rfl, rfl, rfl, rfl, rfl, rfl, rfl, rfl, rfl, rfl, rfl, rfl, rfl, rfl, rfl, rfl, rfl, rfl, rfl, rfl, rfl, rfl, rfl⟩
theorem cxh_121_2 : am_cd 121 2 = some (.iload_n 1, 1, 1, 0, 0, []) := rfl
theorem en_122 (v0 v1 : Value) : am_en 122 [v0, v1] = [some v0, some v1, none] := by
  have h : am_mx 122 = 3 := by decide +kernel
  unfold am_en
  rw [h]
  rfl
theorem rt_122 : am_ret 122 = 2 := by decide +kernel
theorem kl_122 : am_kl 122 = 7 := by decide +kernel
set_option maxRecDepth 100000 in
theorem cx_122 : am_cd 122 0 = some (.iload_n 1, 1, 1, 0, 0, []) ∧ am_cd 122 1 = some (.ifCond .lt 8, 3, 9, 0, 0, []) ∧ am_cd 122 4 = some (.iload_n 1, 1, 1, 0, 0, []) ∧ am_cd 122 5 = some (.iconst 2, 1, 0, 0, 2, []) ∧ am_cd 122 6 = some (.if_icmp .le 5, 3, 11, 0, 0, []) ∧ am_cd 122 9 = some (.iconst 0, 1, 0, 0, 0, []) ∧ am_cd 122 10 = some (.ireturn, 1, 0, 0, 0, []) ∧ am_cd 122 11 = some (.aload_n 0, 1, 0, 0, 0, []) ∧ am_cd 122 12 = some (.getfield 53, 3, 7, 20, 0, [0, 633]) ∧ am_cd 122 15 = some (.iload_n 1, 1, 1, 0, 0, []) ∧ am_cd 122 16 = some (.baload, 1, 0, 0, 0, []) ∧ am_cd 122 17 = some (.istore_n 2, 1, 2, 0, 0, []) ∧ am_cd 122 18 = some (.aload_n 0, 1, 0, 0, 0, []) ∧ am_cd 122 19 = some (.getfield 53, 3, 7, 20, 0, [0, 633]) ∧ am_cd 122 22 = some (.iload_n 1, 1, 1, 0, 0, []) ∧ am_cd 122 23 = some (.iconst 0, 1, 0, 0, 0, []) ∧ am_cd 122 24 = some (.bastore, 1, 0, 0, 0, []) ∧ am_cd 122 25 = some (.iload_n 2, 1, 2, 0, 0, []) ∧ am_cd 122 26 = some (.ireturn, 1, 0, 0, 0, []) := ⟨rfl, rfl, rfl, rfl, rfl, rfl, rfl, rfl, rfl, rfl, rfl, rfl, rfl, rfl, rfl, rfl, rfl, rfl, rfl⟩
theorem en_123 (v0 v1 : Value) : am_en 123 [v0, v1] = [some v0, some v1] := by
  have h : am_mx 123 = 2 := by decide +kernel
  unfold am_en
  rw [h]
  rfl
theorem rt_123 : am_ret 123 = 1 := by decide +kernel
theorem kl_123 : am_kl 123 = 7 := by decide +kernel
set_option maxRecDepth 100000 in
theorem cx_123 : am_cd 123 0 = some (.iload_n 1, 1, 1, 0, 0, []) ∧ am_cd 123 1 = some (.ifCond .lt 10, 3, 11, 0, 0, []) ∧ am_cd 123 4 = some (.iload_n 1, 1, 1, 0, 0, []) ∧ am_cd 123 5 = some (.sipush 1000, 3, 0, 0, 1000, []) ∧ am_cd 123 8 = some (.if_icmp .le 5, 3, 13, 0, 0, []) ∧ am_cd 123 11 = some (.iconst (-1), 1, 0, 0, (-1), []) ∧ am_cd 123 12 = some (.ireturn, 1, 0, 0, 0, []) ∧ am_cd 123 13 = some (.aload_n 0, 1, 0, 0, 0, []) ∧ am_cd 123 14 = some (.aload_n 0, 1, 0, 0, 0, []) ∧ am_cd 123 15 = some (.getfield 71, 3, 7, 0, 0, [0, 613]) ∧ am_cd 123 18 = some (.iload_n 1, 1, 1, 0, 0, []) ∧ am_cd 123 19 = some (.iadd, 1, 0, 0, 0, []) ∧ am_cd 123 20 = some (.putfield 71, 3, 7, 0, 0, [0, 613]) ∧ am_cd 123 23 = some (.aload_n 0, 1, 0, 0, 0, []) ∧ am_cd 123 24 = some (.getfield 71, 3, 7, 0, 0, [0, 613]) ∧ am_cd 123 27 = some (.ireturn, 1, 0, 0, 0, []) := ⟨rfl, rfl, rfl, rfl, rfl, rfl, rfl, rfl, rfl, rfl, rfl, rfl, rfl, rfl, rfl, rfl⟩
theorem en_124 (v0 v1 : Value) : am_en 124 [v0, v1] = [some v0, some v1, none, none, none] := by
  have h : am_mx 124 = 5 := by decide +kernel
  unfold am_en
  rw [h]
  rfl
theorem rt_124 : am_ret 124 = 1 := by decide +kernel
theorem kl_124 : am_kl 124 = 7 := by decide +kernel
set_option maxRecDepth 100000 in
theorem cx_124 : am_cd 124 0 = some (.iload_n 1, 1, 1, 0, 0, []) ∧ am_cd 124 1 = some (.ifCond .ge 7, 3, 8, 0, 0, []) ∧ am_cd 124 4 = some (.iconst 0, 1, 0, 0, 0, []) ∧ am_cd 124 5 = some (.goto 19, 3, 24, 0, 0, []) ∧ am_cd 124 8 = some (.iload_n 1, 1, 1, 0, 0, []) ∧ am_cd 124 9 = some (.aload_n 0, 1, 0, 0, 0, []) ∧ am_cd 124 10 = some (.getfield 125, 3, 7, 25, 0, [0, 638]) ∧ am_cd 124 13 = some (.if_icmp .le 10, 3, 23, 0, 0, []) ∧ am_cd 124 16 = some (.aload_n 0, 1, 0, 0, 0, []) ∧ am_cd 124 17 = some (.getfield 125, 3, 7, 25, 0, [0, 638]) ∧ am_cd 124 20 = some (.goto 4, 3, 24, 0, 0, []) ∧ am_cd 124 23 = some (.iload_n 1, 1, 1, 0, 0, []) ∧ am_cd 124 24 = some (.istore_n 2, 1, 2, 0, 0, []) ∧ am_cd 124 25 = some (.aload_n 0, 1, 0, 0, 0, []) ∧ am_cd 124 26 = some (.getfield 125, 3, 7, 25, 0, [0, 638]) ∧ am_cd 124 29 = some (.iload_n 2, 1, 2, 0, 0, []) ∧ am_cd 124 30 = some (.isub, 1, 0, 0, 0, []) ∧ am_cd 124 31 = some (.istore_n 3, 1, 3, 0, 0, []) ∧ am_cd 124 32 = some (.aload_n 0, 1, 0, 0, 0, []) ∧ am_cd 124 33 = some (.getfield 125, 3, 7, 25, 0, [0, 638]) ∧ am_cd 124 36 = some (.iconst 1, 1, 0, 0, 1, []) ∧ am_cd 124 37 = some (.isub, 1, 0, 0, 0, []) ∧ am_cd 124 38 = some (.istore 4, 2, 4, 0, 0, []) ∧ am_cd 124 42 = some (.iload_n 2, 1, 2, 0, 0, []) ∧ am_cd 124 43 = some (.if_icmp .lt 77, 3, 120, 0, 0, []) ∧ am_cd 124 46 = some (.aload_n 0, 1, 0, 0, 0, []) ∧ am_cd 124 47 = some (.getfield 68, 3, 7, 28, 0, [0, 641]) ∧ am_cd 124 50 = some (.iload 4, 2, 4, 0, 0, []) ∧ am_cd 124 52 = some (.baload, 1, 0, 0, 0, []) ∧ am_cd 124 53 = some (.ifCond .eq 16, 3, 69, 0, 0, []) ∧ am_cd 124 56 = some (.aload_n 0, 1, 0, 0, 0, []) ∧ am_cd 124 57 = some (.dup, 1, 0, 0, 0, []) ∧ am_cd 124 58 = some (.getfield 128, 3, 7, 23, 0, [0, 636]) ∧ am_cd 124 61 = some (.iconst 1, 1, 0, 0, 1, []) ∧ am_cd 124 62 = some (.isub, 1, 0, 0, 0, []) ∧ am_cd 124 63 = some (.putfield 128, 3, 7, 23, 0, [0, 636]) ∧ am_cd 124 66 = some (.goto 35, 3, 101, 0, 0, []) ∧ am_cd 124 69 = some (.aload_n 0, 1, 0, 0, 0, []) ∧ am_cd 124 70 = some (.getfield 59, 3, 7, 24, 0, [0, 637]) ∧ am_cd 124 73 = some (.aload_n 0, 1, 0, 0, 0, []) ∧ am_cd 124 74 = some (.getfield 128, 3, 7, 23, 0, [0, 636]) ∧ am_cd 124 77 = some (.bipush 8, 2, 0, 0, 8, []) ∧ am_cd 124 79 = some (.irem, 1, 0, 0, 0, []) ∧ am_cd 124 80 = some (.aload_n 0, 1, 0, 0, 0, []) ∧ am_cd 124 81 = some (.getfield 59, 3, 7, 24, 0, [0, 637]) ∧ am_cd 124 84 = some (.aload_n 0, 1, 0, 0, 0, []) ∧ am_cd 124 85 = some (.getfield 128, 3, 7, 23, 0, [0, 636]) ∧ am_cd 124 88 = some (.bipush 8, 2, 0, 0, 8, []) ∧ am_cd 124 90 = some (.irem, 1, 0, 0, 0, []) ∧ am_cd 124 91 = some (.iaload, 1, 0, 0, 0, []) ∧ am_cd 124 92 = some (.aload_n 0, 1, 0, 0, 0, []) ∧ am_cd 124 93 = some (.getfield 65, 3, 7, 27, 0, [0, 640]) ∧ am_cd 124 96 = some (.iload 4, 2, 4, 0, 0, []) ∧ am_cd 124 98 = some (.iaload, 1, 0, 0, 0, []) ∧ am_cd 124 99 = some (.isub, 1, 0, 0, 0, []) ∧ am_cd 124 100 = some (.iastore, 1, 0, 0, 0, []) ∧ am_cd 124 101 = some (.aload_n 0, 1, 0, 0, 0, []) ∧ am_cd 124 102 = some (.aload_n 0, 1, 0, 0, 0, []) ∧ am_cd 124 103 = some (.getfield 62, 3, 7, 26, 0, [0, 639]) ∧ am_cd 124 106 = some (.iload 4, 2, 4, 0, 0, []) ∧ am_cd 124 108 = some (.iaload, 1, 0, 0, 0, []) ∧ am_cd 124 109 = some (.iconst 1, 1, 0, 0, 1, []) ∧ am_cd 124 110 = some (.isub, 1, 0, 0, 0, []) ∧ am_cd 124 111 = some (.putfield 89, 3, 7, 15, 0, [0, 628]) ∧ am_cd 124 114 = some (.iinc 4 (-1), 3, 4, 0, (-1), []) ∧ am_cd 124 117 = some (.goto (-77), 3, 40, 0, 0, []) ∧ am_cd 124 120 = some (.iconst 0, 1, 0, 0, 0, []) ∧ am_cd 124 121 = some (.istore 4, 2, 4, 0, 0, []) ∧ am_cd 124 125 = some (.aload_n 0, 1, 0, 0, 0, []) ∧ am_cd 124 126 = some (.getfield 75, 3, 7, 1, 0, [0, 614]) ∧ am_cd 124 129 = some (.if_icmp .ge 43, 3, 172, 0, 0, []) ∧ am_cd 124 132 = some (.aload_n 0, 1, 0, 0, 0, []) ∧ am_cd 124 133 = some (.getfield 26, 3, 7, 7, 0, [0, 620]) ∧ am_cd 124 136 = some (.iload 4, 2, 4, 0, 0, []) ∧ am_cd 124 138 = some (.iaload, 1, 0, 0, 0, []) ∧ am_cd 124 139 = some (.iconst (-1), 1, 0, 0, (-1), []) ∧ am_cd 124 140 = some (.if_icmp .ne 26, 3, 166, 0, 0, []) ∧ am_cd 124 143 = some (.aload_n 0, 1, 0, 0, 0, []) ∧ am_cd 124 144 = some (.getfield 13, 3, 7, 3, 0, [0, 616]) ∧ am_cd 124 147 = some (.iload 4, 2, 4, 0, 0, []) ∧ am_cd 124 149 = some (.iaload, 1, 0, 0, 0, []) ∧ am_cd 124 150 = some (.aload_n 0, 1, 0, 0, 0, []) ∧ am_cd 124 151 = some (.getfield 89, 3, 7, 15, 0, [0, 628]) ∧ am_cd 124 154 = some (.if_icmp .le 12, 3, 166, 0, 0, []) ∧ am_cd 124 157 = some (.aload_n 0, 1, 0, 0, 0, []) ∧ am_cd 124 158 = some (.getfield 26, 3, 7, 7, 0, [0, 620]) ∧ am_cd 124 161 = some (.iload 4, 2, 4, 0, 0, []) ∧ am_cd 124 163 = some (.bipush 9, 2, 0, 0, 9, []) ∧ am_cd 124 165 = some (.iastore, 1, 0, 0, 0, []) ∧ am_cd 124 166 = some (.iinc 4 1, 3, 4, 0, 1, []) ∧ am_cd 124 169 = some (.goto (-46), 3, 123, 0, 0, []) ∧ am_cd 124 172 = some (.aload_n 0, 1, 0, 0, 0, []) ∧ am_cd 124 173 = some (.iconst 0, 1, 0, 0, 0, []) ∧ am_cd 124 174 = some (.putfield 125, 3, 7, 25, 0, [0, 638]) ∧ am_cd 124 177 = some (.aload_n 0, 1, 0, 0, 0, []) ∧ am_cd 124 178 = some (.iconst 0, 1, 0, 0, 0, []) ∧ am_cd 124 179 = some (.putfield 134, 3, 7, 16, 0, [0, 629]) ∧ am_cd 124 182 = some (.iconst 0, 1, 0, 0, 0, []) ∧ am_cd 124 183 = some (.istore 4, 2, 4, 0, 0, []) ∧ am_cd 124 187 = some (.iconst 3, 1, 0, 0, 3, []) ∧ am_cd 124 188 = some (.if_icmp .ge 17, 3, 205, 0, 0, []) ∧ am_cd 124 191 = some (.aload_n 0, 1, 0, 0, 0, []) ∧ am_cd 124 192 = some (.getfield 53, 3, 7, 20, 0, [0, 633]) ∧ am_cd 124 195 = some (.iload 4, 2, 4, 0, 0, []) ∧ am_cd 124 197 = some (.iconst 0, 1, 0, 0, 0, []) ∧ am_cd 124 198 = some (.bastore, 1, 0, 0, 0, []) ∧ am_cd 124 199 = some (.iinc 4 1, 3, 4, 0, 1, []) ∧ am_cd 124 202 = some (.goto (-17), 3, 185, 0, 0, []) ∧ am_cd 124 205 = some (.iload_n 3, 1, 3, 0, 0, []) ∧ am_cd 124 206 = some (.ireturn, 1, 0, 0, 0, []) := ⟨rfl, rfl, rfl, rfl, rfl, rfl, rfl, rfl, rfl, rfl, rfl, rfl, rfl, rfl, rfl, rfl, rfl, rfl, rfl, rfl, rfl, rfl, rfl, rfl, rfl, rfl, rfl, rfl, rfl, rfl, rfl, rfl, rfl, rfl, rfl, rfl, rfl, rfl, rfl, rfl, rfl, rfl, rfl, rfl, rfl, rfl, rfl, rfl, rfl, rfl, rfl, rfl, rfl, rfl, rfl, rfl, rfl, rfl, rfl, rfl, rfl, rfl, rfl, rfl, rfl, rfl, rfl, rfl, rfl, rfl, rfl, rfl, rfl, rfl, rfl, rfl, rfl, rfl, rfl, rfl, rfl, rfl, rfl, rfl, rfl, rfl, rfl, rfl, rfl, rfl, rfl, rfl, rfl, rfl, rfl, rfl, rfl, rfl, rfl, rfl, rfl, rfl, rfl, rfl, rfl, rfl, rfl, rfl, rfl, rfl⟩
theorem cxh_124_40 : am_cd 124 40 = some (.iload 4, 2, 4, 0, 0, []) := rfl
theorem cxh_124_123 : am_cd 124 123 = some (.iload 4, 2, 4, 0, 0, []) := rfl
theorem cxh_124_185 : am_cd 124 185 = some (.iload 4, 2, 4, 0, 0, []) := rfl
theorem en_125 (v0 v1 v2 : Value) : am_en 125 [v0, v1, v2] = [some v0, some v1, some v2, none] := by
  have h : am_mx 125 = 4 := by decide +kernel
  unfold am_en
  rw [h]
  rfl
theorem rt_125 : am_ret 125 = 2 := by decide +kernel
theorem kl_125 : am_kl 125 = 7 := by decide +kernel
set_option maxRecDepth 100000 in
theorem cx_125 : am_cd 125 0 = some (.aload_n 0, 1, 0, 0, 0, []) ∧ am_cd 125 1 = some (.iload_n 1, 1, 1, 0, 0, []) ∧ am_cd 125 2 = some (.invokevirtual 196, 3, 126, 2, 0, [0, 832]) ∧ am_cd 125 5 = some (.ifCond .eq 10, 3, 15, 0, 0, []) ∧ am_cd 125 8 = some (.iload_n 2, 1, 2, 0, 0, []) ∧ am_cd 125 9 = some (.invokestatic 137, 3, 95, 1, 0, [0, 709]) ∧ am_cd 125 12 = some (.ifCond .ne 5, 3, 17, 0, 0, []) ∧ am_cd 125 15 = some (.iconst 0, 1, 0, 0, 0, []) ∧ am_cd 125 16 = some (.ireturn, 1, 0, 0, 0, []) ∧ am_cd 125 17 = some (.aload_n 0, 1, 0, 0, 0, []) ∧ am_cd 125 18 = some (.iload_n 1, 1, 1, 0, 0, []) ∧ am_cd 125 19 = some (.iload_n 2, 1, 2, 0, 0, []) ∧ am_cd 125 20 = some (.invokevirtual 199, 3, 127, 3, 0, [0, 836]) ∧ am_cd 125 23 = some (.istore_n 3, 1, 3, 0, 0, []) ∧ am_cd 125 24 = some (.iload_n 3, 1, 3, 0, 0, []) ∧ am_cd 125 25 = some (.ifCond .lt 15, 3, 40, 0, 0, []) ∧ am_cd 125 28 = some (.aload_n 0, 1, 0, 0, 0, []) ∧ am_cd 125 29 = some (.iload_n 3, 1, 3, 0, 0, []) ∧ am_cd 125 30 = some (.invokevirtual 92, 3, 107, 2, 0, [0, 756]) ∧ am_cd 125 33 = some (.ifCond .ne 7, 3, 40, 0, 0, []) ∧ am_cd 125 36 = some (.iconst 1, 1, 0, 0, 1, []) ∧ am_cd 125 37 = some (.goto 4, 3, 41, 0, 0, []) ∧ am_cd 125 40 = some (.iconst 0, 1, 0, 0, 0, []) ∧ am_cd 125 41 = some (.ireturn, 1, 0, 0, 0, []) := ⟨rfl, rfl, rfl, rfl, rfl, rfl, rfl, rfl, rfl, rfl, rfl, rfl, rfl, rfl, rfl, rfl, rfl, rfl, rfl, rfl, rfl, rfl, rfl, rfl⟩
theorem en_126 (v0 v1 : Value) : am_en 126 [v0, v1] = [some v0, some v1] := by
  have h : am_mx 126 = 2 := by decide +kernel
  unfold am_en
  rw [h]
  rfl
theorem rt_126 : am_ret 126 = 2 := by decide +kernel
theorem kl_126 : am_kl 126 = 7 := by decide +kernel
set_option maxRecDepth 100000 in
theorem cx_126 : am_cd 126 0 = some (.iload_n 1, 1, 1, 0, 0, []) ∧ am_cd 126 1 = some (.iconst (-1), 1, 0, 0, (-1), []) ∧ am_cd 126 2 = some (.if_icmp .eq 21, 3, 23, 0, 0, []) ∧ am_cd 126 5 = some (.iload_n 1, 1, 1, 0, 0, []) ∧ am_cd 126 6 = some (.ifCond .lt 21, 3, 27, 0, 0, []) ∧ am_cd 126 9 = some (.iload_n 1, 1, 1, 0, 0, []) ∧ am_cd 126 10 = some (.iconst 3, 1, 0, 0, 3, []) ∧ am_cd 126 11 = some (.if_icmp .ge 16, 3, 27, 0, 0, []) ∧ am_cd 126 14 = some (.aload_n 0, 1, 0, 0, 0, []) ∧ am_cd 126 15 = some (.getfield 53, 3, 7, 20, 0, [0, 633]) ∧ am_cd 126 18 = some (.iload_n 1, 1, 1, 0, 0, []) ∧ am_cd 126 19 = some (.baload, 1, 0, 0, 0, []) ∧ am_cd 126 20 = some (.ifCond .eq 7, 3, 27, 0, 0, []) ∧ am_cd 126 23 = some (.iconst 1, 1, 0, 0, 1, []) ∧ am_cd 126 24 = some (.goto 4, 3, 28, 0, 0, []) ∧ am_cd 126 27 = some (.iconst 0, 1, 0, 0, 0, []) ∧ am_cd 126 28 = some (.ireturn, 1, 0, 0, 0, []) := ⟨rfl, rfl, rfl, rfl, rfl, rfl, rfl, rfl, rfl, rfl, rfl, rfl, rfl, rfl, rfl, rfl, rfl⟩
theorem en_127 (v0 v1 v2 : Value) : am_en 127 [v0, v1, v2] = [some v0, some v1, some v2, none, none, none] := by
  have h : am_mx 127 = 6 := by decide +kernel
  unfold am_en
  rw [h]
  rfl
theorem rt_127 : am_ret 127 = 1 := by decide +kernel
theorem kl_127 : am_kl 127 = 7 := by decide +kernel
set_option maxRecDepth 100000 in
theorem cx_127 : am_cd 127 0 = some (.aload_n 0, 1, 0, 0, 0, []) ∧ am_cd 127 1 = some (.iconst 0, 1, 0, 0, 0, []) ∧ am_cd 127 2 = some (.putfield 183, 3, 7, 29, 0, [0, 642]) ∧ am_cd 127 5 = some (.aload_n 0, 1, 0, 0, 0, []) ∧ am_cd 127 6 = some (.iconst (-1), 1, 0, 0, (-1), []) ∧ am_cd 127 7 = some (.iconst 0, 1, 0, 0, 0, []) ∧ am_cd 127 8 = some (.iload_n 1, 1, 1, 0, 0, []) ∧ am_cd 127 9 = some (.iload_n 2, 1, 2, 0, 0, []) ∧ am_cd 127 10 = some (.invokevirtual 186, 3, 128, 5, 0, [0, 840]) ∧ am_cd 127 13 = some (.istore_n 3, 1, 3, 0, 0, []) ∧ am_cd 127 14 = some (.iconst 0, 1, 0, 0, 0, []) ∧ am_cd 127 15 = some (.istore 4, 2, 4, 0, 0, []) ∧ am_cd 127 19 = some (.iconst 3, 1, 0, 0, 3, []) ∧ am_cd 127 20 = some (.if_icmp .ge 69, 3, 89, 0, 0, []) ∧ am_cd 127 23 = some (.iconst 0, 1, 0, 0, 0, []) ∧ am_cd 127 24 = some (.istore 5, 2, 5, 0, 0, []) ∧ am_cd 127 28 = some (.aload_n 0, 1, 0, 0, 0, []) ∧ am_cd 127 29 = some (.iload 4, 2, 4, 0, 0, []) ∧ am_cd 127 31 = some (.invokevirtual 190, 3, 132, 2, 0, [0, 856]) ∧ am_cd 127 34 = some (.if_icmp .ge 49, 3, 83, 0, 0, []) ∧ am_cd 127 37 = some (.iload_n 3, 1, 3, 0, 0, []) ∧ am_cd 127 38 = some (.ifCond .ge 45, 3, 83, 0, 0, []) ∧ am_cd 127 41 = some (.aload_n 0, 1, 0, 0, 0, []) ∧ am_cd 127 42 = some (.iload 4, 2, 4, 0, 0, []) ∧ am_cd 127 44 = some (.iload 5, 2, 5, 0, 0, []) ∧ am_cd 127 46 = some (.iload_n 2, 1, 2, 0, 0, []) ∧ am_cd 127 47 = some (.invokevirtual 193, 3, 133, 4, 0, [0, 860]) ∧ am_cd 127 50 = some (.ifCond .ne 6, 3, 56, 0, 0, []) ∧ am_cd 127 53 = some (.goto 24, 3, 77, 0, 0, []) ∧ am_cd 127 56 = some (.aload_n 0, 1, 0, 0, 0, []) ∧ am_cd 127 57 = some (.dup, 1, 0, 0, 0, []) ∧ am_cd 127 58 = some (.getfield 183, 3, 7, 29, 0, [0, 642]) ∧ am_cd 127 61 = some (.iconst 1, 1, 0, 0, 1, []) ∧ am_cd 127 62 = some (.iadd, 1, 0, 0, 0, []) ∧ am_cd 127 63 = some (.putfield 183, 3, 7, 29, 0, [0, 642]) ∧ am_cd 127 66 = some (.aload_n 0, 1, 0, 0, 0, []) ∧ am_cd 127 67 = some (.iload 4, 2, 4, 0, 0, []) ∧ am_cd 127 69 = some (.iload 5, 2, 5, 0, 0, []) ∧ am_cd 127 71 = some (.iload_n 1, 1, 1, 0, 0, []) ∧ am_cd 127 72 = some (.iload_n 2, 1, 2, 0, 0, []) ∧ am_cd 127 73 = some (.invokevirtual 186, 3, 128, 5, 0, [0, 840]) ∧ am_cd 127 76 = some (.istore_n 3, 1, 3, 0, 0, []) ∧ am_cd 127 77 = some (.iinc 5 1, 3, 5, 0, 1, []) ∧ am_cd 127 80 = some (.goto (-54), 3, 26, 0, 0, []) ∧ am_cd 127 83 = some (.iinc 4 1, 3, 4, 0, 1, []) ∧ am_cd 127 86 = some (.goto (-69), 3, 17, 0, 0, []) ∧ am_cd 127 89 = some (.iload_n 3, 1, 3, 0, 0, []) ∧ am_cd 127 90 = some (.ireturn, 1, 0, 0, 0, []) := ⟨rfl, rfl, rfl, rfl, rfl, rfl, rfl, rfl, rfl, rfl, rfl, rfl, rfl, rfl, rfl, rfl, rfl, rfl, rfl, rfl, rfl, rfl, rfl, rfl, rfl, rfl, rfl, rfl, rfl, rfl, rfl, rfl, rfl, rfl, rfl, rfl, rfl, rfl, rfl, rfl, rfl, rfl, rfl, rfl, rfl, rfl, rfl, rfl⟩
theorem cxh_127_17 : am_cd 127 17 = some (.iload 4, 2, 4, 0, 0, []) := rfl
theorem cxh_127_26 : am_cd 127 26 = some (.iload 5, 2, 5, 0, 0, []) := rfl
theorem en_128 (v0 v1 v2 v3 v4 : Value) : am_en 128 [v0, v1, v2, v3, v4] = [some v0, some v1, some v2, some v3, some v4, none, none, none] := by
  have h : am_mx 128 = 8 := by decide +kernel
  unfold am_en
  rw [h]
  rfl
theorem rt_128 : am_ret 128 = 1 := by decide +kernel
theorem kl_128 : am_kl 128 = 7 := by decide +kernel
set_option maxRecDepth 100000 in
theorem cx_128 : am_cd 128 0 = some (.iconst (-1), 1, 0, 0, (-1), []) ∧ am_cd 128 1 = some (.istore 5, 2, 5, 0, 0, []) ∧ am_cd 128 3 = some (.iconst 0, 1, 0, 0, 0, []) ∧ am_cd 128 4 = some (.istore 6, 2, 6, 0, 0, []) ∧ am_cd 128 8 = some (.aload_n 0, 1, 0, 0, 0, []) ∧ am_cd 128 9 = some (.getfield 75, 3, 7, 1, 0, [0, 614]) ∧ am_cd 128 12 = some (.if_icmp .ge 80, 3, 92, 0, 0, []) ∧ am_cd 128 15 = some (.aload_n 0, 1, 0, 0, 0, []) ∧ am_cd 128 16 = some (.iload 6, 2, 6, 0, 0, []) ∧ am_cd 128 18 = some (.iload_n 1, 1, 1, 0, 0, []) ∧ am_cd 128 19 = some (.iload_n 2, 1, 2, 0, 0, []) ∧ am_cd 128 20 = some (.invokevirtual 168, 3, 129, 4, 0, [0, 844]) ∧ am_cd 128 23 = some (.ifCond .eq 29, 3, 52, 0, 0, []) ∧ am_cd 128 26 = some (.aload_n 0, 1, 0, 0, 0, []) ∧ am_cd 128 27 = some (.getfield 7, 3, 7, 2, 0, [0, 615]) ∧ am_cd 128 30 = some (.iload 6, 2, 6, 0, 0, []) ∧ am_cd 128 32 = some (.iaload, 1, 0, 0, 0, []) ∧ am_cd 128 33 = some (.iload 4, 2, 4, 0, 0, []) ∧ am_cd 128 35 = some (.if_icmp .ne 17, 3, 52, 0, 0, []) ∧ am_cd 128 38 = some (.aload_n 0, 1, 0, 0, 0, []) ∧ am_cd 128 39 = some (.iload 6, 2, 6, 0, 0, []) ∧ am_cd 128 41 = some (.iload_n 3, 1, 3, 0, 0, []) ∧ am_cd 128 42 = some (.invokevirtual 172, 3, 131, 3, 0, [0, 852]) ∧ am_cd 128 45 = some (.ifCond .eq 7, 3, 52, 0, 0, []) ∧ am_cd 128 48 = some (.iconst 1, 1, 0, 0, 1, []) ∧ am_cd 128 49 = some (.goto 4, 3, 53, 0, 0, []) ∧ am_cd 128 52 = some (.iconst 0, 1, 0, 0, 0, []) ∧ am_cd 128 53 = some (.istore 7, 2, 7, 0, 0, []) ∧ am_cd 128 55 = some (.iload 7, 2, 7, 0, 0, []) ∧ am_cd 128 57 = some (.ifCond .eq 29, 3, 86, 0, 0, []) ∧ am_cd 128 60 = some (.iload 5, 2, 5, 0, 0, []) ∧ am_cd 128 62 = some (.ifCond .lt 20, 3, 82, 0, 0, []) ∧ am_cd 128 65 = some (.aload_n 0, 1, 0, 0, 0, []) ∧ am_cd 128 66 = some (.getfield 13, 3, 7, 3, 0, [0, 616]) ∧ am_cd 128 69 = some (.iload 6, 2, 6, 0, 0, []) ∧ am_cd 128 71 = some (.iaload, 1, 0, 0, 0, []) ∧ am_cd 128 72 = some (.aload_n 0, 1, 0, 0, 0, []) ∧ am_cd 128 73 = some (.getfield 13, 3, 7, 3, 0, [0, 616]) ∧ am_cd 128 76 = some (.iload 5, 2, 5, 0, 0, []) ∧ am_cd 128 78 = some (.iaload, 1, 0, 0, 0, []) ∧ am_cd 128 79 = some (.if_icmp .le 7, 3, 86, 0, 0, []) ∧ am_cd 128 82 = some (.iload 6, 2, 6, 0, 0, []) ∧ am_cd 128 84 = some (.istore 5, 2, 5, 0, 0, []) ∧ am_cd 128 86 = some (.iinc 6 1, 3, 6, 0, 1, []) ∧ am_cd 128 89 = some (.goto (-83), 3, 6, 0, 0, []) ∧ am_cd 128 92 = some (.iload 5, 2, 5, 0, 0, []) ∧ am_cd 128 94 = some (.ireturn, 1, 0, 0, 0, []) := ⟨rfl, rfl, rfl, rfl, rfl, rfl, rfl, rfl, rfl, rfl, rfl, rfl, rfl, rfl, rfl, rfl, rfl, rfl, rfl, rfl, rfl, rfl, rfl, rfl, rfl, rfl, rfl, rfl, rfl, rfl, rfl, rfl, rfl, rfl, rfl, rfl, rfl, rfl, rfl, rfl, rfl, rfl, rfl, rfl, rfl, rfl, rfl⟩
theorem cxh_128_6 : am_cd 128 6 = some (.iload 6, 2, 6, 0, 0, []) := rfl
theorem en_129 (v0 v1 v2 v3 : Value) : am_en 129 [v0, v1, v2, v3] = [some v0, some v1, some v2, some v3] := by
  have h : am_mx 129 = 4 := by decide +kernel
  unfold am_en
  rw [h]
  rfl
theorem rt_129 : am_ret 129 = 2 := by decide +kernel
theorem kl_129 : am_kl 129 = 7 := by decide +kernel
set_option maxRecDepth 100000 in
theorem cx_129 : am_cd 129 0 = some (.aload_n 0, 1, 0, 0, 0, []) ∧ am_cd 129 1 = some (.getfield 26, 3, 7, 7, 0, [0, 620]) ∧ am_cd 129 4 = some (.iload_n 1, 1, 1, 0, 0, []) ∧ am_cd 129 5 = some (.iaload, 1, 0, 0, 0, []) ∧ am_cd 129 6 = some (.iload_n 2, 1, 2, 0, 0, []) ∧ am_cd 129 7 = some (.if_icmp .ne 21, 3, 28, 0, 0, []) ∧ am_cd 129 10 = some (.iload_n 2, 1, 2, 0, 0, []) ∧ am_cd 129 11 = some (.iconst (-1), 1, 0, 0, (-1), []) ∧ am_cd 129 12 = some (.if_icmp .eq 12, 3, 24, 0, 0, []) ∧ am_cd 129 15 = some (.aload_n 0, 1, 0, 0, 0, []) ∧ am_cd 129 16 = some (.iload_n 1, 1, 1, 0, 0, []) ∧ am_cd 129 17 = some (.invokevirtual 165, 3, 130, 2, 0, [0, 848]) ∧ am_cd 129 20 = some (.iload_n 3, 1, 3, 0, 0, []) ∧ am_cd 129 21 = some (.if_icmp .ne 7, 3, 28, 0, 0, []) ∧ am_cd 129 24 = some (.iconst 1, 1, 0, 0, 1, []) ∧ am_cd 129 25 = some (.goto 4, 3, 29, 0, 0, []) ∧ am_cd 129 28 = some (.iconst 0, 1, 0, 0, 0, []) ∧ am_cd 129 29 = some (.ireturn, 1, 0, 0, 0, []) := ⟨rfl, rfl, rfl, rfl, rfl, rfl, rfl, rfl, rfl, rfl, rfl, rfl, rfl, rfl, rfl, rfl, rfl, rfl⟩
theorem en_130 (v0 v1 : Value) : am_en 130 [v0, v1] = [some v0, some v1] := by
  have h : am_mx 130 = 2 := by decide +kernel
  unfold am_en
  rw [h]
  rfl
theorem rt_130 : am_ret 130 = 1 := by decide +kernel
theorem kl_130 : am_kl 130 = 7 := by decide +kernel
set_option maxRecDepth 100000 in
theorem cx_130 : am_cd 130 0 = some (.aload_n 0, 1, 0, 0, 0, []) ∧ am_cd 130 1 = some (.getfield 26, 3, 7, 7, 0, [0, 620]) ∧ am_cd 130 4 = some (.iload_n 1, 1, 1, 0, 0, []) ∧ am_cd 130 5 = some (.iaload, 1, 0, 0, 0, []) ∧ am_cd 130 6 = some (.ifCond .ne 17, 3, 23, 0, 0, []) ∧ am_cd 130 9 = some (.aload_n 0, 1, 0, 0, 0, []) ∧ am_cd 130 10 = some (.getfield 122, 3, 7, 13, 0, [0, 626]) ∧ am_cd 130 13 = some (.aload_n 0, 1, 0, 0, 0, []) ∧ am_cd 130 14 = some (.getfield 29, 3, 7, 8, 0, [0, 621]) ∧ am_cd 130 17 = some (.iload_n 1, 1, 1, 0, 0, []) ∧ am_cd 130 18 = some (.iaload, 1, 0, 0, 0, []) ∧ am_cd 130 19 = some (.isub, 1, 0, 0, 0, []) ∧ am_cd 130 20 = some (.goto 12, 3, 32, 0, 0, []) ∧ am_cd 130 23 = some (.aload_n 0, 1, 0, 0, 0, []) ∧ am_cd 130 24 = some (.getfield 29, 3, 7, 8, 0, [0, 621]) ∧ am_cd 130 27 = some (.iload_n 1, 1, 1, 0, 0, []) ∧ am_cd 130 28 = some (.iaload, 1, 0, 0, 0, []) ∧ am_cd 130 29 = some (.bipush 6, 2, 0, 0, 6, []) ∧ am_cd 130 31 = some (.idiv, 1, 0, 0, 0, []) ∧ am_cd 130 32 = some (.ireturn, 1, 0, 0, 0, []) := ⟨rfl, rfl, rfl, rfl, rfl, rfl, rfl, rfl, rfl, rfl, rfl, rfl, rfl, rfl, rfl, rfl, rfl, rfl, rfl, rfl⟩
theorem en_131 (v0 v1 v2 : Value) : am_en 131 [v0, v1, v2] = [some v0, some v1, some v2] := by
  have h : am_mx 131 = 3 := by decide +kernel
  unfold am_en
  rw [h]
  rfl
theorem rt_131 : am_ret 131 = 2 := by decide +kernel
theorem kl_131 : am_kl 131 = 7 := by decide +kernel
set_option maxRecDepth 100000 in
theorem cx_131 : am_cd 131 0 = some (.iload_n 2, 1, 2, 0, 0, []) ∧ am_cd 131 1 = some (.ifCond .lt 18, 3, 19, 0, 0, []) ∧ am_cd 131 4 = some (.aload_n 0, 1, 0, 0, 0, []) ∧ am_cd 131 5 = some (.getfield 13, 3, 7, 3, 0, [0, 616]) ∧ am_cd 131 8 = some (.iload_n 1, 1, 1, 0, 0, []) ∧ am_cd 131 9 = some (.iaload, 1, 0, 0, 0, []) ∧ am_cd 131 10 = some (.aload_n 0, 1, 0, 0, 0, []) ∧ am_cd 131 11 = some (.getfield 56, 3, 7, 21, 0, [0, 634]) ∧ am_cd 131 14 = some (.iload_n 2, 1, 2, 0, 0, []) ∧ am_cd 131 15 = some (.iaload, 1, 0, 0, 0, []) ∧ am_cd 131 16 = some (.if_icmp .gt 7, 3, 23, 0, 0, []) ∧ am_cd 131 19 = some (.iconst 1, 1, 0, 0, 1, []) ∧ am_cd 131 20 = some (.goto 4, 3, 24, 0, 0, []) ∧ am_cd 131 23 = some (.iconst 0, 1, 0, 0, 0, []) ∧ am_cd 131 24 = some (.ireturn, 1, 0, 0, 0, []) := ⟨rfl, rfl, rfl, rfl, rfl, rfl, rfl, rfl, rfl, rfl, rfl, rfl, rfl, rfl, rfl⟩
theorem en_132 (v0 v1 : Value) : am_en 132 [v0, v1] = [some v0, some v1] := by
  have h : am_mx 132 = 2 := by decide +kernel
  unfold am_en
  rw [h]
  rfl
theorem rt_132 : am_ret 132 = 1 := by decide +kernel
theorem kl_132 : am_kl 132 = 7 := by decide +kernel
set_option maxRecDepth 100000 in
theorem cx_132 : am_cd 132 0 = some (.iload_n 1, 1, 1, 0, 0, []) ∧ am_cd 132 1 = some (.ifCond .ne 10, 3, 11, 0, 0, []) ∧ am_cd 132 4 = some (.aload_n 0, 1, 0, 0, 0, []) ∧ am_cd 132 5 = some (.getfield 106, 3, 7, 14, 0, [0, 627]) ∧ am_cd 132 8 = some (.goto 13, 3, 21, 0, 0, []) ∧ am_cd 132 11 = some (.aload_n 0, 1, 0, 0, 0, []) ∧ am_cd 132 12 = some (.iload_n 1, 1, 1, 0, 0, []) ∧ am_cd 132 13 = some (.invokevirtual 109, 3, 100, 2, 0, [0, 728]) ∧ am_cd 132 16 = some (.iconst 5, 1, 0, 0, 5, []) ∧ am_cd 132 17 = some (.iadd, 1, 0, 0, 0, []) ∧ am_cd 132 18 = some (.bipush 6, 2, 0, 0, 6, []) ∧ am_cd 132 20 = some (.idiv, 1, 0, 0, 0, []) ∧ am_cd 132 21 = some (.ireturn, 1, 0, 0, 0, []) := ⟨rfl, rfl, rfl, rfl, rfl, rfl, rfl, rfl, rfl, rfl, rfl, rfl, rfl⟩
theorem en_133 (v0 v1 v2 v3 : Value) : am_en 133 [v0, v1, v2, v3] = [some v0, some v1, some v2, some v3, none, none] := by
  have h : am_mx 133 = 6 := by decide +kernel
  unfold am_en
  rw [h]
  rfl
theorem rt_133 : am_ret 133 = 2 := by decide +kernel
theorem kl_133 : am_kl 133 = 7 := by decide +kernel
set_option maxRecDepth 100000 in
theorem cx_133 : am_cd 133 0 = some (.aload_n 0, 1, 0, 0, 0, []) ∧ am_cd 133 1 = some (.iload_n 1, 1, 1, 0, 0, []) ∧ am_cd 133 2 = some (.iload_n 2, 1, 2, 0, 0, []) ∧ am_cd 133 3 = some (.invokevirtual 175, 3, 134, 3, 0, [0, 864]) ∧ am_cd 133 6 = some (.istore 4, 2, 4, 0, 0, []) ∧ am_cd 133 8 = some (.iload 4, 2, 4, 0, 0, []) ∧ am_cd 133 10 = some (.iconst 5, 1, 0, 0, 5, []) ∧ am_cd 133 11 = some (.iload_n 3, 1, 3, 0, 0, []) ∧ am_cd 133 12 = some (.imul, 1, 0, 0, 0, []) ∧ am_cd 133 13 = some (.iconst 1, 1, 0, 0, 1, []) ∧ am_cd 133 14 = some (.iadd, 1, 0, 0, 0, []) ∧ am_cd 133 15 = some (.bipush 32, 2, 0, 0, 32, []) ∧ am_cd 133 17 = some (.irem, 1, 0, 0, 0, []) ∧ am_cd 133 18 = some (.ishr, 1, 0, 0, 0, []) ∧ am_cd 133 19 = some (.iconst 1, 1, 0, 0, 1, []) ∧ am_cd 133 20 = some (.iand, 1, 0, 0, 0, []) ∧ am_cd 133 21 = some (.iconst 1, 1, 0, 0, 1, []) ∧ am_cd 133 22 = some (.if_icmp .ne 26, 3, 48, 0, 0, []) ∧ am_cd 133 25 = some (.iload 4, 2, 4, 0, 0, []) ∧ am_cd 133 27 = some (.bipush 11, 2, 0, 0, 11, []) ∧ am_cd 133 29 = some (.iload_n 3, 1, 3, 0, 0, []) ∧ am_cd 133 30 = some (.imul, 1, 0, 0, 0, []) ∧ am_cd 133 31 = some (.bipush 7, 2, 0, 0, 7, []) ∧ am_cd 133 33 = some (.iadd, 1, 0, 0, 0, []) ∧ am_cd 133 34 = some (.bipush 32, 2, 0, 0, 32, []) ∧ am_cd 133 36 = some (.irem, 1, 0, 0, 0, []) ∧ am_cd 133 37 = some (.ishr, 1, 0, 0, 0, []) ∧ am_cd 133 38 = some (.iconst 1, 1, 0, 0, 1, []) ∧ am_cd 133 39 = some (.iand, 1, 0, 0, 0, []) ∧ am_cd 133 40 = some (.iconst 1, 1, 0, 0, 1, []) ∧ am_cd 133 41 = some (.if_icmp .ne 7, 3, 48, 0, 0, []) ∧ am_cd 133 44 = some (.iconst 1, 1, 0, 0, 1, []) ∧ am_cd 133 45 = some (.goto 4, 3, 49, 0, 0, []) ∧ am_cd 133 48 = some (.iconst 0, 1, 0, 0, 0, []) ∧ am_cd 133 49 = some (.istore 5, 2, 5, 0, 0, []) ∧ am_cd 133 51 = some (.iload 5, 2, 5, 0, 0, []) ∧ am_cd 133 53 = some (.ifCond .eq 29, 3, 82, 0, 0, []) ∧ am_cd 133 56 = some (.iload_n 3, 1, 3, 0, 0, []) ∧ am_cd 133 57 = some (.aload_n 0, 1, 0, 0, 0, []) ∧ am_cd 133 58 = some (.iload_n 1, 1, 1, 0, 0, []) ∧ am_cd 133 59 = some (.iload_n 2, 1, 2, 0, 0, []) ∧ am_cd 133 60 = some (.iconst 0, 1, 0, 0, 0, []) ∧ am_cd 133 61 = some (.invokevirtual 179, 3, 135, 4, 0, [0, 868]) ∧ am_cd 133 64 = some (.if_icmp .lt 18, 3, 82, 0, 0, []) ∧ am_cd 133 67 = some (.iload_n 3, 1, 3, 0, 0, []) ∧ am_cd 133 68 = some (.aload_n 0, 1, 0, 0, 0, []) ∧ am_cd 133 69 = some (.iload_n 1, 1, 1, 0, 0, []) ∧ am_cd 133 70 = some (.iload_n 2, 1, 2, 0, 0, []) ∧ am_cd 133 71 = some (.iconst 1, 1, 0, 0, 1, []) ∧ am_cd 133 72 = some (.invokevirtual 179, 3, 135, 4, 0, [0, 868]) ∧ am_cd 133 75 = some (.if_icmp .gt 7, 3, 82, 0, 0, []) ∧ am_cd 133 78 = some (.iconst 1, 1, 0, 0, 1, []) ∧ am_cd 133 79 = some (.goto 4, 3, 83, 0, 0, []) ∧ am_cd 133 82 = some (.iconst 0, 1, 0, 0, 0, []) ∧ am_cd 133 83 = some (.ireturn, 1, 0, 0, 0, []) := ⟨rfl, rfl, rfl, rfl, rfl, rfl, rfl, rfl, rfl, rfl, rfl, rfl, rfl, rfl, rfl, rfl, rfl, rfl, rfl, rfl, rfl, rfl, rfl, rfl, rfl, rfl, rfl, rfl, rfl, rfl, rfl, rfl, rfl, rfl, rfl, rfl, rfl, rfl, rfl, rfl, rfl, rfl, rfl, rfl, rfl, rfl, rfl, rfl, rfl, rfl, rfl, rfl, rfl, rfl, rfl⟩
theorem en_134 (v0 v1 v2 : Value) : am_en 134 [v0, v1, v2] = [some v0, some v1, some v2, none, none] := by
  have h : am_mx 134 = 5 := by decide +kernel
  unfold am_en
  rw [h]
  rfl
theorem rt_134 : am_ret 134 = 1 := by decide +kernel
theorem kl_134 : am_kl 134 = 7 := by decide +kernel
set_option maxRecDepth 100000 in
theorem cx_134 : am_cd 134 0 = some (.iconst 0, 1, 0, 0, 0, []) ∧ am_cd 134 1 = some (.istore_n 3, 1, 3, 0, 0, []) ∧ am_cd 134 2 = some (.iconst 0, 1, 0, 0, 0, []) ∧ am_cd 134 3 = some (.istore 4, 2, 4, 0, 0, []) ∧ am_cd 134 7 = some (.aload_n 0, 1, 0, 0, 0, []) ∧ am_cd 134 8 = some (.getfield 75, 3, 7, 1, 0, [0, 614]) ∧ am_cd 134 11 = some (.if_icmp .ge 58, 3, 69, 0, 0, []) ∧ am_cd 134 14 = some (.aload_n 0, 1, 0, 0, 0, []) ∧ am_cd 134 15 = some (.iload 4, 2, 4, 0, 0, []) ∧ am_cd 134 17 = some (.iload_n 1, 1, 1, 0, 0, []) ∧ am_cd 134 18 = some (.iload_n 2, 1, 2, 0, 0, []) ∧ am_cd 134 19 = some (.invokevirtual 168, 3, 129, 4, 0, [0, 844]) ∧ am_cd 134 22 = some (.ifCond .eq 41, 3, 63, 0, 0, []) ∧ am_cd 134 25 = some (.iload_n 3, 1, 3, 0, 0, []) ∧ am_cd 134 26 = some (.iconst 1, 1, 0, 0, 1, []) ∧ am_cd 134 27 = some (.iconst 5, 1, 0, 0, 5, []) ∧ am_cd 134 28 = some (.aload_n 0, 1, 0, 0, 0, []) ∧ am_cd 134 29 = some (.getfield 7, 3, 7, 2, 0, [0, 615]) ∧ am_cd 134 32 = some (.iload 4, 2, 4, 0, 0, []) ∧ am_cd 134 34 = some (.iaload, 1, 0, 0, 0, []) ∧ am_cd 134 35 = some (.imul, 1, 0, 0, 0, []) ∧ am_cd 134 36 = some (.iconst 1, 1, 0, 0, 1, []) ∧ am_cd 134 37 = some (.iadd, 1, 0, 0, 0, []) ∧ am_cd 134 38 = some (.bipush 32, 2, 0, 0, 32, []) ∧ am_cd 134 40 = some (.irem, 1, 0, 0, 0, []) ∧ am_cd 134 41 = some (.ishl, 1, 0, 0, 0, []) ∧ am_cd 134 42 = some (.ior, 1, 0, 0, 0, []) ∧ am_cd 134 43 = some (.iconst 1, 1, 0, 0, 1, []) ∧ am_cd 134 44 = some (.bipush 11, 2, 0, 0, 11, []) ∧ am_cd 134 46 = some (.aload_n 0, 1, 0, 0, 0, []) ∧ am_cd 134 47 = some (.getfield 7, 3, 7, 2, 0, [0, 615]) ∧ am_cd 134 50 = some (.iload 4, 2, 4, 0, 0, []) ∧ am_cd 134 52 = some (.iaload, 1, 0, 0, 0, []) ∧ am_cd 134 53 = some (.imul, 1, 0, 0, 0, []) ∧ am_cd 134 54 = some (.bipush 7, 2, 0, 0, 7, []) ∧ am_cd 134 56 = some (.iadd, 1, 0, 0, 0, []) ∧ am_cd 134 57 = some (.bipush 32, 2, 0, 0, 32, []) ∧ am_cd 134 59 = some (.irem, 1, 0, 0, 0, []) ∧ am_cd 134 60 = some (.ishl, 1, 0, 0, 0, []) ∧ am_cd 134 61 = some (.ior, 1, 0, 0, 0, []) ∧ am_cd 134 62 = some (.istore_n 3, 1, 3, 0, 0, []) ∧ am_cd 134 63 = some (.iinc 4 1, 3, 4, 0, 1, []) ∧ am_cd 134 66 = some (.goto (-61), 3, 5, 0, 0, []) ∧ am_cd 134 69 = some (.iload_n 3, 1, 3, 0, 0, []) ∧ am_cd 134 70 = some (.ireturn, 1, 0, 0, 0, []) := ⟨rfl, rfl, rfl, rfl, rfl, rfl, rfl, rfl, rfl, rfl, rfl, rfl, rfl, rfl, rfl, rfl, rfl, rfl, rfl, rfl, rfl, rfl, rfl, rfl, rfl, rfl, rfl, rfl, rfl, rfl, rfl, rfl, rfl, rfl, rfl, rfl, rfl, rfl, rfl, rfl, rfl, rfl, rfl, rfl, rfl⟩
theorem cxh_134_5 : am_cd 134 5 = some (.iload 4, 2, 4, 0, 0, []) := rfl
theorem en_135 (v0 v1 v2 v3 : Value) : am_en 135 [v0, v1, v2, v3] = [some v0, some v1, some v2, some v3, none, none] := by
  have h : am_mx 135 = 6 := by decide +kernel
  unfold am_en
  rw [h]
  rfl
theorem rt_135 : am_ret 135 = 1 := by decide +kernel
theorem kl_135 : am_kl 135 = 7 := by decide +kernel
set_option maxRecDepth 100000 in
theorem cx_135 : am_cd 135 0 = some (.iconst (-1), 1, 0, 0, (-1), []) ∧ am_cd 135 1 = some (.istore 4, 2, 4, 0, 0, []) ∧ am_cd 135 3 = some (.iconst 0, 1, 0, 0, 0, []) ∧ am_cd 135 4 = some (.istore 5, 2, 5, 0, 0, []) ∧ am_cd 135 8 = some (.aload_n 0, 1, 0, 0, 0, []) ∧ am_cd 135 9 = some (.getfield 75, 3, 7, 1, 0, [0, 614]) ∧ am_cd 135 12 = some (.if_icmp .ge 73, 3, 85, 0, 0, []) ∧ am_cd 135 15 = some (.aload_n 0, 1, 0, 0, 0, []) ∧ am_cd 135 16 = some (.iload 5, 2, 5, 0, 0, []) ∧ am_cd 135 18 = some (.iload_n 1, 1, 1, 0, 0, []) ∧ am_cd 135 19 = some (.iload_n 2, 1, 2, 0, 0, []) ∧ am_cd 135 20 = some (.invokevirtual 168, 3, 129, 4, 0, [0, 844]) ∧ am_cd 135 23 = some (.ifCond .ne 6, 3, 29, 0, 0, []) ∧ am_cd 135 26 = some (.goto 53, 3, 79, 0, 0, []) ∧ am_cd 135 29 = some (.iload 4, 2, 4, 0, 0, []) ∧ am_cd 135 31 = some (.ifCond .lt 34, 3, 65, 0, 0, []) ∧ am_cd 135 34 = some (.iload_n 3, 1, 3, 0, 0, []) ∧ am_cd 135 35 = some (.ifCond .eq 18, 3, 53, 0, 0, []) ∧ am_cd 135 38 = some (.aload_n 0, 1, 0, 0, 0, []) ∧ am_cd 135 39 = some (.getfield 7, 3, 7, 2, 0, [0, 615]) ∧ am_cd 135 42 = some (.iload 5, 2, 5, 0, 0, []) ∧ am_cd 135 44 = some (.iaload, 1, 0, 0, 0, []) ∧ am_cd 135 45 = some (.iload 4, 2, 4, 0, 0, []) ∧ am_cd 135 47 = some (.if_icmp .le 28, 3, 75, 0, 0, []) ∧ am_cd 135 50 = some (.goto 15, 3, 65, 0, 0, []) ∧ am_cd 135 53 = some (.aload_n 0, 1, 0, 0, 0, []) ∧ am_cd 135 54 = some (.getfield 7, 3, 7, 2, 0, [0, 615]) ∧ am_cd 135 57 = some (.iload 5, 2, 5, 0, 0, []) ∧ am_cd 135 59 = some (.iaload, 1, 0, 0, 0, []) ∧ am_cd 135 60 = some (.iload 4, 2, 4, 0, 0, []) ∧ am_cd 135 62 = some (.if_icmp .ge 13, 3, 75, 0, 0, []) ∧ am_cd 135 65 = some (.aload_n 0, 1, 0, 0, 0, []) ∧ am_cd 135 66 = some (.getfield 7, 3, 7, 2, 0, [0, 615]) ∧ am_cd 135 69 = some (.iload 5, 2, 5, 0, 0, []) ∧ am_cd 135 71 = some (.iaload, 1, 0, 0, 0, []) ∧ am_cd 135 72 = some (.goto 5, 3, 77, 0, 0, []) ∧ am_cd 135 75 = some (.iload 4, 2, 4, 0, 0, []) ∧ am_cd 135 77 = some (.istore 4, 2, 4, 0, 0, []) ∧ am_cd 135 79 = some (.iinc 5 1, 3, 5, 0, 1, []) ∧ am_cd 135 82 = some (.goto (-76), 3, 6, 0, 0, []) ∧ am_cd 135 85 = some (.iload 4, 2, 4, 0, 0, []) ∧ am_cd 135 87 = some (.ireturn, 1, 0, 0, 0, []) := ⟨rfl, rfl, rfl, rfl, rfl, rfl, rfl, rfl, rfl, rfl, rfl, rfl, rfl, rfl, rfl, rfl, rfl, rfl, rfl, rfl, rfl, rfl, rfl, rfl, rfl, rfl, rfl, rfl, rfl, rfl, rfl, rfl, rfl, rfl, rfl, rfl, rfl, rfl, rfl, rfl, rfl, rfl⟩
theorem cxh_135_6 : am_cd 135 6 = some (.iload 5, 2, 5, 0, 0, []) := rfl
theorem en_136 (v0 v1 v2 : Value) : am_en 136 [v0, v1, v2] = [some v0, some v1, some v2, none] := by
  have h : am_mx 136 = 4 := by decide +kernel
  unfold am_en
  rw [h]
  rfl
theorem rt_136 : am_ret 136 = 1 := by decide +kernel
theorem kl_136 : am_kl 136 = 7 := by decide +kernel
set_option maxRecDepth 100000 in
theorem cx_136 : am_cd 136 0 = some (.aload_n 0, 1, 0, 0, 0, []) ∧ am_cd 136 1 = some (.iload_n 1, 1, 1, 0, 0, []) ∧ am_cd 136 2 = some (.invokevirtual 196, 3, 126, 2, 0, [0, 832]) ∧ am_cd 136 5 = some (.ifCond .eq 10, 3, 15, 0, 0, []) ∧ am_cd 136 8 = some (.iload_n 2, 1, 2, 0, 0, []) ∧ am_cd 136 9 = some (.invokestatic 137, 3, 95, 1, 0, [0, 709]) ∧ am_cd 136 12 = some (.ifCond .ne 5, 3, 17, 0, 0, []) ∧ am_cd 136 15 = some (.iconst 0, 1, 0, 0, 0, []) ∧ am_cd 136 16 = some (.ireturn, 1, 0, 0, 0, []) ∧ am_cd 136 17 = some (.aload_n 0, 1, 0, 0, 0, []) ∧ am_cd 136 18 = some (.iload_n 1, 1, 1, 0, 0, []) ∧ am_cd 136 19 = some (.iload_n 2, 1, 2, 0, 0, []) ∧ am_cd 136 20 = some (.invokevirtual 199, 3, 127, 3, 0, [0, 836]) ∧ am_cd 136 23 = some (.istore_n 3, 1, 3, 0, 0, []) ∧ am_cd 136 24 = some (.iload_n 3, 1, 3, 0, 0, []) ∧ am_cd 136 25 = some (.ifCond .lt 11, 3, 36, 0, 0, []) ∧ am_cd 136 28 = some (.aload_n 0, 1, 0, 0, 0, []) ∧ am_cd 136 29 = some (.iload_n 3, 1, 3, 0, 0, []) ∧ am_cd 136 30 = some (.invokevirtual 92, 3, 107, 2, 0, [0, 756]) ∧ am_cd 136 33 = some (.ifCond .eq 7, 3, 40, 0, 0, []) ∧ am_cd 136 36 = some (.iconst 0, 1, 0, 0, 0, []) ∧ am_cd 136 37 = some (.goto 9, 3, 46, 0, 0, []) ∧ am_cd 136 40 = some (.aload_n 0, 1, 0, 0, 0, []) ∧ am_cd 136 41 = some (.getfield 16, 3, 7, 4, 0, [0, 617]) ∧ am_cd 136 44 = some (.iload_n 3, 1, 3, 0, 0, []) ∧ am_cd 136 45 = some (.iaload, 1, 0, 0, 0, []) ∧ am_cd 136 46 = some (.ireturn, 1, 0, 0, 0, []) := ⟨rfl, rfl, rfl, rfl, rfl, rfl, rfl, rfl, rfl, rfl, rfl, rfl, rfl, rfl, rfl, rfl, rfl, rfl, rfl, rfl, rfl, rfl, rfl, rfl, rfl, rfl, rfl⟩
theorem en_137 (v0 v1 v2 v3 : Value) : am_en 137 [v0, v1, v2, v3] = [some v0, some v1, some v2, some v3, none, none] := by
  have h : am_mx 137 = 6 := by decide +kernel
  unfold am_en
  rw [h]
  rfl
theorem rt_137 : am_ret 137 = 1 := by decide +kernel
theorem kl_137 : am_kl 137 = 7 := by decide +kernel
set_option maxRecDepth 100000 in
theorem cx_137 : am_cd 137 0 = some (.aload_n 0, 1, 0, 0, 0, []) ∧ am_cd 137 1 = some (.iload_n 1, 1, 1, 0, 0, []) ∧ am_cd 137 2 = some (.invokevirtual 196, 3, 126, 2, 0, [0, 832]) ∧ am_cd 137 5 = some (.ifCond .eq 7, 3, 12, 0, 0, []) ∧ am_cd 137 8 = some (.iload_n 3, 1, 3, 0, 0, []) ∧ am_cd 137 9 = some (.ifCond .ge 5, 3, 14, 0, 0, []) ∧ am_cd 137 12 = some (.iconst (-1), 1, 0, 0, (-1), []) ∧ am_cd 137 13 = some (.ireturn, 1, 0, 0, 0, []) ∧ am_cd 137 14 = some (.iconst 0, 1, 0, 0, 0, []) ∧ am_cd 137 15 = some (.istore 4, 2, 4, 0, 0, []) ∧ am_cd 137 17 = some (.iload_n 2, 1, 2, 0, 0, []) ∧ am_cd 137 18 = some (.ifCond .ge 7, 3, 25, 0, 0, []) ∧ am_cd 137 21 = some (.iconst 0, 1, 0, 0, 0, []) ∧ am_cd 137 22 = some (.goto 4, 3, 26, 0, 0, []) ∧ am_cd 137 25 = some (.iload_n 2, 1, 2, 0, 0, []) ∧ am_cd 137 26 = some (.istore 5, 2, 5, 0, 0, []) ∧ am_cd 137 30 = some (.bipush 32, 2, 0, 0, 32, []) ∧ am_cd 137 32 = some (.if_icmp .ge 34, 3, 66, 0, 0, []) ∧ am_cd 137 35 = some (.aload_n 0, 1, 0, 0, 0, []) ∧ am_cd 137 36 = some (.iload_n 1, 1, 1, 0, 0, []) ∧ am_cd 137 37 = some (.iload 5, 2, 5, 0, 0, []) ∧ am_cd 137 39 = some (.invokevirtual 202, 3, 138, 3, 0, [0, 880]) ∧ am_cd 137 42 = some (.ifCond .ne 6, 3, 48, 0, 0, []) ∧ am_cd 137 45 = some (.goto 15, 3, 60, 0, 0, []) ∧ am_cd 137 48 = some (.iload 4, 2, 4, 0, 0, []) ∧ am_cd 137 50 = some (.iload_n 3, 1, 3, 0, 0, []) ∧ am_cd 137 51 = some (.if_icmp .ne 6, 3, 57, 0, 0, []) ∧ am_cd 137 54 = some (.iload 5, 2, 5, 0, 0, []) ∧ am_cd 137 56 = some (.ireturn, 1, 0, 0, 0, []) ∧ am_cd 137 57 = some (.iinc 4 1, 3, 4, 0, 1, []) ∧ am_cd 137 60 = some (.iinc 5 1, 3, 5, 0, 1, []) ∧ am_cd 137 63 = some (.goto (-35), 3, 28, 0, 0, []) ∧ am_cd 137 66 = some (.bipush (-2), 2, 0, 0, (-2), []) ∧ am_cd 137 68 = some (.ireturn, 1, 0, 0, 0, []) := ⟨rfl, rfl, rfl, rfl, rfl, rfl, rfl, rfl, rfl, rfl, rfl, rfl, rfl, rfl, rfl, rfl, rfl, rfl, rfl, rfl, rfl, rfl, rfl, rfl, rfl, rfl, rfl, rfl, rfl, rfl, rfl, rfl, rfl, rfl⟩
theorem cxh_137_28 : am_cd 137 28 = some (.iload 5, 2, 5, 0, 0, []) := rfl
theorem en_138 (v0 v1 v2 : Value) : am_en 138 [v0, v1, v2] = [some v0, some v1, some v2, none, none, none] := by
  have h : am_mx 138 = 6 := by decide +kernel
  unfold am_en
  rw [h]
  rfl
theorem rt_138 : am_ret 138 = 2 := by decide +kernel
theorem kl_138 : am_kl 138 = 7 := by decide +kernel
set_option maxRecDepth 100000 in
theorem cx_138 : am_cd 138 0 = some (.iconst (-1), 1, 0, 0, (-1), []) ∧ am_cd 138 1 = some (.istore_n 3, 1, 3, 0, 0, []) ∧ am_cd 138 2 = some (.iconst 0, 1, 0, 0, 0, []) ∧ am_cd 138 3 = some (.istore 4, 2, 4, 0, 0, []) ∧ am_cd 138 7 = some (.aload_n 0, 1, 0, 0, 0, []) ∧ am_cd 138 8 = some (.getfield 75, 3, 7, 1, 0, [0, 614]) ∧ am_cd 138 11 = some (.if_icmp .ge 77, 3, 88, 0, 0, []) ∧ am_cd 138 14 = some (.aload_n 0, 1, 0, 0, 0, []) ∧ am_cd 138 15 = some (.getfield 26, 3, 7, 7, 0, [0, 620]) ∧ am_cd 138 18 = some (.iload 4, 2, 4, 0, 0, []) ∧ am_cd 138 20 = some (.iaload, 1, 0, 0, 0, []) ∧ am_cd 138 21 = some (.bipush 9, 2, 0, 0, 9, []) ∧ am_cd 138 23 = some (.if_icmp .eq 28, 3, 51, 0, 0, []) ∧ am_cd 138 26 = some (.aload_n 0, 1, 0, 0, 0, []) ∧ am_cd 138 27 = some (.getfield 7, 3, 7, 2, 0, [0, 615]) ∧ am_cd 138 30 = some (.iload 4, 2, 4, 0, 0, []) ∧ am_cd 138 32 = some (.iaload, 1, 0, 0, 0, []) ∧ am_cd 138 33 = some (.iload_n 2, 1, 2, 0, 0, []) ∧ am_cd 138 34 = some (.if_icmp .ne 17, 3, 51, 0, 0, []) ∧ am_cd 138 37 = some (.aload_n 0, 1, 0, 0, 0, []) ∧ am_cd 138 38 = some (.iload 4, 2, 4, 0, 0, []) ∧ am_cd 138 40 = some (.iload_n 1, 1, 1, 0, 0, []) ∧ am_cd 138 41 = some (.invokevirtual 172, 3, 131, 3, 0, [0, 852]) ∧ am_cd 138 44 = some (.ifCond .eq 7, 3, 51, 0, 0, []) ∧ am_cd 138 47 = some (.iconst 1, 1, 0, 0, 1, []) ∧ am_cd 138 48 = some (.goto 4, 3, 52, 0, 0, []) ∧ am_cd 138 51 = some (.iconst 0, 1, 0, 0, 0, []) ∧ am_cd 138 52 = some (.istore 5, 2, 5, 0, 0, []) ∧ am_cd 138 54 = some (.iload 5, 2, 5, 0, 0, []) ∧ am_cd 138 56 = some (.ifCond .eq 26, 3, 82, 0, 0, []) ∧ am_cd 138 59 = some (.iload_n 3, 1, 3, 0, 0, []) ∧ am_cd 138 60 = some (.ifCond .lt 19, 3, 79, 0, 0, []) ∧ am_cd 138 63 = some (.aload_n 0, 1, 0, 0, 0, []) ∧ am_cd 138 64 = some (.getfield 13, 3, 7, 3, 0, [0, 616]) ∧ am_cd 138 67 = some (.iload 4, 2, 4, 0, 0, []) ∧ am_cd 138 69 = some (.iaload, 1, 0, 0, 0, []) ∧ am_cd 138 70 = some (.aload_n 0, 1, 0, 0, 0, []) ∧ am_cd 138 71 = some (.getfield 13, 3, 7, 3, 0, [0, 616]) ∧ am_cd 138 74 = some (.iload_n 3, 1, 3, 0, 0, []) ∧ am_cd 138 75 = some (.iaload, 1, 0, 0, 0, []) ∧ am_cd 138 76 = some (.if_icmp .le 6, 3, 82, 0, 0, []) ∧ am_cd 138 79 = some (.iload 4, 2, 4, 0, 0, []) ∧ am_cd 138 81 = some (.istore_n 3, 1, 3, 0, 0, []) ∧ am_cd 138 82 = some (.iinc 4 1, 3, 4, 0, 1, []) ∧ am_cd 138 85 = some (.goto (-80), 3, 5, 0, 0, []) ∧ am_cd 138 88 = some (.iload_n 3, 1, 3, 0, 0, []) ∧ am_cd 138 89 = some (.ifCond .lt 15, 3, 104, 0, 0, []) ∧ am_cd 138 92 = some (.aload_n 0, 1, 0, 0, 0, []) ∧ am_cd 138 93 = some (.iload_n 3, 1, 3, 0, 0, []) ∧ am_cd 138 94 = some (.invokevirtual 92, 3, 107, 2, 0, [0, 756]) ∧ am_cd 138 97 = some (.ifCond .ne 7, 3, 104, 0, 0, []) ∧ am_cd 138 100 = some (.iconst 1, 1, 0, 0, 1, []) ∧ am_cd 138 101 = some (.goto 4, 3, 105, 0, 0, []) ∧ am_cd 138 104 = some (.iconst 0, 1, 0, 0, 0, []) ∧ am_cd 138 105 = some (.ireturn, 1, 0, 0, 0, []) := ⟨rfl, rfl, rfl, rfl, rfl, rfl, rfl, rfl, rfl, rfl, rfl, rfl, rfl, rfl, rfl, rfl, rfl, rfl, rfl, rfl, rfl, rfl, rfl, rfl, rfl, rfl, rfl, rfl, rfl, rfl, rfl, rfl, rfl, rfl, rfl, rfl, rfl, rfl, rfl, rfl, rfl, rfl, rfl, rfl, rfl, rfl, rfl, rfl, rfl, rfl, rfl, rfl, rfl, rfl, rfl⟩
theorem cxh_138_5 : am_cd 138 5 = some (.iload 4, 2, 4, 0, 0, []) := rfl
theorem en_139 (v0 : Value) : am_en 139 [v0] = [some v0] := by
  have h : am_mx 139 = 1 := by decide +kernel
  unfold am_en
  rw [h]
  rfl
theorem rt_139 : am_ret 139 = 1 := by decide +kernel
theorem kl_139 : am_kl 139 = 7 := by decide +kernel
set_option maxRecDepth 100000 in
theorem cx_139 : am_cd 139 0 = some (.aload_n 0, 1, 0, 0, 0, []) ∧ am_cd 139 1 = some (.getfield 183, 3, 7, 29, 0, [0, 642]) ∧ am_cd 139 4 = some (.ireturn, 1, 0, 0, 0, []) := ⟨rfl, rfl, rfl⟩
theorem en_140 (v0 v1 v2 v3 : Value) : am_en 140 [v0, v1, v2, v3] = [some v0, some v1, some v2, some v3, none, none, none, none] := by
  have h : am_mx 140 = 8 := by decide +kernel
  unfold am_en
  rw [h]
  rfl
theorem rt_140 : am_ret 140 = 1 := by decide +kernel
theorem kl_140 : am_kl 140 = 7 := by decide +kernel
set_option maxRecDepth 100000 in
theorem cx_140 : am_cd 140 0 = some (.iload_n 1, 1, 1, 0, 0, []) ∧ am_cd 140 1 = some (.ifCond .lt 8, 3, 9, 0, 0, []) ∧ am_cd 140 4 = some (.iload_n 1, 1, 1, 0, 0, []) ∧ am_cd 140 5 = some (.iconst 2, 1, 0, 0, 2, []) ∧ am_cd 140 6 = some (.if_icmp .le 6, 3, 12, 0, 0, []) ∧ am_cd 140 9 = some (.bipush (-2), 2, 0, 0, (-2), []) ∧ am_cd 140 11 = some (.ireturn, 1, 0, 0, 0, []) ∧ am_cd 140 12 = some (.aload_n 0, 1, 0, 0, 0, []) ∧ am_cd 140 13 = some (.iload_n 1, 1, 1, 0, 0, []) ∧ am_cd 140 14 = some (.invokevirtual 190, 3, 132, 2, 0, [0, 856]) ∧ am_cd 140 17 = some (.istore 4, 2, 4, 0, 0, []) ∧ am_cd 140 19 = some (.iload_n 2, 1, 2, 0, 0, []) ∧ am_cd 140 20 = some (.iconst (-1), 1, 0, 0, (-1), []) ∧ am_cd 140 21 = some (.if_icmp .ne 6, 3, 27, 0, 0, []) ∧ am_cd 140 24 = some (.iload 4, 2, 4, 0, 0, []) ∧ am_cd 140 26 = some (.ireturn, 1, 0, 0, 0, []) ∧ am_cd 140 27 = some (.iload_n 2, 1, 2, 0, 0, []) ∧ am_cd 140 28 = some (.ifCond .lt 9, 3, 37, 0, 0, []) ∧ am_cd 140 31 = some (.iload_n 2, 1, 2, 0, 0, []) ∧ am_cd 140 32 = some (.iload 4, 2, 4, 0, 0, []) ∧ am_cd 140 34 = some (.if_icmp .lt 6, 3, 40, 0, 0, []) ∧ am_cd 140 37 = some (.bipush (-2), 2, 0, 0, (-2), []) ∧ am_cd 140 39 = some (.ireturn, 1, 0, 0, 0, []) ∧ am_cd 140 40 = some (.iconst 0, 1, 0, 0, 0, []) ∧ am_cd 140 41 = some (.istore 5, 2, 5, 0, 0, []) ∧ am_cd 140 43 = some (.iconst 0, 1, 0, 0, 0, []) ∧ am_cd 140 44 = some (.istore 6, 2, 6, 0, 0, []) ∧ am_cd 140 46 = some (.iconst 0, 1, 0, 0, 0, []) ∧ am_cd 140 47 = some (.istore 7, 2, 7, 0, 0, []) ∧ am_cd 140 51 = some (.aload_n 0, 1, 0, 0, 0, []) ∧ am_cd 140 52 = some (.getfield 75, 3, 7, 1, 0, [0, 614]) ∧ am_cd 140 55 = some (.if_icmp .ge 52, 3, 107, 0, 0, []) ∧ am_cd 140 58 = some (.aload_n 0, 1, 0, 0, 0, []) ∧ am_cd 140 59 = some (.iload 7, 2, 7, 0, 0, []) ∧ am_cd 140 61 = some (.iload_n 1, 1, 1, 0, 0, []) ∧ am_cd 140 62 = some (.iload_n 2, 1, 2, 0, 0, []) ∧ am_cd 140 63 = some (.invokevirtual 168, 3, 129, 4, 0, [0, 844]) ∧ am_cd 140 66 = some (.ifCond .ne 6, 3, 72, 0, 0, []) ∧ am_cd 140 69 = some (.goto 32, 3, 101, 0, 0, []) ∧ am_cd 140 72 = some (.iinc 5 1, 3, 5, 0, 1, []) ∧ am_cd 140 75 = some (.aload_n 0, 1, 0, 0, 0, []) ∧ am_cd 140 76 = some (.getfield 13, 3, 7, 3, 0, [0, 616]) ∧ am_cd 140 79 = some (.iload 7, 2, 7, 0, 0, []) ∧ am_cd 140 81 = some (.iaload, 1, 0, 0, 0, []) ∧ am_cd 140 82 = some (.iload 6, 2, 6, 0, 0, []) ∧ am_cd 140 84 = some (.if_icmp .le 13, 3, 97, 0, 0, []) ∧ am_cd 140 87 = some (.aload_n 0, 1, 0, 0, 0, []) ∧ am_cd 140 88 = some (.getfield 13, 3, 7, 3, 0, [0, 616]) ∧ am_cd 140 91 = some (.iload 7, 2, 7, 0, 0, []) ∧ am_cd 140 93 = some (.iaload, 1, 0, 0, 0, []) ∧ am_cd 140 94 = some (.goto 5, 3, 99, 0, 0, []) ∧ am_cd 140 97 = some (.iload 6, 2, 6, 0, 0, []) ∧ am_cd 140 99 = some (.istore 6, 2, 6, 0, 0, []) ∧ am_cd 140 101 = some (.iinc 7 1, 3, 7, 0, 1, []) ∧ am_cd 140 104 = some (.goto (-55), 3, 49, 0, 0, []) ∧ am_cd 140 107 = some (.iload_n 3, 1, 3, 0, 0, []) ∧ am_cd 140 108 = some (.tableswitch 65 0 4 #[36, 39, 46, 54, 62], 36, 173, 0, 0, [144, 147, 154, 162, 170]) ∧ am_cd 140 144 = some (.iload 5, 2, 5, 0, 0, []) ∧ am_cd 140 146 = some (.ireturn, 1, 0, 0, 0, []) ∧ am_cd 140 147 = some (.aload_n 0, 1, 0, 0, 0, []) ∧ am_cd 140 148 = some (.iload_n 1, 1, 1, 0, 0, []) ∧ am_cd 140 149 = some (.iload_n 2, 1, 2, 0, 0, []) ∧ am_cd 140 150 = some (.invokevirtual 175, 3, 134, 3, 0, [0, 864]) ∧ am_cd 140 153 = some (.ireturn, 1, 0, 0, 0, []) ∧ am_cd 140 154 = some (.aload_n 0, 1, 0, 0, 0, []) ∧ am_cd 140 155 = some (.iload_n 1, 1, 1, 0, 0, []) ∧ am_cd 140 156 = some (.iload_n 2, 1, 2, 0, 0, []) ∧ am_cd 140 157 = some (.iconst 0, 1, 0, 0, 0, []) ∧ am_cd 140 158 = some (.invokevirtual 179, 3, 135, 4, 0, [0, 868]) ∧ am_cd 140 161 = some (.ireturn, 1, 0, 0, 0, []) ∧ am_cd 140 162 = some (.aload_n 0, 1, 0, 0, 0, []) ∧ am_cd 140 163 = some (.iload_n 1, 1, 1, 0, 0, []) ∧ am_cd 140 164 = some (.iload_n 2, 1, 2, 0, 0, []) ∧ am_cd 140 165 = some (.iconst 1, 1, 0, 0, 1, []) ∧ am_cd 140 166 = some (.invokevirtual 179, 3, 135, 4, 0, [0, 868]) ∧ am_cd 140 169 = some (.ireturn, 1, 0, 0, 0, []) ∧ am_cd 140 170 = some (.iload 6, 2, 6, 0, 0, []) ∧ am_cd 140 172 = some (.ireturn, 1, 0, 0, 0, []) ∧ am_cd 140 173 = some (.bipush (-2), 2, 0, 0, (-2), []) ∧ am_cd 140 175 = some (.ireturn, 1, 0, 0, 0, []) := ⟨rfl, rfl, rfl, rfl, rfl, rfl, rfl, rfl, rfl, rfl, rfl, rfl, rfl, rfl, rfl, rfl, rfl, rfl, rfl, rfl, rfl, rfl, rfl, rfl, rfl, rfl, rfl, rfl, rfl, rfl, rfl, rfl, rfl, rfl, rfl, rfl, rfl, rfl, rfl, rfl, rfl, rfl, rfl, rfl, rfl, rfl, rfl, rfl, rfl, rfl, rfl, rfl, rfl, rfl, rfl, rfl, rfl, rfl, rfl, rfl, rfl, rfl, rfl, rfl, rfl, rfl, rfl, rfl, rfl, rfl, rfl, rfl, rfl, rfl, rfl, rfl, rfl, rfl, rfl, rfl⟩
theorem cxh_140_49 : am_cd 140 49 = some (.iload 7, 2, 7, 0, 0, []) := rfl
theorem en_141 (v0 v1 v2 : Value) : am_en 141 [v0, v1, v2] = [some v0, some v1, some v2, none] := by
  have h : am_mx 141 = 4 := by decide +kernel
  unfold am_en
  rw [h]
  rfl
theorem rt_141 : am_ret 141 = 1 := by decide +kernel
theorem kl_141 : am_kl 141 = 7 := by decide +kernel
set_option maxRecDepth 100000 in
theorem cx_141 : am_cd 141 0 = some (.aload_n 0, 1, 0, 0, 0, []) ∧ am_cd 141 1 = some (.getfield 128, 3, 7, 23, 0, [0, 636]) ∧ am_cd 141 4 = some (.aload_n 0, 1, 0, 0, 0, []) ∧ am_cd 141 5 = some (.getfield 144, 3, 7, 22, 0, [0, 635]) ∧ am_cd 141 8 = some (.isub, 1, 0, 0, 0, []) ∧ am_cd 141 9 = some (.iconst 1, 1, 0, 0, 1, []) ∧ am_cd 141 10 = some (.iadd, 1, 0, 0, 0, []) ∧ am_cd 141 11 = some (.istore_n 3, 1, 3, 0, 0, []) ∧ am_cd 141 12 = some (.iload_n 1, 1, 1, 0, 0, []) ∧ am_cd 141 13 = some (.iconst (-1), 1, 0, 0, (-1), []) ∧ am_cd 141 14 = some (.if_icmp .ne 5, 3, 19, 0, 0, []) ∧ am_cd 141 17 = some (.iload_n 3, 1, 3, 0, 0, []) ∧ am_cd 141 18 = some (.ireturn, 1, 0, 0, 0, []) ∧ am_cd 141 19 = some (.iload_n 1, 1, 1, 0, 0, []) ∧ am_cd 141 20 = some (.ifCond .lt 8, 3, 28, 0, 0, []) ∧ am_cd 141 23 = some (.iload_n 1, 1, 1, 0, 0, []) ∧ am_cd 141 24 = some (.iload_n 3, 1, 3, 0, 0, []) ∧ am_cd 141 25 = some (.if_icmp .lt 6, 3, 31, 0, 0, []) ∧ am_cd 141 28 = some (.bipush (-2), 2, 0, 0, (-2), []) ∧ am_cd 141 30 = some (.ireturn, 1, 0, 0, 0, []) ∧ am_cd 141 31 = some (.iload_n 2, 1, 2, 0, 0, []) ∧ am_cd 141 32 = some (.tableswitch 61 0 2 #[28, 35, 50], 28, 93, 0, 0, [60, 67, 82]) ∧ am_cd 141 60 = some (.aload_n 0, 1, 0, 0, 0, []) ∧ am_cd 141 61 = some (.getfield 144, 3, 7, 22, 0, [0, 635]) ∧ am_cd 141 64 = some (.iload_n 1, 1, 1, 0, 0, []) ∧ am_cd 141 65 = some (.iadd, 1, 0, 0, 0, []) ∧ am_cd 141 66 = some (.ireturn, 1, 0, 0, 0, []) ∧ am_cd 141 67 = some (.aload_n 0, 1, 0, 0, 0, []) ∧ am_cd 141 68 = some (.getfield 59, 3, 7, 24, 0, [0, 637]) ∧ am_cd 141 71 = some (.aload_n 0, 1, 0, 0, 0, []) ∧ am_cd 141 72 = some (.getfield 144, 3, 7, 22, 0, [0, 635]) ∧ am_cd 141 75 = some (.iload_n 1, 1, 1, 0, 0, []) ∧ am_cd 141 76 = some (.iadd, 1, 0, 0, 0, []) ∧ am_cd 141 77 = some (.bipush 8, 2, 0, 0, 8, []) ∧ am_cd 141 79 = some (.irem, 1, 0, 0, 0, []) ∧ am_cd 141 80 = some (.iaload, 1, 0, 0, 0, []) ∧ am_cd 141 81 = some (.ireturn, 1, 0, 0, 0, []) ∧ am_cd 141 82 = some (.aload_n 0, 1, 0, 0, 0, []) ∧ am_cd 141 83 = some (.aload_n 0, 1, 0, 0, 0, []) ∧ am_cd 141 84 = some (.getfield 144, 3, 7, 22, 0, [0, 635]) ∧ am_cd 141 87 = some (.iload_n 1, 1, 1, 0, 0, []) ∧ am_cd 141 88 = some (.iadd, 1, 0, 0, 0, []) ∧ am_cd 141 89 = some (.invokevirtual 156, 3, 117, 2, 0, [0, 796]) ∧ am_cd 141 92 = some (.ireturn, 1, 0, 0, 0, []) ∧ am_cd 141 93 = some (.bipush (-2), 2, 0, 0, (-2), []) ∧ am_cd 141 95 = some (.ireturn, 1, 0, 0, 0, []) := ⟨rfl, rfl, rfl, rfl, rfl, rfl, rfl, rfl, rfl, rfl, rfl, rfl, rfl, rfl, rfl, rfl, rfl, rfl, rfl, rfl, rfl, rfl, rfl, rfl, rfl, rfl, rfl, rfl, rfl, rfl, rfl, rfl, rfl, rfl, rfl, rfl, rfl, rfl, rfl, rfl, rfl, rfl, rfl, rfl, rfl, rfl⟩
theorem en_142 (v0 v1 : Value) : am_en 142 [v0, v1] = [some v0, some v1] := by
  have h : am_mx 142 = 2 := by decide +kernel
  unfold am_en
  rw [h]
  rfl
theorem rt_142 : am_ret 142 = 1 := by decide +kernel
theorem kl_142 : am_kl 142 = 7 := by decide +kernel
set_option maxRecDepth 100000 in
theorem cx_142 : am_cd 142 0 = some (.iload_n 1, 1, 1, 0, 0, []) ∧ am_cd 142 1 = some (.tableswitch 101 0 4 #[35, 41, 46, 51, 56], 35, 102, 0, 0, [36, 42, 47, 52, 57]) ∧ am_cd 142 36 = some (.aload_n 0, 1, 0, 0, 0, []) ∧ am_cd 142 37 = some (.iconst (-1), 1, 0, 0, (-1), []) ∧ am_cd 142 38 = some (.invokevirtual 109, 3, 100, 2, 0, [0, 728]) ∧ am_cd 142 41 = some (.ireturn, 1, 0, 0, 0, []) ∧ am_cd 142 42 = some (.aload_n 0, 1, 0, 0, 0, []) ∧ am_cd 142 43 = some (.getfield 89, 3, 7, 15, 0, [0, 628]) ∧ am_cd 142 46 = some (.ireturn, 1, 0, 0, 0, []) ∧ am_cd 142 47 = some (.aload_n 0, 1, 0, 0, 0, []) ∧ am_cd 142 48 = some (.getfield 125, 3, 7, 25, 0, [0, 638]) ∧ am_cd 142 51 = some (.ireturn, 1, 0, 0, 0, []) ∧ am_cd 142 52 = some (.aload_n 0, 1, 0, 0, 0, []) ∧ am_cd 142 53 = some (.getfield 134, 3, 7, 16, 0, [0, 629]) ∧ am_cd 142 56 = some (.ireturn, 1, 0, 0, 0, []) ∧ am_cd 142 57 = some (.aload_n 0, 1, 0, 0, 0, []) ∧ am_cd 142 58 = some (.getfield 53, 3, 7, 20, 0, [0, 633]) ∧ am_cd 142 61 = some (.iconst 0, 1, 0, 0, 0, []) ∧ am_cd 142 62 = some (.baload, 1, 0, 0, 0, []) ∧ am_cd 142 63 = some (.ifCond .eq 7, 3, 70, 0, 0, []) ∧ am_cd 142 66 = some (.iconst 1, 1, 0, 0, 1, []) ∧ am_cd 142 67 = some (.goto 4, 3, 71, 0, 0, []) ∧ am_cd 142 70 = some (.iconst 0, 1, 0, 0, 0, []) ∧ am_cd 142 71 = some (.aload_n 0, 1, 0, 0, 0, []) ∧ am_cd 142 72 = some (.getfield 53, 3, 7, 20, 0, [0, 633]) ∧ am_cd 142 75 = some (.iconst 1, 1, 0, 0, 1, []) ∧ am_cd 142 76 = some (.baload, 1, 0, 0, 0, []) ∧ am_cd 142 77 = some (.ifCond .eq 7, 3, 84, 0, 0, []) ∧ am_cd 142 80 = some (.iconst 1, 1, 0, 0, 1, []) ∧ am_cd 142 81 = some (.goto 4, 3, 85, 0, 0, []) ∧ am_cd 142 84 = some (.iconst 0, 1, 0, 0, 0, []) ∧ am_cd 142 85 = some (.iadd, 1, 0, 0, 0, []) ∧ am_cd 142 86 = some (.aload_n 0, 1, 0, 0, 0, []) ∧ am_cd 142 87 = some (.getfield 53, 3, 7, 20, 0, [0, 633]) ∧ am_cd 142 90 = some (.iconst 2, 1, 0, 0, 2, []) ∧ am_cd 142 91 = some (.baload, 1, 0, 0, 0, []) ∧ am_cd 142 92 = some (.ifCond .eq 7, 3, 99, 0, 0, []) ∧ am_cd 142 95 = some (.iconst 1, 1, 0, 0, 1, []) ∧ am_cd 142 96 = some (.goto 4, 3, 100, 0, 0, []) ∧ am_cd 142 99 = some (.iconst 0, 1, 0, 0, 0, []) ∧ am_cd 142 100 = some (.iadd, 1, 0, 0, 0, []) ∧ am_cd 142 101 = some (.ireturn, 1, 0, 0, 0, []) ∧ am_cd 142 102 = some (.bipush (-2), 2, 0, 0, (-2), []) ∧ am_cd 142 104 = some (.ireturn, 1, 0, 0, 0, []) := ⟨rfl, rfl, rfl, rfl, rfl, rfl, rfl, rfl, rfl, rfl, rfl, rfl, rfl, rfl, rfl, rfl, rfl, rfl, rfl, rfl, rfl, rfl, rfl, rfl, rfl, rfl, rfl, rfl, rfl, rfl, rfl, rfl, rfl, rfl, rfl, rfl, rfl, rfl, rfl, rfl, rfl, rfl, rfl, rfl⟩
theorem en_143 (v0 : Value) : am_en 143 [v0] = [some v0, none, none, none] := by
  have h : am_mx 143 = 4 := by decide +kernel
  unfold am_en
  rw [h]
  rfl
theorem rt_143 : am_ret 143 = 2 := by decide +kernel
set_option maxRecDepth 100000 in
theorem cx_143 : am_cd 143 0 = some (.new 7, 3, 0, 14, 0, [61, 62, 50]) ∧ am_cd 143 3 = some (.dup, 1, 0, 0, 0, []) ∧ am_cd 143 4 = some (.invokespecial 9, 3, 0, 1, 0, [0, 63]) ∧ am_cd 143 7 = some (.astore_n 1, 1, 1, 0, 0, []) ∧ am_cd 143 8 = some (.new 10, 3, 7, 30, 0, [607, 608, 58]) ∧ am_cd 143 11 = some (.dup, 1, 0, 0, 0, []) ∧ am_cd 143 12 = some (.invokespecial 12, 3, 93, 1, 0, [0, 609]) ∧ am_cd 143 15 = some (.astore_n 2, 1, 2, 0, 0, []) ∧ am_cd 143 16 = some (.iconst 0, 1, 0, 0, 0, []) ∧ am_cd 143 17 = some (.istore_n 3, 1, 3, 0, 0, []) ∧ am_cd 143 19 = some (.aload_n 0, 1, 0, 0, 0, []) ∧ am_cd 143 20 = some (.arraylength, 1, 0, 0, 0, []) ∧ am_cd 143 21 = some (.iconst 4, 1, 0, 0, 4, []) ∧ am_cd 143 22 = some (.isub, 1, 0, 0, 0, []) ∧ am_cd 143 23 = some (.if_icmp .gt 547, 3, 570, 0, 0, []) ∧ am_cd 143 26 = some (.aload_n 0, 1, 0, 0, 0, []) ∧ am_cd 143 27 = some (.iload_n 3, 1, 3, 0, 0, []) ∧ am_cd 143 28 = some (.iaload, 1, 0, 0, 0, []) ∧ am_cd 143 29 = some (.bipush 31, 2, 0, 0, 31, []) ∧ am_cd 143 31 = some (.iand, 1, 0, 0, 0, []) ∧ am_cd 143 32 = some (.tableswitch 532 0 17 #[88, 131, 154, 167, 180, 193, 216, 229, 242, 265, 288, 311, 344, 377, 420, 433, 476, 509], 88, 564, 0, 0, [120, 163, 186, 199, 212, 225, 248, 261, 274, 297, 320, 343, 376, 409, 452, 465, 508, 541]) ∧ am_cd 143 120 = some (.aload_n 1, 1, 1, 0, 0, []) ∧ am_cd 143 121 = some (.aload_n 0, 1, 0, 0, 0, []) ∧ am_cd 143 122 = some (.iload_n 3, 1, 3, 0, 0, []) ∧ am_cd 143 123 = some (.iconst 1, 1, 0, 0, 1, []) ∧ am_cd 143 124 = some (.iadd, 1, 0, 0, 0, []) ∧ am_cd 143 125 = some (.iaload, 1, 0, 0, 0, []) ∧ am_cd 143 126 = some (.aload_n 0, 1, 0, 0, 0, []) ∧ am_cd 143 127 = some (.iload_n 3, 1, 3, 0, 0, []) ∧ am_cd 143 128 = some (.iconst 2, 1, 0, 0, 2, []) ∧ am_cd 143 129 = some (.iadd, 1, 0, 0, 0, []) ∧ am_cd 143 130 = some (.iaload, 1, 0, 0, 0, []) ∧ am_cd 143 131 = some (.aload_n 0, 1, 0, 0, 0, []) ∧ am_cd 143 132 = some (.iload_n 3, 1, 3, 0, 0, []) ∧ am_cd 143 133 = some (.iconst 3, 1, 0, 0, 3, []) ∧ am_cd 143 134 = some (.iadd, 1, 0, 0, 0, []) ∧ am_cd 143 135 = some (.iaload, 1, 0, 0, 0, []) ∧ am_cd 143 136 = some (.invokevirtual 13, 3, 9, 4, 0, [0, 248]) ∧ am_cd 143 139 = some (.aload_n 2, 1, 2, 0, 0, []) ∧ am_cd 143 140 = some (.aload_n 0, 1, 0, 0, 0, []) ∧ am_cd 143 141 = some (.iload_n 3, 1, 3, 0, 0, []) ∧ am_cd 143 142 = some (.iconst 1, 1, 0, 0, 1, []) ∧ am_cd 143 143 = some (.iadd, 1, 0, 0, 0, []) ∧ am_cd 143 144 = some (.iaload, 1, 0, 0, 0, []) ∧ am_cd 143 145 = some (.aload_n 0, 1, 0, 0, 0, []) ∧ am_cd 143 146 = some (.iload_n 3, 1, 3, 0, 0, []) ∧ am_cd 143 147 = some (.iconst 2, 1, 0, 0, 2, []) ∧ am_cd 143 148 = some (.iadd, 1, 0, 0, 0, []) ∧ am_cd 143 149 = some (.iaload, 1, 0, 0, 0, []) ∧ am_cd 143 150 = some (.aload_n 0, 1, 0, 0, 0, []) ∧ am_cd 143 151 = some (.iload_n 3, 1, 3, 0, 0, []) ∧ am_cd 143 152 = some (.iconst 3, 1, 0, 0, 3, []) ∧ am_cd 143 153 = some (.iadd, 1, 0, 0, 0, []) ∧ am_cd 143 154 = some (.iaload, 1, 0, 0, 0, []) ∧ am_cd 143 155 = some (.invokevirtual 17, 3, 94, 4, 0, [0, 705]) ∧ am_cd 143 158 = some (.if_icmp .eq 406, 3, 564, 0, 0, []) ∧ am_cd 143 161 = some (.iconst 0, 1, 0, 0, 0, []) ∧ am_cd 143 162 = some (.ireturn, 1, 0, 0, 0, []) ∧ am_cd 143 163 = some (.aload_n 1, 1, 1, 0, 0, []) ∧ am_cd 143 164 = some (.aload_n 0, 1, 0, 0, 0, []) ∧ am_cd 143 165 = some (.iload_n 3, 1, 3, 0, 0, []) ∧ am_cd 143 166 = some (.iconst 1, 1, 0, 0, 1, []) ∧ am_cd 143 167 = some (.iadd, 1, 0, 0, 0, []) ∧ am_cd 143 168 = some (.iaload, 1, 0, 0, 0, []) ∧ am_cd 143 169 = some (.invokevirtual 18, 3, 14, 2, 0, [0, 267]) ∧ am_cd 143 172 = some (.aload_n 2, 1, 2, 0, 0, []) ∧ am_cd 143 173 = some (.aload_n 0, 1, 0, 0, 0, []) ∧ am_cd 143 174 = some (.iload_n 3, 1, 3, 0, 0, []) ∧ am_cd 143 175 = some (.iconst 1, 1, 0, 0, 1, []) ∧ am_cd 143 176 = some (.iadd, 1, 0, 0, 0, []) ∧ am_cd 143 177 = some (.iaload, 1, 0, 0, 0, []) ∧ am_cd 143 178 = some (.invokevirtual 22, 3, 97, 2, 0, [0, 716]) ∧ am_cd 143 181 = some (.if_icmp .eq 383, 3, 564, 0, 0, []) ∧ am_cd 143 184 = some (.iconst 0, 1, 0, 0, 0, []) ∧ am_cd 143 185 = some (.ireturn, 1, 0, 0, 0, []) ∧ am_cd 143 186 = some (.aload_n 1, 1, 1, 0, 0, []) ∧ am_cd 143 187 = some (.invokevirtual 23, 3, 15, 1, 0, [0, 271]) ∧ am_cd 143 190 = some (.aload_n 2, 1, 2, 0, 0, []) ∧ am_cd 143 191 = some (.invokevirtual 27, 3, 98, 1, 0, [0, 720]) ∧ am_cd 143 194 = some (.if_icmp .eq 370, 3, 564, 0, 0, []) ∧ am_cd 143 197 = some (.iconst 0, 1, 0, 0, 0, []) ∧ am_cd 143 198 = some (.ireturn, 1, 0, 0, 0, []) ∧ am_cd 143 199 = some (.aload_n 1, 1, 1, 0, 0, []) ∧ am_cd 143 200 = some (.invokevirtual 28, 3, 42, 1, 0, [0, 388]) ∧ am_cd 143 203 = some (.aload_n 2, 1, 2, 0, 0, []) ∧ am_cd 143 204 = some (.invokevirtual 31, 3, 113, 1, 0, [0, 780]) ∧ am_cd 143 207 = some (.if_icmp .eq 357, 3, 564, 0, 0, []) ∧ am_cd 143 210 = some (.iconst 0, 1, 0, 0, 0, []) ∧ am_cd 143 211 = some (.ireturn, 1, 0, 0, 0, []) ∧ am_cd 143 212 = some (.aload_n 1, 1, 1, 0, 0, []) ∧ am_cd 143 213 = some (.invokevirtual 32, 3, 43, 1, 0, [0, 392]) ∧ am_cd 143 216 = some (.aload_n 2, 1, 2, 0, 0, []) ∧ am_cd 143 217 = some (.invokevirtual 35, 3, 114, 1, 0, [0, 784]) ∧ am_cd 143 220 = some (.if_icmp .eq 344, 3, 564, 0, 0, []) ∧ am_cd 143 223 = some (.iconst 0, 1, 0, 0, 0, []) ∧ am_cd 143 224 = some (.ireturn, 1, 0, 0, 0, []) ∧ am_cd 143 225 = some (.aload_n 1, 1, 1, 0, 0, []) ∧ am_cd 143 226 = some (.aload_n 0, 1, 0, 0, 0, []) ∧ am_cd 143 227 = some (.iload_n 3, 1, 3, 0, 0, []) ∧ am_cd 143 228 = some (.iconst 1, 1, 0, 0, 1, []) ∧ am_cd 143 229 = some (.iadd, 1, 0, 0, 0, []) ∧ am_cd 143 230 = some (.iaload, 1, 0, 0, 0, []) ∧ am_cd 143 231 = some (.invokevirtual 36, 3, 44, 2, 0, [0, 396]) ∧ am_cd 143 234 = some (.aload_n 2, 1, 2, 0, 0, []) ∧ am_cd 143 235 = some (.aload_n 0, 1, 0, 0, 0, []) ∧ am_cd 143 236 = some (.iload_n 3, 1, 3, 0, 0, []) ∧ am_cd 143 237 = some (.iconst 1, 1, 0, 0, 1, []) ∧ am_cd 143 238 = some (.iadd, 1, 0, 0, 0, []) ∧ am_cd 143 239 = some (.iaload, 1, 0, 0, 0, []) ∧ am_cd 143 240 = some (.invokevirtual 39, 3, 115, 2, 0, [0, 788]) ∧ am_cd 143 243 = some (.if_icmp .eq 321, 3, 564, 0, 0, []) ∧ am_cd 143 246 = some (.iconst 0, 1, 0, 0, 0, []) ∧ am_cd 143 247 = some (.ireturn, 1, 0, 0, 0, []) ∧ am_cd 143 248 = some (.aload_n 1, 1, 1, 0, 0, []) ∧ am_cd 143 249 = some (.invokevirtual 40, 3, 46, 1, 0, [0, 404]) ∧ am_cd 143 252 = some (.aload_n 2, 1, 2, 0, 0, []) ∧ am_cd 143 253 = some (.invokevirtual 43, 3, 116, 1, 0, [0, 792]) ∧ am_cd 143 256 = some (.if_icmp .eq 308, 3, 564, 0, 0, []) ∧ am_cd 143 259 = some (.iconst 0, 1, 0, 0, 0, []) ∧ am_cd 143 260 = some (.ireturn, 1, 0, 0, 0, []) ∧ am_cd 143 261 = some (.aload_n 1, 1, 1, 0, 0, []) ∧ am_cd 143 262 = some (.invokevirtual 44, 3, 56, 1, 0, [0, 450]) ∧ am_cd 143 265 = some (.aload_n 2, 1, 2, 0, 0, []) ∧ am_cd 143 266 = some (.invokevirtual 47, 3, 121, 1, 0, [0, 812]) ∧ am_cd 143 269 = some (.if_icmp .eq 295, 3, 564, 0, 0, []) ∧ am_cd 143 272 = some (.iconst 0, 1, 0, 0, 0, []) ∧ am_cd 143 273 = some (.ireturn, 1, 0, 0, 0, []) ∧ am_cd 143 274 = some (.aload_n 1, 1, 1, 0, 0, []) ∧ am_cd 143 275 = some (.aload_n 0, 1, 0, 0, 0, []) ∧ am_cd 143 276 = some (.iload_n 3, 1, 3, 0, 0, []) ∧ am_cd 143 277 = some (.iconst 1, 1, 0, 0, 1, []) ∧ am_cd 143 278 = some (.iadd, 1, 0, 0, 0, []) ∧ am_cd 143 279 = some (.iaload, 1, 0, 0, 0, []) ∧ am_cd 143 280 = some (.invokevirtual 48, 3, 58, 2, 0, [0, 458]) ∧ am_cd 143 283 = some (.aload_n 2, 1, 2, 0, 0, []) ∧ am_cd 143 284 = some (.aload_n 0, 1, 0, 0, 0, []) ∧ am_cd 143 285 = some (.iload_n 3, 1, 3, 0, 0, []) ∧ am_cd 143 286 = some (.iconst 1, 1, 0, 0, 1, []) ∧ am_cd 143 287 = some (.iadd, 1, 0, 0, 0, []) ∧ am_cd 143 288 = some (.iaload, 1, 0, 0, 0, []) ∧ am_cd 143 289 = some (.invokevirtual 52, 3, 122, 2, 0, [0, 816]) ∧ am_cd 143 292 = some (.if_icmp .eq 272, 3, 564, 0, 0, []) ∧ am_cd 143 295 = some (.iconst 0, 1, 0, 0, 0, []) ∧ am_cd 143 296 = some (.ireturn, 1, 0, 0, 0, []) ∧ am_cd 143 297 = some (.aload_n 1, 1, 1, 0, 0, []) ∧ am_cd 143 298 = some (.aload_n 0, 1, 0, 0, 0, []) ∧ am_cd 143 299 = some (.iload_n 3, 1, 3, 0, 0, []) ∧ am_cd 143 300 = some (.iconst 1, 1, 0, 0, 1, []) ∧ am_cd 143 301 = some (.iadd, 1, 0, 0, 0, []) ∧ am_cd 143 302 = some (.iaload, 1, 0, 0, 0, []) ∧ am_cd 143 303 = some (.invokevirtual 53, 3, 61, 2, 0, [0, 470]) ∧ am_cd 143 306 = some (.aload_n 2, 1, 2, 0, 0, []) ∧ am_cd 143 307 = some (.aload_n 0, 1, 0, 0, 0, []) ∧ am_cd 143 308 = some (.iload_n 3, 1, 3, 0, 0, []) ∧ am_cd 143 309 = some (.iconst 1, 1, 0, 0, 1, []) ∧ am_cd 143 310 = some (.iadd, 1, 0, 0, 0, []) ∧ am_cd 143 311 = some (.iaload, 1, 0, 0, 0, []) ∧ am_cd 143 312 = some (.invokevirtual 56, 3, 123, 2, 0, [0, 820]) ∧ am_cd 143 315 = some (.if_icmp .eq 249, 3, 564, 0, 0, []) ∧ am_cd 143 318 = some (.iconst 0, 1, 0, 0, 0, []) ∧ am_cd 143 319 = some (.ireturn, 1, 0, 0, 0, []) ∧ am_cd 143 320 = some (.aload_n 1, 1, 1, 0, 0, []) ∧ am_cd 143 321 = some (.aload_n 0, 1, 0, 0, 0, []) ∧ am_cd 143 322 = some (.iload_n 3, 1, 3, 0, 0, []) ∧ am_cd 143 323 = some (.iconst 1, 1, 0, 0, 1, []) ∧ am_cd 143 324 = some (.iadd, 1, 0, 0, 0, []) ∧ am_cd 143 325 = some (.iaload, 1, 0, 0, 0, []) ∧ am_cd 143 326 = some (.invokevirtual 57, 3, 62, 2, 0, [0, 474]) ∧ am_cd 143 329 = some (.aload_n 2, 1, 2, 0, 0, []) ∧ am_cd 143 330 = some (.aload_n 0, 1, 0, 0, 0, []) ∧ am_cd 143 331 = some (.iload_n 3, 1, 3, 0, 0, []) ∧ am_cd 143 332 = some (.iconst 1, 1, 0, 0, 1, []) ∧ am_cd 143 333 = some (.iadd, 1, 0, 0, 0, []) ∧ am_cd 143 334 = some (.iaload, 1, 0, 0, 0, []) ∧ am_cd 143 335 = some (.invokevirtual 60, 3, 124, 2, 0, [0, 824]) ∧ am_cd 143 338 = some (.if_icmp .eq 226, 3, 564, 0, 0, []) ∧ am_cd 143 341 = some (.iconst 0, 1, 0, 0, 0, []) ∧ am_cd 143 342 = some (.ireturn, 1, 0, 0, 0, []) ∧ am_cd 143 343 = some (.aload_n 1, 1, 1, 0, 0, []) ∧ am_cd 143 344 = some (.aload_n 0, 1, 0, 0, 0, []) ∧ am_cd 143 345 = some (.iload_n 3, 1, 3, 0, 0, []) ∧ am_cd 143 346 = some (.iconst 1, 1, 0, 0, 1, []) ∧ am_cd 143 347 = some (.iadd, 1, 0, 0, 0, []) ∧ am_cd 143 348 = some (.iaload, 1, 0, 0, 0, []) ∧ am_cd 143 349 = some (.aload_n 0, 1, 0, 0, 0, []) ∧ am_cd 143 350 = some (.iload_n 3, 1, 3, 0, 0, []) ∧ am_cd 143 351 = some (.iconst 2, 1, 0, 0, 2, []) ∧ am_cd 143 352 = some (.iadd, 1, 0, 0, 0, []) ∧ am_cd 143 353 = some (.iaload, 1, 0, 0, 0, []) ∧ am_cd 143 354 = some (.invokevirtual 61, 3, 69, 3, 0, [0, 506]) ∧ am_cd 143 357 = some (.aload_n 2, 1, 2, 0, 0, []) ∧ am_cd 143 358 = some (.aload_n 0, 1, 0, 0, 0, []) ∧ am_cd 143 359 = some (.iload_n 3, 1, 3, 0, 0, []) ∧ am_cd 143 360 = some (.iconst 1, 1, 0, 0, 1, []) ∧ am_cd 143 361 = some (.iadd, 1, 0, 0, 0, []) ∧ am_cd 143 362 = some (.iaload, 1, 0, 0, 0, []) ∧ am_cd 143 363 = some (.aload_n 0, 1, 0, 0, 0, []) ∧ am_cd 143 364 = some (.iload_n 3, 1, 3, 0, 0, []) ∧ am_cd 143 365 = some (.iconst 2, 1, 0, 0, 2, []) ∧ am_cd 143 366 = some (.iadd, 1, 0, 0, 0, []) ∧ am_cd 143 367 = some (.iaload, 1, 0, 0, 0, []) ∧ am_cd 143 368 = some (.invokevirtual 65, 3, 125, 3, 0, [0, 828]) ∧ am_cd 143 371 = some (.if_icmp .eq 193, 3, 564, 0, 0, []) ∧ am_cd 143 374 = some (.iconst 0, 1, 0, 0, 0, []) ∧ am_cd 143 375 = some (.ireturn, 1, 0, 0, 0, []) ∧ am_cd 143 376 = some (.aload_n 1, 1, 1, 0, 0, []) ∧ am_cd 143 377 = some (.aload_n 0, 1, 0, 0, 0, []) ∧ am_cd 143 378 = some (.iload_n 3, 1, 3, 0, 0, []) ∧ am_cd 143 379 = some (.iconst 1, 1, 0, 0, 1, []) ∧ am_cd 143 380 = some (.iadd, 1, 0, 0, 0, []) ∧ am_cd 143 381 = some (.iaload, 1, 0, 0, 0, []) ∧ am_cd 143 382 = some (.aload_n 0, 1, 0, 0, 0, []) ∧ am_cd 143 383 = some (.iload_n 3, 1, 3, 0, 0, []) ∧ am_cd 143 384 = some (.iconst 2, 1, 0, 0, 2, []) ∧ am_cd 143 385 = some (.iadd, 1, 0, 0, 0, []) ∧ am_cd 143 386 = some (.iaload, 1, 0, 0, 0, []) ∧ am_cd 143 387 = some (.invokevirtual 66, 3, 80, 3, 0, [0, 553]) ∧ am_cd 143 390 = some (.aload_n 2, 1, 2, 0, 0, []) ∧ am_cd 143 391 = some (.aload_n 0, 1, 0, 0, 0, []) ∧ am_cd 143 392 = some (.iload_n 3, 1, 3, 0, 0, []) ∧ am_cd 143 393 = some (.iconst 1, 1, 0, 0, 1, []) ∧ am_cd 143 394 = some (.iadd, 1, 0, 0, 0, []) ∧ am_cd 143 395 = some (.iaload, 1, 0, 0, 0, []) ∧ am_cd 143 396 = some (.aload_n 0, 1, 0, 0, 0, []) ∧ am_cd 143 397 = some (.iload_n 3, 1, 3, 0, 0, []) ∧ am_cd 143 398 = some (.iconst 2, 1, 0, 0, 2, []) ∧ am_cd 143 399 = some (.iadd, 1, 0, 0, 0, []) ∧ am_cd 143 400 = some (.iaload, 1, 0, 0, 0, []) ∧ am_cd 143 401 = some (.invokevirtual 70, 3, 136, 3, 0, [0, 872]) ∧ am_cd 143 404 = some (.if_icmp .eq 160, 3, 564, 0, 0, []) ∧ am_cd 143 407 = some (.iconst 0, 1, 0, 0, 0, []) ∧ am_cd 143 408 = some (.ireturn, 1, 0, 0, 0, []) ∧ am_cd 143 409 = some (.aload_n 1, 1, 1, 0, 0, []) ∧ am_cd 143 410 = some (.aload_n 0, 1, 0, 0, 0, []) ∧ am_cd 143 411 = some (.iload_n 3, 1, 3, 0, 0, []) ∧ am_cd 143 412 = some (.iconst 1, 1, 0, 0, 1, []) ∧ am_cd 143 413 = some (.iadd, 1, 0, 0, 0, []) ∧ am_cd 143 414 = some (.iaload, 1, 0, 0, 0, []) ∧ am_cd 143 415 = some (.aload_n 0, 1, 0, 0, 0, []) ∧ am_cd 143 416 = some (.iload_n 3, 1, 3, 0, 0, []) ∧ am_cd 143 417 = some (.iconst 2, 1, 0, 0, 2, []) ∧ am_cd 143 418 = some (.iadd, 1, 0, 0, 0, []) ∧ am_cd 143 419 = some (.iaload, 1, 0, 0, 0, []) ∧ am_cd 143 420 = some (.aload_n 0, 1, 0, 0, 0, []) ∧ am_cd 143 421 = some (.iload_n 3, 1, 3, 0, 0, []) ∧ am_cd 143 422 = some (.iconst 3, 1, 0, 0, 3, []) ∧ am_cd 143 423 = some (.iadd, 1, 0, 0, 0, []) ∧ am_cd 143 424 = some (.iaload, 1, 0, 0, 0, []) ∧ am_cd 143 425 = some (.invokevirtual 71, 3, 81, 4, 0, [0, 557]) ∧ am_cd 143 428 = some (.aload_n 2, 1, 2, 0, 0, []) ∧ am_cd 143 429 = some (.aload_n 0, 1, 0, 0, 0, []) ∧ am_cd 143 430 = some (.iload_n 3, 1, 3, 0, 0, []) ∧ am_cd 143 431 = some (.iconst 1, 1, 0, 0, 1, []) ∧ am_cd 143 432 = some (.iadd, 1, 0, 0, 0, []) ∧ am_cd 143 433 = some (.iaload, 1, 0, 0, 0, []) ∧ am_cd 143 434 = some (.aload_n 0, 1, 0, 0, 0, []) ∧ am_cd 143 435 = some (.iload_n 3, 1, 3, 0, 0, []) ∧ am_cd 143 436 = some (.iconst 2, 1, 0, 0, 2, []) ∧ am_cd 143 437 = some (.iadd, 1, 0, 0, 0, []) ∧ am_cd 143 438 = some (.iaload, 1, 0, 0, 0, []) ∧ am_cd 143 439 = some (.aload_n 0, 1, 0, 0, 0, []) ∧ am_cd 143 440 = some (.iload_n 3, 1, 3, 0, 0, []) ∧ am_cd 143 441 = some (.iconst 3, 1, 0, 0, 3, []) ∧ am_cd 143 442 = some (.iadd, 1, 0, 0, 0, []) ∧ am_cd 143 443 = some (.iaload, 1, 0, 0, 0, []) ∧ am_cd 143 444 = some (.invokevirtual 74, 3, 137, 4, 0, [0, 876]) ∧ am_cd 143 447 = some (.if_icmp .eq 117, 3, 564, 0, 0, []) ∧ am_cd 143 450 = some (.iconst 0, 1, 0, 0, 0, []) ∧ am_cd 143 451 = some (.ireturn, 1, 0, 0, 0, []) ∧ am_cd 143 452 = some (.aload_n 1, 1, 1, 0, 0, []) ∧ am_cd 143 453 = some (.invokevirtual 75, 3, 82, 1, 0, [0, 561]) ∧ am_cd 143 456 = some (.aload_n 2, 1, 2, 0, 0, []) ∧ am_cd 143 457 = some (.invokevirtual 78, 3, 139, 1, 0, [0, 884]) ∧ am_cd 143 460 = some (.if_icmp .eq 104, 3, 564, 0, 0, []) ∧ am_cd 143 463 = some (.iconst 0, 1, 0, 0, 0, []) ∧ am_cd 143 464 = some (.ireturn, 1, 0, 0, 0, []) ∧ am_cd 143 465 = some (.aload_n 1, 1, 1, 0, 0, []) ∧ am_cd 143 466 = some (.aload_n 0, 1, 0, 0, 0, []) ∧ am_cd 143 467 = some (.iload_n 3, 1, 3, 0, 0, []) ∧ am_cd 143 468 = some (.iconst 1, 1, 0, 0, 1, []) ∧ am_cd 143 469 = some (.iadd, 1, 0, 0, 0, []) ∧ am_cd 143 470 = some (.iaload, 1, 0, 0, 0, []) ∧ am_cd 143 471 = some (.aload_n 0, 1, 0, 0, 0, []) ∧ am_cd 143 472 = some (.iload_n 3, 1, 3, 0, 0, []) ∧ am_cd 143 473 = some (.iconst 2, 1, 0, 0, 2, []) ∧ am_cd 143 474 = some (.iadd, 1, 0, 0, 0, []) ∧ am_cd 143 475 = some (.iaload, 1, 0, 0, 0, []) ∧ am_cd 143 476 = some (.aload_n 0, 1, 0, 0, 0, []) ∧ am_cd 143 477 = some (.iload_n 3, 1, 3, 0, 0, []) ∧ am_cd 143 478 = some (.iconst 3, 1, 0, 0, 3, []) ∧ am_cd 143 479 = some (.iadd, 1, 0, 0, 0, []) ∧ am_cd 143 480 = some (.iaload, 1, 0, 0, 0, []) ∧ am_cd 143 481 = some (.invokevirtual 79, 3, 83, 4, 0, [0, 565]) ∧ am_cd 143 484 = some (.aload_n 2, 1, 2, 0, 0, []) ∧ am_cd 143 485 = some (.aload_n 0, 1, 0, 0, 0, []) ∧ am_cd 143 486 = some (.iload_n 3, 1, 3, 0, 0, []) ∧ am_cd 143 487 = some (.iconst 1, 1, 0, 0, 1, []) ∧ am_cd 143 488 = some (.iadd, 1, 0, 0, 0, []) ∧ am_cd 143 489 = some (.iaload, 1, 0, 0, 0, []) ∧ am_cd 143 490 = some (.aload_n 0, 1, 0, 0, 0, []) ∧ am_cd 143 491 = some (.iload_n 3, 1, 3, 0, 0, []) ∧ am_cd 143 492 = some (.iconst 2, 1, 0, 0, 2, []) ∧ am_cd 143 493 = some (.iadd, 1, 0, 0, 0, []) ∧ am_cd 143 494 = some (.iaload, 1, 0, 0, 0, []) ∧ am_cd 143 495 = some (.aload_n 0, 1, 0, 0, 0, []) ∧ am_cd 143 496 = some (.iload_n 3, 1, 3, 0, 0, []) ∧ am_cd 143 497 = some (.iconst 3, 1, 0, 0, 3, []) ∧ am_cd 143 498 = some (.iadd, 1, 0, 0, 0, []) ∧ am_cd 143 499 = some (.iaload, 1, 0, 0, 0, []) ∧ am_cd 143 500 = some (.invokevirtual 82, 3, 140, 4, 0, [0, 888]) ∧ am_cd 143 503 = some (.if_icmp .eq 61, 3, 564, 0, 0, []) ∧ am_cd 143 506 = some (.iconst 0, 1, 0, 0, 0, []) ∧ am_cd 143 507 = some (.ireturn, 1, 0, 0, 0, []) ∧ am_cd 143 508 = some (.aload_n 1, 1, 1, 0, 0, []) ∧ am_cd 143 509 = some (.aload_n 0, 1, 0, 0, 0, []) ∧ am_cd 143 510 = some (.iload_n 3, 1, 3, 0, 0, []) ∧ am_cd 143 511 = some (.iconst 1, 1, 0, 0, 1, []) ∧ am_cd 143 512 = some (.iadd, 1, 0, 0, 0, []) ∧ am_cd 143 513 = some (.iaload, 1, 0, 0, 0, []) ∧ am_cd 143 514 = some (.aload_n 0, 1, 0, 0, 0, []) ∧ am_cd 143 515 = some (.iload_n 3, 1, 3, 0, 0, []) ∧ am_cd 143 516 = some (.iconst 2, 1, 0, 0, 2, []) ∧ am_cd 143 517 = some (.iadd, 1, 0, 0, 0, []) ∧ am_cd 143 518 = some (.iaload, 1, 0, 0, 0, []) ∧ am_cd 143 519 = some (.invokevirtual 83, 3, 86, 3, 0, [0, 578]) ∧ am_cd 143 522 = some (.aload_n 2, 1, 2, 0, 0, []) ∧ am_cd 143 523 = some (.aload_n 0, 1, 0, 0, 0, []) ∧ am_cd 143 524 = some (.iload_n 3, 1, 3, 0, 0, []) ∧ am_cd 143 525 = some (.iconst 1, 1, 0, 0, 1, []) ∧ am_cd 143 526 = some (.iadd, 1, 0, 0, 0, []) ∧ am_cd 143 527 = some (.iaload, 1, 0, 0, 0, []) ∧ am_cd 143 528 = some (.aload_n 0, 1, 0, 0, 0, []) ∧ am_cd 143 529 = some (.iload_n 3, 1, 3, 0, 0, []) ∧ am_cd 143 530 = some (.iconst 2, 1, 0, 0, 2, []) ∧ am_cd 143 531 = some (.iadd, 1, 0, 0, 0, []) ∧ am_cd 143 532 = some (.iaload, 1, 0, 0, 0, []) ∧ am_cd 143 533 = some (.invokevirtual 86, 3, 141, 3, 0, [0, 892]) ∧ am_cd 143 536 = some (.if_icmp .eq 28, 3, 564, 0, 0, []) ∧ am_cd 143 539 = some (.iconst 0, 1, 0, 0, 0, []) ∧ am_cd 143 540 = some (.ireturn, 1, 0, 0, 0, []) ∧ am_cd 143 541 = some (.aload_n 1, 1, 1, 0, 0, []) ∧ am_cd 143 542 = some (.aload_n 0, 1, 0, 0, 0, []) ∧ am_cd 143 543 = some (.iload_n 3, 1, 3, 0, 0, []) ∧ am_cd 143 544 = some (.iconst 1, 1, 0, 0, 1, []) ∧ am_cd 143 545 = some (.iadd, 1, 0, 0, 0, []) ∧ am_cd 143 546 = some (.iaload, 1, 0, 0, 0, []) ∧ am_cd 143 547 = some (.invokevirtual 87, 3, 91, 2, 0, [0, 599]) ∧ am_cd 143 550 = some (.aload_n 2, 1, 2, 0, 0, []) ∧ am_cd 143 551 = some (.aload_n 0, 1, 0, 0, 0, []) ∧ am_cd 143 552 = some (.iload_n 3, 1, 3, 0, 0, []) ∧ am_cd 143 553 = some (.iconst 1, 1, 0, 0, 1, []) ∧ am_cd 143 554 = some (.iadd, 1, 0, 0, 0, []) ∧ am_cd 143 555 = some (.iaload, 1, 0, 0, 0, []) ∧ am_cd 143 556 = some (.invokevirtual 90, 3, 142, 2, 0, [0, 896]) ∧ am_cd 143 559 = some (.if_icmp .eq 5, 3, 564, 0, 0, []) ∧ am_cd 143 562 = some (.iconst 0, 1, 0, 0, 0, []) ∧ am_cd 143 563 = some (.ireturn, 1, 0, 0, 0, []) ∧ am_cd 143 564 = some (.iinc 3 4, 3, 3, 0, 4, []) ∧ am_cd 143 567 = some (.goto (-549), 3, 18, 0, 0, []) ∧ am_cd 143 570 = some (.iconst 1, 1, 0, 0, 1, []) ∧ am_cd 143 571 = some (.ireturn, 1, 0, 0, 0, []) := ⟨rfl, rfl, rfl, rfl, rfl, rfl, rfl, rfl, rfl, rfl, rfl, rfl, rfl, rfl, rfl, rfl, rfl, rfl, rfl, rfl, rfl, rfl, rfl, rfl, rfl, rfl, rfl, rfl, rfl, rfl, rfl, rfl, rfl, rfl, rfl, rfl, rfl, rfl, rfl, rfl, rfl, rfl, rfl, rfl, rfl, rfl, rfl, rfl, rfl, rfl, rfl, rfl, rfl, rfl, rfl, rfl, rfl, rfl, rfl, rfl, rfl, rfl, rfl, rfl, rfl, rfl, rfl, rfl, rfl, rfl, rfl, rfl, rfl, rfl, rfl, rfl, rfl, rfl, rfl, rfl, rfl, rfl, rfl, rfl, rfl, rfl, rfl, rfl, rfl, rfl, rfl, rfl, rfl, rfl, rfl, rfl, rfl, rfl, rfl, rfl, rfl, rfl, rfl, rfl, rfl, rfl, rfl, rfl, rfl, rfl, rfl, rfl, rfl, rfl, rfl, rfl, rfl, rfl, rfl, rfl, rfl, rfl, rfl, rfl, rfl, rfl, rfl, rfl, rfl, rfl, rfl, rfl, rfl, rfl, rfl, rfl, rfl, rfl, rfl, rfl, rfl, rfl, rfl, rfl, rfl, rfl, rfl, rfl, rfl, rfl, rfl, rfl, rfl, rfl, rfl, rfl, rfl, rfl, rfl, rfl, rfl, rfl, rfl, rfl, rfl, rfl, rfl, rfl, rfl, rfl, rfl, rfl, rfl, rfl, rfl, rfl, rfl, rfl, rfl, rfl, rfl, rfl, rfl, rfl, rfl, rfl, rfl, rfl, rfl, rfl, rfl, rfl, rfl, rfl, rfl, rfl, rfl, rfl, rfl, rfl, rfl, rfl, rfl, rfl, rfl, rfl, rfl, rfl, rfl, rfl, rfl, rfl, rfl, rfl, rfl, rfl, rfl, rfl, rfl, rfl, rfl, rfl, rfl, rfl, rfl, rfl, rfl, rfl, rfl, rfl, rfl, rfl, rfl, rfl, rfl, rfl, rfl, rfl, rfl, rfl, rfl, rfl, rfl, rfl, rfl, rfl, rfl, rfl, rfl, rfl, rfl, rfl, rfl, rfl, rfl, rfl, rfl, rfl, rfl, rfl, rfl, rfl, rfl, rfl, rfl, rfl, rfl, rfl, rfl, rfl, rfl, rfl, rfl, rfl, rfl, rfl, rfl, rfl, rfl, rfl, rfl, rfl, rfl, rfl, rfl, rfl, rfl, rfl, rfl, rfl, rfl, rfl, rfl, rfl, rfl, rfl, rfl, rfl, rfl, rfl, rfl, rfl, rfl, rfl, rfl, rfl, rfl, rfl, rfl, rfl, rfl, rfl, rfl, rfl, rfl, rfl, rfl, rfl, rfl, rfl, rfl, rfl, rfl, rfl, rfl, rfl, rfl, rfl, rfl, rfl, rfl, rfl, rfl, rfl, rfl, rfl, rfl, rfl, rfl, rfl, rfl, rfl, rfl, rfl, rfl, rfl, rfl, rfl, rfl, rfl, rfl, rfl, rfl, rfl, rfl, rfl, rfl, rfl, rfl, rfl, rfl⟩
theorem cxh_143_18 : am_cd 143 18 = some (.iload_n 3, 1, 3, 0, 0, []) := rfl
end
section
theorem rx_copy2 (z d j l x pc : Nat) (c : Int32) (ts : List Nat) (lo : am_L) (st : List Value) (h : am_H) (r : Option Value) (h' : am_H) (k b : Nat) (n dp sp : Int32) : am_X z d j (some (.invokestatic k, l, x, 92, c, ts)) pc lo (.int n :: .int dp :: .ref b :: .int sp :: .ref b :: st) h r h' = if am_g 8 st = true then am_KW z d j (pc + l) lo (am_w1 z b st (am_cp (h.1 b) sp dp n)) h r h' else False := by
  by_cases hg : am_g 8 st = true
  · rw [if_pos hg, rx_copy _ _ _ _ _ _ _ _ _ _ _ _ _ _ _ _ _ _ hg]
  · rw [if_neg hg]
    have hw : am_w z (.invokestatic k) x 92 (.int n :: .int dp :: .ref b :: .int sp :: .ref b :: st) h = none := by
      simp only [am_w, hg, and_false, if_false, Bool.false_eq_true]
    have hca : am_ca (.invokestatic k) x 92 (.int n :: .int dp :: .ref b :: .int sp :: .ref b :: st) h = none := by simp [am_ca]
    have hs : am_s (.invokestatic k) x 92 c ts (pc + l) lo (.int n :: .int dp :: .ref b :: .int sp :: .ref b :: st) h = none := by simp [am_s]
    simp only [am_X, am_rt, hca, hw, am_n, hs, am_K]
theorem rx_max2 (z d j l x pc : Nat) (c : Int32) (ts : List Nat) (lo : am_L) (st : List Value) (h : am_H) (r : Option Value) (h' : am_H) (k : Nat) (a b : Int32) : am_X z d j (some (.invokestatic k, l, x, 90, c, ts)) pc lo (.int b :: .int a :: st) h r h' = if am_g 8 st = true then am_R z d j (pc + l) lo (.int (if a < b then b else a) :: st) h r h' else False := by
  rw [rx_max]
  by_cases hg : am_g 8 st = true
  · rw [ev_m2 _ _ _ _ _ _ hg, ev_K, if_pos hg]
  · rw [if_neg hg]
    simp only [am_m2, hg, if_false, am_K, Bool.false_eq_true]
theorem rx_min2 (z d j l x pc : Nat) (c : Int32) (ts : List Nat) (lo : am_L) (st : List Value) (h : am_H) (r : Option Value) (h' : am_H) (k : Nat) (a b : Int32) : am_X z d j (some (.invokestatic k, l, x, 91, c, ts)) pc lo (.int b :: .int a :: st) h r h' = if am_g 8 st = true then am_R z d j (pc + l) lo (.int (if b < a then b else a) :: st) h r h' else False := by
  rw [rx_min]
  by_cases hg : am_g 8 st = true
  · rw [ev_m2 _ _ _ _ _ _ hg, ev_K, if_pos hg]
  · rw [if_neg hg]
    simp only [am_m2, hg, if_false, am_K, Bool.false_eq_true]
theorem rx_obj2 (z d j l x pc : Nat) (c : Int32) (ts : List Nat) (lo : am_L) (st : List Value) (h : am_H) (r : Option Value) (h' : am_H) (k a : Nat) : am_X z d j (some (.invokespecial k, l, x, 99, c, ts)) pc lo (.ref a :: st) h r h' = if am_g 8 st = true then am_R z d j (pc + l) lo st h r h' else False := by
  show am_K z d j (if (99 : Nat) = 99 ∧ am_g 8 st = true then some (pc + l, lo, st) else none) h r h' = _
  by_cases hg : am_g 8 st = true
  · simp only [hg, and_self, if_true, am_K]
  · simp only [hg, and_false, if_false, am_K, Bool.false_eq_true]
theorem am_ftv : am_ft 0 10 = 0 ∧ am_ft 0 11 = 0 ∧ am_ft 0 12 = 0 ∧ am_ft 0 13 = 0 ∧ am_ft 1 0 = 0 ∧ am_ft 1 1 = 0 ∧ am_ft 1 2 = 0 ∧ am_ft 1 3 = 1 ∧ am_ft 1 4 = 0 ∧ am_ft 1 5 = 0 ∧ am_ft 1 6 = 0 ∧ am_ft 1 7 = 0 ∧ am_ft 2 0 = 2 ∧ am_ft 2 1 = 2 ∧ am_ft 2 2 = 0 ∧ am_ft 3 0 = 2 ∧ am_ft 3 1 = 0 ∧ am_ft 4 0 = 2 ∧ am_ft 4 1 = 0 ∧ am_ft 5 0 = 2 ∧ am_ft 5 1 = 0 ∧ am_ft 5 2 = 0 ∧ am_ft 5 3 = 2 ∧ am_ft 5 4 = 2 ∧ am_ft 5 5 = 2 ∧ am_ft 5 6 = 0 ∧ am_ft 6 0 = 2 := by decide +kernel
def vs_row (h : am_H) (r a bl n : Nat) (L : List Nat) : Prop := h.1 r = some (.inr (2, [.ref bl, .ref a, .int (nI L.length)])) ∧ L.length ≤ n ∧ n ≤ 200 ∧ ∃ g, h.1 a = some (.inl (2, n, .inr (.inr (.inr (.inr g))))) ∧ ∀ k, k < L.length → g k = L[k]?
theorem am_up_self {h : am_H} {a : Nat} {e : am_E} (he : h.1 a = some e) : am_up h a e = h := by
  unfold am_up
  refine Prod.ext ?_ rfl
  funext q
  by_cases hq : q = a
  · simp only [hq, if_true, he]
  · simp only [hq, if_false]
theorem am_up_up (h : am_H) (a : Nat) (x y : am_E) : am_up (am_up h a x) a y = am_up h a y := by
  unfold am_up
  refine Prod.ext ?_ rfl
  funext q
  by_cases hq : q = a <;> simp only [hq, if_true, if_false]
theorem am_up_cm (h : am_H) {a b : Nat} (x y : am_E) (hab : a ≠ b) : am_up (am_up h a x) b y = am_up (am_up h b y) a x := by
  unfold am_up
  refine Prod.ext ?_ rfl
  funext q
  by_cases hq : q = a
  · subst hq
    simp only [if_true, hab, if_false]
  · simp only [hq, if_false]
theorem am_ne {h : am_H} {a b : Nat} {x y : am_E} (ha : h.1 a = some x) (hb : h.1 b = some y) (hn : x ≠ y) : a ≠ b := by
  intro e
  subst e
  rw [ha] at hb
  exact hn (Option.some.inj hb)
theorem b11 : (1 : Int32) &&& 1 = 1 := by decide
theorem b00 : (0 : Int32) &&& 1 = 0 := by decide
theorem nI_ofs (n : Nat) : nI n + 1 = nI (n + 1) := nI_1 n
theorem i_10 : ¬ (1 : Int32) = 0 := by decide
abbrev vs_q (n : Nat) (g : Nat → Option Nat) : am_E := .inl (2, n, .inr (.inr (.inr (.inr g))))
abbrev vs_ro (bl a k : Nat) : am_E := .inr (2, [.ref bl, .ref a, .int (nI k)])
abbrev vs_e (E : Nat → Nat → Int32) (a : Nat) : am_E := .inr (1, [.int (E a 0), .int (E a 1), .int (E a 2), .int (E a 3), .int (E a 4), .int (E a 5), .int (E a 6), .int (E a 7)])
def vs_ch (h h' : am_H) (r a : Nat) : Prop := (∀ q, q ≠ r → q ≠ a → h'.1 q = h.1 q) ∧ h'.2 = h.2
def e_gone (E : Nat → Nat → Int32) (a : Nat) (now : Int32) : Bool := !decide (E a 3 = 0) || (!decide (E a 2 ≤ 0) && !decide (now < E a 5))
def e_bf (E : Nat → Nat → Int32) (a b : Nat) : Bool := decide (E a 0 < E b 0) || (decide (E a 0 = E b 0) && !decide (E a 4 ≤ E b 4))
def e_live (E : Nat → Nat → Int32) (s : Int32) (a : Nat) : Bool := decide (E a 3 = 0) && decide (E a 6 = s)
section ROW
variable {h : am_H} {r a bl n : Nat} {L : List Nat} {E : Nat → Nat → Int32}
theorem vs_row.ne (hr : vs_row h r a bl n L) : r ≠ a := by
  obtain ⟨h1, h2, h3, g, h4, h5⟩ := hr
  exact am_ne h1 h4 (by simp)
theorem en_isBlank (z d : Nat) {e : Nat} (he : h.1 e = some (vs_e E e)) : am_M z (d + 1) 74 [.ref e] h (some (.int (if E e 0 = -1 then 1 else 0))) h := by
  rw [am_M_eq]
  simp only [am_R_eq, cx_74, en_74, rt_74, rx_aload_n, rx_getfield, ev_gf, rx_goto, rx_iconst, rx_icmp_ne, rx_ireturn, ev_K, ev_pI, ev_pR, ev_pVi, ev_pVr, ev_sI, ev_sR, ev_KC, ev_k, ev_ko, ev_pop0, ev_pops, am_ld, am_sv, am_at, am_st, am_g, List.length_cons, List.length_nil, Nat.reduceAdd, Nat.reduceLT, Nat.zero_add, if_true, if_false, and_self, true_or, or_true, true_and, and_true, not_true_eq_false, not_false_eq_true, reduceCtorEq, eq_self, Option.toList_some, Option.toList_none, List.cons_append, List.nil_append, Bool.false_eq_true, he, b11, b00]
  by_cases h1 : E e 0 = -1 <;> simp [h1]
theorem en_isGone (z d : Nat) {e : Nat} {now : Int32} (he : h.1 e = some (vs_e E e)) : am_M z (d + 1) 31 [.ref e, .int now] h (some (.int (if e_gone E e now then 1 else 0))) h := by
  rw [am_M_eq]
  simp only [am_R_eq, cx_31, en_31, rt_31, rx_aload_n, rx_getfield, ev_gf, rx_goto, rx_iconst, rx_icmp_lt, rx_if_le, rx_if_ne, rx_iload_n, rx_ireturn, ev_K, ev_pI, ev_pR, ev_pVi, ev_pVr, ev_sI, ev_sR, ev_KC, ev_k, ev_ko, ev_pop0, ev_pops, am_ld, am_sv, am_at, am_st, am_g, List.length_cons, List.length_nil, Nat.reduceAdd, Nat.reduceLT, Nat.zero_add, if_true, if_false, and_self, true_or, or_true, true_and, and_true, not_true_eq_false, not_false_eq_true, reduceCtorEq, eq_self, Option.toList_some, Option.toList_none, List.cons_append, List.nil_append, Bool.false_eq_true, he, b11, b00]
  by_cases h1 : E e 3 = 0 <;> by_cases h2 : E e 2 ≤ 0 <;> by_cases h3 : now < E e 5 <;> simp [e_gone, h1, h2, h3]
theorem en_comesBefore (z d : Nat) {e f : Nat} (he : h.1 e = some (vs_e E e)) (hf : h.1 f = some (vs_e E f)) : am_M z (d + 1) 26 [.ref e, .ref f] h (some (.int (if e_bf E e f then 1 else 0))) h := by
  rw [am_M_eq]
  simp only [am_R_eq, cx_26, en_26, rt_26, rx_aload_n, rx_getfield, ev_gf, rx_goto, rx_iconst, rx_icmp_le, rx_icmp_lt, rx_icmp_ne, rx_ireturn, ev_K, ev_pI, ev_pR, ev_pVi, ev_pVr, ev_sI, ev_sR, ev_KC, ev_k, ev_ko, ev_pop0, ev_pops, am_ld, am_sv, am_at, am_st, am_g, List.length_cons, List.length_nil, Nat.reduceAdd, Nat.reduceLT, Nat.zero_add, if_true, if_false, and_self, true_or, or_true, true_and, and_true, not_true_eq_false, not_false_eq_true, reduceCtorEq, eq_self, Option.toList_some, Option.toList_none, List.cons_append, List.nil_append, Bool.false_eq_true, he, hf, b11, b00]
  by_cases h1 : E e 0 < E f 0 <;> by_cases h2 : E e 0 = E f 0 <;> by_cases h3 : E e 4 ≤ E f 4 <;> simp [e_bf, h1, h2, h3]
theorem en_isLiveIn (z d : Nat) {e : Nat} {s : Int32} (he : h.1 e = some (vs_e E e)) : am_M z (d + 1) 51 [.ref e, .int s] h (some (.int (if e_live E s e then 1 else 0))) h := by
  rw [am_M_eq]
  simp only [am_R_eq, cx_51, en_51, rt_51, rx_aload_n, rx_getfield, ev_gf, rx_goto, rx_iconst, rx_icmp_ne, rx_if_ne, rx_iload_n, rx_ireturn, ev_K, ev_pI, ev_pR, ev_pVi, ev_pVr, ev_sI, ev_sR, ev_KC, ev_k, ev_ko, ev_pop0, ev_pops, am_ld, am_sv, am_at, am_st, am_g, List.length_cons, List.length_nil, Nat.reduceAdd, Nat.reduceLT, Nat.zero_add, if_true, if_false, and_self, true_or, or_true, true_and, and_true, not_true_eq_false, not_false_eq_true, reduceCtorEq, eq_self, Option.toList_some, Option.toList_none, List.cons_append, List.nil_append, Bool.false_eq_true, he, b11, b00]
  by_cases h1 : E e 3 = 0 <;> by_cases h2 : E e 6 = s <;> simp [e_live, h1, h2]
theorem ro_size (z d : Nat) (hr : vs_row h r a bl n L) : am_M z (d + 1) 12 [.ref r] h (some (.int (nI L.length))) h := by
  obtain ⟨h1, -⟩ := hr
  rw [am_M_eq]
  simp only [am_R_eq, cx_12, en_12, rt_12, rx_aload_n, rx_getfield, ev_gf, rx_ireturn, ev_K, ev_pI, ev_pR, ev_pVi, ev_pVr, ev_sI, ev_sR, ev_KC, ev_k, ev_ko, ev_pop0, ev_pops, am_ld, am_sv, am_at, am_st, am_g, List.length_cons, List.length_nil, Nat.reduceAdd, Nat.reduceLT, Nat.zero_add, if_true, if_false, and_self, true_or, or_true, true_and, and_true, not_true_eq_false, not_false_eq_true, reduceCtorEq, eq_self, Option.toList_some, Option.toList_none, List.cons_append, List.nil_append, Bool.false_eq_true, h1]
theorem ro_at (z d : Nat) (hr : vs_row h r a bl n L) {k e : Nat} (hk : L[k]? = some e) : am_M z (d + 1) 24 [.ref r, .int (nI k)] h (some (.ref e)) h := by
  obtain ⟨h1, h2, h3, g, h4, h5⟩ := hr
  have hlt : k < L.length := (List.getElem?_eq_some_iff.mp hk).1
  have e1 : ¬ nI k < 0 := nI_pos (by omega)
  have e2 : ¬ nI L.length ≤ nI k := nI_ge hlt (by omega)
  have e3 : am_ix (nI k) n = some k := ev_ix (by omega) (by omega)
  have e4 : am_rq (some (.inl (2, n, .inr (.inr (.inr (.inr g)))))) (nI k) = some (.ref e) := ev_rq 2 n k e g (nI k) (by omega) e3 (by rw [h5 k hlt]; exact hk)
  rw [am_M_eq]
  simp only [am_R_eq, cx_24, en_24, rt_24, rx_aaload, rx_aload_n, rx_areturn, rx_getfield, ev_gf, rx_goto, rx_icmp_ge, rx_if_lt, rx_iload_n, ev_K, ev_pI, ev_pR, ev_pVi, ev_pVr, ev_sI, ev_sR, ev_KC, ev_k, ev_ko, ev_pop0, ev_pops, am_ld, am_sv, am_at, am_st, am_g, List.length_cons, List.length_nil, Nat.reduceAdd, Nat.reduceLT, Nat.zero_add, if_true, if_false, and_self, true_or, or_true, true_and, and_true, not_true_eq_false, not_false_eq_true, reduceCtorEq, eq_self, Option.toList_some, Option.toList_none, List.cons_append, List.nil_append, Bool.false_eq_true, h1, h4, e1, e2, e4]
theorem ro_clear (z d : Nat) (hz : z ≤ r) (hr : vs_row h r a bl n L) : ∃ h', am_M z (d + 1) 22 [.ref r] h none h' ∧ h' = am_up h r (.inr (2, [.ref bl, .ref a, .int 0])) := by
  obtain ⟨h1, h2, h3, g, h4, h5⟩ := hr
  refine ⟨_, ?_, rfl⟩
  rw [am_M_eq]
  simp only [am_R_eq, cx_22, en_22, rt_22, rx_aload_n, rx_iconst, rx_putfield, ev_pf, ev_w1, ev_KW, am_fok, am_ftv, rx_return, ev_K, ev_pI, ev_pR, ev_pVi, ev_pVr, ev_sI, ev_sR, ev_KC, ev_k, ev_ko, ev_pop0, ev_pops, am_ld, am_sv, am_at, am_st, am_g, List.length_cons, List.length_nil, Nat.reduceAdd, Nat.reduceLT, Nat.zero_add, if_true, if_false, and_self, true_or, or_true, true_and, and_true, not_true_eq_false, not_false_eq_true, reduceCtorEq, eq_self, Option.toList_some, Option.toList_none, List.cons_append, List.nil_append, Bool.false_eq_true, h1, hz]
theorem vs_row.g (hr : vs_row h r a bl n L) : ∃ g, h.1 r = some (vs_ro bl a L.length) ∧ h.1 a = some (vs_q n g) ∧ (∀ k, k < L.length → g k = L[k]?) ∧ L.length ≤ n ∧ n ≤ 200 ∧ r ≠ a := by
  have hne := hr.ne
  obtain ⟨h1, h2, h3, g, h4, h5⟩ := hr
  exact ⟨g, h1, h4, h5, h2, h3, hne⟩
theorem vs_row.mk {g : Nat → Option Nat} (h1 : h.1 r = some (vs_ro bl a L.length)) (h2 : h.1 a = some (vs_q n g)) (h3 : ∀ k, k < L.length → g k = L[k]?) (h4 : L.length ≤ n) (h5 : n ≤ 200) : vs_row h r a bl n L := ⟨h1, h4, h5, g, h2, h3⟩
theorem vs_row.fr {h' : am_H} (hr : vs_row h r a bl n L) (h1 : h'.1 r = h.1 r) (h2 : h'.1 a = h.1 a) : vs_row h' r a bl n L := by
  obtain ⟨q1, q2, q3, g, q4, q5⟩ := hr
  exact ⟨by rw [h1]; exact q1, q2, q3, g, by rw [h2]; exact q4, q5⟩
theorem vs_ch.up2 (h : am_H) (r a : Nat) (x y : am_E) : vs_ch h (am_up (am_up h a x) r y) r a := ⟨fun q h1 h2 => by rw [am_up_ne _ _ h1, am_up_ne _ _ h2], rfl⟩
theorem ro_append (z d : Nat) {e : Nat} (hz : z ≤ r) (hza : z ≤ a) (hr : vs_row h r a bl n L) (he : am_ko (h.1 e) = some 1) (hn : L.length < n) : ∃ h', am_M z (d + 1) 13 [.ref r, .ref e] h none h' ∧ vs_row h' r a bl n (L ++ [e]) ∧ vs_ch h h' r a := by
  obtain ⟨g, h1, h2, h3, h4, h5, hne⟩ := hr.g
  refine ⟨am_up (am_up h a (vs_q n (va_up g L.length (some e)))) r (vs_ro bl a (L.length + 1)), ?_, ?_, vs_ch.up2 ..⟩
  · have e1 : ¬ nI n ≤ nI L.length := nI_ge hn (by omega)
    have e3 : am_ix (nI L.length) n = some L.length := ev_ix hn (by omega)
    have e4 : am_wq (some (vs_q n g)) (nI L.length) e (h.1 e) = some (vs_q n (va_up g L.length (some e))) := ev_wq 2 n L.length e g (nI L.length) (h.1 e) (by omega) e3 he
    rw [am_M_eq]
    simp only [am_R_eq, cx_13, en_13, rt_13, rx_aastore, ev_w1, ev_KW, rx_aload_n, rx_arraylength, ev_ln, ev_pN, rx_dup_i, rx_dup_r, rx_getfield, ev_gf, rx_iadd, rx_iconst, rx_icmp_ge, rx_putfield, ev_pf, am_fok, am_ftv, rx_return, ev_K, ev_pI, ev_pR, ev_pVi, ev_pVr, ev_sI, ev_sR, ev_KC, ev_k, ev_ko, ev_pop0, ev_pops, am_ld, am_sv, am_at, am_st, am_g, List.length_cons, List.length_nil, Nat.reduceAdd, Nat.reduceLT, Nat.zero_add, if_true, if_false, and_self, true_or, or_true, true_and, and_true, not_true_eq_false, not_false_eq_true, reduceCtorEq, eq_self, Option.toList_some, Option.toList_none, List.cons_append, List.nil_append, Bool.false_eq_true, h1, h2, e1, e4, hz, hza, am_up_ne, am_up_at, hne, ne_eq, nI_ofs, Nat.reduceLeDiff, beq_self_eq_true]
  · refine vs_row.mk (g := va_up g L.length (some e)) ?_ ?_ ?_ ?_ h5
    · rw [am_up_at, List.length_append]; rfl
    · rw [am_up_ne _ _ (Ne.symm hne), am_up_at]
    · intro k hk
      rw [List.length_append] at hk
      have hk : k < L.length + 1 := hk
      by_cases hkl : k = L.length
      · subst hkl
        rw [va_up_self, List.getElem?_append_right (Nat.le_refl _), Nat.sub_self]
        rfl
      · rw [va_up_ne _ _ hkl, List.getElem?_append_left (by omega)]
        exact h3 k (by omega)
    · rw [List.length_append]; exact hn
end ROW
end
section
section ROW2
variable {h : am_H} {r a bl n : Nat} {L : List Nat} {E : Nat → Nat → Int32}
def vs_sh (g : Nat → Option Nat) (m k : Nat) : Nat → Option Nat := fun i => if k < i ∧ i ≤ m then g (i - 1) else g i
theorem vs_sh_top (g : Nat → Option Nat) (m : Nat) : vs_sh g m m = g := by
  funext i
  unfold vs_sh
  rw [if_neg (by omega)]
theorem vs_sh_step (g : Nat → Option Nat) {m k : Nat} (hk : k + 1 ≤ m) : va_up (vs_sh g m (k + 1)) (k + 1) (vs_sh g m (k + 1) k) = vs_sh g m k := by
  funext i
  unfold va_up vs_sh
  by_cases hi : i = k + 1
  · subst hi
    rw [if_pos rfl, if_neg (by omega), if_pos (by omega), Nat.add_sub_cancel]
  · rw [if_neg hi]
    by_cases h2 : k + 1 < i ∧ i ≤ m
    · rw [if_pos h2, if_pos (by omega)]
    · rw [if_neg h2, if_neg (by omega)]
theorem ro_insertAt (z d : Nat) {e p : Nat} (hz : z ≤ r) (hza : z ≤ a) (hr : vs_row h r a bl n L) (he : am_ko (h.1 e) = some 1) (hL : ∀ x ∈ L, am_ko (h.1 x) = some 1) (hn : L.length < n) (hp : p ≤ L.length) : ∃ h', am_M z (d + 1) 27 [.ref r, .int (nI p), .ref e] h none h' ∧ vs_row h' r a bl n (L.take p ++ e :: L.drop p) ∧ vs_ch h h' r a := by
  obtain ⟨g, h1, h2, h3, h4, h5, hne⟩ := hr.g
  have hko : ∀ x (w : am_E), am_ko (h.1 x) = some 1 → am_ko ((am_up h a w).1 x) = some 1 := by
    intro x w hx
    have : x ≠ a := by
      intro q
      rw [q, h2] at hx
      cases hx
    rw [am_up_ne _ _ this]
    exact hx
  refine ⟨am_up (am_up h a (vs_q n (va_up (vs_sh g L.length p) p (some e)))) r (vs_ro bl a (L.length + 1)), ?_, ?_, vs_ch.up2 ..⟩
  · have loop : ∀ k, p ≤ k → k ≤ L.length → am_R z d 27 18 [some (.ref r), some (.int (nI p)), some (.ref e), some (.int (nI k))] [] (am_up h a (vs_q n (vs_sh g L.length k))) none (am_up (am_up h a (vs_q n (va_up (vs_sh g L.length p) p (some e)))) r (vs_ro bl a (L.length + 1))) := by
      intro k
      induction k with
      | zero =>
        intro hk _
        have hp0 : p = 0 := by omega
        subst hp0
        have e1 : nI 0 ≤ nI 0 := nI_le (Nat.le_refl _) (by omega)
        have e3 : am_ix (nI 0) n = some 0 := ev_ix (by omega) (by omega)
        have e4 := ev_wq 2 n 0 e (vs_sh g L.length 0) (nI 0) ((am_up h a (vs_q n (vs_sh g L.length 0))).1 e) (by omega) e3 (hko e _ he)
        rw [am_R_eq, cxh_27_18]
        simp only [am_R_eq, cx_27, en_27, rt_27, rx_aaload, rx_aastore, ev_w1, ev_KW, rx_aload_n, rx_arraylength, ev_ln, ev_pN, rx_dup_i, rx_dup_r, rx_getfield, ev_gf, rx_goto, rx_iadd, rx_iconst, rx_icmp_le, rx_icmp_lt, rx_iinc, ev_inc, rx_iload_n, rx_istore_n, rx_isub, rx_putfield, ev_pf, am_fok, am_ftv, rx_return, ev_K, ev_pI, ev_pR, ev_pVi, ev_pVr, ev_sI, ev_sR, ev_KC, ev_k, ev_ko, ev_pop0, ev_pops, am_ld, am_sv, am_at, am_st, am_g, List.length_cons, List.length_nil, Nat.reduceAdd, Nat.reduceLT, Nat.zero_add, if_true, if_false, and_self, true_or, or_true, true_and, and_true, not_true_eq_false, not_false_eq_true, reduceCtorEq, eq_self, Option.toList_some, Option.toList_none, List.cons_append, List.nil_append, Bool.false_eq_true, h1, e1, e4, hz, hza, am_up_ne, am_up_at, am_up_up, hne, ne_eq, nI_ofs, Nat.reduceLeDiff, beq_self_eq_true]
      | succ k ih =>
        intro hk hkl
        by_cases hpk : p = k + 1
        · subst hpk
          have e1 : nI (k + 1) ≤ nI (k + 1) := nI_le (Nat.le_refl _) (by omega)
          have e3 : am_ix (nI (k + 1)) n = some (k + 1) := ev_ix (by omega) (by omega)
          have e4 := ev_wq 2 n (k + 1) e (vs_sh g L.length (k + 1)) (nI (k + 1)) ((am_up h a (vs_q n (vs_sh g L.length (k + 1)))).1 e) (by omega) e3 (hko e _ he)
          rw [am_R_eq, cxh_27_18]
          simp only [am_R_eq, cx_27, en_27, rt_27, rx_aaload, rx_aastore, ev_w1, ev_KW, rx_aload_n, rx_arraylength, ev_ln, ev_pN, rx_dup_i, rx_dup_r, rx_getfield, ev_gf, rx_goto, rx_iadd, rx_iconst, rx_icmp_le, rx_icmp_lt, rx_iinc, ev_inc, rx_iload_n, rx_istore_n, rx_isub, rx_putfield, ev_pf, am_fok, am_ftv, rx_return, ev_K, ev_pI, ev_pR, ev_pVi, ev_pVr, ev_sI, ev_sR, ev_KC, ev_k, ev_ko, ev_pop0, ev_pops, am_ld, am_sv, am_at, am_st, am_g, List.length_cons, List.length_nil, Nat.reduceAdd, Nat.reduceLT, Nat.zero_add, if_true, if_false, and_self, true_or, or_true, true_and, and_true, not_true_eq_false, not_false_eq_true, reduceCtorEq, eq_self, Option.toList_some, Option.toList_none, List.cons_append, List.nil_append, Bool.false_eq_true, h1, e1, e4, hz, hza, am_up_ne, am_up_at, am_up_up, hne, ne_eq, nI_ofs, Nat.reduceLeDiff, beq_self_eq_true]
        · have e1 : ¬ nI (k + 1) ≤ nI p := nI_ge (by omega) (by omega)
          have e3 : am_ix (nI (k + 1)) n = some (k + 1) := ev_ix (by omega) (by omega)
          have e5 : am_ix (nI k) n = some k := ev_ix (by omega) (by omega)
          have e6 : nI (k + 1) - 1 = nI k := nI_pred k
          have e8 : nI (k + 1) + -1 = nI k := pk_m1 k
          obtain ⟨x, hx⟩ : ∃ x, L[k]? = some x := ⟨L[k]'(by omega), List.getElem?_eq_getElem (by omega)⟩
          have hgx : vs_sh g L.length (k + 1) k = some x := by
            unfold vs_sh
            rw [if_neg (by omega), h3 k (by omega)]
            exact hx
          have e7 := ev_rq 2 n k x (vs_sh g L.length (k + 1)) (nI k) (by omega) e5 hgx
          have e4 := ev_wq 2 n (k + 1) x (vs_sh g L.length (k + 1)) (nI (k + 1)) ((am_up h a (vs_q n (vs_sh g L.length (k + 1)))).1 x) (by omega) e3 (hko x _ (hL x (List.mem_of_getElem? hx)))
          have e9 : va_up (vs_sh g L.length (k + 1)) (k + 1) (some x) = vs_sh g L.length k := by rw [← hgx]; exact vs_sh_step g (by omega)
          have ih2 := ih (by omega) (by omega)
          rw [am_R_eq] at ih2
          rw [am_R_eq, cxh_27_18]
          simp only [am_R_eq, cx_27, en_27, rt_27, rx_aaload, rx_aastore, ev_w1, ev_KW, rx_aload_n, rx_arraylength, ev_ln, ev_pN, rx_dup_i, rx_dup_r, rx_getfield, ev_gf, rx_goto, rx_iadd, rx_iconst, rx_icmp_le, rx_icmp_lt, rx_iinc, ev_inc, rx_iload_n, rx_istore_n, rx_isub, rx_putfield, ev_pf, am_fok, am_ftv, rx_return, ev_K, ev_pI, ev_pR, ev_pVi, ev_pVr, ev_sI, ev_sR, ev_KC, ev_k, ev_ko, ev_pop0, ev_pops, am_ld, am_sv, am_at, am_st, am_g, List.length_cons, List.length_nil, Nat.reduceAdd, Nat.reduceLT, Nat.zero_add, if_true, if_false, and_self, true_or, or_true, true_and, and_true, not_true_eq_false, not_false_eq_true, reduceCtorEq, eq_self, Option.toList_some, Option.toList_none, List.cons_append, List.nil_append, Bool.false_eq_true, h1, e1, e4, e6, e7, e8, e9, hz, hza, am_up_ne, am_up_at, am_up_up, hne, ne_eq, nI_ofs, Nat.reduceLeDiff, beq_self_eq_true]
          exact ih2
    have e1 : nI L.length < nI n := nI_lt hn (by omega)
    have l0 := loop L.length hp (Nat.le_refl _)
    rw [vs_sh_top, am_up_self h2, am_R_eq] at l0
    rw [am_M_eq]
    simp only [am_R_eq, cx_27, en_27, rt_27, rx_aaload, rx_aastore, ev_w1, ev_KW, rx_aload_n, rx_arraylength, ev_ln, ev_pN, rx_dup_i, rx_dup_r, rx_getfield, ev_gf, rx_goto, rx_iadd, rx_iconst, rx_icmp_le, rx_icmp_lt, rx_iinc, ev_inc, rx_iload_n, rx_istore_n, rx_isub, rx_putfield, ev_pf, am_fok, am_ftv, rx_return, ev_K, ev_pI, ev_pR, ev_pVi, ev_pVr, ev_sI, ev_sR, ev_KC, ev_k, ev_ko, ev_pop0, ev_pops, am_ld, am_sv, am_at, am_st, am_g, List.length_cons, List.length_nil, Nat.reduceAdd, Nat.reduceLT, Nat.zero_add, if_true, if_false, and_self, true_or, or_true, true_and, and_true, not_true_eq_false, not_false_eq_true, reduceCtorEq, eq_self, Option.toList_some, Option.toList_none, List.cons_append, List.nil_append, Bool.false_eq_true, h1, h2, e1]
    exact l0
  · refine vs_row.mk (g := va_up (vs_sh g L.length p) p (some e)) ?_ ?_ ?_ ?_ h5
    · have hl : (L.take p ++ e :: L.drop p).length = L.length + 1 := by
        rw [List.length_append, List.length_take, List.length_cons, List.length_drop]
        omega
      rw [am_up_at, hl]
    · rw [am_up_ne _ _ (Ne.symm hne), am_up_at]
    · intro k hk
      rw [List.length_append, List.length_take, List.length_cons, List.length_drop] at hk
      by_cases hkp : k = p
      · subst hkp
        rw [va_up_self, List.getElem?_append_right (by rw [List.length_take]; omega), List.length_take, show k - min k L.length = 0 by omega]
        rfl
      · rw [va_up_ne _ _ hkp]
        unfold vs_sh
        by_cases hk2 : p < k
        · rw [if_pos (by omega), List.getElem?_append_right (by rw [List.length_take]; omega), List.length_take, show k - min p L.length = (k - 1 - p) + 1 by omega, List.getElem?_cons_succ, List.getElem?_drop, show p + (k - 1 - p) = k - 1 by omega]
          exact h3 _ (by omega)
        · rw [if_neg (by omega), List.getElem?_append_left (by rw [List.length_take]; omega), List.getElem?_take_of_lt (by omega)]
          exact h3 _ (by omega)
    · rw [List.length_append, List.length_take, List.length_cons, List.length_drop]
      omega
end ROW2
end
section
section ROW3
variable {h : am_H} {r a bl n : Nat} {L : List Nat} {E : Nat → Nat → Int32}
def e_pl (f : Nat → Bool) (L : List Nat) : Nat → Nat
  | 0 => 0
  | k + 1 => if f (L.getD k 0) = true then e_pl f L k else k + 1
theorem e_pl_s (f : Nat → Bool) (L : List Nat) (k : Nat) : e_pl f L (k + 1) = if f (L.getD k 0) = true then e_pl f L k else k + 1 := rfl
theorem e_pl_le (f : Nat → Bool) (L : List Nat) : ∀ k, e_pl f L k ≤ k
  | 0 => Nat.le_refl _
  | k + 1 => by
    unfold e_pl
    split
    · exact Nat.le_succ_of_le (e_pl_le f L k)
    · exact Nat.le_refl _
def e_ins (f : Nat → Bool) (e : Nat) (L : List Nat) : List Nat := L.take (e_pl f L L.length) ++ e :: L.drop (e_pl f L L.length)
theorem e_ins_len (f : Nat → Bool) (e : Nat) (L : List Nat) : (e_ins f e L).length = L.length + 1 := by
  unfold e_ins
  have := e_pl_le f L L.length
  rw [List.length_append, List.length_take, List.length_cons, List.length_drop]
  omega
theorem e_ins_mem (f : Nat → Bool) (e x : Nat) (L : List Nat) : x ∈ e_ins f e L ↔ x = e ∨ x ∈ L := by
  unfold e_ins
  rw [List.mem_append, List.mem_cons]
  constructor
  · rintro (q | q | q)
    · exact Or.inr (List.mem_of_mem_take q)
    · exact Or.inl q
    · exact Or.inr (List.mem_of_mem_drop q)
  · rintro (q | q)
    · exact Or.inr (Or.inl q)
    · rw [← List.take_append_drop (e_pl f L L.length) L, List.mem_append] at q
      rcases q with q | q
      · exact Or.inl q
      · exact Or.inr (Or.inr q)
theorem ko_of {x : Nat} (hx : h.1 x = some (vs_e E x)) : am_ko (h.1 x) = some 1 := by rw [hx]; rfl
theorem ro_insertByKey (z d : Nat) {e : Nat} (hz : z ≤ r) (hza : z ≤ a) (hr : vs_row h r a bl n L) (he : h.1 e = some (vs_e E e)) (hL : ∀ x ∈ L, h.1 x = some (vs_e E x)) (hn : L.length < n) : ∃ h', am_M z (d + 1 + 1) 25 [.ref r, .ref e] h none h' ∧ vs_row h' r a bl n (e_ins (e_bf E e) e L) ∧ vs_ch h h' r a := by
  obtain ⟨g, h1, h2, h3, h4, h5, hne⟩ := hr.g
  have hp := e_pl_le (e_bf E e) L L.length
  obtain ⟨h', hm, hr', hc'⟩ := ro_insertAt z d hz hza hr (ko_of he) (fun x hx => ko_of (hL x hx)) hn hp
  refine ⟨h', ?_, hr', hc'⟩
  have loop : ∀ k, k ≤ L.length → e_pl (e_bf E e) L k = e_pl (e_bf E e) L L.length → am_R z (d + 1) 25 5 [some (.ref r), some (.ref e), some (.int (nI k))] [] h none h' := by
    intro k
    induction k with
    | zero =>
      intro _ hk
      have e1 : nI 0 ≤ 0 := by decide
      rw [← hk] at hm
      rw [am_R_eq, cxh_25_5]
      simp only [am_R_eq, cx_25, en_25, rt_25, rx_aaload, rx_aload_n, rx_getfield, ev_gf, rx_goto, rx_iconst, rx_if_eq, rx_if_le, rx_iinc, ev_inc, rx_iload_n, rx_invv, ev_cv, rx_istore_n, rx_isub, rx_return, kl_26, kl_27, ev_K, ev_pI, ev_pR, ev_pVi, ev_pVr, ev_sI, ev_sR, ev_KC, ev_k, ev_ko, ev_pop0, ev_pops, am_ld, am_sv, am_at, am_st, am_g, List.length_cons, List.length_nil, Nat.reduceAdd, Nat.reduceLT, Nat.zero_add, if_true, if_false, and_self, true_or, or_true, true_and, and_true, not_true_eq_false, not_false_eq_true, reduceCtorEq, eq_self, Option.toList_some, Option.toList_none, List.cons_append, List.nil_append, Bool.false_eq_true, h1, e1]
      refine am_CL_of hm ?_
      simp only [am_R_eq, cx_25, en_25, rt_25, rx_aaload, rx_aload_n, rx_getfield, ev_gf, rx_goto, rx_iconst, rx_if_eq, rx_if_le, rx_iinc, ev_inc, rx_iload_n, rx_invv, ev_cv, rx_istore_n, rx_isub, rx_return, kl_26, kl_27, ev_K, ev_pI, ev_pR, ev_pVi, ev_pVr, ev_sI, ev_sR, ev_KC, ev_k, ev_ko, ev_pop0, ev_pops, am_ld, am_sv, am_at, am_st, am_g, List.length_cons, List.length_nil, Nat.reduceAdd, Nat.reduceLT, Nat.zero_add, if_true, if_false, and_self, true_or, or_true, true_and, and_true, not_true_eq_false, not_false_eq_true, reduceCtorEq, eq_self, Option.toList_some, Option.toList_none, List.cons_append, List.nil_append, Bool.false_eq_true]
    | succ k ih =>
      intro hkl hk
      have e1 : ¬ nI (k + 1) ≤ 0 := nI_nle (by omega) (by omega)
      have e5 : am_ix (nI k) n = some k := ev_ix (by omega) (by omega)
      have e6 : nI (k + 1) - 1 = nI k := nI_pred k
      have e8 : nI (k + 1) + -1 = nI k := pk_m1 k
      obtain ⟨x, hx⟩ : ∃ x, L[k]? = some x := ⟨L[k]'(by omega), List.getElem?_eq_getElem (by omega)⟩
      have hxd : L.getD k 0 = x := by rw [List.getD_eq_getElem?_getD, hx]; rfl
      have e7 := ev_rq 2 n k x g (nI k) (by omega) e5 (by rw [h3 k (by omega)]; exact hx)
      have hex := hL x (List.mem_of_getElem? hx)
      rw [am_R_eq, cxh_25_5]
      simp only [am_R_eq, cx_25, en_25, rt_25, rx_aaload, rx_aload_n, rx_getfield, ev_gf, rx_goto, rx_iconst, rx_if_eq, rx_if_le, rx_iinc, ev_inc, rx_iload_n, rx_invv, ev_cv, rx_istore_n, rx_isub, rx_return, kl_26, kl_27, ev_K, ev_pI, ev_pR, ev_pVi, ev_pVr, ev_sI, ev_sR, ev_KC, ev_k, ev_ko, ev_pop0, ev_pops, am_ld, am_sv, am_at, am_st, am_g, List.length_cons, List.length_nil, Nat.reduceAdd, Nat.reduceLT, Nat.zero_add, if_true, if_false, and_self, true_or, or_true, true_and, and_true, not_true_eq_false, not_false_eq_true, reduceCtorEq, eq_self, Option.toList_some, Option.toList_none, List.cons_append, List.nil_append, Bool.false_eq_true, h1, h2, e1, e6, e7, he]
      refine am_CL_of (en_comesBefore z d he hex) ?_
      rw [e_pl_s, hxd] at hk
      cases hb : e_bf E e x with
      | true =>
        rw [hb, if_pos rfl] at hk
        have ih2 := ih (by omega) hk
        rw [am_R_eq] at ih2
        simp only [am_R_eq, cx_25, en_25, rt_25, rx_aaload, rx_aload_n, rx_getfield, ev_gf, rx_goto, rx_iconst, rx_if_eq, rx_if_le, rx_iinc, ev_inc, rx_iload_n, rx_invv, ev_cv, rx_istore_n, rx_isub, rx_return, kl_26, kl_27, ev_K, ev_pI, ev_pR, ev_pVi, ev_pVr, ev_sI, ev_sR, ev_KC, ev_k, ev_ko, ev_pop0, ev_pops, am_ld, am_sv, am_at, am_st, am_g, List.length_cons, List.length_nil, Nat.reduceAdd, Nat.reduceLT, Nat.zero_add, if_true, if_false, and_self, true_or, or_true, true_and, and_true, not_true_eq_false, not_false_eq_true, reduceCtorEq, eq_self, Option.toList_some, Option.toList_none, List.cons_append, List.nil_append, Bool.false_eq_true, hb, i_10, e8]
        exact ih2
      | false =>
        rw [hb, if_neg (by decide)] at hk
        rw [← hk] at hm
        simp only [am_R_eq, cx_25, en_25, rt_25, rx_aaload, rx_aload_n, rx_getfield, ev_gf, rx_goto, rx_iconst, rx_if_eq, rx_if_le, rx_iinc, ev_inc, rx_iload_n, rx_invv, ev_cv, rx_istore_n, rx_isub, rx_return, kl_26, kl_27, ev_K, ev_pI, ev_pR, ev_pVi, ev_pVr, ev_sI, ev_sR, ev_KC, ev_k, ev_ko, ev_pop0, ev_pops, am_ld, am_sv, am_at, am_st, am_g, List.length_cons, List.length_nil, Nat.reduceAdd, Nat.reduceLT, Nat.zero_add, if_true, if_false, and_self, true_or, or_true, true_and, and_true, not_true_eq_false, not_false_eq_true, reduceCtorEq, eq_self, Option.toList_some, Option.toList_none, List.cons_append, List.nil_append, Bool.false_eq_true, hb, h1]
        refine am_CL_of hm ?_
        simp only [am_R_eq, cx_25, en_25, rt_25, rx_aaload, rx_aload_n, rx_getfield, ev_gf, rx_goto, rx_iconst, rx_if_eq, rx_if_le, rx_iinc, ev_inc, rx_iload_n, rx_invv, ev_cv, rx_istore_n, rx_isub, rx_return, kl_26, kl_27, ev_K, ev_pI, ev_pR, ev_pVi, ev_pVr, ev_sI, ev_sR, ev_KC, ev_k, ev_ko, ev_pop0, ev_pops, am_ld, am_sv, am_at, am_st, am_g, List.length_cons, List.length_nil, Nat.reduceAdd, Nat.reduceLT, Nat.zero_add, if_true, if_false, and_self, true_or, or_true, true_and, and_true, not_true_eq_false, not_false_eq_true, reduceCtorEq, eq_self, Option.toList_some, Option.toList_none, List.cons_append, List.nil_append, Bool.false_eq_true]
  have l0 := loop L.length (Nat.le_refl _) rfl
  rw [am_R_eq] at l0
  rw [am_M_eq]
  simp only [am_R_eq, cx_25, en_25, rt_25, rx_aaload, rx_aload_n, rx_getfield, ev_gf, rx_goto, rx_iconst, rx_if_eq, rx_if_le, rx_iinc, ev_inc, rx_iload_n, rx_invv, ev_cv, rx_istore_n, rx_isub, rx_return, kl_26, kl_27, ev_K, ev_pI, ev_pR, ev_pVi, ev_pVr, ev_sI, ev_sR, ev_KC, ev_k, ev_ko, ev_pop0, ev_pops, am_ld, am_sv, am_at, am_st, am_g, List.length_cons, List.length_nil, Nat.reduceAdd, Nat.reduceLT, Nat.zero_add, if_true, if_false, and_self, true_or, or_true, true_and, and_true, not_true_eq_false, not_false_eq_true, reduceCtorEq, eq_self, Option.toList_some, Option.toList_none, List.cons_append, List.nil_append, Bool.false_eq_true, h1]
  exact l0
def e_cb (E : Nat → Nat → Int32) (e x : Nat) : Bool := !decide (E x 7 ≤ E e 7)
theorem ro_insertByCell (z d : Nat) {e : Nat} (hz : z ≤ r) (hza : z ≤ a) (hr : vs_row h r a bl n L) (he : h.1 e = some (vs_e E e)) (hL : ∀ x ∈ L, h.1 x = some (vs_e E x)) (hn : L.length < n) : ∃ h', am_M z (d + 1 + 1) 52 [.ref r, .ref e] h none h' ∧ vs_row h' r a bl n (e_ins (e_cb E e) e L) ∧ vs_ch h h' r a := by
  obtain ⟨g, h1, h2, h3, h4, h5, hne⟩ := hr.g
  have hp := e_pl_le (e_cb E e) L L.length
  obtain ⟨h', hm, hr', hc'⟩ := ro_insertAt z d hz hza hr (ko_of he) (fun x hx => ko_of (hL x hx)) hn hp
  refine ⟨h', ?_, hr', hc'⟩
  have loop : ∀ k, k ≤ L.length → e_pl (e_cb E e) L k = e_pl (e_cb E e) L L.length → am_R z (d + 1) 52 5 [some (.ref r), some (.ref e), some (.int (nI k))] [] h none h' := by
    intro k
    induction k with
    | zero =>
      intro _ hk
      have e1 : nI 0 ≤ 0 := by decide
      rw [← hk] at hm
      rw [am_R_eq, cxh_52_5]
      simp only [am_R_eq, cx_52, en_52, rt_52, rx_aaload, rx_aload_n, rx_getfield, ev_gf, rx_goto, rx_iconst, rx_icmp_ge, rx_if_le, rx_iinc, ev_inc, rx_iload_n, rx_invv, ev_cv, rx_istore_n, rx_isub, rx_return, kl_27, ev_K, ev_pI, ev_pR, ev_pVi, ev_pVr, ev_sI, ev_sR, ev_KC, ev_k, ev_ko, ev_pop0, ev_pops, am_ld, am_sv, am_at, am_st, am_g, List.length_cons, List.length_nil, Nat.reduceAdd, Nat.reduceLT, Nat.zero_add, if_true, if_false, and_self, true_or, or_true, true_and, and_true, not_true_eq_false, not_false_eq_true, reduceCtorEq, eq_self, Option.toList_some, Option.toList_none, List.cons_append, List.nil_append, Bool.false_eq_true, h1, e1]
      refine am_CL_of hm ?_
      simp only [am_R_eq, cx_52, en_52, rt_52, rx_aaload, rx_aload_n, rx_getfield, ev_gf, rx_goto, rx_iconst, rx_icmp_ge, rx_if_le, rx_iinc, ev_inc, rx_iload_n, rx_invv, ev_cv, rx_istore_n, rx_isub, rx_return, kl_27, ev_K, ev_pI, ev_pR, ev_pVi, ev_pVr, ev_sI, ev_sR, ev_KC, ev_k, ev_ko, ev_pop0, ev_pops, am_ld, am_sv, am_at, am_st, am_g, List.length_cons, List.length_nil, Nat.reduceAdd, Nat.reduceLT, Nat.zero_add, if_true, if_false, and_self, true_or, or_true, true_and, and_true, not_true_eq_false, not_false_eq_true, reduceCtorEq, eq_self, Option.toList_some, Option.toList_none, List.cons_append, List.nil_append, Bool.false_eq_true]
    | succ k ih =>
      intro hkl hk
      have e1 : ¬ nI (k + 1) ≤ 0 := nI_nle (by omega) (by omega)
      have e5 : am_ix (nI k) n = some k := ev_ix (by omega) (by omega)
      have e6 : nI (k + 1) - 1 = nI k := nI_pred k
      have e8 : nI (k + 1) + -1 = nI k := pk_m1 k
      obtain ⟨x, hx⟩ : ∃ x, L[k]? = some x := ⟨L[k]'(by omega), List.getElem?_eq_getElem (by omega)⟩
      have hxd : L.getD k 0 = x := by rw [List.getD_eq_getElem?_getD, hx]; rfl
      have e7 := ev_rq 2 n k x g (nI k) (by omega) e5 (by rw [h3 k (by omega)]; exact hx)
      have hex := hL x (List.mem_of_getElem? hx)
      rw [e_pl_s, hxd] at hk
      by_cases hb : E x 7 ≤ E e 7
      · rw [if_neg (by simp [e_cb, hb])] at hk
        rw [← hk] at hm
        rw [am_R_eq, cxh_52_5]
        simp only [am_R_eq, cx_52, en_52, rt_52, rx_aaload, rx_aload_n, rx_getfield, ev_gf, rx_goto, rx_iconst, rx_icmp_ge, rx_if_le, rx_iinc, ev_inc, rx_iload_n, rx_invv, ev_cv, rx_istore_n, rx_isub, rx_return, kl_27, ev_K, ev_pI, ev_pR, ev_pVi, ev_pVr, ev_sI, ev_sR, ev_KC, ev_k, ev_ko, ev_pop0, ev_pops, am_ld, am_sv, am_at, am_st, am_g, List.length_cons, List.length_nil, Nat.reduceAdd, Nat.reduceLT, Nat.zero_add, if_true, if_false, and_self, true_or, or_true, true_and, and_true, not_true_eq_false, not_false_eq_true, reduceCtorEq, eq_self, Option.toList_some, Option.toList_none, List.cons_append, List.nil_append, Bool.false_eq_true, h1, h2, e1, e6, e7, he, hex, hb]
        refine am_CL_of hm ?_
        simp only [am_R_eq, cx_52, en_52, rt_52, rx_aaload, rx_aload_n, rx_getfield, ev_gf, rx_goto, rx_iconst, rx_icmp_ge, rx_if_le, rx_iinc, ev_inc, rx_iload_n, rx_invv, ev_cv, rx_istore_n, rx_isub, rx_return, kl_27, ev_K, ev_pI, ev_pR, ev_pVi, ev_pVr, ev_sI, ev_sR, ev_KC, ev_k, ev_ko, ev_pop0, ev_pops, am_ld, am_sv, am_at, am_st, am_g, List.length_cons, List.length_nil, Nat.reduceAdd, Nat.reduceLT, Nat.zero_add, if_true, if_false, and_self, true_or, or_true, true_and, and_true, not_true_eq_false, not_false_eq_true, reduceCtorEq, eq_self, Option.toList_some, Option.toList_none, List.cons_append, List.nil_append, Bool.false_eq_true]
      · rw [if_pos (by simp [e_cb, hb])] at hk
        have ih2 := ih (by omega) hk
        rw [am_R_eq] at ih2
        rw [am_R_eq, cxh_52_5]
        simp only [am_R_eq, cx_52, en_52, rt_52, rx_aaload, rx_aload_n, rx_getfield, ev_gf, rx_goto, rx_iconst, rx_icmp_ge, rx_if_le, rx_iinc, ev_inc, rx_iload_n, rx_invv, ev_cv, rx_istore_n, rx_isub, rx_return, kl_27, ev_K, ev_pI, ev_pR, ev_pVi, ev_pVr, ev_sI, ev_sR, ev_KC, ev_k, ev_ko, ev_pop0, ev_pops, am_ld, am_sv, am_at, am_st, am_g, List.length_cons, List.length_nil, Nat.reduceAdd, Nat.reduceLT, Nat.zero_add, if_true, if_false, and_self, true_or, or_true, true_and, and_true, not_true_eq_false, not_false_eq_true, reduceCtorEq, eq_self, Option.toList_some, Option.toList_none, List.cons_append, List.nil_append, Bool.false_eq_true, h1, h2, e1, e6, e7, e8, he, hex, hb]
        exact ih2
  have l0 := loop L.length (Nat.le_refl _) rfl
  rw [am_R_eq] at l0
  rw [am_M_eq]
  simp only [am_R_eq, cx_52, en_52, rt_52, rx_aaload, rx_aload_n, rx_getfield, ev_gf, rx_goto, rx_iconst, rx_icmp_ge, rx_if_le, rx_iinc, ev_inc, rx_iload_n, rx_invv, ev_cv, rx_istore_n, rx_isub, rx_return, kl_27, ev_K, ev_pI, ev_pR, ev_pVi, ev_pVr, ev_sI, ev_sR, ev_KC, ev_k, ev_ko, ev_pop0, ev_pops, am_ld, am_sv, am_at, am_st, am_g, List.length_cons, List.length_nil, Nat.reduceAdd, Nat.reduceLT, Nat.zero_add, if_true, if_false, and_self, true_or, or_true, true_and, and_true, not_true_eq_false, not_false_eq_true, reduceCtorEq, eq_self, Option.toList_some, Option.toList_none, List.cons_append, List.nil_append, Bool.false_eq_true, h1]
  exact l0
def e_ns (E : Nat → Nat → Int32) (key sight : Int32) (nw e : Nat) : Nat := if E e 0 = key ∧ ¬ sight < E e 4 ∧ ¬ E e 4 ≤ E nw 4 then e else nw
theorem ro_newestSeen (z d : Nat) {key sight : Int32} (hr : vs_row h r a bl n L) (hbl : h.1 bl = some (vs_e E bl)) (hL : ∀ x ∈ L, h.1 x = some (vs_e E x)) : am_M z (d + 1) 73 [.ref r, .int key, .int sight] h (some (.ref (L.foldl (e_ns E key sight) bl))) h := by
  obtain ⟨g, h1, h2, h3, h4, h5, hne⟩ := hr.g
  have loop : ∀ m k nw, m = L.length - k → k ≤ L.length → h.1 nw = some (vs_e E nw) → ∀ w, am_R z d 73 8 [some (.ref r), some (.int key), some (.int sight), some (.ref nw), some (.int (nI k)), w] [] h (some (.ref ((L.drop k).foldl (e_ns E key sight) nw))) h := by
    intro m
    induction m with
    | zero =>
      intro k nw hm hk hnw w
      have hkl : k = L.length := by omega
      subst hkl
      have e1 : nI L.length ≤ nI L.length := nI_le (Nat.le_refl _) (by omega)
      rw [am_R_eq, cxh_73_8]
      simp only [am_R_eq, cx_73, en_73, rt_73, rx_aaload, rx_aload, rx_aload_n, rx_areturn, rx_astore, rx_astore_n, rx_getfield, ev_gf, rx_goto, rx_iconst, rx_icmp_ge, rx_icmp_gt, rx_icmp_le, rx_icmp_ne, rx_iinc, ev_inc, rx_iload, rx_iload_n, rx_istore, ev_K, ev_pI, ev_pR, ev_pVi, ev_pVr, ev_sI, ev_sR, ev_KC, ev_k, ev_ko, ev_pop0, ev_pops, am_ld, am_sv, am_at, am_st, am_g, List.length_cons, List.length_nil, Nat.reduceAdd, Nat.reduceLT, Nat.zero_add, if_true, if_false, and_self, true_or, or_true, true_and, and_true, not_true_eq_false, not_false_eq_true, reduceCtorEq, eq_self, Option.toList_some, Option.toList_none, List.cons_append, List.nil_append, Bool.false_eq_true, h1, e1, List.drop_length, List.foldl_nil]
    | succ m ih =>
      intro k nw hm hk hnw w
      have hlt : k < L.length := by omega
      have e1 : ¬ nI L.length ≤ nI k := nI_ge hlt (by omega)
      have e5 : am_ix (nI k) n = some k := ev_ix (by omega) (by omega)
      obtain ⟨x, hx⟩ : ∃ x, L[k]? = some x := ⟨L[k]'(by omega), List.getElem?_eq_getElem (by omega)⟩
      have hd : L.drop k = x :: L.drop (k + 1) := by
        rw [List.drop_eq_getElem_cons hlt]
        congr 1
        exact (List.getElem?_eq_some_iff.mp hx).2
      have e7 := ev_rq 2 n k x g (nI k) (by omega) e5 (by rw [h3 k (by omega)]; exact hx)
      have hex := hL x (List.mem_of_getElem? hx)
      have ih1 := ih (k + 1) nw (by omega) (by omega) hnw (some (.ref x))
      have ih2 := ih (k + 1) x (by omega) (by omega) hex (some (.ref x))
      rw [am_R_eq] at ih1 ih2
      rw [hd, List.foldl_cons]
      rw [am_R_eq, cxh_73_8]
      simp only [am_R_eq, cx_73, en_73, rt_73, rx_aaload, rx_aload, rx_aload_n, rx_areturn, rx_astore, rx_astore_n, rx_getfield, ev_gf, rx_goto, rx_iconst, rx_icmp_ge, rx_icmp_gt, rx_icmp_le, rx_icmp_ne, rx_iinc, ev_inc, rx_iload, rx_iload_n, rx_istore, ev_K, ev_pI, ev_pR, ev_pVi, ev_pVr, ev_sI, ev_sR, ev_KC, ev_k, ev_ko, ev_pop0, ev_pops, am_ld, am_sv, am_at, am_st, am_g, List.length_cons, List.length_nil, Nat.reduceAdd, Nat.reduceLT, Nat.zero_add, if_true, if_false, and_self, true_or, or_true, true_and, and_true, not_true_eq_false, not_false_eq_true, reduceCtorEq, eq_self, Option.toList_some, Option.toList_none, List.cons_append, List.nil_append, Bool.false_eq_true, h1, h2, e1, e7, hex, hnw, nI_ofs]
      by_cases c1 : E x 0 = key
      · by_cases c2 : sight < E x 4
        · simp only [c1, c2, e_ns, not_true_eq_false, if_false, if_true, false_and, and_false]
          exact ih1
        · by_cases c3 : E x 4 ≤ E nw 4
          · simp only [c1, c2, c3, e_ns, not_true_eq_false, if_false, if_true, false_and, and_false]
            exact ih1
          · simp only [c1, c2, c3, e_ns, not_true_eq_false, not_false_eq_true, if_false, if_true, and_self]
            exact ih2
      · simp only [c1, e_ns, not_false_eq_true, if_false, if_true, false_and]
        exact ih1
  have l0 := loop L.length 0 bl (by omega) (Nat.zero_le _) hbl none
  rw [am_R_eq, List.drop_zero] at l0
  rw [am_M_eq]
  simp only [am_R_eq, cx_73, en_73, rt_73, rx_aaload, rx_aload, rx_aload_n, rx_areturn, rx_astore, rx_astore_n, rx_getfield, ev_gf, rx_goto, rx_iconst, rx_icmp_ge, rx_icmp_gt, rx_icmp_le, rx_icmp_ne, rx_iinc, ev_inc, rx_iload, rx_iload_n, rx_istore, ev_K, ev_pI, ev_pR, ev_pVi, ev_pVr, ev_sI, ev_sR, ev_KC, ev_k, ev_ko, ev_pop0, ev_pops, am_ld, am_sv, am_at, am_st, am_g, List.length_cons, List.length_nil, Nat.reduceAdd, Nat.reduceLT, Nat.zero_add, if_true, if_false, and_self, true_or, or_true, true_and, and_true, not_true_eq_false, not_false_eq_true, reduceCtorEq, eq_self, Option.toList_some, Option.toList_none, List.cons_append, List.nil_append, Bool.false_eq_true, h1]
  exact l0
theorem ro_countLive (z d : Nat) {s : Int32} (hr : vs_row h r a bl n L) (hL : ∀ x ∈ L, h.1 x = some (vs_e E x)) : am_M z (d + 1 + 1) 89 [.ref r, .int s] h (some (.int (nI (L.countP (e_live E s))))) h := by
  obtain ⟨g, h1, h2, h3, h4, h5, hne⟩ := hr.g
  have loop : ∀ m k c, m = L.length - k → k ≤ L.length → am_R z (d + 1) 89 4 [some (.ref r), some (.int s), some (.int (nI c)), some (.int (nI k))] [] h (some (.int (nI (c + (L.drop k).countP (e_live E s))))) h := by
    intro m
    induction m with
    | zero =>
      intro k c hm hk
      have hkl : k = L.length := by omega
      subst hkl
      have e1 : nI L.length ≤ nI L.length := nI_le (Nat.le_refl _) (by omega)
      rw [am_R_eq, cxh_89_4]
      simp only [am_R_eq, cx_89, en_89, rt_89, rx_aaload, rx_aload_n, rx_getfield, ev_gf, rx_goto, rx_iconst, rx_icmp_ge, rx_if_eq, rx_iinc, ev_inc, rx_iload_n, rx_invv, ev_cv, rx_ireturn, rx_istore_n, kl_51, ev_K, ev_pI, ev_pR, ev_pVi, ev_pVr, ev_sI, ev_sR, ev_KC, ev_k, ev_ko, ev_pop0, ev_pops, am_ld, am_sv, am_at, am_st, am_g, List.length_cons, List.length_nil, Nat.reduceAdd, Nat.reduceLT, Nat.zero_add, if_true, if_false, and_self, true_or, or_true, true_and, and_true, not_true_eq_false, not_false_eq_true, reduceCtorEq, eq_self, Option.toList_some, Option.toList_none, List.cons_append, List.nil_append, Bool.false_eq_true, h1, e1, List.drop_length, List.countP_nil, Nat.add_zero]
    | succ m ih =>
      intro k c hm hk
      have hlt : k < L.length := by omega
      have e1 : ¬ nI L.length ≤ nI k := nI_ge hlt (by omega)
      have e5 : am_ix (nI k) n = some k := ev_ix (by omega) (by omega)
      obtain ⟨x, hx⟩ : ∃ x, L[k]? = some x := ⟨L[k]'(by omega), List.getElem?_eq_getElem (by omega)⟩
      have hd : L.drop k = x :: L.drop (k + 1) := by
        rw [List.drop_eq_getElem_cons hlt]
        congr 1
        exact (List.getElem?_eq_some_iff.mp hx).2
      have e7 := ev_rq 2 n k x g (nI k) (by omega) e5 (by rw [h3 k (by omega)]; exact hx)
      have hex := hL x (List.mem_of_getElem? hx)
      rw [hd, List.countP_cons]
      rw [am_R_eq, cxh_89_4]
      simp only [am_R_eq, cx_89, en_89, rt_89, rx_aaload, rx_aload_n, rx_getfield, ev_gf, rx_goto, rx_iconst, rx_icmp_ge, rx_if_eq, rx_iinc, ev_inc, rx_iload_n, rx_invv, ev_cv, rx_ireturn, rx_istore_n, kl_51, ev_K, ev_pI, ev_pR, ev_pVi, ev_pVr, ev_sI, ev_sR, ev_KC, ev_k, ev_ko, ev_pop0, ev_pops, am_ld, am_sv, am_at, am_st, am_g, List.length_cons, List.length_nil, Nat.reduceAdd, Nat.reduceLT, Nat.zero_add, if_true, if_false, and_self, true_or, or_true, true_and, and_true, not_true_eq_false, not_false_eq_true, reduceCtorEq, eq_self, Option.toList_some, Option.toList_none, List.cons_append, List.nil_append, Bool.false_eq_true, h1, h2, e1, e7, hex]
      refine am_CL_of (en_isLiveIn z d hex) ?_
      cases hb : e_live E s x with
      | true =>
        have ih1 := ih (k + 1) (c + 1) (by omega) (by omega)
        rw [am_R_eq, show c + 1 + (L.drop (k + 1)).countP (e_live E s) = c + ((L.drop (k + 1)).countP (e_live E s) + 1) by omega] at ih1
        simp only [am_R_eq, cx_89, en_89, rt_89, rx_aaload, rx_aload_n, rx_getfield, ev_gf, rx_goto, rx_iconst, rx_icmp_ge, rx_if_eq, rx_iinc, ev_inc, rx_iload_n, rx_invv, ev_cv, rx_ireturn, rx_istore_n, kl_51, ev_K, ev_pI, ev_pR, ev_pVi, ev_pVr, ev_sI, ev_sR, ev_KC, ev_k, ev_ko, ev_pop0, ev_pops, am_ld, am_sv, am_at, am_st, am_g, List.length_cons, List.length_nil, Nat.reduceAdd, Nat.reduceLT, Nat.zero_add, if_true, if_false, and_self, true_or, or_true, true_and, and_true, not_true_eq_false, not_false_eq_true, reduceCtorEq, eq_self, Option.toList_some, Option.toList_none, List.cons_append, List.nil_append, Bool.false_eq_true, hb, i_10, nI_ofs]
        exact ih1
      | false =>
        have ih1 := ih (k + 1) c (by omega) (by omega)
        rw [am_R_eq] at ih1
        simp only [am_R_eq, cx_89, en_89, rt_89, rx_aaload, rx_aload_n, rx_getfield, ev_gf, rx_goto, rx_iconst, rx_icmp_ge, rx_if_eq, rx_iinc, ev_inc, rx_iload_n, rx_invv, ev_cv, rx_ireturn, rx_istore_n, kl_51, ev_K, ev_pI, ev_pR, ev_pVi, ev_pVr, ev_sI, ev_sR, ev_KC, ev_k, ev_ko, ev_pop0, ev_pops, am_ld, am_sv, am_at, am_st, am_g, List.length_cons, List.length_nil, Nat.reduceAdd, Nat.reduceLT, Nat.zero_add, if_true, if_false, and_self, true_or, or_true, true_and, and_true, not_true_eq_false, not_false_eq_true, reduceCtorEq, eq_self, Option.toList_some, Option.toList_none, List.cons_append, List.nil_append, Bool.false_eq_true, hb, nI_ofs, Nat.add_zero]
        exact ih1
  have l0 := loop L.length 0 0 (by omega) (Nat.zero_le _)
  rw [am_R_eq, List.drop_zero, Nat.zero_add] at l0
  rw [am_M_eq]
  simp only [am_R_eq, cx_89, en_89, rt_89, rx_aaload, rx_aload_n, rx_getfield, ev_gf, rx_goto, rx_iconst, rx_icmp_ge, rx_if_eq, rx_iinc, ev_inc, rx_iload_n, rx_invv, ev_cv, rx_ireturn, rx_istore_n, kl_51, ev_K, ev_pI, ev_pR, ev_pVi, ev_pVr, ev_sI, ev_sR, ev_KC, ev_k, ev_ko, ev_pop0, ev_pops, am_ld, am_sv, am_at, am_st, am_g, List.length_cons, List.length_nil, Nat.reduceAdd, Nat.reduceLT, Nat.zero_add, if_true, if_false, and_self, true_or, or_true, true_and, and_true, not_true_eq_false, not_false_eq_true, reduceCtorEq, eq_self, Option.toList_some, Option.toList_none, List.cons_append, List.nil_append, Bool.false_eq_true, h1]
  exact l0
end ROW3
end
section
section ROW4
variable {h : am_H} {r a bl n : Nat} {L : List Nat} {E : Nat → Nat → Int32}
def vs_sn (h : am_H) (s ss : Nat) (S : Nat → Int32) : Prop := h.1 s = some (.inr (6, [.ref ss])) ∧ h.1 ss = some (.inl (0, 3, .inl S))
def e_tar (S : Nat → Int32) (x y : Int32) : Nat → Bool
  | 0 => false
  | m + 1 => (!decide (S (2 - m) < x) && !decide (y ≤ S (2 - m))) || e_tar S x y m
def e_ta (S : Nat → Int32) (E : Nat → Nat → Int32) (e f : Nat) : Bool := e_tar S (E e 4) (E f 4) 3
theorem sn_tellApart (z d : Nat) {s ss e f : Nat} {S : Nat → Int32} (hs : vs_sn h s ss S) (he : h.1 e = some (vs_e E e)) (hf : h.1 f = some (vs_e E f)) : am_M z (d + 1) 29 [.ref s, .ref e, .ref f] h (some (.int (if e_ta S E e f = true then 1 else 0))) h := by
  obtain ⟨h1, h2⟩ := hs
  have loop : ∀ m k, m + k = 3 → am_R z d 29 2 [some (.ref s), some (.ref e), some (.ref f), some (.int (nI k))] [] h (some (.int (if e_tar S (E e 4) (E f 4) m = true then 1 else 0))) h := by
    intro m
    induction m with
    | zero =>
      intro k hk
      have hk3 : k = 3 := by omega
      subst hk3
      have e1 : (3 : Int32) ≤ nI 3 := by decide
      rw [am_R_eq, cxh_29_2]
      simp only [am_R_eq, cx_29, en_29, rt_29, rx_aload_n, rx_getfield, ev_gf, rx_goto, rx_iaload, rx_iconst, rx_icmp_ge, rx_icmp_lt, rx_iinc, ev_inc, rx_iload_n, rx_ireturn, rx_istore_n, ev_K, ev_pI, ev_pR, ev_pVi, ev_pVr, ev_sI, ev_sR, ev_KC, ev_k, ev_ko, ev_pop0, ev_pops, am_ld, am_sv, am_at, am_st, am_g, List.length_cons, List.length_nil, Nat.reduceAdd, Nat.reduceLT, Nat.zero_add, if_true, if_false, and_self, true_or, or_true, true_and, and_true, not_true_eq_false, not_false_eq_true, reduceCtorEq, eq_self, Option.toList_some, Option.toList_none, List.cons_append, List.nil_append, Bool.false_eq_true, e1, e_tar, b00]
    | succ m ih =>
      intro k hk
      have hkm : k = 2 - m := by omega
      have e1 : ¬ (3 : Int32) ≤ nI k := nI_ge (a := k) (b := 3) (by omega) (by omega)
      have e5 : am_ix (nI k) 3 = some k := ev_ix (by omega) (by omega)
      have e7 := ev_ri 0 3 k S (nI k) e5
      have ih1 := ih (k + 1) (by omega)
      rw [am_R_eq] at ih1
      rw [am_R_eq, cxh_29_2]
      by_cases c1 : S k < E e 4
      · simp only [am_R_eq, cx_29, en_29, rt_29, rx_aload_n, rx_getfield, ev_gf, rx_goto, rx_iaload, rx_iconst, rx_icmp_ge, rx_icmp_lt, rx_iinc, ev_inc, rx_iload_n, rx_ireturn, rx_istore_n, ev_K, ev_pI, ev_pR, ev_pVi, ev_pVr, ev_sI, ev_sR, ev_KC, ev_k, ev_ko, ev_pop0, ev_pops, am_ld, am_sv, am_at, am_st, am_g, List.length_cons, List.length_nil, Nat.reduceAdd, Nat.reduceLT, Nat.zero_add, if_true, if_false, and_self, true_or, or_true, true_and, and_true, not_true_eq_false, not_false_eq_true, reduceCtorEq, eq_self, Option.toList_some, Option.toList_none, List.cons_append, List.nil_append, Bool.false_eq_true, h1, h2, e1, e7, he, hf, nI_ofs, c1]
        have : e_tar S (E e 4) (E f 4) (m + 1) = e_tar S (E e 4) (E f 4) m := by simp [e_tar, ← hkm, c1]
        rw [this]
        exact ih1
      · by_cases c2 : E f 4 ≤ S k
        · simp only [am_R_eq, cx_29, en_29, rt_29, rx_aload_n, rx_getfield, ev_gf, rx_goto, rx_iaload, rx_iconst, rx_icmp_ge, rx_icmp_lt, rx_iinc, ev_inc, rx_iload_n, rx_ireturn, rx_istore_n, ev_K, ev_pI, ev_pR, ev_pVi, ev_pVr, ev_sI, ev_sR, ev_KC, ev_k, ev_ko, ev_pop0, ev_pops, am_ld, am_sv, am_at, am_st, am_g, List.length_cons, List.length_nil, Nat.reduceAdd, Nat.reduceLT, Nat.zero_add, if_true, if_false, and_self, true_or, or_true, true_and, and_true, not_true_eq_false, not_false_eq_true, reduceCtorEq, eq_self, Option.toList_some, Option.toList_none, List.cons_append, List.nil_append, Bool.false_eq_true, h1, h2, e1, e7, he, hf, nI_ofs, c1, c2]
          have : e_tar S (E e 4) (E f 4) (m + 1) = e_tar S (E e 4) (E f 4) m := by simp [e_tar, ← hkm, c1, c2]
          rw [this]
          exact ih1
        · have : e_tar S (E e 4) (E f 4) (m + 1) = true := by simp [e_tar, ← hkm, c1, c2]
          rw [this]
          simp only [am_R_eq, cx_29, en_29, rt_29, rx_aload_n, rx_getfield, ev_gf, rx_goto, rx_iaload, rx_iconst, rx_icmp_ge, rx_icmp_lt, rx_iinc, ev_inc, rx_iload_n, rx_ireturn, rx_istore_n, ev_K, ev_pI, ev_pR, ev_pVi, ev_pVr, ev_sI, ev_sR, ev_KC, ev_k, ev_ko, ev_pop0, ev_pops, am_ld, am_sv, am_at, am_st, am_g, List.length_cons, List.length_nil, Nat.reduceAdd, Nat.reduceLT, Nat.zero_add, if_true, if_false, and_self, true_or, or_true, true_and, and_true, not_true_eq_false, not_false_eq_true, reduceCtorEq, eq_self, Option.toList_some, Option.toList_none, List.cons_append, List.nil_append, Bool.false_eq_true, h1, h2, e1, e7, he, hf, nI_ofs, c1, c2, b11]
  have l0 := loop 3 0 rfl
  rw [am_R_eq] at l0
  rw [am_M_eq]
  simp only [am_R_eq, cx_29, en_29, rt_29, rx_aload_n, rx_getfield, ev_gf, rx_goto, rx_iaload, rx_iconst, rx_icmp_ge, rx_icmp_lt, rx_iinc, ev_inc, rx_iload_n, rx_ireturn, rx_istore_n, ev_K, ev_pI, ev_pR, ev_pVi, ev_pVr, ev_sI, ev_sR, ev_KC, ev_k, ev_ko, ev_pop0, ev_pops, am_ld, am_sv, am_at, am_st, am_g, List.length_cons, List.length_nil, Nat.reduceAdd, Nat.reduceLT, Nat.zero_add, if_true, if_false, and_self, true_or, or_true, true_and, and_true, not_true_eq_false, not_false_eq_true, reduceCtorEq, eq_self, Option.toList_some, Option.toList_none, List.cons_append, List.nil_append, Bool.false_eq_true]
  exact l0
def e_du (E : Nat → Nat → Int32) (ta : Nat → Nat → Bool) : Nat → List Nat → List Nat
  | _, [] => []
  | p, e :: t => if ¬ E e 0 = E p 0 ∨ ta e p = true then e :: e_du E ta e t else e_du E ta e t
theorem e_du_len (E : Nat → Nat → Int32) (ta : Nat → Nat → Bool) : ∀ (p : Nat) (L : List Nat), (e_du E ta p L).length ≤ L.length
  | _, [] => Nat.le_refl _
  | p, e :: t => by
    unfold e_du
    have := e_du_len E ta e t
    split
    · simp only [List.length_cons]; omega
    · simp only [List.length_cons]; omega
theorem ro_dropUnseen (z d : Nat) {s ss : Nat} {S : Nat → Int32} (hz : z ≤ r) (hza : z ≤ a) (hr : vs_row h r a bl n L) (hs : vs_sn h s ss S) (hbl : h.1 bl = some (vs_e E bl)) (hL : ∀ x ∈ L, h.1 x = some (vs_e E x)) : ∃ h', am_M z (d + 1 + 1) 28 [.ref r, .ref s] h (some (.int (nI (L.length - (e_du E (e_ta S E) bl L).length)))) h' ∧ vs_row h' r a bl n (e_du E (e_ta S E) bl L) ∧ vs_ch h h' r a := by
  obtain ⟨g, h1, h2, h3, h4, h5, hne⟩ := hr.g
  have hxa : ∀ x, h.1 x = some (vs_e E x) → x ≠ a := fun x hx => am_ne hx h2 (by simp)
  have hsa : s ≠ a := am_ne hs.1 h2 (by simp)
  have hssa : ss ≠ a := am_ne hs.2 h2 (by simp)
  have hbla := hxa bl hbl
  have loop : ∀ m k (G : Nat → Option Nat) (Kp : List Nat) (p : Nat) (w : Option Value), m = L.length - k → k ≤ L.length → Kp.length ≤ k → (∀ i, i < Kp.length → G i = Kp[i]?) → (∀ i, k ≤ i → G i = g i) → h.1 p = some (vs_e E p) →
      ∃ G', am_R z (d + 1) 28 10 [some (.ref r), some (.ref s), some (.int (nI Kp.length)), some (.ref p), some (.int (nI k)), w] [] (am_up h a (vs_q n G)) (some (.int (nI (L.length - (Kp ++ e_du E (e_ta S E) p (L.drop k)).length)))) (am_up (am_up h a (vs_q n G')) r (vs_ro bl a (Kp ++ e_du E (e_ta S E) p (L.drop k)).length)) ∧ ∀ i, i < (Kp ++ e_du E (e_ta S E) p (L.drop k)).length → G' i = (Kp ++ e_du E (e_ta S E) p (L.drop k))[i]? := by
    intro m
    induction m with
    | zero =>
      intro k G Kp p w hm hk hKp hG1 hG2 hp
      have hkl : k = L.length := by omega
      subst hkl
      have e1 : nI L.length ≤ nI L.length := nI_le (Nat.le_refl _) (by omega)
      have e2 : nI L.length - nI Kp.length = nI (L.length - Kp.length) := pk_sub hKp
      rw [List.drop_length]
      simp only [e_du, List.append_nil]
      refine ⟨G, ?_, hG1⟩
      rw [am_R_eq, cxh_28_10]
      simp only [am_R_eq, cx_28, en_28, rt_28, rx_aaload, rx_aastore, ev_w1, ev_KW, rx_aload, rx_aload_n, rx_astore, rx_astore_n, rx_getfield, ev_gf, rx_goto, rx_iconst, rx_icmp_ge, rx_icmp_ne, rx_if_eq, rx_iinc, ev_inc, rx_iload, rx_iload_n, rx_invv, ev_cv, rx_ireturn, rx_istore, rx_istore_n, rx_isub, rx_putfield, ev_pf, am_fok, am_ftv, kl_29, ev_K, ev_pI, ev_pR, ev_pVi, ev_pVr, ev_sI, ev_sR, ev_KC, ev_k, ev_ko, ev_pop0, ev_pops, am_ld, am_sv, am_at, am_st, am_g, List.length_cons, List.length_nil, Nat.reduceAdd, Nat.reduceLT, Nat.zero_add, if_true, if_false, and_self, true_or, or_true, true_and, and_true, not_true_eq_false, not_false_eq_true, reduceCtorEq, eq_self, Option.toList_some, Option.toList_none, List.cons_append, List.nil_append, Bool.false_eq_true, h1, e1, e2, hz, am_up_ne, am_up_at, hne, ne_eq, Nat.reduceLeDiff, beq_self_eq_true]
    | succ m ih =>
      intro k G Kp p w hm hk hKp hG1 hG2 hp
      have hlt : k < L.length := by omega
      have e1 : ¬ nI L.length ≤ nI k := nI_ge hlt (by omega)
      have e5 : am_ix (nI k) n = some k := ev_ix (by omega) (by omega)
      have e3 : am_ix (nI Kp.length) n = some Kp.length := ev_ix (by omega) (by omega)
      obtain ⟨x, hx⟩ : ∃ x, L[k]? = some x := ⟨L[k]'(by omega), List.getElem?_eq_getElem (by omega)⟩
      have hd : L.drop k = x :: L.drop (k + 1) := by
        rw [List.drop_eq_getElem_cons hlt]
        congr 1
        exact (List.getElem?_eq_some_iff.mp hx).2
      have e7 := ev_rq 2 n k x G (nI k) (by omega) e5 (by rw [hG2 k (Nat.le_refl _), h3 k hlt]; exact hx)
      have hex := hL x (List.mem_of_getElem? hx)
      have hxn := hxa x hex
      have hpn := hxa p hp
      have hex2 : (am_up h a (vs_q n G)).1 x = some (vs_e E x) := by rw [am_up_ne _ _ hxn]; exact hex
      have hp2 : (am_up h a (vs_q n G)).1 p = some (vs_e E p) := by rw [am_up_ne _ _ hpn]; exact hp
      have hs2 : vs_sn (am_up h a (vs_q n G)) s ss S := ⟨by rw [am_up_ne _ _ hsa]; exact hs.1, by rw [am_up_ne _ _ hssa]; exact hs.2⟩
      have hs3 := hs.1
      have e4 := ev_wq 2 n Kp.length x G (nI Kp.length) ((am_up h a (vs_q n G)).1 x) (by omega) e3 (by rw [hex2]; rfl)
      have e4b := ev_wq 2 n Kp.length x G (nI Kp.length) (some (vs_e E x)) (by omega) e3 rfl
      rw [hd]
      obtain ⟨G1, i1, i2⟩ := ih (k + 1) (va_up G Kp.length (some x)) (Kp ++ [x]) x (some (.ref x)) (by omega) (by omega) (by rw [List.length_append]; simp; omega) (by
        intro i hi
        rw [List.length_append] at hi
        have hi : i < Kp.length + 1 := hi
        by_cases hik : i = Kp.length
        · subst hik
          rw [va_up_self, List.getElem?_append_right (Nat.le_refl _), Nat.sub_self]
          rfl
        · rw [va_up_ne _ _ hik, List.getElem?_append_left (by omega)]
          exact hG1 i (by omega)) (by
        intro i hi
        rw [va_up_ne _ _ (by omega)]
        exact hG2 i (by omega)) hex
      obtain ⟨G2, j1, j2⟩ := ih (k + 1) G Kp x (some (.ref x)) (by omega) (by omega) (by omega) hG1 (fun i hi => hG2 i (by omega)) hex
      have hl : (Kp ++ [x]).length = Kp.length + 1 := by simp
      rw [List.append_assoc, hl] at i1
      rw [List.append_assoc] at i2
      rw [am_R_eq] at i1 j1
      by_cases c1 : E x 0 = E p 0
      · cases c2 : e_ta S E x p with
        | true =>
          have hdu : e_du E (e_ta S E) p (x :: L.drop (k + 1)) = [x] ++ e_du E (e_ta S E) x (L.drop (k + 1)) := by simp [e_du, c2]
          rw [hdu]
          refine ⟨G1, ?_, i2⟩
          rw [am_R_eq, cxh_28_10]
          simp only [am_R_eq, cx_28, en_28, rt_28, rx_aaload, rx_aastore, ev_w1, ev_KW, rx_aload, rx_aload_n, rx_astore, rx_astore_n, rx_getfield, ev_gf, rx_goto, rx_iconst, rx_icmp_ge, rx_icmp_ne, rx_if_eq, rx_iinc, ev_inc, rx_iload, rx_iload_n, rx_invv, ev_cv, rx_ireturn, rx_istore, rx_istore_n, rx_isub, rx_putfield, ev_pf, am_fok, am_ftv, kl_29, ev_K, ev_pI, ev_pR, ev_pVi, ev_pVr, ev_sI, ev_sR, ev_KC, ev_k, ev_ko, ev_pop0, ev_pops, am_ld, am_sv, am_at, am_st, am_g, List.length_cons, List.length_nil, Nat.reduceAdd, Nat.reduceLT, Nat.zero_add, if_true, if_false, and_self, true_or, or_true, true_and, and_true, not_true_eq_false, not_false_eq_true, reduceCtorEq, eq_self, Option.toList_some, Option.toList_none, List.cons_append, List.nil_append, Bool.false_eq_true, h1, hs3, e1, e7, hex2, hp2, c1, am_up_ne, am_up_at, hne, hsa, ne_eq]
          refine am_CL_of (sn_tellApart z d hs2 hex2 hp2) ?_
          simp only [am_R_eq, cx_28, en_28, rt_28, rx_aaload, rx_aastore, ev_w1, ev_KW, rx_aload, rx_aload_n, rx_astore, rx_astore_n, rx_getfield, ev_gf, rx_goto, rx_iconst, rx_icmp_ge, rx_icmp_ne, rx_if_eq, rx_iinc, ev_inc, rx_iload, rx_iload_n, rx_invv, ev_cv, rx_ireturn, rx_istore, rx_istore_n, rx_isub, rx_putfield, ev_pf, am_fok, am_ftv, kl_29, ev_K, ev_pI, ev_pR, ev_pVi, ev_pVr, ev_sI, ev_sR, ev_KC, ev_k, ev_ko, ev_pop0, ev_pops, am_ld, am_sv, am_at, am_st, am_g, List.length_cons, List.length_nil, Nat.reduceAdd, Nat.reduceLT, Nat.zero_add, if_true, if_false, and_self, true_or, or_true, true_and, and_true, not_true_eq_false, not_false_eq_true, reduceCtorEq, eq_self, Option.toList_some, Option.toList_none, List.cons_append, List.nil_append, Bool.false_eq_true, h1, c2, i_10, e4, hza, am_up_ne, am_up_at, am_up_up, hne, ne_eq, nI_ofs]
          exact i1
        | false =>
          have hdu : e_du E (e_ta S E) p (x :: L.drop (k + 1)) = e_du E (e_ta S E) x (L.drop (k + 1)) := by simp [e_du, c1, c2]
          rw [hdu]
          refine ⟨G2, ?_, j2⟩
          rw [am_R_eq, cxh_28_10]
          simp only [am_R_eq, cx_28, en_28, rt_28, rx_aaload, rx_aastore, ev_w1, ev_KW, rx_aload, rx_aload_n, rx_astore, rx_astore_n, rx_getfield, ev_gf, rx_goto, rx_iconst, rx_icmp_ge, rx_icmp_ne, rx_if_eq, rx_iinc, ev_inc, rx_iload, rx_iload_n, rx_invv, ev_cv, rx_ireturn, rx_istore, rx_istore_n, rx_isub, rx_putfield, ev_pf, am_fok, am_ftv, kl_29, ev_K, ev_pI, ev_pR, ev_pVi, ev_pVr, ev_sI, ev_sR, ev_KC, ev_k, ev_ko, ev_pop0, ev_pops, am_ld, am_sv, am_at, am_st, am_g, List.length_cons, List.length_nil, Nat.reduceAdd, Nat.reduceLT, Nat.zero_add, if_true, if_false, and_self, true_or, or_true, true_and, and_true, not_true_eq_false, not_false_eq_true, reduceCtorEq, eq_self, Option.toList_some, Option.toList_none, List.cons_append, List.nil_append, Bool.false_eq_true, h1, hs3, e1, e7, hex2, hp2, c1, am_up_ne, am_up_at, hne, hsa, ne_eq]
          refine am_CL_of (sn_tellApart z d hs2 hex2 hp2) ?_
          simp only [am_R_eq, cx_28, en_28, rt_28, rx_aaload, rx_aastore, ev_w1, ev_KW, rx_aload, rx_aload_n, rx_astore, rx_astore_n, rx_getfield, ev_gf, rx_goto, rx_iconst, rx_icmp_ge, rx_icmp_ne, rx_if_eq, rx_iinc, ev_inc, rx_iload, rx_iload_n, rx_invv, ev_cv, rx_ireturn, rx_istore, rx_istore_n, rx_isub, rx_putfield, ev_pf, am_fok, am_ftv, kl_29, ev_K, ev_pI, ev_pR, ev_pVi, ev_pVr, ev_sI, ev_sR, ev_KC, ev_k, ev_ko, ev_pop0, ev_pops, am_ld, am_sv, am_at, am_st, am_g, List.length_cons, List.length_nil, Nat.reduceAdd, Nat.reduceLT, Nat.zero_add, if_true, if_false, and_self, true_or, or_true, true_and, and_true, not_true_eq_false, not_false_eq_true, reduceCtorEq, eq_self, Option.toList_some, Option.toList_none, List.cons_append, List.nil_append, Bool.false_eq_true, h1, c2, i_10, e4, hza, am_up_ne, am_up_at, am_up_up, hne, ne_eq, nI_ofs]
          exact j1
      · have hdu : e_du E (e_ta S E) p (x :: L.drop (k + 1)) = [x] ++ e_du E (e_ta S E) x (L.drop (k + 1)) := by simp [e_du, c1]
        rw [hdu]
        refine ⟨G1, ?_, i2⟩
        rw [am_R_eq, cxh_28_10]
        simp only [am_R_eq, cx_28, en_28, rt_28, rx_aaload, rx_aastore, ev_w1, ev_KW, rx_aload, rx_aload_n, rx_astore, rx_astore_n, rx_getfield, ev_gf, rx_goto, rx_iconst, rx_icmp_ge, rx_icmp_ne, rx_if_eq, rx_iinc, ev_inc, rx_iload, rx_iload_n, rx_invv, ev_cv, rx_ireturn, rx_istore, rx_istore_n, rx_isub, rx_putfield, ev_pf, am_fok, am_ftv, kl_29, ev_K, ev_pI, ev_pR, ev_pVi, ev_pVr, ev_sI, ev_sR, ev_KC, ev_k, ev_ko, ev_pop0, ev_pops, am_ld, am_sv, am_at, am_st, am_g, List.length_cons, List.length_nil, Nat.reduceAdd, Nat.reduceLT, Nat.zero_add, if_true, if_false, and_self, true_or, or_true, true_and, and_true, not_true_eq_false, not_false_eq_true, reduceCtorEq, eq_self, Option.toList_some, Option.toList_none, List.cons_append, List.nil_append, Bool.false_eq_true, h1, e1, e7, hex2, hp2, c1, e4b, hza, am_up_ne, am_up_at, am_up_up, hne, ne_eq, nI_ofs]
        exact i1
  obtain ⟨G', l0, l1⟩ := loop L.length 0 g [] bl none (by omega) (Nat.zero_le _) (Nat.zero_le _) (fun i hi => absurd hi (Nat.not_lt_zero _)) (fun i _ => rfl) hbl
  rw [List.drop_zero, List.nil_append] at l0 l1
  rw [am_up_self h2, am_R_eq] at l0
  refine ⟨_, ?_, ?_, vs_ch.up2 h r a (vs_q n G') (vs_ro bl a (e_du E (e_ta S E) bl L).length)⟩
  · rw [am_M_eq]
    simp only [am_R_eq, cx_28, en_28, rt_28, rx_aaload, rx_aastore, ev_w1, ev_KW, rx_aload, rx_aload_n, rx_astore, rx_astore_n, rx_getfield, ev_gf, rx_goto, rx_iconst, rx_icmp_ge, rx_icmp_ne, rx_if_eq, rx_iinc, ev_inc, rx_iload, rx_iload_n, rx_invv, ev_cv, rx_ireturn, rx_istore, rx_istore_n, rx_isub, rx_putfield, ev_pf, am_fok, am_ftv, kl_29, ev_K, ev_pI, ev_pR, ev_pVi, ev_pVr, ev_sI, ev_sR, ev_KC, ev_k, ev_ko, ev_pop0, ev_pops, am_ld, am_sv, am_at, am_st, am_g, List.length_cons, List.length_nil, Nat.reduceAdd, Nat.reduceLT, Nat.zero_add, if_true, if_false, and_self, true_or, or_true, true_and, and_true, not_true_eq_false, not_false_eq_true, reduceCtorEq, eq_self, Option.toList_some, Option.toList_none, List.cons_append, List.nil_append, Bool.false_eq_true, h1]
    exact l0
  · refine vs_row.mk (g := G') (by rw [am_up_at]) (by rw [am_up_ne _ _ (Ne.symm hne), am_up_at]) l1 ?_ h5
    have := e_du_len E (e_ta S E) bl L
    omega
end ROW4
end
section
section ROW5
variable {h : am_H} {r a bl n : Nat} {L : List Nat} {E : Nat → Nat → Int32}
def e_dg (E : Nat → Nat → Int32) (now : Int32) : List Nat → Nat → List Nat → List Nat
  | [], _, acc => acc
  | e :: t, lo, acc => if E e 0 = E lo 0 ∨ e_gone E e now = false then e_dg E now t e (e :: acc) else e_dg E now t lo acc
theorem e_dg_len (E : Nat → Nat → Int32) (now : Int32) : ∀ (T : List Nat) (lo : Nat) (acc : List Nat), (e_dg E now T lo acc).length ≤ T.length + acc.length
  | [], _, acc => by simp [e_dg]
  | e :: t, lo, acc => by
    unfold e_dg
    split
    · have := e_dg_len E now t e (e :: acc)
      simp only [List.length_cons] at this ⊢
      omega
    · have := e_dg_len E now t lo acc
      simp only [List.length_cons] at this ⊢
      omega
def vs_cp (G : Nat → Option Nat) (st i : Nat) : Nat → Option Nat := fun q => if q < i then G (st + q) else G q
theorem vs_cp_0 (G : Nat → Option Nat) (st : Nat) : vs_cp G st 0 = G := by
  funext q
  unfold vs_cp
  rw [if_neg (Nat.not_lt_zero _)]
theorem vs_cp_s (G : Nat → Option Nat) (st i : Nat) : va_up (vs_cp G st i) i (G (st + i)) = vs_cp G st (i + 1) := by
  funext q
  unfold va_up vs_cp
  by_cases hq : q = i
  · subst hq
    rw [if_pos rfl, if_pos (by omega)]
  · rw [if_neg hq]
    by_cases h2 : q < i
    · rw [if_pos h2, if_pos (by omega)]
    · rw [if_neg h2, if_neg (by omega)]
theorem nI_pm (m : Nat) : nI m + -1 = nI m - 1 := by rw [Int32.sub_eq_add_neg]
theorem ro_dropGone (z d : Nat) {now : Int32} (hz : z ≤ r) (hza : z ≤ a) (hr : vs_row h r a bl n L) (hbl : h.1 bl = some (vs_e E bl)) (hL : ∀ x ∈ L, h.1 x = some (vs_e E x)) : ∃ h', am_M z (d + 1 + 1) 30 [.ref r, .int now] h (some (.int (nI (L.length - (e_dg E now L.reverse bl []).length)))) h' ∧ vs_row h' r a bl n (e_dg E now L.reverse bl []) ∧ vs_ch h h' r a := by
  obtain ⟨g, h1, h2, h3, h4, h5, hne⟩ := hr.g
  have hxa : ∀ x, h.1 x = some (vs_e E x) → x ≠ a := fun x hx => am_ne hx h2 (by simp)
  have second : ∀ (G : Nat → Option Nat) (fin : List Nat) (lo : Nat) (w : Option Value), fin.length ≤ L.length → (∀ i, i < fin.length → G (L.length - fin.length + i) = fin[i]?) → (∀ x ∈ fin, h.1 x = some (vs_e E x)) → ∀ m i, m = fin.length - i → i ≤ fin.length →
      am_R z (d + 1) 30 86 [some (.ref r), some (.int now), some (.int (nI (L.length - fin.length))), some (.ref lo), some (.int (nI i)), w] [] (am_up (am_up h a (vs_q n (vs_cp G (L.length - fin.length) i))) r (vs_ro bl a fin.length)) (some (.int (nI (L.length - fin.length)))) (am_up (am_up h a (vs_q n (vs_cp G (L.length - fin.length) fin.length))) r (vs_ro bl a fin.length)) := by
    intro G fin lo w hf hG hfin m
    induction m with
    | zero =>
      intro i hm hi
      have hil : i = fin.length := by omega
      subst hil
      have e1 : nI fin.length ≤ nI fin.length := nI_le (Nat.le_refl _) (by omega)
      rw [am_R_eq, cxh_30_86]
      simp only [am_R_eq, cx_30, en_30, rt_30, rx_aaload, rx_aastore, ev_w1, ev_KW, rx_aload, rx_aload_n, rx_astore, rx_astore_n, rx_dup_i, rx_dup_r, rx_getfield, ev_gf, rx_goto, rx_iadd, rx_iconst, rx_icmp_eq, rx_icmp_ge, rx_if_lt, rx_if_ne, rx_iinc, ev_inc, rx_iload, rx_iload_n, rx_invv, ev_cv, rx_ireturn, rx_istore, rx_istore_n, rx_isub, rx_putfield, ev_pf, am_fok, am_ftv, kl_31, ev_K, ev_pI, ev_pR, ev_pVi, ev_pVr, ev_sI, ev_sR, ev_KC, ev_k, ev_ko, ev_pop0, ev_pops, am_ld, am_sv, am_at, am_st, am_g, List.length_cons, List.length_nil, Nat.reduceAdd, Nat.reduceLT, Nat.zero_add, if_true, if_false, and_self, true_or, or_true, true_and, and_true, not_true_eq_false, not_false_eq_true, reduceCtorEq, eq_self, Option.toList_some, Option.toList_none, List.cons_append, List.nil_append, Bool.false_eq_true, e1, am_up_ne, am_up_at, hne, ne_eq]
    | succ m ih =>
      intro i hm hi
      have hlt : i < fin.length := by omega
      have e1 : ¬ nI fin.length ≤ nI i := nI_ge hlt (by omega)
      have e2 : nI (L.length - fin.length) + nI i = nI (L.length - fin.length + i) := nI_add _ _
      have e5 : am_ix (nI (L.length - fin.length + i)) n = some (L.length - fin.length + i) := ev_ix (by omega) (by omega)
      have e3 : am_ix (nI i) n = some i := ev_ix (by omega) (by omega)
      obtain ⟨x, hx⟩ : ∃ x, fin[i]? = some x := ⟨fin[i]'(by omega), List.getElem?_eq_getElem (by omega)⟩
      have hex := hfin x (List.mem_of_getElem? hx)
      have hxn := hxa x hex
      have hxr : x ≠ r := am_ne hex h1 (by simp)
      have hgx : G (L.length - fin.length + i) = some x := by rw [hG i hlt]; exact hx
      have hcx : vs_cp G (L.length - fin.length) i (L.length - fin.length + i) = some x := by
        unfold vs_cp
        rw [if_neg (by omega)]
        exact hgx
      have e7 := ev_rq 2 n _ x (vs_cp G (L.length - fin.length) i) (nI (L.length - fin.length + i)) (by omega) e5 hcx
      have e4 := ev_wq 2 n i x (vs_cp G (L.length - fin.length) i) (nI i) (some (vs_e E x)) (by omega) e3 rfl
      have e8 : va_up (vs_cp G (L.length - fin.length) i) i (some x) = vs_cp G (L.length - fin.length) (i + 1) := by rw [← hgx]; exact vs_cp_s ..
      have ih1 := ih (i + 1) (by omega) (by omega)
      rw [am_R_eq] at ih1
      have e9 : ∀ x y, am_up (am_up (am_up h a x) r (vs_ro bl a fin.length)) a y = am_up (am_up h a y) r (vs_ro bl a fin.length) := by
        intro x y
        rw [am_up_cm _ _ _ hne, am_up_up]
      rw [am_R_eq, cxh_30_86]
      simp only [am_R_eq, cx_30, en_30, rt_30, rx_aaload, rx_aastore, ev_w1, ev_KW, rx_aload, rx_aload_n, rx_astore, rx_astore_n, rx_dup_i, rx_dup_r, rx_getfield, ev_gf, rx_goto, rx_iadd, rx_iconst, rx_icmp_eq, rx_icmp_ge, rx_if_lt, rx_if_ne, rx_iinc, ev_inc, rx_iload, rx_iload_n, rx_invv, ev_cv, rx_ireturn, rx_istore, rx_istore_n, rx_isub, rx_putfield, ev_pf, am_fok, am_ftv, kl_31, ev_K, ev_pI, ev_pR, ev_pVi, ev_pVr, ev_sI, ev_sR, ev_KC, ev_k, ev_ko, ev_pop0, ev_pops, am_ld, am_sv, am_at, am_st, am_g, List.length_cons, List.length_nil, Nat.reduceAdd, Nat.reduceLT, Nat.zero_add, if_true, if_false, and_self, true_or, or_true, true_and, and_true, not_true_eq_false, not_false_eq_true, reduceCtorEq, eq_self, Option.toList_some, Option.toList_none, List.cons_append, List.nil_append, Bool.false_eq_true, e1, e2, e7, e4, e8, e9, hza, hex, hxn, hxr, am_up_ne, am_up_at, hne, hne.symm, ne_eq, nI_ofs]
      exact ih1
  have first : ∀ k (G : Nat → Option Nat) (acc : List Nat) (lo : Nat) (w : Option Value), k + acc.length ≤ L.length → (∀ i, i < k → G i = g i) → (∀ i, i < acc.length → G (L.length - acc.length + i) = acc[i]?) → (∀ x ∈ acc, h.1 x = some (vs_e E x)) → h.1 lo = some (vs_e E lo) →
      ∃ G', am_R z (d + 1) 30 18 [some (.ref r), some (.int now), some (.int (nI (L.length - acc.length))), some (.ref lo), some (.int (nI k - 1)), w] [] (am_up h a (vs_q n G)) (some (.int (nI (L.length - (e_dg E now (L.take k).reverse lo acc).length)))) (am_up (am_up h a (vs_q n G')) r (vs_ro bl a (e_dg E now (L.take k).reverse lo acc).length)) ∧ ∀ i, i < (e_dg E now (L.take k).reverse lo acc).length → G' i = (e_dg E now (L.take k).reverse lo acc)[i]? := by
    intro k
    induction k with
    | zero =>
      intro G acc lo w hk hG1 hG2 hacc hlo
      have hk : acc.length ≤ L.length := by omega
      refine ⟨vs_cp G (L.length - acc.length) acc.length, ?_, ?_⟩
      · have e1 : nI 0 - 1 < 0 := by decide
        have e2 : nI L.length - nI (L.length - acc.length) = nI acc.length := by
          rw [pk_sub (by omega)]
          congr 1
          omega
        have s0 := second G acc lo w hk hG2 hacc acc.length 0 (by omega) (Nat.zero_le _)
        rw [vs_cp_0, am_R_eq] at s0
        rw [am_R_eq, cxh_30_18]
        simp only [am_R_eq, cx_30, en_30, rt_30, rx_aaload, rx_aastore, ev_w1, ev_KW, rx_aload, rx_aload_n, rx_astore, rx_astore_n, rx_dup_i, rx_dup_r, rx_getfield, ev_gf, rx_goto, rx_iadd, rx_iconst, rx_icmp_eq, rx_icmp_ge, rx_if_lt, rx_if_ne, rx_iinc, ev_inc, rx_iload, rx_iload_n, rx_invv, ev_cv, rx_ireturn, rx_istore, rx_istore_n, rx_isub, rx_putfield, ev_pf, am_fok, am_ftv, kl_31, ev_K, ev_pI, ev_pR, ev_pVi, ev_pVr, ev_sI, ev_sR, ev_KC, ev_k, ev_ko, ev_pop0, ev_pops, am_ld, am_sv, am_at, am_st, am_g, List.length_cons, List.length_nil, Nat.reduceAdd, Nat.reduceLT, Nat.zero_add, if_true, if_false, and_self, true_or, or_true, true_and, and_true, not_true_eq_false, not_false_eq_true, reduceCtorEq, eq_self, Option.toList_some, Option.toList_none, List.cons_append, List.nil_append, Bool.false_eq_true, h1, e1, e2, hz, am_up_ne, am_up_at, hne, ne_eq, Nat.reduceLeDiff, beq_self_eq_true]
        exact s0
      · intro i hi
        have hi : i < acc.length := hi
        show vs_cp G (L.length - acc.length) acc.length i = acc[i]?
        unfold vs_cp
        rw [if_pos hi]
        exact hG2 i hi
    | succ k ih =>
      intro G acc lo w hk hG1 hG2 hacc hlo
      have hlt : k < L.length := by omega
      have e0 : nI (k + 1) - 1 = nI k := nI_pred k
      have e1 : ¬ nI k < 0 := nI_pos (by omega)
      have e5 : am_ix (nI k) n = some k := ev_ix (by omega) (by omega)
      obtain ⟨x, hx⟩ : ∃ x, L[k]? = some x := ⟨L[k]'(by omega), List.getElem?_eq_getElem (by omega)⟩
      have hd : (L.take (k + 1)).reverse = x :: (L.take k).reverse := by
        rw [List.take_succ, hx]
        simp
      have e7 := ev_rq 2 n k x G (nI k) (by omega) e5 (by rw [hG1 k (by omega), h3 k hlt]; exact hx)
      have hex := hL x (List.mem_of_getElem? hx)
      have hxn := hxa x hex
      have hln := hxa lo hlo
      have hex2 : (am_up h a (vs_q n G)).1 x = some (vs_e E x) := by rw [am_up_ne _ _ hxn]; exact hex
      have hlo2 : (am_up h a (vs_q n G)).1 lo = some (vs_e E lo) := by rw [am_up_ne _ _ hln]; exact hlo
      have hl : (x :: acc).length = acc.length + 1 := rfl
      have e6 : nI (L.length - acc.length) + -1 = nI (L.length - (acc.length + 1)) := by
        rw [show L.length - acc.length = (L.length - (acc.length + 1)) + 1 by omega]
        exact pk_m1 _
      have e3 : am_ix (nI (L.length - (acc.length + 1))) n = some (L.length - (acc.length + 1)) := ev_ix (by omega) (by omega)
      have e4 := ev_wq 2 n _ x G (nI (L.length - (acc.length + 1))) (some (vs_e E x)) (by omega) e3 rfl
      rw [hd]
      obtain ⟨G1, i1, i2⟩ := ih (va_up G (L.length - (acc.length + 1)) (some x)) (x :: acc) x (some (.ref x)) (by rw [hl]; omega) (by
        intro i hi
        rw [va_up_ne _ _ (by omega)]
        exact hG1 i (by omega)) (by
        intro i hi
        rw [hl] at hi ⊢
        by_cases hi0 : i = 0
        · subst hi0
          show va_up G (L.length - (acc.length + 1)) (some x) (L.length - (acc.length + 1)) = _
          rw [va_up_self]
          rfl
        · rw [va_up_ne _ _ (by omega), show L.length - (acc.length + 1) + i = L.length - acc.length + (i - 1) by omega, hG2 (i - 1) (by omega)]
          obtain ⟨i', rfl⟩ : ∃ i', i = i' + 1 := ⟨i - 1, by omega⟩
          rfl) (by
        intro y hy
        rcases List.mem_cons.mp hy with q | q
        · rw [q]; exact hex
        · exact hacc y q) hex
      obtain ⟨G2, j1, j2⟩ := ih G acc lo (some (.ref x)) (by omega) (fun i hi => hG1 i (by omega)) hG2 hacc hlo
      rw [hl] at i1
      rw [am_R_eq] at i1 j1
      by_cases c1 : E x 0 = E lo 0
      · have hdu : e_dg E now (x :: (L.take k).reverse) lo acc = e_dg E now (L.take k).reverse x (x :: acc) := by simp [e_dg, c1]
        rw [hdu]
        refine ⟨G1, ?_, i2⟩
        rw [am_R_eq, cxh_30_18]
        simp only [am_R_eq, cx_30, en_30, rt_30, rx_aaload, rx_aastore, ev_w1, ev_KW, rx_aload, rx_aload_n, rx_astore, rx_astore_n, rx_dup_i, rx_dup_r, rx_getfield, ev_gf, rx_goto, rx_iadd, rx_iconst, rx_icmp_eq, rx_icmp_ge, rx_if_lt, rx_if_ne, rx_iinc, ev_inc, rx_iload, rx_iload_n, rx_invv, ev_cv, rx_ireturn, rx_istore, rx_istore_n, rx_isub, rx_putfield, ev_pf, am_fok, am_ftv, kl_31, ev_K, ev_pI, ev_pR, ev_pVi, ev_pVr, ev_sI, ev_sR, ev_KC, ev_k, ev_ko, ev_pop0, ev_pops, am_ld, am_sv, am_at, am_st, am_g, List.length_cons, List.length_nil, Nat.reduceAdd, Nat.reduceLT, Nat.zero_add, if_true, if_false, and_self, true_or, or_true, true_and, and_true, not_true_eq_false, not_false_eq_true, reduceCtorEq, eq_self, Option.toList_some, Option.toList_none, List.cons_append, List.nil_append, Bool.false_eq_true, h1, e0, e1, e7, hex2, hlo2, c1, e4, e6, hza, am_up_ne, am_up_at, am_up_up, hne, ne_eq, nI_pm]
        exact i1
      · cases c2 : e_gone E x now with
        | true =>
          have hdu : e_dg E now (x :: (L.take k).reverse) lo acc = e_dg E now (L.take k).reverse lo acc := by simp [e_dg, c1, c2]
          rw [hdu]
          refine ⟨G2, ?_, j2⟩
          rw [am_R_eq, cxh_30_18]
          simp only [am_R_eq, cx_30, en_30, rt_30, rx_aaload, rx_aastore, ev_w1, ev_KW, rx_aload, rx_aload_n, rx_astore, rx_astore_n, rx_dup_i, rx_dup_r, rx_getfield, ev_gf, rx_goto, rx_iadd, rx_iconst, rx_icmp_eq, rx_icmp_ge, rx_if_lt, rx_if_ne, rx_iinc, ev_inc, rx_iload, rx_iload_n, rx_invv, ev_cv, rx_ireturn, rx_istore, rx_istore_n, rx_isub, rx_putfield, ev_pf, am_fok, am_ftv, kl_31, ev_K, ev_pI, ev_pR, ev_pVi, ev_pVr, ev_sI, ev_sR, ev_KC, ev_k, ev_ko, ev_pop0, ev_pops, am_ld, am_sv, am_at, am_st, am_g, List.length_cons, List.length_nil, Nat.reduceAdd, Nat.reduceLT, Nat.zero_add, if_true, if_false, and_self, true_or, or_true, true_and, and_true, not_true_eq_false, not_false_eq_true, reduceCtorEq, eq_self, Option.toList_some, Option.toList_none, List.cons_append, List.nil_append, Bool.false_eq_true, h1, e0, e1, e7, hex2, hlo2, c1, am_up_ne, am_up_at, hne, ne_eq]
          refine am_CL_of (en_isGone z d hex2) ?_
          simp only [am_R_eq, cx_30, en_30, rt_30, rx_aaload, rx_aastore, ev_w1, ev_KW, rx_aload, rx_aload_n, rx_astore, rx_astore_n, rx_dup_i, rx_dup_r, rx_getfield, ev_gf, rx_goto, rx_iadd, rx_iconst, rx_icmp_eq, rx_icmp_ge, rx_if_lt, rx_if_ne, rx_iinc, ev_inc, rx_iload, rx_iload_n, rx_invv, ev_cv, rx_ireturn, rx_istore, rx_istore_n, rx_isub, rx_putfield, ev_pf, am_fok, am_ftv, kl_31, ev_K, ev_pI, ev_pR, ev_pVi, ev_pVr, ev_sI, ev_sR, ev_KC, ev_k, ev_ko, ev_pop0, ev_pops, am_ld, am_sv, am_at, am_st, am_g, List.length_cons, List.length_nil, Nat.reduceAdd, Nat.reduceLT, Nat.zero_add, if_true, if_false, and_self, true_or, or_true, true_and, and_true, not_true_eq_false, not_false_eq_true, reduceCtorEq, eq_self, Option.toList_some, Option.toList_none, List.cons_append, List.nil_append, Bool.false_eq_true, h1, c2, i_10, nI_pm]
          exact j1
        | false =>
          have hdu : e_dg E now (x :: (L.take k).reverse) lo acc = e_dg E now (L.take k).reverse x (x :: acc) := by simp [e_dg, c2]
          rw [hdu]
          refine ⟨G1, ?_, i2⟩
          rw [am_R_eq, cxh_30_18]
          simp only [am_R_eq, cx_30, en_30, rt_30, rx_aaload, rx_aastore, ev_w1, ev_KW, rx_aload, rx_aload_n, rx_astore, rx_astore_n, rx_dup_i, rx_dup_r, rx_getfield, ev_gf, rx_goto, rx_iadd, rx_iconst, rx_icmp_eq, rx_icmp_ge, rx_if_lt, rx_if_ne, rx_iinc, ev_inc, rx_iload, rx_iload_n, rx_invv, ev_cv, rx_ireturn, rx_istore, rx_istore_n, rx_isub, rx_putfield, ev_pf, am_fok, am_ftv, kl_31, ev_K, ev_pI, ev_pR, ev_pVi, ev_pVr, ev_sI, ev_sR, ev_KC, ev_k, ev_ko, ev_pop0, ev_pops, am_ld, am_sv, am_at, am_st, am_g, List.length_cons, List.length_nil, Nat.reduceAdd, Nat.reduceLT, Nat.zero_add, if_true, if_false, and_self, true_or, or_true, true_and, and_true, not_true_eq_false, not_false_eq_true, reduceCtorEq, eq_self, Option.toList_some, Option.toList_none, List.cons_append, List.nil_append, Bool.false_eq_true, h1, e0, e1, e7, hex2, hlo2, c1, am_up_ne, am_up_at, hne, ne_eq]
          refine am_CL_of (en_isGone z d hex2) ?_
          simp only [am_R_eq, cx_30, en_30, rt_30, rx_aaload, rx_aastore, ev_w1, ev_KW, rx_aload, rx_aload_n, rx_astore, rx_astore_n, rx_dup_i, rx_dup_r, rx_getfield, ev_gf, rx_goto, rx_iadd, rx_iconst, rx_icmp_eq, rx_icmp_ge, rx_if_lt, rx_if_ne, rx_iinc, ev_inc, rx_iload, rx_iload_n, rx_invv, ev_cv, rx_ireturn, rx_istore, rx_istore_n, rx_isub, rx_putfield, ev_pf, am_fok, am_ftv, kl_31, ev_K, ev_pI, ev_pR, ev_pVi, ev_pVr, ev_sI, ev_sR, ev_KC, ev_k, ev_ko, ev_pop0, ev_pops, am_ld, am_sv, am_at, am_st, am_g, List.length_cons, List.length_nil, Nat.reduceAdd, Nat.reduceLT, Nat.zero_add, if_true, if_false, and_self, true_or, or_true, true_and, and_true, not_true_eq_false, not_false_eq_true, reduceCtorEq, eq_self, Option.toList_some, Option.toList_none, List.cons_append, List.nil_append, Bool.false_eq_true, h1, c2, i_10, hex2, e4, e6, hza, am_up_ne, am_up_at, am_up_up, hne, ne_eq, nI_pm]
          exact i1
  obtain ⟨G', l0, l1⟩ := first L.length g [] bl none (Nat.le_refl _) (fun i _ => rfl) (fun i hi => absurd hi (Nat.not_lt_zero _)) (fun x hx => by cases hx) hbl
  rw [List.take_length] at l0 l1
  rw [am_up_self h2, am_R_eq] at l0
  refine ⟨_, ?_, ?_, vs_ch.up2 h r a (vs_q n G') (vs_ro bl a (e_dg E now L.reverse bl []).length)⟩
  · rw [am_M_eq]
    simp only [am_R_eq, cx_30, en_30, rt_30, rx_aaload, rx_aastore, ev_w1, ev_KW, rx_aload, rx_aload_n, rx_astore, rx_astore_n, rx_dup_i, rx_dup_r, rx_getfield, ev_gf, rx_goto, rx_iadd, rx_iconst, rx_icmp_eq, rx_icmp_ge, rx_if_lt, rx_if_ne, rx_iinc, ev_inc, rx_iload, rx_iload_n, rx_invv, ev_cv, rx_ireturn, rx_istore, rx_istore_n, rx_isub, rx_putfield, ev_pf, am_fok, am_ftv, kl_31, ev_K, ev_pI, ev_pR, ev_pVi, ev_pVr, ev_sI, ev_sR, ev_KC, ev_k, ev_ko, ev_pop0, ev_pops, am_ld, am_sv, am_at, am_st, am_g, List.length_cons, List.length_nil, Nat.reduceAdd, Nat.reduceLT, Nat.zero_add, if_true, if_false, and_self, true_or, or_true, true_and, and_true, not_true_eq_false, not_false_eq_true, reduceCtorEq, eq_self, Option.toList_some, Option.toList_none, List.cons_append, List.nil_append, Bool.false_eq_true, h1]
    exact l0
  · refine vs_row.mk (g := G') (by rw [am_up_at]) (by rw [am_up_ne _ _ (Ne.symm hne), am_up_at]) l1 ?_ h5
    have := e_dg_len E now L.reverse bl []
    simp at this
    omega
end ROW5
end
section
section ROW6
variable {h : am_H} {r a bl n : Nat} {L : List Nat} {E : Nat → Nat → Int32}
theorem vs_ch.rf (h : am_H) (r a : Nat) : vs_ch h h r a := ⟨fun _ _ _ => rfl, rfl⟩
theorem vs_ch.tr {h1 h2 : am_H} (p : vs_ch h h1 r a) (q : vs_ch h1 h2 r a) : vs_ch h h2 r a := ⟨fun x e1 e2 => by rw [q.1 x e1 e2, p.1 x e1 e2], by rw [q.2, p.2]⟩
theorem vs_row.nex {x : Nat} {w : List Value} {c : Nat} (hr : vs_row h r a bl n L) (hx : h.1 x = some (.inr (c, w))) (hc : c ≠ 2) : x ≠ r ∧ x ≠ a := by
  obtain ⟨g, h1, h2, h3, h4, h5, hne⟩ := hr.g
  refine ⟨am_ne hx h1 ?_, am_ne hx h2 (by simp)⟩
  intro q
  exact hc (congrArg (fun e : am_E => match e with | .inr p => p.1 | .inl _ => c) q)
theorem vs_ch.obj {h' : am_H} {x : Nat} {w : List Value} {c : Nat} (hc : vs_ch h h' r a) (hr : vs_row h r a bl n L) (hx : h.1 x = some (.inr (c, w))) (hn : c ≠ 2) : h'.1 x = some (.inr (c, w)) := by
  obtain ⟨q1, q2⟩ := hr.nex hx hn
  rw [hc.1 x q1 q2]
  exact hx
theorem vs_ch.row {h' : am_H} {r2 a2 bl2 n2 : Nat} {L2 : List Nat} (hc : vs_ch h h' r a) (hr : vs_row h r a bl n L) (hr2 : vs_row h r2 a2 bl2 n2 L2) (n1 : r2 ≠ r) (n3 : a2 ≠ a) : vs_row h' r2 a2 bl2 n2 L2 := by
  obtain ⟨g, h1, h2, h3, h4, h5, hne⟩ := hr.g
  obtain ⟨g2, k1, k2, k3, k4, k5, kne⟩ := hr2.g
  refine hr2.fr (hc.1 r2 n1 (am_ne k1 h2 (by simp))) (hc.1 a2 (am_ne k2 h1 (by simp)) n3)
def e_ll (E : Nat → Nat → Int32) (s : Int32) (T : List Nat) (e : Nat) : List Nat := if e_live E s e = true then e_ins (e_cb E e) e T else T
theorem ro_listLive (z d : Nat) {s : Int32} {r2 a2 bl2 n2 : Nat} {T0 : List Nat} (hz : z ≤ r2) (hza : z ≤ a2) (hr : vs_row h r a bl n L) (hr2 : vs_row h r2 a2 bl2 n2 T0) (n1 : r ≠ r2) (n3 : a ≠ a2) (hL : ∀ x ∈ L, h.1 x = some (vs_e E x)) (hT : ∀ x ∈ T0, h.1 x = some (vs_e E x)) (hn : T0.length + L.countP (e_live E s) ≤ n2) :
    ∃ h', am_M z (d + 1 + 1 + 1) 50 [.ref r, .int s, .ref r2] h none h' ∧ vs_row h' r2 a2 bl2 n2 (L.foldl (e_ll E s) T0) ∧ vs_ch h h' r2 a2 := by
  have loop : ∀ m k T hh, m = L.length - k → k ≤ L.length → vs_ch h hh r2 a2 → vs_row hh r2 a2 bl2 n2 T → T.length + (L.drop k).countP (e_live E s) ≤ n2 → (∀ x ∈ T, h.1 x = some (vs_e E x)) → ∃ h', am_R z (d + 1 + 1) 50 2 [some (.ref r), some (.int s), some (.ref r2), some (.int (nI k))] [] hh none h' ∧ vs_row h' r2 a2 bl2 n2 ((L.drop k).foldl (e_ll E s) T) ∧ vs_ch h h' r2 a2 := by
    intro m
    induction m with
    | zero =>
      intro k T hh hm hk hc hrT hTn hTe
      have hrh := hc.row hr2 hr n1 n3
      obtain ⟨g, h1, h2, h3, h4, h5, hne⟩ := hrh.g
      have hkl : k = L.length := by omega
      subst hkl
      have e1 : nI L.length ≤ nI L.length := nI_le (Nat.le_refl _) (by omega)
      rw [List.drop_length, List.foldl_nil]
      refine ⟨hh, ?_, hrT, hc⟩
      rw [am_R_eq, cxh_50_2]
      simp only [am_R_eq, cx_50, en_50, rt_50, rx_aaload, rx_aload_n, rx_getfield, ev_gf, rx_goto, rx_iconst, rx_icmp_ge, rx_if_eq, rx_iinc, ev_inc, rx_iload_n, rx_invv, ev_cv, rx_istore_n, rx_return, kl_51, kl_52, ev_K, ev_pI, ev_pR, ev_pVi, ev_pVr, ev_sI, ev_sR, ev_KC, ev_k, ev_ko, ev_pop0, ev_pops, am_ld, am_sv, am_at, am_st, am_g, List.length_cons, List.length_nil, Nat.reduceAdd, Nat.reduceLT, Nat.zero_add, if_true, if_false, and_self, true_or, or_true, true_and, and_true, not_true_eq_false, not_false_eq_true, reduceCtorEq, eq_self, Option.toList_some, Option.toList_none, List.cons_append, List.nil_append, Bool.false_eq_true, h1, e1]
    | succ m ih =>
      intro k T hh hm hk hc hrT hTn hTe
      have hrh := hc.row hr2 hr n1 n3
      obtain ⟨g, h1, h2, h3, h4, h5, hne⟩ := hrh.g
      have hlt : k < L.length := by omega
      have e1 : ¬ nI L.length ≤ nI k := nI_ge hlt (by omega)
      have e5 : am_ix (nI k) n = some k := ev_ix (by omega) (by omega)
      obtain ⟨x, hx⟩ : ∃ x, L[k]? = some x := ⟨L[k]'(by omega), List.getElem?_eq_getElem (by omega)⟩
      have hd : L.drop k = x :: L.drop (k + 1) := by
        rw [List.drop_eq_getElem_cons hlt]
        congr 1
        exact (List.getElem?_eq_some_iff.mp hx).2
      have e7 := ev_rq 2 n k x g (nI k) (by omega) e5 (by rw [h3 k (by omega)]; exact hx)
      have hex := hc.obj hr2 (hL x (List.mem_of_getElem? hx)) (by decide)
      obtain ⟨g2, k1, k2, k3, k4, k5, kne⟩ := hrT.g
      rw [hd, List.countP_cons] at hTn
      rw [hd, List.foldl_cons]
      cases hb : e_live E s x with
      | true =>
        rw [hb, if_pos rfl] at hTn
        obtain ⟨h1', m1, m2, m3⟩ := ro_insertByCell z d hz hza hrT hex (fun y hy => hc.obj hr2 (hTe y hy) (by decide)) (by omega)
        obtain ⟨h', i1, i2, i3⟩ := ih (k + 1) (e_ins (e_cb E x) x T) h1' (by omega) (by omega) (hc.tr m3) m2 (by rw [e_ins_len]; omega) (by
          intro y hy
          rcases (e_ins_mem _ _ _ _).mp hy with q | q
          · rw [q]; exact hL x (List.mem_of_getElem? hx)
          · exact hTe y q)
        rw [am_R_eq] at i1
        rw [show e_ll E s T x = e_ins (e_cb E x) x T by simp [e_ll, hb]]
        refine ⟨h', ?_, i2, i3⟩
        rw [am_R_eq, cxh_50_2]
        simp only [am_R_eq, cx_50, en_50, rt_50, rx_aaload, rx_aload_n, rx_getfield, ev_gf, rx_goto, rx_iconst, rx_icmp_ge, rx_if_eq, rx_iinc, ev_inc, rx_iload_n, rx_invv, ev_cv, rx_istore_n, rx_return, kl_51, kl_52, ev_K, ev_pI, ev_pR, ev_pVi, ev_pVr, ev_sI, ev_sR, ev_KC, ev_k, ev_ko, ev_pop0, ev_pops, am_ld, am_sv, am_at, am_st, am_g, List.length_cons, List.length_nil, Nat.reduceAdd, Nat.reduceLT, Nat.zero_add, if_true, if_false, and_self, true_or, or_true, true_and, and_true, not_true_eq_false, not_false_eq_true, reduceCtorEq, eq_self, Option.toList_some, Option.toList_none, List.cons_append, List.nil_append, Bool.false_eq_true, h1, h2, e1, e7, hex]
        refine am_CL_of (en_isLiveIn z (d + 1) hex) ?_
        simp only [am_R_eq, cx_50, en_50, rt_50, rx_aaload, rx_aload_n, rx_getfield, ev_gf, rx_goto, rx_iconst, rx_icmp_ge, rx_if_eq, rx_iinc, ev_inc, rx_iload_n, rx_invv, ev_cv, rx_istore_n, rx_return, kl_51, kl_52, ev_K, ev_pI, ev_pR, ev_pVi, ev_pVr, ev_sI, ev_sR, ev_KC, ev_k, ev_ko, ev_pop0, ev_pops, am_ld, am_sv, am_at, am_st, am_g, List.length_cons, List.length_nil, Nat.reduceAdd, Nat.reduceLT, Nat.zero_add, if_true, if_false, and_self, true_or, or_true, true_and, and_true, not_true_eq_false, not_false_eq_true, reduceCtorEq, eq_self, Option.toList_some, Option.toList_none, List.cons_append, List.nil_append, Bool.false_eq_true, h1, h2, e7, hb, i_10, k1]
        refine am_CL_of m1 ?_
        simp only [am_R_eq, cx_50, en_50, rt_50, rx_aaload, rx_aload_n, rx_getfield, ev_gf, rx_goto, rx_iconst, rx_icmp_ge, rx_if_eq, rx_iinc, ev_inc, rx_iload_n, rx_invv, ev_cv, rx_istore_n, rx_return, kl_51, kl_52, ev_K, ev_pI, ev_pR, ev_pVi, ev_pVr, ev_sI, ev_sR, ev_KC, ev_k, ev_ko, ev_pop0, ev_pops, am_ld, am_sv, am_at, am_st, am_g, List.length_cons, List.length_nil, Nat.reduceAdd, Nat.reduceLT, Nat.zero_add, if_true, if_false, and_self, true_or, or_true, true_and, and_true, not_true_eq_false, not_false_eq_true, reduceCtorEq, eq_self, Option.toList_some, Option.toList_none, List.cons_append, List.nil_append, Bool.false_eq_true, nI_ofs]
        exact i1
      | false =>
        rw [hb, if_neg (by decide)] at hTn
        obtain ⟨h', i1, i2, i3⟩ := ih (k + 1) T hh (by omega) (by omega) hc hrT (by omega) hTe
        rw [am_R_eq] at i1
        rw [show e_ll E s T x = T by simp [e_ll, hb]]
        refine ⟨h', ?_, i2, i3⟩
        rw [am_R_eq, cxh_50_2]
        simp only [am_R_eq, cx_50, en_50, rt_50, rx_aaload, rx_aload_n, rx_getfield, ev_gf, rx_goto, rx_iconst, rx_icmp_ge, rx_if_eq, rx_iinc, ev_inc, rx_iload_n, rx_invv, ev_cv, rx_istore_n, rx_return, kl_51, kl_52, ev_K, ev_pI, ev_pR, ev_pVi, ev_pVr, ev_sI, ev_sR, ev_KC, ev_k, ev_ko, ev_pop0, ev_pops, am_ld, am_sv, am_at, am_st, am_g, List.length_cons, List.length_nil, Nat.reduceAdd, Nat.reduceLT, Nat.zero_add, if_true, if_false, and_self, true_or, or_true, true_and, and_true, not_true_eq_false, not_false_eq_true, reduceCtorEq, eq_self, Option.toList_some, Option.toList_none, List.cons_append, List.nil_append, Bool.false_eq_true, h1, h2, e1, e7, hex]
        refine am_CL_of (en_isLiveIn z (d + 1) hex) ?_
        simp only [am_R_eq, cx_50, en_50, rt_50, rx_aaload, rx_aload_n, rx_getfield, ev_gf, rx_goto, rx_iconst, rx_icmp_ge, rx_if_eq, rx_iinc, ev_inc, rx_iload_n, rx_invv, ev_cv, rx_istore_n, rx_return, kl_51, kl_52, ev_K, ev_pI, ev_pR, ev_pVi, ev_pVr, ev_sI, ev_sR, ev_KC, ev_k, ev_ko, ev_pop0, ev_pops, am_ld, am_sv, am_at, am_st, am_g, List.length_cons, List.length_nil, Nat.reduceAdd, Nat.reduceLT, Nat.zero_add, if_true, if_false, and_self, true_or, or_true, true_and, and_true, not_true_eq_false, not_false_eq_true, reduceCtorEq, eq_self, Option.toList_some, Option.toList_none, List.cons_append, List.nil_append, Bool.false_eq_true, hb, nI_ofs]
        exact i1
  obtain ⟨h', l0, l1, l2⟩ := loop L.length 0 T0 h (by omega) (Nat.zero_le _) (vs_ch.rf ..) hr2 (by rw [List.drop_zero]; exact hn) hT
  rw [am_R_eq] at l0
  rw [List.drop_zero] at l1
  refine ⟨h', ?_, l1, l2⟩
  rw [am_M_eq]
  simp only [am_R_eq, cx_50, en_50, rt_50, rx_aaload, rx_aload_n, rx_getfield, ev_gf, rx_goto, rx_iconst, rx_icmp_ge, rx_if_eq, rx_iinc, ev_inc, rx_iload_n, rx_invv, ev_cv, rx_istore_n, rx_return, kl_51, kl_52, ev_K, ev_pI, ev_pR, ev_pVi, ev_pVr, ev_sI, ev_sR, ev_KC, ev_k, ev_ko, ev_pop0, ev_pops, am_ld, am_sv, am_at, am_st, am_g, List.length_cons, List.length_nil, Nat.reduceAdd, Nat.reduceLT, Nat.zero_add, if_true, if_false, and_self, true_or, or_true, true_and, and_true, not_true_eq_false, not_false_eq_true, reduceCtorEq, eq_self, Option.toList_some, Option.toList_none, List.cons_append, List.nil_append, Bool.false_eq_true]
  exact l0
theorem nI_mx0 {k : Nat} (hk : k < 2 ^ 31) : (if (0 : Int32) < nI k then nI k else 0) = nI k := by
  by_cases hk0 : k = 0
  · subst hk0; decide
  · rw [if_pos (show (0 : Int32) < nI k from nI_lt (a := 0) (b := k) (by omega) hk)]
theorem ro_shorten (z d : Nat) {k : Nat} (hz : z ≤ r) (hr : vs_row h r a bl n L) (hk : k ≤ L.length) : ∃ h', am_M z (d + 1) 67 [.ref r, .int (nI k)] h none h' ∧ vs_row h' r a bl n (L.take (L.length - k)) ∧ vs_ch h h' r a := by
  obtain ⟨g, h1, h2, h3, h4, h5, hne⟩ := hr.g
  refine ⟨am_up h r (vs_ro bl a (L.length - k)), ?_, ?_, ⟨fun q q1 _ => am_up_ne _ _ q1, rfl⟩⟩
  · have e1 := nI_mx0 (k := k) (by omega)
    have e2 : nI L.length - nI k = nI (L.length - k) := pk_sub hk
    have e3 := nI_mx0 (k := L.length - k) (by omega)
    rw [am_M_eq]
    simp only [am_R_eq, cx_67, en_67, rt_67, rx_aload_n, rx_getfield, ev_gf, rx_iconst, rx_iload_n, rx_invs, rx_max2, rx_min2, rx_copy2, rx_isub, rx_putfield, ev_pf, ev_w1, ev_KW, am_fok, am_ftv, rx_return, ev_K, ev_pI, ev_pR, ev_pVi, ev_pVr, ev_sI, ev_sR, ev_KC, ev_k, ev_ko, ev_pop0, ev_pops, am_ld, am_sv, am_at, am_st, am_g, List.length_cons, List.length_nil, Nat.reduceAdd, Nat.reduceLT, Nat.zero_add, if_true, if_false, and_self, true_or, or_true, true_and, and_true, not_true_eq_false, not_false_eq_true, reduceCtorEq, eq_self, Option.toList_some, Option.toList_none, List.cons_append, List.nil_append, Bool.false_eq_true, h1, e1, e2, e3, hz, Nat.reduceLeDiff, beq_self_eq_true]
  · have hl : (L.take (L.length - k)).length = L.length - k := by rw [List.length_take]; omega
    refine vs_row.mk (g := g) (by rw [am_up_at, hl]) (by rw [am_up_ne _ _ (Ne.symm hne)]; exact h2) ?_ (by omega) h5
    intro i hi
    rw [hl] at hi
    rw [List.getElem?_take_of_lt hi]
    exact h3 i (by omega)
theorem ro_clear' (z d : Nat) (hz : z ≤ r) (hr : vs_row h r a bl n L) : ∃ h', am_M z (d + 1) 22 [.ref r] h none h' ∧ vs_row h' r a bl n [] ∧ vs_ch h h' r a := by
  obtain ⟨g, h1, h2, h3, h4, h5, hne⟩ := hr.g
  obtain ⟨h', m1, rfl⟩ := ro_clear z d hz hr
  refine ⟨_, m1, vs_row.mk (g := g) (by rw [am_up_at]; rfl) (by rw [am_up_ne _ _ (Ne.symm hne)]; exact h2) (fun k hk => absurd hk (Nat.not_lt_zero _)) (Nat.zero_le _) h5, ⟨fun q q1 _ => am_up_ne _ _ q1, rfl⟩⟩
end ROW6
end
section
section TAB
variable {h : am_H} {t r a bl n : Nat} {L : List Nat} {E : Nat → Nat → Int32} {F : Int32}
theorem i_32 : ¬ (32 : Int32) = 0 := by decide
def e_bits (k : Int32) : Int32 := (1 <<< ((5 * k + 1 - (5 * k + 1) / 32 * 32) &&& 31)) ||| (1 <<< ((11 * k + 7 - (11 * k + 7) / 32 * 32) &&& 31))
theorem ta_bitsOf (z d : Nat) (k : Int32) : am_M z (d + 1) 34 [.int k] h (some (.int (e_bits k))) h := by
  rw [am_M_eq]
  simp only [am_R_eq, cx_34, en_34, rt_34, rx_bipush, rx_iadd, rx_iconst, rx_iload_n, rx_imul, rx_ior, rx_irem, rx_ireturn, rx_ishl, ev_K, ev_pI, ev_pR, ev_pVi, ev_pVr, ev_sI, ev_sR, ev_KC, ev_k, ev_ko, ev_pop0, ev_pops, am_ld, am_sv, am_at, am_st, am_g, List.length_cons, List.length_nil, Nat.reduceAdd, Nat.reduceLT, Nat.zero_add, if_true, if_false, and_self, true_or, or_true, true_and, and_true, not_true_eq_false, not_false_eq_true, reduceCtorEq, eq_self, Option.toList_some, Option.toList_none, List.cons_append, List.nil_append, Bool.false_eq_true, i_32, e_bits]
abbrev vs_tb (r : Nat) (F : Int32) : am_E := .inr (3, [.ref r, .int F])
def vs_ch3 (h h' : am_H) (t r a : Nat) : Prop := (∀ q, q ≠ t → q ≠ r → q ≠ a → h'.1 q = h.1 q) ∧ h'.2 = h.2
theorem vs_ch3.rf (h : am_H) (t r a : Nat) : vs_ch3 h h t r a := ⟨fun _ _ _ _ => rfl, rfl⟩
theorem vs_ch3.tr {h1 h2 : am_H} (p : vs_ch3 h h1 t r a) (q : vs_ch3 h1 h2 t r a) : vs_ch3 h h2 t r a := ⟨fun x e1 e2 e3 => by rw [q.1 x e1 e2 e3, p.1 x e1 e2 e3], by rw [q.2, p.2]⟩
theorem vs_ch.to3 {h' : am_H} (p : vs_ch h h' r a) : vs_ch3 h h' t r a := ⟨fun x _ e2 e3 => p.1 x e2 e3, p.2⟩
theorem vs_ch3.up (h : am_H) (t r a : Nat) (x : am_E) : vs_ch3 h (am_up h t x) t r a := ⟨fun q e1 _ _ => am_up_ne _ _ e1, rfl⟩
theorem vs_row.up {x : Nat} {w : List Value} {c : Nat} (e : am_E) (hr : vs_row h r a bl n L) (hx : h.1 x = some (.inr (c, w))) (hc : c ≠ 2) : vs_row (am_up h x e) r a bl n L := by
  obtain ⟨q1, q2⟩ := hr.nex hx hc
  exact hr.fr (am_up_ne _ _ q1.symm) (am_up_ne _ _ q2.symm)
def e_ff (E : Nat → Nat → Int32) (F : Int32) (e : Nat) : Int32 := F ||| e_bits (E e 0)
theorem ta_fillFrom (z d : Nat) {rs as_ bls ns p : Nat} {Ls : List Nat} {u : Nat} (hzt : z ≤ t) (hz : z ≤ r) (hza : z ≤ a) (ht : h.1 t = some (vs_tb r F)) (hr : vs_row h r a bl n L) (hrs : vs_row h rs as_ bls ns Ls) (n1 : rs ≠ r) (n3 : as_ ≠ a) (hL : ∀ x ∈ Ls, h.1 x = some (vs_e E x)) (hp : p ≤ u) (hu : u ≤ Ls.length) (hn : u - p ≤ n) :
    ∃ h', am_M z (d + 1 + 1) 33 [.ref t, .ref rs, .int (nI p), .int (nI u)] h none h' ∧ vs_row h' r a bl n ((Ls.take u).drop p) ∧ h'.1 t = some (vs_tb r (((Ls.take u).drop p).foldl (e_ff E) 0)) ∧ vs_ch3 h h' t r a := by
  obtain ⟨gs, s1, s2, s3, s4, s5, sne⟩ := hrs.g
  have hdl : ((Ls.take u).drop p).length = u - p := by rw [List.length_drop, List.length_take]; omega
  have obj : ∀ {hh : am_H} {x c : Nat} {w : List Value}, vs_ch3 h hh t r a → h.1 x = some (.inr (c, w)) → c ≠ 2 → c ≠ 3 → hh.1 x = some (.inr (c, w)) := by
    intro hh x c w hc hx c2 c3
    obtain ⟨q1, q2⟩ := hr.nex hx c2
    have q3 : x ≠ t := am_ne hx ht (by intro q; exact c3 (congrArg (fun e : am_E => match e with | .inr p => p.1 | .inl _ => c) q))
    rw [hc.1 x q3 q1 q2]
    exact hx
  have src : ∀ {hh : am_H}, vs_ch3 h hh t r a → vs_row hh rs as_ bls ns Ls := by
    intro hh hc
    obtain ⟨g, h1, h2, h3, h4, h5, hne⟩ := hr.g
    exact hrs.fr (hc.1 rs (am_ne s1 ht (by simp)) n1 (am_ne s1 h2 (by simp))) (hc.1 as_ (am_ne s2 ht (by simp)) (am_ne s2 h1 (by simp)) n3)
  have loop : ∀ m i T F2 hh, m = u - i → p ≤ i → i ≤ u → vs_ch3 h hh t r a → vs_row hh r a bl n T → hh.1 t = some (vs_tb r F2) → T.length + (u - i) ≤ n →
      ∃ h', am_R z (d + 1) 33 15 [some (.ref t), some (.ref rs), some (.int (nI p)), some (.int (nI u)), some (.int (nI i))] [] hh none h' ∧ vs_row h' r a bl n (T ++ (Ls.take u).drop i) ∧ h'.1 t = some (vs_tb r (((Ls.take u).drop i).foldl (e_ff E) F2)) ∧ vs_ch3 h h' t r a := by
    intro m
    induction m with
    | zero =>
      intro i T F2 hh hm hi hiu hc hrT htT hTn
      have hil : i = u := by omega
      subst hil
      have e1 : nI i ≤ nI i := nI_le (Nat.le_refl _) (by omega)
      have hdr : (Ls.take i).drop i = [] := by rw [List.drop_eq_nil_iff, List.length_take]; omega
      rw [hdr, List.append_nil]
      refine ⟨hh, ?_, hrT, htT, hc⟩
      rw [am_R_eq, cxh_33_15]
      simp only [am_R_eq, cx_33, en_33, rt_33, rx_aload_n, rx_dup_i, rx_dup_r, rx_getfield, ev_gf, rx_goto, rx_iconst, rx_icmp_ge, rx_iinc, ev_inc, rx_iload, rx_iload_n, rx_invs, rx_max2, rx_min2, rx_copy2, rx_invv, ev_cv, rx_ior, rx_istore, rx_putfield, ev_pf, ev_w1, ev_KW, am_fok, am_ftv, rx_return, kl_13, kl_22, kl_24, kl_34, ev_K, ev_pI, ev_pR, ev_pVi, ev_pVr, ev_sI, ev_sR, ev_KC, ev_k, ev_ko, ev_pop0, ev_pops, am_ld, am_sv, am_at, am_st, am_g, List.length_cons, List.length_nil, Nat.reduceAdd, Nat.reduceLT, Nat.zero_add, if_true, if_false, and_self, true_or, or_true, true_and, and_true, not_true_eq_false, not_false_eq_true, reduceCtorEq, eq_self, Option.toList_some, Option.toList_none, List.cons_append, List.nil_append, Bool.false_eq_true, e1]
    | succ m ih =>
      intro i T F2 hh hm hi hiu hc hrT htT hTn
      have hlt : i < u := by omega
      have e1 : ¬ nI u ≤ nI i := nI_ge hlt (by omega)
      obtain ⟨x, hx⟩ : ∃ x, Ls[i]? = some x := ⟨Ls[i]'(by omega), List.getElem?_eq_getElem (by omega)⟩
      have hd : (Ls.take u).drop i = x :: (Ls.take u).drop (i + 1) := by
        rw [List.drop_eq_getElem_cons (by rw [List.length_take]; omega)]
        congr 1
        rw [List.getElem_take]
        exact (List.getElem?_eq_some_iff.mp hx).2
      have hex0 := hL x (List.mem_of_getElem? hx)
      have hex := obj hc hex0 (by decide) (by decide)
      obtain ⟨h1', m1, m2, m3⟩ := ro_append z d hz hza hrT (ko_of hex) (by omega)
      have hc1 : vs_ch3 h h1' t r a := hc.tr m3.to3
      have hex1 := obj hc1 hex0 (by decide) (by decide)
      have ht1 : h1'.1 t = some (vs_tb r F2) := m3.obj hrT htT (by decide)
      have q1 := ro_at z d (src hc) hx
      have q2 := ro_at z d (src hc1) hx
      have q3 := ta_bitsOf (h := h1') z d (E x 0)
      have hc2 : vs_ch3 h (am_up h1' t (vs_tb r (F2 ||| e_bits (E x 0)))) t r a := hc1.tr (vs_ch3.up ..)
      obtain ⟨h', i1, i2, i3, i4⟩ := ih (i + 1) (T ++ [x]) (F2 ||| e_bits (E x 0)) _ (by omega) (by omega) (by omega) hc2 (m2.up _ ht1 (by decide)) (am_up_at _ _ _) (by rw [List.length_append]; simp; omega)
      rw [List.append_assoc] at i2
      rw [am_R_eq] at i1
      rw [hd]
      refine ⟨h', ?_, i2, i3, i4⟩
      obtain ⟨g0, k1, k2, k3, k4, k5, kne⟩ := hrT.g
      obtain ⟨g1, l1, l2, l3, l4, l5, lne⟩ := (src hc).g
      obtain ⟨g2, p1, p2, p3, p4, p5, pne⟩ := (src hc1).g
      rw [am_R_eq, cxh_33_15]
      simp only [am_R_eq, cx_33, en_33, rt_33, rx_aload_n, rx_dup_i, rx_dup_r, rx_getfield, ev_gf, rx_goto, rx_iconst, rx_icmp_ge, rx_iinc, ev_inc, rx_iload, rx_iload_n, rx_invs, rx_max2, rx_min2, rx_copy2, rx_invv, ev_cv, rx_ior, rx_istore, rx_putfield, ev_pf, ev_w1, ev_KW, am_fok, am_ftv, rx_return, kl_13, kl_22, kl_24, kl_34, ev_K, ev_pI, ev_pR, ev_pVi, ev_pVr, ev_sI, ev_sR, ev_KC, ev_k, ev_ko, ev_pop0, ev_pops, am_ld, am_sv, am_at, am_st, am_g, List.length_cons, List.length_nil, Nat.reduceAdd, Nat.reduceLT, Nat.zero_add, if_true, if_false, and_self, true_or, or_true, true_and, and_true, not_true_eq_false, not_false_eq_true, reduceCtorEq, eq_self, Option.toList_some, Option.toList_none, List.cons_append, List.nil_append, Bool.false_eq_true, e1, htT, l1]
      refine am_CL_of q1 ?_
      simp only [am_R_eq, cx_33, en_33, rt_33, rx_aload_n, rx_dup_i, rx_dup_r, rx_getfield, ev_gf, rx_goto, rx_iconst, rx_icmp_ge, rx_iinc, ev_inc, rx_iload, rx_iload_n, rx_invs, rx_max2, rx_min2, rx_copy2, rx_invv, ev_cv, rx_ior, rx_istore, rx_putfield, ev_pf, ev_w1, ev_KW, am_fok, am_ftv, rx_return, kl_13, kl_22, kl_24, kl_34, ev_K, ev_pI, ev_pR, ev_pVi, ev_pVr, ev_sI, ev_sR, ev_KC, ev_k, ev_ko, ev_pop0, ev_pops, am_ld, am_sv, am_at, am_st, am_g, List.length_cons, List.length_nil, Nat.reduceAdd, Nat.reduceLT, Nat.zero_add, if_true, if_false, and_self, true_or, or_true, true_and, and_true, not_true_eq_false, not_false_eq_true, reduceCtorEq, eq_self, Option.toList_some, Option.toList_none, List.cons_append, List.nil_append, Bool.false_eq_true, k1]
      refine am_CL_of m1 ?_
      simp only [am_R_eq, cx_33, en_33, rt_33, rx_aload_n, rx_dup_i, rx_dup_r, rx_getfield, ev_gf, rx_goto, rx_iconst, rx_icmp_ge, rx_iinc, ev_inc, rx_iload, rx_iload_n, rx_invs, rx_max2, rx_min2, rx_copy2, rx_invv, ev_cv, rx_ior, rx_istore, rx_putfield, ev_pf, ev_w1, ev_KW, am_fok, am_ftv, rx_return, kl_13, kl_22, kl_24, kl_34, ev_K, ev_pI, ev_pR, ev_pVi, ev_pVr, ev_sI, ev_sR, ev_KC, ev_k, ev_ko, ev_pop0, ev_pops, am_ld, am_sv, am_at, am_st, am_g, List.length_cons, List.length_nil, Nat.reduceAdd, Nat.reduceLT, Nat.zero_add, if_true, if_false, and_self, true_or, or_true, true_and, and_true, not_true_eq_false, not_false_eq_true, reduceCtorEq, eq_self, Option.toList_some, Option.toList_none, List.cons_append, List.nil_append, Bool.false_eq_true, ht1, p1]
      refine am_CL_of q2 ?_
      simp only [am_R_eq, cx_33, en_33, rt_33, rx_aload_n, rx_dup_i, rx_dup_r, rx_getfield, ev_gf, rx_goto, rx_iconst, rx_icmp_ge, rx_iinc, ev_inc, rx_iload, rx_iload_n, rx_invs, rx_max2, rx_min2, rx_copy2, rx_invv, ev_cv, rx_ior, rx_istore, rx_putfield, ev_pf, ev_w1, ev_KW, am_fok, am_ftv, rx_return, kl_13, kl_22, kl_24, kl_34, ev_K, ev_pI, ev_pR, ev_pVi, ev_pVr, ev_sI, ev_sR, ev_KC, ev_k, ev_ko, ev_pop0, ev_pops, am_ld, am_sv, am_at, am_st, am_g, List.length_cons, List.length_nil, Nat.reduceAdd, Nat.reduceLT, Nat.zero_add, if_true, if_false, and_self, true_or, or_true, true_and, and_true, not_true_eq_false, not_false_eq_true, reduceCtorEq, eq_self, Option.toList_some, Option.toList_none, List.cons_append, List.nil_append, Bool.false_eq_true, hex1]
      refine am_CL_of q3 ?_
      simp only [am_R_eq, cx_33, en_33, rt_33, rx_aload_n, rx_dup_i, rx_dup_r, rx_getfield, ev_gf, rx_goto, rx_iconst, rx_icmp_ge, rx_iinc, ev_inc, rx_iload, rx_iload_n, rx_invs, rx_max2, rx_min2, rx_copy2, rx_invv, ev_cv, rx_ior, rx_istore, rx_putfield, ev_pf, ev_w1, ev_KW, am_fok, am_ftv, rx_return, kl_13, kl_22, kl_24, kl_34, ev_K, ev_pI, ev_pR, ev_pVi, ev_pVr, ev_sI, ev_sR, ev_KC, ev_k, ev_ko, ev_pop0, ev_pops, am_ld, am_sv, am_at, am_st, am_g, List.length_cons, List.length_nil, Nat.reduceAdd, Nat.reduceLT, Nat.zero_add, if_true, if_false, and_self, true_or, or_true, true_and, and_true, not_true_eq_false, not_false_eq_true, reduceCtorEq, eq_self, Option.toList_some, Option.toList_none, List.cons_append, List.nil_append, Bool.false_eq_true, ht1, hzt, nI_ofs, Nat.reduceLeDiff, beq_self_eq_true]
      exact i1
  obtain ⟨h1', c1, c2, c3⟩ := ro_clear' z d hz hr
  have ht1 : h1'.1 t = some (vs_tb r F) := c3.obj hr ht (by decide)
  have hc1 : vs_ch3 h (am_up h1' t (vs_tb r 0)) t r a := (vs_ch.to3 c3).tr (vs_ch3.up ..)
  obtain ⟨h', l0, l1, l2, l3⟩ := loop (u - p) p [] 0 (am_up h1' t (vs_tb r 0)) rfl (Nat.le_refl _) hp hc1 (c2.up _ ht1 (by decide)) (am_up_at _ _ _) (by simp only [List.length_nil]; omega)
  rw [List.nil_append] at l1
  rw [am_R_eq] at l0
  refine ⟨h', ?_, l1, l2, l3⟩
  obtain ⟨g0, k1, k2, k3, k4, k5, kne⟩ := hr.g
  rw [am_M_eq]
  simp only [am_R_eq, cx_33, en_33, rt_33, rx_aload_n, rx_dup_i, rx_dup_r, rx_getfield, ev_gf, rx_goto, rx_iconst, rx_icmp_ge, rx_iinc, ev_inc, rx_iload, rx_iload_n, rx_invs, rx_max2, rx_min2, rx_copy2, rx_invv, ev_cv, rx_ior, rx_istore, rx_putfield, ev_pf, ev_w1, ev_KW, am_fok, am_ftv, rx_return, kl_13, kl_22, kl_24, kl_34, ev_K, ev_pI, ev_pR, ev_pVi, ev_pVr, ev_sI, ev_sR, ev_KC, ev_k, ev_ko, ev_pop0, ev_pops, am_ld, am_sv, am_at, am_st, am_g, List.length_cons, List.length_nil, Nat.reduceAdd, Nat.reduceLT, Nat.zero_add, if_true, if_false, and_self, true_or, or_true, true_and, and_true, not_true_eq_false, not_false_eq_true, reduceCtorEq, eq_self, Option.toList_some, Option.toList_none, List.cons_append, List.nil_append, Bool.false_eq_true, ht, k1]
  refine am_CL_of c1 ?_
  simp only [am_R_eq, cx_33, en_33, rt_33, rx_aload_n, rx_dup_i, rx_dup_r, rx_getfield, ev_gf, rx_goto, rx_iconst, rx_icmp_ge, rx_iinc, ev_inc, rx_iload, rx_iload_n, rx_invs, rx_max2, rx_min2, rx_copy2, rx_invv, ev_cv, rx_ior, rx_istore, rx_putfield, ev_pf, ev_w1, ev_KW, am_fok, am_ftv, rx_return, kl_13, kl_22, kl_24, kl_34, ev_K, ev_pI, ev_pR, ev_pVi, ev_pVr, ev_sI, ev_sR, ev_KC, ev_k, ev_ko, ev_pop0, ev_pops, am_ld, am_sv, am_at, am_st, am_g, List.length_cons, List.length_nil, Nat.reduceAdd, Nat.reduceLT, Nat.zero_add, if_true, if_false, and_self, true_or, or_true, true_and, and_true, not_true_eq_false, not_false_eq_true, reduceCtorEq, eq_self, Option.toList_some, Option.toList_none, List.cons_append, List.nil_append, Bool.false_eq_true, ht1, hzt, Nat.reduceLeDiff, beq_self_eq_true]
  exact l0
theorem ta_firstKey (z d : Nat) {x : Nat} (ht : h.1 t = some (vs_tb r F)) (hr : vs_row h r a bl n L) (hx : L[0]? = some x) (he : h.1 x = some (vs_e E x)) : am_M z (d + 1 + 1) 78 [.ref t] h (some (.int (E x 0))) h := by
  obtain ⟨g0, k1, k2, k3, k4, k5, kne⟩ := hr.g
  have q1 := ro_at z d hr hx
  rw [am_M_eq]
  simp only [am_R_eq, cx_78, en_78, rt_78, rx_aload_n, rx_getfield, ev_gf, rx_iconst, rx_invv, ev_cv, rx_ireturn, kl_24, ev_K, ev_pI, ev_pR, ev_pVi, ev_pVr, ev_sI, ev_sR, ev_KC, ev_k, ev_ko, ev_pop0, ev_pops, am_ld, am_sv, am_at, am_st, am_g, List.length_cons, List.length_nil, Nat.reduceAdd, Nat.reduceLT, Nat.zero_add, if_true, if_false, and_self, true_or, or_true, true_and, and_true, not_true_eq_false, not_false_eq_true, reduceCtorEq, eq_self, Option.toList_some, Option.toList_none, List.cons_append, List.nil_append, Bool.false_eq_true, ht, k1]
  refine am_CL_of q1 ?_
  simp only [am_R_eq, cx_78, en_78, rt_78, rx_aload_n, rx_getfield, ev_gf, rx_iconst, rx_invv, ev_cv, rx_ireturn, kl_24, ev_K, ev_pI, ev_pR, ev_pVi, ev_pVr, ev_sI, ev_sR, ev_KC, ev_k, ev_ko, ev_pop0, ev_pops, am_ld, am_sv, am_at, am_st, am_g, List.length_cons, List.length_nil, Nat.reduceAdd, Nat.reduceLT, Nat.zero_add, if_true, if_false, and_self, true_or, or_true, true_and, and_true, not_true_eq_false, not_false_eq_true, reduceCtorEq, eq_self, Option.toList_some, Option.toList_none, List.cons_append, List.nil_append, Bool.false_eq_true, he]
theorem ta_lastKey (z d : Nat) {x : Nat} (ht : h.1 t = some (vs_tb r F)) (hr : vs_row h r a bl n L) (hx : L[L.length - 1]? = some x) (he : h.1 x = some (vs_e E x)) : am_M z (d + 1 + 1) 79 [.ref t] h (some (.int (E x 0))) h := by
  obtain ⟨g0, k1, k2, k3, k4, k5, kne⟩ := hr.g
  have hl : 0 < L.length := by
    have := (List.getElem?_eq_some_iff.mp hx).1
    omega
  have q1 := ro_at z d hr hx
  have q2 := ro_size z d hr
  have e1 : nI L.length - 1 = nI (L.length - 1) := by
    rw [show L.length = (L.length - 1) + 1 by omega, nI_pred]
    congr 1
  rw [am_M_eq]
  simp only [am_R_eq, cx_79, en_79, rt_79, rx_aload_n, rx_getfield, ev_gf, rx_iconst, rx_invv, ev_cv, rx_ireturn, rx_isub, kl_12, kl_24, ev_K, ev_pI, ev_pR, ev_pVi, ev_pVr, ev_sI, ev_sR, ev_KC, ev_k, ev_ko, ev_pop0, ev_pops, am_ld, am_sv, am_at, am_st, am_g, List.length_cons, List.length_nil, Nat.reduceAdd, Nat.reduceLT, Nat.zero_add, if_true, if_false, and_self, true_or, or_true, true_and, and_true, not_true_eq_false, not_false_eq_true, reduceCtorEq, eq_self, Option.toList_some, Option.toList_none, List.cons_append, List.nil_append, Bool.false_eq_true, ht, k1]
  refine am_CL_of q2 ?_
  simp only [am_R_eq, cx_79, en_79, rt_79, rx_aload_n, rx_getfield, ev_gf, rx_iconst, rx_invv, ev_cv, rx_ireturn, rx_isub, kl_12, kl_24, ev_K, ev_pI, ev_pR, ev_pVi, ev_pVr, ev_sI, ev_sR, ev_KC, ev_k, ev_ko, ev_pop0, ev_pops, am_ld, am_sv, am_at, am_st, am_g, List.length_cons, List.length_nil, Nat.reduceAdd, Nat.reduceLT, Nat.zero_add, if_true, if_false, and_self, true_or, or_true, true_and, and_true, not_true_eq_false, not_false_eq_true, reduceCtorEq, eq_self, Option.toList_some, Option.toList_none, List.cons_append, List.nil_append, Bool.false_eq_true, e1, k1]
  refine am_CL_of q1 ?_
  simp only [am_R_eq, cx_79, en_79, rt_79, rx_aload_n, rx_getfield, ev_gf, rx_iconst, rx_invv, ev_cv, rx_ireturn, rx_isub, kl_12, kl_24, ev_K, ev_pI, ev_pR, ev_pVi, ev_pVr, ev_sI, ev_sR, ev_KC, ev_k, ev_ko, ev_pop0, ev_pops, am_ld, am_sv, am_at, am_st, am_g, List.length_cons, List.length_nil, Nat.reduceAdd, Nat.reduceLT, Nat.zero_add, if_true, if_false, and_self, true_or, or_true, true_and, and_true, not_true_eq_false, not_false_eq_true, reduceCtorEq, eq_self, Option.toList_some, Option.toList_none, List.cons_append, List.nil_append, Bool.false_eq_true, he]
def e_may (E : Nat → Nat → Int32) (F : Int32) (x y : Nat) (key : Int32) : Bool := !decide (key < E x 0) && !decide (E y 0 < key) && decide (F &&& e_bits key = e_bits key)
theorem ta_mayHold (z d : Nat) {x y : Nat} {key : Int32} (ht : h.1 t = some (vs_tb r F)) (hr : vs_row h r a bl n L) (hx : L[0]? = some x) (hy : L[L.length - 1]? = some y) (he : h.1 x = some (vs_e E x)) (hf : h.1 y = some (vs_e E y)) : am_M z (d + 1 + 1 + 1) 77 [.ref t, .int key] h (some (.int (if e_may E F x y key = true then 1 else 0))) h := by
  have q1 := ta_bitsOf (h := h) z (d + 1) key
  have q2 := ta_firstKey z d ht hr hx he
  have q3 := ta_lastKey z d ht hr hy hf
  rw [am_M_eq]
  simp only [am_R_eq, cx_77, en_77, rt_77, rx_aload_n, rx_getfield, ev_gf, rx_goto, rx_iand, rx_iconst, rx_icmp_gt, rx_icmp_lt, rx_icmp_ne, rx_iload_n, rx_invs, rx_max2, rx_min2, rx_copy2, rx_invv, ev_cv, rx_ireturn, rx_istore_n, kl_34, kl_78, kl_79, ev_K, ev_pI, ev_pR, ev_pVi, ev_pVr, ev_sI, ev_sR, ev_KC, ev_k, ev_ko, ev_pop0, ev_pops, am_ld, am_sv, am_at, am_st, am_g, List.length_cons, List.length_nil, Nat.reduceAdd, Nat.reduceLT, Nat.zero_add, if_true, if_false, and_self, true_or, or_true, true_and, and_true, not_true_eq_false, not_false_eq_true, reduceCtorEq, eq_self, Option.toList_some, Option.toList_none, List.cons_append, List.nil_append, Bool.false_eq_true, ht]
  refine am_CL_of q1 ?_
  simp only [am_R_eq, cx_77, en_77, rt_77, rx_aload_n, rx_getfield, ev_gf, rx_goto, rx_iand, rx_iconst, rx_icmp_gt, rx_icmp_lt, rx_icmp_ne, rx_iload_n, rx_invs, rx_max2, rx_min2, rx_copy2, rx_invv, ev_cv, rx_ireturn, rx_istore_n, kl_34, kl_78, kl_79, ev_K, ev_pI, ev_pR, ev_pVi, ev_pVr, ev_sI, ev_sR, ev_KC, ev_k, ev_ko, ev_pop0, ev_pops, am_ld, am_sv, am_at, am_st, am_g, List.length_cons, List.length_nil, Nat.reduceAdd, Nat.reduceLT, Nat.zero_add, if_true, if_false, and_self, true_or, or_true, true_and, and_true, not_true_eq_false, not_false_eq_true, reduceCtorEq, eq_self, Option.toList_some, Option.toList_none, List.cons_append, List.nil_append, Bool.false_eq_true, ht]
  refine am_CL_of q2 ?_
  by_cases c1 : key < E x 0
  · simp only [am_R_eq, cx_77, en_77, rt_77, rx_aload_n, rx_getfield, ev_gf, rx_goto, rx_iand, rx_iconst, rx_icmp_gt, rx_icmp_lt, rx_icmp_ne, rx_iload_n, rx_invs, rx_max2, rx_min2, rx_copy2, rx_invv, ev_cv, rx_ireturn, rx_istore_n, kl_34, kl_78, kl_79, ev_K, ev_pI, ev_pR, ev_pVi, ev_pVr, ev_sI, ev_sR, ev_KC, ev_k, ev_ko, ev_pop0, ev_pops, am_ld, am_sv, am_at, am_st, am_g, List.length_cons, List.length_nil, Nat.reduceAdd, Nat.reduceLT, Nat.zero_add, if_true, if_false, and_self, true_or, or_true, true_and, and_true, not_true_eq_false, not_false_eq_true, reduceCtorEq, eq_self, Option.toList_some, Option.toList_none, List.cons_append, List.nil_append, Bool.false_eq_true, ht, c1, e_may, b00, decide_true, Bool.not_true, Bool.false_and]
  · simp only [am_R_eq, cx_77, en_77, rt_77, rx_aload_n, rx_getfield, ev_gf, rx_goto, rx_iand, rx_iconst, rx_icmp_gt, rx_icmp_lt, rx_icmp_ne, rx_iload_n, rx_invs, rx_max2, rx_min2, rx_copy2, rx_invv, ev_cv, rx_ireturn, rx_istore_n, kl_34, kl_78, kl_79, ev_K, ev_pI, ev_pR, ev_pVi, ev_pVr, ev_sI, ev_sR, ev_KC, ev_k, ev_ko, ev_pop0, ev_pops, am_ld, am_sv, am_at, am_st, am_g, List.length_cons, List.length_nil, Nat.reduceAdd, Nat.reduceLT, Nat.zero_add, if_true, if_false, and_self, true_or, or_true, true_and, and_true, not_true_eq_false, not_false_eq_true, reduceCtorEq, eq_self, Option.toList_some, Option.toList_none, List.cons_append, List.nil_append, Bool.false_eq_true, ht, c1]
    refine am_CL_of q3 ?_
    by_cases c2 : E y 0 < key
    · simp only [am_R_eq, cx_77, en_77, rt_77, rx_aload_n, rx_getfield, ev_gf, rx_goto, rx_iand, rx_iconst, rx_icmp_gt, rx_icmp_lt, rx_icmp_ne, rx_iload_n, rx_invs, rx_max2, rx_min2, rx_copy2, rx_invv, ev_cv, rx_ireturn, rx_istore_n, kl_34, kl_78, kl_79, ev_K, ev_pI, ev_pR, ev_pVi, ev_pVr, ev_sI, ev_sR, ev_KC, ev_k, ev_ko, ev_pop0, ev_pops, am_ld, am_sv, am_at, am_st, am_g, List.length_cons, List.length_nil, Nat.reduceAdd, Nat.reduceLT, Nat.zero_add, if_true, if_false, and_self, true_or, or_true, true_and, and_true, not_true_eq_false, not_false_eq_true, reduceCtorEq, eq_self, Option.toList_some, Option.toList_none, List.cons_append, List.nil_append, Bool.false_eq_true, ht, c1, c2, e_may, b00, decide_true, Bool.not_true, Bool.false_and, Bool.and_false, decide_false]
    · by_cases c3 : F &&& e_bits key = e_bits key
      · simp only [am_R_eq, cx_77, en_77, rt_77, rx_aload_n, rx_getfield, ev_gf, rx_goto, rx_iand, rx_iconst, rx_icmp_gt, rx_icmp_lt, rx_icmp_ne, rx_iload_n, rx_invs, rx_max2, rx_min2, rx_copy2, rx_invv, ev_cv, rx_ireturn, rx_istore_n, kl_34, kl_78, kl_79, ev_K, ev_pI, ev_pR, ev_pVi, ev_pVr, ev_sI, ev_sR, ev_KC, ev_k, ev_ko, ev_pop0, ev_pops, am_ld, am_sv, am_at, am_st, am_g, List.length_cons, List.length_nil, Nat.reduceAdd, Nat.reduceLT, Nat.zero_add, if_true, if_false, and_self, true_or, or_true, true_and, and_true, not_true_eq_false, not_false_eq_true, reduceCtorEq, eq_self, Option.toList_some, Option.toList_none, List.cons_append, List.nil_append, Bool.false_eq_true, ht, c1, c2, c3, e_may, b11, decide_true, Bool.not_true, Bool.not_false, Bool.and_self, decide_false]
      · simp only [am_R_eq, cx_77, en_77, rt_77, rx_aload_n, rx_getfield, ev_gf, rx_goto, rx_iand, rx_iconst, rx_icmp_gt, rx_icmp_lt, rx_icmp_ne, rx_iload_n, rx_invs, rx_max2, rx_min2, rx_copy2, rx_invv, ev_cv, rx_ireturn, rx_istore_n, kl_34, kl_78, kl_79, ev_K, ev_pI, ev_pR, ev_pVi, ev_pVr, ev_sI, ev_sR, ev_KC, ev_k, ev_ko, ev_pop0, ev_pops, am_ld, am_sv, am_at, am_st, am_g, List.length_cons, List.length_nil, Nat.reduceAdd, Nat.reduceLT, Nat.zero_add, if_true, if_false, and_self, true_or, or_true, true_and, and_true, not_true_eq_false, not_false_eq_true, reduceCtorEq, eq_self, Option.toList_some, Option.toList_none, List.cons_append, List.nil_append, Bool.false_eq_true, ht, c1, c2, c3, e_may, b00, decide_true, Bool.not_true, Bool.not_false, Bool.and_self, decide_false, Bool.and_false]
def e_gs (E : Nat → Nat → Int32) (m : Int32) (e : Nat) : Int32 := if m < E e 4 then E e 4 else m
theorem ta_greatestSerial (z d : Nat) (ht : h.1 t = some (vs_tb r F)) (hr : vs_row h r a bl n L) (hL : ∀ x ∈ L, h.1 x = some (vs_e E x)) : am_M z (d + 1 + 1) 85 [.ref t] h (some (.int (L.foldl (e_gs E) 0))) h := by
  obtain ⟨g0, k1, k2, k3, k4, k5, kne⟩ := hr.g
  have q0 := ro_size z d hr
  have loop : ∀ m k c, m = L.length - k → k ≤ L.length → am_R z (d + 1) 85 4 [some (.ref t), some (.int c), some (.int (nI k))] [] h (some (.int ((L.drop k).foldl (e_gs E) c))) h := by
    intro m
    induction m with
    | zero =>
      intro k c hm hk
      have hkl : k = L.length := by omega
      subst hkl
      have e1 : nI L.length ≤ nI L.length := nI_le (Nat.le_refl _) (by omega)
      rw [am_R_eq, cxh_85_4]
      simp only [am_R_eq, cx_85, en_85, rt_85, rx_aload_n, rx_getfield, ev_gf, rx_goto, rx_iconst, rx_icmp_ge, rx_iinc, ev_inc, rx_iload_n, rx_invs, rx_max2, rx_min2, rx_copy2, rx_invv, ev_cv, rx_ireturn, rx_istore_n, kl_12, kl_24, ev_K, ev_pI, ev_pR, ev_pVi, ev_pVr, ev_sI, ev_sR, ev_KC, ev_k, ev_ko, ev_pop0, ev_pops, am_ld, am_sv, am_at, am_st, am_g, List.length_cons, List.length_nil, Nat.reduceAdd, Nat.reduceLT, Nat.zero_add, if_true, if_false, and_self, true_or, or_true, true_and, and_true, not_true_eq_false, not_false_eq_true, reduceCtorEq, eq_self, Option.toList_some, Option.toList_none, List.cons_append, List.nil_append, Bool.false_eq_true, ht, k1]
      refine am_CL_of q0 ?_
      simp only [am_R_eq, cx_85, en_85, rt_85, rx_aload_n, rx_getfield, ev_gf, rx_goto, rx_iconst, rx_icmp_ge, rx_iinc, ev_inc, rx_iload_n, rx_invs, rx_max2, rx_min2, rx_copy2, rx_invv, ev_cv, rx_ireturn, rx_istore_n, kl_12, kl_24, ev_K, ev_pI, ev_pR, ev_pVi, ev_pVr, ev_sI, ev_sR, ev_KC, ev_k, ev_ko, ev_pop0, ev_pops, am_ld, am_sv, am_at, am_st, am_g, List.length_cons, List.length_nil, Nat.reduceAdd, Nat.reduceLT, Nat.zero_add, if_true, if_false, and_self, true_or, or_true, true_and, and_true, not_true_eq_false, not_false_eq_true, reduceCtorEq, eq_self, Option.toList_some, Option.toList_none, List.cons_append, List.nil_append, Bool.false_eq_true, e1, List.drop_length, List.foldl_nil]
    | succ m ih =>
      intro k c hm hk
      have hlt : k < L.length := by omega
      have e1 : ¬ nI L.length ≤ nI k := nI_ge hlt (by omega)
      obtain ⟨x, hx⟩ : ∃ x, L[k]? = some x := ⟨L[k]'(by omega), List.getElem?_eq_getElem (by omega)⟩
      have hd : L.drop k = x :: L.drop (k + 1) := by
        rw [List.drop_eq_getElem_cons hlt]
        congr 1
        exact (List.getElem?_eq_some_iff.mp hx).2
      have hex := hL x (List.mem_of_getElem? hx)
      have q1 := ro_at z d hr hx
      have ih1 := ih (k + 1) (e_gs E c x) (by omega) (by omega)
      unfold e_gs at ih1
      rw [am_R_eq] at ih1
      rw [hd, List.foldl_cons]
      rw [am_R_eq, cxh_85_4]
      simp only [am_R_eq, cx_85, en_85, rt_85, rx_aload_n, rx_getfield, ev_gf, rx_goto, rx_iconst, rx_icmp_ge, rx_iinc, ev_inc, rx_iload_n, rx_invs, rx_max2, rx_min2, rx_copy2, rx_invv, ev_cv, rx_ireturn, rx_istore_n, kl_12, kl_24, ev_K, ev_pI, ev_pR, ev_pVi, ev_pVr, ev_sI, ev_sR, ev_KC, ev_k, ev_ko, ev_pop0, ev_pops, am_ld, am_sv, am_at, am_st, am_g, List.length_cons, List.length_nil, Nat.reduceAdd, Nat.reduceLT, Nat.zero_add, if_true, if_false, and_self, true_or, or_true, true_and, and_true, not_true_eq_false, not_false_eq_true, reduceCtorEq, eq_self, Option.toList_some, Option.toList_none, List.cons_append, List.nil_append, Bool.false_eq_true, ht, k1]
      refine am_CL_of q0 ?_
      simp only [am_R_eq, cx_85, en_85, rt_85, rx_aload_n, rx_getfield, ev_gf, rx_goto, rx_iconst, rx_icmp_ge, rx_iinc, ev_inc, rx_iload_n, rx_invs, rx_max2, rx_min2, rx_copy2, rx_invv, ev_cv, rx_ireturn, rx_istore_n, kl_12, kl_24, ev_K, ev_pI, ev_pR, ev_pVi, ev_pVr, ev_sI, ev_sR, ev_KC, ev_k, ev_ko, ev_pop0, ev_pops, am_ld, am_sv, am_at, am_st, am_g, List.length_cons, List.length_nil, Nat.reduceAdd, Nat.reduceLT, Nat.zero_add, if_true, if_false, and_self, true_or, or_true, true_and, and_true, not_true_eq_false, not_false_eq_true, reduceCtorEq, eq_self, Option.toList_some, Option.toList_none, List.cons_append, List.nil_append, Bool.false_eq_true, e1, ht, k1]
      refine am_CL_of q1 ?_
      simp only [am_R_eq, cx_85, en_85, rt_85, rx_aload_n, rx_getfield, ev_gf, rx_goto, rx_iconst, rx_icmp_ge, rx_iinc, ev_inc, rx_iload_n, rx_invs, rx_max2, rx_min2, rx_copy2, rx_invv, ev_cv, rx_ireturn, rx_istore_n, kl_12, kl_24, ev_K, ev_pI, ev_pR, ev_pVi, ev_pVr, ev_sI, ev_sR, ev_KC, ev_k, ev_ko, ev_pop0, ev_pops, am_ld, am_sv, am_at, am_st, am_g, List.length_cons, List.length_nil, Nat.reduceAdd, Nat.reduceLT, Nat.zero_add, if_true, if_false, and_self, true_or, or_true, true_and, and_true, not_true_eq_false, not_false_eq_true, reduceCtorEq, eq_self, Option.toList_some, Option.toList_none, List.cons_append, List.nil_append, Bool.false_eq_true, hex, nI_ofs]
      exact ih1
  have l0 := loop L.length 0 0 (by omega) (Nat.zero_le _)
  rw [am_R_eq, List.drop_zero] at l0
  rw [am_M_eq]
  simp only [am_R_eq, cx_85, en_85, rt_85, rx_aload_n, rx_getfield, ev_gf, rx_goto, rx_iconst, rx_icmp_ge, rx_iinc, ev_inc, rx_iload_n, rx_invs, rx_max2, rx_min2, rx_copy2, rx_invv, ev_cv, rx_ireturn, rx_istore_n, kl_12, kl_24, ev_K, ev_pI, ev_pR, ev_pVi, ev_pVr, ev_sI, ev_sR, ev_KC, ev_k, ev_ko, ev_pop0, ev_pops, am_ld, am_sv, am_at, am_st, am_g, List.length_cons, List.length_nil, Nat.reduceAdd, Nat.reduceLT, Nat.zero_add, if_true, if_false, and_self, true_or, or_true, true_and, and_true, not_true_eq_false, not_false_eq_true, reduceCtorEq, eq_self, Option.toList_some, Option.toList_none, List.cons_append, List.nil_append, Bool.false_eq_true]
  exact l0
end TAB
end
section
section LEV
variable {h : am_H} {lv ta m c cap bl : Nat} {tt rr aa : Nat → Nat} {C : Nat → List Nat} {fl : Nat → Int32} {E : Nat → Nat → Int32}
abbrev vs_lo (ta c : Nat) : am_E := .inr (4, [.ref ta, .int (nI c)])
abbrev vs_qt (n : Nat) (g : Nat → Option Nat) : am_E := .inl (3, n, .inr (.inr (.inr (.inr g))))
def vs_lv (h : am_H) (lv ta m c cap bl : Nat) (tt rr aa : Nat → Nat) (C : Nat → List Nat) (fl : Nat → Int32) : Prop :=
  h.1 lv = some (vs_lo ta c) ∧ c ≤ m ∧ m ≤ 30 ∧ (∃ G, h.1 ta = some (vs_qt m G) ∧ ∀ k, k < m → G k = some (tt k)) ∧ (∀ k, k < m → h.1 (tt k) = some (vs_tb (rr k) (fl k))) ∧ (∀ k, k < m → vs_row h (rr k) (aa k) bl cap (C k)) ∧ ∀ i j, i < m → j < m → i ≠ j → tt i ≠ tt j ∧ rr i ≠ rr j ∧ aa i ≠ aa j
theorem vs_lv.fr {r a blr n : Nat} {T : List Nat} {hh : am_H} (hl : vs_lv h lv ta m c cap bl tt rr aa C fl) (hr : vs_row h r a blr n T) (hc : vs_ch h hh r a) (hn : ∀ k, k < m → rr k ≠ r ∧ aa k ≠ a) : vs_lv hh lv ta m c cap bl tt rr aa C fl := by
  obtain ⟨l1, l2, l3, ⟨G, l4, l5⟩, l6, l7, l8⟩ := hl
  obtain ⟨g, h1, h2, h3, h4, h5, hne⟩ := hr.g
  refine ⟨hc.obj hr l1 (by decide), l2, l3, ⟨G, ?_, l5⟩, fun k hk => hc.obj hr (l6 k hk) (by decide), fun k hk => hc.row hr (l7 k hk) (hn k hk).1 (hn k hk).2, l8⟩
  rw [hc.1 ta (am_ne l4 h1 (by simp)) (am_ne l4 h2 (by simp))]
  exact l4
def e_fl (C : Nat → List Nat) : Nat → Nat → List Nat
  | _, 0 => []
  | k, m + 1 => C k ++ e_fl C (k + 1) m
def e_ik (E : Nat → Nat → Int32) (T : List Nat) (e : Nat) : List Nat := e_ins (e_bf E e) e T
theorem e_ik_len (E : Nat → Nat → Int32) : ∀ (M T : List Nat), (M.foldl (e_ik E) T).length = T.length + M.length
  | [], T => rfl
  | e :: M, T => by
    rw [List.foldl_cons, e_ik_len E M, e_ik, e_ins_len, List.length_cons]
    omega
theorem e_ik_mem (E : Nat → Nat → Int32) (x : Nat) : ∀ (M T : List Nat), x ∈ M.foldl (e_ik E) T ↔ x ∈ M ∨ x ∈ T
  | [], T => by simp
  | e :: M, T => by
    rw [List.foldl_cons, e_ik_mem E x M, e_ik, e_ins_mem, List.mem_cons]
    constructor
    · rintro (q | q | q)
      · exact Or.inl (Or.inr q)
      · exact Or.inl (Or.inl q)
      · exact Or.inr q
    · rintro ((q | q) | q)
      · exact Or.inr (Or.inl q)
      · exact Or.inl q
      · exact Or.inr (Or.inr q)
theorem le_tableCount (z d : Nat) (hl : vs_lv h lv ta m c cap bl tt rr aa C fl) : am_M z (d + 1) 19 [.ref lv] h (some (.int (nI c))) h := by
  obtain ⟨l1, -⟩ := hl
  rw [am_M_eq]
  simp only [am_R_eq, cx_19, en_19, rt_19, rx_aload_n, rx_getfield, ev_gf, rx_ireturn, ev_K, ev_pI, ev_pR, ev_pVi, ev_pVr, ev_sI, ev_sR, ev_KC, ev_k, ev_ko, ev_pop0, ev_pops, am_ld, am_sv, am_at, am_st, am_g, List.length_cons, List.length_nil, Nat.reduceAdd, Nat.reduceLT, Nat.zero_add, if_true, if_false, and_self, true_or, or_true, true_and, and_true, not_true_eq_false, not_false_eq_true, reduceCtorEq, eq_self, Option.toList_some, Option.toList_none, List.cons_append, List.nil_append, Bool.false_eq_true, l1]
theorem le_tableAt (z d : Nat) {k : Nat} (hl : vs_lv h lv ta m c cap bl tt rr aa C fl) (hk : k < m) : am_M z (d + 1) 76 [.ref lv, .int (nI k)] h (some (.ref (tt k))) h := by
  obtain ⟨l1, l2, l3, ⟨G, l4, l5⟩, l6, l7, l8⟩ := hl
  have e5 : am_ix (nI k) m = some k := ev_ix hk (by omega)
  have e7 := ev_rq 3 m k (tt k) G (nI k) (by omega) e5 (l5 k hk)
  rw [am_M_eq]
  simp only [am_R_eq, cx_76, en_76, rt_76, rx_aaload, rx_aload_n, rx_areturn, rx_getfield, ev_gf, rx_iload_n, ev_K, ev_pI, ev_pR, ev_pVi, ev_pVr, ev_sI, ev_sR, ev_KC, ev_k, ev_ko, ev_pop0, ev_pops, am_ld, am_sv, am_at, am_st, am_g, List.length_cons, List.length_nil, Nat.reduceAdd, Nat.reduceLT, Nat.zero_add, if_true, if_false, and_self, true_or, or_true, true_and, and_true, not_true_eq_false, not_false_eq_true, reduceCtorEq, eq_self, Option.toList_some, Option.toList_none, List.cons_append, List.nil_append, Bool.false_eq_true, l1, l4, e7]
theorem le_countLive (z d : Nat) {s : Int32} (hl : vs_lv h lv ta m c cap bl tt rr aa C fl) (hL : ∀ k, k < c → ∀ x ∈ C k, h.1 x = some (vs_e E x)) : am_M z (d + 1 + 1 + 1) 90 [.ref lv, .int s] h (some (.int (nI ((e_fl C 0 c).countP (e_live E s))))) h := by
  have hl0 := hl
  obtain ⟨l1, l2, l3, ⟨G, l4, l5⟩, l6, l7, l8⟩ := hl
  have loop : ∀ q k v, q = c - k → k ≤ c → am_R z (d + 1 + 1) 90 4 [some (.ref lv), some (.int s), some (.int (nI v)), some (.int (nI k))] [] h (some (.int (nI (v + (e_fl C k q).countP (e_live E s))))) h := by
    intro q
    induction q with
    | zero =>
      intro k v hq hk
      have hkc : k = c := by omega
      subst hkc
      have e1 : nI k ≤ nI k := nI_le (Nat.le_refl _) (by omega)
      rw [am_R_eq, cxh_90_4]
      simp only [am_R_eq, cx_90, en_90, rt_90, rx_aaload, rx_aload_n, rx_getfield, ev_gf, rx_goto, rx_iadd, rx_iconst, rx_icmp_ge, rx_iinc, ev_inc, rx_iload_n, rx_invv, ev_cv, rx_ireturn, rx_istore_n, kl_89, ev_K, ev_pI, ev_pR, ev_pVi, ev_pVr, ev_sI, ev_sR, ev_KC, ev_k, ev_ko, ev_pop0, ev_pops, am_ld, am_sv, am_at, am_st, am_g, List.length_cons, List.length_nil, Nat.reduceAdd, Nat.reduceLT, Nat.zero_add, if_true, if_false, and_self, true_or, or_true, true_and, and_true, not_true_eq_false, not_false_eq_true, reduceCtorEq, eq_self, Option.toList_some, Option.toList_none, List.cons_append, List.nil_append, Bool.false_eq_true, l1, e1, e_fl, List.countP_nil, Nat.add_zero]
    | succ q ih =>
      intro k v hq hk
      have e1 : ¬ nI c ≤ nI k := nI_ge (by omega) (by omega)
      have e5 : am_ix (nI k) m = some k := ev_ix (by omega) (by omega)
      have e7 := ev_rq 3 m k (tt k) G (nI k) (by omega) e5 (l5 k (by omega))
      have t1 := l6 k (by omega)
      have r1 := l7 k (by omega)
      obtain ⟨g, h1, h2, h3, h4, h5, hne⟩ := r1.g
      have q1 := ro_countLive z d (s := s) r1 (hL k (by omega))
      have e8 : nI v + nI ((C k).countP (e_live E s)) = nI (v + (C k).countP (e_live E s)) := nI_add _ _
      have ih1 := ih (k + 1) (v + (C k).countP (e_live E s)) (by omega) (by omega)
      rw [am_R_eq, show v + (C k).countP (e_live E s) + (e_fl C (k + 1) q).countP (e_live E s) = v + (C k ++ e_fl C (k + 1) q).countP (e_live E s) by rw [List.countP_append]; omega] at ih1
      rw [am_R_eq, cxh_90_4]
      simp only [am_R_eq, cx_90, en_90, rt_90, rx_aaload, rx_aload_n, rx_getfield, ev_gf, rx_goto, rx_iadd, rx_iconst, rx_icmp_ge, rx_iinc, ev_inc, rx_iload_n, rx_invv, ev_cv, rx_ireturn, rx_istore_n, kl_89, ev_K, ev_pI, ev_pR, ev_pVi, ev_pVr, ev_sI, ev_sR, ev_KC, ev_k, ev_ko, ev_pop0, ev_pops, am_ld, am_sv, am_at, am_st, am_g, List.length_cons, List.length_nil, Nat.reduceAdd, Nat.reduceLT, Nat.zero_add, if_true, if_false, and_self, true_or, or_true, true_and, and_true, not_true_eq_false, not_false_eq_true, reduceCtorEq, eq_self, Option.toList_some, Option.toList_none, List.cons_append, List.nil_append, Bool.false_eq_true, l1, l4, e1, e7, t1, h1]
      refine am_CL_of q1 ?_
      simp only [am_R_eq, cx_90, en_90, rt_90, rx_aaload, rx_aload_n, rx_getfield, ev_gf, rx_goto, rx_iadd, rx_iconst, rx_icmp_ge, rx_iinc, ev_inc, rx_iload_n, rx_invv, ev_cv, rx_ireturn, rx_istore_n, kl_89, ev_K, ev_pI, ev_pR, ev_pVi, ev_pVr, ev_sI, ev_sR, ev_KC, ev_k, ev_ko, ev_pop0, ev_pops, am_ld, am_sv, am_at, am_st, am_g, List.length_cons, List.length_nil, Nat.reduceAdd, Nat.reduceLT, Nat.zero_add, if_true, if_false, and_self, true_or, or_true, true_and, and_true, not_true_eq_false, not_false_eq_true, reduceCtorEq, eq_self, Option.toList_some, Option.toList_none, List.cons_append, List.nil_append, Bool.false_eq_true, e8, nI_ofs]
      exact ih1
  have l0 := loop c 0 0 (by omega) (Nat.zero_le _)
  rw [am_R_eq, Nat.zero_add] at l0
  rw [am_M_eq]
  simp only [am_R_eq, cx_90, en_90, rt_90, rx_aaload, rx_aload_n, rx_getfield, ev_gf, rx_goto, rx_iadd, rx_iconst, rx_icmp_ge, rx_iinc, ev_inc, rx_iload_n, rx_invv, ev_cv, rx_ireturn, rx_istore_n, kl_89, ev_K, ev_pI, ev_pR, ev_pVi, ev_pVr, ev_sI, ev_sR, ev_KC, ev_k, ev_ko, ev_pop0, ev_pops, am_ld, am_sv, am_at, am_st, am_g, List.length_cons, List.length_nil, Nat.reduceAdd, Nat.reduceLT, Nat.zero_add, if_true, if_false, and_self, true_or, or_true, true_and, and_true, not_true_eq_false, not_false_eq_true, reduceCtorEq, eq_self, Option.toList_some, Option.toList_none, List.cons_append, List.nil_append, Bool.false_eq_true]
  exact l0
theorem le_pourInto (z d : Nat) {r a blr n : Nat} {T0 : List Nat} (hzl : z ≤ lv) (hz : z ≤ r) (hza : z ≤ a) (hl : vs_lv h lv ta m c cap bl tt rr aa C fl) (hr : vs_row h r a blr n T0) (hn : ∀ k, k < m → rr k ≠ r ∧ aa k ≠ a) (hL : ∀ k, k < c → ∀ x ∈ C k, h.1 x = some (vs_e E x)) (hT : ∀ x ∈ T0, h.1 x = some (vs_e E x)) (hroom : T0.length + (e_fl C 0 c).length ≤ n) :
    ∃ h', am_M z (d + 1 + 1 + 1) 23 [.ref lv, .ref r] h none h' ∧ vs_row h' r a blr n ((e_fl C 0 c).foldl (e_ik E) T0) ∧ h'.1 lv = some (vs_lo ta 0) ∧ vs_ch3 h h' lv r a := by
  have inner : ∀ k, k < c → ∀ q i T hh (w : Option Value), q = (C k).length - i → i ≤ (C k).length → vs_ch h hh r a → vs_row hh r a blr n T → T.length + ((C k).length - i) ≤ n → (∀ x ∈ T, h.1 x = some (vs_e E x)) → ∀ (ro : am_H → Prop), (∀ h2 w2, vs_ch h h2 r a → vs_row h2 r a blr n (((C k).drop i).foldl (e_ik E) T) → ∃ h', am_R z (d + 1 + 1) 23 48 [some (.ref lv), some (.ref r), some (.int (nI k)), some (.ref (rr k)), w2] [] h2 none h' ∧ ro h') →
      ∃ h', am_R z (d + 1 + 1) 23 23 [some (.ref lv), some (.ref r), some (.int (nI k)), some (.ref (rr k)), some (.int (nI i))] [] hh none h' ∧ ro h' := by
    intro k hk q
    induction q with
    | zero =>
      intro i T hh w hq hi hc hrT hTn hTe ro kk
      have hl2 := hl.fr hr hc hn
      obtain ⟨l1, l2, l3, ⟨G, l4, l5⟩, l6, l7, l8⟩ := hl2
      have r1 := l7 k (by omega)
      obtain ⟨g, h1, h2, h3, h4, h5, hne⟩ := r1.g
      have hil : i = (C k).length := by omega
      subst hil
      have e1 : nI (C k).length ≤ nI (C k).length := nI_le (Nat.le_refl _) (by omega)
      rw [List.drop_length, List.foldl_nil] at kk
      obtain ⟨h', k1, k2⟩ := kk hh (some (.int (nI (C k).length))) hc hrT
      rw [am_R_eq] at k1
      refine ⟨h', ?_, k2⟩
      rw [am_R_eq, cxh_23_23]
      simp only [am_R_eq, cx_23, en_23, rt_23, rx_aaload, rx_aload_n, rx_astore_n, rx_getfield, ev_gf, rx_goto, rx_iconst, rx_icmp_ge, rx_iinc, ev_inc, rx_iload, rx_iload_n, rx_invv, ev_cv, rx_istore, rx_istore_n, rx_putfield, ev_pf, ev_w1, ev_KW, am_fok, am_ftv, rx_return, kl_12, kl_24, kl_25, ev_K, ev_pI, ev_pR, ev_pVi, ev_pVr, ev_sI, ev_sR, ev_KC, ev_k, ev_ko, ev_pop0, ev_pops, am_ld, am_sv, am_at, am_st, am_g, List.length_cons, List.length_nil, Nat.reduceAdd, Nat.reduceLT, Nat.zero_add, if_true, if_false, and_self, true_or, or_true, true_and, and_true, not_true_eq_false, not_false_eq_true, reduceCtorEq, eq_self, Option.toList_some, Option.toList_none, List.cons_append, List.nil_append, Bool.false_eq_true, h1]
      refine am_CL_of (ro_size z (d + 1) r1) ?_
      simp only [am_R_eq, cx_23, en_23, rt_23, rx_aaload, rx_aload_n, rx_astore_n, rx_getfield, ev_gf, rx_goto, rx_iconst, rx_icmp_ge, rx_iinc, ev_inc, rx_iload, rx_iload_n, rx_invv, ev_cv, rx_istore, rx_istore_n, rx_putfield, ev_pf, ev_w1, ev_KW, am_fok, am_ftv, rx_return, kl_12, kl_24, kl_25, ev_K, ev_pI, ev_pR, ev_pVi, ev_pVr, ev_sI, ev_sR, ev_KC, ev_k, ev_ko, ev_pop0, ev_pops, am_ld, am_sv, am_at, am_st, am_g, List.length_cons, List.length_nil, Nat.reduceAdd, Nat.reduceLT, Nat.zero_add, if_true, if_false, and_self, true_or, or_true, true_and, and_true, not_true_eq_false, not_false_eq_true, reduceCtorEq, eq_self, Option.toList_some, Option.toList_none, List.cons_append, List.nil_append, Bool.false_eq_true, e1]
      revert k1
      simp only [am_R_eq, cx_23, en_23, rt_23, rx_aaload, rx_aload_n, rx_astore_n, rx_getfield, ev_gf, rx_goto, rx_iconst, rx_icmp_ge, rx_iinc, ev_inc, rx_iload, rx_iload_n, rx_invv, ev_cv, rx_istore, rx_istore_n, rx_putfield, ev_pf, ev_w1, ev_KW, am_fok, am_ftv, rx_return, kl_12, kl_24, kl_25, ev_K, ev_pI, ev_pR, ev_pVi, ev_pVr, ev_sI, ev_sR, ev_KC, ev_k, ev_ko, ev_pop0, ev_pops, am_ld, am_sv, am_at, am_st, am_g, List.length_cons, List.length_nil, Nat.reduceAdd, Nat.reduceLT, Nat.zero_add, if_true, if_false, and_self, true_or, or_true, true_and, and_true, not_true_eq_false, not_false_eq_true, reduceCtorEq, eq_self, Option.toList_some, Option.toList_none, List.cons_append, List.nil_append, Bool.false_eq_true]
      exact fun q => q
    | succ q ih =>
      intro i T hh w hq hi hc hrT hTn hTe ro kk
      have hl2 := hl.fr hr hc hn
      obtain ⟨l1, l2, l3, ⟨G, l4, l5⟩, l6, l7, l8⟩ := hl2
      have r1 := l7 k (by omega)
      obtain ⟨g, h1, h2, h3, h4, h5, hne⟩ := r1.g
      have hlt : i < (C k).length := by omega
      have e1 : ¬ nI (C k).length ≤ nI i := nI_ge hlt (by omega)
      obtain ⟨x, hx⟩ : ∃ x, (C k)[i]? = some x := ⟨(C k)[i]'(by omega), List.getElem?_eq_getElem (by omega)⟩
      have hd : (C k).drop i = x :: (C k).drop (i + 1) := by
        rw [List.drop_eq_getElem_cons hlt]
        congr 1
        exact (List.getElem?_eq_some_iff.mp hx).2
      have hex0 := hL k hk x (List.mem_of_getElem? hx)
      have hex := hc.obj hr hex0 (by decide)
      obtain ⟨h1', m1, m2, m3⟩ := ro_insertByKey z d hz hza hrT hex (fun y hy => hc.obj hr (hTe y hy) (by decide)) (by omega)
      rw [hd, List.foldl_cons] at kk
      obtain ⟨h', i1, i2⟩ := ih (i + 1) (e_ik E T x) h1' w (by omega) (by omega) (hc.tr m3) m2 (by rw [e_ik, e_ins_len]; omega) (by
        intro y hy
        rcases (e_ins_mem _ _ _ _).mp hy with q | q
        · rw [q]; exact hex0
        · exact hTe y q) ro kk
      rw [am_R_eq] at i1
      refine ⟨h', ?_, i2⟩
      obtain ⟨gt, t1, t2, t3, t4, t5, tne⟩ := hrT.g
      rw [am_R_eq, cxh_23_23]
      simp only [am_R_eq, cx_23, en_23, rt_23, rx_aaload, rx_aload_n, rx_astore_n, rx_getfield, ev_gf, rx_goto, rx_iconst, rx_icmp_ge, rx_iinc, ev_inc, rx_iload, rx_iload_n, rx_invv, ev_cv, rx_istore, rx_istore_n, rx_putfield, ev_pf, ev_w1, ev_KW, am_fok, am_ftv, rx_return, kl_12, kl_24, kl_25, ev_K, ev_pI, ev_pR, ev_pVi, ev_pVr, ev_sI, ev_sR, ev_KC, ev_k, ev_ko, ev_pop0, ev_pops, am_ld, am_sv, am_at, am_st, am_g, List.length_cons, List.length_nil, Nat.reduceAdd, Nat.reduceLT, Nat.zero_add, if_true, if_false, and_self, true_or, or_true, true_and, and_true, not_true_eq_false, not_false_eq_true, reduceCtorEq, eq_self, Option.toList_some, Option.toList_none, List.cons_append, List.nil_append, Bool.false_eq_true, h1]
      refine am_CL_of (ro_size z (d + 1) r1) ?_
      simp only [am_R_eq, cx_23, en_23, rt_23, rx_aaload, rx_aload_n, rx_astore_n, rx_getfield, ev_gf, rx_goto, rx_iconst, rx_icmp_ge, rx_iinc, ev_inc, rx_iload, rx_iload_n, rx_invv, ev_cv, rx_istore, rx_istore_n, rx_putfield, ev_pf, ev_w1, ev_KW, am_fok, am_ftv, rx_return, kl_12, kl_24, kl_25, ev_K, ev_pI, ev_pR, ev_pVi, ev_pVr, ev_sI, ev_sR, ev_KC, ev_k, ev_ko, ev_pop0, ev_pops, am_ld, am_sv, am_at, am_st, am_g, List.length_cons, List.length_nil, Nat.reduceAdd, Nat.reduceLT, Nat.zero_add, if_true, if_false, and_self, true_or, or_true, true_and, and_true, not_true_eq_false, not_false_eq_true, reduceCtorEq, eq_self, Option.toList_some, Option.toList_none, List.cons_append, List.nil_append, Bool.false_eq_true, e1, h1]
      refine am_CL_of (ro_at z (d + 1) r1 hx) ?_
      simp only [am_R_eq, cx_23, en_23, rt_23, rx_aaload, rx_aload_n, rx_astore_n, rx_getfield, ev_gf, rx_goto, rx_iconst, rx_icmp_ge, rx_iinc, ev_inc, rx_iload, rx_iload_n, rx_invv, ev_cv, rx_istore, rx_istore_n, rx_putfield, ev_pf, ev_w1, ev_KW, am_fok, am_ftv, rx_return, kl_12, kl_24, kl_25, ev_K, ev_pI, ev_pR, ev_pVi, ev_pVr, ev_sI, ev_sR, ev_KC, ev_k, ev_ko, ev_pop0, ev_pops, am_ld, am_sv, am_at, am_st, am_g, List.length_cons, List.length_nil, Nat.reduceAdd, Nat.reduceLT, Nat.zero_add, if_true, if_false, and_self, true_or, or_true, true_and, and_true, not_true_eq_false, not_false_eq_true, reduceCtorEq, eq_self, Option.toList_some, Option.toList_none, List.cons_append, List.nil_append, Bool.false_eq_true, t1]
      refine am_CL_of m1 ?_
      simp only [am_R_eq, cx_23, en_23, rt_23, rx_aaload, rx_aload_n, rx_astore_n, rx_getfield, ev_gf, rx_goto, rx_iconst, rx_icmp_ge, rx_iinc, ev_inc, rx_iload, rx_iload_n, rx_invv, ev_cv, rx_istore, rx_istore_n, rx_putfield, ev_pf, ev_w1, ev_KW, am_fok, am_ftv, rx_return, kl_12, kl_24, kl_25, ev_K, ev_pI, ev_pR, ev_pVi, ev_pVr, ev_sI, ev_sR, ev_KC, ev_k, ev_ko, ev_pop0, ev_pops, am_ld, am_sv, am_at, am_st, am_g, List.length_cons, List.length_nil, Nat.reduceAdd, Nat.reduceLT, Nat.zero_add, if_true, if_false, and_self, true_or, or_true, true_and, and_true, not_true_eq_false, not_false_eq_true, reduceCtorEq, eq_self, Option.toList_some, Option.toList_none, List.cons_append, List.nil_append, Bool.false_eq_true, nI_ofs]
      exact i1
  have outer : ∀ q k T hh (w1 w2 : Option Value), q = c - k → k ≤ c → vs_ch h hh r a → vs_row hh r a blr n T → T.length + (e_fl C k q).length ≤ n → (∀ x ∈ T, h.1 x = some (vs_e E x)) →
      ∃ h', am_R z (d + 1 + 1) 23 2 [some (.ref lv), some (.ref r), some (.int (nI k)), w1, w2] [] hh none h' ∧ vs_row h' r a blr n ((e_fl C k q).foldl (e_ik E) T) ∧ h'.1 lv = some (vs_lo ta 0) ∧ vs_ch3 h h' lv r a := by
    intro q
    induction q with
    | zero =>
      intro k T hh w1 w2 hq hk hc hrT hTn hTe
      have hl2 := hl.fr hr hc hn
      obtain ⟨l1, l2, l3, ⟨G, l4, l5⟩, l6, l7, l8⟩ := hl2
      have hkc : k = c := by omega
      subst hkc
      have e1 : nI k ≤ nI k := nI_le (Nat.le_refl _) (by omega)
      refine ⟨am_up hh lv (vs_lo ta 0), ?_, hrT.up _ l1 (by decide), am_up_at _ _ _, (vs_ch.to3 hc).tr (vs_ch3.up ..)⟩
      rw [am_R_eq, cxh_23_2]
      simp only [am_R_eq, cx_23, en_23, rt_23, rx_aaload, rx_aload_n, rx_astore_n, rx_getfield, ev_gf, rx_goto, rx_iconst, rx_icmp_ge, rx_iinc, ev_inc, rx_iload, rx_iload_n, rx_invv, ev_cv, rx_istore, rx_istore_n, rx_putfield, ev_pf, ev_w1, ev_KW, am_fok, am_ftv, rx_return, kl_12, kl_24, kl_25, ev_K, ev_pI, ev_pR, ev_pVi, ev_pVr, ev_sI, ev_sR, ev_KC, ev_k, ev_ko, ev_pop0, ev_pops, am_ld, am_sv, am_at, am_st, am_g, List.length_cons, List.length_nil, Nat.reduceAdd, Nat.reduceLT, Nat.zero_add, if_true, if_false, and_self, true_or, or_true, true_and, and_true, not_true_eq_false, not_false_eq_true, reduceCtorEq, eq_self, Option.toList_some, Option.toList_none, List.cons_append, List.nil_append, Bool.false_eq_true, l1, e1, hzl, Nat.reduceLeDiff, beq_self_eq_true]
      rfl
    | succ q ih =>
      intro k T hh w1 w2 hq hk hc hrT hTn hTe
      have hl2 := hl.fr hr hc hn
      obtain ⟨l1, l2, l3, ⟨G, l4, l5⟩, l6, l7, l8⟩ := hl2
      have e1 : ¬ nI c ≤ nI k := nI_ge (by omega) (by omega)
      have e5 : am_ix (nI k) m = some k := ev_ix (by omega) (by omega)
      have e7 := ev_rq 3 m k (tt k) G (nI k) (by omega) e5 (l5 k (by omega))
      have t1 := l6 k (by omega)
      have hfl : e_fl C k (q + 1) = C k ++ e_fl C (k + 1) q := rfl
      rw [hfl, List.length_append] at hTn
      rw [hfl, List.foldl_append]
      obtain ⟨h', i1, i2⟩ := inner k (by omega) (C k).length 0 T hh none (by omega) (Nat.zero_le _) hc hrT (by omega) hTe (fun h' => vs_row h' r a blr n ((e_fl C (k + 1) q).foldl (e_ik E) ((C k).foldl (e_ik E) T)) ∧ h'.1 lv = some (vs_lo ta 0) ∧ vs_ch3 h h' lv r a) (by
        intro h2 w3 hc2 hr2
        rw [List.drop_zero] at hr2
        obtain ⟨h', j1, j2⟩ := ih (k + 1) _ h2 (some (.ref (rr k))) w3 (by omega) (by omega) hc2 hr2 (by rw [e_ik_len]; omega) (by
          intro x hx
          rcases (e_ik_mem E x _ _).mp hx with q | q
          · exact hL k (by omega) x q
          · exact hTe x q)
        rw [am_R_eq] at j1
        refine ⟨h', ?_, j2⟩
        simp only [am_R_eq, cx_23, en_23, rt_23, rx_aaload, rx_aload_n, rx_astore_n, rx_getfield, ev_gf, rx_goto, rx_iconst, rx_icmp_ge, rx_iinc, ev_inc, rx_iload, rx_iload_n, rx_invv, ev_cv, rx_istore, rx_istore_n, rx_putfield, ev_pf, ev_w1, ev_KW, am_fok, am_ftv, rx_return, kl_12, kl_24, kl_25, ev_K, ev_pI, ev_pR, ev_pVi, ev_pVr, ev_sI, ev_sR, ev_KC, ev_k, ev_ko, ev_pop0, ev_pops, am_ld, am_sv, am_at, am_st, am_g, List.length_cons, List.length_nil, Nat.reduceAdd, Nat.reduceLT, Nat.zero_add, if_true, if_false, and_self, true_or, or_true, true_and, and_true, not_true_eq_false, not_false_eq_true, reduceCtorEq, eq_self, Option.toList_some, Option.toList_none, List.cons_append, List.nil_append, Bool.false_eq_true, nI_ofs]
        exact j1)
      rw [am_R_eq] at i1
      refine ⟨h', ?_, i2⟩
      rw [am_R_eq, cxh_23_2]
      simp only [am_R_eq, cx_23, en_23, rt_23, rx_aaload, rx_aload_n, rx_astore_n, rx_getfield, ev_gf, rx_goto, rx_iconst, rx_icmp_ge, rx_iinc, ev_inc, rx_iload, rx_iload_n, rx_invv, ev_cv, rx_istore, rx_istore_n, rx_putfield, ev_pf, ev_w1, ev_KW, am_fok, am_ftv, rx_return, kl_12, kl_24, kl_25, ev_K, ev_pI, ev_pR, ev_pVi, ev_pVr, ev_sI, ev_sR, ev_KC, ev_k, ev_ko, ev_pop0, ev_pops, am_ld, am_sv, am_at, am_st, am_g, List.length_cons, List.length_nil, Nat.reduceAdd, Nat.reduceLT, Nat.zero_add, if_true, if_false, and_self, true_or, or_true, true_and, and_true, not_true_eq_false, not_false_eq_true, reduceCtorEq, eq_self, Option.toList_some, Option.toList_none, List.cons_append, List.nil_append, Bool.false_eq_true, l1, l4, e1, e7, t1]
      exact i1
  obtain ⟨h', l0, l1⟩ := outer c 0 T0 h none none (by omega) (Nat.zero_le _) (vs_ch.rf ..) hr hroom hT
  rw [am_R_eq] at l0
  refine ⟨h', ?_, l1⟩
  rw [am_M_eq]
  simp only [am_R_eq, cx_23, en_23, rt_23, rx_aaload, rx_aload_n, rx_astore_n, rx_getfield, ev_gf, rx_goto, rx_iconst, rx_icmp_ge, rx_iinc, ev_inc, rx_iload, rx_iload_n, rx_invv, ev_cv, rx_istore, rx_istore_n, rx_putfield, ev_pf, ev_w1, ev_KW, am_fok, am_ftv, rx_return, kl_12, kl_24, kl_25, ev_K, ev_pI, ev_pR, ev_pVi, ev_pVr, ev_sI, ev_sR, ev_KC, ev_k, ev_ko, ev_pop0, ev_pops, am_ld, am_sv, am_at, am_st, am_g, List.length_cons, List.length_nil, Nat.reduceAdd, Nat.reduceLT, Nat.zero_add, if_true, if_false, and_self, true_or, or_true, true_and, and_true, not_true_eq_false, not_false_eq_true, reduceCtorEq, eq_self, Option.toList_some, Option.toList_none, List.cons_append, List.nil_append, Bool.false_eq_true]
  exact l0
end LEV
end
section
section LEV2
variable {h : am_H} {lv ta m c cap bl : Nat} {tt rr aa : Nat → Nat} {C : Nat → List Nat} {fl : Nat → Int32} {E : Nat → Nat → Int32}
theorem le_listLive (z d : Nat) {s : Int32} {r a blr n : Nat} {T0 : List Nat} (hz : z ≤ r) (hza : z ≤ a) (hl : vs_lv h lv ta m c cap bl tt rr aa C fl) (hr : vs_row h r a blr n T0) (hn : ∀ k, k < m → rr k ≠ r ∧ aa k ≠ a) (hL : ∀ k, k < c → ∀ x ∈ C k, h.1 x = some (vs_e E x)) (hT : ∀ x ∈ T0, h.1 x = some (vs_e E x)) (hroom : T0.length + (e_fl C 0 c).countP (e_live E s) ≤ n) :
    ∃ h', am_M z (d + 1 + 1 + 1 + 1) 49 [.ref lv, .int s, .ref r] h none h' ∧ vs_row h' r a blr n ((e_fl C 0 c).foldl (e_ll E s) T0) ∧ vs_ch h h' r a := by
  have hlen : ∀ (M T : List Nat), (M.foldl (e_ll E s) T).length = T.length + M.countP (e_live E s) := by
    intro M
    induction M with
    | nil => intro T; rfl
    | cons e M ih =>
      intro T
      rw [List.foldl_cons, ih, List.countP_cons]
      cases hb : e_live E s e with
      | true => simp [e_ll, hb, e_ins_len]; omega
      | false => simp [e_ll, hb]
  have hmem : ∀ (x : Nat) (M T : List Nat), x ∈ M.foldl (e_ll E s) T → x ∈ M ∨ x ∈ T := by
    intro x M
    induction M with
    | nil => intro T hx; exact Or.inr hx
    | cons e M ih =>
      intro T hx
      rw [List.foldl_cons] at hx
      rcases ih _ hx with q | q
      · exact Or.inl (List.mem_cons_of_mem _ q)
      · unfold e_ll at q
        split at q
        · rcases (e_ins_mem _ _ _ _).mp q with q | q
          · rw [q]; exact Or.inl List.mem_cons_self
          · exact Or.inr q
        · exact Or.inr q
  have outer : ∀ q k T hh, q = c - k → k ≤ c → vs_ch h hh r a → vs_row hh r a blr n T → T.length + (e_fl C k q).countP (e_live E s) ≤ n → (∀ x ∈ T, h.1 x = some (vs_e E x)) →
      ∃ h', am_R z (d + 1 + 1 + 1) 49 2 [some (.ref lv), some (.int s), some (.ref r), some (.int (nI k))] [] hh none h' ∧ vs_row h' r a blr n ((e_fl C k q).foldl (e_ll E s) T) ∧ vs_ch h h' r a := by
    intro q
    induction q with
    | zero =>
      intro k T hh hq hk hc hrT hTn hTe
      have hl2 := hl.fr hr hc hn
      obtain ⟨l1, l2, l3, ⟨G, l4, l5⟩, l6, l7, l8⟩ := hl2
      have hkc : k = c := by omega
      subst hkc
      have e1 : nI k ≤ nI k := nI_le (Nat.le_refl _) (by omega)
      refine ⟨hh, ?_, hrT, hc⟩
      rw [am_R_eq, cxh_49_2]
      simp only [am_R_eq, cx_49, en_49, rt_49, rx_aaload, rx_aload_n, rx_getfield, ev_gf, rx_goto, rx_iconst, rx_icmp_ge, rx_iinc, ev_inc, rx_iload_n, rx_invv, ev_cv, rx_istore_n, rx_return, kl_50, ev_K, ev_pI, ev_pR, ev_pVi, ev_pVr, ev_sI, ev_sR, ev_KC, ev_k, ev_ko, ev_pop0, ev_pops, am_ld, am_sv, am_at, am_st, am_g, List.length_cons, List.length_nil, Nat.reduceAdd, Nat.reduceLT, Nat.zero_add, if_true, if_false, and_self, true_or, or_true, true_and, and_true, not_true_eq_false, not_false_eq_true, reduceCtorEq, eq_self, Option.toList_some, Option.toList_none, List.cons_append, List.nil_append, Bool.false_eq_true, l1, e1]
    | succ q ih =>
      intro k T hh hq hk hc hrT hTn hTe
      have hl2 := hl.fr hr hc hn
      obtain ⟨l1, l2, l3, ⟨G, l4, l5⟩, l6, l7, l8⟩ := hl2
      have e1 : ¬ nI c ≤ nI k := nI_ge (by omega) (by omega)
      have e5 : am_ix (nI k) m = some k := ev_ix (by omega) (by omega)
      have e7 := ev_rq 3 m k (tt k) G (nI k) (by omega) e5 (l5 k (by omega))
      have t1 := l6 k (by omega)
      have r1 := l7 k (by omega)
      obtain ⟨g, h1, h2, h3, h4, h5, hne⟩ := r1.g
      have hfl : e_fl C k (q + 1) = C k ++ e_fl C (k + 1) q := rfl
      rw [hfl, List.countP_append] at hTn
      rw [hfl, List.foldl_append]
      obtain ⟨h1', m1, m2, m3⟩ := ro_listLive z d (s := s) hz hza r1 hrT (hn k (by omega)).1 (hn k (by omega)).2 (fun x hx => hc.obj hr (hL k (by omega) x hx) (by decide)) (fun x hx => hc.obj hr (hTe x hx) (by decide)) (by omega)
      obtain ⟨h', i1, i2, i3⟩ := ih (k + 1) _ h1' (by omega) (by omega) (hc.tr m3) m2 (by rw [hlen]; omega) (by
        intro x hx
        rcases hmem x _ _ hx with q | q
        · exact hL k (by omega) x q
        · exact hTe x q)
      rw [am_R_eq] at i1
      refine ⟨h', ?_, i2, i3⟩
      rw [am_R_eq, cxh_49_2]
      simp only [am_R_eq, cx_49, en_49, rt_49, rx_aaload, rx_aload_n, rx_getfield, ev_gf, rx_goto, rx_iconst, rx_icmp_ge, rx_iinc, ev_inc, rx_iload_n, rx_invv, ev_cv, rx_istore_n, rx_return, kl_50, ev_K, ev_pI, ev_pR, ev_pVi, ev_pVr, ev_sI, ev_sR, ev_KC, ev_k, ev_ko, ev_pop0, ev_pops, am_ld, am_sv, am_at, am_st, am_g, List.length_cons, List.length_nil, Nat.reduceAdd, Nat.reduceLT, Nat.zero_add, if_true, if_false, and_self, true_or, or_true, true_and, and_true, not_true_eq_false, not_false_eq_true, reduceCtorEq, eq_self, Option.toList_some, Option.toList_none, List.cons_append, List.nil_append, Bool.false_eq_true, l1, l4, e1, e7, t1, h1]
      refine am_CL_of m1 ?_
      simp only [am_R_eq, cx_49, en_49, rt_49, rx_aaload, rx_aload_n, rx_getfield, ev_gf, rx_goto, rx_iconst, rx_icmp_ge, rx_iinc, ev_inc, rx_iload_n, rx_invv, ev_cv, rx_istore_n, rx_return, kl_50, ev_K, ev_pI, ev_pR, ev_pVi, ev_pVr, ev_sI, ev_sR, ev_KC, ev_k, ev_ko, ev_pop0, ev_pops, am_ld, am_sv, am_at, am_st, am_g, List.length_cons, List.length_nil, Nat.reduceAdd, Nat.reduceLT, Nat.zero_add, if_true, if_false, and_self, true_or, or_true, true_and, and_true, not_true_eq_false, not_false_eq_true, reduceCtorEq, eq_self, Option.toList_some, Option.toList_none, List.cons_append, List.nil_append, Bool.false_eq_true, nI_ofs]
      exact i1
  obtain ⟨h', l0, l1⟩ := outer c 0 T0 h (by omega) (Nat.zero_le _) (vs_ch.rf ..) hr hroom hT
  rw [am_R_eq] at l0
  refine ⟨h', ?_, l1⟩
  rw [am_M_eq]
  simp only [am_R_eq, cx_49, en_49, rt_49, rx_aaload, rx_aload_n, rx_getfield, ev_gf, rx_goto, rx_iconst, rx_icmp_ge, rx_iinc, ev_inc, rx_iload_n, rx_invv, ev_cv, rx_istore_n, rx_return, kl_50, ev_K, ev_pI, ev_pR, ev_pVi, ev_pVr, ev_sI, ev_sR, ev_KC, ev_k, ev_ko, ev_pop0, ev_pops, am_ld, am_sv, am_at, am_st, am_g, List.length_cons, List.length_nil, Nat.reduceAdd, Nat.reduceLT, Nat.zero_add, if_true, if_false, and_self, true_or, or_true, true_and, and_true, not_true_eq_false, not_false_eq_true, reduceCtorEq, eq_self, Option.toList_some, Option.toList_none, List.cons_append, List.nil_append, Bool.false_eq_true]
  exact l0
theorem i_6 : ¬ (6 : Int32) = 0 := by decide
theorem lv_tablesFor (z d : Nat) {k : Nat} (hk : k < 1000) : am_M z (d + 1) 5 [.int (nI k)] h (some (.int (nI ((k + 5) / 6)))) h := by
  have e1 : nI k + 6 - 1 = nI (k + 5) := by
    rw [show (6 : Int32) = nI 6 from rfl, nI_add]
    exact nI_pred (k + 5)
  have e2 : nI (k + 5) / 6 = nI ((k + 5) / 6) := pk_div (a := k + 5) (d := 6) (by omega) (by omega) (by omega)
  rw [am_M_eq]
  simp only [am_R_eq, cx_5, en_5, rt_5, rx_bipush, rx_iadd, rx_iconst, rx_idiv, rx_iload_n, rx_ireturn, rx_isub, ev_K, ev_pI, ev_pR, ev_pVi, ev_pVr, ev_sI, ev_sR, ev_KC, ev_k, ev_ko, ev_pop0, ev_pops, am_ld, am_sv, am_at, am_st, am_g, List.length_cons, List.length_nil, Nat.reduceAdd, Nat.reduceLT, Nat.zero_add, if_true, if_false, and_self, true_or, or_true, true_and, and_true, not_true_eq_false, not_false_eq_true, reduceCtorEq, eq_self, Option.toList_some, Option.toList_none, List.cons_append, List.nil_append, Bool.false_eq_true, i_6, e1, e2]
def vs_chl (h h' : am_H) (lv ta m : Nat) (tt rr aa : Nat → Nat) : Prop := (∀ q, q ≠ lv → q ≠ ta → (∀ k, k < m → q ≠ tt k ∧ q ≠ rr k ∧ q ≠ aa k) → h'.1 q = h.1 q) ∧ h'.2 = h.2
theorem vs_chl.tr {h1 h2 : am_H} (p : vs_chl h h1 lv ta m tt rr aa) (q : vs_chl h1 h2 lv ta m tt rr aa) : vs_chl h h2 lv ta m tt rr aa := ⟨fun x e1 e2 e3 => by rw [q.1 x e1 e2 e3, p.1 x e1 e2 e3], by rw [q.2, p.2]⟩
theorem vs_chl.of3 {h' : am_H} {k : Nat} (hk : k < m) (p : vs_ch3 h h' (tt k) (rr k) (aa k)) : vs_chl h h' lv ta m tt rr aa := ⟨fun x _ _ e3 => p.1 x (e3 k hk).1 (e3 k hk).2.1 (e3 k hk).2.2, p.2⟩
theorem vs_chl.upl (x : am_E) : vs_chl h (am_up h lv x) lv ta m tt rr aa := ⟨fun q e1 _ _ => am_up_ne _ _ e1, rfl⟩
theorem vs_chl.obj {h' : am_H} {x k : Nat} {w : List Value} (hc : vs_chl h h' lv ta m tt rr aa) (hl : vs_lv h lv ta m c cap bl tt rr aa C fl) (hx : h.1 x = some (.inr (k, w))) (n2 : k ≠ 2) (n3 : k ≠ 3) (n4 : k ≠ 4) : h'.1 x = some (.inr (k, w)) := by
  obtain ⟨l1, l2, l3, ⟨G, l4, l5⟩, l6, l7, l8⟩ := hl
  rw [hc.1 x (am_ne hx l1 (by intro q; exact n4 (congrArg (fun e : am_E => match e with | .inr p => p.1 | .inl _ => k) q))) (am_ne hx l4 (by simp)) (fun i hi => ⟨am_ne hx (l6 i hi) (by intro q; exact n3 (congrArg (fun e : am_E => match e with | .inr p => p.1 | .inl _ => k) q)), ((l7 i hi).nex hx n2).1, ((l7 i hi).nex hx n2).2⟩)]
  exact hx
theorem vs_chl.row {h' : am_H} {r a blr n : Nat} {T : List Nat} (hc : vs_chl h h' lv ta m tt rr aa) (hl : vs_lv h lv ta m c cap bl tt rr aa C fl) (hr : vs_row h r a blr n T) (hn : ∀ k, k < m → rr k ≠ r ∧ aa k ≠ a) : vs_row h' r a blr n T := by
  obtain ⟨l1, l2, l3, ⟨G, l4, l5⟩, l6, l7, l8⟩ := hl
  obtain ⟨g, h1, h2, h3, h4, h5, hne⟩ := hr.g
  refine hr.fr (hc.1 r (am_ne h1 l1 (by simp)) (am_ne h1 l4 (by simp)) (fun i hi => ⟨am_ne h1 (l6 i hi) (by simp), (hn i hi).1.symm, ?_⟩)) (hc.1 a (am_ne h2 l1 (by simp)) (am_ne h2 l4 (by simp)) (fun i hi => ⟨am_ne h2 (l6 i hi) (by simp), ?_, (hn i hi).2.symm⟩))
  · obtain ⟨g2, k1, k2, k3, k4, k5, kne⟩ := (l7 i hi).g
    exact am_ne h1 k2 (by simp)
  · obtain ⟨g2, k1, k2, k3, k4, k5, kne⟩ := (l7 i hi).g
    exact am_ne h2 k1 (by simp)
theorem vs_lv.set {h' : am_H} {k : Nat} {L' : List Nat} {F' : Int32} (hk : k < m) (hl : vs_lv h lv ta m c cap bl tt rr aa C fl) (hc : vs_ch3 h h' (tt k) (rr k) (aa k)) (h1 : h'.1 (tt k) = some (vs_tb (rr k) F')) (h2 : vs_row h' (rr k) (aa k) bl cap L') : vs_lv h' lv ta m c cap bl tt rr aa (va_up C k L') (va_up fl k F') := by
  obtain ⟨l1, l2, l3, ⟨G, l4, l5⟩, l6, l7, l8⟩ := hl
  obtain ⟨g2, k1, k2, k3, k4, k5, kne⟩ := (l7 k hk).g
  have t1 := l6 k hk
  refine ⟨?_, l2, l3, ⟨G, ?_, l5⟩, fun i hi => ?_, fun i hi => ?_, l8⟩
  · rw [hc.1 lv (am_ne l1 t1 (by simp)) (am_ne l1 k1 (by simp)) (am_ne l1 k2 (by simp))]; exact l1
  · rw [hc.1 ta (am_ne l4 t1 (by simp)) (am_ne l4 k1 (by simp)) (am_ne l4 k2 (by simp))]; exact l4
  · by_cases hik : i = k
    · subst hik; rw [va_up_self]; exact h1
    · rw [va_up_ne _ _ hik, hc.1 _ (l8 i k hi hk hik).1 (am_ne (l6 i hi) k1 (by simp)) (am_ne (l6 i hi) k2 (by simp))]
      exact l6 i hi
  · by_cases hik : i = k
    · subst hik; rw [va_up_self]; exact h2
    · rw [va_up_ne _ _ hik]
      obtain ⟨g3, p1, p2, p3, p4, p5, pne⟩ := (l7 i hi).g
      exact (l7 i hi).fr (hc.1 _ (am_ne p1 t1 (by simp)) (l8 i k hi hk hik).2.1 (am_ne p1 k2 (by simp))) (hc.1 _ (am_ne p2 t1 (by simp)) (am_ne p2 k1 (by simp)) (l8 i k hi hk hik).2.2)
def e_ck (L : List Nat) (k : Nat) : List Nat := (L.take (min (6 * k + 6) L.length)).drop (6 * k)
theorem le_cutFrom (z d : Nat) {r a blr n : Nat} {L : List Nat} (hzl : z ≤ lv) (hzt : ∀ k, k < m → z ≤ tt k ∧ z ≤ rr k ∧ z ≤ aa k) (hl : vs_lv h lv ta m c cap bl tt rr aa C fl) (hr : vs_row h r a blr n L) (hn : ∀ k, k < m → rr k ≠ r ∧ aa k ≠ a) (hL : ∀ x ∈ L, h.1 x = some (vs_e E x)) (hcap : 6 ≤ cap) (hroom : (L.length + 5) / 6 ≤ m) :
    ∃ h' C' fl', am_M z (d + 1 + 1 + 1) 32 [.ref lv, .ref r] h none h' ∧ vs_lv h' lv ta m ((L.length + 5) / 6) cap bl tt rr aa C' fl' ∧ (∀ k, k < (L.length + 5) / 6 → C' k = e_ck L k ∧ fl' k = (e_ck L k).foldl (e_ff E) 0) ∧ vs_chl h h' lv ta m tt rr aa := by
  obtain ⟨gr, r1, r2, r3, r4, r5, rne⟩ := hr.g
  have loop : ∀ q k hh C1 fl1, q = (L.length + 5) / 6 - k → k ≤ (L.length + 5) / 6 → vs_chl h hh lv ta m tt rr aa → vs_lv hh lv ta m ((L.length + 5) / 6) cap bl tt rr aa C1 fl1 → (∀ i, i < k → C1 i = e_ck L i ∧ fl1 i = (e_ck L i).foldl (e_ff E) 0) →
      ∃ h' C' fl', am_R z (d + 1 + 1) 32 21 [some (.ref lv), some (.ref r), some (.int (nI k))] [] hh none h' ∧ vs_lv h' lv ta m ((L.length + 5) / 6) cap bl tt rr aa C' fl' ∧ (∀ k, k < (L.length + 5) / 6 → C' k = e_ck L k ∧ fl' k = (e_ck L k).foldl (e_ff E) 0) ∧ vs_chl h h' lv ta m tt rr aa := by
    intro q
    induction q with
    | zero =>
      intro k hh C1 fl1 hq hk hc hl1 hC
      have hkc : k = (L.length + 5) / 6 := by omega
      subst hkc
      have hl2 := hl1
      obtain ⟨l1, l2, l3, ⟨G, l4, l5⟩, l6, l7, l8⟩ := hl1
      have e1 : nI ((L.length + 5) / 6) ≤ nI ((L.length + 5) / 6) := nI_le (Nat.le_refl _) (by omega)
      refine ⟨hh, C1, fl1, ?_, hl2, hC, hc⟩
      rw [am_R_eq, cxh_32_21]
      simp only [am_R_eq, cx_32, en_32, rt_32, rx_aaload, rx_aload_n, rx_arraylength, ev_ln, ev_pN, rx_bipush, rx_getfield, ev_gf, rx_goto, rx_iadd, rx_iconst, rx_icmp_ge, rx_iinc, ev_inc, rx_iload_n, rx_imul, rx_invs, rx_max2, rx_min2, rx_copy2, rx_invv, ev_cv, rx_istore_n, rx_putfield, ev_pf, ev_w1, ev_KW, am_fok, am_ftv, rx_return, kl_5, kl_12, kl_33, ev_K, ev_pI, ev_pR, ev_pVi, ev_pVr, ev_sI, ev_sR, ev_KC, ev_k, ev_ko, ev_pop0, ev_pops, am_ld, am_sv, am_at, am_st, am_g, List.length_cons, List.length_nil, Nat.reduceAdd, Nat.reduceLT, Nat.zero_add, if_true, if_false, and_self, true_or, or_true, true_and, and_true, not_true_eq_false, not_false_eq_true, reduceCtorEq, eq_self, Option.toList_some, Option.toList_none, List.cons_append, List.nil_append, Bool.false_eq_true, l1, e1]
    | succ q ih =>
      intro k hh C1 fl1 hq hk hc hl1 hC
      have hl2 := hl1
      obtain ⟨l1, l2, l3, ⟨G, l4, l5⟩, l6, l7, l8⟩ := hl1
      have hkm : k < m := by omega
      have e1 : ¬ nI ((L.length + 5) / 6) ≤ nI k := nI_ge (by omega) (by omega)
      have e5 : am_ix (nI k) m = some k := ev_ix (by omega) (by omega)
      have e7 := ev_rq 3 m k (tt k) G (nI k) (by omega) e5 (l5 k (by omega))
      have e2 : nI k * 6 = nI (6 * k) := by
        rw [show (6 : Int32) = nI 6 from rfl, pk_mul, Nat.mul_comm]
      have e3 : nI (6 * k) + 6 = nI (6 * k + 6) := by rw [show (6 : Int32) = nI 6 from rfl, nI_add]
      have e4 : (if nI L.length < nI (6 * k + 6) then nI L.length else nI (6 * k + 6)) = nI (min (6 * k + 6) L.length) := by
        by_cases hq : L.length < 6 * k + 6
        · rw [if_pos (nI_lt hq (by omega)), Nat.min_eq_right (by omega)]
        · rw [if_neg (nI_nlt (by omega) (by omega)), Nat.min_eq_left (by omega)]
      have hr1 := hc.row hl hr hn
      obtain ⟨gr1, s1, s2, s3, s4, s5, sne⟩ := hr1.g
      obtain ⟨h1', m1, m2, m3, m4⟩ := ta_fillFrom z d (p := 6 * k) (u := min (6 * k + 6) L.length) (E := E) (hzt k hkm).1 (hzt k hkm).2.1 (hzt k hkm).2.2 (l6 k hkm) (l7 k hkm) hr1 (hn k hkm).1.symm (hn k hkm).2.symm (fun x hx => hc.obj hl (hL x hx) (by decide) (by decide) (by decide)) (by omega) (by omega) (by omega)
      obtain ⟨h', C', fl', i1, i2, i3, i4⟩ := ih (k + 1) h1' _ _ (by omega) (by omega) (hc.tr (vs_chl.of3 hkm m4)) (hl2.set hkm m4 m3 m2) (by
        intro i hi
        by_cases hik : i = k
        · subst hik
          rw [va_up_self, va_up_self]
          exact ⟨rfl, rfl⟩
        · rw [va_up_ne _ _ hik, va_up_ne _ _ hik]
          exact hC i (by omega))
      rw [am_R_eq] at i1
      refine ⟨h', C', fl', ?_, i2, i3, i4⟩
      have t1 := l6 k hkm
      rw [am_R_eq, cxh_32_21]
      simp only [am_R_eq, cx_32, en_32, rt_32, rx_aaload, rx_aload_n, rx_arraylength, ev_ln, ev_pN, rx_bipush, rx_getfield, ev_gf, rx_goto, rx_iadd, rx_iconst, rx_icmp_ge, rx_iinc, ev_inc, rx_iload_n, rx_imul, rx_invs, rx_max2, rx_min2, rx_copy2, rx_invv, ev_cv, rx_istore_n, rx_putfield, ev_pf, ev_w1, ev_KW, am_fok, am_ftv, rx_return, kl_5, kl_12, kl_33, ev_K, ev_pI, ev_pR, ev_pVi, ev_pVr, ev_sI, ev_sR, ev_KC, ev_k, ev_ko, ev_pop0, ev_pops, am_ld, am_sv, am_at, am_st, am_g, List.length_cons, List.length_nil, Nat.reduceAdd, Nat.reduceLT, Nat.zero_add, if_true, if_false, and_self, true_or, or_true, true_and, and_true, not_true_eq_false, not_false_eq_true, reduceCtorEq, eq_self, Option.toList_some, Option.toList_none, List.cons_append, List.nil_append, Bool.false_eq_true, l1, l4, e1, e7, e2, e3, s1]
      refine am_CL_of (ro_size z (d + 1) hr1) ?_
      simp only [am_R_eq, cx_32, en_32, rt_32, rx_aaload, rx_aload_n, rx_arraylength, ev_ln, ev_pN, rx_bipush, rx_getfield, ev_gf, rx_goto, rx_iadd, rx_iconst, rx_icmp_ge, rx_iinc, ev_inc, rx_iload_n, rx_imul, rx_invs, rx_max2, rx_min2, rx_copy2, rx_invv, ev_cv, rx_istore_n, rx_putfield, ev_pf, ev_w1, ev_KW, am_fok, am_ftv, rx_return, kl_5, kl_12, kl_33, ev_K, ev_pI, ev_pR, ev_pVi, ev_pVr, ev_sI, ev_sR, ev_KC, ev_k, ev_ko, ev_pop0, ev_pops, am_ld, am_sv, am_at, am_st, am_g, List.length_cons, List.length_nil, Nat.reduceAdd, Nat.reduceLT, Nat.zero_add, if_true, if_false, and_self, true_or, or_true, true_and, and_true, not_true_eq_false, not_false_eq_true, reduceCtorEq, eq_self, Option.toList_some, Option.toList_none, List.cons_append, List.nil_append, Bool.false_eq_true, e4, t1]
      refine am_CL_of m1 ?_
      simp only [am_R_eq, cx_32, en_32, rt_32, rx_aaload, rx_aload_n, rx_arraylength, ev_ln, ev_pN, rx_bipush, rx_getfield, ev_gf, rx_goto, rx_iadd, rx_iconst, rx_icmp_ge, rx_iinc, ev_inc, rx_iload_n, rx_imul, rx_invs, rx_max2, rx_min2, rx_copy2, rx_invv, ev_cv, rx_istore_n, rx_putfield, ev_pf, ev_w1, ev_KW, am_fok, am_ftv, rx_return, kl_5, kl_12, kl_33, ev_K, ev_pI, ev_pR, ev_pVi, ev_pVr, ev_sI, ev_sR, ev_KC, ev_k, ev_ko, ev_pop0, ev_pops, am_ld, am_sv, am_at, am_st, am_g, List.length_cons, List.length_nil, Nat.reduceAdd, Nat.reduceLT, Nat.zero_add, if_true, if_false, and_self, true_or, or_true, true_and, and_true, not_true_eq_false, not_false_eq_true, reduceCtorEq, eq_self, Option.toList_some, Option.toList_none, List.cons_append, List.nil_append, Bool.false_eq_true, nI_ofs]
      exact i1
  have hl0 := hl
  obtain ⟨l1, l2, l3, ⟨G, l4, l5⟩, l6, l7, l8⟩ := hl
  have e4 : (if nI m < nI ((L.length + 5) / 6) then nI m else nI ((L.length + 5) / 6)) = nI ((L.length + 5) / 6) := by
    rw [if_neg (nI_nlt (by omega) (by omega))]
  have hl1 : vs_lv (am_up h lv (vs_lo ta ((L.length + 5) / 6))) lv ta m ((L.length + 5) / 6) cap bl tt rr aa C fl := by
    refine ⟨am_up_at _ _ _, hroom, l3, ⟨G, ?_, l5⟩, fun k hk => ?_, fun k hk => (l7 k hk).up _ l1 (by decide), l8⟩
    · rw [am_up_ne _ _ (am_ne l4 l1 (by simp))]; exact l4
    · rw [am_up_ne _ _ (am_ne (l6 k hk) l1 (by simp))]; exact l6 k hk
  obtain ⟨h', C', fl', i1, i2⟩ := loop ((L.length + 5) / 6) 0 _ C fl (by omega) (Nat.zero_le _) (vs_chl.upl _) hl1 (fun i hi => absurd hi (Nat.not_lt_zero _))
  rw [am_R_eq] at i1
  refine ⟨h', C', fl', ?_, i2⟩
  rw [am_M_eq]
  simp only [am_R_eq, cx_32, en_32, rt_32, rx_aaload, rx_aload_n, rx_arraylength, ev_ln, ev_pN, rx_bipush, rx_getfield, ev_gf, rx_goto, rx_iadd, rx_iconst, rx_icmp_ge, rx_iinc, ev_inc, rx_iload_n, rx_imul, rx_invs, rx_max2, rx_min2, rx_copy2, rx_invv, ev_cv, rx_istore_n, rx_putfield, ev_pf, ev_w1, ev_KW, am_fok, am_ftv, rx_return, kl_5, kl_12, kl_33, ev_K, ev_pI, ev_pR, ev_pVi, ev_pVr, ev_sI, ev_sR, ev_KC, ev_k, ev_ko, ev_pop0, ev_pops, am_ld, am_sv, am_at, am_st, am_g, List.length_cons, List.length_nil, Nat.reduceAdd, Nat.reduceLT, Nat.zero_add, if_true, if_false, and_self, true_or, or_true, true_and, and_true, not_true_eq_false, not_false_eq_true, reduceCtorEq, eq_self, Option.toList_some, Option.toList_none, List.cons_append, List.nil_append, Bool.false_eq_true, l1, r1]
  refine am_CL_of (ro_size z (d + 1) hr) ?_
  simp only [am_R_eq, cx_32, en_32, rt_32, rx_aaload, rx_aload_n, rx_arraylength, ev_ln, ev_pN, rx_bipush, rx_getfield, ev_gf, rx_goto, rx_iadd, rx_iconst, rx_icmp_ge, rx_iinc, ev_inc, rx_iload_n, rx_imul, rx_invs, rx_max2, rx_min2, rx_copy2, rx_invv, ev_cv, rx_istore_n, rx_putfield, ev_pf, ev_w1, ev_KW, am_fok, am_ftv, rx_return, kl_5, kl_12, kl_33, ev_K, ev_pI, ev_pR, ev_pVi, ev_pVr, ev_sI, ev_sR, ev_KC, ev_k, ev_ko, ev_pop0, ev_pops, am_ld, am_sv, am_at, am_st, am_g, List.length_cons, List.length_nil, Nat.reduceAdd, Nat.reduceLT, Nat.zero_add, if_true, if_false, and_self, true_or, or_true, true_and, and_true, not_true_eq_false, not_false_eq_true, reduceCtorEq, eq_self, Option.toList_some, Option.toList_none, List.cons_append, List.nil_append, Bool.false_eq_true, l1]
  refine am_CL_of (lv_tablesFor z (d + 1) (by omega)) ?_
  simp only [am_R_eq, cx_32, en_32, rt_32, rx_aaload, rx_aload_n, rx_arraylength, ev_ln, ev_pN, rx_bipush, rx_getfield, ev_gf, rx_goto, rx_iadd, rx_iconst, rx_icmp_ge, rx_iinc, ev_inc, rx_iload_n, rx_imul, rx_invs, rx_max2, rx_min2, rx_copy2, rx_invv, ev_cv, rx_istore_n, rx_putfield, ev_pf, ev_w1, ev_KW, am_fok, am_ftv, rx_return, kl_5, kl_12, kl_33, ev_K, ev_pI, ev_pR, ev_pVi, ev_pVr, ev_sI, ev_sR, ev_KC, ev_k, ev_ko, ev_pop0, ev_pops, am_ld, am_sv, am_at, am_st, am_g, List.length_cons, List.length_nil, Nat.reduceAdd, Nat.reduceLT, Nat.zero_add, if_true, if_false, and_self, true_or, or_true, true_and, and_true, not_true_eq_false, not_false_eq_true, reduceCtorEq, eq_self, Option.toList_some, Option.toList_none, List.cons_append, List.nil_append, Bool.false_eq_true, l1, l4, ev_ln, ev_pN, e4, hzl, Nat.reduceLeDiff, beq_self_eq_true]
  exact i1
end LEV2
end
section
section LOG
variable {h : am_H} {lg : Nat} {A : Nat → Nat} {tk cb tb sb : Nat → Nat} {tl c un : Nat} {E : Nat → Nat → Int32}
abbrev vs_i (n : Nat) (f : Nat → Nat) : am_E := .inl (0, n, .inl (fun i => nI (f i)))
abbrev vs_lgo (A : Nat → Nat) (tl c un : Nat) : am_E := .inr (5, [.ref (A 0), .int (nI tl), .int (nI c), .ref (A 1), .ref (A 2), .ref (A 3), .int (nI un)])
theorem nI_upd (f : Nat → Nat) (k v : Nat) : upd (fun i => nI (f i)) k (nI v) = fun i => nI (va_up f k v i) := by
  funext i
  unfold upd va_up
  split <;> rfl
def vs_lg (h : am_H) (lg : Nat) (A : Nat → Nat) (tk cb tb sb : Nat → Nat) (tl c un : Nat) : Prop :=
  h.1 lg = some (vs_lgo A tl c un) ∧ h.1 (A 0) = some (vs_i 8 tk) ∧ h.1 (A 1) = some (vs_i 8 cb) ∧ h.1 (A 2) = some (vs_i 8 tb) ∧ h.1 (A 3) = some (vs_i 8 sb) ∧ (1 ≤ c ∧ c ≤ 8 ∧ un ≤ 8 ∧ tl ≤ 10000) ∧ (∀ i, tk i ≤ 100) ∧ ∀ i j, i < 4 → j < 4 → i ≠ j → A i ≠ A j
def vs_chg (h h' : am_H) (lg : Nat) (A : Nat → Nat) : Prop := (∀ q, q ≠ lg → (∀ i, i < 4 → q ≠ A i) → h'.1 q = h.1 q) ∧ h'.2 = h.2
theorem vs_lg.ne (hl : vs_lg h lg A tk cb tb sb tl c un) : ∀ i, i < 4 → lg ≠ A i := by
  obtain ⟨h0, h1, h2, h3, h4, -⟩ := hl
  intro i hi
  rcases (by omega : i = 0 ∨ i = 1 ∨ i = 2 ∨ i = 3) with rfl | rfl | rfl | rfl
  · exact am_ne h0 h1 (by simp)
  · exact am_ne h0 h2 (by simp)
  · exact am_ne h0 h3 (by simp)
  · exact am_ne h0 h4 (by simp)
theorem lg_segmentCount (z d : Nat) (hl : vs_lg h lg A tk cb tb sb tl c un) : am_M z (d + 1) 47 [.ref lg] h (some (.int (nI c))) h := by
  obtain ⟨h0, -⟩ := hl
  rw [am_M_eq]
  simp only [am_R_eq, cx_47, en_47, rt_47, rx_aload_n, rx_getfield, ev_gf, rx_ireturn, ev_K, ev_pI, ev_pR, ev_pVi, ev_pVr, ev_sI, ev_sR, ev_KC, ev_k, ev_ko, ev_pop0, ev_pops, am_ld, am_sv, am_at, am_st, am_g, List.length_cons, List.length_nil, Nat.reduceAdd, Nat.reduceLT, Nat.zero_add, if_true, if_false, and_self, true_or, or_true, true_and, and_true, not_true_eq_false, not_false_eq_true, reduceCtorEq, eq_self, Option.toList_some, Option.toList_none, List.cons_append, List.nil_append, Bool.false_eq_true, h0]
theorem lg_unsyncedCount (z d : Nat) (hl : vs_lg h lg A tk cb tb sb tl c un) : am_M z (d + 1) 64 [.ref lg] h (some (.int (nI un))) h := by
  obtain ⟨h0, -⟩ := hl
  rw [am_M_eq]
  simp only [am_R_eq, cx_64, en_64, rt_64, rx_aload_n, rx_getfield, ev_gf, rx_ireturn, ev_K, ev_pI, ev_pR, ev_pVi, ev_pVr, ev_sI, ev_sR, ev_KC, ev_k, ev_ko, ev_pop0, ev_pops, am_ld, am_sv, am_at, am_st, am_g, List.length_cons, List.length_nil, Nat.reduceAdd, Nat.reduceLT, Nat.zero_add, if_true, if_false, and_self, true_or, or_true, true_and, and_true, not_true_eq_false, not_false_eq_true, reduceCtorEq, eq_self, Option.toList_some, Option.toList_none, List.cons_append, List.nil_append, Bool.false_eq_true, h0]
theorem lg_numberOf (z d : Nat) {k : Nat} (hl : vs_lg h lg A tk cb tb sb tl c un) : am_M z (d + 1) 41 [.ref lg, .int (nI k)] h (some (.int (nI (tl + k)))) h := by
  obtain ⟨h0, -⟩ := hl
  have e1 : nI tl + nI k = nI (tl + k) := nI_add _ _
  rw [am_M_eq]
  simp only [am_R_eq, cx_41, en_41, rt_41, rx_aload_n, rx_getfield, ev_gf, rx_iadd, rx_iload_n, rx_ireturn, ev_K, ev_pI, ev_pR, ev_pVi, ev_pVr, ev_sI, ev_sR, ev_KC, ev_k, ev_ko, ev_pop0, ev_pops, am_ld, am_sv, am_at, am_st, am_g, List.length_cons, List.length_nil, Nat.reduceAdd, Nat.reduceLT, Nat.zero_add, if_true, if_false, and_self, true_or, or_true, true_and, and_true, not_true_eq_false, not_false_eq_true, reduceCtorEq, eq_self, Option.toList_some, Option.toList_none, List.cons_append, List.nil_append, Bool.false_eq_true, h0, e1]
theorem lg_cellsTakenOf (z d : Nat) {k : Nat} (hk : k < c) (hl : vs_lg h lg A tk cb tb sb tl c un) : am_M z (d + 1) 87 [.ref lg, .int (nI k)] h (some (.int (nI (tk k)))) h := by
  obtain ⟨h0, h1, h2, h3, h4, hb, hk2, hA⟩ := hl
  have e1 : ¬ nI k < 0 := nI_pos (by omega)
  have e2 : ¬ nI c ≤ nI k := nI_ge hk (by omega)
  have e3 := ev_ri 0 8 k (fun i => nI (tk i)) (nI k) (ev_ix (by omega) (by omega))
  rw [am_M_eq]
  simp only [am_R_eq, cx_87, en_87, rt_87, rx_aload_n, rx_getfield, ev_gf, rx_goto, rx_iaload, rx_iconst, rx_icmp_ge, rx_if_lt, rx_iload_n, rx_ireturn, ev_K, ev_pI, ev_pR, ev_pVi, ev_pVr, ev_sI, ev_sR, ev_KC, ev_k, ev_ko, ev_pop0, ev_pops, am_ld, am_sv, am_at, am_st, am_g, List.length_cons, List.length_nil, Nat.reduceAdd, Nat.reduceLT, Nat.zero_add, if_true, if_false, and_self, true_or, or_true, true_and, and_true, not_true_eq_false, not_false_eq_true, reduceCtorEq, eq_self, Option.toList_some, Option.toList_none, List.cons_append, List.nil_append, Bool.false_eq_true, h0, h1, e1, e2, e3]
theorem lg_needsNewHead (z d : Nat) {v : Nat} (hv : v ≤ 100) (hl : vs_lg h lg A tk cb tb sb tl c un) : am_M z (d + 1) 17 [.ref lg, .int (nI v)] h (some (.int (if 16 < tk (c - 1) + 1 + v then 1 else 0))) h := by
  obtain ⟨h0, h1, h2, h3, h4, hb, hk2, hA⟩ := hl
  have e0 : nI c - 1 = nI (c - 1) := by
    rw [show c = (c - 1) + 1 by omega, nI_pred]; congr 1
  have e3 := ev_ri 0 8 (c - 1) (fun i => nI (tk i)) (nI (c - 1)) (ev_ix (by omega) (by omega))
  have e4 : nI (tk (c - 1)) + 1 + nI v = nI (tk (c - 1) + 1 + v) := by rw [nI_1, nI_add]
  have hb2 := hk2 (c - 1)
  rw [am_M_eq]
  by_cases c1 : 16 < tk (c - 1) + 1 + v
  · have e5 : ¬ nI (tk (c - 1) + 1 + v) ≤ 16 := nI_ge (a := 16) c1 (by omega)
    simp only [am_R_eq, cx_17, en_17, rt_17, rx_aload_n, rx_bipush, rx_getfield, ev_gf, rx_goto, rx_iadd, rx_iaload, rx_iconst, rx_icmp_le, rx_iload_n, rx_ireturn, rx_isub, ev_K, ev_pI, ev_pR, ev_pVi, ev_pVr, ev_sI, ev_sR, ev_KC, ev_k, ev_ko, ev_pop0, ev_pops, am_ld, am_sv, am_at, am_st, am_g, List.length_cons, List.length_nil, Nat.reduceAdd, Nat.reduceLT, Nat.zero_add, if_true, if_false, and_self, true_or, or_true, true_and, and_true, not_true_eq_false, not_false_eq_true, reduceCtorEq, eq_self, Option.toList_some, Option.toList_none, List.cons_append, List.nil_append, Bool.false_eq_true, h0, h1, e0, e3, e4, e5, b11, c1]
  · have e5 : nI (tk (c - 1) + 1 + v) ≤ 16 := nI_le (b := 16) (by omega) (by omega)
    simp only [am_R_eq, cx_17, en_17, rt_17, rx_aload_n, rx_bipush, rx_getfield, ev_gf, rx_goto, rx_iadd, rx_iaload, rx_iconst, rx_icmp_le, rx_iload_n, rx_ireturn, rx_isub, ev_K, ev_pI, ev_pR, ev_pVi, ev_pVr, ev_sI, ev_sR, ev_KC, ev_k, ev_ko, ev_pop0, ev_pops, am_ld, am_sv, am_at, am_st, am_g, List.length_cons, List.length_nil, Nat.reduceAdd, Nat.reduceLT, Nat.zero_add, if_true, if_false, and_self, true_or, or_true, true_and, and_true, not_true_eq_false, not_false_eq_true, reduceCtorEq, eq_self, Option.toList_some, Option.toList_none, List.cons_append, List.nil_append, Bool.false_eq_true, h0, h1, e0, e3, e4, e5, b00, c1]
theorem lg_isFullFor (z d : Nat) {v : Nat} (hv : v ≤ 100) (hl : vs_lg h lg A tk cb tb sb tl c un) : am_M z (d + 1 + 1) 16 [.ref lg, .int (nI v)] h (some (.int (if 16 < tk (c - 1) + 1 + v ∧ 8 ≤ c then 1 else 0))) h := by
  have q1 := lg_needsNewHead z d hv hl
  obtain ⟨h0, h1, h2, h3, h4, hb, hk2, hA⟩ := hl
  rw [am_M_eq]
  simp only [am_R_eq, cx_16, en_16, rt_16, rx_aload_n, rx_bipush, rx_getfield, ev_gf, rx_goto, rx_iconst, rx_icmp_lt, rx_if_eq, rx_iload_n, rx_invv, ev_cv, rx_ireturn, kl_17, ev_K, ev_pI, ev_pR, ev_pVi, ev_pVr, ev_sI, ev_sR, ev_KC, ev_k, ev_ko, ev_pop0, ev_pops, am_ld, am_sv, am_at, am_st, am_g, List.length_cons, List.length_nil, Nat.reduceAdd, Nat.reduceLT, Nat.zero_add, if_true, if_false, and_self, true_or, or_true, true_and, and_true, not_true_eq_false, not_false_eq_true, reduceCtorEq, eq_self, Option.toList_some, Option.toList_none, List.cons_append, List.nil_append, Bool.false_eq_true, h0]
  refine am_CL_of q1 ?_
  by_cases c1 : 16 < tk (c - 1) + 1 + v
  · by_cases c2 : 8 ≤ c
    · have e5 : ¬ nI c < 8 := nI_nlt (b := 8) c2 (by omega)
      simp only [am_R_eq, cx_16, en_16, rt_16, rx_aload_n, rx_bipush, rx_getfield, ev_gf, rx_goto, rx_iconst, rx_icmp_lt, rx_if_eq, rx_iload_n, rx_invv, ev_cv, rx_ireturn, kl_17, ev_K, ev_pI, ev_pR, ev_pVi, ev_pVr, ev_sI, ev_sR, ev_KC, ev_k, ev_ko, ev_pop0, ev_pops, am_ld, am_sv, am_at, am_st, am_g, List.length_cons, List.length_nil, Nat.reduceAdd, Nat.reduceLT, Nat.zero_add, if_true, if_false, and_self, true_or, or_true, true_and, and_true, not_true_eq_false, not_false_eq_true, reduceCtorEq, eq_self, Option.toList_some, Option.toList_none, List.cons_append, List.nil_append, Bool.false_eq_true, h0, c1, c2, e5, i_10, b11]
    · have e5 : nI c < 8 := nI_lt (b := 8) (by omega) (by omega)
      simp only [am_R_eq, cx_16, en_16, rt_16, rx_aload_n, rx_bipush, rx_getfield, ev_gf, rx_goto, rx_iconst, rx_icmp_lt, rx_if_eq, rx_iload_n, rx_invv, ev_cv, rx_ireturn, kl_17, ev_K, ev_pI, ev_pR, ev_pVi, ev_pVr, ev_sI, ev_sR, ev_KC, ev_k, ev_ko, ev_pop0, ev_pops, am_ld, am_sv, am_at, am_st, am_g, List.length_cons, List.length_nil, Nat.reduceAdd, Nat.reduceLT, Nat.zero_add, if_true, if_false, and_self, true_or, or_true, true_and, and_true, not_true_eq_false, not_false_eq_true, reduceCtorEq, eq_self, Option.toList_some, Option.toList_none, List.cons_append, List.nil_append, Bool.false_eq_true, h0, c1, c2, e5, i_10, b00, and_false]
  · simp only [am_R_eq, cx_16, en_16, rt_16, rx_aload_n, rx_bipush, rx_getfield, ev_gf, rx_goto, rx_iconst, rx_icmp_lt, rx_if_eq, rx_iload_n, rx_invv, ev_cv, rx_ireturn, kl_17, ev_K, ev_pI, ev_pR, ev_pVi, ev_pVr, ev_sI, ev_sR, ev_KC, ev_k, ev_ko, ev_pop0, ev_pops, am_ld, am_sv, am_at, am_st, am_g, List.length_cons, List.length_nil, Nat.reduceAdd, Nat.reduceLT, Nat.zero_add, if_true, if_false, and_self, true_or, or_true, true_and, and_true, not_true_eq_false, not_false_eq_true, reduceCtorEq, eq_self, Option.toList_some, Option.toList_none, List.cons_append, List.nil_append, Bool.false_eq_true, h0, c1, b00, false_and]
theorem lg_syncAll (z d : Nat) (hz : z ≤ lg) (hl : vs_lg h lg A tk cb tb sb tl c un) : ∃ h', am_M z (d + 1) 36 [.ref lg] h (some (.int (nI un))) h' ∧ vs_lg h' lg A tk cb tb sb tl c 0 ∧ vs_chg h h' lg A := by
  have hne := hl.ne
  obtain ⟨h0, h1, h2, h3, h4, hb, hk2, hA⟩ := hl
  refine ⟨am_up h lg (vs_lgo A tl c 0), ?_, ⟨am_up_at _ _ _, ?_, ?_, ?_, ?_, ⟨hb.1, hb.2.1, Nat.zero_le _, hb.2.2.2⟩, hk2, hA⟩, ⟨fun q e1 _ => am_up_ne _ _ e1, rfl⟩⟩
  · rw [am_M_eq]
    simp only [am_R_eq, cx_36, en_36, rt_36, rx_aload_n, rx_getfield, ev_gf, rx_iconst, rx_iload_n, rx_ireturn, rx_istore_n, rx_putfield, ev_pf, ev_w1, ev_KW, am_fok, am_ftv, ev_K, ev_pI, ev_pR, ev_pVi, ev_pVr, ev_sI, ev_sR, ev_KC, ev_k, ev_ko, ev_pop0, ev_pops, am_ld, am_sv, am_at, am_st, am_g, List.length_cons, List.length_nil, Nat.reduceAdd, Nat.reduceLT, Nat.zero_add, if_true, if_false, and_self, true_or, or_true, true_and, and_true, not_true_eq_false, not_false_eq_true, reduceCtorEq, eq_self, Option.toList_some, Option.toList_none, List.cons_append, List.nil_append, Bool.false_eq_true, h0, hz, Nat.reduceLeDiff, beq_self_eq_true]
    rfl
  · rw [am_up_ne _ _ (hne 0 (by omega)).symm]; exact h1
  · rw [am_up_ne _ _ (hne 1 (by omega)).symm]; exact h2
  · rw [am_up_ne _ _ (hne 2 (by omega)).symm]; exact h3
  · rw [am_up_ne _ _ (hne 3 (by omega)).symm]; exact h4
theorem lg_latestSerialBefore (z d : Nat) {k : Nat} (hk : k < un) (hl : vs_lg h lg A tk cb tb sb tl c un) : am_M z (d + 1) 66 [.ref lg, .int (nI k)] h (some (.int (nI (sb k)))) h := by
  obtain ⟨h0, h1, h2, h3, h4, hb, hk2, hA⟩ := hl
  have e1 : ¬ nI k < 0 := nI_pos (by omega)
  have e2 : ¬ nI un ≤ nI k := nI_ge hk (by omega)
  have e3 := ev_ri 0 8 k (fun i => nI (sb i)) (nI k) (ev_ix (by omega) (by omega))
  rw [am_M_eq]
  simp only [am_R_eq, cx_66, en_66, rt_66, rx_aload_n, rx_getfield, ev_gf, rx_goto, rx_iaload, rx_iconst, rx_icmp_ge, rx_if_lt, rx_iload_n, rx_ireturn, ev_K, ev_pI, ev_pR, ev_pVi, ev_pVr, ev_sI, ev_sR, ev_KC, ev_k, ev_ko, ev_pop0, ev_pops, am_ld, am_sv, am_at, am_st, am_g, List.length_cons, List.length_nil, Nat.reduceAdd, Nat.reduceLT, Nat.zero_add, if_true, if_false, and_self, true_or, or_true, true_and, and_true, not_true_eq_false, not_false_eq_true, reduceCtorEq, eq_self, Option.toList_some, Option.toList_none, List.cons_append, List.nil_append, Bool.false_eq_true, h0, h4, e1, e2, e3]
theorem vs_lg.set0 {tk' : Nat → Nat} {c' un' tl' : Nat} (hl : vs_lg h lg A tk cb tb sb tl c un) (hb : 1 ≤ c' ∧ c' ≤ 8 ∧ un' ≤ 8 ∧ tl' ≤ 10000) (hk : ∀ i, tk' i ≤ 100) : vs_lg (am_up (am_up h (A 0) (vs_i 8 tk')) lg (vs_lgo A tl' c' un')) lg A tk' cb tb sb tl' c' un' ∧ vs_chg h (am_up (am_up h (A 0) (vs_i 8 tk')) lg (vs_lgo A tl' c' un')) lg A := by
  have hne := hl.ne
  obtain ⟨h0, h1, h2, h3, h4, hb0, hk2, hA⟩ := hl
  refine ⟨⟨am_up_at _ _ _, ?_, ?_, ?_, ?_, hb, hk, hA⟩, ⟨fun q e1 e2 => ?_, rfl⟩⟩
  · rw [am_up_ne _ _ (hne 0 (by omega)).symm, am_up_at]
  · rw [am_up_ne _ _ (hne 1 (by omega)).symm, am_up_ne _ _ (hA 1 0 (by omega) (by omega) (by omega))]; exact h2
  · rw [am_up_ne _ _ (hne 2 (by omega)).symm, am_up_ne _ _ (hA 2 0 (by omega) (by omega) (by omega))]; exact h3
  · rw [am_up_ne _ _ (hne 3 (by omega)).symm, am_up_ne _ _ (hA 3 0 (by omega) (by omega) (by omega))]; exact h4
  · rw [am_up_ne _ _ e1, am_up_ne _ _ (e2 0 (by omega))]
theorem lg_beginRecord (z d : Nat) {v : Nat} (hv : v ≤ 100) (hz : z ≤ lg) (hz0 : z ≤ A 0) (hl : vs_lg h lg A tk cb tb sb tl c un) (ht : tk (c - 1) < 90) (hf : 16 < tk (c - 1) + 1 + v → c < 8) :
    ∃ h', am_M z (d + 1 + 1) 39 [.ref lg, .int (nI v)] h none h' ∧ vs_lg h' lg A (if 16 < tk (c - 1) + 1 + v then va_up tk c 1 else va_up tk (c - 1) (tk (c - 1) + 1)) cb tb sb tl (if 16 < tk (c - 1) + 1 + v then c + 1 else c) un ∧ vs_chg h h' lg A := by
  have q1 := lg_needsNewHead z d hv hl
  have hl0 := hl
  have hne := hl.ne
  obtain ⟨h0, h1, h2, h3, h4, hb, hk2, hA⟩ := hl
  have n0 := hne 0 (by omega)
  by_cases c1 : 16 < tk (c - 1) + 1 + v
  · have hc8 := hf c1
    rw [if_pos c1, if_pos c1]
    obtain ⟨p1, p2⟩ := hl0.set0 (tk' := va_up tk c 1) (c' := c + 1) (un' := un) (tl' := tl) ⟨by omega, by omega, hb.2.2.1, hb.2.2.2⟩ (by intro i; unfold va_up; split; omega; exact hk2 i)
    refine ⟨_, ?_, p1, p2⟩
    have e5 : ¬ (8 : Int32) ≤ nI c := nI_ge (b := 8) hc8 (by omega)
    have e3 := ev_wi 0 8 c (fun i => nI (tk i)) (nI c) 0 (ev_ix (by omega) (by omega))
    have e6 : nI (c + 1) - 1 = nI c := nI_pred c
    have e7 := ev_ri 0 8 c (upd (fun i => nI (tk i)) c 0) (nI c) (ev_ix (by omega) (by omega))
    have e8 : upd (fun i => nI (tk i)) c 0 c + 1 = nI 1 := by rw [pk_us]; rfl
    have e9 := ev_wi 0 8 c (upd (fun i => nI (tk i)) c 0) (nI c) (nI 1) (ev_ix (by omega) (by omega))
    have e10 : upd (upd (fun i => nI (tk i)) c 0) c (nI 1) = fun i => nI (va_up tk c 1 i) := by
      rw [← nI_upd]
      funext i
      unfold upd
      split <;> rfl
    have e11 : ∀ x y w, am_up (am_up (am_up h (A 0) x) lg w) (A 0) y = am_up (am_up h (A 0) y) lg w := by
      intro x y w
      rw [am_up_cm _ _ _ n0, am_up_up]
    rw [am_M_eq]
    simp only [am_R_eq, cx_39, en_39, rt_39, rx_aload_n, rx_bipush, rx_dup_i, rx_dup_r, rx_dup2, rx_getfield, ev_gf, rx_iadd, rx_iaload, rx_iastore, ev_w1, ev_KW, rx_iconst, rx_icmp_ge, rx_if_eq, rx_iload_n, rx_invv, ev_cv, rx_isub, rx_putfield, ev_pf, am_fok, am_ftv, rx_return, kl_17, ev_K, ev_pI, ev_pR, ev_pVi, ev_pVr, ev_sI, ev_sR, ev_KC, ev_k, ev_ko, ev_pop0, ev_pops, am_ld, am_sv, am_at, am_st, am_g, List.length_cons, List.length_nil, Nat.reduceAdd, Nat.reduceLT, Nat.zero_add, if_true, if_false, and_self, true_or, or_true, true_and, and_true, not_true_eq_false, not_false_eq_true, reduceCtorEq, eq_self, Option.toList_some, Option.toList_none, List.cons_append, List.nil_append, Bool.false_eq_true, h0]
    refine am_CL_of q1 ?_
    simp only [am_R_eq, cx_39, en_39, rt_39, rx_aload_n, rx_bipush, rx_dup_i, rx_dup_r, rx_dup2, rx_getfield, ev_gf, rx_iadd, rx_iaload, rx_iastore, ev_w1, ev_KW, rx_iconst, rx_icmp_ge, rx_if_eq, rx_iload_n, rx_invv, ev_cv, rx_isub, rx_putfield, ev_pf, am_fok, am_ftv, rx_return, kl_17, ev_K, ev_pI, ev_pR, ev_pVi, ev_pVr, ev_sI, ev_sR, ev_KC, ev_k, ev_ko, ev_pop0, ev_pops, am_ld, am_sv, am_at, am_st, am_g, List.length_cons, List.length_nil, Nat.reduceAdd, Nat.reduceLT, Nat.zero_add, if_true, if_false, and_self, true_or, or_true, true_and, and_true, not_true_eq_false, not_false_eq_true, reduceCtorEq, eq_self, Option.toList_some, Option.toList_none, List.cons_append, List.nil_append, Bool.false_eq_true, h0, h1, c1, i_10, e5, e3, hz, hz0, n0, n0.symm, am_up_at, am_up_ne, ne_eq, nI_ofs, Nat.reduceLeDiff, beq_self_eq_true, e6, e7, e8, e9, e10, e11]
  · rw [if_neg c1, if_neg c1]
    obtain ⟨p1, p2⟩ := hl0.set0 (tk' := va_up tk (c - 1) (tk (c - 1) + 1)) (c' := c) (un' := un) (tl' := tl) ⟨by omega, by omega, hb.2.2.1, hb.2.2.2⟩ (by intro i; unfold va_up; split; omega; exact hk2 i)
    refine ⟨_, ?_, p1, p2⟩
    have e0 : nI c - 1 = nI (c - 1) := by
      rw [show c = (c - 1) + 1 by omega, nI_pred]; congr 1
    have e7 := ev_ri 0 8 (c - 1) (fun i => nI (tk i)) (nI (c - 1)) (ev_ix (by omega) (by omega))
    have e9 := ev_wi 0 8 (c - 1) (fun i => nI (tk i)) (nI (c - 1)) (nI (tk (c - 1) + 1)) (ev_ix (by omega) (by omega))
    have e11 : am_up (am_up h (A 0) (vs_i 8 (va_up tk (c - 1) (tk (c - 1) + 1)))) lg (vs_lgo A tl c un) = am_up h (A 0) (vs_i 8 (va_up tk (c - 1) (tk (c - 1) + 1))) := am_up_self (by rw [am_up_ne _ _ n0]; exact h0)
    rw [e11, am_M_eq]
    simp only [am_R_eq, cx_39, en_39, rt_39, rx_aload_n, rx_bipush, rx_dup_i, rx_dup_r, rx_dup2, rx_getfield, ev_gf, rx_iadd, rx_iaload, rx_iastore, ev_w1, ev_KW, rx_iconst, rx_icmp_ge, rx_if_eq, rx_iload_n, rx_invv, ev_cv, rx_isub, rx_putfield, ev_pf, am_fok, am_ftv, rx_return, kl_17, ev_K, ev_pI, ev_pR, ev_pVi, ev_pVr, ev_sI, ev_sR, ev_KC, ev_k, ev_ko, ev_pop0, ev_pops, am_ld, am_sv, am_at, am_st, am_g, List.length_cons, List.length_nil, Nat.reduceAdd, Nat.reduceLT, Nat.zero_add, if_true, if_false, and_self, true_or, or_true, true_and, and_true, not_true_eq_false, not_false_eq_true, reduceCtorEq, eq_self, Option.toList_some, Option.toList_none, List.cons_append, List.nil_append, Bool.false_eq_true, h0]
    refine am_CL_of q1 ?_
    simp only [am_R_eq, cx_39, en_39, rt_39, rx_aload_n, rx_bipush, rx_dup_i, rx_dup_r, rx_dup2, rx_getfield, ev_gf, rx_iadd, rx_iaload, rx_iastore, ev_w1, ev_KW, rx_iconst, rx_icmp_ge, rx_if_eq, rx_iload_n, rx_invv, ev_cv, rx_isub, rx_putfield, ev_pf, am_fok, am_ftv, rx_return, kl_17, ev_K, ev_pI, ev_pR, ev_pVi, ev_pVr, ev_sI, ev_sR, ev_KC, ev_k, ev_ko, ev_pop0, ev_pops, am_ld, am_sv, am_at, am_st, am_g, List.length_cons, List.length_nil, Nat.reduceAdd, Nat.reduceLT, Nat.zero_add, if_true, if_false, and_self, true_or, or_true, true_and, and_true, not_true_eq_false, not_false_eq_true, reduceCtorEq, eq_self, Option.toList_some, Option.toList_none, List.cons_append, List.nil_append, Bool.false_eq_true, h0, h1, c1, hz0, nI_ofs, e0, e7, e9, nI_upd]
end LOG
end
section
section LOG2
variable {h : am_H} {lg : Nat} {A : Nat → Nat} {tk cb tb sb : Nat → Nat} {tl c un : Nat} {E : Nat → Nat → Int32}
def e_up (E : Nat → Nat → Int32) (e k : Nat) (v : Int32) : Nat → Nat → Int32 := fun a j => if a = e ∧ j = k then v else E a j
theorem e_up_s (E : Nat → Nat → Int32) (e k : Nat) (v : Int32) : e_up E e k v e k = v := by simp [e_up]
theorem e_up_a (E : Nat → Nat → Int32) {e a : Nat} (k j : Nat) (v : Int32) (ha : a ≠ e) : e_up E e k v a j = E a j := by simp [e_up, ha]
theorem e_up_k (E : Nat → Nat → Int32) (e a : Nat) {k j : Nat} (v : Int32) (hj : j ≠ k) : e_up E e k v a j = E a j := by simp [e_up, hj]
def e_plc (E : Nat → Nat → Int32) (e : Nat) (s k : Int32) : Nat → Nat → Int32 := e_up (e_up E e 6 s) e 7 k
theorem e_plc_cell (E : Nat → Nat → Int32) (e : Nat) (s k : Int32) : vs_e (e_plc E e s k) e = .inr (1, [.int (E e 0), .int (E e 1), .int (E e 2), .int (E e 3), .int (E e 4), .int (E e 5), .int s, .int k]) := by
  simp [vs_e, e_plc, e_up]
theorem e_plc_ne (E : Nat → Nat → Int32) {e a : Nat} (s k : Int32) (j : Nat) (ha : a ≠ e) : e_plc E e s k a j = E a j := by simp [e_plc, e_up, ha]
theorem lg_place (z d : Nat) {e : Nat} (hze : z ≤ e) (hz0 : z ≤ A 0) (hl : vs_lg h lg A tk cb tb sb tl c un) (ht : tk (c - 1) < 90) (he : h.1 e = some (vs_e E e)) :
    ∃ h', am_M z (d + 1 + 1) 40 [.ref lg, .ref e] h none h' ∧ h' = am_up (am_up h e (vs_e (e_plc E e (nI (tl + (c - 1))) (nI (tk (c - 1)))) e)) (A 0) (vs_i 8 (va_up tk (c - 1) (tk (c - 1) + 1))) ∧ vs_lg h' lg A (va_up tk (c - 1) (tk (c - 1) + 1)) cb tb sb tl c un := by
  have hl0 := hl
  have hne := hl.ne
  obtain ⟨h0, h1, h2, h3, h4, hb, hk2, hA⟩ := hl
  have q1 := lg_numberOf z d (k := c - 1) hl0
  have nel : lg ≠ e := am_ne h0 he (by simp)
  have n0 : A 0 ≠ e := am_ne h1 he (by simp)
  have n1 : A 1 ≠ e := am_ne h2 he (by simp)
  have n2 : A 2 ≠ e := am_ne h3 he (by simp)
  have n3 : A 3 ≠ e := am_ne h4 he (by simp)
  refine ⟨_, ?_, rfl, ⟨?_, ?_, ?_, ?_, ?_, hb, ?_, hA⟩⟩
  · have e0 : nI c - 1 = nI (c - 1) := by
      rw [show c = (c - 1) + 1 by omega, nI_pred]; congr 1
    have e7 := ev_ri 0 8 (c - 1) (fun i => nI (tk i)) (nI (c - 1)) (ev_ix (by omega) (by omega))
    have e9 := ev_wi 0 8 (c - 1) (fun i => nI (tk i)) (nI (c - 1)) (nI (tk (c - 1) + 1)) (ev_ix (by omega) (by omega))
    rw [e_plc_cell, am_M_eq]
    simp only [am_R_eq, cx_40, en_40, rt_40, rx_aload_n, rx_dup2, rx_getfield, ev_gf, rx_iadd, rx_iaload, rx_iastore, ev_w1, ev_KW, rx_iconst, rx_invv, ev_cv, rx_isub, rx_putfield, ev_pf, am_fok, am_ftv, rx_return, kl_41, ev_K, ev_pI, ev_pR, ev_pVi, ev_pVr, ev_sI, ev_sR, ev_KC, ev_k, ev_ko, ev_pop0, ev_pops, am_ld, am_sv, am_at, am_st, am_g, List.length_cons, List.length_nil, Nat.reduceAdd, Nat.reduceLT, Nat.zero_add, if_true, if_false, and_self, true_or, or_true, true_and, and_true, not_true_eq_false, not_false_eq_true, reduceCtorEq, eq_self, Option.toList_some, Option.toList_none, List.cons_append, List.nil_append, Bool.false_eq_true, h0, e0]
    refine am_CL_of q1 ?_
    simp only [am_R_eq, cx_40, en_40, rt_40, rx_aload_n, rx_dup2, rx_getfield, ev_gf, rx_iadd, rx_iaload, rx_iastore, ev_w1, ev_KW, rx_iconst, rx_invv, ev_cv, rx_isub, rx_putfield, ev_pf, am_fok, am_ftv, rx_return, kl_41, ev_K, ev_pI, ev_pR, ev_pVi, ev_pVr, ev_sI, ev_sR, ev_KC, ev_k, ev_ko, ev_pop0, ev_pops, am_ld, am_sv, am_at, am_st, am_g, List.length_cons, List.length_nil, Nat.reduceAdd, Nat.reduceLT, Nat.zero_add, if_true, if_false, and_self, true_or, or_true, true_and, and_true, not_true_eq_false, not_false_eq_true, reduceCtorEq, eq_self, Option.toList_some, Option.toList_none, List.cons_append, List.nil_append, Bool.false_eq_true, h0, h1, he, e0, hze, hz0, nel, n0, am_up_at, am_up_ne, am_up_up, ne_eq, Nat.reduceLeDiff, beq_self_eq_true, e7, e9, nI_ofs, nI_upd]
  · rw [am_up_ne _ _ (hne 0 (by omega)), am_up_ne _ _ nel]; exact h0
  · rw [am_up_at]
  · rw [am_up_ne _ _ (hA 1 0 (by omega) (by omega) (by omega)), am_up_ne _ _ n1]; exact h2
  · rw [am_up_ne _ _ (hA 2 0 (by omega) (by omega) (by omega)), am_up_ne _ _ n2]; exact h3
  · rw [am_up_ne _ _ (hA 3 0 (by omega) (by omega) (by omega)), am_up_ne _ _ n3]; exact h4
  · intro i
    unfold va_up
    split
    · omega
    · exact hk2 i
theorem lg_dropTail (z d : Nat) (hz : z ≤ lg) (hz0 : z ≤ A 0) (hl : vs_lg h lg A tk cb tb sb tl c un) (hc : 2 ≤ c) (htl : tl < 10000) :
    ∃ h' tk', am_M z (d + 1) 55 [.ref lg] h none h' ∧ vs_lg h' lg A tk' cb tb sb (tl + 1) (c - 1) un ∧ (∀ i, i < c - 1 → tk' i = tk (i + 1)) ∧ vs_chg h h' lg A := by
  have hl0 := hl
  have hne := hl.ne
  obtain ⟨h0, h1, h2, h3, h4, hb, hk2, hA⟩ := hl
  have n0 := hne 0 (by omega)
  have hcp : va_cpy (fun i => nI (tk i)) (fun i => nI (tk i)) 1 0 (c - 1) = fun i => nI (va_cpy tk tk 1 0 (c - 1) i) := by
    funext i
    unfold va_cpy
    split <;> rfl
  obtain ⟨p1, p2⟩ := hl0.set0 (tk' := va_cpy tk tk 1 0 (c - 1)) (c' := c - 1) (un' := un) (tl' := tl + 1) ⟨by omega, by omega, hb.2.2.1, by omega⟩ (by intro i; unfold va_cpy; split <;> exact hk2 _)
  refine ⟨_, va_cpy tk tk 1 0 (c - 1), ?_, p1, ?_, p2⟩
  · have e0 : nI c - 1 = nI (c - 1) := by
      rw [show c = (c - 1) + 1 by omega, nI_pred]; congr 1
    have e1 : (1 : Int32) < nI c := nI_lt (a := 1) (by omega) (by omega)
    have c1 : (1 : Int32).toNatClampNeg = 1 := by decide
    have c0 : (0 : Int32).toNatClampNeg = 0 := by decide
    have c2 : (nI (c - 1)).toNatClampNeg = c - 1 := nI_clamp (by omega)
    have e2 : am_cp (some (vs_i 8 tk)) 1 0 (nI (c - 1)) = some (vs_i 8 (va_cpy tk tk 1 0 (c - 1))) := by
      simp only [am_cp, c0, c1, c2]
      rw [if_pos ⟨trivial, by decide, by decide, nI_pos (by omega), by omega, by omega⟩, hcp]
    have e3 : am_up (am_up h lg (vs_lgo A (tl + 1) (c - 1) un)) (A 0) (vs_i 8 (va_cpy tk tk 1 0 (c - 1))) = am_up (am_up h (A 0) (vs_i 8 (va_cpy tk tk 1 0 (c - 1)))) lg (vs_lgo A (tl + 1) (c - 1) un) := am_up_cm _ _ _ n0
    rw [am_M_eq]
    simp only [am_R_eq, cx_55, en_55, rt_55, rx_aload_n, rx_dup_i, rx_dup_r, rx_getfield, ev_gf, rx_iadd, rx_iconst, rx_icmp_gt, rx_invs, rx_max2, rx_min2, rx_copy2, rx_isub, rx_putfield, ev_pf, ev_w1, ev_KW, am_fok, am_ftv, rx_return, ev_K, ev_pI, ev_pR, ev_pVi, ev_pVr, ev_sI, ev_sR, ev_KC, ev_k, ev_ko, ev_pop0, ev_pops, am_ld, am_sv, am_at, am_st, am_g, List.length_cons, List.length_nil, Nat.reduceAdd, Nat.reduceLT, Nat.zero_add, if_true, if_false, and_self, true_or, or_true, true_and, and_true, not_true_eq_false, not_false_eq_true, reduceCtorEq, eq_self, Option.toList_some, Option.toList_none, List.cons_append, List.nil_append, Bool.false_eq_true, h0, e0, e1, hz, nI_ofs, am_up_at, am_up_up, am_up_ne, n0.symm, h1, ne_eq, Nat.reduceLeDiff, beq_self_eq_true, e2, hz0, e3]
  · intro i hi
    unfold va_cpy
    rw [if_pos ⟨Nat.zero_le _, by omega⟩, Nat.sub_zero, Nat.add_comm]
theorem vs_lg.upi {h : am_H} {x : Nat} {f : Nat → Nat} (hx : x < 4) (hl : vs_lg h lg A tk cb tb sb tl c un) (hf : ∀ i, f i ≤ 100) : vs_lg (am_up h (A x) (vs_i 8 f)) lg A (if x = 0 then f else tk) (if x = 1 then f else cb) (if x = 2 then f else tb) (if x = 3 then f else sb) tl c un := by
  have hne := hl.ne
  obtain ⟨h0, h1, h2, h3, h4, hb, hk2, hA⟩ := hl
  refine ⟨by rw [am_up_ne _ _ (hne x hx)]; exact h0, ?_, ?_, ?_, ?_, hb, ?_, hA⟩
  · by_cases q : x = 0
    · subst q; rw [am_up_at, if_pos rfl]
    · rw [if_neg q, am_up_ne _ _ (hA 0 x (by omega) hx (Ne.symm q))]; exact h1
  · by_cases q : x = 1
    · subst q; rw [am_up_at, if_pos rfl]
    · rw [if_neg q, am_up_ne _ _ (hA 1 x (by omega) hx (Ne.symm q))]; exact h2
  · by_cases q : x = 2
    · subst q; rw [am_up_at, if_pos rfl]
    · rw [if_neg q, am_up_ne _ _ (hA 2 x (by omega) hx (Ne.symm q))]; exact h3
  · by_cases q : x = 3
    · subst q; rw [am_up_at, if_pos rfl]
    · rw [if_neg q, am_up_ne _ _ (hA 3 x (by omega) hx (Ne.symm q))]; exact h4
  · intro i
    split
    · exact hf i
    · exact hk2 i
theorem lg_markUnsynced (z d : Nat) {v : Nat} (hz : z ≤ lg) (hzA : ∀ i, i < 4 → z ≤ A i) (hl : vs_lg h lg A tk cb tb sb tl c un) (hu : un < 8) :
    ∃ h', am_M z (d + 1) 38 [.ref lg, .int (nI v)] h none h' ∧ vs_lg h' lg A tk (va_up cb un c) (va_up tb un (tk (c - 1))) (va_up sb un v) tl c (un + 1) ∧ vs_chg h h' lg A := by
  have hl0 := hl
  have hne := hl.ne
  obtain ⟨h0, h1, h2, h3, h4, hb, hk2, hA⟩ := hl
  have n0 := hne 0 (by omega)
  have n1 := hne 1 (by omega)
  have n2 := hne 2 (by omega)
  have n3 := hne 3 (by omega)
  have a01 := hA 0 1 (by omega) (by omega) (by omega)
  have a02 := hA 0 2 (by omega) (by omega) (by omega)
  have a03 := hA 0 3 (by omega) (by omega) (by omega)
  have a12 := hA 1 2 (by omega) (by omega) (by omega)
  have a13 := hA 1 3 (by omega) (by omega) (by omega)
  have a23 := hA 2 3 (by omega) (by omega) (by omega)
  refine ⟨am_up (am_up (am_up (am_up h (A 1) (vs_i 8 (va_up cb un c))) (A 2) (vs_i 8 (va_up tb un (tk (c - 1))))) (A 3) (vs_i 8 (va_up sb un v))) lg (vs_lgo A tl c (un + 1)), ?_, ⟨am_up_at _ _ _, ?_, ?_, ?_, ?_, ⟨hb.1, hb.2.1, by omega, hb.2.2.2⟩, hk2, hA⟩, ⟨fun q e1 e2 => ?_, rfl⟩⟩
  · have e0 : nI c - 1 = nI (c - 1) := by
      rw [show c = (c - 1) + 1 by omega, nI_pred]; congr 1
    have e1 : nI un < 8 := nI_lt (b := 8) hu (by omega)
    have e3 := ev_wi 0 8 un (fun i => nI (cb i)) (nI un) (nI c) (ev_ix (by omega) (by omega))
    have e4 := ev_wi 0 8 un (fun i => nI (tb i)) (nI un) (nI (tk (c - 1))) (ev_ix (by omega) (by omega))
    have e5 := ev_wi 0 8 un (fun i => nI (sb i)) (nI un) (nI v) (ev_ix (by omega) (by omega))
    have e7 := ev_ri 0 8 (c - 1) (fun i => nI (tk i)) (nI (c - 1)) (ev_ix (by omega) (by omega))
    have z1 := hzA 1 (by omega)
    have z2 := hzA 2 (by omega)
    have z3 := hzA 3 (by omega)
    rw [am_M_eq]
    simp only [am_R_eq, cx_38, en_38, rt_38, rx_aload_n, rx_bipush, rx_dup_i, rx_dup_r, rx_getfield, ev_gf, rx_iadd, rx_iaload, rx_iastore, ev_w1, ev_KW, rx_iconst, rx_icmp_lt, rx_iload_n, rx_isub, rx_putfield, ev_pf, am_fok, am_ftv, rx_return, ev_K, ev_pI, ev_pR, ev_pVi, ev_pVr, ev_sI, ev_sR, ev_KC, ev_k, ev_ko, ev_pop0, ev_pops, am_ld, am_sv, am_at, am_st, am_g, List.length_cons, List.length_nil, Nat.reduceAdd, Nat.reduceLT, Nat.zero_add, if_true, if_false, and_self, true_or, or_true, true_and, and_true, not_true_eq_false, not_false_eq_true, reduceCtorEq, eq_self, Option.toList_some, Option.toList_none, List.cons_append, List.nil_append, Bool.false_eq_true, h0, h1, h2, h3, h4, e0, e1, e3, e4, e5, e7, hz, z1, z2, z3, nI_upd, nI_ofs, am_up_at, am_up_ne, n0, n1, n2, n3, a01, a02, a03, a12, a13, a23, a12.symm, a13.symm, a23.symm, ne_eq, Nat.reduceLeDiff, beq_self_eq_true]
  · rw [am_up_ne _ _ n0.symm, am_up_ne _ _ a03, am_up_ne _ _ a02, am_up_ne _ _ a01]; exact h1
  · rw [am_up_ne _ _ n1.symm, am_up_ne _ _ a13, am_up_ne _ _ a12, am_up_at]
  · rw [am_up_ne _ _ n2.symm, am_up_ne _ _ a23, am_up_at]
  · rw [am_up_ne _ _ n3.symm, am_up_at]
  · rw [am_up_ne _ _ e1, am_up_ne _ _ (e2 3 (by omega)), am_up_ne _ _ (e2 2 (by omega)), am_up_ne _ _ (e2 1 (by omega))]
theorem lg_rewindTo (z d : Nat) {k : Nat} (hz : z ≤ lg) (hz0 : z ≤ A 0) (hl : vs_lg h lg A tk cb tb sb tl c un) (hk : k < un) (hc : 1 ≤ cb k ∧ cb k ≤ 8) (ht : tb k ≤ 100) :
    ∃ h', am_M z (d + 1) 68 [.ref lg, .int (nI k)] h none h' ∧ vs_lg h' lg A (va_up tk (cb k - 1) (tb k)) cb tb sb tl (cb k) k ∧ vs_chg h h' lg A := by
  have hl0 := hl
  have hne := hl.ne
  obtain ⟨h0, h1, h2, h3, h4, hb, hk2, hA⟩ := hl
  have n0 := hne 0 (by omega)
  have n1 := hne 1 (by omega)
  have n2 := hne 2 (by omega)
  have a02 := hA 0 2 (by omega) (by omega) (by omega)
  obtain ⟨p1, p2⟩ := hl0.set0 (tk' := va_up tk (cb k - 1) (tb k)) (c' := cb k) (un' := k) (tl' := tl) ⟨hc.1, hc.2, by omega, hb.2.2.2⟩ (by intro i; unfold va_up; split; exact ht; exact hk2 i)
  refine ⟨_, ?_, p1, p2⟩
  have e1 : ¬ nI k < 0 := nI_pos (by omega)
  have e2 : nI k < nI un := nI_lt hk (by omega)
  have e0 : nI (cb k) - 1 = nI (cb k - 1) := by
    rw [show cb k = (cb k - 1) + 1 by omega, nI_pred]; congr 1
  have e3 := ev_ri 0 8 k (fun i => nI (cb i)) (nI k) (ev_ix (by omega) (by omega))
  have e4 := ev_ri 0 8 k (fun i => nI (tb i)) (nI k) (ev_ix (by omega) (by omega))
  have e5 := ev_wi 0 8 (cb k - 1) (fun i => nI (tk i)) (nI (cb k - 1)) (nI (tb k)) (ev_ix (by omega) (by omega))
  have e6 : am_up (am_up (am_up h lg (vs_lgo A tl (cb k) un)) (A 0) (vs_i 8 (va_up tk (cb k - 1) (tb k)))) lg (vs_lgo A tl (cb k) k) = am_up (am_up h (A 0) (vs_i 8 (va_up tk (cb k - 1) (tb k)))) lg (vs_lgo A tl (cb k) k) := by
    rw [am_up_cm h _ _ n0, am_up_up]
  rw [am_M_eq]
  simp only [am_R_eq, cx_68, en_68, rt_68, rx_aload_n, rx_getfield, ev_gf, rx_iaload, rx_iastore, ev_w1, ev_KW, rx_iconst, rx_icmp_lt, rx_if_lt, rx_iload_n, rx_isub, rx_putfield, ev_pf, am_fok, am_ftv, rx_return, ev_K, ev_pI, ev_pR, ev_pVi, ev_pVr, ev_sI, ev_sR, ev_KC, ev_k, ev_ko, ev_pop0, ev_pops, am_ld, am_sv, am_at, am_st, am_g, List.length_cons, List.length_nil, Nat.reduceAdd, Nat.reduceLT, Nat.zero_add, if_true, if_false, and_self, true_or, or_true, true_and, and_true, not_true_eq_false, not_false_eq_true, reduceCtorEq, eq_self, Option.toList_some, Option.toList_none, List.cons_append, List.nil_append, Bool.false_eq_true, h0, h1, h2, h3, e0, e1, e2, e3, e4, e5, e6, hz, hz0, nI_upd, am_up_at, am_up_ne, n0, n0.symm, n1.symm, n2.symm, a02.symm, ne_eq, Nat.reduceLeDiff, beq_self_eq_true]
def e_sw : Nat → Nat → Nat → Nat → Nat
  | 0, segs, _, _ => segs
  | q + 1, segs, room, l => if l = 0 then segs else if room < 1 + min l 6 then e_sw q (segs + 1) (16 - (1 + min l 6)) (l - 6) else e_sw q segs (room - (1 + min l 6)) (l - 6)
theorem lg_segmentsWith (z d : Nat) {v : Nat} (hl : vs_lg h lg A tk cb tb sb tl c un) (hv : v ≤ 100) (ht : tk (c - 1) ≤ 16) : am_M z (d + 1) 53 [.ref lg, .int (nI v)] h (some (.int (nI (e_sw (v + 1) c (16 - tk (c - 1)) v)))) h := by
  obtain ⟨h0, h1, h2, h3, h4, hb, hk2, hA⟩ := hl
  have loop : ∀ q segs room l x (w : Option Value), l < q → segs ≤ 1000 - q → q ≤ 101 → room ≤ 16 → (l = 0 → x ≤ 0) → (0 < l → x = nI l) → am_R z d 53 23 [some (.ref lg), some (.int (nI v)), some (.int (nI segs)), some (.int (nI room)), some (.int x), w] [] h (some (.int (nI (e_sw q segs room l)))) h := by
    intro q
    induction q with
    | zero => intro segs room l x w hl; omega
    | succ q ih =>
      intro segs room l x w hlq hs hq hr hx0 hx1
      by_cases hl0 : l = 0
      · have e1 : x ≤ 0 := hx0 hl0
        have e2 : e_sw (q + 1) segs room l = segs := by simp [e_sw, hl0]
        rw [e2]
        rw [am_R_eq, cxh_53_23]
        simp only [am_R_eq, cx_53, en_53, rt_53, rx_aload_n, rx_bipush, rx_getfield, ev_gf, rx_goto, rx_iadd, rx_iaload, rx_iconst, rx_icmp_le, rx_if_le, rx_iinc, ev_inc, rx_iload, rx_iload_n, rx_invs, rx_max2, rx_min2, rx_copy2, rx_ireturn, rx_istore, rx_istore_n, rx_isub, ev_K, ev_pI, ev_pR, ev_pVi, ev_pVr, ev_sI, ev_sR, ev_KC, ev_k, ev_ko, ev_pop0, ev_pops, am_ld, am_sv, am_at, am_st, am_g, List.length_cons, List.length_nil, Nat.reduceAdd, Nat.reduceLT, Nat.zero_add, if_true, if_false, and_self, true_or, or_true, true_and, and_true, not_true_eq_false, not_false_eq_true, reduceCtorEq, eq_self, Option.toList_some, Option.toList_none, List.cons_append, List.nil_append, Bool.false_eq_true, e1]
      · have hx := hx1 (by omega)
        subst hx
        have e1 : ¬ nI l ≤ 0 := nI_nle (by omega) (by omega)
        have e3 : (if (6 : Int32) < nI l then (6 : Int32) else nI l) = nI (min l 6) := by
          by_cases g : 6 < l
          · rw [if_pos (show (6 : Int32) < nI l from nI_lt (a := 6) g (by omega)), Nat.min_eq_right (by omega)]
            rfl
          · rw [if_neg (show ¬ (6 : Int32) < nI l from nI_nlt (a := 6) (b := l) (by omega) (by omega)), Nat.min_eq_left (by omega)]
        have e4 : (1 : Int32) + nI (min l 6) = nI (1 + min l 6) := by rw [show (1 : Int32) = nI 1 from rfl, nI_add]
        have hnx : (l - 6 = 0 → nI l + -6 ≤ 0) ∧ (0 < l - 6 → nI l + -6 = nI (l - 6)) := by
          have e : nI l + -6 = nI l - nI 6 := by rw [Int32.sub_eq_add_neg]; rfl
          constructor
          · intro g
            rw [e]
            have hh : (nI l - nI 6).toInt = (l : Int) - 6 := pk_sub_toInt (by omega) (by omega)
            rw [Int32.le_iff_toInt_le, hh]
            have : (0 : Int32).toInt = 0 := by decide
            omega
          · intro g
            rw [e, pk_sub (by omega)]
        by_cases c1 : room < 1 + min l 6
        · have e5 : ¬ nI (1 + min l 6) ≤ nI room := nI_ge c1 (by omega)
          have e6 : (16 : Int32) - nI (1 + min l 6) = nI (16 - (1 + min l 6)) := by rw [show (16 : Int32) = nI 16 from rfl, pk_sub (by omega)]
          have e2 : e_sw (q + 1) segs room l = e_sw q (segs + 1) (16 - (1 + min l 6)) (l - 6) := by simp [e_sw, hl0, c1]
          have ih1 := ih (segs + 1) (16 - (1 + min l 6)) (l - 6) (nI l + -6) (some (.int (nI (1 + min l 6)))) (by omega) (by omega) (by omega) (by omega) hnx.1 hnx.2
          rw [am_R_eq] at ih1
          rw [e2]
          rw [am_R_eq, cxh_53_23]
          simp only [am_R_eq, cx_53, en_53, rt_53, rx_aload_n, rx_bipush, rx_getfield, ev_gf, rx_goto, rx_iadd, rx_iaload, rx_iconst, rx_icmp_le, rx_if_le, rx_iinc, ev_inc, rx_iload, rx_iload_n, rx_invs, rx_max2, rx_min2, rx_copy2, rx_ireturn, rx_istore, rx_istore_n, rx_isub, ev_K, ev_pI, ev_pR, ev_pVi, ev_pVr, ev_sI, ev_sR, ev_KC, ev_k, ev_ko, ev_pop0, ev_pops, am_ld, am_sv, am_at, am_st, am_g, List.length_cons, List.length_nil, Nat.reduceAdd, Nat.reduceLT, Nat.zero_add, if_true, if_false, and_self, true_or, or_true, true_and, and_true, not_true_eq_false, not_false_eq_true, reduceCtorEq, eq_self, Option.toList_some, Option.toList_none, List.cons_append, List.nil_append, Bool.false_eq_true, e1, e3, e4, e5, e6, nI_ofs]
          exact ih1
        · have e5 : nI (1 + min l 6) ≤ nI room := nI_le (by omega) (by omega)
          have e6 : nI room - nI (1 + min l 6) = nI (room - (1 + min l 6)) := pk_sub (by omega)
          have e2 : e_sw (q + 1) segs room l = e_sw q segs (room - (1 + min l 6)) (l - 6) := by simp [e_sw, hl0, c1]
          have ih1 := ih segs (room - (1 + min l 6)) (l - 6) (nI l + -6) (some (.int (nI (1 + min l 6)))) (by omega) (by omega) (by omega) (by omega) hnx.1 hnx.2
          rw [am_R_eq] at ih1
          rw [e2]
          rw [am_R_eq, cxh_53_23]
          simp only [am_R_eq, cx_53, en_53, rt_53, rx_aload_n, rx_bipush, rx_getfield, ev_gf, rx_goto, rx_iadd, rx_iaload, rx_iconst, rx_icmp_le, rx_if_le, rx_iinc, ev_inc, rx_iload, rx_iload_n, rx_invs, rx_max2, rx_min2, rx_copy2, rx_ireturn, rx_istore, rx_istore_n, rx_isub, ev_K, ev_pI, ev_pR, ev_pVi, ev_pVr, ev_sI, ev_sR, ev_KC, ev_k, ev_ko, ev_pop0, ev_pops, am_ld, am_sv, am_at, am_st, am_g, List.length_cons, List.length_nil, Nat.reduceAdd, Nat.reduceLT, Nat.zero_add, if_true, if_false, and_self, true_or, or_true, true_and, and_true, not_true_eq_false, not_false_eq_true, reduceCtorEq, eq_self, Option.toList_some, Option.toList_none, List.cons_append, List.nil_append, Bool.false_eq_true, e1, e3, e4, e5, e6, nI_ofs]
          exact ih1
  have e0 : nI c - 1 = nI (c - 1) := by
    rw [show c = (c - 1) + 1 by omega, nI_pred]; congr 1
  have e7 := ev_ri 0 8 (c - 1) (fun i => nI (tk i)) (nI (c - 1)) (ev_ix (by omega) (by omega))
  have e8 : (16 : Int32) - nI (tk (c - 1)) = nI (16 - tk (c - 1)) := by rw [show (16 : Int32) = nI 16 from rfl, pk_sub ht]
  have l0 := loop (v + 1) c (16 - tk (c - 1)) v (nI v) none (by omega) (by omega) (by omega) (by omega) (fun g => by rw [g]; decide) (fun _ => rfl)
  rw [am_R_eq] at l0
  rw [am_M_eq]
  simp only [am_R_eq, cx_53, en_53, rt_53, rx_aload_n, rx_bipush, rx_getfield, ev_gf, rx_goto, rx_iadd, rx_iaload, rx_iconst, rx_icmp_le, rx_if_le, rx_iinc, ev_inc, rx_iload, rx_iload_n, rx_invs, rx_max2, rx_min2, rx_copy2, rx_ireturn, rx_istore, rx_istore_n, rx_isub, ev_K, ev_pI, ev_pR, ev_pVi, ev_pVr, ev_sI, ev_sR, ev_KC, ev_k, ev_ko, ev_pop0, ev_pops, am_ld, am_sv, am_at, am_st, am_g, List.length_cons, List.length_nil, Nat.reduceAdd, Nat.reduceLT, Nat.zero_add, if_true, if_false, and_self, true_or, or_true, true_and, and_true, not_true_eq_false, not_false_eq_true, reduceCtorEq, eq_self, Option.toList_some, Option.toList_none, List.cons_append, List.nil_append, Bool.false_eq_true, h0, h1, e0, e7, e8]
  exact l0
end LOG2
end
section
section SNAP
variable {h : am_H} {s ss : Nat} {S : Nat → Int32}
theorem ar_fill (z d : Nat) {x n : Nat} {g : Nat → Int32} {v : Int32} (hz : z ≤ x) (hx : h.1 x = some (.inl (0, n, .inl g))) (hn : n ≤ 1000) : am_M z (d + 1) 8 [.ref x, .int v] h none (am_up h x (.inl (0, n, .inl (fun i => if i < n then v else g i)))) := by
  have loop : ∀ m k, m = n - k → k ≤ n → am_R z d 8 5 [some (.ref x), some (.int v), some (.int (nI k)), some (.int (nI n))] [] (am_up h x (.inl (0, n, .inl (fun i => if i < k then v else g i)))) none (am_up h x (.inl (0, n, .inl (fun i => if i < n then v else g i)))) := by
    intro m
    induction m with
    | zero =>
      intro k hm hk
      have hkn : k = n := by omega
      subst hkn
      have e1 : nI k ≤ nI k := nI_le (Nat.le_refl _) (by omega)
      rw [am_R_eq, cxh_8_5]
      simp only [am_R_eq, cx_8, en_8, rt_8, rx_aload_n, rx_arraylength, ev_ln, ev_pN, rx_goto, rx_iastore, ev_w1, ev_KW, rx_iconst, rx_icmp_ge, rx_iinc, ev_inc, rx_iload_n, rx_istore_n, rx_return, ev_K, ev_pI, ev_pR, ev_pVi, ev_pVr, ev_sI, ev_sR, ev_KC, ev_k, ev_ko, ev_pop0, ev_pops, am_ld, am_sv, am_at, am_st, am_g, List.length_cons, List.length_nil, Nat.reduceAdd, Nat.reduceLT, Nat.zero_add, if_true, if_false, and_self, true_or, or_true, true_and, and_true, not_true_eq_false, not_false_eq_true, reduceCtorEq, eq_self, Option.toList_some, Option.toList_none, List.cons_append, List.nil_append, Bool.false_eq_true, e1]
    | succ m ih =>
      intro k hm hk
      have e1 : ¬ nI n ≤ nI k := nI_ge (by omega) (by omega)
      have e3 := ev_wi 0 n k (fun i => if i < k then v else g i) (nI k) v (ev_ix (by omega) (by omega))
      have e4 : upd (fun i => if i < k then v else g i) k v = fun i => if i < k + 1 then v else g i := by
        funext i
        unfold upd
        by_cases hi : i = k
        · subst hi; rw [if_pos rfl, if_pos (by omega)]
        · rw [if_neg hi]
          dsimp only
          by_cases h2 : i < k
          · rw [if_pos h2, if_pos (by omega)]
          · rw [if_neg h2, if_neg (by omega)]
      have ih1 := ih (k + 1) (by omega) (by omega)
      rw [am_R_eq] at ih1
      rw [am_R_eq, cxh_8_5]
      simp only [am_R_eq, cx_8, en_8, rt_8, rx_aload_n, rx_arraylength, ev_ln, ev_pN, rx_goto, rx_iastore, ev_w1, ev_KW, rx_iconst, rx_icmp_ge, rx_iinc, ev_inc, rx_iload_n, rx_istore_n, rx_return, ev_K, ev_pI, ev_pR, ev_pVi, ev_pVr, ev_sI, ev_sR, ev_KC, ev_k, ev_ko, ev_pop0, ev_pops, am_ld, am_sv, am_at, am_st, am_g, List.length_cons, List.length_nil, Nat.reduceAdd, Nat.reduceLT, Nat.zero_add, if_true, if_false, and_self, true_or, or_true, true_and, and_true, not_true_eq_false, not_false_eq_true, reduceCtorEq, eq_self, Option.toList_some, Option.toList_none, List.cons_append, List.nil_append, Bool.false_eq_true, e1, e3, e4, am_up_at, am_up_up, hz, nI_ofs]
      exact ih1
  have l0 := loop n 0 (by omega) (Nat.zero_le _)
  have e5 : (fun i => if i < 0 then v else g i) = g := by funext i; rw [if_neg (Nat.not_lt_zero _)]
  rw [e5, am_up_self hx, am_R_eq] at l0
  rw [am_M_eq]
  simp only [am_R_eq, cx_8, en_8, rt_8, rx_aload_n, rx_arraylength, ev_ln, ev_pN, rx_goto, rx_iastore, ev_w1, ev_KW, rx_iconst, rx_icmp_ge, rx_iinc, ev_inc, rx_iload_n, rx_istore_n, rx_return, ev_K, ev_pI, ev_pR, ev_pVi, ev_pVr, ev_sI, ev_sR, ev_KC, ev_k, ev_ko, ev_pop0, ev_pops, am_ld, am_sv, am_at, am_st, am_g, List.length_cons, List.length_nil, Nat.reduceAdd, Nat.reduceLT, Nat.zero_add, if_true, if_false, and_self, true_or, or_true, true_and, and_true, not_true_eq_false, not_false_eq_true, reduceCtorEq, eq_self, Option.toList_some, Option.toList_none, List.cons_append, List.nil_append, Bool.false_eq_true, hx, ev_ln, ev_pN]
  exact l0
theorem sn_sightIn (z d : Nat) {k : Nat} (hk : k < 3) (hs : vs_sn h s ss S) : am_M z (d + 1) 60 [.ref s, .int (nI k)] h (some (.int (S k))) h := by
  obtain ⟨h1, h2⟩ := hs
  have e1 : ¬ nI k < 0 := nI_pos (by omega)
  have e2 : ¬ (3 : Int32) ≤ nI k := nI_ge (b := 3) hk (by omega)
  have e3 := ev_ri 0 3 k S (nI k) (ev_ix hk (by omega))
  rw [am_M_eq]
  simp only [am_R_eq, cx_60, en_60, rt_60, rx_aload_n, rx_getfield, ev_gf, rx_goto, rx_iaload, rx_iconst, rx_icmp_ge, rx_if_lt, rx_iload_n, rx_ireturn, ev_K, ev_pI, ev_pR, ev_pVi, ev_pVr, ev_sI, ev_sR, ev_KC, ev_k, ev_ko, ev_pop0, ev_pops, am_ld, am_sv, am_at, am_st, am_g, List.length_cons, List.length_nil, Nat.reduceAdd, Nat.reduceLT, Nat.zero_add, if_true, if_false, and_self, true_or, or_true, true_and, and_true, not_true_eq_false, not_false_eq_true, reduceCtorEq, eq_self, Option.toList_some, Option.toList_none, List.cons_append, List.nil_append, Bool.false_eq_true, h1, h2, e1, e2, e3]
theorem sn_sightOut (z d : Nat) {k : Int32} (hk : k < 0 ∨ 3 ≤ k) : am_M z (d + 1) 60 [.ref s, .int k] h (some (.int (-1))) h := by
  rw [am_M_eq]
  by_cases c1 : k < 0
  · simp only [am_R_eq, cx_60, en_60, rt_60, rx_aload_n, rx_getfield, ev_gf, rx_goto, rx_iaload, rx_iconst, rx_icmp_ge, rx_if_lt, rx_iload_n, rx_ireturn, ev_K, ev_pI, ev_pR, ev_pVi, ev_pVr, ev_sI, ev_sR, ev_KC, ev_k, ev_ko, ev_pop0, ev_pops, am_ld, am_sv, am_at, am_st, am_g, List.length_cons, List.length_nil, Nat.reduceAdd, Nat.reduceLT, Nat.zero_add, if_true, if_false, and_self, true_or, or_true, true_and, and_true, not_true_eq_false, not_false_eq_true, reduceCtorEq, eq_self, Option.toList_some, Option.toList_none, List.cons_append, List.nil_append, Bool.false_eq_true, c1]
  · have c2 : 3 ≤ k := hk.resolve_left c1
    simp only [am_R_eq, cx_60, en_60, rt_60, rx_aload_n, rx_getfield, ev_gf, rx_goto, rx_iaload, rx_iconst, rx_icmp_ge, rx_if_lt, rx_iload_n, rx_ireturn, ev_K, ev_pI, ev_pR, ev_pVi, ev_pVr, ev_sI, ev_sR, ev_KC, ev_k, ev_ko, ev_pop0, ev_pops, am_ld, am_sv, am_at, am_st, am_g, List.length_cons, List.length_nil, Nat.reduceAdd, Nat.reduceLT, Nat.zero_add, if_true, if_false, and_self, true_or, or_true, true_and, and_true, not_true_eq_false, not_false_eq_true, reduceCtorEq, eq_self, Option.toList_some, Option.toList_none, List.cons_append, List.nil_append, Bool.false_eq_true, c1, c2]
def e_ct (S : Nat → Int32) : Nat → Nat
  | 0 => 0
  | m + 1 => (if S (2 - m) = -1 then 0 else 1) + e_ct S m
theorem sn_count (z d : Nat) (hs : vs_sn h s ss S) : am_M z (d + 1) 92 [.ref s] h (some (.int (nI (e_ct S 3)))) h := by
  obtain ⟨h1, h2⟩ := hs
  have loop : ∀ m k v, m + k = 3 → am_R z d 92 4 [some (.ref s), some (.int (nI v)), some (.int (nI k))] [] h (some (.int (nI (v + e_ct S m)))) h := by
    intro m
    induction m with
    | zero =>
      intro k v hk
      have hk3 : k = 3 := by omega
      subst hk3
      have e1 : (3 : Int32) ≤ nI 3 := by decide
      rw [am_R_eq, cxh_92_4]
      simp only [am_R_eq, cx_92, en_92, rt_92, rx_aload_n, rx_getfield, ev_gf, rx_goto, rx_iaload, rx_iconst, rx_icmp_eq, rx_icmp_ge, rx_iinc, ev_inc, rx_iload_n, rx_ireturn, rx_istore_n, ev_K, ev_pI, ev_pR, ev_pVi, ev_pVr, ev_sI, ev_sR, ev_KC, ev_k, ev_ko, ev_pop0, ev_pops, am_ld, am_sv, am_at, am_st, am_g, List.length_cons, List.length_nil, Nat.reduceAdd, Nat.reduceLT, Nat.zero_add, if_true, if_false, and_self, true_or, or_true, true_and, and_true, not_true_eq_false, not_false_eq_true, reduceCtorEq, eq_self, Option.toList_some, Option.toList_none, List.cons_append, List.nil_append, Bool.false_eq_true, e1, e_ct, Nat.add_zero]
    | succ m ih =>
      intro k v hk
      have hkm : k = 2 - m := by omega
      have e1 : ¬ (3 : Int32) ≤ nI k := nI_ge (b := 3) (by omega) (by omega)
      have e7 := ev_ri 0 3 k S (nI k) (ev_ix (by omega) (by omega))
      by_cases c1 : S k = -1
      · have ih1 := ih (k + 1) v (by omega)
        rw [am_R_eq] at ih1
        have : e_ct S (m + 1) = e_ct S m := by simp [e_ct, ← hkm, c1]
        rw [this]
        rw [am_R_eq, cxh_92_4]
        simp only [am_R_eq, cx_92, en_92, rt_92, rx_aload_n, rx_getfield, ev_gf, rx_goto, rx_iaload, rx_iconst, rx_icmp_eq, rx_icmp_ge, rx_iinc, ev_inc, rx_iload_n, rx_ireturn, rx_istore_n, ev_K, ev_pI, ev_pR, ev_pVi, ev_pVr, ev_sI, ev_sR, ev_KC, ev_k, ev_ko, ev_pop0, ev_pops, am_ld, am_sv, am_at, am_st, am_g, List.length_cons, List.length_nil, Nat.reduceAdd, Nat.reduceLT, Nat.zero_add, if_true, if_false, and_self, true_or, or_true, true_and, and_true, not_true_eq_false, not_false_eq_true, reduceCtorEq, eq_self, Option.toList_some, Option.toList_none, List.cons_append, List.nil_append, Bool.false_eq_true, h1, h2, e1, e7, c1, nI_ofs]
        exact ih1
      · have ih1 := ih (k + 1) (v + 1) (by omega)
        rw [am_R_eq] at ih1
        have : v + e_ct S (m + 1) = v + 1 + e_ct S m := by simp [e_ct, ← hkm, c1]; omega
        rw [this]
        rw [am_R_eq, cxh_92_4]
        simp only [am_R_eq, cx_92, en_92, rt_92, rx_aload_n, rx_getfield, ev_gf, rx_goto, rx_iaload, rx_iconst, rx_icmp_eq, rx_icmp_ge, rx_iinc, ev_inc, rx_iload_n, rx_ireturn, rx_istore_n, ev_K, ev_pI, ev_pR, ev_pVi, ev_pVr, ev_sI, ev_sR, ev_KC, ev_k, ev_ko, ev_pop0, ev_pops, am_ld, am_sv, am_at, am_st, am_g, List.length_cons, List.length_nil, Nat.reduceAdd, Nat.reduceLT, Nat.zero_add, if_true, if_false, and_self, true_or, or_true, true_and, and_true, not_true_eq_false, not_false_eq_true, reduceCtorEq, eq_self, Option.toList_some, Option.toList_none, List.cons_append, List.nil_append, Bool.false_eq_true, h1, h2, e1, e7, c1, nI_ofs]
        exact ih1
  have l0 := loop 3 0 0 rfl
  rw [am_R_eq, Nat.zero_add] at l0
  rw [am_M_eq]
  simp only [am_R_eq, cx_92, en_92, rt_92, rx_aload_n, rx_getfield, ev_gf, rx_goto, rx_iaload, rx_iconst, rx_icmp_eq, rx_icmp_ge, rx_iinc, ev_inc, rx_iload_n, rx_ireturn, rx_istore_n, ev_K, ev_pI, ev_pR, ev_pVi, ev_pVr, ev_sI, ev_sR, ev_KC, ev_k, ev_ko, ev_pop0, ev_pops, am_ld, am_sv, am_at, am_st, am_g, List.length_cons, List.length_nil, Nat.reduceAdd, Nat.reduceLT, Nat.zero_add, if_true, if_false, and_self, true_or, or_true, true_and, and_true, not_true_eq_false, not_false_eq_true, reduceCtorEq, eq_self, Option.toList_some, Option.toList_none, List.cons_append, List.nil_append, Bool.false_eq_true]
  exact l0
def e_op (S : Nat → Int32) : Nat → Option Nat
  | 0 => none
  | m + 1 => if S (2 - m) = -1 then some (2 - m) else e_op S m
theorem sn_open (z d : Nat) {v : Int32} (hz : z ≤ ss) (hs : vs_sn h s ss S) : am_M z (d + 1) 57 [.ref s, .int v] h (some (.int (match e_op S 3 with | some i => nI i | none => -3))) (match e_op S 3 with | some i => am_up h ss (.inl (0, 3, .inl (upd S i v))) | none => h) := by
  obtain ⟨h1, h2⟩ := hs
  have loop : ∀ m k, m + k = 3 → am_R z d 57 2 [some (.ref s), some (.int v), some (.int (nI k))] [] h (some (.int (match e_op S m with | some i => nI i | none => -3))) (match e_op S m with | some i => am_up h ss (.inl (0, 3, .inl (upd S i v))) | none => h) := by
    intro m
    induction m with
    | zero =>
      intro k hk
      have hk3 : k = 3 := by omega
      subst hk3
      have e1 : (3 : Int32) ≤ nI 3 := by decide
      rw [am_R_eq, cxh_57_2]
      simp only [am_R_eq, cx_57, en_57, rt_57, rx_aload_n, rx_bipush, rx_getfield, ev_gf, rx_goto, rx_iaload, rx_iastore, ev_w1, ev_KW, rx_iconst, rx_icmp_ge, rx_icmp_ne, rx_iinc, ev_inc, rx_iload_n, rx_ireturn, rx_istore_n, ev_K, ev_pI, ev_pR, ev_pVi, ev_pVr, ev_sI, ev_sR, ev_KC, ev_k, ev_ko, ev_pop0, ev_pops, am_ld, am_sv, am_at, am_st, am_g, List.length_cons, List.length_nil, Nat.reduceAdd, Nat.reduceLT, Nat.zero_add, if_true, if_false, and_self, true_or, or_true, true_and, and_true, not_true_eq_false, not_false_eq_true, reduceCtorEq, eq_self, Option.toList_some, Option.toList_none, List.cons_append, List.nil_append, Bool.false_eq_true, e1, e_op]
    | succ m ih =>
      intro k hk
      have hkm : k = 2 - m := by omega
      have e1 : ¬ (3 : Int32) ≤ nI k := nI_ge (b := 3) (by omega) (by omega)
      have e7 := ev_ri 0 3 k S (nI k) (ev_ix (by omega) (by omega))
      have e8 := ev_wi 0 3 k S (nI k) v (ev_ix (by omega) (by omega))
      by_cases c1 : S k = -1
      · have : e_op S (m + 1) = some k := by simp [e_op, ← hkm, c1]
        rw [this]
        rw [am_R_eq, cxh_57_2]
        simp only [am_R_eq, cx_57, en_57, rt_57, rx_aload_n, rx_bipush, rx_getfield, ev_gf, rx_goto, rx_iaload, rx_iastore, ev_w1, ev_KW, rx_iconst, rx_icmp_ge, rx_icmp_ne, rx_iinc, ev_inc, rx_iload_n, rx_ireturn, rx_istore_n, ev_K, ev_pI, ev_pR, ev_pVi, ev_pVr, ev_sI, ev_sR, ev_KC, ev_k, ev_ko, ev_pop0, ev_pops, am_ld, am_sv, am_at, am_st, am_g, List.length_cons, List.length_nil, Nat.reduceAdd, Nat.reduceLT, Nat.zero_add, if_true, if_false, and_self, true_or, or_true, true_and, and_true, not_true_eq_false, not_false_eq_true, reduceCtorEq, eq_self, Option.toList_some, Option.toList_none, List.cons_append, List.nil_append, Bool.false_eq_true, h1, h2, e1, e7, e8, c1, hz]
      · have ih1 := ih (k + 1) (by omega)
        rw [am_R_eq] at ih1
        have : e_op S (m + 1) = e_op S m := by simp [e_op, ← hkm, c1]
        rw [this]
        rw [am_R_eq, cxh_57_2]
        simp only [am_R_eq, cx_57, en_57, rt_57, rx_aload_n, rx_bipush, rx_getfield, ev_gf, rx_goto, rx_iaload, rx_iastore, ev_w1, ev_KW, rx_iconst, rx_icmp_ge, rx_icmp_ne, rx_iinc, ev_inc, rx_iload_n, rx_ireturn, rx_istore_n, ev_K, ev_pI, ev_pR, ev_pVi, ev_pVr, ev_sI, ev_sR, ev_KC, ev_k, ev_ko, ev_pop0, ev_pops, am_ld, am_sv, am_at, am_st, am_g, List.length_cons, List.length_nil, Nat.reduceAdd, Nat.reduceLT, Nat.zero_add, if_true, if_false, and_self, true_or, or_true, true_and, and_true, not_true_eq_false, not_false_eq_true, reduceCtorEq, eq_self, Option.toList_some, Option.toList_none, List.cons_append, List.nil_append, Bool.false_eq_true, h1, h2, e1, e7, c1, nI_ofs]
        exact ih1
  have l0 := loop 3 0 rfl
  rw [am_R_eq] at l0
  rw [am_M_eq]
  simp only [am_R_eq, cx_57, en_57, rt_57, rx_aload_n, rx_bipush, rx_getfield, ev_gf, rx_goto, rx_iaload, rx_iastore, ev_w1, ev_KW, rx_iconst, rx_icmp_ge, rx_icmp_ne, rx_iinc, ev_inc, rx_iload_n, rx_ireturn, rx_istore_n, ev_K, ev_pI, ev_pR, ev_pVi, ev_pVr, ev_sI, ev_sR, ev_KC, ev_k, ev_ko, ev_pop0, ev_pops, am_ld, am_sv, am_at, am_st, am_g, List.length_cons, List.length_nil, Nat.reduceAdd, Nat.reduceLT, Nat.zero_add, if_true, if_false, and_self, true_or, or_true, true_and, and_true, not_true_eq_false, not_false_eq_true, reduceCtorEq, eq_self, Option.toList_some, Option.toList_none, List.cons_append, List.nil_append, Bool.false_eq_true]
  exact l0
theorem sn_closeNo (z d : Nat) {k : Int32} (hs : vs_sn h s ss S) (hk : (k < 0 ∨ 3 ≤ k) ∨ ∃ i, i < 3 ∧ k = nI i ∧ S i = -1) : am_M z (d + 1 + 1) 59 [.ref s, .int k] h (some (.int 0)) h := by
  have q1 : am_M z (d + 1) 60 [.ref s, .int k] h (some (.int (-1))) h := by
    rcases hk with g | ⟨i, hi, rfl, g⟩
    · exact sn_sightOut z d g
    · rw [← g]; exact sn_sightIn z d hi hs
  obtain ⟨h1, h2⟩ := hs
  rw [am_M_eq]
  simp only [am_R_eq, cx_59, en_59, rt_59, rx_aload_n, rx_getfield, ev_gf, rx_iastore, ev_w1, ev_KW, rx_iconst, rx_icmp_ne, rx_iload_n, rx_invv, ev_cv, rx_ireturn, kl_60, ev_K, ev_pI, ev_pR, ev_pVi, ev_pVr, ev_sI, ev_sR, ev_KC, ev_k, ev_ko, ev_pop0, ev_pops, am_ld, am_sv, am_at, am_st, am_g, List.length_cons, List.length_nil, Nat.reduceAdd, Nat.reduceLT, Nat.zero_add, if_true, if_false, and_self, true_or, or_true, true_and, and_true, not_true_eq_false, not_false_eq_true, reduceCtorEq, eq_self, Option.toList_some, Option.toList_none, List.cons_append, List.nil_append, Bool.false_eq_true, h1]
  refine am_CL_of q1 ?_
  simp only [am_R_eq, cx_59, en_59, rt_59, rx_aload_n, rx_getfield, ev_gf, rx_iastore, ev_w1, ev_KW, rx_iconst, rx_icmp_ne, rx_iload_n, rx_invv, ev_cv, rx_ireturn, kl_60, ev_K, ev_pI, ev_pR, ev_pVi, ev_pVr, ev_sI, ev_sR, ev_KC, ev_k, ev_ko, ev_pop0, ev_pops, am_ld, am_sv, am_at, am_st, am_g, List.length_cons, List.length_nil, Nat.reduceAdd, Nat.reduceLT, Nat.zero_add, if_true, if_false, and_self, true_or, or_true, true_and, and_true, not_true_eq_false, not_false_eq_true, reduceCtorEq, eq_self, Option.toList_some, Option.toList_none, List.cons_append, List.nil_append, Bool.false_eq_true, b00]
theorem sn_closeYes (z d : Nat) {i : Nat} (hz : z ≤ ss) (hs : vs_sn h s ss S) (hi : i < 3) (hS : ¬ S i = -1) : am_M z (d + 1 + 1) 59 [.ref s, .int (nI i)] h (some (.int 1)) (am_up h ss (.inl (0, 3, .inl (upd S i (-1))))) := by
  have q1 := sn_sightIn z d hi hs
  obtain ⟨h1, h2⟩ := hs
  have e8 := ev_wi 0 3 i S (nI i) (-1) (ev_ix (by omega) (by omega))
  rw [am_M_eq]
  simp only [am_R_eq, cx_59, en_59, rt_59, rx_aload_n, rx_getfield, ev_gf, rx_iastore, ev_w1, ev_KW, rx_iconst, rx_icmp_ne, rx_iload_n, rx_invv, ev_cv, rx_ireturn, kl_60, ev_K, ev_pI, ev_pR, ev_pVi, ev_pVr, ev_sI, ev_sR, ev_KC, ev_k, ev_ko, ev_pop0, ev_pops, am_ld, am_sv, am_at, am_st, am_g, List.length_cons, List.length_nil, Nat.reduceAdd, Nat.reduceLT, Nat.zero_add, if_true, if_false, and_self, true_or, or_true, true_and, and_true, not_true_eq_false, not_false_eq_true, reduceCtorEq, eq_self, Option.toList_some, Option.toList_none, List.cons_append, List.nil_append, Bool.false_eq_true, h1]
  refine am_CL_of q1 ?_
  simp only [am_R_eq, cx_59, en_59, rt_59, rx_aload_n, rx_getfield, ev_gf, rx_iastore, ev_w1, ev_KW, rx_iconst, rx_icmp_ne, rx_iload_n, rx_invv, ev_cv, rx_ireturn, kl_60, ev_K, ev_pI, ev_pR, ev_pVi, ev_pVr, ev_sI, ev_sR, ev_KC, ev_k, ev_ko, ev_pop0, ev_pops, am_ld, am_sv, am_at, am_st, am_g, List.length_cons, List.length_nil, Nat.reduceAdd, Nat.reduceLT, Nat.zero_add, if_true, if_false, and_self, true_or, or_true, true_and, and_true, not_true_eq_false, not_false_eq_true, reduceCtorEq, eq_self, Option.toList_some, Option.toList_none, List.cons_append, List.nil_append, Bool.false_eq_true, hS, h1, h2, e8, hz, b11]
theorem sn_closeAll (z d : Nat) (hz : z ≤ ss) (hs : vs_sn h s ss S) : am_M z (d + 1 + 1) 63 [.ref s] h none (am_up h ss (.inl (0, 3, .inl (fun i => if i < 3 then -1 else S i)))) := by
  obtain ⟨h1, h2⟩ := hs
  have q1 := ar_fill z d (v := -1) hz h2 (by omega)
  rw [am_M_eq]
  simp only [am_R_eq, cx_63, en_63, rt_63, rx_aload_n, rx_getfield, ev_gf, rx_iconst, rx_invs, rx_max2, rx_min2, rx_copy2, rx_return, ev_K, ev_pI, ev_pR, ev_pVi, ev_pVr, ev_sI, ev_sR, ev_KC, ev_k, ev_ko, ev_pop0, ev_pops, am_ld, am_sv, am_at, am_st, am_g, List.length_cons, List.length_nil, Nat.reduceAdd, Nat.reduceLT, Nat.zero_add, if_true, if_false, and_self, true_or, or_true, true_and, and_true, not_true_eq_false, not_false_eq_true, reduceCtorEq, eq_self, Option.toList_some, Option.toList_none, List.cons_append, List.nil_append, Bool.false_eq_true, h1]
  refine am_CL_of q1 ?_
  simp only [am_R_eq, cx_63, en_63, rt_63, rx_aload_n, rx_getfield, ev_gf, rx_iconst, rx_invs, rx_max2, rx_min2, rx_copy2, rx_return, ev_K, ev_pI, ev_pR, ev_pVi, ev_pVr, ev_sI, ev_sR, ev_KC, ev_k, ev_ko, ev_pop0, ev_pops, am_ld, am_sv, am_at, am_st, am_g, List.length_cons, List.length_nil, Nat.reduceAdd, Nat.reduceLT, Nat.zero_add, if_true, if_false, and_self, true_or, or_true, true_and, and_true, not_true_eq_false, not_false_eq_true, reduceCtorEq, eq_self, Option.toList_some, Option.toList_none, List.cons_append, List.nil_append, Bool.false_eq_true]
end SNAP
section TELL
variable {h : am_H} {t r a bl n : Nat} {L : List Nat} {E : Nat → Nat → Int32} {F : Int32}
theorem sw_n (k : Nat) (hk : k < 100) : ¬ nI k < 0 := nI_pos (by omega)
theorem sw_c (k : Nat) (hk : k < 100) : (nI k).toNatClampNeg = k := nI_clamp (by omega)
theorem ta_tell0 (z d : Nat) (ht : h.1 t = some (vs_tb r F)) (hr : vs_row h r a bl n L) : am_M z (d + 1 + 1) 84 [.ref t, .int (nI 0)] h (some (.int (nI L.length))) h := by
  obtain ⟨g0, k1, k2, k3, k4, k5, kne⟩ := hr.g
  have c1 := sw_n 0 (by omega)
  have c2 := sw_c 0 (by omega)
  rw [am_M_eq]
  simp only [am_R_eq, cx_84, en_84, rt_84, rx_aload_n, rx_bipush, rx_getfield, ev_gf, rx_iload_n, rx_invv, ev_cv, rx_ireturn, rx_tableswitch, kl_12, kl_78, kl_79, kl_85, ev_K, ev_pI, ev_pR, ev_pVi, ev_pVr, ev_sI, ev_sR, ev_KC, ev_k, ev_ko, ev_pop0, ev_pops, am_ld, am_sv, am_at, am_st, am_g, List.length_cons, List.length_nil, Nat.reduceAdd, Nat.reduceLT, Nat.zero_add, if_true, if_false, and_self, true_or, or_true, true_and, and_true, not_true_eq_false, not_false_eq_true, reduceCtorEq, eq_self, Option.toList_some, Option.toList_none, List.cons_append, List.nil_append, Bool.false_eq_true, c1, c2, am_tn, ht, k1, Nat.reduceLeDiff, or_self]
  refine am_CL_of (ro_size z d hr) ?_
  simp only [am_R_eq, cx_84, en_84, rt_84, rx_aload_n, rx_bipush, rx_getfield, ev_gf, rx_iload_n, rx_invv, ev_cv, rx_ireturn, rx_tableswitch, kl_12, kl_78, kl_79, kl_85, ev_K, ev_pI, ev_pR, ev_pVi, ev_pVr, ev_sI, ev_sR, ev_KC, ev_k, ev_ko, ev_pop0, ev_pops, am_ld, am_sv, am_at, am_st, am_g, List.length_cons, List.length_nil, Nat.reduceAdd, Nat.reduceLT, Nat.zero_add, if_true, if_false, and_self, true_or, or_true, true_and, and_true, not_true_eq_false, not_false_eq_true, reduceCtorEq, eq_self, Option.toList_some, Option.toList_none, List.cons_append, List.nil_append, Bool.false_eq_true]
theorem ta_tell1 (z d : Nat) (ht : h.1 t = some (vs_tb r F)) : am_M z (d + 1) 84 [.ref t, .int (nI 1)] h (some (.int F)) h := by
  have c1 := sw_n 1 (by omega)
  have c2 := sw_c 1 (by omega)
  rw [am_M_eq]
  simp only [am_R_eq, cx_84, en_84, rt_84, rx_aload_n, rx_bipush, rx_getfield, ev_gf, rx_iload_n, rx_invv, ev_cv, rx_ireturn, rx_tableswitch, kl_12, kl_78, kl_79, kl_85, ev_K, ev_pI, ev_pR, ev_pVi, ev_pVr, ev_sI, ev_sR, ev_KC, ev_k, ev_ko, ev_pop0, ev_pops, am_ld, am_sv, am_at, am_st, am_g, List.length_cons, List.length_nil, Nat.reduceAdd, Nat.reduceLT, Nat.zero_add, if_true, if_false, and_self, true_or, or_true, true_and, and_true, not_true_eq_false, not_false_eq_true, reduceCtorEq, eq_self, Option.toList_some, Option.toList_none, List.cons_append, List.nil_append, Bool.false_eq_true, c1, c2, am_tn, ht, Nat.reduceLeDiff, or_self]
theorem ta_tell2 (z d : Nat) {x : Nat} (ht : h.1 t = some (vs_tb r F)) (hr : vs_row h r a bl n L) (hx : L[0]? = some x) (he : h.1 x = some (vs_e E x)) : am_M z (d + 1 + 1 + 1) 84 [.ref t, .int (nI 2)] h (some (.int (E x 0))) h := by
  have c1 := sw_n 2 (by omega)
  have c2 := sw_c 2 (by omega)
  rw [am_M_eq]
  simp only [am_R_eq, cx_84, en_84, rt_84, rx_aload_n, rx_bipush, rx_getfield, ev_gf, rx_iload_n, rx_invv, ev_cv, rx_ireturn, rx_tableswitch, kl_12, kl_78, kl_79, kl_85, ev_K, ev_pI, ev_pR, ev_pVi, ev_pVr, ev_sI, ev_sR, ev_KC, ev_k, ev_ko, ev_pop0, ev_pops, am_ld, am_sv, am_at, am_st, am_g, List.length_cons, List.length_nil, Nat.reduceAdd, Nat.reduceLT, Nat.zero_add, if_true, if_false, and_self, true_or, or_true, true_and, and_true, not_true_eq_false, not_false_eq_true, reduceCtorEq, eq_self, Option.toList_some, Option.toList_none, List.cons_append, List.nil_append, Bool.false_eq_true, c1, c2, am_tn, ht, Nat.reduceLeDiff, or_self]
  refine am_CL_of (ta_firstKey z d ht hr hx he) ?_
  simp only [am_R_eq, cx_84, en_84, rt_84, rx_aload_n, rx_bipush, rx_getfield, ev_gf, rx_iload_n, rx_invv, ev_cv, rx_ireturn, rx_tableswitch, kl_12, kl_78, kl_79, kl_85, ev_K, ev_pI, ev_pR, ev_pVi, ev_pVr, ev_sI, ev_sR, ev_KC, ev_k, ev_ko, ev_pop0, ev_pops, am_ld, am_sv, am_at, am_st, am_g, List.length_cons, List.length_nil, Nat.reduceAdd, Nat.reduceLT, Nat.zero_add, if_true, if_false, and_self, true_or, or_true, true_and, and_true, not_true_eq_false, not_false_eq_true, reduceCtorEq, eq_self, Option.toList_some, Option.toList_none, List.cons_append, List.nil_append, Bool.false_eq_true]
theorem ta_tell3 (z d : Nat) {x : Nat} (ht : h.1 t = some (vs_tb r F)) (hr : vs_row h r a bl n L) (hx : L[L.length - 1]? = some x) (he : h.1 x = some (vs_e E x)) : am_M z (d + 1 + 1 + 1) 84 [.ref t, .int (nI 3)] h (some (.int (E x 0))) h := by
  have c1 := sw_n 3 (by omega)
  have c2 := sw_c 3 (by omega)
  rw [am_M_eq]
  simp only [am_R_eq, cx_84, en_84, rt_84, rx_aload_n, rx_bipush, rx_getfield, ev_gf, rx_iload_n, rx_invv, ev_cv, rx_ireturn, rx_tableswitch, kl_12, kl_78, kl_79, kl_85, ev_K, ev_pI, ev_pR, ev_pVi, ev_pVr, ev_sI, ev_sR, ev_KC, ev_k, ev_ko, ev_pop0, ev_pops, am_ld, am_sv, am_at, am_st, am_g, List.length_cons, List.length_nil, Nat.reduceAdd, Nat.reduceLT, Nat.zero_add, if_true, if_false, and_self, true_or, or_true, true_and, and_true, not_true_eq_false, not_false_eq_true, reduceCtorEq, eq_self, Option.toList_some, Option.toList_none, List.cons_append, List.nil_append, Bool.false_eq_true, c1, c2, am_tn, ht, Nat.reduceLeDiff, or_self]
  refine am_CL_of (ta_lastKey z d ht hr hx he) ?_
  simp only [am_R_eq, cx_84, en_84, rt_84, rx_aload_n, rx_bipush, rx_getfield, ev_gf, rx_iload_n, rx_invv, ev_cv, rx_ireturn, rx_tableswitch, kl_12, kl_78, kl_79, kl_85, ev_K, ev_pI, ev_pR, ev_pVi, ev_pVr, ev_sI, ev_sR, ev_KC, ev_k, ev_ko, ev_pop0, ev_pops, am_ld, am_sv, am_at, am_st, am_g, List.length_cons, List.length_nil, Nat.reduceAdd, Nat.reduceLT, Nat.zero_add, if_true, if_false, and_self, true_or, or_true, true_and, and_true, not_true_eq_false, not_false_eq_true, reduceCtorEq, eq_self, Option.toList_some, Option.toList_none, List.cons_append, List.nil_append, Bool.false_eq_true]
theorem ta_tell4 (z d : Nat) (ht : h.1 t = some (vs_tb r F)) (hr : vs_row h r a bl n L) (hL : ∀ x ∈ L, h.1 x = some (vs_e E x)) : am_M z (d + 1 + 1 + 1) 84 [.ref t, .int (nI 4)] h (some (.int (L.foldl (e_gs E) 0))) h := by
  have c1 := sw_n 4 (by omega)
  have c2 := sw_c 4 (by omega)
  rw [am_M_eq]
  simp only [am_R_eq, cx_84, en_84, rt_84, rx_aload_n, rx_bipush, rx_getfield, ev_gf, rx_iload_n, rx_invv, ev_cv, rx_ireturn, rx_tableswitch, kl_12, kl_78, kl_79, kl_85, ev_K, ev_pI, ev_pR, ev_pVi, ev_pVr, ev_sI, ev_sR, ev_KC, ev_k, ev_ko, ev_pop0, ev_pops, am_ld, am_sv, am_at, am_st, am_g, List.length_cons, List.length_nil, Nat.reduceAdd, Nat.reduceLT, Nat.zero_add, if_true, if_false, and_self, true_or, or_true, true_and, and_true, not_true_eq_false, not_false_eq_true, reduceCtorEq, eq_self, Option.toList_some, Option.toList_none, List.cons_append, List.nil_append, Bool.false_eq_true, c1, c2, am_tn, ht, Nat.reduceLeDiff, or_self]
  refine am_CL_of (ta_greatestSerial z d ht hr hL) ?_
  simp only [am_R_eq, cx_84, en_84, rt_84, rx_aload_n, rx_bipush, rx_getfield, ev_gf, rx_iload_n, rx_invv, ev_cv, rx_ireturn, rx_tableswitch, kl_12, kl_78, kl_79, kl_85, ev_K, ev_pI, ev_pR, ev_pVi, ev_pVr, ev_sI, ev_sR, ev_KC, ev_k, ev_ko, ev_pop0, ev_pops, am_ld, am_sv, am_at, am_st, am_g, List.length_cons, List.length_nil, Nat.reduceAdd, Nat.reduceLT, Nat.zero_add, if_true, if_false, and_self, true_or, or_true, true_and, and_true, not_true_eq_false, not_false_eq_true, reduceCtorEq, eq_self, Option.toList_some, Option.toList_none, List.cons_append, List.nil_append, Bool.false_eq_true]
theorem ta_tellNo (z d : Nat) {w : Int32} (hw : w < 0 ∨ 5 ≤ w.toNatClampNeg) : am_M z (d + 1) 84 [.ref t, .int w] h (some (.int (-2))) h := by
  rw [am_M_eq]
  simp only [am_R_eq, cx_84, en_84, rt_84, rx_aload_n, rx_bipush, rx_getfield, ev_gf, rx_iload_n, rx_invv, ev_cv, rx_ireturn, rx_tableswitch, kl_12, kl_78, kl_79, kl_85, ev_K, ev_pI, ev_pR, ev_pVi, ev_pVr, ev_sI, ev_sR, ev_KC, ev_k, ev_ko, ev_pop0, ev_pops, am_ld, am_sv, am_at, am_st, am_g, List.length_cons, List.length_nil, Nat.reduceAdd, Nat.reduceLT, Nat.zero_add, if_true, if_false, and_self, true_or, or_true, true_and, and_true, not_true_eq_false, not_false_eq_true, reduceCtorEq, eq_self, Option.toList_some, Option.toList_none, List.cons_append, List.nil_append, Bool.false_eq_true, hw]
end TELL
section ADDN
variable {h : am_H} {lv ta m c cap bl : Nat} {tt rr aa : Nat → Nat} {C : Nat → List Nat} {fl : Nat → Int32} {E : Nat → Nat → Int32}
def e_rot {α : Type} (c : Nat) (f : Nat → α) : Nat → α := fun k => if k = 0 then f c else if k ≤ c then f (k - 1) else f k
theorem e_rot_inj {f : Nat → Nat} (hc : c < m) (hf : ∀ i j, i < m → j < m → i ≠ j → f i ≠ f j) : ∀ i j, i < m → j < m → i ≠ j → e_rot c f i ≠ e_rot c f j := by
  intro i j hi hj hij
  have key : ∀ k, k < m → ∃ k', k' < m ∧ e_rot c f k = f k' ∧ k' = (if k = 0 then c else if k ≤ c then k - 1 else k) := by
    intro k hk
    unfold e_rot
    by_cases h0 : k = 0
    · exact ⟨c, hc, by rw [if_pos h0], by rw [if_pos h0]⟩
    · by_cases h1 : k ≤ c
      · exact ⟨k - 1, by omega, by rw [if_neg h0, if_pos h1], by rw [if_neg h0, if_pos h1]⟩
      · exact ⟨k, hk, by rw [if_neg h0, if_neg h1], by rw [if_neg h0, if_neg h1]⟩
  obtain ⟨i', a1, a2, a3⟩ := key i hi
  obtain ⟨j', b1, b2, b3⟩ := key j hj
  rw [a2, b2]
  refine hf i' j' a1 b1 ?_
  intro e
  rw [a3, b3] at e
  split at e <;> split at e <;> (try split at e) <;> (try split at e) <;> omega
theorem e_rot_all {P : Nat → Prop} (hc : c < m) (f : Nat → Nat) (hP : ∀ k, k < m → P (f k)) : ∀ k, k < m → P (e_rot c f k) := by
  intro k hk
  unfold e_rot
  split
  · exact hP c hc
  · split
    · exact hP _ (by omega)
    · exact hP k hk
theorem le_addNewest (z d : Nat) {r a blr n : Nat} {L : List Nat} (hzl : z ≤ lv) (hzta : z ≤ ta) (hzt : ∀ k, k < m → z ≤ tt k ∧ z ≤ rr k ∧ z ≤ aa k) (hl : vs_lv h lv ta m c cap bl tt rr aa C fl) (hr : vs_row h r a blr n L) (hn : ∀ k, k < m → rr k ≠ r ∧ aa k ≠ a) (hL : ∀ x ∈ L, h.1 x = some (vs_e E x)) (hcap : L.length ≤ cap) (hroom : c < m) :
    ∃ h', am_M z (d + 1 + 1 + 1) 35 [.ref lv, .ref r] h none h' ∧ vs_lv h' lv ta m (c + 1) cap bl (e_rot c tt) (e_rot c rr) (e_rot c aa) (va_up (e_rot c C) 0 L) (va_up (e_rot c fl) 0 (L.foldl (e_ff E) 0)) ∧ vs_chl h h' lv ta m tt rr aa := by
  obtain ⟨gr, r1, r2, r3, r4, r5, rne⟩ := hr.g
  have hl0 := hl
  obtain ⟨l1, l2, l3, ⟨G, l4, l5⟩, l6, l7, l8⟩ := hl
  have nlt : lv ≠ ta := am_ne l1 l4 (by simp)
  have ntt : ∀ k, k < m → tt k ≠ ta := fun k hk => am_ne (l6 k hk) l4 (by simp)
  -- the heap after the shift
  have hG0 : ∀ k, k < m → va_up (vs_sh G c 0) 0 (some (tt c)) k = some (e_rot c tt k) := by
    intro k hk
    unfold e_rot
    by_cases h0 : k = 0
    · subst h0; rw [va_up_self, if_pos rfl]
    · rw [va_up_ne _ _ h0, if_neg h0]
      unfold vs_sh
      by_cases h1 : k ≤ c
      · rw [if_pos ⟨by omega, h1⟩, if_pos h1]; exact l5 _ (by omega)
      · rw [if_neg (by omega), if_neg h1]; exact l5 k hk
  have rotrow : ∀ k, k < m → ∃ k', k' < m ∧ e_rot c tt k = tt k' ∧ e_rot c rr k = rr k' ∧ e_rot c aa k = aa k' ∧ e_rot c C k = C k' ∧ e_rot c fl k = fl k' := by
    intro k hk
    unfold e_rot
    by_cases h0 : k = 0
    · exact ⟨c, hroom, by rw [if_pos h0], by rw [if_pos h0], by rw [if_pos h0], by rw [if_pos h0], by rw [if_pos h0]⟩
    · by_cases h1 : k ≤ c
      · exact ⟨k - 1, by omega, by rw [if_neg h0, if_pos h1], by rw [if_neg h0, if_pos h1], by rw [if_neg h0, if_pos h1], by rw [if_neg h0, if_pos h1], by rw [if_neg h0, if_pos h1]⟩
      · exact ⟨k, hk, by rw [if_neg h0, if_neg h1], by rw [if_neg h0, if_neg h1], by rw [if_neg h0, if_neg h1], by rw [if_neg h0, if_neg h1], by rw [if_neg h0, if_neg h1]⟩
  have h2ex : ∃ h2, h2 = am_up h ta (vs_qt m (va_up (vs_sh G c 0) 0 (some (tt c)))) := ⟨_, rfl⟩
  obtain ⟨h2, hh2⟩ := h2ex
  have hl2 : vs_lv h2 lv ta m c cap bl (e_rot c tt) (e_rot c rr) (e_rot c aa) (e_rot c C) (e_rot c fl) := by
    subst hh2
    refine ⟨by rw [am_up_ne _ _ nlt]; exact l1, l2, l3, ⟨_, am_up_at _ _ _, hG0⟩, fun k hk => ?_, fun k hk => ?_, fun i j hi hj hij => ⟨e_rot_inj hroom (fun i j a b e => (l8 i j a b e).1) i j hi hj hij, e_rot_inj hroom (fun i j a b e => (l8 i j a b e).2.1) i j hi hj hij, e_rot_inj hroom (fun i j a b e => (l8 i j a b e).2.2) i j hi hj hij⟩⟩
    · obtain ⟨k', q1, q2, q3, q4, q5, q6⟩ := rotrow k hk
      rw [q2, q3, q6, am_up_ne _ _ (ntt k' q1)]
      exact l6 k' q1
    · obtain ⟨k', q1, q2, q3, q4, q5, q6⟩ := rotrow k hk
      rw [q3, q4, q5]
      obtain ⟨g2, p1, p2, p3, p4, p5, pne⟩ := (l7 k' q1).g
      exact (l7 k' q1).fr (am_up_ne _ _ (am_ne p1 l4 (by simp))) (am_up_ne _ _ (am_ne p2 l4 (by simp)))
  have hc2 : vs_chl h h2 lv ta m tt rr aa := by
    subst hh2
    exact ⟨fun q _ e2 _ => am_up_ne _ _ e2, rfl⟩
  have hr2 := hc2.row hl0 hr hn
  obtain ⟨gr2, s1, s2, s3, s4, s5, sne⟩ := hr2.g
  obtain ⟨v1, v2, v3, ⟨G2, v4, v5⟩, v6, v7, v8⟩ := hl2
  have hl2 : vs_lv h2 lv ta m c cap bl (e_rot c tt) (e_rot c rr) (e_rot c aa) (e_rot c C) (e_rot c fl) := ⟨v1, v2, v3, ⟨G2, v4, v5⟩, v6, v7, v8⟩
  have hm0 : 0 < m := by omega
  have rt0 : e_rot c tt 0 = tt c := by simp [e_rot]
  obtain ⟨h3, f1, f2, f3, f4⟩ := ta_fillFrom z d (p := 0) (u := L.length) (E := E) (by rw [rt0]; exact (hzt c hroom).1) (show z ≤ e_rot c rr 0 by simp only [e_rot, if_true]; exact (hzt c hroom).2.1) (show z ≤ e_rot c aa 0 by simp only [e_rot, if_true]; exact (hzt c hroom).2.2) (v6 0 hm0) (v7 0 hm0) hr2 (by simp only [e_rot, if_true]; exact (hn c hroom).1.symm) (by simp only [e_rot, if_true]; exact (hn c hroom).2.symm) (fun x hx => hc2.obj hl0 (hL x hx) (by decide) (by decide) (by decide)) (Nat.zero_le _) (Nat.le_refl _) (by omega)
  rw [List.take_length, List.drop_zero] at f2 f3
  have hl3 := hl2.set hm0 f4 f3 f2
  have hc3 : vs_chl h h3 lv ta m tt rr aa := by
    refine hc2.tr ⟨fun q e1 e2 e3 => ?_, f4.2⟩
    have := e3 c hroom
    simp only [e_rot, if_true] at f4
    exact f4.1 q this.1 this.2.1 this.2.2
  obtain ⟨w1, w2, w3, ⟨G3, w4, w5⟩, w6, w7, w8⟩ := hl3
  have hfin : vs_lv (am_up h3 lv (vs_lo ta (c + 1))) lv ta m (c + 1) cap bl (e_rot c tt) (e_rot c rr) (e_rot c aa) (va_up (e_rot c C) 0 L) (va_up (e_rot c fl) 0 (L.foldl (e_ff E) 0)) := by
    refine ⟨am_up_at _ _ _, hroom, l3, ⟨G3, by rw [am_up_ne _ _ nlt.symm]; exact w4, w5⟩, fun k hk => ?_, fun k hk => (w7 k hk).up _ w1 (by decide), w8⟩
    rw [am_up_ne _ _ (am_ne (w6 k hk) w1 (by simp))]
    exact w6 k hk
  refine ⟨_, ?_, hfin, hc3.tr (vs_chl.upl _)⟩
  have ht0 := v6 0 hm0
  rw [rt0] at ht0 f1
  have fin : am_R z (d + 1 + 1) 35 59 [some (.ref lv), some (.ref r), some (.ref (tt c)), some (.int (nI 0))] [] h2 none (am_up h3 lv (vs_lo ta (c + 1))) := by
    simp only [am_R_eq, cx_35, en_35, rt_35, rx_aaload, rx_aastore, ev_w1, ev_KW, rx_aload_n, rx_arraylength, ev_ln, ev_pN, rx_astore_n, rx_dup_i, rx_dup_r, rx_getfield, ev_gf, rx_goto, rx_iadd, rx_iconst, rx_icmp_lt, rx_if_le, rx_iinc, ev_inc, rx_iload_n, rx_invv, ev_cv, rx_istore_n, rx_isub, rx_putfield, ev_pf, am_fok, am_ftv, rx_return, kl_12, kl_33, ev_K, ev_pI, ev_pR, ev_pVi, ev_pVr, ev_sI, ev_sR, ev_KC, ev_k, ev_ko, ev_pop0, ev_pops, am_ld, am_sv, am_at, am_st, am_g, List.length_cons, List.length_nil, Nat.reduceAdd, Nat.reduceLT, Nat.zero_add, if_true, if_false, and_self, true_or, or_true, true_and, and_true, not_true_eq_false, not_false_eq_true, reduceCtorEq, eq_self, Option.toList_some, Option.toList_none, List.cons_append, List.nil_append, Bool.false_eq_true, s1]
    refine am_CL_of (ro_size z (d + 1) hr2) ?_
    simp only [am_R_eq, cx_35, en_35, rt_35, rx_aaload, rx_aastore, ev_w1, ev_KW, rx_aload_n, rx_arraylength, ev_ln, ev_pN, rx_astore_n, rx_dup_i, rx_dup_r, rx_getfield, ev_gf, rx_goto, rx_iadd, rx_iconst, rx_icmp_lt, rx_if_le, rx_iinc, ev_inc, rx_iload_n, rx_invv, ev_cv, rx_istore_n, rx_isub, rx_putfield, ev_pf, am_fok, am_ftv, rx_return, kl_12, kl_33, ev_K, ev_pI, ev_pR, ev_pVi, ev_pVr, ev_sI, ev_sR, ev_KC, ev_k, ev_ko, ev_pop0, ev_pops, am_ld, am_sv, am_at, am_st, am_g, List.length_cons, List.length_nil, Nat.reduceAdd, Nat.reduceLT, Nat.zero_add, if_true, if_false, and_self, true_or, or_true, true_and, and_true, not_true_eq_false, not_false_eq_true, reduceCtorEq, eq_self, Option.toList_some, Option.toList_none, List.cons_append, List.nil_append, Bool.false_eq_true, ht0]
    refine am_CL_of f1 ?_
    simp only [am_R_eq, cx_35, en_35, rt_35, rx_aaload, rx_aastore, ev_w1, ev_KW, rx_aload_n, rx_arraylength, ev_ln, ev_pN, rx_astore_n, rx_dup_i, rx_dup_r, rx_getfield, ev_gf, rx_goto, rx_iadd, rx_iconst, rx_icmp_lt, rx_if_le, rx_iinc, ev_inc, rx_iload_n, rx_invv, ev_cv, rx_istore_n, rx_isub, rx_putfield, ev_pf, am_fok, am_ftv, rx_return, kl_12, kl_33, ev_K, ev_pI, ev_pR, ev_pVi, ev_pVr, ev_sI, ev_sR, ev_KC, ev_k, ev_ko, ev_pop0, ev_pops, am_ld, am_sv, am_at, am_st, am_g, List.length_cons, List.length_nil, Nat.reduceAdd, Nat.reduceLT, Nat.zero_add, if_true, if_false, and_self, true_or, or_true, true_and, and_true, not_true_eq_false, not_false_eq_true, reduceCtorEq, eq_self, Option.toList_some, Option.toList_none, List.cons_append, List.nil_append, Bool.false_eq_true, w1, hzl, nI_ofs, Nat.reduceLeDiff, beq_self_eq_true]
  have loop : ∀ k, k ≤ c → am_R z (d + 1 + 1) 35 28 [some (.ref lv), some (.ref r), some (.ref (tt c)), some (.int (nI k))] [] (am_up h ta (vs_qt m (vs_sh G c k))) none (am_up h3 lv (vs_lo ta (c + 1))) := by
    intro k
    have hko : ∀ j, j < m → ∀ w, am_ko ((am_up h ta w).1 (tt j)) = some 3 := by
      intro j hj w
      rw [am_up_ne _ _ (ntt j hj), l6 j hj]
      rfl
    induction k with
    | zero =>
      intro _
      have e1 : nI 0 ≤ 0 := by decide
      have e3 : am_ix 0 m = some 0 := ev_ix (k := 0) hm0 (by omega)
      have e4 := ev_wq 3 m 0 (tt c) (vs_sh G c 0) 0 ((am_up h ta (vs_qt m (vs_sh G c 0))).1 (tt c)) (by omega) e3 (hko c hroom _)
      rw [am_R_eq] at fin
      subst hh2
      rw [am_R_eq, cxh_35_28]
      simp only [am_R_eq, cx_35, en_35, rt_35, rx_aaload, rx_aastore, ev_w1, ev_KW, rx_aload_n, rx_arraylength, ev_ln, ev_pN, rx_astore_n, rx_dup_i, rx_dup_r, rx_getfield, ev_gf, rx_goto, rx_iadd, rx_iconst, rx_icmp_lt, rx_if_le, rx_iinc, ev_inc, rx_iload_n, rx_invv, ev_cv, rx_istore_n, rx_isub, rx_putfield, ev_pf, am_fok, am_ftv, rx_return, kl_12, kl_33, ev_K, ev_pI, ev_pR, ev_pVi, ev_pVr, ev_sI, ev_sR, ev_KC, ev_k, ev_ko, ev_pop0, ev_pops, am_ld, am_sv, am_at, am_st, am_g, List.length_cons, List.length_nil, Nat.reduceAdd, Nat.reduceLT, Nat.zero_add, if_true, if_false, and_self, true_or, or_true, true_and, and_true, not_true_eq_false, not_false_eq_true, reduceCtorEq, eq_self, Option.toList_some, Option.toList_none, List.cons_append, List.nil_append, Bool.false_eq_true, l1, e1, e4, hzta, am_up_ne, am_up_at, am_up_up, nlt, ne_eq]
      revert fin
      simp only [am_R_eq, cx_35, en_35, rt_35, rx_aaload, rx_aastore, ev_w1, ev_KW, rx_aload_n, rx_arraylength, ev_ln, ev_pN, rx_astore_n, rx_dup_i, rx_dup_r, rx_getfield, ev_gf, rx_goto, rx_iadd, rx_iconst, rx_icmp_lt, rx_if_le, rx_iinc, ev_inc, rx_iload_n, rx_invv, ev_cv, rx_istore_n, rx_isub, rx_putfield, ev_pf, am_fok, am_ftv, rx_return, kl_12, kl_33, ev_K, ev_pI, ev_pR, ev_pVi, ev_pVr, ev_sI, ev_sR, ev_KC, ev_k, ev_ko, ev_pop0, ev_pops, am_ld, am_sv, am_at, am_st, am_g, List.length_cons, List.length_nil, Nat.reduceAdd, Nat.reduceLT, Nat.zero_add, if_true, if_false, and_self, true_or, or_true, true_and, and_true, not_true_eq_false, not_false_eq_true, reduceCtorEq, eq_self, Option.toList_some, Option.toList_none, List.cons_append, List.nil_append, Bool.false_eq_true]
      exact fun q => q
    | succ k ih =>
      intro hkc
      have e1 : ¬ nI (k + 1) ≤ 0 := nI_nle (by omega) (by omega)
      have e3 : am_ix (nI (k + 1)) m = some (k + 1) := ev_ix (by omega) (by omega)
      have e5 : am_ix (nI k) m = some k := ev_ix (by omega) (by omega)
      have e6 : nI (k + 1) - 1 = nI k := nI_pred k
      have e8 : nI (k + 1) + -1 = nI k := pk_m1 k
      have hgx : vs_sh G c (k + 1) k = some (tt k) := by
        unfold vs_sh
        rw [if_neg (by omega)]
        exact l5 k (by omega)
      have e7 := ev_rq 3 m k (tt k) (vs_sh G c (k + 1)) (nI k) (by omega) e5 hgx
      have e4 := ev_wq 3 m (k + 1) (tt k) (vs_sh G c (k + 1)) (nI (k + 1)) ((am_up h ta (vs_qt m (vs_sh G c (k + 1)))).1 (tt k)) (by omega) e3 (hko k (by omega) _)
      have e9 : va_up (vs_sh G c (k + 1)) (k + 1) (some (tt k)) = vs_sh G c k := by rw [← hgx]; exact vs_sh_step G (by omega)
      have ih2 := ih (by omega)
      rw [am_R_eq] at ih2
      rw [am_R_eq, cxh_35_28]
      simp only [am_R_eq, cx_35, en_35, rt_35, rx_aaload, rx_aastore, ev_w1, ev_KW, rx_aload_n, rx_arraylength, ev_ln, ev_pN, rx_astore_n, rx_dup_i, rx_dup_r, rx_getfield, ev_gf, rx_goto, rx_iadd, rx_iconst, rx_icmp_lt, rx_if_le, rx_iinc, ev_inc, rx_iload_n, rx_invv, ev_cv, rx_istore_n, rx_isub, rx_putfield, ev_pf, am_fok, am_ftv, rx_return, kl_12, kl_33, ev_K, ev_pI, ev_pR, ev_pVi, ev_pVr, ev_sI, ev_sR, ev_KC, ev_k, ev_ko, ev_pop0, ev_pops, am_ld, am_sv, am_at, am_st, am_g, List.length_cons, List.length_nil, Nat.reduceAdd, Nat.reduceLT, Nat.zero_add, if_true, if_false, and_self, true_or, or_true, true_and, and_true, not_true_eq_false, not_false_eq_true, reduceCtorEq, eq_self, Option.toList_some, Option.toList_none, List.cons_append, List.nil_append, Bool.false_eq_true, l1, e1, e4, e6, e7, e8, e9, hzta, am_up_ne, am_up_at, am_up_up, nlt, ne_eq]
      exact ih2
  have e1 : nI c < nI m := nI_lt hroom (by omega)
  have e5 : am_ix (nI c) m = some c := ev_ix hroom (by omega)
  have e7 := ev_rq 3 m c (tt c) G (nI c) (by omega) e5 (l5 c hroom)
  have l0 := loop c (Nat.le_refl _)
  rw [vs_sh_top, am_up_self l4, am_R_eq] at l0
  rw [am_M_eq]
  simp only [am_R_eq, cx_35, en_35, rt_35, rx_aaload, rx_aastore, ev_w1, ev_KW, rx_aload_n, rx_arraylength, ev_ln, ev_pN, rx_astore_n, rx_dup_i, rx_dup_r, rx_getfield, ev_gf, rx_goto, rx_iadd, rx_iconst, rx_icmp_lt, rx_if_le, rx_iinc, ev_inc, rx_iload_n, rx_invv, ev_cv, rx_istore_n, rx_isub, rx_putfield, ev_pf, am_fok, am_ftv, rx_return, kl_12, kl_33, ev_K, ev_pI, ev_pR, ev_pVi, ev_pVr, ev_sI, ev_sR, ev_KC, ev_k, ev_ko, ev_pop0, ev_pops, am_ld, am_sv, am_at, am_st, am_g, List.length_cons, List.length_nil, Nat.reduceAdd, Nat.reduceLT, Nat.zero_add, if_true, if_false, and_self, true_or, or_true, true_and, and_true, not_true_eq_false, not_false_eq_true, reduceCtorEq, eq_self, Option.toList_some, Option.toList_none, List.cons_append, List.nil_append, Bool.false_eq_true, l1, l4, ev_ln, ev_pN, e1, e7]
  exact l0
end ADDN
end
section
def vn (i : Nat) : Nat := match i with
  | 0 => 6
  | 1 => 8
  | 2 => 172
  | _ => 16
def vm (l : Nat) : Nat := match l with
  | 0 => 4
  | 1 => 8
  | _ => 22
def vc (l : Nat) : Nat := match l with
  | 0 => 8
  | _ => 6
abbrev vs_vo (ad : Nat → Nat) (v : Nat → Int32) : am_E := .inr (0, [.ref (ad 1), .ref (ad 10), .ref (ad 11), .ref (ad 4), .ref (ad 5), .ref (ad 6), .ref (ad 12), .ref (ad 13), .ref (ad 2), .ref (ad 3), .int (v 0), .int (v 1), .int (v 2), .int (v 3)])
def vs_D (z : Nat) (ad : Nat → Nat) (tt rr aa : Nat → Nat → Nat) : Prop :=
  (∀ i j, i < 23 → j < 23 → i ≠ j → ad i ≠ ad j) ∧ (∀ i, i < 23 → z ≤ ad i) ∧ (∀ l k, l < 3 → k < vm l → z ≤ tt l k ∧ z ≤ rr l k ∧ z ≤ aa l k) ∧
  (∀ l k i, l < 3 → k < vm l → i < 23 → tt l k ≠ ad i ∧ rr l k ≠ ad i ∧ aa l k ≠ ad i) ∧ ∀ l k l' k', l < 3 → k < vm l → l' < 3 → k' < vm l' → l ≠ l' → tt l k ≠ tt l' k' ∧ rr l k ≠ rr l' k' ∧ aa l k ≠ aa l' k'
def vs_V (z : Nat) (h : am_H) (ad : Nat → Nat) (tt rr aa : Nat → Nat → Nat) (R : Nat → List Nat) (C : Nat → Nat → List Nat) (fl : Nat → Nat → Int32) (c : Nat → Nat) (tk cb tb sb g : Nat → Nat) (S : Nat → Int32) (En : Nat → Prop) (E : Nat → Nat → Int32) (v : Nat → Int32) : Prop :=
  h.1 (ad 0) = some (vs_vo ad v) ∧ (∀ e, En e → h.1 e = some (vs_e E e) ∧ z ≤ e) ∧ En (ad 1) ∧
  (∀ i, i < 4 → vs_row h (ad (10 + i)) (ad (14 + i)) (ad 1) (vn i) (R i) ∧ ∀ x ∈ R i, En x) ∧
  (∀ l, l < 3 → vs_lv h (ad (4 + l)) (ad (7 + l)) (vm l) (c l) (vc l) (ad 1) (tt l) (rr l) (aa l) (C l) (fl l) ∧ ∀ k, k < vm l → ∀ x ∈ C l k, En x) ∧
  vs_lg h (ad 2) (fun i => ad (19 + i)) tk cb tb sb (g 0) (g 1) (g 2) ∧ vs_sn h (ad 3) (ad 18) S ∧ vs_D z ad tt rr aa ∧ ∀ a e, h.1 a = some e → a < h.2.1
section VF
variable {z : Nat} {h hh : am_H} {ad : Nat → Nat} {tt rr aa : Nat → Nat → Nat} {R : Nat → List Nat} {C : Nat → Nat → List Nat} {fl : Nat → Nat → Int32} {c : Nat → Nat} {tk cb tb sb g : Nat → Nat} {S : Nat → Int32} {En : Nat → Prop} {E : Nat → Nat → Int32} {v : Nat → Int32}
theorem vs_lv.mv {h hh : am_H} {lv ta m c cap bl : Nat} {tt rr aa : Nat → Nat} {C : Nat → List Nat} {fl : Nat → Int32} (hl : vs_lv h lv ta m c cap bl tt rr aa C fl) (h1 : hh.1 lv = h.1 lv) (h2 : hh.1 ta = h.1 ta) (h3 : ∀ k, k < m → hh.1 (tt k) = h.1 (tt k) ∧ hh.1 (rr k) = h.1 (rr k) ∧ hh.1 (aa k) = h.1 (aa k)) : vs_lv hh lv ta m c cap bl tt rr aa C fl := by
  obtain ⟨l1, l2, l3, ⟨G, l4, l5⟩, l6, l7, l8⟩ := hl
  exact ⟨by rw [h1]; exact l1, l2, l3, ⟨G, by rw [h2]; exact l4, l5⟩, fun k hk => by rw [(h3 k hk).1]; exact l6 k hk, fun k hk => (l7 k hk).fr (h3 k hk).2.1 (h3 k hk).2.2, l8⟩
theorem vs_lg.mv {h hh : am_H} {lg : Nat} {A : Nat → Nat} {tk cb tb sb : Nat → Nat} {tl c un : Nat} (hl : vs_lg h lg A tk cb tb sb tl c un) (h1 : hh.1 lg = h.1 lg) (h2 : ∀ i, i < 4 → hh.1 (A i) = h.1 (A i)) : vs_lg hh lg A tk cb tb sb tl c un := by
  obtain ⟨h0, q1, q2, q3, q4, hb, hk2, hA⟩ := hl
  exact ⟨by rw [h1]; exact h0, by rw [h2 0 (by omega)]; exact q1, by rw [h2 1 (by omega)]; exact q2, by rw [h2 2 (by omega)]; exact q3, by rw [h2 3 (by omega)]; exact q4, hb, hk2, hA⟩
theorem vs_sn.mv {h hh : am_H} {s ss : Nat} {S : Nat → Int32} (hl : vs_sn h s ss S) (h1 : hh.1 s = h.1 s) (h2 : hh.1 ss = h.1 ss) : vs_sn hh s ss S := ⟨by rw [h1]; exact hl.1, by rw [h2]; exact hl.2⟩
theorem vs_V.ent (hV : vs_V z h ad tt rr aa R C fl c tk cb tb sb g S En E v) {e : Nat} (he : En e) : (∀ i, i < 23 → i ≠ 1 → e ≠ ad i) ∧ ∀ l k, l < 3 → k < vm l → e ≠ tt l k ∧ e ≠ rr l k ∧ e ≠ aa l k := by
  obtain ⟨v0, v1, v2, v3, v4, v5, v6, v7, v8⟩ := hV
  have he1 := (v1 e he).1
  refine ⟨fun i hi h1 => ?_, fun l k hl hk => ?_⟩
  · have key : ∃ x, h.1 (ad i) = some x ∧ ∀ w, x ≠ .inr (1, w) := by
      rcases (by omega : i = 0 ∨ i = 2 ∨ i = 3 ∨ (4 ≤ i ∧ i < 7) ∨ (7 ≤ i ∧ i < 10) ∨ (10 ≤ i ∧ i < 14) ∨ (14 ≤ i ∧ i < 18) ∨ i = 18 ∨ (19 ≤ i ∧ i < 23)) with q | q | q | q | q | q | q | q | q
      · subst q; exact ⟨_, v0, fun w => by simp⟩
      · subst q; exact ⟨_, v5.1, fun w => by simp⟩
      · subst q; exact ⟨_, v6.1, fun w => by simp⟩
      · have := (v4 (i - 4) (by omega)).1.1
        rw [show 4 + (i - 4) = i by omega] at this
        exact ⟨_, this, fun w => by simp⟩
      · obtain ⟨G, q2, -⟩ := (v4 (i - 7) (by omega)).1.2.2.2.1
        rw [show 7 + (i - 7) = i by omega] at q2
        exact ⟨_, q2, fun w => by simp⟩
      · have := (v3 (i - 10) (by omega)).1.1
        rw [show 10 + (i - 10) = i by omega] at this
        exact ⟨_, this, fun w => by simp⟩
      · obtain ⟨G, q2, -⟩ := (v3 (i - 14) (by omega)).1.2.2.2
        rw [show 14 + (i - 14) = i by omega] at q2
        exact ⟨_, q2, fun w => by simp⟩
      · subst q; exact ⟨_, v6.2, fun w => by simp⟩
      · obtain ⟨-, q1, q2, q3, q4, -⟩ := v5
        rcases (by omega : i = 19 ∨ i = 20 ∨ i = 21 ∨ i = 22) with w | w | w | w <;> subst w
        · exact ⟨_, q1, fun w => by simp⟩
        · exact ⟨_, q2, fun w => by simp⟩
        · exact ⟨_, q3, fun w => by simp⟩
        · exact ⟨_, q4, fun w => by simp⟩
    obtain ⟨x, hx, hn⟩ := key
    exact am_ne he1 hx (fun q => hn _ q.symm)
  · obtain ⟨l1, l2, l3, ⟨G, l4, l5⟩, l6, l7, l8⟩ := (v4 l hl).1
    obtain ⟨g2, p1, p2, p3, p4, p5, pne⟩ := (l7 k hk).g
    exact ⟨am_ne he1 (l6 k hk) (by simp), am_ne he1 p1 (by simp), am_ne he1 p2 (by simp)⟩
end VF
end
section
section VG
variable {z : Nat} {h hh : am_H} {ad : Nat → Nat} {tt rr aa : Nat → Nat → Nat} {R : Nat → List Nat} {C : Nat → Nat → List Nat} {fl : Nat → Nat → Int32} {c : Nat → Nat} {tk cb tb sb g : Nat → Nat} {S : Nat → Int32} {En : Nat → Prop} {E : Nat → Nat → Int32} {v : Nat → Int32}
theorem vs_V.row (hV : vs_V z h ad tt rr aa R C fl c tk cb tb sb g S En E v) {i : Nat} (hi : i < 4) {L' : List Nat} (hc : vs_ch h hh (ad (10 + i)) (ad (14 + i))) (hr : vs_row hh (ad (10 + i)) (ad (14 + i)) (ad 1) (vn i) L') (hL : ∀ x ∈ L', En x) : vs_V z hh ad tt rr aa (va_up R i L') C fl c tk cb tb sb g S En E v := by
  have hE := fun {e : Nat} (he : En e) => hV.ent he
  obtain ⟨v0, v1, v2, v3, v4, v5, v6, v7, v8⟩ := hV
  have dn : ∀ j, j < 23 → j ≠ 10 + i → j ≠ 14 + i → hh.1 (ad j) = h.1 (ad j) := fun j hj h1 h2 => hc.1 _ (v7.1 j _ hj (by omega) h1) (v7.1 j _ hj (by omega) h2)
  refine ⟨by rw [dn 0 (by omega) (by omega) (by omega)]; exact v0, fun e he => ⟨?_, (v1 e he).2⟩, v2, fun j hj => ?_, fun l hl => ⟨?_, (v4 l hl).2⟩, v5.mv (dn 2 (by omega) (by omega) (by omega)) (fun j hj => dn (19 + j) (by omega) (by omega) (by omega)), v6.mv (dn 3 (by omega) (by omega) (by omega)) (dn 18 (by omega) (by omega) (by omega)), v7, fun a e ha => ?_⟩
  · rw [hc.1 e ((hE he).1 _ (by omega) (by omega)) ((hE he).1 _ (by omega) (by omega))]
    exact (v1 e he).1
  · by_cases hji : j = i
    · subst hji; rw [va_up_self]; exact ⟨hr, hL⟩
    · rw [va_up_ne _ _ hji]
      exact ⟨(v3 j hj).1.fr (dn (10 + j) (by omega) (by omega) (by omega)) (dn (14 + j) (by omega) (by omega) (by omega)), (v3 j hj).2⟩
  · refine (v4 l hl).1.mv (dn (4 + l) (by omega) (by omega) (by omega)) (dn (7 + l) (by omega) (by omega) (by omega)) (fun k hk => ?_)
    have q1 := v7.2.2.2.1 l k (10 + i) hl hk (by omega)
    have q2 := v7.2.2.2.1 l k (14 + i) hl hk (by omega)
    exact ⟨hc.1 _ q1.1 q2.1, hc.1 _ q1.2.1 q2.2.1, hc.1 _ q1.2.2 q2.2.2⟩
  · rw [hc.2]
    obtain ⟨g1, p1, p2, p3, p4, p5, pne⟩ := (v3 i hi).1.g
    by_cases h1 : a = ad (10 + i)
    · rw [h1]; exact v8 _ _ p1
    · by_cases h2 : a = ad (14 + i)
      · rw [h2]; exact v8 _ _ p2
      · rw [hc.1 a h1 h2] at ha
        exact v8 a e ha
theorem vs_V.lev (hV : vs_V z h ad tt rr aa R C fl c tk cb tb sb g S En E v) {l : Nat} (hl : l < 3) {t' r' a' : Nat → Nat} {C' : Nat → List Nat} {fl' : Nat → Int32} {c' : Nat} (hc : vs_chl h hh (ad (4 + l)) (ad (7 + l)) (vm l) (tt l) (rr l) (aa l)) (hlv : vs_lv hh (ad (4 + l)) (ad (7 + l)) (vm l) c' (vc l) (ad 1) t' r' a' C' fl') (hp : ∀ k, k < vm l → ∃ k', k' < vm l ∧ t' k = tt l k' ∧ r' k = rr l k' ∧ a' k = aa l k') (hx : ∀ k, k < vm l → ∀ x ∈ C' k, En x) :
    vs_V z hh ad (va_up tt l t') (va_up rr l r') (va_up aa l a') R (va_up C l C') (va_up fl l fl') (va_up c l c') tk cb tb sb g S En E v := by
  have hE := fun {e : Nat} (he : En e) => hV.ent he
  obtain ⟨v0, v1, v2, v3, v4, v5, v6, v7, v8⟩ := hV
  have dn : ∀ j, j < 23 → j ≠ 4 + l → j ≠ 7 + l → hh.1 (ad j) = h.1 (ad j) := fun j hj h1 h2 => hc.1 _ (v7.1 j _ hj (by omega) h1) (v7.1 j _ hj (by omega) h2) (fun k hk => by
    have q := v7.2.2.2.1 l k j hl hk hj
    exact ⟨q.1.symm, q.2.1.symm, q.2.2.symm⟩)
  refine ⟨by rw [dn 0 (by omega) (by omega) (by omega)]; exact v0, fun e he => ⟨?_, (v1 e he).2⟩, v2, fun j hj => ⟨(v3 j hj).1.fr (dn (10 + j) (by omega) (by omega) (by omega)) (dn (14 + j) (by omega) (by omega) (by omega)), (v3 j hj).2⟩, fun i hi => ?_, v5.mv (dn 2 (by omega) (by omega) (by omega)) (fun j hj => dn (19 + j) (by omega) (by omega) (by omega)), v6.mv (dn 3 (by omega) (by omega) (by omega)) (dn 18 (by omega) (by omega) (by omega)), ?_, fun a e ha => ?_⟩
  · rw [hc.1 e ((hE he).1 _ (by omega) (by omega)) ((hE he).1 _ (by omega) (by omega)) (fun k hk => (hE he).2 l k hl hk)]
    exact (v1 e he).1
  · by_cases hil : i = l
    · subst hil
      rw [va_up_self, va_up_self, va_up_self, va_up_self, va_up_self, va_up_self]
      exact ⟨hlv, hx⟩
    · rw [va_up_ne _ _ hil, va_up_ne _ _ hil, va_up_ne _ _ hil, va_up_ne _ _ hil, va_up_ne _ _ hil, va_up_ne _ _ hil]
      refine ⟨(v4 i hi).1.mv (dn (4 + i) (by omega) (by omega) (by omega)) (dn (7 + i) (by omega) (by omega) (by omega)) (fun k hk => ?_), (v4 i hi).2⟩
      obtain ⟨l1, l2, l3, ⟨G, l4, l5⟩, l6, l7, l8⟩ := (v4 l hl).1
      obtain ⟨m1, m2, m3, ⟨G2, m4, m5⟩, m6, m7, m8⟩ := (v4 i hi).1
      obtain ⟨g2, p1, p2, p3, p4, p5, pne⟩ := (m7 k hk).g
      have q1 := v7.2.2.2.1 i k (4 + l) hi hk (by omega)
      have q2 := v7.2.2.2.1 i k (7 + l) hi hk (by omega)
      have q3 := fun k' (hk' : k' < vm l) => v7.2.2.2.2 i k l k' hi hk hl hk' hil
      refine ⟨hc.1 _ q1.1 q2.1 (fun k' hk' => ?_), hc.1 _ q1.2.1 q2.2.1 (fun k' hk' => ?_), hc.1 _ q1.2.2 q2.2.2 (fun k' hk' => ?_)⟩
      · obtain ⟨g3, r1, r2, r3, r4, r5, rne⟩ := (l7 k' hk').g
        exact ⟨(q3 k' hk').1, am_ne (m6 k hk) r1 (by simp), am_ne (m6 k hk) r2 (by simp)⟩
      · obtain ⟨g3, r1, r2, r3, r4, r5, rne⟩ := (l7 k' hk').g
        exact ⟨am_ne p1 (l6 k' hk') (by simp), (q3 k' hk').2.1, am_ne p1 r2 (by simp)⟩
      · obtain ⟨g3, r1, r2, r3, r4, r5, rne⟩ := (l7 k' hk').g
        exact ⟨am_ne p2 (l6 k' hk') (by simp), am_ne p2 r1 (by simp), (q3 k' hk').2.2⟩
  · have key : ∀ i k, i < 3 → k < vm i → ∃ k', k' < vm i ∧ va_up tt l t' i k = tt i k' ∧ va_up rr l r' i k = rr i k' ∧ va_up aa l a' i k = aa i k' := by
      intro i k hi hk
      by_cases hil : i = l
      · subst hil
        rw [va_up_self, va_up_self, va_up_self]
        exact hp k hk
      · rw [va_up_ne _ _ hil, va_up_ne _ _ hil, va_up_ne _ _ hil]
        exact ⟨k, hk, rfl, rfl, rfl⟩
    refine ⟨v7.1, v7.2.1, fun i k hi hk => ?_, fun i k j hi hk hj => ?_, fun i k i' k' hi hk hi' hk' hne => ?_⟩
    · obtain ⟨q, q0, q1, q2, q3⟩ := key i k hi hk
      rw [q1, q2, q3]
      exact v7.2.2.1 i q hi q0
    · obtain ⟨q, q0, q1, q2, q3⟩ := key i k hi hk
      rw [q1, q2, q3]
      exact v7.2.2.2.1 i q j hi q0 hj
    · obtain ⟨q, q0, q1, q2, q3⟩ := key i k hi hk
      obtain ⟨p, p0, p1, p2, p3⟩ := key i' k' hi' hk'
      rw [q1, q2, q3, p1, p2, p3]
      exact v7.2.2.2.2 i q i' p hi q0 hi' p0 hne
  · rw [hc.2]
    obtain ⟨l1, l2, l3, ⟨G, l4, l5⟩, l6, l7, l8⟩ := (v4 l hl).1
    by_cases h1 : a = ad (4 + l)
    · rw [h1]; exact v8 _ _ l1
    · by_cases h2 : a = ad (7 + l)
      · rw [h2]; exact v8 _ _ l4
      · by_cases h3 : ∃ k, k < vm l ∧ (a = tt l k ∨ a = rr l k ∨ a = aa l k)
        · obtain ⟨k, hk, q | q | q⟩ := h3
          · rw [q]; exact v8 _ _ (l6 k hk)
          · obtain ⟨g3, r1, r2, r3, r4, r5, rne⟩ := (l7 k hk).g
            rw [q]; exact v8 _ _ r1
          · obtain ⟨g3, r1, r2, r3, r4, r5, rne⟩ := (l7 k hk).g
            rw [q]; exact v8 _ _ r2
        · rw [hc.1 a h1 h2 (fun k hk => ⟨fun q => h3 ⟨k, hk, Or.inl q⟩, fun q => h3 ⟨k, hk, Or.inr (Or.inl q)⟩, fun q => h3 ⟨k, hk, Or.inr (Or.inr q)⟩⟩)] at ha
          exact v8 a e ha
theorem vs_V.log (hV : vs_V z h ad tt rr aa R C fl c tk cb tb sb g S En E v) {tk' cb' tb' sb' g' : Nat → Nat} (hc : vs_chg h hh (ad 2) (fun i => ad (19 + i))) (hlg : vs_lg hh (ad 2) (fun i => ad (19 + i)) tk' cb' tb' sb' (g' 0) (g' 1) (g' 2)) : vs_V z hh ad tt rr aa R C fl c tk' cb' tb' sb' g' S En E v := by
  have hE := fun {e : Nat} (he : En e) => hV.ent he
  obtain ⟨v0, v1, v2, v3, v4, v5, v6, v7, v8⟩ := hV
  have dn : ∀ j, j < 19 → j ≠ 2 → hh.1 (ad j) = h.1 (ad j) := fun j hj h1 => hc.1 _ (v7.1 j _ (by omega) (by omega) h1) (fun i hi => v7.1 j _ (by omega) (by omega) (by omega))
  refine ⟨by rw [dn 0 (by omega) (by omega)]; exact v0, fun e he => ⟨?_, (v1 e he).2⟩, v2, fun j hj => ⟨(v3 j hj).1.fr (dn (10 + j) (by omega) (by omega)) (dn (14 + j) (by omega) (by omega)), (v3 j hj).2⟩, fun l hl => ⟨?_, (v4 l hl).2⟩, hlg, v6.mv (dn 3 (by omega) (by omega)) (dn 18 (by omega) (by omega)), v7, fun a e ha => ?_⟩
  · rw [hc.1 e ((hE he).1 _ (by omega) (by omega)) (fun i hi => (hE he).1 _ (by omega) (by omega))]
    exact (v1 e he).1
  · refine (v4 l hl).1.mv (dn (4 + l) (by omega) (by omega)) (dn (7 + l) (by omega) (by omega)) (fun k hk => ?_)
    have q := fun j (hj : j < 23) => v7.2.2.2.1 l k j hl hk hj
    exact ⟨hc.1 _ (q 2 (by omega)).1 (fun i hi => (q _ (by omega)).1), hc.1 _ (q 2 (by omega)).2.1 (fun i hi => (q _ (by omega)).2.1), hc.1 _ (q 2 (by omega)).2.2 (fun i hi => (q _ (by omega)).2.2)⟩
  · rw [hc.2]
    obtain ⟨q0, q1, q2, q3, q4, -⟩ := v5
    by_cases h1 : a = ad 2
    · rw [h1]; exact v8 _ _ q0
    · by_cases h3 : ∃ i, i < 4 ∧ a = ad (19 + i)
      · obtain ⟨i, hi, q⟩ := h3
        rw [q]
        rcases (by omega : i = 0 ∨ i = 1 ∨ i = 2 ∨ i = 3) with w | w | w | w <;> subst w
        · exact v8 _ _ q1
        · exact v8 _ _ q2
        · exact v8 _ _ q3
        · exact v8 _ _ q4
      · rw [hc.1 a h1 (fun i hi q => h3 ⟨i, hi, q⟩)] at ha
        exact v8 a e ha
theorem vs_V.fld (hV : vs_V z h ad tt rr aa R C fl c tk cb tb sb g S En E v) (v' : Nat → Int32) : vs_V z (am_up h (ad 0) (vs_vo ad v')) ad tt rr aa R C fl c tk cb tb sb g S En E v' := by
  have hE := fun {e : Nat} (he : En e) => hV.ent he
  obtain ⟨v0, v1, v2, v3, v4, v5, v6, v7, v8⟩ := hV
  have dn : ∀ j, j < 23 → j ≠ 0 → (am_up h (ad 0) (vs_vo ad v')).1 (ad j) = h.1 (ad j) := fun j hj h1 => am_up_ne _ _ (v7.1 j _ hj (by omega) h1)
  refine ⟨am_up_at _ _ _, fun e he => ⟨?_, (v1 e he).2⟩, v2, fun j hj => ⟨(v3 j hj).1.fr (dn (10 + j) (by omega) (by omega)) (dn (14 + j) (by omega) (by omega)), (v3 j hj).2⟩, fun l hl => ⟨?_, (v4 l hl).2⟩, v5.mv (dn 2 (by omega) (by omega)) (fun j hj => dn (19 + j) (by omega) (by omega)), v6.mv (dn 3 (by omega) (by omega)) (dn 18 (by omega) (by omega)), v7, fun a e ha => ?_⟩
  · rw [am_up_ne _ _ ((hE he).1 _ (by omega) (by omega))]
    exact (v1 e he).1
  · refine (v4 l hl).1.mv (dn (4 + l) (by omega) (by omega)) (dn (7 + l) (by omega) (by omega)) (fun k hk => ?_)
    have q := v7.2.2.2.1 l k 0 hl hk (by omega)
    exact ⟨am_up_ne _ _ q.1, am_up_ne _ _ q.2.1, am_up_ne _ _ q.2.2⟩
  · by_cases h1 : a = ad 0
    · rw [h1]; exact v8 _ _ v0
    · rw [am_up_ne _ _ h1] at ha
      exact v8 a e ha
theorem vs_V.snp (hV : vs_V z h ad tt rr aa R C fl c tk cb tb sb g S En E v) (S' : Nat → Int32) : vs_V z (am_up h (ad 18) (.inl (0, 3, .inl S'))) ad tt rr aa R C fl c tk cb tb sb g S' En E v := by
  have hE := fun {e : Nat} (he : En e) => hV.ent he
  obtain ⟨v0, v1, v2, v3, v4, v5, v6, v7, v8⟩ := hV
  have dn : ∀ j, j < 23 → j ≠ 18 → (am_up h (ad 18) (.inl (0, 3, .inl S'))).1 (ad j) = h.1 (ad j) := fun j hj h1 => am_up_ne _ _ (v7.1 j _ hj (by omega) h1)
  refine ⟨by rw [dn 0 (by omega) (by omega)]; exact v0, fun e he => ⟨?_, (v1 e he).2⟩, v2, fun j hj => ⟨(v3 j hj).1.fr (dn (10 + j) (by omega) (by omega)) (dn (14 + j) (by omega) (by omega)), (v3 j hj).2⟩, fun l hl => ⟨?_, (v4 l hl).2⟩, v5.mv (dn 2 (by omega) (by omega)) (fun j hj => dn (19 + j) (by omega) (by omega)), ⟨by rw [dn 3 (by omega) (by omega)]; exact v6.1, am_up_at _ _ _⟩, v7, fun a e ha => ?_⟩
  · rw [am_up_ne _ _ ((hE he).1 _ (by omega) (by omega))]
    exact (v1 e he).1
  · refine (v4 l hl).1.mv (dn (4 + l) (by omega) (by omega)) (dn (7 + l) (by omega) (by omega)) (fun k hk => ?_)
    have q := v7.2.2.2.1 l k 18 hl hk (by omega)
    exact ⟨am_up_ne _ _ q.1, am_up_ne _ _ q.2.1, am_up_ne _ _ q.2.2⟩
  · by_cases h1 : a = ad 18
    · rw [h1]; exact v8 _ _ v6.2
    · rw [am_up_ne _ _ h1] at ha
      exact v8 a e ha
theorem vs_V.upe (hV : vs_V z h ad tt rr aa R C fl c tk cb tb sb g S En E v) {e : Nat} (he : En e) (hb : e ≠ ad 1) {E' : Nat → Nat → Int32} (hE' : ∀ a j, a ≠ e → E' a j = E a j) : vs_V z (am_up h e (vs_e E' e)) ad tt rr aa R C fl c tk cb tb sb g S En E' v := by
  have hEe := hV.ent he
  obtain ⟨v0, v1, v2, v3, v4, v5, v6, v7, v8⟩ := hV
  have dn : ∀ j, j < 23 → j ≠ 1 → (am_up h e (vs_e E' e)).1 (ad j) = h.1 (ad j) := fun j hj h1 => am_up_ne _ _ (hEe.1 j hj h1).symm
  refine ⟨by rw [dn 0 (by omega) (by omega)]; exact v0, fun a ha => ⟨?_, (v1 a ha).2⟩, v2, fun j hj => ⟨(v3 j hj).1.fr (dn (10 + j) (by omega) (by omega)) (dn (14 + j) (by omega) (by omega)), (v3 j hj).2⟩, fun l hl => ⟨?_, (v4 l hl).2⟩, v5.mv (dn 2 (by omega) (by omega)) (fun j hj => dn (19 + j) (by omega) (by omega)), v6.mv (dn 3 (by omega) (by omega)) (dn 18 (by omega) (by omega)), v7, fun a w ha => ?_⟩
  · by_cases hae : a = e
    · subst hae; rw [am_up_at]
    · rw [am_up_ne _ _ hae, (v1 a ha).1]
      simp only [vs_e, hE' a _ hae]
  · refine (v4 l hl).1.mv (dn (4 + l) (by omega) (by omega)) (dn (7 + l) (by omega) (by omega)) (fun k hk => ?_)
    have q := hEe.2 l k hl hk
    exact ⟨am_up_ne _ _ q.1.symm, am_up_ne _ _ q.2.1.symm, am_up_ne _ _ q.2.2.symm⟩
  · by_cases h1 : a = e
    · rw [h1]; exact v8 _ _ (v1 e he).1
    · rw [am_up_ne _ _ h1] at ha
      exact v8 a w ha
end VG
end
