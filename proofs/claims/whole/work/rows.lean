section
-- ===== PART A: goes FIRST, ahead of the names: the tables' words, and 'selects' of the private methods out of them =====
/-- a private method of a class that the tables say can be made, by its rows of tables_1 -/
def lw_okq (q : MethodName × Nat) : Prop := (q.1.cls ≠ "java/lang/invoke/MethodHandle" ∧ q.1.cls ≠ "java/lang/invoke/VarHandle") ∧ Cond.instantiable q.1.cls q.2 ∈ tables_1 ∧ Cond.privateMethod q.1 ∈ tables_1 ∧ Cond.instanceMethod q.1 ∈ tables_1
theorem lw_p0 : lw_okq (⟨"ModuleLoader$Tape", "appendByte", "(I)V"⟩, 2) := ⟨⟨by decide +kernel, by decide +kernel⟩, List.mem_of_getElem? (i := 69) (by decide +kernel), List.mem_of_getElem? (i := 233) (by decide +kernel), List.mem_of_getElem? (i := 234) (by decide +kernel)⟩
theorem lw_p1 : lw_okq (⟨"ModuleLoader$ModuleTable", "gapRows", "(I)I"⟩, 2) := ⟨⟨by decide +kernel, by decide +kernel⟩, List.mem_of_getElem? (i := 146) (by decide +kernel), List.mem_of_getElem? (i := 309) (by decide +kernel), List.mem_of_getElem? (i := 310) (by decide +kernel)⟩
theorem lw_p2 : lw_okq (⟨"ModuleLoader$ModuleTable", "gapStart", "(I)I"⟩, 2) := ⟨⟨by decide +kernel, by decide +kernel⟩, List.mem_of_getElem? (i := 146) (by decide +kernel), List.mem_of_getElem? (i := 317) (by decide +kernel), List.mem_of_getElem? (i := 318) (by decide +kernel)⟩
theorem lw_p3 : lw_okq (⟨"java/lang/Throwable", "fillInStackTrace", "(I)Ljava/lang/Throwable;"⟩, 6) := ⟨⟨by decide +kernel, by decide +kernel⟩, List.mem_of_getElem? (i := 383) (by decide +kernel), List.mem_of_getElem? (i := 381) (by decide +kernel), List.mem_of_getElem? (i := 382) (by decide +kernel)⟩
theorem lw_p4 : lw_okq (⟨"ModuleLoader", "bringIn", "(I)LModuleLoader$LoadedModule;"⟩, 8) := ⟨⟨by decide +kernel, by decide +kernel⟩, List.mem_of_getElem? (i := 22) (by decide +kernel), List.mem_of_getElem? (i := 499) (by decide +kernel), List.mem_of_getElem? (i := 500) (by decide +kernel)⟩
theorem lw_p5 : lw_okq (⟨"ModuleLoader$ModuleFile", "readHeader", "()V"⟩, 11) := ⟨⟨by decide +kernel, by decide +kernel⟩, List.mem_of_getElem? (i := 82) (by decide +kernel), List.mem_of_getElem? (i := 513) (by decide +kernel), List.mem_of_getElem? (i := 514) (by decide +kernel)⟩
theorem lw_p6 : lw_okq (⟨"ModuleLoader$ModuleFile", "headerHolds", "()Z"⟩, 11) := ⟨⟨by decide +kernel, by decide +kernel⟩, List.mem_of_getElem? (i := 82) (by decide +kernel), List.mem_of_getElem? (i := 517) (by decide +kernel), List.mem_of_getElem? (i := 518) (by decide +kernel)⟩
theorem lw_p7 : lw_okq (⟨"ModuleLoader$ModuleFile", "isOffset", "(I)Z"⟩, 11) := ⟨⟨by decide +kernel, by decide +kernel⟩, List.mem_of_getElem? (i := 82) (by decide +kernel), List.mem_of_getElem? (i := 524) (by decide +kernel), List.mem_of_getElem? (i := 525) (by decide +kernel)⟩
theorem lw_p8 : lw_okq (⟨"ModuleLoader$ModuleFile", "importsHold", "()Z"⟩, 11) := ⟨⟨by decide +kernel, by decide +kernel⟩, List.mem_of_getElem? (i := 82) (by decide +kernel), List.mem_of_getElem? (i := 529) (by decide +kernel), List.mem_of_getElem? (i := 530) (by decide +kernel)⟩
theorem lw_p9 : lw_okq (⟨"ModuleLoader$ModuleFile", "exportsHold", "()Z"⟩, 11) := ⟨⟨by decide +kernel, by decide +kernel⟩, List.mem_of_getElem? (i := 82) (by decide +kernel), List.mem_of_getElem? (i := 538) (by decide +kernel), List.mem_of_getElem? (i := 539) (by decide +kernel)⟩
theorem lw_p10 : lw_okq (⟨"ModuleLoader$ModuleFile", "isExportedBefore", "(I)Z"⟩, 11) := ⟨⟨by decide +kernel, by decide +kernel⟩, List.mem_of_getElem? (i := 82) (by decide +kernel), List.mem_of_getElem? (i := 550) (by decide +kernel), List.mem_of_getElem? (i := 551) (by decide +kernel)⟩
theorem lw_p11 : lw_okq (⟨"ModuleLoader$ModuleFile", "placesHold", "()Z"⟩, 11) := ⟨⟨by decide +kernel, by decide +kernel⟩, List.mem_of_getElem? (i := 82) (by decide +kernel), List.mem_of_getElem? (i := 554) (by decide +kernel), List.mem_of_getElem? (i := 555) (by decide +kernel)⟩
theorem lw_p12 : lw_okq (⟨"ModuleLoader", "checkNames", "(I)V"⟩, 8) := ⟨⟨by decide +kernel, by decide +kernel⟩, List.mem_of_getElem? (i := 22) (by decide +kernel), List.mem_of_getElem? (i := 574) (by decide +kernel), List.mem_of_getElem? (i := 575) (by decide +kernel)⟩
theorem lw_p13 : lw_okq (⟨"ModuleLoader", "checkImports", "()V"⟩, 8) := ⟨⟨by decide +kernel, by decide +kernel⟩, List.mem_of_getElem? (i := 22) (by decide +kernel), List.mem_of_getElem? (i := 582) (by decide +kernel), List.mem_of_getElem? (i := 583) (by decide +kernel)⟩
theorem lw_p14 : lw_okq (⟨"ModuleLoader", "checkExports", "()V"⟩, 8) := ⟨⟨by decide +kernel, by decide +kernel⟩, List.mem_of_getElem? (i := 22) (by decide +kernel), List.mem_of_getElem? (i := 595) (by decide +kernel), List.mem_of_getElem? (i := 596) (by decide +kernel)⟩
theorem lw_p15 : lw_okq (⟨"ModuleLoader", "findRoom", "()I"⟩, 8) := ⟨⟨by decide +kernel, by decide +kernel⟩, List.mem_of_getElem? (i := 22) (by decide +kernel), List.mem_of_getElem? (i := 600) (by decide +kernel), List.mem_of_getElem? (i := 601) (by decide +kernel)⟩
def lw_privs_1 : List (MethodName × Nat) := [(⟨"ModuleLoader$Tape", "appendByte", "(I)V"⟩, 2), (⟨"ModuleLoader$ModuleTable", "gapRows", "(I)I"⟩, 2), (⟨"ModuleLoader$ModuleTable", "gapStart", "(I)I"⟩, 2), (⟨"java/lang/Throwable", "fillInStackTrace", "(I)Ljava/lang/Throwable;"⟩, 6), (⟨"ModuleLoader", "bringIn", "(I)LModuleLoader$LoadedModule;"⟩, 8), (⟨"ModuleLoader$ModuleFile", "readHeader", "()V"⟩, 11), (⟨"ModuleLoader$ModuleFile", "headerHolds", "()Z"⟩, 11), (⟨"ModuleLoader$ModuleFile", "isOffset", "(I)Z"⟩, 11), (⟨"ModuleLoader$ModuleFile", "importsHold", "()Z"⟩, 11), (⟨"ModuleLoader$ModuleFile", "exportsHold", "()Z"⟩, 11), (⟨"ModuleLoader$ModuleFile", "isExportedBefore", "(I)Z"⟩, 11), (⟨"ModuleLoader$ModuleFile", "placesHold", "()Z"⟩, 11), (⟨"ModuleLoader", "checkNames", "(I)V"⟩, 8), (⟨"ModuleLoader", "checkImports", "()V"⟩, 8), (⟨"ModuleLoader", "checkExports", "()V"⟩, 8), (⟨"ModuleLoader", "findRoom", "()I"⟩, 8)]
theorem lw_r1 : ∀ q ∈ lw_privs_1, lw_okq q := List.forall_mem_cons.mpr ⟨lw_p0, List.forall_mem_cons.mpr ⟨lw_p1, List.forall_mem_cons.mpr ⟨lw_p2, List.forall_mem_cons.mpr ⟨lw_p3, List.forall_mem_cons.mpr ⟨lw_p4, List.forall_mem_cons.mpr ⟨lw_p5, List.forall_mem_cons.mpr ⟨lw_p6, List.forall_mem_cons.mpr ⟨lw_p7, List.forall_mem_cons.mpr ⟨lw_p8, List.forall_mem_cons.mpr ⟨lw_p9, List.forall_mem_cons.mpr ⟨lw_p10, List.forall_mem_cons.mpr ⟨lw_p11, List.forall_mem_cons.mpr ⟨lw_p12, List.forall_mem_cons.mpr ⟨lw_p13, List.forall_mem_cons.mpr ⟨lw_p14, List.forall_mem_cons.mpr ⟨lw_p15, fun _ h => absurd h List.not_mem_nil⟩⟩⟩⟩⟩⟩⟩⟩⟩⟩⟩⟩⟩⟩⟩⟩
theorem lw_p16 : lw_okq (⟨"ModuleLoader", "distanceOf", "(II)I"⟩, 8) := ⟨⟨by decide +kernel, by decide +kernel⟩, List.mem_of_getElem? (i := 22) (by decide +kernel), List.mem_of_getElem? (i := 612) (by decide +kernel), List.mem_of_getElem? (i := 613) (by decide +kernel)⟩
theorem lw_p17 : lw_okq (⟨"ModuleLoader", "valueOf", "(II)I"⟩, 8) := ⟨⟨by decide +kernel, by decide +kernel⟩, List.mem_of_getElem? (i := 22) (by decide +kernel), List.mem_of_getElem? (i := 616) (by decide +kernel), List.mem_of_getElem? (i := 617) (by decide +kernel)⟩
theorem lw_p18 : lw_okq (⟨"ModuleLoader", "writeImage", "(I)V"⟩, 8) := ⟨⟨by decide +kernel, by decide +kernel⟩, List.mem_of_getElem? (i := 22) (by decide +kernel), List.mem_of_getElem? (i := 633) (by decide +kernel), List.mem_of_getElem? (i := 634) (by decide +kernel)⟩
theorem lw_p19 : lw_okq (⟨"ModuleLoader", "enter", "(II)LModuleLoader$LoadedModule;"⟩, 8) := ⟨⟨by decide +kernel, by decide +kernel⟩, List.mem_of_getElem? (i := 22) (by decide +kernel), List.mem_of_getElem? (i := 663) (by decide +kernel), List.mem_of_getElem? (i := 664) (by decide +kernel)⟩
theorem lw_p20 : lw_okq (⟨"ModuleLoader", "execute", "(IIII)V"⟩, 8) := ⟨⟨by decide +kernel, by decide +kernel⟩, List.mem_of_getElem? (i := 22) (by decide +kernel), List.mem_of_getElem? (i := 735) (by decide +kernel), List.mem_of_getElem? (i := 736) (by decide +kernel)⟩
theorem lw_p21 : lw_okq (⟨"ModuleLoader$Machine", "step", "()I"⟩, 5) := ⟨⟨by decide +kernel, by decide +kernel⟩, List.mem_of_getElem? (i := 45) (by decide +kernel), List.mem_of_getElem? (i := 746) (by decide +kernel), List.mem_of_getElem? (i := 747) (by decide +kernel)⟩
theorem lw_p22 : lw_okq (⟨"ModuleLoader$Machine", "finish", "(III)I"⟩, 5) := ⟨⟨by decide +kernel, by decide +kernel⟩, List.mem_of_getElem? (i := 45) (by decide +kernel), List.mem_of_getElem? (i := 752) (by decide +kernel), List.mem_of_getElem? (i := 753) (by decide +kernel)⟩
theorem lw_p23 : lw_okq (⟨"ModuleLoader$Machine", "jumpToRegister", "(I)I"⟩, 5) := ⟨⟨by decide +kernel, by decide +kernel⟩, List.mem_of_getElem? (i := 45) (by decide +kernel), List.mem_of_getElem? (i := 760) (by decide +kernel), List.mem_of_getElem? (i := 761) (by decide +kernel)⟩
theorem lw_p24 : lw_okq (⟨"ModuleLoader$Machine", "firstOf", "(I)I"⟩, 5) := ⟨⟨by decide +kernel, by decide +kernel⟩, List.mem_of_getElem? (i := 45) (by decide +kernel), List.mem_of_getElem? (i := 767) (by decide +kernel), List.mem_of_getElem? (i := 768) (by decide +kernel)⟩
theorem lw_p25 : lw_okq (⟨"ModuleLoader$Machine", "branch", "(I)I"⟩, 5) := ⟨⟨by decide +kernel, by decide +kernel⟩, List.mem_of_getElem? (i := 45) (by decide +kernel), List.mem_of_getElem? (i := 771) (by decide +kernel), List.mem_of_getElem? (i := 772) (by decide +kernel)⟩
theorem lw_p26 : lw_okq (⟨"ModuleLoader$Machine", "secondOf", "(I)I"⟩, 5) := ⟨⟨by decide +kernel, by decide +kernel⟩, List.mem_of_getElem? (i := 45) (by decide +kernel), List.mem_of_getElem? (i := 775) (by decide +kernel), List.mem_of_getElem? (i := 776) (by decide +kernel)⟩
theorem lw_p27 : lw_okq (⟨"ModuleLoader$Machine", "readMemory", "(I)I"⟩, 5) := ⟨⟨by decide +kernel, by decide +kernel⟩, List.mem_of_getElem? (i := 45) (by decide +kernel), List.mem_of_getElem? (i := 789) (by decide +kernel), List.mem_of_getElem? (i := 790) (by decide +kernel)⟩
theorem lw_p28 : lw_okq (⟨"ModuleLoader$Machine", "trapOfAccess", "(II)I"⟩, 5) := ⟨⟨by decide +kernel, by decide +kernel⟩, List.mem_of_getElem? (i := 45) (by decide +kernel), List.mem_of_getElem? (i := 793) (by decide +kernel), List.mem_of_getElem? (i := 794) (by decide +kernel)⟩
theorem lw_p29 : lw_okq (⟨"ModuleLoader$Machine", "writeMemory", "(I)I"⟩, 5) := ⟨⟨by decide +kernel, by decide +kernel⟩, List.mem_of_getElem? (i := 45) (by decide +kernel), List.mem_of_getElem? (i := 807) (by decide +kernel), List.mem_of_getElem? (i := 808) (by decide +kernel)⟩
theorem lw_p30 : lw_okq (⟨"ModuleLoader$Machine", "computeWithImmediate", "(I)I"⟩, 5) := ⟨⟨by decide +kernel, by decide +kernel⟩, List.mem_of_getElem? (i := 45) (by decide +kernel), List.mem_of_getElem? (i := 816) (by decide +kernel), List.mem_of_getElem? (i := 817) (by decide +kernel)⟩
theorem lw_p31 : lw_okq (⟨"ModuleLoader$Machine", "computeWithRegister", "(I)I"⟩, 5) := ⟨⟨by decide +kernel, by decide +kernel⟩, List.mem_of_getElem? (i := 45) (by decide +kernel), List.mem_of_getElem? (i := 823) (by decide +kernel), List.mem_of_getElem? (i := 824) (by decide +kernel)⟩
def lw_privs_2 : List (MethodName × Nat) := [(⟨"ModuleLoader", "distanceOf", "(II)I"⟩, 8), (⟨"ModuleLoader", "valueOf", "(II)I"⟩, 8), (⟨"ModuleLoader", "writeImage", "(I)V"⟩, 8), (⟨"ModuleLoader", "enter", "(II)LModuleLoader$LoadedModule;"⟩, 8), (⟨"ModuleLoader", "execute", "(IIII)V"⟩, 8), (⟨"ModuleLoader$Machine", "step", "()I"⟩, 5), (⟨"ModuleLoader$Machine", "finish", "(III)I"⟩, 5), (⟨"ModuleLoader$Machine", "jumpToRegister", "(I)I"⟩, 5), (⟨"ModuleLoader$Machine", "firstOf", "(I)I"⟩, 5), (⟨"ModuleLoader$Machine", "branch", "(I)I"⟩, 5), (⟨"ModuleLoader$Machine", "secondOf", "(I)I"⟩, 5), (⟨"ModuleLoader$Machine", "readMemory", "(I)I"⟩, 5), (⟨"ModuleLoader$Machine", "trapOfAccess", "(II)I"⟩, 5), (⟨"ModuleLoader$Machine", "writeMemory", "(I)I"⟩, 5), (⟨"ModuleLoader$Machine", "computeWithImmediate", "(I)I"⟩, 5), (⟨"ModuleLoader$Machine", "computeWithRegister", "(I)I"⟩, 5)]
theorem lw_r2 : ∀ q ∈ lw_privs_2, lw_okq q := List.forall_mem_cons.mpr ⟨lw_p16, List.forall_mem_cons.mpr ⟨lw_p17, List.forall_mem_cons.mpr ⟨lw_p18, List.forall_mem_cons.mpr ⟨lw_p19, List.forall_mem_cons.mpr ⟨lw_p20, List.forall_mem_cons.mpr ⟨lw_p21, List.forall_mem_cons.mpr ⟨lw_p22, List.forall_mem_cons.mpr ⟨lw_p23, List.forall_mem_cons.mpr ⟨lw_p24, List.forall_mem_cons.mpr ⟨lw_p25, List.forall_mem_cons.mpr ⟨lw_p26, List.forall_mem_cons.mpr ⟨lw_p27, List.forall_mem_cons.mpr ⟨lw_p28, List.forall_mem_cons.mpr ⟨lw_p29, List.forall_mem_cons.mpr ⟨lw_p30, List.forall_mem_cons.mpr ⟨lw_p31, fun _ h => absurd h List.not_mem_nil⟩⟩⟩⟩⟩⟩⟩⟩⟩⟩⟩⟩⟩⟩⟩⟩
theorem lw_p32 : lw_okq (⟨"ModuleLoader", "judgeInit", "(LModuleLoader$LoadedModule;)V"⟩, 8) := ⟨⟨by decide +kernel, by decide +kernel⟩, List.mem_of_getElem? (i := 22) (by decide +kernel), List.mem_of_getElem? (i := 831) (by decide +kernel), List.mem_of_getElem? (i := 832) (by decide +kernel)⟩
theorem lw_p33 : lw_okq (⟨"ModuleLoader", "takeOut", "(LModuleLoader$LoadedModule;)V"⟩, 8) := ⟨⟨by decide +kernel, by decide +kernel⟩, List.mem_of_getElem? (i := 22) (by decide +kernel), List.mem_of_getElem? (i := 835) (by decide +kernel), List.mem_of_getElem? (i := 836) (by decide +kernel)⟩
theorem lw_p34 : lw_okq (⟨"ModuleLoaderModel", "guarded", "(I)Z"⟩, 31) := ⟨⟨by decide +kernel, by decide +kernel⟩, List.mem_of_getElem? (i := 868) (by decide +kernel), List.mem_of_getElem? (i := 976) (by decide +kernel), List.mem_of_getElem? (i := 977) (by decide +kernel)⟩
theorem lw_p35 : lw_okq (⟨"ModuleLoaderModel", "put", "(III)V"⟩, 31) := ⟨⟨by decide +kernel, by decide +kernel⟩, List.mem_of_getElem? (i := 868) (by decide +kernel), List.mem_of_getElem? (i := 987) (by decide +kernel), List.mem_of_getElem? (i := 988) (by decide +kernel)⟩
theorem lw_p36 : lw_okq (⟨"ModuleLoaderModel", "wordAt", "(I)I"⟩, 31) := ⟨⟨by decide +kernel, by decide +kernel⟩, List.mem_of_getElem? (i := 868) (by decide +kernel), List.mem_of_getElem? (i := 995) (by decide +kernel), List.mem_of_getElem? (i := 996) (by decide +kernel)⟩
theorem lw_p37 : lw_okq (⟨"ModuleLoaderModel", "find", "(I)I"⟩, 31) := ⟨⟨by decide +kernel, by decide +kernel⟩, List.mem_of_getElem? (i := 868) (by decide +kernel), List.mem_of_getElem? (i := 1010) (by decide +kernel), List.mem_of_getElem? (i := 1011) (by decide +kernel)⟩
theorem lw_p38 : lw_okq (⟨"ModuleLoaderModel", "addSymbol", "(IIII)V"⟩, 31) := ⟨⟨by decide +kernel, by decide +kernel⟩, List.mem_of_getElem? (i := 868) (by decide +kernel), List.mem_of_getElem? (i := 1014) (by decide +kernel), List.mem_of_getElem? (i := 1015) (by decide +kernel)⟩
theorem lw_p39 : lw_okq (⟨"ModuleLoaderModel", "fresh", "()V"⟩, 31) := ⟨⟨by decide +kernel, by decide +kernel⟩, List.mem_of_getElem? (i := 868) (by decide +kernel), List.mem_of_getElem? (i := 1030) (by decide +kernel), List.mem_of_getElem? (i := 1031) (by decide +kernel)⟩
theorem lw_p40 : lw_okq (⟨"ModuleLoaderModel", "isFile", "(I)Z"⟩, 31) := ⟨⟨by decide +kernel, by decide +kernel⟩, List.mem_of_getElem? (i := 868) (by decide +kernel), List.mem_of_getElem? (i := 1034) (by decide +kernel), List.mem_of_getElem? (i := 1035) (by decide +kernel)⟩
theorem lw_p41 : lw_okq (⟨"ModuleLoaderModel", "tapeWord", "(I)I"⟩, 31) := ⟨⟨by decide +kernel, by decide +kernel⟩, List.mem_of_getElem? (i := 868) (by decide +kernel), List.mem_of_getElem? (i := 1038) (by decide +kernel), List.mem_of_getElem? (i := 1039) (by decide +kernel)⟩
theorem lw_p42 : lw_okq (⟨"ModuleLoaderModel", "placeAt", "(I)I"⟩, 31) := ⟨⟨by decide +kernel, by decide +kernel⟩, List.mem_of_getElem? (i := 868) (by decide +kernel), List.mem_of_getElem? (i := 1046) (by decide +kernel), List.mem_of_getElem? (i := 1047) (by decide +kernel)⟩
theorem lw_p43 : lw_okq (⟨"ModuleLoaderModel", "exportAt", "(I)I"⟩, 31) := ⟨⟨by decide +kernel, by decide +kernel⟩, List.mem_of_getElem? (i := 868) (by decide +kernel), List.mem_of_getElem? (i := 1050) (by decide +kernel), List.mem_of_getElem? (i := 1051) (by decide +kernel)⟩
theorem lw_p44 : lw_okq (⟨"ModuleLoaderModel", "importAt", "(I)I"⟩, 31) := ⟨⟨by decide +kernel, by decide +kernel⟩, List.mem_of_getElem? (i := 868) (by decide +kernel), List.mem_of_getElem? (i := 1054) (by decide +kernel), List.mem_of_getElem? (i := 1055) (by decide +kernel)⟩
theorem lw_p45 : lw_okq (⟨"ModuleLoaderModel", "wrong", "(II)Z"⟩, 31) := ⟨⟨by decide +kernel, by decide +kernel⟩, List.mem_of_getElem? (i := 868) (by decide +kernel), List.mem_of_getElem? (i := 1058) (by decide +kernel), List.mem_of_getElem? (i := 1059) (by decide +kernel)⟩
theorem lw_p46 : lw_okq (⟨"ModuleLoaderModel", "numberOf", "(I)I"⟩, 31) := ⟨⟨by decide +kernel, by decide +kernel⟩, List.mem_of_getElem? (i := 868) (by decide +kernel), List.mem_of_getElem? (i := 1062) (by decide +kernel), List.mem_of_getElem? (i := 1063) (by decide +kernel)⟩
theorem lw_p47 : lw_okq (⟨"ModuleLoaderModel", "importsWrong", "()Z"⟩, 31) := ⟨⟨by decide +kernel, by decide +kernel⟩, List.mem_of_getElem? (i := 868) (by decide +kernel), List.mem_of_getElem? (i := 1066) (by decide +kernel), List.mem_of_getElem? (i := 1067) (by decide +kernel)⟩
def lw_privs_3 : List (MethodName × Nat) := [(⟨"ModuleLoader", "judgeInit", "(LModuleLoader$LoadedModule;)V"⟩, 8), (⟨"ModuleLoader", "takeOut", "(LModuleLoader$LoadedModule;)V"⟩, 8), (⟨"ModuleLoaderModel", "guarded", "(I)Z"⟩, 31), (⟨"ModuleLoaderModel", "put", "(III)V"⟩, 31), (⟨"ModuleLoaderModel", "wordAt", "(I)I"⟩, 31), (⟨"ModuleLoaderModel", "find", "(I)I"⟩, 31), (⟨"ModuleLoaderModel", "addSymbol", "(IIII)V"⟩, 31), (⟨"ModuleLoaderModel", "fresh", "()V"⟩, 31), (⟨"ModuleLoaderModel", "isFile", "(I)Z"⟩, 31), (⟨"ModuleLoaderModel", "tapeWord", "(I)I"⟩, 31), (⟨"ModuleLoaderModel", "placeAt", "(I)I"⟩, 31), (⟨"ModuleLoaderModel", "exportAt", "(I)I"⟩, 31), (⟨"ModuleLoaderModel", "importAt", "(I)I"⟩, 31), (⟨"ModuleLoaderModel", "wrong", "(II)Z"⟩, 31), (⟨"ModuleLoaderModel", "numberOf", "(I)I"⟩, 31), (⟨"ModuleLoaderModel", "importsWrong", "()Z"⟩, 31)]
theorem lw_r3 : ∀ q ∈ lw_privs_3, lw_okq q := List.forall_mem_cons.mpr ⟨lw_p32, List.forall_mem_cons.mpr ⟨lw_p33, List.forall_mem_cons.mpr ⟨lw_p34, List.forall_mem_cons.mpr ⟨lw_p35, List.forall_mem_cons.mpr ⟨lw_p36, List.forall_mem_cons.mpr ⟨lw_p37, List.forall_mem_cons.mpr ⟨lw_p38, List.forall_mem_cons.mpr ⟨lw_p39, List.forall_mem_cons.mpr ⟨lw_p40, List.forall_mem_cons.mpr ⟨lw_p41, List.forall_mem_cons.mpr ⟨lw_p42, List.forall_mem_cons.mpr ⟨lw_p43, List.forall_mem_cons.mpr ⟨lw_p44, List.forall_mem_cons.mpr ⟨lw_p45, List.forall_mem_cons.mpr ⟨lw_p46, List.forall_mem_cons.mpr ⟨lw_p47, fun _ h => absurd h List.not_mem_nil⟩⟩⟩⟩⟩⟩⟩⟩⟩⟩⟩⟩⟩⟩⟩⟩
theorem lw_p48 : lw_okq (⟨"ModuleLoaderModel", "exportsWrong", "()Z"⟩, 31) := ⟨⟨by decide +kernel, by decide +kernel⟩, List.mem_of_getElem? (i := 868) (by decide +kernel), List.mem_of_getElem? (i := 1070) (by decide +kernel), List.mem_of_getElem? (i := 1071) (by decide +kernel)⟩
theorem lw_p49 : lw_okq (⟨"ModuleLoaderModel", "room", "(I)I"⟩, 31) := ⟨⟨by decide +kernel, by decide +kernel⟩, List.mem_of_getElem? (i := 868) (by decide +kernel), List.mem_of_getElem? (i := 1074) (by decide +kernel), List.mem_of_getElem? (i := 1075) (by decide +kernel)⟩
theorem lw_p50 : lw_okq (⟨"ModuleLoaderModel", "isRowFree", "(I)Z"⟩, 31) := ⟨⟨by decide +kernel, by decide +kernel⟩, List.mem_of_getElem? (i := 868) (by decide +kernel), List.mem_of_getElem? (i := 1078) (by decide +kernel), List.mem_of_getElem? (i := 1079) (by decide +kernel)⟩
theorem lw_p51 : lw_okq (⟨"ModuleLoaderModel", "bring", "(IIII)V"⟩, 31) := ⟨⟨by decide +kernel, by decide +kernel⟩, List.mem_of_getElem? (i := 868) (by decide +kernel), List.mem_of_getElem? (i := 1082) (by decide +kernel), List.mem_of_getElem? (i := 1083) (by decide +kernel)⟩
theorem lw_p52 : lw_okq (⟨"ModuleLoaderModel", "mend", "(II)Z"⟩, 31) := ⟨⟨by decide +kernel, by decide +kernel⟩, List.mem_of_getElem? (i := 868) (by decide +kernel), List.mem_of_getElem? (i := 1086) (by decide +kernel), List.mem_of_getElem? (i := 1087) (by decide +kernel)⟩
theorem lw_p53 : lw_okq (⟨"ModuleLoaderModel", "runs", "(IIII)Z"⟩, 31) := ⟨⟨by decide +kernel, by decide +kernel⟩, List.mem_of_getElem? (i := 868) (by decide +kernel), List.mem_of_getElem? (i := 1094) (by decide +kernel), List.mem_of_getElem? (i := 1095) (by decide +kernel)⟩
theorem lw_p54 : lw_okq (⟨"ModuleLoaderModel", "step", "()I"⟩, 31) := ⟨⟨by decide +kernel, by decide +kernel⟩, List.mem_of_getElem? (i := 868) (by decide +kernel), List.mem_of_getElem? (i := 1098) (by decide +kernel), List.mem_of_getElem? (i := 1099) (by decide +kernel)⟩
theorem lw_p55 : lw_okq (⟨"ModuleLoaderModel", "fetch", "(III)I"⟩, 31) := ⟨⟨by decide +kernel, by decide +kernel⟩, List.mem_of_getElem? (i := 868) (by decide +kernel), List.mem_of_getElem? (i := 1112) (by decide +kernel), List.mem_of_getElem? (i := 1113) (by decide +kernel)⟩
theorem lw_p56 : lw_okq (⟨"ModuleLoaderModel", "byteAt", "(I)I"⟩, 31) := ⟨⟨by decide +kernel, by decide +kernel⟩, List.mem_of_getElem? (i := 868) (by decide +kernel), List.mem_of_getElem? (i := 1119) (by decide +kernel), List.mem_of_getElem? (i := 1120) (by decide +kernel)⟩
theorem lw_p57 : lw_okq (⟨"ModuleLoaderModel", "store", "(III)I"⟩, 31) := ⟨⟨by decide +kernel, by decide +kernel⟩, List.mem_of_getElem? (i := 868) (by decide +kernel), List.mem_of_getElem? (i := 1123) (by decide +kernel), List.mem_of_getElem? (i := 1124) (by decide +kernel)⟩
theorem lw_p58 : lw_okq (⟨"ModuleLoaderModel", "remove", "(I)V"⟩, 31) := ⟨⟨by decide +kernel, by decide +kernel⟩, List.mem_of_getElem? (i := 868) (by decide +kernel), List.mem_of_getElem? (i := 1130) (by decide +kernel), List.mem_of_getElem? (i := 1131) (by decide +kernel)⟩
theorem lw_p59 : lw_okq (⟨"ModuleLoaderModel", "isNeeded", "(I)Z"⟩, 31) := ⟨⟨by decide +kernel, by decide +kernel⟩, List.mem_of_getElem? (i := 868) (by decide +kernel), List.mem_of_getElem? (i := 1138) (by decide +kernel), List.mem_of_getElem? (i := 1139) (by decide +kernel)⟩
def lw_privs_4 : List (MethodName × Nat) := [(⟨"ModuleLoaderModel", "exportsWrong", "()Z"⟩, 31), (⟨"ModuleLoaderModel", "room", "(I)I"⟩, 31), (⟨"ModuleLoaderModel", "isRowFree", "(I)Z"⟩, 31), (⟨"ModuleLoaderModel", "bring", "(IIII)V"⟩, 31), (⟨"ModuleLoaderModel", "mend", "(II)Z"⟩, 31), (⟨"ModuleLoaderModel", "runs", "(IIII)Z"⟩, 31), (⟨"ModuleLoaderModel", "step", "()I"⟩, 31), (⟨"ModuleLoaderModel", "fetch", "(III)I"⟩, 31), (⟨"ModuleLoaderModel", "byteAt", "(I)I"⟩, 31), (⟨"ModuleLoaderModel", "store", "(III)I"⟩, 31), (⟨"ModuleLoaderModel", "remove", "(I)V"⟩, 31), (⟨"ModuleLoaderModel", "isNeeded", "(I)Z"⟩, 31)]
theorem lw_r4 : ∀ q ∈ lw_privs_4, lw_okq q := List.forall_mem_cons.mpr ⟨lw_p48, List.forall_mem_cons.mpr ⟨lw_p49, List.forall_mem_cons.mpr ⟨lw_p50, List.forall_mem_cons.mpr ⟨lw_p51, List.forall_mem_cons.mpr ⟨lw_p52, List.forall_mem_cons.mpr ⟨lw_p53, List.forall_mem_cons.mpr ⟨lw_p54, List.forall_mem_cons.mpr ⟨lw_p55, List.forall_mem_cons.mpr ⟨lw_p56, List.forall_mem_cons.mpr ⟨lw_p57, List.forall_mem_cons.mpr ⟨lw_p58, List.forall_mem_cons.mpr ⟨lw_p59, fun _ h => absurd h List.not_mem_nil⟩⟩⟩⟩⟩⟩⟩⟩⟩⟩⟩⟩
def lw_privs : List (MethodName × Nat) := lw_privs_1 ++ (lw_privs_2 ++ (lw_privs_3 ++ (lw_privs_4)))
def lw_tbl : List Cond := k2_sels lw_privs ++ tables_1
theorem lw_privs_ok : ∀ q ∈ lw_privs, lw_okq q := by
  show ∀ q ∈ lw_privs_1 ++ (lw_privs_2 ++ (lw_privs_3 ++ (lw_privs_4))), lw_okq q
  exact List.forall_mem_append.mpr ⟨lw_r1, List.forall_mem_append.mpr ⟨lw_r2, List.forall_mem_append.mpr ⟨lw_r3, lw_r4⟩⟩⟩
/-! General rows: one world (a function from a picture to cells), contracts by a function that answers 'some' -/
def xx_tb : List Cond := lw_tbl.filter goodWord
theorem xx_in {w : Cond} (h : w ∈ lw_tbl) (hg : goodWord w = true) : w ∈ xx_tb := List.mem_filter.mpr ⟨h, hg⟩
theorem xx_good {w : Cond} (h : w ∈ xx_tb) : (w.onTables && w.keeps) = true ∨ ∃ ty, w = .arrayClass ty := good_of_word (List.mem_filter.mp h).2
theorem xx_GI {ys : List Cond} (h : ∀ w ∈ ys, w ∈ xx_tb) : GoodIn xx_tb ys := fun w hw => ⟨h w hw, xx_good (h w hw)⟩
theorem xx_GIc {w0 : Cond} (h : w0 ∈ xx_tb) : ∀ w ∈ w0 :: xx_tb, w ∈ xx_tb := fun w hw => by
  rcases List.mem_cons.mp hw with h1 | h1
  · rw [h1]; exact h
  · exact h1
end
section
/-! the classes: their names, their fields, the types; the methods: names and bytes -/
def kr_Model : String := "ModuleLoaderModel"
def kf_Model : u_T := fun k => match k with
  | 0 => ("ModuleLoaderModel", "thrown", "I", false)
  | 1 => ("ModuleLoaderModel", "memory", "[I", true)
  | 2 => ("ModuleLoaderModel", "sealed", "Z", false)
  | 3 => ("ModuleLoaderModel", "symbols", "I", false)
  | 4 => ("ModuleLoaderModel", "symbolName", "[I", true)
  | 5 => ("ModuleLoaderModel", "symbolCheck", "[I", true)
  | 6 => ("ModuleLoaderModel", "symbolAt", "[I", true)
  | 7 => ("ModuleLoaderModel", "symbolOf", "[I", true)
  | 8 => ("ModuleLoaderModel", "isModule", "[Z", true)
  | 9 => ("ModuleLoaderModel", "moduleName", "[I", true)
  | 10 => ("ModuleLoaderModel", "base", "[I", true)
  | 11 => ("ModuleLoaderModel", "size", "[I", true)
  | 12 => ("ModuleLoaderModel", "guard", "[I", true)
  | 13 => ("ModuleLoaderModel", "exit", "[I", true)
  | 14 => ("ModuleLoaderModel", "needs", "[Z", true)
  | 15 => ("ModuleLoaderModel", "taped", "I", false)
  | 16 => ("ModuleLoaderModel", "tape", "[I", true)
  | 17 => ("ModuleLoaderModel", "fault", "I", false)
  | 18 => ("ModuleLoaderModel", "which", "I", false)
  | 19 => ("ModuleLoaderModel", "trap", "I", false)
  | 20 => ("ModuleLoaderModel", "made", "I", false)
  | 21 => ("ModuleLoaderModel", "returned", "I", false)
  | 22 => ("ModuleLoaderModel", "registers", "[I", true)
  | 23 => ("ModuleLoaderModel", "imports", "I", false)
  | 24 => ("ModuleLoaderModel", "exports", "I", false)
  | 25 => ("ModuleLoaderModel", "places", "I", false)
  | 26 => ("ModuleLoaderModel", "length", "I", false)
  | 27 => ("ModuleLoaderModel", "init", "I", false)
  | 28 => ("ModuleLoaderModel", "leaves", "I", false)
  | 29 => ("ModuleLoaderModel", "guards", "I", false)
  | _ => ("ModuleLoaderModel", "pc", "I", false)
def kt_Model : Nat → FieldType := fun k => match k with
  | 0 => .int
  | 1 => .array (.int)
  | 2 => .boolean
  | 3 => .int
  | 4 => .array (.int)
  | 5 => .array (.int)
  | 6 => .array (.int)
  | 7 => .array (.int)
  | 8 => .array (.boolean)
  | 9 => .array (.int)
  | 10 => .array (.int)
  | 11 => .array (.int)
  | 12 => .array (.int)
  | 13 => .array (.int)
  | 14 => .array (.boolean)
  | 15 => .int
  | 16 => .array (.int)
  | 17 => .int
  | 18 => .int
  | 19 => .int
  | 20 => .int
  | 21 => .int
  | 22 => .array (.int)
  | 23 => .int
  | 24 => .int
  | 25 => .int
  | 26 => .int
  | 27 => .int
  | 28 => .int
  | 29 => .int
  | _ => .int
def kr_Loader : String := "ModuleLoader"
def kf_Loader : u_T := fun k => match k with
  | 0 => ("ModuleLoader", "memory", "LModuleLoader$Memory;", true)
  | 1 => ("ModuleLoader", "machine", "LModuleLoader$Machine;", true)
  | 2 => ("ModuleLoader", "tape", "LModuleLoader$Tape;", true)
  | 3 => ("ModuleLoader", "file", "LModuleLoader$ModuleFile;", true)
  | 4 => ("ModuleLoader", "symbols", "LModuleLoader$SymbolTable;", true)
  | 5 => ("ModuleLoader", "modules", "LModuleLoader$ModuleTable;", true)
  | 6 => ("ModuleLoader", "report", "LModuleLoader$Report;", true)
  | _ => ("ModuleLoader", "sealed", "Z", false)
def kt_Loader : Nat → FieldType := fun k => match k with
  | 0 => .object "ModuleLoader$Memory"
  | 1 => .object "ModuleLoader$Machine"
  | 2 => .object "ModuleLoader$Tape"
  | 3 => .object "ModuleLoader$ModuleFile"
  | 4 => .object "ModuleLoader$SymbolTable"
  | 5 => .object "ModuleLoader$ModuleTable"
  | 6 => .object "ModuleLoader$Report"
  | _ => .boolean
def kr_Memory : String := "ModuleLoader$Memory"
def kf_Memory : u_T := fun k => match k with
  | 0 => ("ModuleLoader$Memory", "words", "[I", true)
  | _ => ("ModuleLoader$Memory", "guardedWords", "[Z", true)
def kt_Memory : Nat → FieldType := fun k => match k with
  | 0 => .array (.int)
  | _ => .array (.boolean)
def kr_Machine : String := "ModuleLoader$Machine"
def kf_Machine : u_T := fun k => match k with
  | 0 => ("ModuleLoader$Machine", "trap", "I", false)
  | 1 => ("ModuleLoader$Machine", "steps", "I", false)
  | 2 => ("ModuleLoader$Machine", "memory", "LModuleLoader$Memory;", true)
  | 3 => ("ModuleLoader$Machine", "registers", "[I", true)
  | _ => ("ModuleLoader$Machine", "next", "I", false)
def kt_Machine : Nat → FieldType := fun k => match k with
  | 0 => .int
  | 1 => .int
  | 2 => .object "ModuleLoader$Memory"
  | 3 => .array (.int)
  | _ => .int
def kr_Tape : String := "ModuleLoader$Tape"
def kf_Tape : u_T := fun k => match k with
  | 0 => ("ModuleLoader$Tape", "words", "[I", true)
  | _ => ("ModuleLoader$Tape", "used", "I", false)
def kt_Tape : Nat → FieldType := fun k => match k with
  | 0 => .array (.int)
  | _ => .int
def kr_ModuleFile : String := "ModuleLoader$ModuleFile"
def kf_ModuleFile : u_T := fun k => match k with
  | 0 => ("ModuleLoader$ModuleFile", "size", "I", false)
  | 1 => ("ModuleLoader$ModuleFile", "imports", "I", false)
  | 2 => ("ModuleLoader$ModuleFile", "exports", "I", false)
  | 3 => ("ModuleLoader$ModuleFile", "places", "I", false)
  | 4 => ("ModuleLoader$ModuleFile", "init", "I", false)
  | 5 => ("ModuleLoader$ModuleFile", "exit", "I", false)
  | 6 => ("ModuleLoader$ModuleFile", "guarded", "I", false)
  | 7 => ("ModuleLoader$ModuleFile", "tape", "LModuleLoader$Tape;", true)
  | 8 => ("ModuleLoader$ModuleFile", "importsStart", "I", false)
  | 9 => ("ModuleLoader$ModuleFile", "exportsStart", "I", false)
  | _ => ("ModuleLoader$ModuleFile", "placesStart", "I", false)
def kt_ModuleFile : Nat → FieldType := fun k => match k with
  | 0 => .int
  | 1 => .int
  | 2 => .int
  | 3 => .int
  | 4 => .int
  | 5 => .int
  | 6 => .int
  | 7 => .object "ModuleLoader$Tape"
  | 8 => .int
  | 9 => .int
  | _ => .int
def kr_SymbolTable : String := "ModuleLoader$SymbolTable"
def kf_SymbolTable : u_T := fun k => match k with
  | 0 => ("ModuleLoader$SymbolTable", "entries", "[LModuleLoader$Symbol;", true)
  | _ => ("ModuleLoader$SymbolTable", "used", "I", false)
def kt_SymbolTable : Nat → FieldType := fun k => match k with
  | 0 => .array (.object "ModuleLoader$Symbol")
  | _ => .int
def kr_Symbol : String := "ModuleLoader$Symbol"
def kf_Symbol : u_T := fun k => match k with
  | 0 => ("ModuleLoader$Symbol", "name", "I", true)
  | 1 => ("ModuleLoader$Symbol", "check", "I", true)
  | 2 => ("ModuleLoader$Symbol", "address", "I", true)
  | _ => ("ModuleLoader$Symbol", "owner", "LModuleLoader$LoadedModule;", true)
def kt_Symbol : Nat → FieldType := fun k => match k with
  | 0 => .int
  | 1 => .int
  | 2 => .int
  | _ => .object "ModuleLoader$LoadedModule"
def kr_ModuleTable : String := "ModuleLoader$ModuleTable"
def kf_ModuleTable : u_T := fun k => match k with
  | 0 => ("ModuleLoader$ModuleTable", "entries", "[LModuleLoader$LoadedModule;", true)
  | _ => ("ModuleLoader$ModuleTable", "used", "I", false)
def kt_ModuleTable : Nat → FieldType := fun k => match k with
  | 0 => .array (.object "ModuleLoader$LoadedModule")
  | _ => .int
def kr_LoadedModule : String := "ModuleLoader$LoadedModule"
def kf_LoadedModule : u_T := fun k => match k with
  | 0 => ("ModuleLoader$LoadedModule", "name", "I", true)
  | 1 => ("ModuleLoader$LoadedModule", "address", "I", true)
  | 2 => ("ModuleLoader$LoadedModule", "size", "I", true)
  | 3 => ("ModuleLoader$LoadedModule", "exports", "I", true)
  | 4 => ("ModuleLoader$LoadedModule", "exit", "I", true)
  | 5 => ("ModuleLoader$LoadedModule", "guarded", "I", true)
  | 6 => ("ModuleLoader$LoadedModule", "firstRow", "I", true)
  | 7 => ("ModuleLoader$LoadedModule", "rowBehind", "I", true)
  | 8 => ("ModuleLoader$LoadedModule", "needed", "[LModuleLoader$LoadedModule;", true)
  | _ => ("ModuleLoader$LoadedModule", "neededUsed", "I", false)
def kt_LoadedModule : Nat → FieldType := fun k => match k with
  | 0 => .int
  | 1 => .int
  | 2 => .int
  | 3 => .int
  | 4 => .int
  | 5 => .int
  | 6 => .int
  | 7 => .int
  | 8 => .array (.object "ModuleLoader$LoadedModule")
  | _ => .int
def kr_Report : String := "ModuleLoader$Report"
def kf_Report : u_T := fun k => match k with
  | 0 => ("ModuleLoader$Report", "number", "I", false)
  | 1 => ("ModuleLoader$Report", "which", "I", false)
  | 2 => ("ModuleLoader$Report", "trap", "I", false)
  | 3 => ("ModuleLoader$Report", "steps", "I", false)
  | _ => ("ModuleLoader$Report", "answer", "I", false)
def kt_Report : Nat → FieldType := fun k => match k with
  | 0 => .int
  | 1 => .int
  | 2 => .int
  | 3 => .int
  | _ => .int
abbrev xx_cls : List vw_C := [(kr_Model, kf_Model, 31), (kr_Loader, kf_Loader, 8), (kr_Memory, kf_Memory, 2), (kr_Machine, kf_Machine, 5), (kr_Tape, kf_Tape, 2), (kr_ModuleFile, kf_ModuleFile, 11), (kr_SymbolTable, kf_SymbolTable, 2), (kr_Symbol, kf_Symbol, 4), (kr_ModuleTable, kf_ModuleTable, 2), (kr_LoadedModule, kf_LoadedModule, 10), (kr_Report, kf_Report, 5)]
theorem kn_Model : ∀ a, a < 31 → ∀ b, b < 31 → a ≠ b → (kf_Model a).2.1 ≠ (kf_Model b).2.1 := by decide +kernel
theorem ko_Model : ∀ k, k < 31 → parseFieldDescriptor (kf_Model k).2.2.1 = some (kt_Model k) := by decide +kernel
theorem kn_Loader : ∀ a, a < 8 → ∀ b, b < 8 → a ≠ b → (kf_Loader a).2.1 ≠ (kf_Loader b).2.1 := by decide +kernel
theorem ko_Loader : ∀ k, k < 8 → parseFieldDescriptor (kf_Loader k).2.2.1 = some (kt_Loader k) := by decide +kernel
theorem kn_Memory : ∀ a, a < 2 → ∀ b, b < 2 → a ≠ b → (kf_Memory a).2.1 ≠ (kf_Memory b).2.1 := by decide +kernel
theorem ko_Memory : ∀ k, k < 2 → parseFieldDescriptor (kf_Memory k).2.2.1 = some (kt_Memory k) := by decide +kernel
theorem kn_Machine : ∀ a, a < 5 → ∀ b, b < 5 → a ≠ b → (kf_Machine a).2.1 ≠ (kf_Machine b).2.1 := by decide +kernel
theorem ko_Machine : ∀ k, k < 5 → parseFieldDescriptor (kf_Machine k).2.2.1 = some (kt_Machine k) := by decide +kernel
theorem kn_Tape : ∀ a, a < 2 → ∀ b, b < 2 → a ≠ b → (kf_Tape a).2.1 ≠ (kf_Tape b).2.1 := by decide +kernel
theorem ko_Tape : ∀ k, k < 2 → parseFieldDescriptor (kf_Tape k).2.2.1 = some (kt_Tape k) := by decide +kernel
theorem kn_ModuleFile : ∀ a, a < 11 → ∀ b, b < 11 → a ≠ b → (kf_ModuleFile a).2.1 ≠ (kf_ModuleFile b).2.1 := by decide +kernel
theorem ko_ModuleFile : ∀ k, k < 11 → parseFieldDescriptor (kf_ModuleFile k).2.2.1 = some (kt_ModuleFile k) := by decide +kernel
theorem kn_SymbolTable : ∀ a, a < 2 → ∀ b, b < 2 → a ≠ b → (kf_SymbolTable a).2.1 ≠ (kf_SymbolTable b).2.1 := by decide +kernel
theorem ko_SymbolTable : ∀ k, k < 2 → parseFieldDescriptor (kf_SymbolTable k).2.2.1 = some (kt_SymbolTable k) := by decide +kernel
theorem kn_Symbol : ∀ a, a < 4 → ∀ b, b < 4 → a ≠ b → (kf_Symbol a).2.1 ≠ (kf_Symbol b).2.1 := by decide +kernel
theorem ko_Symbol : ∀ k, k < 4 → parseFieldDescriptor (kf_Symbol k).2.2.1 = some (kt_Symbol k) := by decide +kernel
theorem kn_ModuleTable : ∀ a, a < 2 → ∀ b, b < 2 → a ≠ b → (kf_ModuleTable a).2.1 ≠ (kf_ModuleTable b).2.1 := by decide +kernel
theorem ko_ModuleTable : ∀ k, k < 2 → parseFieldDescriptor (kf_ModuleTable k).2.2.1 = some (kt_ModuleTable k) := by decide +kernel
theorem kn_LoadedModule : ∀ a, a < 10 → ∀ b, b < 10 → a ≠ b → (kf_LoadedModule a).2.1 ≠ (kf_LoadedModule b).2.1 := by decide +kernel
theorem ko_LoadedModule : ∀ k, k < 10 → parseFieldDescriptor (kf_LoadedModule k).2.2.1 = some (kt_LoadedModule k) := by decide +kernel
theorem kn_Report : ∀ a, a < 5 → ∀ b, b < 5 → a ≠ b → (kf_Report a).2.1 ≠ (kf_Report b).2.1 := by decide +kernel
theorem ko_Report : ∀ k, k < 5 → parseFieldDescriptor (kf_Report k).2.2.1 = some (kt_Report k) := by decide +kernel
theorem kw_904 : Cond.lays "ModuleLoaderModel" "ModuleLoaderModel" "thrown" "I" ∈ xx_tb := xx_in (List.mem_append_right _ (List.mem_of_getElem? (i := 904) (by decide +kernel))) (by decide +kernel)
theorem kw_906 : Cond.laysFinal "ModuleLoaderModel" "ModuleLoaderModel" "memory" "[I" ∈ xx_tb := xx_in (List.mem_append_right _ (List.mem_of_getElem? (i := 906) (by decide +kernel))) (by decide +kernel)
theorem kw_908 : Cond.lays "ModuleLoaderModel" "ModuleLoaderModel" "sealed" "Z" ∈ xx_tb := xx_in (List.mem_append_right _ (List.mem_of_getElem? (i := 908) (by decide +kernel))) (by decide +kernel)
theorem kw_910 : Cond.lays "ModuleLoaderModel" "ModuleLoaderModel" "symbols" "I" ∈ xx_tb := xx_in (List.mem_append_right _ (List.mem_of_getElem? (i := 910) (by decide +kernel))) (by decide +kernel)
theorem kw_912 : Cond.laysFinal "ModuleLoaderModel" "ModuleLoaderModel" "symbolName" "[I" ∈ xx_tb := xx_in (List.mem_append_right _ (List.mem_of_getElem? (i := 912) (by decide +kernel))) (by decide +kernel)
theorem kw_914 : Cond.laysFinal "ModuleLoaderModel" "ModuleLoaderModel" "symbolCheck" "[I" ∈ xx_tb := xx_in (List.mem_append_right _ (List.mem_of_getElem? (i := 914) (by decide +kernel))) (by decide +kernel)
theorem kw_916 : Cond.laysFinal "ModuleLoaderModel" "ModuleLoaderModel" "symbolAt" "[I" ∈ xx_tb := xx_in (List.mem_append_right _ (List.mem_of_getElem? (i := 916) (by decide +kernel))) (by decide +kernel)
theorem kw_918 : Cond.laysFinal "ModuleLoaderModel" "ModuleLoaderModel" "symbolOf" "[I" ∈ xx_tb := xx_in (List.mem_append_right _ (List.mem_of_getElem? (i := 918) (by decide +kernel))) (by decide +kernel)
theorem kw_920 : Cond.laysFinal "ModuleLoaderModel" "ModuleLoaderModel" "isModule" "[Z" ∈ xx_tb := xx_in (List.mem_append_right _ (List.mem_of_getElem? (i := 920) (by decide +kernel))) (by decide +kernel)
theorem kw_922 : Cond.laysFinal "ModuleLoaderModel" "ModuleLoaderModel" "moduleName" "[I" ∈ xx_tb := xx_in (List.mem_append_right _ (List.mem_of_getElem? (i := 922) (by decide +kernel))) (by decide +kernel)
theorem kw_924 : Cond.laysFinal "ModuleLoaderModel" "ModuleLoaderModel" "base" "[I" ∈ xx_tb := xx_in (List.mem_append_right _ (List.mem_of_getElem? (i := 924) (by decide +kernel))) (by decide +kernel)
theorem kw_926 : Cond.laysFinal "ModuleLoaderModel" "ModuleLoaderModel" "size" "[I" ∈ xx_tb := xx_in (List.mem_append_right _ (List.mem_of_getElem? (i := 926) (by decide +kernel))) (by decide +kernel)
theorem kw_928 : Cond.laysFinal "ModuleLoaderModel" "ModuleLoaderModel" "guard" "[I" ∈ xx_tb := xx_in (List.mem_append_right _ (List.mem_of_getElem? (i := 928) (by decide +kernel))) (by decide +kernel)
theorem kw_930 : Cond.laysFinal "ModuleLoaderModel" "ModuleLoaderModel" "exit" "[I" ∈ xx_tb := xx_in (List.mem_append_right _ (List.mem_of_getElem? (i := 930) (by decide +kernel))) (by decide +kernel)
theorem kw_932 : Cond.laysFinal "ModuleLoaderModel" "ModuleLoaderModel" "needs" "[Z" ∈ xx_tb := xx_in (List.mem_append_right _ (List.mem_of_getElem? (i := 932) (by decide +kernel))) (by decide +kernel)
theorem kw_934 : Cond.lays "ModuleLoaderModel" "ModuleLoaderModel" "taped" "I" ∈ xx_tb := xx_in (List.mem_append_right _ (List.mem_of_getElem? (i := 934) (by decide +kernel))) (by decide +kernel)
theorem kw_936 : Cond.laysFinal "ModuleLoaderModel" "ModuleLoaderModel" "tape" "[I" ∈ xx_tb := xx_in (List.mem_append_right _ (List.mem_of_getElem? (i := 936) (by decide +kernel))) (by decide +kernel)
theorem kw_938 : Cond.lays "ModuleLoaderModel" "ModuleLoaderModel" "fault" "I" ∈ xx_tb := xx_in (List.mem_append_right _ (List.mem_of_getElem? (i := 938) (by decide +kernel))) (by decide +kernel)
theorem kw_940 : Cond.lays "ModuleLoaderModel" "ModuleLoaderModel" "which" "I" ∈ xx_tb := xx_in (List.mem_append_right _ (List.mem_of_getElem? (i := 940) (by decide +kernel))) (by decide +kernel)
theorem kw_942 : Cond.lays "ModuleLoaderModel" "ModuleLoaderModel" "trap" "I" ∈ xx_tb := xx_in (List.mem_append_right _ (List.mem_of_getElem? (i := 942) (by decide +kernel))) (by decide +kernel)
theorem kw_944 : Cond.lays "ModuleLoaderModel" "ModuleLoaderModel" "made" "I" ∈ xx_tb := xx_in (List.mem_append_right _ (List.mem_of_getElem? (i := 944) (by decide +kernel))) (by decide +kernel)
theorem kw_946 : Cond.lays "ModuleLoaderModel" "ModuleLoaderModel" "returned" "I" ∈ xx_tb := xx_in (List.mem_append_right _ (List.mem_of_getElem? (i := 946) (by decide +kernel))) (by decide +kernel)
theorem kw_948 : Cond.laysFinal "ModuleLoaderModel" "ModuleLoaderModel" "registers" "[I" ∈ xx_tb := xx_in (List.mem_append_right _ (List.mem_of_getElem? (i := 948) (by decide +kernel))) (by decide +kernel)
theorem kw_950 : Cond.lays "ModuleLoaderModel" "ModuleLoaderModel" "imports" "I" ∈ xx_tb := xx_in (List.mem_append_right _ (List.mem_of_getElem? (i := 950) (by decide +kernel))) (by decide +kernel)
theorem kw_952 : Cond.lays "ModuleLoaderModel" "ModuleLoaderModel" "exports" "I" ∈ xx_tb := xx_in (List.mem_append_right _ (List.mem_of_getElem? (i := 952) (by decide +kernel))) (by decide +kernel)
theorem kw_954 : Cond.lays "ModuleLoaderModel" "ModuleLoaderModel" "places" "I" ∈ xx_tb := xx_in (List.mem_append_right _ (List.mem_of_getElem? (i := 954) (by decide +kernel))) (by decide +kernel)
theorem kw_956 : Cond.lays "ModuleLoaderModel" "ModuleLoaderModel" "length" "I" ∈ xx_tb := xx_in (List.mem_append_right _ (List.mem_of_getElem? (i := 956) (by decide +kernel))) (by decide +kernel)
theorem kw_958 : Cond.lays "ModuleLoaderModel" "ModuleLoaderModel" "init" "I" ∈ xx_tb := xx_in (List.mem_append_right _ (List.mem_of_getElem? (i := 958) (by decide +kernel))) (by decide +kernel)
theorem kw_960 : Cond.lays "ModuleLoaderModel" "ModuleLoaderModel" "leaves" "I" ∈ xx_tb := xx_in (List.mem_append_right _ (List.mem_of_getElem? (i := 960) (by decide +kernel))) (by decide +kernel)
theorem kw_962 : Cond.lays "ModuleLoaderModel" "ModuleLoaderModel" "guards" "I" ∈ xx_tb := xx_in (List.mem_append_right _ (List.mem_of_getElem? (i := 962) (by decide +kernel))) (by decide +kernel)
theorem kw_964 : Cond.lays "ModuleLoaderModel" "ModuleLoaderModel" "pc" "I" ∈ xx_tb := xx_in (List.mem_append_right _ (List.mem_of_getElem? (i := 964) (by decide +kernel))) (by decide +kernel)
theorem ki_Model : ∀ w ∈ u_ws kr_Model kf_Model 31, w ∈ xx_tb := by
  intro w hw
  obtain ⟨k, hk, rfl⟩ := List.mem_map.mp hw
  have hk := List.mem_range.mp hk
  match k, hk with
  | 0, _ => exact kw_904
  | 1, _ => exact kw_906
  | 2, _ => exact kw_908
  | 3, _ => exact kw_910
  | 4, _ => exact kw_912
  | 5, _ => exact kw_914
  | 6, _ => exact kw_916
  | 7, _ => exact kw_918
  | 8, _ => exact kw_920
  | 9, _ => exact kw_922
  | 10, _ => exact kw_924
  | 11, _ => exact kw_926
  | 12, _ => exact kw_928
  | 13, _ => exact kw_930
  | 14, _ => exact kw_932
  | 15, _ => exact kw_934
  | 16, _ => exact kw_936
  | 17, _ => exact kw_938
  | 18, _ => exact kw_940
  | 19, _ => exact kw_942
  | 20, _ => exact kw_944
  | 21, _ => exact kw_946
  | 22, _ => exact kw_948
  | 23, _ => exact kw_950
  | 24, _ => exact kw_952
  | 25, _ => exact kw_954
  | 26, _ => exact kw_956
  | 27, _ => exact kw_958
  | 28, _ => exact kw_960
  | 29, _ => exact kw_962
  | 30, _ => exact kw_964
  | n + 31, h => exact absurd h (by omega)
theorem kw_195 : Cond.laysFinal "ModuleLoader" "ModuleLoader" "memory" "LModuleLoader$Memory;" ∈ xx_tb := xx_in (List.mem_append_right _ (List.mem_of_getElem? (i := 195) (by decide +kernel))) (by decide +kernel)
theorem kw_197 : Cond.laysFinal "ModuleLoader" "ModuleLoader" "machine" "LModuleLoader$Machine;" ∈ xx_tb := xx_in (List.mem_append_right _ (List.mem_of_getElem? (i := 197) (by decide +kernel))) (by decide +kernel)
theorem kw_199 : Cond.laysFinal "ModuleLoader" "ModuleLoader" "tape" "LModuleLoader$Tape;" ∈ xx_tb := xx_in (List.mem_append_right _ (List.mem_of_getElem? (i := 199) (by decide +kernel))) (by decide +kernel)
theorem kw_201 : Cond.laysFinal "ModuleLoader" "ModuleLoader" "file" "LModuleLoader$ModuleFile;" ∈ xx_tb := xx_in (List.mem_append_right _ (List.mem_of_getElem? (i := 201) (by decide +kernel))) (by decide +kernel)
theorem kw_203 : Cond.laysFinal "ModuleLoader" "ModuleLoader" "symbols" "LModuleLoader$SymbolTable;" ∈ xx_tb := xx_in (List.mem_append_right _ (List.mem_of_getElem? (i := 203) (by decide +kernel))) (by decide +kernel)
theorem kw_205 : Cond.laysFinal "ModuleLoader" "ModuleLoader" "modules" "LModuleLoader$ModuleTable;" ∈ xx_tb := xx_in (List.mem_append_right _ (List.mem_of_getElem? (i := 205) (by decide +kernel))) (by decide +kernel)
theorem kw_207 : Cond.laysFinal "ModuleLoader" "ModuleLoader" "report" "LModuleLoader$Report;" ∈ xx_tb := xx_in (List.mem_append_right _ (List.mem_of_getElem? (i := 207) (by decide +kernel))) (by decide +kernel)
theorem kw_209 : Cond.lays "ModuleLoader" "ModuleLoader" "sealed" "Z" ∈ xx_tb := xx_in (List.mem_append_right _ (List.mem_of_getElem? (i := 209) (by decide +kernel))) (by decide +kernel)
theorem ki_Loader : ∀ w ∈ u_ws kr_Loader kf_Loader 8, w ∈ xx_tb := by
  intro w hw
  obtain ⟨k, hk, rfl⟩ := List.mem_map.mp hw
  have hk := List.mem_range.mp hk
  match k, hk with
  | 0, _ => exact kw_195
  | 1, _ => exact kw_197
  | 2, _ => exact kw_199
  | 3, _ => exact kw_201
  | 4, _ => exact kw_203
  | 5, _ => exact kw_205
  | 6, _ => exact kw_207
  | 7, _ => exact kw_209
  | n + 8, h => exact absurd h (by omega)
theorem kw_37 : Cond.laysFinal "ModuleLoader$Memory" "ModuleLoader$Memory" "words" "[I" ∈ xx_tb := xx_in (List.mem_append_right _ (List.mem_of_getElem? (i := 37) (by decide +kernel))) (by decide +kernel)
theorem kw_39 : Cond.laysFinal "ModuleLoader$Memory" "ModuleLoader$Memory" "guardedWords" "[Z" ∈ xx_tb := xx_in (List.mem_append_right _ (List.mem_of_getElem? (i := 39) (by decide +kernel))) (by decide +kernel)
theorem ki_Memory : ∀ w ∈ u_ws kr_Memory kf_Memory 2, w ∈ xx_tb := by
  intro w hw
  obtain ⟨k, hk, rfl⟩ := List.mem_map.mp hw
  have hk := List.mem_range.mp hk
  match k, hk with
  | 0, _ => exact kw_37
  | 1, _ => exact kw_39
  | n + 2, h => exact absurd h (by omega)
theorem kw_57 : Cond.lays "ModuleLoader$Machine" "ModuleLoader$Machine" "trap" "I" ∈ xx_tb := xx_in (List.mem_append_right _ (List.mem_of_getElem? (i := 57) (by decide +kernel))) (by decide +kernel)
theorem kw_59 : Cond.lays "ModuleLoader$Machine" "ModuleLoader$Machine" "steps" "I" ∈ xx_tb := xx_in (List.mem_append_right _ (List.mem_of_getElem? (i := 59) (by decide +kernel))) (by decide +kernel)
theorem kw_61 : Cond.laysFinal "ModuleLoader$Machine" "ModuleLoader$Machine" "memory" "LModuleLoader$Memory;" ∈ xx_tb := xx_in (List.mem_append_right _ (List.mem_of_getElem? (i := 61) (by decide +kernel))) (by decide +kernel)
theorem kw_63 : Cond.laysFinal "ModuleLoader$Machine" "ModuleLoader$Machine" "registers" "[I" ∈ xx_tb := xx_in (List.mem_append_right _ (List.mem_of_getElem? (i := 63) (by decide +kernel))) (by decide +kernel)
theorem kw_65 : Cond.lays "ModuleLoader$Machine" "ModuleLoader$Machine" "next" "I" ∈ xx_tb := xx_in (List.mem_append_right _ (List.mem_of_getElem? (i := 65) (by decide +kernel))) (by decide +kernel)
theorem ki_Machine : ∀ w ∈ u_ws kr_Machine kf_Machine 5, w ∈ xx_tb := by
  intro w hw
  obtain ⟨k, hk, rfl⟩ := List.mem_map.mp hw
  have hk := List.mem_range.mp hk
  match k, hk with
  | 0, _ => exact kw_57
  | 1, _ => exact kw_59
  | 2, _ => exact kw_61
  | 3, _ => exact kw_63
  | 4, _ => exact kw_65
  | n + 5, h => exact absurd h (by omega)
theorem kw_76 : Cond.laysFinal "ModuleLoader$Tape" "ModuleLoader$Tape" "words" "[I" ∈ xx_tb := xx_in (List.mem_append_right _ (List.mem_of_getElem? (i := 76) (by decide +kernel))) (by decide +kernel)
theorem kw_78 : Cond.lays "ModuleLoader$Tape" "ModuleLoader$Tape" "used" "I" ∈ xx_tb := xx_in (List.mem_append_right _ (List.mem_of_getElem? (i := 78) (by decide +kernel))) (by decide +kernel)
theorem ki_Tape : ∀ w ∈ u_ws kr_Tape kf_Tape 2, w ∈ xx_tb := by
  intro w hw
  obtain ⟨k, hk, rfl⟩ := List.mem_map.mp hw
  have hk := List.mem_range.mp hk
  match k, hk with
  | 0, _ => exact kw_76
  | 1, _ => exact kw_78
  | n + 2, h => exact absurd h (by omega)
theorem kw_107 : Cond.lays "ModuleLoader$ModuleFile" "ModuleLoader$ModuleFile" "size" "I" ∈ xx_tb := xx_in (List.mem_append_right _ (List.mem_of_getElem? (i := 107) (by decide +kernel))) (by decide +kernel)
theorem kw_109 : Cond.lays "ModuleLoader$ModuleFile" "ModuleLoader$ModuleFile" "imports" "I" ∈ xx_tb := xx_in (List.mem_append_right _ (List.mem_of_getElem? (i := 109) (by decide +kernel))) (by decide +kernel)
theorem kw_111 : Cond.lays "ModuleLoader$ModuleFile" "ModuleLoader$ModuleFile" "exports" "I" ∈ xx_tb := xx_in (List.mem_append_right _ (List.mem_of_getElem? (i := 111) (by decide +kernel))) (by decide +kernel)
theorem kw_113 : Cond.lays "ModuleLoader$ModuleFile" "ModuleLoader$ModuleFile" "places" "I" ∈ xx_tb := xx_in (List.mem_append_right _ (List.mem_of_getElem? (i := 113) (by decide +kernel))) (by decide +kernel)
theorem kw_115 : Cond.lays "ModuleLoader$ModuleFile" "ModuleLoader$ModuleFile" "init" "I" ∈ xx_tb := xx_in (List.mem_append_right _ (List.mem_of_getElem? (i := 115) (by decide +kernel))) (by decide +kernel)
theorem kw_117 : Cond.lays "ModuleLoader$ModuleFile" "ModuleLoader$ModuleFile" "exit" "I" ∈ xx_tb := xx_in (List.mem_append_right _ (List.mem_of_getElem? (i := 117) (by decide +kernel))) (by decide +kernel)
theorem kw_119 : Cond.lays "ModuleLoader$ModuleFile" "ModuleLoader$ModuleFile" "guarded" "I" ∈ xx_tb := xx_in (List.mem_append_right _ (List.mem_of_getElem? (i := 119) (by decide +kernel))) (by decide +kernel)
theorem kw_121 : Cond.laysFinal "ModuleLoader$ModuleFile" "ModuleLoader$ModuleFile" "tape" "LModuleLoader$Tape;" ∈ xx_tb := xx_in (List.mem_append_right _ (List.mem_of_getElem? (i := 121) (by decide +kernel))) (by decide +kernel)
theorem kw_123 : Cond.lays "ModuleLoader$ModuleFile" "ModuleLoader$ModuleFile" "importsStart" "I" ∈ xx_tb := xx_in (List.mem_append_right _ (List.mem_of_getElem? (i := 123) (by decide +kernel))) (by decide +kernel)
theorem kw_125 : Cond.lays "ModuleLoader$ModuleFile" "ModuleLoader$ModuleFile" "exportsStart" "I" ∈ xx_tb := xx_in (List.mem_append_right _ (List.mem_of_getElem? (i := 125) (by decide +kernel))) (by decide +kernel)
theorem kw_127 : Cond.lays "ModuleLoader$ModuleFile" "ModuleLoader$ModuleFile" "placesStart" "I" ∈ xx_tb := xx_in (List.mem_append_right _ (List.mem_of_getElem? (i := 127) (by decide +kernel))) (by decide +kernel)
theorem ki_ModuleFile : ∀ w ∈ u_ws kr_ModuleFile kf_ModuleFile 11, w ∈ xx_tb := by
  intro w hw
  obtain ⟨k, hk, rfl⟩ := List.mem_map.mp hw
  have hk := List.mem_range.mp hk
  match k, hk with
  | 0, _ => exact kw_107
  | 1, _ => exact kw_109
  | 2, _ => exact kw_111
  | 3, _ => exact kw_113
  | 4, _ => exact kw_115
  | 5, _ => exact kw_117
  | 6, _ => exact kw_119
  | 7, _ => exact kw_121
  | 8, _ => exact kw_123
  | 9, _ => exact kw_125
  | 10, _ => exact kw_127
  | n + 11, h => exact absurd h (by omega)
theorem kw_140 : Cond.laysFinal "ModuleLoader$SymbolTable" "ModuleLoader$SymbolTable" "entries" "[LModuleLoader$Symbol;" ∈ xx_tb := xx_in (List.mem_append_right _ (List.mem_of_getElem? (i := 140) (by decide +kernel))) (by decide +kernel)
theorem kw_142 : Cond.lays "ModuleLoader$SymbolTable" "ModuleLoader$SymbolTable" "used" "I" ∈ xx_tb := xx_in (List.mem_append_right _ (List.mem_of_getElem? (i := 142) (by decide +kernel))) (by decide +kernel)
theorem ki_SymbolTable : ∀ w ∈ u_ws kr_SymbolTable kf_SymbolTable 2, w ∈ xx_tb := by
  intro w hw
  obtain ⟨k, hk, rfl⟩ := List.mem_map.mp hw
  have hk := List.mem_range.mp hk
  match k, hk with
  | 0, _ => exact kw_140
  | 1, _ => exact kw_142
  | n + 2, h => exact absurd h (by omega)
theorem kw_471 : Cond.laysFinal "ModuleLoader$Symbol" "ModuleLoader$Symbol" "name" "I" ∈ xx_tb := xx_in (List.mem_append_right _ (List.mem_of_getElem? (i := 471) (by decide +kernel))) (by decide +kernel)
theorem kw_473 : Cond.laysFinal "ModuleLoader$Symbol" "ModuleLoader$Symbol" "check" "I" ∈ xx_tb := xx_in (List.mem_append_right _ (List.mem_of_getElem? (i := 473) (by decide +kernel))) (by decide +kernel)
theorem kw_475 : Cond.laysFinal "ModuleLoader$Symbol" "ModuleLoader$Symbol" "address" "I" ∈ xx_tb := xx_in (List.mem_append_right _ (List.mem_of_getElem? (i := 475) (by decide +kernel))) (by decide +kernel)
theorem kw_477 : Cond.laysFinal "ModuleLoader$Symbol" "ModuleLoader$Symbol" "owner" "LModuleLoader$LoadedModule;" ∈ xx_tb := xx_in (List.mem_append_right _ (List.mem_of_getElem? (i := 477) (by decide +kernel))) (by decide +kernel)
theorem ki_Symbol : ∀ w ∈ u_ws kr_Symbol kf_Symbol 4, w ∈ xx_tb := by
  intro w hw
  obtain ⟨k, hk, rfl⟩ := List.mem_map.mp hw
  have hk := List.mem_range.mp hk
  match k, hk with
  | 0, _ => exact kw_471
  | 1, _ => exact kw_473
  | 2, _ => exact kw_475
  | 3, _ => exact kw_477
  | n + 4, h => exact absurd h (by omega)
theorem kw_155 : Cond.laysFinal "ModuleLoader$ModuleTable" "ModuleLoader$ModuleTable" "entries" "[LModuleLoader$LoadedModule;" ∈ xx_tb := xx_in (List.mem_append_right _ (List.mem_of_getElem? (i := 155) (by decide +kernel))) (by decide +kernel)
theorem kw_157 : Cond.lays "ModuleLoader$ModuleTable" "ModuleLoader$ModuleTable" "used" "I" ∈ xx_tb := xx_in (List.mem_append_right _ (List.mem_of_getElem? (i := 157) (by decide +kernel))) (by decide +kernel)
theorem ki_ModuleTable : ∀ w ∈ u_ws kr_ModuleTable kf_ModuleTable 2, w ∈ xx_tb := by
  intro w hw
  obtain ⟨k, hk, rfl⟩ := List.mem_map.mp hw
  have hk := List.mem_range.mp hk
  match k, hk with
  | 0, _ => exact kw_155
  | 1, _ => exact kw_157
  | n + 2, h => exact absurd h (by omega)
theorem kw_694 : Cond.laysFinal "ModuleLoader$LoadedModule" "ModuleLoader$LoadedModule" "name" "I" ∈ xx_tb := xx_in (List.mem_append_right _ (List.mem_of_getElem? (i := 694) (by decide +kernel))) (by decide +kernel)
theorem kw_696 : Cond.laysFinal "ModuleLoader$LoadedModule" "ModuleLoader$LoadedModule" "address" "I" ∈ xx_tb := xx_in (List.mem_append_right _ (List.mem_of_getElem? (i := 696) (by decide +kernel))) (by decide +kernel)
theorem kw_698 : Cond.laysFinal "ModuleLoader$LoadedModule" "ModuleLoader$LoadedModule" "size" "I" ∈ xx_tb := xx_in (List.mem_append_right _ (List.mem_of_getElem? (i := 698) (by decide +kernel))) (by decide +kernel)
theorem kw_700 : Cond.laysFinal "ModuleLoader$LoadedModule" "ModuleLoader$LoadedModule" "exports" "I" ∈ xx_tb := xx_in (List.mem_append_right _ (List.mem_of_getElem? (i := 700) (by decide +kernel))) (by decide +kernel)
theorem kw_702 : Cond.laysFinal "ModuleLoader$LoadedModule" "ModuleLoader$LoadedModule" "exit" "I" ∈ xx_tb := xx_in (List.mem_append_right _ (List.mem_of_getElem? (i := 702) (by decide +kernel))) (by decide +kernel)
theorem kw_704 : Cond.laysFinal "ModuleLoader$LoadedModule" "ModuleLoader$LoadedModule" "guarded" "I" ∈ xx_tb := xx_in (List.mem_append_right _ (List.mem_of_getElem? (i := 704) (by decide +kernel))) (by decide +kernel)
theorem kw_706 : Cond.laysFinal "ModuleLoader$LoadedModule" "ModuleLoader$LoadedModule" "firstRow" "I" ∈ xx_tb := xx_in (List.mem_append_right _ (List.mem_of_getElem? (i := 706) (by decide +kernel))) (by decide +kernel)
theorem kw_708 : Cond.laysFinal "ModuleLoader$LoadedModule" "ModuleLoader$LoadedModule" "rowBehind" "I" ∈ xx_tb := xx_in (List.mem_append_right _ (List.mem_of_getElem? (i := 708) (by decide +kernel))) (by decide +kernel)
theorem kw_710 : Cond.laysFinal "ModuleLoader$LoadedModule" "ModuleLoader$LoadedModule" "needed" "[LModuleLoader$LoadedModule;" ∈ xx_tb := xx_in (List.mem_append_right _ (List.mem_of_getElem? (i := 710) (by decide +kernel))) (by decide +kernel)
theorem kw_712 : Cond.lays "ModuleLoader$LoadedModule" "ModuleLoader$LoadedModule" "neededUsed" "I" ∈ xx_tb := xx_in (List.mem_append_right _ (List.mem_of_getElem? (i := 712) (by decide +kernel))) (by decide +kernel)
theorem ki_LoadedModule : ∀ w ∈ u_ws kr_LoadedModule kf_LoadedModule 10, w ∈ xx_tb := by
  intro w hw
  obtain ⟨k, hk, rfl⟩ := List.mem_map.mp hw
  have hk := List.mem_range.mp hk
  match k, hk with
  | 0, _ => exact kw_694
  | 1, _ => exact kw_696
  | 2, _ => exact kw_698
  | 3, _ => exact kw_700
  | 4, _ => exact kw_702
  | 5, _ => exact kw_704
  | 6, _ => exact kw_706
  | 7, _ => exact kw_708
  | 8, _ => exact kw_710
  | 9, _ => exact kw_712
  | n + 10, h => exact absurd h (by omega)
theorem kw_176 : Cond.lays "ModuleLoader$Report" "ModuleLoader$Report" "number" "I" ∈ xx_tb := xx_in (List.mem_append_right _ (List.mem_of_getElem? (i := 176) (by decide +kernel))) (by decide +kernel)
theorem kw_178 : Cond.lays "ModuleLoader$Report" "ModuleLoader$Report" "which" "I" ∈ xx_tb := xx_in (List.mem_append_right _ (List.mem_of_getElem? (i := 178) (by decide +kernel))) (by decide +kernel)
theorem kw_180 : Cond.lays "ModuleLoader$Report" "ModuleLoader$Report" "trap" "I" ∈ xx_tb := xx_in (List.mem_append_right _ (List.mem_of_getElem? (i := 180) (by decide +kernel))) (by decide +kernel)
theorem kw_182 : Cond.lays "ModuleLoader$Report" "ModuleLoader$Report" "steps" "I" ∈ xx_tb := xx_in (List.mem_append_right _ (List.mem_of_getElem? (i := 182) (by decide +kernel))) (by decide +kernel)
theorem kw_184 : Cond.lays "ModuleLoader$Report" "ModuleLoader$Report" "answer" "I" ∈ xx_tb := xx_in (List.mem_append_right _ (List.mem_of_getElem? (i := 184) (by decide +kernel))) (by decide +kernel)
theorem ki_Report : ∀ w ∈ u_ws kr_Report kf_Report 5, w ∈ xx_tb := by
  intro w hw
  obtain ⟨k, hk, rfl⟩ := List.mem_map.mp hw
  have hk := List.mem_range.mp hk
  match k, hk with
  | 0, _ => exact kw_176
  | 1, _ => exact kw_178
  | 2, _ => exact kw_180
  | 3, _ => exact kw_182
  | 4, _ => exact kw_184
  | n + 5, h => exact absurd h (by omega)
def kr_Mender : String := "ModuleLoader$Mender"
abbrev kb_Loader_init : ByteArray := prog_1_method_1_code
def ky_Loader_init : MethodName := ⟨kr_Loader, "<init>", "()V"⟩
abbrev kb_Loader_poke : ByteArray := prog_1_method_2_code
def ky_Loader_poke : MethodName := ⟨kr_Loader, "poke", "(II)V"⟩
abbrev kb_Loader_seal : ByteArray := prog_1_method_3_code
def ky_Loader_seal : MethodName := ⟨kr_Loader, "seal", "()Z"⟩
abbrev kb_Loader_symbol : ByteArray := prog_1_method_4_code
def ky_Loader_symbol : MethodName := ⟨kr_Loader, "symbol", "(III)V"⟩
abbrev kb_Loader_feed : ByteArray := prog_1_method_5_code
def ky_Loader_feed : MethodName := ⟨kr_Loader, "feed", "(I)I"⟩
abbrev kb_Loader_feedByte : ByteArray := prog_1_method_6_code
def ky_Loader_feedByte : MethodName := ⟨kr_Loader, "feedByte", "(I)I"⟩
abbrev kb_Loader_load : ByteArray := prog_1_method_7_code
def ky_Loader_load : MethodName := ⟨kr_Loader, "load", "(II)I"⟩
abbrev kb_Loader_fault : ByteArray := prog_1_method_8_code
def ky_Loader_fault : MethodName := ⟨kr_Loader, "fault", "(I)I"⟩
abbrev kb_Loader_unload : ByteArray := prog_1_method_9_code
def ky_Loader_unload : MethodName := ⟨kr_Loader, "unload", "(II)V"⟩
abbrev kb_Loader_call : ByteArray := prog_1_method_10_code
def ky_Loader_call : MethodName := ⟨kr_Loader, "call", "(IIII)I"⟩
abbrev kb_Loader_peek : ByteArray := prog_1_method_11_code
def ky_Loader_peek : MethodName := ⟨kr_Loader, "peek", "(I)I"⟩
abbrev kb_Loader_isProtected : ByteArray := prog_1_method_12_code
def ky_Loader_isProtected : MethodName := ⟨kr_Loader, "isProtected", "(I)Z"⟩
abbrev kb_Loader_register : ByteArray := prog_1_method_13_code
def ky_Loader_register : MethodName := ⟨kr_Loader, "register", "(I)I"⟩
abbrev kb_Loader_lookup : ByteArray := prog_1_method_14_code
def ky_Loader_lookup : MethodName := ⟨kr_Loader, "lookup", "(II)I"⟩
abbrev kb_Loader_module : ByteArray := prog_1_method_15_code
def ky_Loader_module : MethodName := ⟨kr_Loader, "module", "(II)I"⟩
abbrev kb_Loader_count : ByteArray := prog_1_method_16_code
def ky_Loader_count : MethodName := ⟨kr_Loader, "count", "(I)I"⟩
abbrev kb_Loader_at : ByteArray := prog_1_method_17_code
def ky_Loader_at : MethodName := ⟨kr_Loader, "at", "(I)I"⟩
abbrev kb_Loader_isName : ByteArray := prog_1_method_18_code
def ky_Loader_isName : MethodName := ⟨kr_Loader, "isName", "(I)Z"⟩
abbrev kb_Loader_isFuel : ByteArray := prog_1_method_19_code
def ky_Loader_isFuel : MethodName := ⟨kr_Loader, "isFuel", "(I)Z"⟩
abbrev kb_Loader_isWordBelow : ByteArray := prog_1_method_20_code
def ky_Loader_isWordBelow : MethodName := ⟨kr_Loader, "isWordBelow", "(II)Z"⟩
abbrev kb_Loader_bringIn : ByteArray := prog_1_method_21_code
def ky_Loader_bringIn : MethodName := ⟨kr_Loader, "bringIn", "(I)LModuleLoader$LoadedModule;"⟩
abbrev kb_Loader_checkNames : ByteArray := prog_1_method_22_code
def ky_Loader_checkNames : MethodName := ⟨kr_Loader, "checkNames", "(I)V"⟩
abbrev kb_Loader_checkImports : ByteArray := prog_1_method_23_code
def ky_Loader_checkImports : MethodName := ⟨kr_Loader, "checkImports", "()V"⟩
abbrev kb_Loader_checkExports : ByteArray := prog_1_method_24_code
def ky_Loader_checkExports : MethodName := ⟨kr_Loader, "checkExports", "()V"⟩
abbrev kb_Loader_findRoom : ByteArray := prog_1_method_25_code
def ky_Loader_findRoom : MethodName := ⟨kr_Loader, "findRoom", "()I"⟩
abbrev kb_Loader_valueOf : ByteArray := prog_1_method_26_code
def ky_Loader_valueOf : MethodName := ⟨kr_Loader, "valueOf", "(II)I"⟩
abbrev kb_Loader_distanceOf : ByteArray := prog_1_method_27_code
def ky_Loader_distanceOf : MethodName := ⟨kr_Loader, "distanceOf", "(II)I"⟩
abbrev kb_Loader_enter : ByteArray := prog_1_method_28_code
def ky_Loader_enter : MethodName := ⟨kr_Loader, "enter", "(II)LModuleLoader$LoadedModule;"⟩
abbrev kb_Loader_writeImage : ByteArray := prog_1_method_29_code
def ky_Loader_writeImage : MethodName := ⟨kr_Loader, "writeImage", "(I)V"⟩
abbrev kb_Loader_judgeInit : ByteArray := prog_1_method_30_code
def ky_Loader_judgeInit : MethodName := ⟨kr_Loader, "judgeInit", "(LModuleLoader$LoadedModule;)V"⟩
abbrev kb_Loader_takeOut : ByteArray := prog_1_method_31_code
def ky_Loader_takeOut : MethodName := ⟨kr_Loader, "takeOut", "(LModuleLoader$LoadedModule;)V"⟩
abbrev kb_Loader_execute : ByteArray := prog_1_method_32_code
def ky_Loader_execute : MethodName := ⟨kr_Loader, "execute", "(IIII)V"⟩
abbrev kb_Model_init : ByteArray := prog_13_method_1_code
def ky_Model_init : MethodName := ⟨kr_Model, "<init>", "()V"⟩
abbrev kb_Model_thrown : ByteArray := prog_13_method_2_code
def ky_Model_thrown : MethodName := ⟨kr_Model, "thrown", "()I"⟩
abbrev kb_Model_byteAt : ByteArray := prog_13_method_3_code
def ky_Model_byteAt : MethodName := ⟨kr_Model, "byteAt", "(I)I"⟩
abbrev kb_Model_wordAt : ByteArray := prog_13_method_4_code
def ky_Model_wordAt : MethodName := ⟨kr_Model, "wordAt", "(I)I"⟩
abbrev kb_Model_put : ByteArray := prog_13_method_5_code
def ky_Model_put : MethodName := ⟨kr_Model, "put", "(III)V"⟩
abbrev kb_Model_guarded : ByteArray := prog_13_method_6_code
def ky_Model_guarded : MethodName := ⟨kr_Model, "guarded", "(I)Z"⟩
abbrev kb_Model_isProtected : ByteArray := prog_13_method_7_code
def ky_Model_isProtected : MethodName := ⟨kr_Model, "isProtected", "(I)Z"⟩
abbrev kb_Model_isWord : ByteArray := prog_13_method_8_code
def ky_Model_isWord : MethodName := ⟨kr_Model, "isWord", "(II)Z"⟩
abbrev kb_Model_poke : ByteArray := prog_13_method_9_code
def ky_Model_poke : MethodName := ⟨kr_Model, "poke", "(II)V"⟩
abbrev kb_Model_peek : ByteArray := prog_13_method_10_code
def ky_Model_peek : MethodName := ⟨kr_Model, "peek", "(I)I"⟩
abbrev kb_Model_seal : ByteArray := prog_13_method_11_code
def ky_Model_seal : MethodName := ⟨kr_Model, "seal", "()Z"⟩
abbrev kb_Model_isName : ByteArray := prog_13_method_12_code
def ky_Model_isName : MethodName := ⟨kr_Model, "isName", "(I)Z"⟩
abbrev kb_Model_find : ByteArray := prog_13_method_13_code
def ky_Model_find : MethodName := ⟨kr_Model, "find", "(I)I"⟩
abbrev kb_Model_numberOf : ByteArray := prog_13_method_14_code
def ky_Model_numberOf : MethodName := ⟨kr_Model, "numberOf", "(I)I"⟩
abbrev kb_Model_addSymbol : ByteArray := prog_13_method_15_code
def ky_Model_addSymbol : MethodName := ⟨kr_Model, "addSymbol", "(IIII)V"⟩
abbrev kb_Model_symbol : ByteArray := prog_13_method_16_code
def ky_Model_symbol : MethodName := ⟨kr_Model, "symbol", "(III)V"⟩
abbrev kb_Model_remove : ByteArray := prog_13_method_17_code
def ky_Model_remove : MethodName := ⟨kr_Model, "remove", "(I)V"⟩
abbrev kb_Model_feed : ByteArray := prog_13_method_18_code
def ky_Model_feed : MethodName := ⟨kr_Model, "feed", "(I)I"⟩
abbrev kb_Model_feedByte : ByteArray := prog_13_method_19_code
def ky_Model_feedByte : MethodName := ⟨kr_Model, "feedByte", "(I)I"⟩
abbrev kb_Model_tapeWord : ByteArray := prog_13_method_20_code
def ky_Model_tapeWord : MethodName := ⟨kr_Model, "tapeWord", "(I)I"⟩
abbrev kb_Model_isOffset : ByteArray := prog_13_method_21_code
def ky_Model_isOffset : MethodName := ⟨kr_Model, "isOffset", "(II)Z"⟩
abbrev kb_Model_importAt : ByteArray := prog_13_method_22_code
def ky_Model_importAt : MethodName := ⟨kr_Model, "importAt", "(I)I"⟩
abbrev kb_Model_exportAt : ByteArray := prog_13_method_23_code
def ky_Model_exportAt : MethodName := ⟨kr_Model, "exportAt", "(I)I"⟩
abbrev kb_Model_placeAt : ByteArray := prog_13_method_24_code
def ky_Model_placeAt : MethodName := ⟨kr_Model, "placeAt", "(I)I"⟩
abbrev kb_Model_isFile : ByteArray := prog_13_method_25_code
def ky_Model_isFile : MethodName := ⟨kr_Model, "isFile", "(I)Z"⟩
abbrev kb_Model_isRowFree : ByteArray := prog_13_method_26_code
def ky_Model_isRowFree : MethodName := ⟨kr_Model, "isRowFree", "(I)Z"⟩
abbrev kb_Model_room : ByteArray := prog_13_method_27_code
def ky_Model_room : MethodName := ⟨kr_Model, "room", "(I)I"⟩
abbrev kb_Model_wrong : ByteArray := prog_13_method_28_code
def ky_Model_wrong : MethodName := ⟨kr_Model, "wrong", "(II)Z"⟩
abbrev kb_Model_importsWrong : ByteArray := prog_13_method_29_code
def ky_Model_importsWrong : MethodName := ⟨kr_Model, "importsWrong", "()Z"⟩
abbrev kb_Model_exportsWrong : ByteArray := prog_13_method_30_code
def ky_Model_exportsWrong : MethodName := ⟨kr_Model, "exportsWrong", "()Z"⟩
abbrev kb_Model_mend : ByteArray := prog_13_method_31_code
def ky_Model_mend : MethodName := ⟨kr_Model, "mend", "(II)Z"⟩
abbrev kb_Model_fresh : ByteArray := prog_13_method_32_code
def ky_Model_fresh : MethodName := ⟨kr_Model, "fresh", "()V"⟩
abbrev kb_Model_load : ByteArray := prog_13_method_33_code
def ky_Model_load : MethodName := ⟨kr_Model, "load", "(II)I"⟩
abbrev kb_Model_bring : ByteArray := prog_13_method_34_code
def ky_Model_bring : MethodName := ⟨kr_Model, "bring", "(IIII)V"⟩
abbrev kb_Model_isNeeded : ByteArray := prog_13_method_35_code
def ky_Model_isNeeded : MethodName := ⟨kr_Model, "isNeeded", "(I)Z"⟩
abbrev kb_Model_unload : ByteArray := prog_13_method_36_code
def ky_Model_unload : MethodName := ⟨kr_Model, "unload", "(II)V"⟩
abbrev kb_Model_call : ByteArray := prog_13_method_37_code
def ky_Model_call : MethodName := ⟨kr_Model, "call", "(IIII)I"⟩
abbrev kb_Model_fault : ByteArray := prog_13_method_38_code
def ky_Model_fault : MethodName := ⟨kr_Model, "fault", "(I)I"⟩
abbrev kb_Model_runs : ByteArray := prog_13_method_39_code
def ky_Model_runs : MethodName := ⟨kr_Model, "runs", "(IIII)Z"⟩
abbrev kb_Model_bits : ByteArray := prog_13_method_40_code
def ky_Model_bits : MethodName := ⟨kr_Model, "bits", "(III)I"⟩
abbrev kb_Model_step : ByteArray := prog_13_method_41_code
def ky_Model_step : MethodName := ⟨kr_Model, "step", "()I"⟩
abbrev kb_Model_isBelow : ByteArray := prog_13_method_42_code
def ky_Model_isBelow : MethodName := ⟨kr_Model, "isBelow", "(II)Z"⟩
abbrev kb_Model_isSo : ByteArray := prog_13_method_43_code
def ky_Model_isSo : MethodName := ⟨kr_Model, "isSo", "(III)Z"⟩
abbrev kb_Model_reckon : ByteArray := prog_13_method_44_code
def ky_Model_reckon : MethodName := ⟨kr_Model, "reckon", "(IIIZ)I"⟩
abbrev kb_Model_access : ByteArray := prog_13_method_45_code
def ky_Model_access : MethodName := ⟨kr_Model, "access", "(II)I"⟩
abbrev kb_Model_fetch : ByteArray := prog_13_method_46_code
def ky_Model_fetch : MethodName := ⟨kr_Model, "fetch", "(III)I"⟩
abbrev kb_Model_store : ByteArray := prog_13_method_47_code
def ky_Model_store : MethodName := ⟨kr_Model, "store", "(III)I"⟩
abbrev kb_Model_register : ByteArray := prog_13_method_48_code
def ky_Model_register : MethodName := ⟨kr_Model, "register", "(I)I"⟩
abbrev kb_Model_lookup : ByteArray := prog_13_method_49_code
def ky_Model_lookup : MethodName := ⟨kr_Model, "lookup", "(II)I"⟩
abbrev kb_Model_module : ByteArray := prog_13_method_50_code
def ky_Model_module : MethodName := ⟨kr_Model, "module", "(II)I"⟩
abbrev kb_Model_count : ByteArray := prog_13_method_51_code
def ky_Model_count : MethodName := ⟨kr_Model, "count", "(I)I"⟩
abbrev kb_Model_at : ByteArray := prog_13_method_52_code
def ky_Model_at : MethodName := ⟨kr_Model, "at", "(I)I"⟩
abbrev kb_LoadedModule_init : ByteArray := prog_2_method_1_code
def ky_LoadedModule_init : MethodName := ⟨kr_LoadedModule, "<init>", "(IILModuleLoader$ModuleFile;)V"⟩
abbrev kb_LoadedModule_neededCount : ByteArray := prog_2_method_2_code
def ky_LoadedModule_neededCount : MethodName := ⟨kr_LoadedModule, "neededCount", "()I"⟩
abbrev kb_LoadedModule_needs : ByteArray := prog_2_method_3_code
def ky_LoadedModule_needs : MethodName := ⟨kr_LoadedModule, "needs", "(LModuleLoader$LoadedModule;)Z"⟩
abbrev kb_LoadedModule_need : ByteArray := prog_2_method_4_code
def ky_LoadedModule_need : MethodName := ⟨kr_LoadedModule, "need", "(LModuleLoader$LoadedModule;)V"⟩
abbrev kb_Machine_init : ByteArray := prog_3_method_1_code
def ky_Machine_init : MethodName := ⟨kr_Machine, "<init>", "(LModuleLoader$Memory;)V"⟩
abbrev kb_Machine_run : ByteArray := prog_3_method_2_code
def ky_Machine_run : MethodName := ⟨kr_Machine, "run", "(IIII)V"⟩
abbrev kb_Machine_hasReturned : ByteArray := prog_3_method_3_code
def ky_Machine_hasReturned : MethodName := ⟨kr_Machine, "hasReturned", "()Z"⟩
abbrev kb_Machine_registerAfterRun : ByteArray := prog_3_method_4_code
def ky_Machine_registerAfterRun : MethodName := ⟨kr_Machine, "registerAfterRun", "(I)I"⟩
abbrev kb_Machine_step : ByteArray := prog_3_method_5_code
def ky_Machine_step : MethodName := ⟨kr_Machine, "step", "()I"⟩
abbrev kb_Machine_finish : ByteArray := prog_3_method_6_code
def ky_Machine_finish : MethodName := ⟨kr_Machine, "finish", "(III)I"⟩
abbrev kb_Machine_firstOf : ByteArray := prog_3_method_7_code
def ky_Machine_firstOf : MethodName := ⟨kr_Machine, "firstOf", "(I)I"⟩
abbrev kb_Machine_secondOf : ByteArray := prog_3_method_8_code
def ky_Machine_secondOf : MethodName := ⟨kr_Machine, "secondOf", "(I)I"⟩
abbrev kb_Machine_kindOf : ByteArray := prog_3_method_9_code
def ky_Machine_kindOf : MethodName := ⟨kr_Machine, "kindOf", "(I)I"⟩
abbrev kb_Machine_jumpDistance : ByteArray := prog_3_method_10_code
def ky_Machine_jumpDistance : MethodName := ⟨kr_Machine, "jumpDistance", "(I)I"⟩
abbrev kb_Machine_branchDistance : ByteArray := prog_3_method_11_code
def ky_Machine_branchDistance : MethodName := ⟨kr_Machine, "branchDistance", "(I)I"⟩
abbrev kb_Machine_jumpToRegister : ByteArray := prog_3_method_12_code
def ky_Machine_jumpToRegister : MethodName := ⟨kr_Machine, "jumpToRegister", "(I)I"⟩
abbrev kb_Machine_branch : ByteArray := prog_3_method_13_code
def ky_Machine_branch : MethodName := ⟨kr_Machine, "branch", "(I)I"⟩
abbrev kb_Machine_compares : ByteArray := prog_3_method_14_code
def ky_Machine_compares : MethodName := ⟨kr_Machine, "compares", "(III)Z"⟩
abbrev kb_Machine_isBelow : ByteArray := prog_3_method_15_code
def ky_Machine_isBelow : MethodName := ⟨kr_Machine, "isBelow", "(II)Z"⟩
abbrev kb_Machine_trapOfAccess : ByteArray := prog_3_method_16_code
def ky_Machine_trapOfAccess : MethodName := ⟨kr_Machine, "trapOfAccess", "(II)I"⟩
abbrev kb_Machine_readMemory : ByteArray := prog_3_method_17_code
def ky_Machine_readMemory : MethodName := ⟨kr_Machine, "readMemory", "(I)I"⟩
abbrev kb_Machine_writeMemory : ByteArray := prog_3_method_18_code
def ky_Machine_writeMemory : MethodName := ⟨kr_Machine, "writeMemory", "(I)I"⟩
abbrev kb_Machine_computeWithImmediate : ByteArray := prog_3_method_19_code
def ky_Machine_computeWithImmediate : MethodName := ⟨kr_Machine, "computeWithImmediate", "(I)I"⟩
abbrev kb_Machine_computeWithRegister : ByteArray := prog_3_method_20_code
def ky_Machine_computeWithRegister : MethodName := ⟨kr_Machine, "computeWithRegister", "(I)I"⟩
abbrev kb_Machine_computed : ByteArray := prog_3_method_21_code
def ky_Machine_computed : MethodName := ⟨kr_Machine, "computed", "(IZII)I"⟩
abbrev kb_Memory_init : ByteArray := prog_4_method_1_code
def ky_Memory_init : MethodName := ⟨kr_Memory, "<init>", "()V"⟩
abbrev kb_Memory_holds : ByteArray := prog_4_method_2_code
def ky_Memory_holds : MethodName := ⟨kr_Memory, "holds", "(I)Z"⟩
abbrev kb_Memory_wordAt : ByteArray := prog_4_method_3_code
def ky_Memory_wordAt : MethodName := ⟨kr_Memory, "wordAt", "(I)I"⟩
abbrev kb_Memory_putWord : ByteArray := prog_4_method_4_code
def ky_Memory_putWord : MethodName := ⟨kr_Memory, "putWord", "(II)V"⟩
abbrev kb_Memory_partAt : ByteArray := prog_4_method_5_code
def ky_Memory_partAt : MethodName := ⟨kr_Memory, "partAt", "(II)I"⟩
abbrev kb_Memory_putPart : ByteArray := prog_4_method_6_code
def ky_Memory_putPart : MethodName := ⟨kr_Memory, "putPart", "(III)V"⟩
abbrev kb_Memory_isGuarded : ByteArray := prog_4_method_7_code
def ky_Memory_isGuarded : MethodName := ⟨kr_Memory, "isGuarded", "(I)Z"⟩
abbrev kb_Memory_guard : ByteArray := prog_4_method_8_code
def ky_Memory_guard : MethodName := ⟨kr_Memory, "guard", "(IIZ)V"⟩
abbrev kb_Memory_shiftOf : ByteArray := prog_4_method_9_code
def ky_Memory_shiftOf : MethodName := ⟨kr_Memory, "shiftOf", "(I)I"⟩
abbrev kb_Memory_maskOf : ByteArray := prog_4_method_10_code
def ky_Memory_maskOf : MethodName := ⟨kr_Memory, "maskOf", "(I)I"⟩
abbrev kb_Mender_isDistance : ByteArray := prog_5_method_2_code
def ky_Mender_isDistance : MethodName := ⟨kr_Mender, "isDistance", "(I)Z"⟩
abbrev kb_Mender_reaches : ByteArray := prog_5_method_3_code
def ky_Mender_reaches : MethodName := ⟨kr_Mender, "reaches", "(II)Z"⟩
abbrev kb_Mender_mended : ByteArray := prog_5_method_4_code
def ky_Mender_mended : MethodName := ⟨kr_Mender, "mended", "(III)I"⟩
abbrev kb_Mender_bits : ByteArray := prog_5_method_5_code
def ky_Mender_bits : MethodName := ⟨kr_Mender, "bits", "(III)I"⟩
abbrev kb_Mender_asInStore : ByteArray := prog_5_method_6_code
def ky_Mender_asInStore : MethodName := ⟨kr_Mender, "asInStore", "(I)I"⟩
abbrev kb_Mender_asInJump : ByteArray := prog_5_method_7_code
def ky_Mender_asInJump : MethodName := ⟨kr_Mender, "asInJump", "(I)I"⟩
abbrev kb_Mender_asInBranch : ByteArray := prog_5_method_8_code
def ky_Mender_asInBranch : MethodName := ⟨kr_Mender, "asInBranch", "(I)I"⟩
abbrev kb_ModuleFile_init : ByteArray := prog_6_method_1_code
def ky_ModuleFile_init : MethodName := ⟨kr_ModuleFile, "<init>", "(LModuleLoader$Tape;)V"⟩
abbrev kb_ModuleFile_read : ByteArray := prog_6_method_2_code
def ky_ModuleFile_read : MethodName := ⟨kr_ModuleFile, "read", "()Z"⟩
abbrev kb_ModuleFile_readHeader : ByteArray := prog_6_method_3_code
def ky_ModuleFile_readHeader : MethodName := ⟨kr_ModuleFile, "readHeader", "()V"⟩
abbrev kb_ModuleFile_headerHolds : ByteArray := prog_6_method_4_code
def ky_ModuleFile_headerHolds : MethodName := ⟨kr_ModuleFile, "headerHolds", "()Z"⟩
abbrev kb_ModuleFile_isUpTo : ByteArray := prog_6_method_5_code
def ky_ModuleFile_isUpTo : MethodName := ⟨kr_ModuleFile, "isUpTo", "(II)Z"⟩
abbrev kb_ModuleFile_isOffset : ByteArray := prog_6_method_6_code
def ky_ModuleFile_isOffset : MethodName := ⟨kr_ModuleFile, "isOffset", "(I)Z"⟩
abbrev kb_ModuleFile_importsHold : ByteArray := prog_6_method_7_code
def ky_ModuleFile_importsHold : MethodName := ⟨kr_ModuleFile, "importsHold", "()Z"⟩
abbrev kb_ModuleFile_exportsHold : ByteArray := prog_6_method_8_code
def ky_ModuleFile_exportsHold : MethodName := ⟨kr_ModuleFile, "exportsHold", "()Z"⟩
abbrev kb_ModuleFile_isExportedBefore : ByteArray := prog_6_method_9_code
def ky_ModuleFile_isExportedBefore : MethodName := ⟨kr_ModuleFile, "isExportedBefore", "(I)Z"⟩
abbrev kb_ModuleFile_placesHold : ByteArray := prog_6_method_10_code
def ky_ModuleFile_placesHold : MethodName := ⟨kr_ModuleFile, "placesHold", "()Z"⟩
abbrev kb_ModuleFile_imageWord : ByteArray := prog_6_method_11_code
def ky_ModuleFile_imageWord : MethodName := ⟨kr_ModuleFile, "imageWord", "(I)I"⟩
abbrev kb_ModuleFile_importName : ByteArray := prog_6_method_12_code
def ky_ModuleFile_importName : MethodName := ⟨kr_ModuleFile, "importName", "(I)I"⟩
abbrev kb_ModuleFile_importCheck : ByteArray := prog_6_method_13_code
def ky_ModuleFile_importCheck : MethodName := ⟨kr_ModuleFile, "importCheck", "(I)I"⟩
abbrev kb_ModuleFile_exportName : ByteArray := prog_6_method_14_code
def ky_ModuleFile_exportName : MethodName := ⟨kr_ModuleFile, "exportName", "(I)I"⟩
abbrev kb_ModuleFile_exportCheck : ByteArray := prog_6_method_15_code
def ky_ModuleFile_exportCheck : MethodName := ⟨kr_ModuleFile, "exportCheck", "(I)I"⟩
abbrev kb_ModuleFile_exportOffset : ByteArray := prog_6_method_16_code
def ky_ModuleFile_exportOffset : MethodName := ⟨kr_ModuleFile, "exportOffset", "(I)I"⟩
abbrev kb_ModuleFile_placeKind : ByteArray := prog_6_method_17_code
def ky_ModuleFile_placeKind : MethodName := ⟨kr_ModuleFile, "placeKind", "(I)I"⟩
abbrev kb_ModuleFile_placeOffset : ByteArray := prog_6_method_18_code
def ky_ModuleFile_placeOffset : MethodName := ⟨kr_ModuleFile, "placeOffset", "(I)I"⟩
abbrev kb_ModuleFile_placeSource : ByteArray := prog_6_method_19_code
def ky_ModuleFile_placeSource : MethodName := ⟨kr_ModuleFile, "placeSource", "(I)I"⟩
abbrev kb_ModuleFile_placeAddend : ByteArray := prog_6_method_20_code
def ky_ModuleFile_placeAddend : MethodName := ⟨kr_ModuleFile, "placeAddend", "(I)I"⟩
abbrev kb_ModuleTable_init : ByteArray := prog_7_method_1_code
def ky_ModuleTable_init : MethodName := ⟨kr_ModuleTable, "<init>", "()V"⟩
abbrev kb_ModuleTable_rowsFor : ByteArray := prog_7_method_2_code
def ky_ModuleTable_rowsFor : MethodName := ⟨kr_ModuleTable, "rowsFor", "(I)I"⟩
abbrev kb_ModuleTable_size : ByteArray := prog_7_method_3_code
def ky_ModuleTable_size : MethodName := ⟨kr_ModuleTable, "size", "()I"⟩
abbrev kb_ModuleTable_isFull : ByteArray := prog_7_method_4_code
def ky_ModuleTable_isFull : MethodName := ⟨kr_ModuleTable, "isFull", "()Z"⟩
abbrev kb_ModuleTable_get : ByteArray := prog_7_method_5_code
def ky_ModuleTable_get : MethodName := ⟨kr_ModuleTable, "get", "(I)LModuleLoader$LoadedModule;"⟩
abbrev kb_ModuleTable_find : ByteArray := prog_7_method_6_code
def ky_ModuleTable_find : MethodName := ⟨kr_ModuleTable, "find", "(I)LModuleLoader$LoadedModule;"⟩
abbrev kb_ModuleTable_howManyNeed : ByteArray := prog_7_method_7_code
def ky_ModuleTable_howManyNeed : MethodName := ⟨kr_ModuleTable, "howManyNeed", "(LModuleLoader$LoadedModule;)I"⟩
abbrev kb_ModuleTable_insert : ByteArray := prog_7_method_8_code
def ky_ModuleTable_insert : MethodName := ⟨kr_ModuleTable, "insert", "(LModuleLoader$LoadedModule;)V"⟩
abbrev kb_ModuleTable_remove : ByteArray := prog_7_method_9_code
def ky_ModuleTable_remove : MethodName := ⟨kr_ModuleTable, "remove", "(LModuleLoader$LoadedModule;)V"⟩
abbrev kb_ModuleTable_gapStart : ByteArray := prog_7_method_10_code
def ky_ModuleTable_gapStart : MethodName := ⟨kr_ModuleTable, "gapStart", "(I)I"⟩
abbrev kb_ModuleTable_gapRows : ByteArray := prog_7_method_11_code
def ky_ModuleTable_gapRows : MethodName := ⟨kr_ModuleTable, "gapRows", "(I)I"⟩
abbrev kb_ModuleTable_firstFit : ByteArray := prog_7_method_12_code
def ky_ModuleTable_firstFit : MethodName := ⟨kr_ModuleTable, "firstFit", "(I)I"⟩
abbrev kb_ModuleTable_freeRows : ByteArray := prog_7_method_13_code
def ky_ModuleTable_freeRows : MethodName := ⟨kr_ModuleTable, "freeRows", "()I"⟩
abbrev kb_ModuleTable_longestGap : ByteArray := prog_7_method_14_code
def ky_ModuleTable_longestGap : MethodName := ⟨kr_ModuleTable, "longestGap", "()I"⟩
abbrev kb_Report_init : ByteArray := prog_8_method_1_code
def ky_Report_init : MethodName := ⟨kr_Report, "<init>", "()V"⟩
abbrev kb_Report_clear : ByteArray := prog_8_method_2_code
def ky_Report_clear : MethodName := ⟨kr_Report, "clear", "()V"⟩
abbrev kb_Report_blame : ByteArray := prog_8_method_3_code
def ky_Report_blame : MethodName := ⟨kr_Report, "blame", "(II)V"⟩
abbrev kb_Report_hasFault : ByteArray := prog_8_method_4_code
def ky_Report_hasFault : MethodName := ⟨kr_Report, "hasFault", "()Z"⟩
abbrev kb_Symbol_init : ByteArray := prog_9_method_1_code
def ky_Symbol_init : MethodName := ⟨kr_Symbol, "<init>", "(IIILModuleLoader$LoadedModule;)V"⟩
abbrev kb_SymbolTable_init : ByteArray := prog_10_method_1_code
def ky_SymbolTable_init : MethodName := ⟨kr_SymbolTable, "<init>", "()V"⟩
abbrev kb_SymbolTable_size : ByteArray := prog_10_method_2_code
def ky_SymbolTable_size : MethodName := ⟨kr_SymbolTable, "size", "()I"⟩
abbrev kb_SymbolTable_unused : ByteArray := prog_10_method_3_code
def ky_SymbolTable_unused : MethodName := ⟨kr_SymbolTable, "unused", "()I"⟩
abbrev kb_SymbolTable_find : ByteArray := prog_10_method_4_code
def ky_SymbolTable_find : MethodName := ⟨kr_SymbolTable, "find", "(I)LModuleLoader$Symbol;"⟩
abbrev kb_SymbolTable_add : ByteArray := prog_10_method_5_code
def ky_SymbolTable_add : MethodName := ⟨kr_SymbolTable, "add", "(LModuleLoader$Symbol;)V"⟩
abbrev kb_SymbolTable_removeOf : ByteArray := prog_10_method_6_code
def ky_SymbolTable_removeOf : MethodName := ⟨kr_SymbolTable, "removeOf", "(LModuleLoader$LoadedModule;)V"⟩
abbrev kb_Tape_init : ByteArray := prog_11_method_1_code
def ky_Tape_init : MethodName := ⟨kr_Tape, "<init>", "()V"⟩
abbrev kb_Tape_length : ByteArray := prog_11_method_2_code
def ky_Tape_length : MethodName := ⟨kr_Tape, "length", "()I"⟩
abbrev kb_Tape_clear : ByteArray := prog_11_method_3_code
def ky_Tape_clear : MethodName := ⟨kr_Tape, "clear", "()V"⟩
abbrev kb_Tape_append : ByteArray := prog_11_method_4_code
def ky_Tape_append : MethodName := ⟨kr_Tape, "append", "(II)Z"⟩
abbrev kb_Tape_appendByte : ByteArray := prog_11_method_5_code
def ky_Tape_appendByte : MethodName := ⟨kr_Tape, "appendByte", "(I)V"⟩
abbrev kb_Tape_wordAt : ByteArray := prog_11_method_6_code
def ky_Tape_wordAt : MethodName := ⟨kr_Tape, "wordAt", "(I)I"⟩
end
section
/-- a name for a value; a step that may fail -/
def xx_nm {α β : Type} (x : α) (f : α → Option β) : Option β := f x
theorem xx_nm_some {α β : Type} {x : α} {f : α → Option β} {r : β} (h : xx_nm x f = some r) : ∃ y, y = x ∧ f y = some r := ⟨x, rfl, h⟩
theorem xx_ob {α β : Type} {x : Option α} {f : α → Option β} {r : β} (h : x.bind f = some r) : ∃ a, x = some a ∧ f a = some r := by
  cases x with
  | none => cases h
  | some a => exact ⟨a, rfl, h⟩
def xx_ag {α : Type} (f : Nat → α) (n : Nat) (i : Int32) : Option α := if i < 0 ∨ n ≤ i.toNatClampNeg then none else some (f i.toNatClampNeg)
theorem xx_ag_some {α : Type} {f : Nat → α} {n : Nat} {i : Int32} {v : α} (h : xx_ag f n i = some v) : vp_in i n ∧ f i.toNatClampNeg = v := by
  unfold xx_ag at h
  split at h
  · cases h
  · rename_i q
    exact ⟨q, Option.some.inj h⟩
def xx_as {α : Type} (f : Nat → α) (n : Nat) (i : Int32) (v : α) : Option (Nat → α) := if i < 0 ∨ n ≤ i.toNatClampNeg then none else some (va_up f i.toNatClampNeg v)
theorem xx_as_some {α : Type} {f f1 : Nat → α} {n : Nat} {i : Int32} {v : α} (h : xx_as f n i v = some f1) : vp_in i n ∧ f1 = va_up f i.toNatClampNeg v := by
  unfold xx_as at h
  split at h
  · cases h
  · rename_i q
    exact ⟨q, (Option.some.inj h).symm⟩
def xx_b2 {α β γ : Type} (o : Option (α × β)) (f : α → β → Option γ) : Option γ := match o with
  | none => none
  | some q => f q.1 q.2
theorem xx_b2_some {α β γ : Type} {o : Option (α × β)} {f : α → β → Option γ} {r : γ} (h : xx_b2 o f = some r) : ∃ a b, o = some (a, b) ∧ f a b = some r := by
  cases o with
  | none => cases h
  | some q => exact ⟨q.1, q.2, rfl, h⟩
def xx_ush (x y : Int32) : Int32 := (x.toUInt32 >>> (y.toUInt32 &&& Int32.toUInt32 31)).toInt32
theorem xx_ush_eq (x y : Int32) : (x.toUInt32 >>> (y.toUInt32 &&& Int32.toUInt32 31)).toInt32 = xx_ush x y := rfl
def xx_nz {β : Type} (y : Int32) (f : Option β) : Option β := if y = 0 then none else f
theorem xx_nz_some {β : Type} {y : Int32} {f : Option β} {r : β} (h : xx_nz y f = some r) : ¬ y = 0 ∧ f = some r := by
  unfold xx_nz at h
  split at h
  · cases h
  · rename_i q
    exact ⟨q, h⟩
theorem xx_ip {β : Type} {c : Prop} [Decidable c] {a b : Option β} {r : β} (hc : c) (h : (if c then a else b) = some r) : a = some r := by rwa [if_pos hc] at h
theorem xx_in' {β : Type} {c : Prop} [Decidable c] {a b : Option β} {r : β} (hc : ¬ c) (h : (if c then a else b) = some r) : b = some r := by rwa [if_neg hc] at h
def xx_rm (d n : Nat) : Room := { frames := d, cells := 0, slots := 0, locals := n }
def xx_rmc (d n mc ms : Nat) : Room := { frames := d, cells := mc, slots := ms, locals := n }
/-- what holds through a method's body -/
def xx_C (p : Program) (s : State) (m : MethodId) (args : Array Value) (meth : Method) (c : Code) (cc : ByteArray) (nL : Nat) (own : String) (rt : Option FieldType) : Prop :=
  p.tables.exec = Jvm.exec ∧ c.code = cc ∧ c.maxLocals = nL ∧ s.vm.findClass own = some m.cls ∧ (∀ w ∈ xx_tb, w.before args s = true) ∧ meth.sig.returnType = rt ∧ meth.locks = false
/-- the world behind (or ahead of) a method -/
def xx_B {S1 : Type} (D : va_G) (tys : List (ClassId × FieldType)) (Wd : S1 → va_W) (A : Nat → Prop) (u : S1) (t : State) : Prop :=
  va_P D xx_cls (Wd u) t.heap ∧ va_K D xx_cls tys t ∧ va_D A (Wd u)
def xx_Pc {S1 : Type} (D : va_G) (tys : List (ClassId × FieldType)) (Wd : S1 → va_W) (vs : List Value) (u : S1) (sz : Nat) : Array Value → State → Prop :=
  va_Pc vs (fun U => U.heap.size = sz ∧ xx_B D tys Wd (fun _ => True) u U)
def xx_Q {S1 : Type} (D : va_G) (tys : List (ClassId × FieldType)) (Wd : S1 → va_W) (rv : Option Value) (u1 : S1) (A : Nat → Prop) : Array Value → State → Outcome → State → Prop :=
  fun _ st oc t => (oc = .returned rv ∧ xx_B D tys Wd A u1 t) ∧ va_F A st t
/-- the contract: from the picture u, with these arguments, the method answers rv and leaves the picture u1; no other old cell changes -/
def xx_M {S1 : Type} (l : Launch) (D : va_G) (tys : List (ClassId × FieldType)) (Wd : S1 → va_W) (y : MethodName) (b : ByteArray) (nL : Nat) (rt : Option FieldType) (rm : Room) (vs : List Value) (u : S1) (rv : Option Value) (u1 : S1) : Prop :=
  ∀ sz : Nat, Met l y (Cond.code y b nL rt :: xx_tb) rm (xx_Pc D tys Wd vs u sz) (xx_Q D tys Wd rv u1 (va_A (Wd u) sz)) rm.cells rm.slots (va_A (Wd u) sz)
theorem xx_blind {S1 : Type} {D : va_G} {tys : List (ClassId × FieldType)} {Wd : S1 → va_W} {vs : List Value} {u : S1} {sz : Nat} : FrameBlind (xx_Pc D tys Wd vs u sz) := by
  intro a U g mk h
  obtain ⟨q0, q1, qP, qK, qD⟩ := h
  exact ⟨q0, q1, qP, va_K.moved (u := U) (U := U.calling g mk a) (Vm.Alike.refl U.vm) qK, qD⟩
section XR
variable {p : Program} {l : Launch} {e : Env} {R : Room} {s : State} {m : MethodId} {args : Array Value} {below : List Frame} {meth : Method} {c : Code} {H : Heap} {locs : List Loc} {cells slots : Nat} {Q : State → Prop}
variable {cc : ByteArray} {nL pc index : Nat} {own : String} {rt : Option FieldType} {ls : Array Slot} {rest st0 : List Value} {A : Nat → Prop}
variable {S1 : Type} {D : va_G} {tys : List (ClassId × FieldType)} {Wd : S1 → va_W} {u u1 : S1} {rv : Option Value}
theorem xx_topi {x y : Int32} (h : y = x) (k : W p l e R s m args below meth c H locs cells slots Q (F0 m pc ls (.int y :: rest))) : W p l e R s m args below meth c H locs cells slots Q (F0 m pc ls (.int x :: rest)) := h ▸ k
/-- a body from its walk -/
theorem xx_body {y : MethodName} {b : ByteArray} {rm : Room} {vs : List Value} (hy : plainName y.cls = true) (hn : (lg_sl vs).length ≤ nL)
    (body : ∀ (p : Program) (e : Env) (s : State) (m : MethodId) (args : Array Value) (below : List Frame) (meth : Method) (c : Code) (A : Nat → Prop) (ls : Array Slot), xx_C p s m args meth c b nL y.cls rt → (y.name = "<init>" → meth.name = "<init>") → va_K D xx_cls tys s → lv_has ls nL (lv_args 0 vs) → (∀ q, s.heap.size ≤ q → A q) → va_P D xx_cls (Wd u) s.heap → va_D A (Wd u) → va_S A s.heap s.heap [] →
      W p l e rm s m args below meth c s.heap [] 0 0 (MQ below (xx_Q D tys Wd rv u1 A) args s rm.cells rm.slots A) (F0 m 0 ls [])) : xx_M l D tys Wd y b nL rt rm vs u rv u1 := by
  intro sz
  refine Met.ofW (cc := b) (maxL := nL) (ret := rt) hy rfl ?_
  intro p e s m args below meth c s₁ B hml hv
  obtain ⟨rfl, hsz, hP, hK, hD0⟩ := hv
  subst hsz
  have hts := atoms_spec (ws := Cond.code y b nL rt :: xx_tb) B.pre
  have hl := lv_entry vs (n := nL) hn
  rw [lg_entry_eq]
  refine body p e s m _ below meth c _ _ ⟨B.exec, B.bytes, hml, findClass_of_methodNamed B.named, fun w hw => hts w (List.mem_cons_of_mem _ hw), B.returns, B.notSynchronized⟩ ?_ hK hl (fun q h => Or.inr h) hP (hD0.self (sz := s.heap.size)) va_S.rf
  intro h
  rw [(name_of_methodNamed B.named B.method).1]
  exact h
/-- the ends -/
theorem xx_end (hP : va_P D xx_cls (Wd u) H) (hK : va_K D xx_cls tys s) (hD : va_D A (Wd u)) (hS : va_S A s.heap H locs) {o : Outcome} (ho : o = .returned rv) (t : State) (ht : t.heap = H) (hW : s.WarmedH t.vm) : xx_Q D tys Wd rv u A args s o t :=
  ⟨⟨ho, by rw [ht]; exact hP, va_K.moved hW.alike hK, hD⟩, hS.F ht⟩
theorem xx_iret {x : Int32} {r : Int32} (C : xx_C p s m args meth c cc nL own (some .int)) (hF : some (x, u) = some (r, u1)) (hK : va_K D xx_cls tys s) (hP : va_P D xx_cls (Wd u) H) (hD : va_D A (Wd u)) (hS : va_S A s.heap H locs) (hdg : decode cc pc = .ok (.ireturn, 1)) :
    W p l e R s m args below meth c H locs cells slots (MQ below (xx_Q D tys Wd (some (.int r)) u1 A) args s cells slots A) (F0 m pc ls [.int x]) := by
  cases hF
  exact W.iret (v := x) C.1 C.2.1 C.2.2.2.2.2.1 (fun t ht hW => xx_end hP hK hD hS rfl t ht hW) hS.2.2 hdg C.2.2.2.2.2.2
theorem xx_narZ (x : Int32) : narrow .boolean (.int x) = .int (vp_nar .boolean x) := rfl
/-- a boolean's answer: what is kept of it -/
theorem xx_zret {x : Int32} {r : Int32} (C : xx_C p s m args meth c cc nL own (some .boolean)) (hF : some (vp_nar .boolean x, u) = some (r, u1)) (hK : va_K D xx_cls tys s) (hP : va_P D xx_cls (Wd u) H) (hD : va_D A (Wd u)) (hS : va_S A s.heap H locs) (hdg : decode cc pc = .ok (.ireturn, 1)) :
    W p l e R s m args below meth c H locs cells slots (MQ below (xx_Q D tys Wd (some (.int r)) u1 A) args s cells slots A) (F0 m pc ls [.int x]) := by
  cases hF
  have hexec := C.1
  have hb := C.2.1
  have hr := C.2.2.2.2.2.1
  have hlocks := C.2.2.2.2.2.2
  intro T hT X
  obtain ⟨fs, hret, hrun, hended, hW, hframe⟩ := X.leave (v := some (.int (vp_nar .boolean x))) (hlocks := hlocks) (fun h => by rw [hr] at h; cases h)
  have hmeth' : T.vm.method? m = some meth := X.method'
  refine ⟨T.setFrames fs, ?_, .returned (some (.int (vp_nar .boolean x))), hrun, hended, xx_end hP hK hD hS rfl _ hT hW, locs, ⟨⟨_, rfl⟩, hW, hframe⟩, hS.2.2⟩
  jvm_step X.here [X.here.top, hexec, hb, hdg, hmeth', hr, xx_narZ]
  (try refine ⟨rfl, ?_⟩); (try refine ⟨rfl, ?_⟩)
  first | (intro acts; rw [hret _ acts rfl rfl rfl]) | rw [hret _ _ rfl rfl rfl]
  exact Steps.refl _
theorem xx_vret (C : xx_C p s m args meth c cc nL own none) (hF : some u = some u1) (hK : va_K D xx_cls tys s) (hP : va_P D xx_cls (Wd u) H) (hD : va_D A (Wd u)) (hS : va_S A s.heap H locs) (hdg : decode cc pc = .ok (.return_, 1)) :
    W p l e R s m args below meth c H locs cells slots (MQ below (xx_Q D tys Wd none u1 A) args s cells slots A) (F0 m pc ls []) := by
  cases hF
  exact W.vret C.1 C.2.1 C.2.2.2.2.2.1 (fun t ht hW => xx_end hP hK hD hS rfl t ht hW) hS.2.2 hdg C.2.2.2.2.2.2
/-- fields -/
theorem xx_get (C : xx_C p s m args meth c cc nL own rt) {ref Cn : String} {T : u_T} {N ci : Nat} (hin : ∀ w ∈ u_ws Cn T N, w ∈ xx_tb) (hK : va_K D xx_cls tys s) {ws : va_W} (hP : va_P D xx_cls ws H) (q0 : Nat) {fs : List Value} {a : Nat} (he : ws[q0]? = some (a, .inr (ci, fs))) (hc : xx_cls[ci]? = some (Cn, T, N)) (k : Nat) (hk : k < N) (hlink : Cond.fieldLink own index ref (T k).2.1 (T k).2.2.1 ∈ xx_tb) (hsame : (T k).1 = ref) {v : Value} (hv : fs[k]? = some v) (hdg : decode cc pc = .ok (.getfield index, 3))
    (kk : W p l e R s m args below meth c H locs cells slots Q (F0 m (pc + 3) ls (v :: rest))) : W p l e R s m args below meth c H locs cells slots Q (F0 m pc ls (.ref a :: rest)) :=
  va_get C.1 C.2.1 C.2.2.2.2.1 hin C.2.2.2.1 hK hP q0 he hc k hk (C.2.2.2.2.1 _ hlink) (fun x h => by rw [← hsame]; exact h) hv hdg kk
theorem xx_put (C : xx_C p s m args meth c cc nL own rt) {ref Cn : String} {T : u_T} {N ci : Nat} (hin : ∀ w ∈ u_ws Cn T N, w ∈ xx_tb) (ty0 : Nat → FieldType) (hty : ∀ k, k < N → parseFieldDescriptor (T k).2.2.1 = some (ty0 k)) (hnm : ∀ a, a < N → ∀ b, b < N → a ≠ b → (T a).2.1 ≠ (T b).2.1) (hK : va_K D xx_cls tys s) {ws ws1 : va_W} (hP : va_P D xx_cls ws H) (hD : va_D A ws) (hS : va_S A s.heap H locs) (q0 : Nat) {fs : List Value} {a : Nat} (he : ws[q0]? = some (a, .inr (ci, fs))) (hc : xx_cls[ci]? = some (Cn, T, N)) (k : Nat) (hk : k < N) (hlink : Cond.fieldLink own index ref (T k).2.1 (T k).2.2.1 ∈ xx_tb) (hsame : (T k).1 = ref) (hfin : (T k).2.2.2 = false) {v : Value} (hn : narrow (ty0 k) v = v) (hfit : fits (ty0 k) v = true) (hl : k < fs.length) (hset : ws.set q0 (a, .inr (ci, fs.set k v)) = ws1)
    (hdg : decode cc pc = .ok (.putfield index, 3)) (kk : ∀ (H1 : Heap) (locs1 : List Loc), va_P D xx_cls ws1 H1 → va_D A ws1 → va_S A s.heap H1 locs1 → W p l e R s m args below meth c H1 locs1 cells slots Q (F0 m (pc + 3) ls rest)) : W p l e R s m args below meth c H locs cells slots Q (F0 m pc ls (v :: .ref a :: rest)) := by
  refine va_put C.1 C.2.1 C.2.2.2.2.1 hin ty0 hty hnm C.2.2.2.1 hK hP hD hS q0 he hc k hk (C.2.2.2.2.1 _ hlink) (fun x h => by rw [← hsame]; exact h) hfin (hty k hk) hn hfit hl hdg (fun H1 locs1 h1 h2 h3 => kk H1 locs1 ?_ ?_ h3)
  · rw [← hset]; exact h1
  · rw [← hset]; exact h2
/-- arrays of ints and of booleans -/
theorem xx_iald (C : xx_C p s m args meth c cc nL own rt) (hK : va_K D xx_cls tys s) {ws : va_W} (hP : va_P D xx_cls ws H) (q0 t0 : Nat) {cA : ClassId} {n a : Nat} {f : Nat → Int32} (ha : ws[q0]? = some (a, .inl (cA, n, .inl f))) (ht : tys[t0]? = some (cA, .int)) {i v : Int32} (hi : xx_ag f n i = some v) (hdg : decode cc pc = .ok (.iaload, 1))
    (kk : W p l e R s m args below meth c H locs cells slots Q (F0 m (pc + 1) ls (.int v :: rest))) : W p l e R s m args below meth c H locs cells slots Q (F0 m pc ls (.int i :: .ref a :: rest)) := by
  obtain ⟨h1, h2⟩ := xx_ag_some hi
  subst h2
  exact va_iald C.1 C.2.1 hK hP q0 t0 ha ht h1 hdg kk
theorem xx_zald (C : xx_C p s m args meth c cc nL own rt) (hK : va_K D xx_cls tys s) {ws : va_W} (hP : va_P D xx_cls ws H) (q0 t0 : Nat) {cA : ClassId} {n a : Nat} {f : Nat → Int32} (ha : ws[q0]? = some (a, .inl (cA, n, .inl f))) (ht : tys[t0]? = some (cA, .boolean)) {i v : Int32} (hi : xx_ag f n i = some v) (hdg : decode cc pc = .ok (.baload, 1))
    (kk : W p l e R s m args below meth c H locs cells slots Q (F0 m (pc + 1) ls (.int v :: rest))) : W p l e R s m args below meth c H locs cells slots Q (F0 m pc ls (.int i :: .ref a :: rest)) := by
  obtain ⟨h1, h2⟩ := xx_ag_some hi
  subst h2
  exact va_zald C.1 C.2.1 hK hP q0 t0 ha ht h1 hdg kk
theorem xx_iast (C : xx_C p s m args meth c cc nL own rt) (hK : va_K D xx_cls tys s) {ws ws1 : va_W} (hP : va_P D xx_cls ws H) (hD : va_D A ws) (hS : va_S A s.heap H locs) (q0 t0 : Nat) {cA : ClassId} {n a : Nat} {f f1 : Nat → Int32} (ha : ws[q0]? = some (a, .inl (cA, n, .inl f))) (ht : tys[t0]? = some (cA, .int)) {i x : Int32} (hi : xx_as f n i x = some f1) (hset : ws.set q0 (a, .inl (cA, n, .inl f1)) = ws1) (hdg : decode cc pc = .ok (.iastore, 1))
    (kk : ∀ (H1 : Heap) (locs1 : List Loc), va_P D xx_cls ws1 H1 → va_D A ws1 → va_S A s.heap H1 locs1 → W p l e R s m args below meth c H1 locs1 cells slots Q (F0 m (pc + 1) ls rest)) : W p l e R s m args below meth c H locs cells slots Q (F0 m pc ls (.int x :: .int i :: .ref a :: rest)) := by
  obtain ⟨h1, h2⟩ := xx_as_some hi
  refine va_iast C.1 C.2.1 hK hP hD hS q0 t0 ha ht h1 hdg (fun H1 locs1 g1 g2 g3 => kk H1 locs1 ?_ ?_ g3)
  · rw [← hset, h2]; exact g1
  · rw [← hset, h2]; exact g2
theorem xx_zast (C : xx_C p s m args meth c cc nL own rt) (hK : va_K D xx_cls tys s) {ws ws1 : va_W} (hP : va_P D xx_cls ws H) (hD : va_D A ws) (hS : va_S A s.heap H locs) (q0 t0 : Nat) {cA : ClassId} {n a : Nat} {f f1 : Nat → Int32} (ha : ws[q0]? = some (a, .inl (cA, n, .inl f))) (ht : tys[t0]? = some (cA, .boolean)) {i x : Int32} (hi : xx_as f n i (vp_nar .boolean x) = some f1) (hset : ws.set q0 (a, .inl (cA, n, .inl f1)) = ws1) (hdg : decode cc pc = .ok (.bastore, 1))
    (kk : ∀ (H1 : Heap) (locs1 : List Loc), va_P D xx_cls ws1 H1 → va_D A ws1 → va_S A s.heap H1 locs1 → W p l e R s m args below meth c H1 locs1 cells slots Q (F0 m (pc + 1) ls rest)) : W p l e R s m args below meth c H locs cells slots Q (F0 m pc ls (.int x :: .int i :: .ref a :: rest)) := by
  obtain ⟨h1, h2⟩ := xx_as_some hi
  refine va_zast C.1 C.2.1 hK hP hD hS q0 t0 ha ht h1 hdg (fun H1 locs1 g1 g2 g3 => kk H1 locs1 ?_ ?_ g3)
  · rw [← hset, h2]; exact g1
  · rw [← hset, h2]; exact g2
/-- calls -/
theorem xx_call {mc ms : Nat} {a : Array Value} (hr : va_Run p l e R s m args below meth c H locs cells slots mc ms (F0 m pc ls st0) rest (xx_Q D tys Wd rv u1 (va_A (Wd u) H.size) a) (va_A (Wd u) H.size)) (hA : ∀ q, s.heap.size ≤ q → A q) (hD : va_D A (Wd u)) (hS : va_S A s.heap H locs)
    (kk : ∀ (H1 : Heap) (locs1 : List Loc), va_P D xx_cls (Wd u1) H1 → va_D A (Wd u1) → va_S A s.heap H1 locs1 → W p l e R s m args below meth c H1 locs1 (cells + mc) (slots + ms) Q (F0 m (pc + 3) ls (rv.toList ++ rest))) : W p l e R s m args below meth c H locs cells slots Q (F0 m pc ls st0) := by
  intro T hT X
  obtain ⟨v, st₀, t, T', L, h0, X', hL, e1, e2, ⟨⟨hv, hP1, hK1, hD1⟩, hz, hk⟩, st⟩ := hr T hT X
  cases hv
  rw [h0] at hz hk
  have hfree : ∀ q, va_A (Wd u) H.size q → A q := by
    rintro q (⟨k, e', h⟩ | h)
    · exact hD.2 k _ h
    · exact hA q (Nat.le_trans hS.1 h)
  obtain ⟨t2, a2, b2⟩ := kk T'.heap (locs ++ L) (by rw [e1]; exact hP1) ⟨hD1.1, fun k q hq => hfree _ (hD1.2 k q hq)⟩
    ⟨Nat.le_trans hS.1 (by rw [e1]; exact hz), fun q h1 h2 => by rw [e1, hk q (Nat.lt_of_lt_of_le h1 hS.1) (fun z => h2 (hfree q z))]; exact hS.2.1 q h1 h2, fun q hq => by
      rcases List.mem_append.mp hq with h | h
      · exact hS.2.2 q h
      · exact hfree _ (hL q h)⟩ T' rfl X'
  exact ⟨t2, st t2 a2, b2⟩
theorem xx_pre {vs : List Value} (hK : va_K D xx_cls tys s) (hP : va_P D xx_cls (Wd u) H) (hD : va_D A (Wd u)) (U : State) (hU : U.heap = H) (hW : s.WarmedH U.vm) : xx_Pc D tys Wd vs u H.size vs.toArray U :=
  ⟨rfl, by rw [hU], by rw [hU]; exact hP, va_K.moved hW.alike hK, hD.weaken (fun _ _ _ _ => trivial)⟩
/-- a static method -/
theorem xx_callS {y : MethodName} {bytes : ByteArray} {maxL : Nat} {ret : Option FieldType} {rm : Room} {As : List Value} {n : Nat} (C : xx_C p s m args meth c cc nL own rt) (hM : xx_M l D tys Wd y bytes maxL ret rm As u rv u1)
    (hw : Cond.code y bytes maxL ret ∈ xx_tb ∧ Cond.methodLink own index y ∈ xx_tb ∧ Cond.static y ∈ xx_tb ∧ Cond.initialized y.cls ∈ xx_tb) (hd : y.cls ≠ "java/lang/invoke/MethodHandle" ∧ y.cls ≠ "java/lang/invoke/VarHandle" ∧ (parseMethodDescriptor y.desc).map (fun d => d.parameters.length) = some n) (hn : As.length = n) (hR : rm.frames + 1 ≤ R.frames ∧ 8 + (maxL + 11) + rm.locals ≤ R.locals)
    (hl : ls.size = nL) (hst : st0 = As.reverse ++ rest) (hrs : (rest.map fun v => v.category).sum ≤ 8) (hA : ∀ q, s.heap.size ≤ q → A q) (hK : va_K D xx_cls tys s) (hP : va_P D xx_cls (Wd u) H) (hD : va_D A (Wd u)) (hS : va_S A s.heap H locs) (hf : cells + rm.cells ≤ R.cells ∧ slots + rm.slots ≤ R.slots) {st1 : List Value} {cells1 slots1 : Nat} (hst1 : rv.toList ++ rest = st1) (hc1 : cells + rm.cells = cells1) (hs1 : slots + rm.slots = slots1) (hdg : decode cc pc = .ok (.invokestatic index, 3))
    (kk : ∀ (H1 : Heap) (locs1 : List Loc), va_P D xx_cls (Wd u1) H1 → va_D A (Wd u1) → va_S A s.heap H1 locs1 → W p l e R s m args below meth c H1 locs1 cells1 slots1 Q (F0 m (pc + 3) ls st1)) : W p l e R s m args below meth c H locs cells slots Q (F0 m pc ls st0) := by
  subst hst1
  subst hc1
  subst hs1
  subst hn
  exact xx_call (a := As.toArray) (va_runS (y := y) (bytes := bytes) (maxL := maxL) (ret := ret) (ws := Cond.code y bytes maxL ret :: xx_tb) (rm := rm) (n := As.length) (As := As) ⟨C.1, C.2.1, C.2.2.1, C.2.2.2.1, C.2.2.2.2.1⟩ (hM H.size)
    ⟨callB_of As.length C.2.2.2.2.1 (xx_GI (xx_GIc hw.1)) rfl rfl rfl (C.2.2.2.2.1 _ hw.2.2.2) (C.2.2.2.2.1 _ hw.2.1) hd hR, C.2.2.2.2.1 _ hw.2.2.1⟩ ⟨xx_blind, fun U hU hW => xx_pre hK hP hD U hU hW⟩ rfl rfl hl hst (lv_room hrs) hdg hf) hA hD hS kk
/-- an instance method, on a cell of the world -/
theorem xx_callV {y : MethodName} {bytes : ByteArray} {maxL : Nat} {ret : Option FieldType} {rm : Room} {As : List Value} {T : u_T} {N ci b : Nat} {fs : List Value} {Cn : String} {n : Nat} (C : xx_C p s m args meth c cc nL own rt) (hM : xx_M l D tys Wd y bytes maxL ret rm (.ref b :: As) u rv u1)
    (hw : Cond.code y bytes maxL ret ∈ xx_tb ∧ Cond.methodLink own index y ∈ xx_tb ∧ Cond.instanceMethod y ∈ xx_tb ∧ Cond.selects Cn y y ∈ xx_tb ∧ Cond.initialized y.cls ∈ xx_tb) (hd : y.cls ≠ "java/lang/invoke/MethodHandle" ∧ y.cls ≠ "java/lang/invoke/VarHandle" ∧ (parseMethodDescriptor y.desc).map (fun d => d.parameters.length) = some n) (hn : As.length = n) (hR : rm.frames + 1 ≤ R.frames ∧ 8 + (maxL + 11) + rm.locals ≤ R.locals)
    (q0 : Nat) (he : (Wd u)[q0]? = some (b, .inr (ci, fs))) (hc : xx_cls[ci]? = some (Cn, T, N))
    (hl : ls.size = nL) (hst : st0 = As.reverse ++ .ref b :: rest) (hrs : (rest.map fun v => v.category).sum ≤ 8) (hA : ∀ q, s.heap.size ≤ q → A q) (hK : va_K D xx_cls tys s) (hP : va_P D xx_cls (Wd u) H) (hD : va_D A (Wd u)) (hS : va_S A s.heap H locs) (hf : cells + rm.cells ≤ R.cells ∧ slots + rm.slots ≤ R.slots) {st1 : List Value} {cells1 slots1 : Nat} (hst1 : rv.toList ++ rest = st1) (hc1 : cells + rm.cells = cells1) (hs1 : slots + rm.slots = slots1) (hdg : decode cc pc = .ok (.invokevirtual index, 3))
    (kk : ∀ (H1 : Heap) (locs1 : List Loc), va_P D xx_cls (Wd u1) H1 → va_D A (Wd u1) → va_S A s.heap H1 locs1 → W p l e R s m args below meth c H1 locs1 cells1 slots1 Q (F0 m (pc + 3) ls st1)) : W p l e R s m args below meth c H locs cells slots Q (F0 m pc ls st0) := by
  subst hst1
  subst hc1
  subst hs1
  subst hn
  exact xx_call (a := (Value.ref b :: As).toArray) (va_runV (y := y) (bytes := bytes) (maxL := maxL) (ret := ret) (ws := Cond.code y bytes maxL ret :: xx_tb) (rm := rm) (n := As.length) (As := As) (C := Cn) ⟨C.1, C.2.1, C.2.2.1, C.2.2.2.1, C.2.2.2.2.1⟩ (hM H.size)
    ⟨callB_of As.length C.2.2.2.2.1 (xx_GI (xx_GIc hw.1)) rfl rfl rfl (C.2.2.2.2.1 _ hw.2.2.2.2) (C.2.2.2.2.1 _ hw.2.1) hd hR, C.2.2.2.2.1 _ hw.2.2.1, C.2.2.2.2.1 _ hw.2.2.2.1⟩ ⟨xx_blind, va_recv hK hP hc he, fun U hU hW => xx_pre hK hP hD U hU hW⟩ rfl rfl hl hst (lv_room hrs) hdg hf) hA hD hS kk
end XR
abbrev xx_G : Type := va_G × (Nat → Nat) × (Nat → ClassId)
abbrev qm_S : Type := (Nat → Int32) × (Nat → Nat → Int32)
def qm_T (g : xx_G) : List (ClassId × FieldType) := [(g.2.2 0, .int), (g.2.2 1, .boolean)]
def qm_W (g : xx_G) (u : qm_S) : va_W := [(g.2.1 0, .inr (0, [.int (u.1 0), .ref (g.2.1 1), .int (u.1 2), .int (u.1 3), .ref (g.2.1 2), .ref (g.2.1 3), .ref (g.2.1 4), .ref (g.2.1 5), .ref (g.2.1 6), .ref (g.2.1 7), .ref (g.2.1 8), .ref (g.2.1 9), .ref (g.2.1 10), .ref (g.2.1 11), .ref (g.2.1 12), .int (u.1 15), .ref (g.2.1 13), .int (u.1 17), .int (u.1 18), .int (u.1 19), .int (u.1 20), .int (u.1 21), .ref (g.2.1 14), .int (u.1 23), .int (u.1 24), .int (u.1 25), .int (u.1 26), .int (u.1 27), .int (u.1 28), .int (u.1 29), .int (u.1 30)])), (g.2.1 1, .inl (g.2.2 0, 4096, .inl (u.2 1))), (g.2.1 2, .inl (g.2.2 0, 40, .inl (u.2 2))), (g.2.1 3, .inl (g.2.2 0, 40, .inl (u.2 3))), (g.2.1 4, .inl (g.2.2 0, 40, .inl (u.2 4))), (g.2.1 5, .inl (g.2.2 0, 40, .inl (u.2 5))), (g.2.1 6, .inl (g.2.2 1, 12, .inl (u.2 6))), (g.2.1 7, .inl (g.2.2 0, 12, .inl (u.2 7))), (g.2.1 8, .inl (g.2.2 0, 12, .inl (u.2 8))), (g.2.1 9, .inl (g.2.2 0, 12, .inl (u.2 9))), (g.2.1 10, .inl (g.2.2 0, 12, .inl (u.2 10))), (g.2.1 11, .inl (g.2.2 0, 12, .inl (u.2 11))), (g.2.1 12, .inl (g.2.2 1, 144, .inl (u.2 12))), (g.2.1 13, .inl (g.2.2 0, 1200, .inl (u.2 13))), (g.2.1 14, .inl (g.2.2 0, 32, .inl (u.2 14)))]
def xx_fu : Nat := 5000
end
section
theorem kw_873 : Cond.fieldLink "ModuleLoaderModel" 57 "ModuleLoaderModel" "thrown" "I" ∈ xx_tb := xx_in (List.mem_append_right _ (List.mem_of_getElem? (i := 873) (by decide +kernel))) (by decide +kernel)
theorem qd_Model_thrown_0 : decode kb_Model_thrown 0 = .ok (.aload_n 0, 1) := by decide +kernel
theorem qd_Model_thrown_1 : decode kb_Model_thrown 1 = .ok (.getfield 57, 3) := by decide +kernel
theorem qd_Model_thrown_4 : decode kb_Model_thrown 4 = .ok (.ireturn, 1) := by decide +kernel
def qf_Model_thrown (u : qm_S) : Option (Int32 × qm_S) := some ((u.1 0), u)
set_option maxHeartbeats 4000000 in
set_option maxRecDepth 100000 in
theorem qc_Model_thrown (l : Launch) (g : xx_G) (u : qm_S) (r : Int32) (u9 : qm_S) (hF : qf_Model_thrown u = some (r, u9)) : xx_M l g.1 (qm_T g) (qm_W g) ky_Model_thrown kb_Model_thrown 1 (some .int) (xx_rm 0 0) [.ref (g.2.1 0)] u (some (.int r)) u9 := by
  refine xx_body (by decide) (Nat.le_of_ble_eq_true rfl) ?_
  intro p e s m args below meth c A ls C hin hK hl hA hP hD hS
  have hx := C.1
  have hb := C.2.1
  have hown := C.2.2.2.1
  have hts := C.2.2.2.2.1
  have hl : lv_has ls 1 [(0, .ref (g.2.1 0))] := hl
  unfold qf_Model_thrown at hF
  refine lv_aload_n hx hb qd_Model_thrown_0 rfl (lv_at hl 0 rfl) ?_
  refine xx_get C ki_Model hK hP 0 rfl rfl 0 (by decide) kw_873 rfl rfl qd_Model_thrown_1 ?_
  exact xx_iret C hF hK hP hD hS qd_Model_thrown_4
theorem kw_874 : Cond.fieldLink "ModuleLoaderModel" 7 "ModuleLoaderModel" "memory" "[I" ∈ xx_tb := xx_in (List.mem_append_right _ (List.mem_of_getElem? (i := 874) (by decide +kernel))) (by decide +kernel)
theorem qd_Model_byteAt_0 : decode kb_Model_byteAt 0 = .ok (.aload_n 0, 1) := by decide +kernel
theorem qd_Model_byteAt_1 : decode kb_Model_byteAt 1 = .ok (.getfield 7, 3) := by decide +kernel
theorem qd_Model_byteAt_4 : decode kb_Model_byteAt 4 = .ok (.iload_n 1, 1) := by decide +kernel
theorem qd_Model_byteAt_5 : decode kb_Model_byteAt 5 = .ok (.iaload, 1) := by decide +kernel
theorem qd_Model_byteAt_6 : decode kb_Model_byteAt 6 = .ok (.ireturn, 1) := by decide +kernel
def qf_Model_byteAt (u : qm_S) (x1 : Int32) : Option (Int32 × qm_S) := (xx_ag (u.2 1) 4096 x1).bind fun v1 => some (v1, u)
set_option maxHeartbeats 4000000 in
set_option maxRecDepth 100000 in
theorem qc_Model_byteAt (l : Launch) (g : xx_G) (u : qm_S) (x1 : Int32) (r : Int32) (u9 : qm_S) (hF : qf_Model_byteAt u x1 = some (r, u9)) : xx_M l g.1 (qm_T g) (qm_W g) ky_Model_byteAt kb_Model_byteAt 2 (some .int) (xx_rm 0 0) [.ref (g.2.1 0), .int x1] u (some (.int r)) u9 := by
  refine xx_body (by decide) (Nat.le_of_ble_eq_true rfl) ?_
  intro p e s m args below meth c A ls C hin hK hl hA hP hD hS
  have hx := C.1
  have hb := C.2.1
  have hown := C.2.2.2.1
  have hts := C.2.2.2.2.1
  have hl : lv_has ls 2 [(0, .ref (g.2.1 0)), (1, .int x1)] := hl
  unfold qf_Model_byteAt at hF
  refine lv_aload_n hx hb qd_Model_byteAt_0 rfl (lv_at hl 0 rfl) ?_
  refine xx_get C ki_Model hK hP 0 rfl rfl 1 (by decide) kw_874 rfl rfl qd_Model_byteAt_1 ?_
  refine lv_iload_n hx hb qd_Model_byteAt_4 rfl (lv_at hl 1 rfl) ?_
  obtain ⟨v1, ev1, hF⟩ := xx_ob hF
  refine xx_iald C hK hP 1 0 rfl rfl ev1 qd_Model_byteAt_5 ?_
  exact xx_iret C hF hK hP hD hS qd_Model_byteAt_6
theorem qd_Model_wordAt_0 : decode kb_Model_wordAt 0 = .ok (.aload_n 0, 1) := by decide +kernel
theorem qd_Model_wordAt_1 : decode kb_Model_wordAt 1 = .ok (.getfield 7, 3) := by decide +kernel
theorem qd_Model_wordAt_4 : decode kb_Model_wordAt 4 = .ok (.iload_n 1, 1) := by decide +kernel
theorem qd_Model_wordAt_5 : decode kb_Model_wordAt 5 = .ok (.iaload, 1) := by decide +kernel
theorem qd_Model_wordAt_6 : decode kb_Model_wordAt 6 = .ok (.aload_n 0, 1) := by decide +kernel
theorem qd_Model_wordAt_7 : decode kb_Model_wordAt 7 = .ok (.getfield 7, 3) := by decide +kernel
theorem qd_Model_wordAt_10 : decode kb_Model_wordAt 10 = .ok (.iload_n 1, 1) := by decide +kernel
theorem qd_Model_wordAt_11 : decode kb_Model_wordAt 11 = .ok (.iconst 1, 1) := by decide +kernel
theorem qd_Model_wordAt_12 : decode kb_Model_wordAt 12 = .ok (.iadd, 1) := by decide +kernel
theorem qd_Model_wordAt_13 : decode kb_Model_wordAt 13 = .ok (.iaload, 1) := by decide +kernel
theorem qd_Model_wordAt_14 : decode kb_Model_wordAt 14 = .ok (.bipush (8), 2) := by decide +kernel
theorem qd_Model_wordAt_16 : decode kb_Model_wordAt 16 = .ok (.ishl, 1) := by decide +kernel
theorem qd_Model_wordAt_17 : decode kb_Model_wordAt 17 = .ok (.ior, 1) := by decide +kernel
theorem qd_Model_wordAt_18 : decode kb_Model_wordAt 18 = .ok (.aload_n 0, 1) := by decide +kernel
theorem qd_Model_wordAt_19 : decode kb_Model_wordAt 19 = .ok (.getfield 7, 3) := by decide +kernel
theorem qd_Model_wordAt_22 : decode kb_Model_wordAt 22 = .ok (.iload_n 1, 1) := by decide +kernel
theorem qd_Model_wordAt_23 : decode kb_Model_wordAt 23 = .ok (.iconst 2, 1) := by decide +kernel
theorem qd_Model_wordAt_24 : decode kb_Model_wordAt 24 = .ok (.iadd, 1) := by decide +kernel
theorem qd_Model_wordAt_25 : decode kb_Model_wordAt 25 = .ok (.iaload, 1) := by decide +kernel
theorem qd_Model_wordAt_26 : decode kb_Model_wordAt 26 = .ok (.bipush (16), 2) := by decide +kernel
theorem qd_Model_wordAt_28 : decode kb_Model_wordAt 28 = .ok (.ishl, 1) := by decide +kernel
theorem qd_Model_wordAt_29 : decode kb_Model_wordAt 29 = .ok (.ior, 1) := by decide +kernel
theorem qd_Model_wordAt_30 : decode kb_Model_wordAt 30 = .ok (.aload_n 0, 1) := by decide +kernel
theorem qd_Model_wordAt_31 : decode kb_Model_wordAt 31 = .ok (.getfield 7, 3) := by decide +kernel
theorem qd_Model_wordAt_34 : decode kb_Model_wordAt 34 = .ok (.iload_n 1, 1) := by decide +kernel
theorem qd_Model_wordAt_35 : decode kb_Model_wordAt 35 = .ok (.iconst 3, 1) := by decide +kernel
theorem qd_Model_wordAt_36 : decode kb_Model_wordAt 36 = .ok (.iadd, 1) := by decide +kernel
theorem qd_Model_wordAt_37 : decode kb_Model_wordAt 37 = .ok (.iaload, 1) := by decide +kernel
theorem qd_Model_wordAt_38 : decode kb_Model_wordAt 38 = .ok (.bipush (24), 2) := by decide +kernel
theorem qd_Model_wordAt_40 : decode kb_Model_wordAt 40 = .ok (.ishl, 1) := by decide +kernel
theorem qd_Model_wordAt_41 : decode kb_Model_wordAt 41 = .ok (.ior, 1) := by decide +kernel
theorem qd_Model_wordAt_42 : decode kb_Model_wordAt 42 = .ok (.ireturn, 1) := by decide +kernel
def qf_Model_wordAt (u : qm_S) (x1 : Int32) : Option (Int32 × qm_S) := (xx_ag (u.2 1) 4096 x1).bind fun v1 => (xx_ag (u.2 1) 4096 (x1 + (1 : Int32))).bind fun v2 => (xx_ag (u.2 1) 4096 (x1 + (2 : Int32))).bind fun v3 => (xx_ag (u.2 1) 4096 (x1 + (3 : Int32))).bind fun v4 => some ((((v1 ||| (v2 <<< ((8 : Int32) &&& 31))) ||| (v3 <<< ((16 : Int32) &&& 31))) ||| (v4 <<< ((24 : Int32) &&& 31))), u)
set_option maxHeartbeats 4000000 in
set_option maxRecDepth 100000 in
theorem qc_Model_wordAt (l : Launch) (g : xx_G) (u : qm_S) (x1 : Int32) (r : Int32) (u9 : qm_S) (hF : qf_Model_wordAt u x1 = some (r, u9)) : xx_M l g.1 (qm_T g) (qm_W g) ky_Model_wordAt kb_Model_wordAt 2 (some .int) (xx_rm 0 0) [.ref (g.2.1 0), .int x1] u (some (.int r)) u9 := by
  refine xx_body (by decide) (Nat.le_of_ble_eq_true rfl) ?_
  intro p e s m args below meth c A ls C hin hK hl hA hP hD hS
  have hx := C.1
  have hb := C.2.1
  have hown := C.2.2.2.1
  have hts := C.2.2.2.2.1
  have hl : lv_has ls 2 [(0, .ref (g.2.1 0)), (1, .int x1)] := hl
  unfold qf_Model_wordAt at hF
  refine lv_aload_n hx hb qd_Model_wordAt_0 rfl (lv_at hl 0 rfl) ?_
  refine xx_get C ki_Model hK hP 0 rfl rfl 1 (by decide) kw_874 rfl rfl qd_Model_wordAt_1 ?_
  refine lv_iload_n hx hb qd_Model_wordAt_4 rfl (lv_at hl 1 rfl) ?_
  obtain ⟨v1, ev1, hF⟩ := xx_ob hF
  refine xx_iald C hK hP 1 0 rfl rfl ev1 qd_Model_wordAt_5 ?_
  refine lv_aload_n hx hb qd_Model_wordAt_6 rfl (lv_at hl 0 rfl) ?_
  refine xx_get C ki_Model hK hP 0 rfl rfl 1 (by decide) kw_874 rfl rfl qd_Model_wordAt_7 ?_
  refine lv_iload_n hx hb qd_Model_wordAt_10 rfl (lv_at hl 1 rfl) ?_
  refine lv_iconst (v := (1 : Int32)) hx hb qd_Model_wordAt_11 (by decide) ?_
  refine lv_iadd hx hb qd_Model_wordAt_12 ?_
  obtain ⟨v2, ev2, hF⟩ := xx_ob hF
  refine xx_iald C hK hP 1 0 rfl rfl ev2 qd_Model_wordAt_13 ?_
  refine lv_bipush (v := (8 : Int32)) hx hb qd_Model_wordAt_14 (by decide) ?_
  refine lv_ishl hx hb qd_Model_wordAt_16 ?_
  refine lv_ior hx hb qd_Model_wordAt_17 ?_
  refine lv_aload_n hx hb qd_Model_wordAt_18 rfl (lv_at hl 0 rfl) ?_
  refine xx_get C ki_Model hK hP 0 rfl rfl 1 (by decide) kw_874 rfl rfl qd_Model_wordAt_19 ?_
  refine lv_iload_n hx hb qd_Model_wordAt_22 rfl (lv_at hl 1 rfl) ?_
  refine lv_iconst (v := (2 : Int32)) hx hb qd_Model_wordAt_23 (by decide) ?_
  refine lv_iadd hx hb qd_Model_wordAt_24 ?_
  obtain ⟨v3, ev3, hF⟩ := xx_ob hF
  refine xx_iald C hK hP 1 0 rfl rfl ev3 qd_Model_wordAt_25 ?_
  refine lv_bipush (v := (16 : Int32)) hx hb qd_Model_wordAt_26 (by decide) ?_
  refine lv_ishl hx hb qd_Model_wordAt_28 ?_
  refine lv_ior hx hb qd_Model_wordAt_29 ?_
  refine lv_aload_n hx hb qd_Model_wordAt_30 rfl (lv_at hl 0 rfl) ?_
  refine xx_get C ki_Model hK hP 0 rfl rfl 1 (by decide) kw_874 rfl rfl qd_Model_wordAt_31 ?_
  refine lv_iload_n hx hb qd_Model_wordAt_34 rfl (lv_at hl 1 rfl) ?_
  refine lv_iconst (v := (3 : Int32)) hx hb qd_Model_wordAt_35 (by decide) ?_
  refine lv_iadd hx hb qd_Model_wordAt_36 ?_
  obtain ⟨v4, ev4, hF⟩ := xx_ob hF
  refine xx_iald C hK hP 1 0 rfl rfl ev4 qd_Model_wordAt_37 ?_
  refine lv_bipush (v := (24 : Int32)) hx hb qd_Model_wordAt_38 (by decide) ?_
  refine lv_ishl hx hb qd_Model_wordAt_40 ?_
  refine lv_ior hx hb qd_Model_wordAt_41 ?_
  exact xx_iret C hF hK hP hD hS qd_Model_wordAt_42
theorem xx_lit1 : Int32.ofInt (1) = (1 : Int32) := by decide
theorem qd_Model_put_0 : decode kb_Model_put 0 = .ok (.iconst 0, 1) := by decide +kernel
theorem qd_Model_put_1 : decode kb_Model_put 1 = .ok (.istore 4, 2) := by decide +kernel
theorem qd_Model_put_3 : decode kb_Model_put 3 = .ok (.iload 4, 2) := by decide +kernel
theorem qd_Model_put_5 : decode kb_Model_put 5 = .ok (.iload_n 3, 1) := by decide +kernel
theorem qd_Model_put_6 : decode kb_Model_put 6 = .ok (.if_icmp .ge (29), 3) := by decide +kernel
theorem qd_Model_put_9 : decode kb_Model_put 9 = .ok (.aload_n 0, 1) := by decide +kernel
theorem qd_Model_put_10 : decode kb_Model_put 10 = .ok (.getfield 7, 3) := by decide +kernel
theorem qd_Model_put_13 : decode kb_Model_put 13 = .ok (.iload_n 1, 1) := by decide +kernel
theorem qd_Model_put_14 : decode kb_Model_put 14 = .ok (.iload 4, 2) := by decide +kernel
theorem qd_Model_put_16 : decode kb_Model_put 16 = .ok (.iadd, 1) := by decide +kernel
theorem qd_Model_put_17 : decode kb_Model_put 17 = .ok (.iload_n 2, 1) := by decide +kernel
theorem qd_Model_put_18 : decode kb_Model_put 18 = .ok (.bipush (8), 2) := by decide +kernel
theorem qd_Model_put_20 : decode kb_Model_put 20 = .ok (.iload 4, 2) := by decide +kernel
theorem qd_Model_put_22 : decode kb_Model_put 22 = .ok (.imul, 1) := by decide +kernel
theorem qd_Model_put_23 : decode kb_Model_put 23 = .ok (.ishr, 1) := by decide +kernel
theorem qd_Model_put_24 : decode kb_Model_put 24 = .ok (.sipush (255), 3) := by decide +kernel
theorem qd_Model_put_27 : decode kb_Model_put 27 = .ok (.iand, 1) := by decide +kernel
theorem qd_Model_put_28 : decode kb_Model_put 28 = .ok (.iastore, 1) := by decide +kernel
theorem qd_Model_put_29 : decode kb_Model_put 29 = .ok (.iinc 4 (1), 3) := by decide +kernel
theorem qd_Model_put_32 : decode kb_Model_put 32 = .ok (.goto (-29), 3) := by decide +kernel
theorem qd_Model_put_35 : decode kb_Model_put 35 = .ok (.return_, 1) := by decide +kernel
def qf_Model_put_b3 : Nat → qm_S → Int32 → Int32 → Int32 → Int32 → Option (qm_S)
  | 0, _, _, _, _, _ => none
  | n + 1, u, x1, x2, x3, x4 => if x3 ≤ x4 then (some u) else ((xx_as (u.2 1) 4096 (x1 + x4) ((x2 >>> (((8 : Int32) * x4) &&& 31)) &&& (255 : Int32))).bind fun f1 => xx_nm (u.1, va_up u.2 1 f1) fun u2 => xx_nm (x4 + (1 : Int32)) fun v3 => (qf_Model_put_b3 n) u2 x1 x2 x3 v3)
def qf_Model_put (u : qm_S) (x1 x2 x3 : Int32) : Option (qm_S) := xx_nm (0 : Int32) fun v1 => qf_Model_put_b3 xx_fu u x1 x2 x3 v1
set_option maxHeartbeats 4000000 in
set_option maxRecDepth 100000 in
theorem qw_Model_put_b3 {p : Program} {l : Launch} {e : Env} {s : State} {m : MethodId} {args : Array Value} {below : List Frame} {meth : Method} {c : Code} {A : Nat → Prop} {g : xx_G} {u9 : qm_S} (C : xx_C p s m args meth c kb_Model_put 5 kr_Model none) (hA : ∀ q, s.heap.size ≤ q → A q) (hK : va_K g.1 xx_cls (qm_T g) s) : ∀ (n : Nat), ∀ (u : qm_S) (x1 x2 x3 x4 : Int32) (H : Heap) (locs : List Loc) (ls : Array Slot), qf_Model_put_b3 n u x1 x2 x3 x4 = some u9 → lv_has ls 5 [(0, .ref (g.2.1 0)), (1, .int x1), (2, .int x2), (3, .int x3), (4, .int x4)] → va_P g.1 xx_cls (qm_W g u) H → va_D A (qm_W g u) → va_S A s.heap H locs → W p l e (xx_rm 0 0) s m args below meth c H locs 0 0 (MQ below (xx_Q g.1 (qm_T g) (qm_W g) none u9 A) args s 0 0 A) (F0 m 3 ls []) := by
  have hx := C.1
  have hb := C.2.1
  have hown := C.2.2.2.1
  have hts := C.2.2.2.2.1
  intro n
  induction n with
  | zero =>
    intro u x1 x2 x3 x4 H locs ls hF
    rw [qf_Model_put_b3] at hF
    cases hF
  | succ n ih =>
    intro u x1 x2 x3 x4 H locs ls hF hl hP hD hS
    rw [qf_Model_put_b3] at hF
    refine lv_iload hx hb qd_Model_put_3 (lv_at hl 4 rfl) ?_
    refine lv_iload_n hx hb qd_Model_put_5 rfl (lv_at hl 3 rfl) ?_
    refine lv_icmp_ge (tgt := 35) hx hb qd_Model_put_6 (by decide) (fun hc => ?_) (fun hc => ?_)
    · have hF := xx_ip hc hF
      exact xx_vret C hF hK hP hD hS qd_Model_put_35
    · have hF := xx_in' hc hF
      refine lv_aload_n hx hb qd_Model_put_9 rfl (lv_at hl 0 rfl) ?_
      refine xx_get C ki_Model hK hP 0 rfl rfl 1 (by decide) kw_874 rfl rfl qd_Model_put_10 ?_
      refine lv_iload_n hx hb qd_Model_put_13 rfl (lv_at hl 1 rfl) ?_
      refine lv_iload hx hb qd_Model_put_14 (lv_at hl 4 rfl) ?_
      refine lv_iadd hx hb qd_Model_put_16 ?_
      refine lv_iload_n hx hb qd_Model_put_17 rfl (lv_at hl 2 rfl) ?_
      refine lv_bipush (v := (8 : Int32)) hx hb qd_Model_put_18 (by decide) ?_
      refine lv_iload hx hb qd_Model_put_20 (lv_at hl 4 rfl) ?_
      refine lv_imul hx hb qd_Model_put_22 ?_
      refine lv_ishr hx hb qd_Model_put_23 ?_
      refine lv_sipush (v := (255 : Int32)) hx hb qd_Model_put_24 (by decide) ?_
      refine lv_iand hx hb qd_Model_put_27 ?_
      obtain ⟨f1, ef1, hF⟩ := xx_ob hF
      obtain ⟨u2, eu2, hF⟩ := xx_nm_some hF
      refine xx_iast (ws1 := qm_W g u2) C hK hP hD hS 1 0 rfl rfl ef1 (by rw [eu2]; rfl) qd_Model_put_28 (fun H locs hP hD hS => ?_)
      obtain ⟨v3, ev3, hF⟩ := xx_nm_some hF
      refine lv_iinc (k := 4) (v := v3) hx hb qd_Model_put_29 hl rfl (by rw [ev3, xx_lit1]) (by decide) rfl (fun ls hl => ?_)
      refine lv_goto (tgt := 3) hx hb qd_Model_put_32 (by decide) ?_
      exact ih u2 x1 x2 x3 v3 _ _ _ hF (lv_sub hl [1, 2, 3, 4, 0] rfl) hP hD hS
set_option maxHeartbeats 4000000 in
set_option maxRecDepth 100000 in
theorem qc_Model_put (l : Launch) (g : xx_G) (u : qm_S) (x1 x2 x3 : Int32) (u9 : qm_S) (hF : qf_Model_put u x1 x2 x3 = some u9) : xx_M l g.1 (qm_T g) (qm_W g) ky_Model_put kb_Model_put 5 none (xx_rm 0 0) [.ref (g.2.1 0), .int x1, .int x2, .int x3] u none u9 := by
  refine xx_body (by decide) (Nat.le_of_ble_eq_true rfl) ?_
  intro p e s m args below meth c A ls C hin hK hl hA hP hD hS
  have hx := C.1
  have hb := C.2.1
  have hown := C.2.2.2.1
  have hts := C.2.2.2.2.1
  have hl : lv_has ls 5 [(0, .ref (g.2.1 0)), (1, .int x1), (2, .int x2), (3, .int x3)] := hl
  unfold qf_Model_put at hF
  refine lv_iconst (v := (0 : Int32)) hx hb qd_Model_put_0 (by decide) ?_
  obtain ⟨v1, ev1, hF⟩ := xx_nm_some hF
  refine xx_topi ev1 ?_
  refine lv_istore hx hb qd_Model_put_1 hl (by decide) rfl (fun ls hl => ?_)
  exact qw_Model_put_b3 C hA hK xx_fu u x1 x2 x3 v1 _ _ _ hF (lv_sub hl [1, 2, 3, 4, 0] rfl) hP hD hS
theorem kw_875 : Cond.fieldLink "ModuleLoaderModel" 60 "ModuleLoaderModel" "sealed" "Z" ∈ xx_tb := xx_in (List.mem_append_right _ (List.mem_of_getElem? (i := 875) (by decide +kernel))) (by decide +kernel)
theorem qd_Model_seal_0 : decode kb_Model_seal 0 = .ok (.aload_n 0, 1) := by decide +kernel
theorem qd_Model_seal_1 : decode kb_Model_seal 1 = .ok (.iconst 0, 1) := by decide +kernel
theorem qd_Model_seal_2 : decode kb_Model_seal 2 = .ok (.putfield 57, 3) := by decide +kernel
theorem qd_Model_seal_5 : decode kb_Model_seal 5 = .ok (.aload_n 0, 1) := by decide +kernel
theorem qd_Model_seal_6 : decode kb_Model_seal 6 = .ok (.getfield 60, 3) := by decide +kernel
theorem qd_Model_seal_9 : decode kb_Model_seal 9 = .ok (.istore_n 1, 1) := by decide +kernel
theorem qd_Model_seal_10 : decode kb_Model_seal 10 = .ok (.aload_n 0, 1) := by decide +kernel
theorem qd_Model_seal_11 : decode kb_Model_seal 11 = .ok (.iconst 1, 1) := by decide +kernel
theorem qd_Model_seal_12 : decode kb_Model_seal 12 = .ok (.putfield 60, 3) := by decide +kernel
theorem qd_Model_seal_15 : decode kb_Model_seal 15 = .ok (.iload_n 1, 1) := by decide +kernel
theorem qd_Model_seal_16 : decode kb_Model_seal 16 = .ok (.ifCond .ne (7), 3) := by decide +kernel
theorem qd_Model_seal_19 : decode kb_Model_seal 19 = .ok (.iconst 1, 1) := by decide +kernel
theorem qd_Model_seal_20 : decode kb_Model_seal 20 = .ok (.goto (4), 3) := by decide +kernel
theorem qd_Model_seal_23 : decode kb_Model_seal 23 = .ok (.iconst 0, 1) := by decide +kernel
theorem qd_Model_seal_24 : decode kb_Model_seal 24 = .ok (.ireturn, 1) := by decide +kernel
def qf_Model_seal_b24 (u : qm_S) (y0 : Int32) : Option (Int32 × qm_S) := some (vp_nar .boolean y0, u)
def qf_Model_seal (u : qm_S) : Option (Int32 × qm_S) := xx_nm (va_up u.1 0 (0 : Int32), u.2) fun u1 => xx_nm (u1.1 2) fun v2 => xx_nm (va_up u1.1 2 (1 : Int32), u1.2) fun u3 => if v2 = 0 then (qf_Model_seal_b24 u3 (1 : Int32)) else (qf_Model_seal_b24 u3 (0 : Int32))
set_option maxHeartbeats 4000000 in
set_option maxRecDepth 100000 in
theorem qw_Model_seal_b24 {p : Program} {l : Launch} {e : Env} {s : State} {m : MethodId} {args : Array Value} {below : List Frame} {meth : Method} {c : Code} {A : Nat → Prop} {g : xx_G} {r : Int32} {u9 : qm_S} (C : xx_C p s m args meth c kb_Model_seal 2 kr_Model (some .boolean)) (hA : ∀ q, s.heap.size ≤ q → A q) (hK : va_K g.1 xx_cls (qm_T g) s) : ∀ (u : qm_S) (y0 : Int32) (H : Heap) (locs : List Loc) (ls : Array Slot), qf_Model_seal_b24 u y0 = some (r, u9) → lv_has ls 2 [] → va_P g.1 xx_cls (qm_W g u) H → va_D A (qm_W g u) → va_S A s.heap H locs → W p l e (xx_rm 0 0) s m args below meth c H locs 0 0 (MQ below (xx_Q g.1 (qm_T g) (qm_W g) (some (.int r)) u9 A) args s 0 0 A) (F0 m 24 ls [.int y0]) := by
  have hx := C.1
  have hb := C.2.1
  have hown := C.2.2.2.1
  have hts := C.2.2.2.2.1
  intro u y0 H locs ls hF hl hP hD hS
  unfold qf_Model_seal_b24 at hF
  exact xx_zret C hF hK hP hD hS qd_Model_seal_24
set_option maxHeartbeats 4000000 in
set_option maxRecDepth 100000 in
theorem qc_Model_seal (l : Launch) (g : xx_G) (u : qm_S) (r : Int32) (u9 : qm_S) (hF : qf_Model_seal u = some (r, u9)) : xx_M l g.1 (qm_T g) (qm_W g) ky_Model_seal kb_Model_seal 2 (some .boolean) (xx_rm 0 0) [.ref (g.2.1 0)] u (some (.int r)) u9 := by
  refine xx_body (by decide) (Nat.le_of_ble_eq_true rfl) ?_
  intro p e s m args below meth c A ls C hin hK hl hA hP hD hS
  have hx := C.1
  have hb := C.2.1
  have hown := C.2.2.2.1
  have hts := C.2.2.2.2.1
  have hl : lv_has ls 2 [(0, .ref (g.2.1 0))] := hl
  unfold qf_Model_seal at hF
  refine lv_aload_n hx hb qd_Model_seal_0 rfl (lv_at hl 0 rfl) ?_
  refine lv_iconst (v := (0 : Int32)) hx hb qd_Model_seal_1 (by decide) ?_
  obtain ⟨u1, eu1, hF⟩ := xx_nm_some hF
  refine xx_put (ws1 := qm_W g u1) C ki_Model kt_Model ko_Model kn_Model hK hP hD hS 0 rfl rfl 0 (by decide) kw_873 rfl rfl rfl rfl (Nat.le_of_ble_eq_true rfl) (by rw [eu1]; rfl) qd_Model_seal_2 (fun H locs hP hD hS => ?_)
  refine lv_aload_n hx hb qd_Model_seal_5 rfl (lv_at hl 0 rfl) ?_
  refine xx_get C ki_Model hK hP 0 rfl rfl 2 (by decide) kw_875 rfl rfl qd_Model_seal_6 ?_
  obtain ⟨v2, ev2, hF⟩ := xx_nm_some hF
  refine xx_topi ev2 ?_
  refine lv_istore_n hx hb qd_Model_seal_9 rfl hl (by decide) rfl (fun ls hl => ?_)
  refine lv_aload_n hx hb qd_Model_seal_10 rfl (lv_at hl 1 rfl) ?_
  refine lv_iconst (v := (1 : Int32)) hx hb qd_Model_seal_11 (by decide) ?_
  obtain ⟨u3, eu3, hF⟩ := xx_nm_some hF
  refine xx_put (ws1 := qm_W g u3) C ki_Model kt_Model ko_Model kn_Model hK hP hD hS 0 rfl rfl 2 (by decide) kw_875 rfl rfl rfl rfl (Nat.le_of_ble_eq_true rfl) (by rw [eu3]; rfl) qd_Model_seal_12 (fun H locs hP hD hS => ?_)
  refine lv_iload_n hx hb qd_Model_seal_15 rfl (lv_at hl 0 rfl) ?_
  refine lv_if_ne (tgt := 23) hx hb qd_Model_seal_16 (by decide) (fun hc => ?_) (fun hc => ?_)
  · have hF := xx_in' hc hF
    refine lv_iconst (v := (0 : Int32)) hx hb qd_Model_seal_23 (by decide) ?_
    exact qw_Model_seal_b24 C hA hK  u3 (0 : Int32) _ _ _ hF (lv_sub hl [] rfl) hP hD hS
  · have hF := xx_ip hc hF
    refine lv_iconst (v := (1 : Int32)) hx hb qd_Model_seal_19 (by decide) ?_
    refine lv_goto (tgt := 24) hx hb qd_Model_seal_20 (by decide) ?_
    exact qw_Model_seal_b24 C hA hK  u3 (1 : Int32) _ _ _ hF (lv_sub hl [] rfl) hP hD hS
theorem xx_lit8 : Int32.ofInt (8) = (8 : Int32) := by decide
theorem qd_Model_isName_0 : decode kb_Model_isName 0 = .ok (.iconst 1, 1) := by decide +kernel
theorem qd_Model_isName_1 : decode kb_Model_isName 1 = .ok (.istore_n 1, 1) := by decide +kernel
theorem qd_Model_isName_2 : decode kb_Model_isName 2 = .ok (.iconst 0, 1) := by decide +kernel
theorem qd_Model_isName_3 : decode kb_Model_isName 3 = .ok (.istore_n 2, 1) := by decide +kernel
theorem qd_Model_isName_4 : decode kb_Model_isName 4 = .ok (.iload_n 2, 1) := by decide +kernel
theorem qd_Model_isName_5 : decode kb_Model_isName 5 = .ok (.bipush (32), 2) := by decide +kernel
theorem qd_Model_isName_7 : decode kb_Model_isName 7 = .ok (.if_icmp .ge (43), 3) := by decide +kernel
theorem qd_Model_isName_10 : decode kb_Model_isName 10 = .ok (.iload_n 1, 1) := by decide +kernel
theorem qd_Model_isName_11 : decode kb_Model_isName 11 = .ok (.ifCond .eq (31), 3) := by decide +kernel
theorem qd_Model_isName_14 : decode kb_Model_isName 14 = .ok (.iload_n 0, 1) := by decide +kernel
theorem qd_Model_isName_15 : decode kb_Model_isName 15 = .ok (.iload_n 2, 1) := by decide +kernel
theorem qd_Model_isName_16 : decode kb_Model_isName 16 = .ok (.ishr, 1) := by decide +kernel
theorem qd_Model_isName_17 : decode kb_Model_isName 17 = .ok (.sipush (255), 3) := by decide +kernel
theorem qd_Model_isName_20 : decode kb_Model_isName 20 = .ok (.iand, 1) := by decide +kernel
theorem qd_Model_isName_21 : decode kb_Model_isName 21 = .ok (.bipush (97), 2) := by decide +kernel
theorem qd_Model_isName_23 : decode kb_Model_isName 23 = .ok (.if_icmp .lt (19), 3) := by decide +kernel
theorem qd_Model_isName_26 : decode kb_Model_isName 26 = .ok (.iload_n 0, 1) := by decide +kernel
theorem qd_Model_isName_27 : decode kb_Model_isName 27 = .ok (.iload_n 2, 1) := by decide +kernel
theorem qd_Model_isName_28 : decode kb_Model_isName 28 = .ok (.ishr, 1) := by decide +kernel
theorem qd_Model_isName_29 : decode kb_Model_isName 29 = .ok (.sipush (255), 3) := by decide +kernel
theorem qd_Model_isName_32 : decode kb_Model_isName 32 = .ok (.iand, 1) := by decide +kernel
theorem qd_Model_isName_33 : decode kb_Model_isName 33 = .ok (.bipush (122), 2) := by decide +kernel
theorem qd_Model_isName_35 : decode kb_Model_isName 35 = .ok (.if_icmp .gt (7), 3) := by decide +kernel
theorem qd_Model_isName_38 : decode kb_Model_isName 38 = .ok (.iconst 1, 1) := by decide +kernel
theorem qd_Model_isName_39 : decode kb_Model_isName 39 = .ok (.goto (4), 3) := by decide +kernel
theorem qd_Model_isName_42 : decode kb_Model_isName 42 = .ok (.iconst 0, 1) := by decide +kernel
theorem qd_Model_isName_43 : decode kb_Model_isName 43 = .ok (.istore_n 1, 1) := by decide +kernel
theorem qd_Model_isName_44 : decode kb_Model_isName 44 = .ok (.iinc 2 (8), 3) := by decide +kernel
theorem qd_Model_isName_47 : decode kb_Model_isName 47 = .ok (.goto (-43), 3) := by decide +kernel
theorem qd_Model_isName_50 : decode kb_Model_isName 50 = .ok (.iload_n 1, 1) := by decide +kernel
theorem qd_Model_isName_51 : decode kb_Model_isName 51 = .ok (.ireturn, 1) := by decide +kernel
def qf_Model_isName_b43 (rec4 : qm_S → Int32 → Int32 → Int32 → Option (Int32 × qm_S)) (u : qm_S) (x0 x2 y0 : Int32) : Option (Int32 × qm_S) := xx_nm (x2 + (8 : Int32)) fun v1 => rec4 u x0 y0 v1
def qf_Model_isName_b42 (rec4 : qm_S → Int32 → Int32 → Int32 → Option (Int32 × qm_S)) (u : qm_S) (x0 x2 : Int32) : Option (Int32 × qm_S) := qf_Model_isName_b43 rec4 u x0 x2 (0 : Int32)
def qf_Model_isName_b4 : Nat → qm_S → Int32 → Int32 → Int32 → Option (Int32 × qm_S)
  | 0, _, _, _, _ => none
  | n + 1, u, x0, x1, x2 => if (32 : Int32) ≤ x2 then (some (vp_nar .boolean x1, u)) else (if x1 = 0 then (qf_Model_isName_b42 (qf_Model_isName_b4 n) u x0 x2) else (if ((x0 >>> (x2 &&& 31)) &&& (255 : Int32)) < (97 : Int32) then (qf_Model_isName_b42 (qf_Model_isName_b4 n) u x0 x2) else (if (122 : Int32) < ((x0 >>> (x2 &&& 31)) &&& (255 : Int32)) then (qf_Model_isName_b42 (qf_Model_isName_b4 n) u x0 x2) else (qf_Model_isName_b43 (qf_Model_isName_b4 n) u x0 x2 (1 : Int32)))))
def qf_Model_isName (u : qm_S) (x0 : Int32) : Option (Int32 × qm_S) := xx_nm (1 : Int32) fun v1 => xx_nm (0 : Int32) fun v2 => qf_Model_isName_b4 xx_fu u x0 v1 v2
set_option maxHeartbeats 4000000 in
set_option maxRecDepth 100000 in
theorem qw_Model_isName_b43 {p : Program} {l : Launch} {e : Env} {s : State} {m : MethodId} {args : Array Value} {below : List Frame} {meth : Method} {c : Code} {A : Nat → Prop} {g : xx_G} {r : Int32} {u9 : qm_S} (C : xx_C p s m args meth c kb_Model_isName 3 kr_Model (some .boolean)) (hA : ∀ q, s.heap.size ≤ q → A q) (hK : va_K g.1 xx_cls (qm_T g) s) {rec4 : qm_S → Int32 → Int32 → Int32 → Option (Int32 × qm_S)} (hrec4 : ∀ (u : qm_S) (x0 x1 x2 : Int32) (H : Heap) (locs : List Loc) (ls : Array Slot), rec4 u x0 x1 x2 = some (r, u9) → lv_has ls 3 [(0, .int x0), (1, .int x1), (2, .int x2)] → va_P g.1 xx_cls (qm_W g u) H → va_D A (qm_W g u) → va_S A s.heap H locs → W p l e (xx_rm 0 0) s m args below meth c H locs 0 0 (MQ below (xx_Q g.1 (qm_T g) (qm_W g) (some (.int r)) u9 A) args s 0 0 A) (F0 m 4 ls [])) : ∀ (u : qm_S) (x0 x2 y0 : Int32) (H : Heap) (locs : List Loc) (ls : Array Slot), qf_Model_isName_b43 rec4 u x0 x2 y0 = some (r, u9) → lv_has ls 3 [(0, .int x0), (2, .int x2)] → va_P g.1 xx_cls (qm_W g u) H → va_D A (qm_W g u) → va_S A s.heap H locs → W p l e (xx_rm 0 0) s m args below meth c H locs 0 0 (MQ below (xx_Q g.1 (qm_T g) (qm_W g) (some (.int r)) u9 A) args s 0 0 A) (F0 m 43 ls [.int y0]) := by
  have hx := C.1
  have hb := C.2.1
  have hown := C.2.2.2.1
  have hts := C.2.2.2.2.1
  intro u x0 x2 y0 H locs ls hF hl hP hD hS
  unfold qf_Model_isName_b43 at hF
  refine lv_istore_n hx hb qd_Model_isName_43 rfl hl (by decide) rfl (fun ls hl => ?_)
  obtain ⟨v1, ev1, hF⟩ := xx_nm_some hF
  refine lv_iinc (k := 2) (v := v1) hx hb qd_Model_isName_44 hl rfl (by rw [ev1, xx_lit8]) (by decide) rfl (fun ls hl => ?_)
  refine lv_goto (tgt := 4) hx hb qd_Model_isName_47 (by decide) ?_
  exact hrec4 u x0 y0 v1 _ _ _ hF (lv_sub hl [2, 1, 0] rfl) hP hD hS
set_option maxHeartbeats 4000000 in
set_option maxRecDepth 100000 in
theorem qw_Model_isName_b42 {p : Program} {l : Launch} {e : Env} {s : State} {m : MethodId} {args : Array Value} {below : List Frame} {meth : Method} {c : Code} {A : Nat → Prop} {g : xx_G} {r : Int32} {u9 : qm_S} (C : xx_C p s m args meth c kb_Model_isName 3 kr_Model (some .boolean)) (hA : ∀ q, s.heap.size ≤ q → A q) (hK : va_K g.1 xx_cls (qm_T g) s) {rec4 : qm_S → Int32 → Int32 → Int32 → Option (Int32 × qm_S)} (hrec4 : ∀ (u : qm_S) (x0 x1 x2 : Int32) (H : Heap) (locs : List Loc) (ls : Array Slot), rec4 u x0 x1 x2 = some (r, u9) → lv_has ls 3 [(0, .int x0), (1, .int x1), (2, .int x2)] → va_P g.1 xx_cls (qm_W g u) H → va_D A (qm_W g u) → va_S A s.heap H locs → W p l e (xx_rm 0 0) s m args below meth c H locs 0 0 (MQ below (xx_Q g.1 (qm_T g) (qm_W g) (some (.int r)) u9 A) args s 0 0 A) (F0 m 4 ls [])) : ∀ (u : qm_S) (x0 x2 : Int32) (H : Heap) (locs : List Loc) (ls : Array Slot), qf_Model_isName_b42 rec4 u x0 x2 = some (r, u9) → lv_has ls 3 [(0, .int x0), (2, .int x2)] → va_P g.1 xx_cls (qm_W g u) H → va_D A (qm_W g u) → va_S A s.heap H locs → W p l e (xx_rm 0 0) s m args below meth c H locs 0 0 (MQ below (xx_Q g.1 (qm_T g) (qm_W g) (some (.int r)) u9 A) args s 0 0 A) (F0 m 42 ls []) := by
  have hx := C.1
  have hb := C.2.1
  have hown := C.2.2.2.1
  have hts := C.2.2.2.2.1
  intro u x0 x2 H locs ls hF hl hP hD hS
  unfold qf_Model_isName_b42 at hF
  refine lv_iconst (v := (0 : Int32)) hx hb qd_Model_isName_42 (by decide) ?_
  exact qw_Model_isName_b43 C hA hK hrec4  u x0 x2 (0 : Int32) _ _ _ hF (lv_sub hl [0, 1] rfl) hP hD hS
set_option maxHeartbeats 4000000 in
set_option maxRecDepth 100000 in
theorem qw_Model_isName_b4 {p : Program} {l : Launch} {e : Env} {s : State} {m : MethodId} {args : Array Value} {below : List Frame} {meth : Method} {c : Code} {A : Nat → Prop} {g : xx_G} {r : Int32} {u9 : qm_S} (C : xx_C p s m args meth c kb_Model_isName 3 kr_Model (some .boolean)) (hA : ∀ q, s.heap.size ≤ q → A q) (hK : va_K g.1 xx_cls (qm_T g) s) : ∀ (n : Nat), ∀ (u : qm_S) (x0 x1 x2 : Int32) (H : Heap) (locs : List Loc) (ls : Array Slot), qf_Model_isName_b4 n u x0 x1 x2 = some (r, u9) → lv_has ls 3 [(0, .int x0), (1, .int x1), (2, .int x2)] → va_P g.1 xx_cls (qm_W g u) H → va_D A (qm_W g u) → va_S A s.heap H locs → W p l e (xx_rm 0 0) s m args below meth c H locs 0 0 (MQ below (xx_Q g.1 (qm_T g) (qm_W g) (some (.int r)) u9 A) args s 0 0 A) (F0 m 4 ls []) := by
  have hx := C.1
  have hb := C.2.1
  have hown := C.2.2.2.1
  have hts := C.2.2.2.2.1
  intro n
  induction n with
  | zero =>
    intro u x0 x1 x2 H locs ls hF
    rw [qf_Model_isName_b4] at hF
    cases hF
  | succ n ih =>
    intro u x0 x1 x2 H locs ls hF hl hP hD hS
    rw [qf_Model_isName_b4] at hF
    refine lv_iload_n hx hb qd_Model_isName_4 rfl (lv_at hl 2 rfl) ?_
    refine lv_bipush (v := (32 : Int32)) hx hb qd_Model_isName_5 (by decide) ?_
    refine lv_icmp_ge (tgt := 50) hx hb qd_Model_isName_7 (by decide) (fun hc => ?_) (fun hc => ?_)
    · have hF := xx_ip hc hF
      refine lv_iload_n hx hb qd_Model_isName_50 rfl (lv_at hl 1 rfl) ?_
      exact xx_zret C hF hK hP hD hS qd_Model_isName_51
    · have hF := xx_in' hc hF
      refine lv_iload_n hx hb qd_Model_isName_10 rfl (lv_at hl 1 rfl) ?_
      refine lv_if_eq (tgt := 42) hx hb qd_Model_isName_11 (by decide) (fun hc => ?_) (fun hc => ?_)
      · have hF := xx_ip hc hF
        exact qw_Model_isName_b42 C hA hK ih  u x0 x2 _ _ _ hF (lv_sub hl [0, 2] rfl) hP hD hS
      · have hF := xx_in' hc hF
        refine lv_iload_n hx hb qd_Model_isName_14 rfl (lv_at hl 0 rfl) ?_
        refine lv_iload_n hx hb qd_Model_isName_15 rfl (lv_at hl 2 rfl) ?_
        refine lv_ishr hx hb qd_Model_isName_16 ?_
        refine lv_sipush (v := (255 : Int32)) hx hb qd_Model_isName_17 (by decide) ?_
        refine lv_iand hx hb qd_Model_isName_20 ?_
        refine lv_bipush (v := (97 : Int32)) hx hb qd_Model_isName_21 (by decide) ?_
        refine lv_icmp_lt (tgt := 42) hx hb qd_Model_isName_23 (by decide) (fun hc => ?_) (fun hc => ?_)
        · have hF := xx_ip hc hF
          exact qw_Model_isName_b42 C hA hK ih  u x0 x2 _ _ _ hF (lv_sub hl [0, 2] rfl) hP hD hS
        · have hF := xx_in' hc hF
          refine lv_iload_n hx hb qd_Model_isName_26 rfl (lv_at hl 0 rfl) ?_
          refine lv_iload_n hx hb qd_Model_isName_27 rfl (lv_at hl 2 rfl) ?_
          refine lv_ishr hx hb qd_Model_isName_28 ?_
          refine lv_sipush (v := (255 : Int32)) hx hb qd_Model_isName_29 (by decide) ?_
          refine lv_iand hx hb qd_Model_isName_32 ?_
          refine lv_bipush (v := (122 : Int32)) hx hb qd_Model_isName_33 (by decide) ?_
          refine lv_icmp_gt (tgt := 42) hx hb qd_Model_isName_35 (by decide) (fun hc => ?_) (fun hc => ?_)
          · have hF := xx_ip hc hF
            exact qw_Model_isName_b42 C hA hK ih  u x0 x2 _ _ _ hF (lv_sub hl [0, 2] rfl) hP hD hS
          · have hF := xx_in' hc hF
            refine lv_iconst (v := (1 : Int32)) hx hb qd_Model_isName_38 (by decide) ?_
            refine lv_goto (tgt := 43) hx hb qd_Model_isName_39 (by decide) ?_
            exact qw_Model_isName_b43 C hA hK ih  u x0 x2 (1 : Int32) _ _ _ hF (lv_sub hl [0, 2] rfl) hP hD hS
set_option maxHeartbeats 4000000 in
set_option maxRecDepth 100000 in
theorem qc_Model_isName (l : Launch) (g : xx_G) (u : qm_S) (x0 : Int32) (r : Int32) (u9 : qm_S) (hF : qf_Model_isName u x0 = some (r, u9)) : xx_M l g.1 (qm_T g) (qm_W g) ky_Model_isName kb_Model_isName 3 (some .boolean) (xx_rm 0 0) [.int x0] u (some (.int r)) u9 := by
  refine xx_body (by decide) (Nat.le_of_ble_eq_true rfl) ?_
  intro p e s m args below meth c A ls C hin hK hl hA hP hD hS
  have hx := C.1
  have hb := C.2.1
  have hown := C.2.2.2.1
  have hts := C.2.2.2.2.1
  have hl : lv_has ls 3 [(0, .int x0)] := hl
  unfold qf_Model_isName at hF
  refine lv_iconst (v := (1 : Int32)) hx hb qd_Model_isName_0 (by decide) ?_
  obtain ⟨v1, ev1, hF⟩ := xx_nm_some hF
  refine xx_topi ev1 ?_
  refine lv_istore_n hx hb qd_Model_isName_1 rfl hl (by decide) rfl (fun ls hl => ?_)
  refine lv_iconst (v := (0 : Int32)) hx hb qd_Model_isName_2 (by decide) ?_
  obtain ⟨v2, ev2, hF⟩ := xx_nm_some hF
  refine xx_topi ev2 ?_
  refine lv_istore_n hx hb qd_Model_isName_3 rfl hl (by decide) rfl (fun ls hl => ?_)
  exact qw_Model_isName_b4 C hA hK xx_fu u x0 v1 v2 _ _ _ hF (lv_sub hl [2, 1, 0] rfl) hP hD hS
theorem kw_888 : Cond.fieldLink "ModuleLoaderModel" 93 "ModuleLoaderModel" "taped" "I" ∈ xx_tb := xx_in (List.mem_append_right _ (List.mem_of_getElem? (i := 888) (by decide +kernel))) (by decide +kernel)
theorem kw_889 : Cond.fieldLink "ModuleLoaderModel" 47 "ModuleLoaderModel" "tape" "[I" ∈ xx_tb := xx_in (List.mem_append_right _ (List.mem_of_getElem? (i := 889) (by decide +kernel))) (by decide +kernel)
theorem qd_Model_feedByte_0 : decode kb_Model_feedByte 0 = .ok (.aload_n 0, 1) := by decide +kernel
theorem qd_Model_feedByte_1 : decode kb_Model_feedByte 1 = .ok (.iconst 0, 1) := by decide +kernel
theorem qd_Model_feedByte_2 : decode kb_Model_feedByte 2 = .ok (.putfield 57, 3) := by decide +kernel
theorem qd_Model_feedByte_5 : decode kb_Model_feedByte 5 = .ok (.aload_n 0, 1) := by decide +kernel
theorem qd_Model_feedByte_6 : decode kb_Model_feedByte 6 = .ok (.getfield 93, 3) := by decide +kernel
theorem qd_Model_feedByte_9 : decode kb_Model_feedByte 9 = .ok (.sipush (1200), 3) := by decide +kernel
theorem qd_Model_feedByte_12 : decode kb_Model_feedByte 12 = .ok (.if_icmp .ne (5), 3) := by decide +kernel
theorem qd_Model_feedByte_15 : decode kb_Model_feedByte 15 = .ok (.iconst (-1), 1) := by decide +kernel
theorem qd_Model_feedByte_16 : decode kb_Model_feedByte 16 = .ok (.ireturn, 1) := by decide +kernel
theorem qd_Model_feedByte_17 : decode kb_Model_feedByte 17 = .ok (.aload_n 0, 1) := by decide +kernel
theorem qd_Model_feedByte_18 : decode kb_Model_feedByte 18 = .ok (.getfield 47, 3) := by decide +kernel
theorem qd_Model_feedByte_21 : decode kb_Model_feedByte 21 = .ok (.aload_n 0, 1) := by decide +kernel
theorem qd_Model_feedByte_22 : decode kb_Model_feedByte 22 = .ok (.getfield 93, 3) := by decide +kernel
theorem qd_Model_feedByte_25 : decode kb_Model_feedByte 25 = .ok (.iload_n 1, 1) := by decide +kernel
theorem qd_Model_feedByte_26 : decode kb_Model_feedByte 26 = .ok (.sipush (255), 3) := by decide +kernel
theorem qd_Model_feedByte_29 : decode kb_Model_feedByte 29 = .ok (.iand, 1) := by decide +kernel
theorem qd_Model_feedByte_30 : decode kb_Model_feedByte 30 = .ok (.iastore, 1) := by decide +kernel
theorem qd_Model_feedByte_31 : decode kb_Model_feedByte 31 = .ok (.aload_n 0, 1) := by decide +kernel
theorem qd_Model_feedByte_32 : decode kb_Model_feedByte 32 = .ok (.dup, 1) := by decide +kernel
theorem qd_Model_feedByte_33 : decode kb_Model_feedByte 33 = .ok (.getfield 93, 3) := by decide +kernel
theorem qd_Model_feedByte_36 : decode kb_Model_feedByte 36 = .ok (.iconst 1, 1) := by decide +kernel
theorem qd_Model_feedByte_37 : decode kb_Model_feedByte 37 = .ok (.iadd, 1) := by decide +kernel
theorem qd_Model_feedByte_38 : decode kb_Model_feedByte 38 = .ok (.putfield 93, 3) := by decide +kernel
theorem qd_Model_feedByte_41 : decode kb_Model_feedByte 41 = .ok (.aload_n 0, 1) := by decide +kernel
theorem qd_Model_feedByte_42 : decode kb_Model_feedByte 42 = .ok (.getfield 93, 3) := by decide +kernel
theorem qd_Model_feedByte_45 : decode kb_Model_feedByte 45 = .ok (.ireturn, 1) := by decide +kernel
def qf_Model_feedByte (u : qm_S) (x1 : Int32) : Option (Int32 × qm_S) := xx_nm (va_up u.1 0 (0 : Int32), u.2) fun u1 => if (u1.1 15) = (1200 : Int32) then (some ((-1 : Int32), u1)) else ((xx_as (u1.2 13) 1200 (u1.1 15) (x1 &&& (255 : Int32))).bind fun f2 => xx_nm (u1.1, va_up u1.2 13 f2) fun u3 => xx_nm ((u3.1 15) + (1 : Int32)) fun v4 => xx_nm (va_up u3.1 15 v4, u3.2) fun u5 => some ((u5.1 15), u5))
set_option maxHeartbeats 4000000 in
set_option maxRecDepth 100000 in
theorem qc_Model_feedByte (l : Launch) (g : xx_G) (u : qm_S) (x1 : Int32) (r : Int32) (u9 : qm_S) (hF : qf_Model_feedByte u x1 = some (r, u9)) : xx_M l g.1 (qm_T g) (qm_W g) ky_Model_feedByte kb_Model_feedByte 2 (some .int) (xx_rm 0 0) [.ref (g.2.1 0), .int x1] u (some (.int r)) u9 := by
  refine xx_body (by decide) (Nat.le_of_ble_eq_true rfl) ?_
  intro p e s m args below meth c A ls C hin hK hl hA hP hD hS
  have hx := C.1
  have hb := C.2.1
  have hown := C.2.2.2.1
  have hts := C.2.2.2.2.1
  have hl : lv_has ls 2 [(0, .ref (g.2.1 0)), (1, .int x1)] := hl
  unfold qf_Model_feedByte at hF
  refine lv_aload_n hx hb qd_Model_feedByte_0 rfl (lv_at hl 0 rfl) ?_
  refine lv_iconst (v := (0 : Int32)) hx hb qd_Model_feedByte_1 (by decide) ?_
  obtain ⟨u1, eu1, hF⟩ := xx_nm_some hF
  refine xx_put (ws1 := qm_W g u1) C ki_Model kt_Model ko_Model kn_Model hK hP hD hS 0 rfl rfl 0 (by decide) kw_873 rfl rfl rfl rfl (Nat.le_of_ble_eq_true rfl) (by rw [eu1]; rfl) qd_Model_feedByte_2 (fun H locs hP hD hS => ?_)
  refine lv_aload_n hx hb qd_Model_feedByte_5 rfl (lv_at hl 0 rfl) ?_
  refine xx_get C ki_Model hK hP 0 rfl rfl 15 (by decide) kw_888 rfl rfl qd_Model_feedByte_6 ?_
  refine lv_sipush (v := (1200 : Int32)) hx hb qd_Model_feedByte_9 (by decide) ?_
  refine lv_icmp_ne (tgt := 17) hx hb qd_Model_feedByte_12 (by decide) (fun hc => ?_) (fun hc => ?_)
  · have hF := xx_in' hc hF
    refine lv_aload_n hx hb qd_Model_feedByte_17 rfl (lv_at hl 0 rfl) ?_
    refine xx_get C ki_Model hK hP 0 rfl rfl 16 (by decide) kw_889 rfl rfl qd_Model_feedByte_18 ?_
    refine lv_aload_n hx hb qd_Model_feedByte_21 rfl (lv_at hl 0 rfl) ?_
    refine xx_get C ki_Model hK hP 0 rfl rfl 15 (by decide) kw_888 rfl rfl qd_Model_feedByte_22 ?_
    refine lv_iload_n hx hb qd_Model_feedByte_25 rfl (lv_at hl 1 rfl) ?_
    refine lv_sipush (v := (255 : Int32)) hx hb qd_Model_feedByte_26 (by decide) ?_
    refine lv_iand hx hb qd_Model_feedByte_29 ?_
    obtain ⟨f2, ef2, hF⟩ := xx_ob hF
    obtain ⟨u3, eu3, hF⟩ := xx_nm_some hF
    refine xx_iast (ws1 := qm_W g u3) C hK hP hD hS 13 0 rfl rfl ef2 (by rw [eu3]; rfl) qd_Model_feedByte_30 (fun H locs hP hD hS => ?_)
    refine lv_aload_n hx hb qd_Model_feedByte_31 rfl (lv_at hl 0 rfl) ?_
    refine lv_dup hx hb qd_Model_feedByte_32 rfl ?_
    refine xx_get C ki_Model hK hP 0 rfl rfl 15 (by decide) kw_888 rfl rfl qd_Model_feedByte_33 ?_
    refine lv_iconst (v := (1 : Int32)) hx hb qd_Model_feedByte_36 (by decide) ?_
    refine lv_iadd hx hb qd_Model_feedByte_37 ?_
    obtain ⟨v4, ev4, hF⟩ := xx_nm_some hF
    refine xx_topi ev4 ?_
    obtain ⟨u5, eu5, hF⟩ := xx_nm_some hF
    refine xx_put (ws1 := qm_W g u5) C ki_Model kt_Model ko_Model kn_Model hK hP hD hS 0 rfl rfl 15 (by decide) kw_888 rfl rfl rfl rfl (Nat.le_of_ble_eq_true rfl) (by rw [eu5]; rfl) qd_Model_feedByte_38 (fun H locs hP hD hS => ?_)
    refine lv_aload_n hx hb qd_Model_feedByte_41 rfl (lv_at hl 0 rfl) ?_
    refine xx_get C ki_Model hK hP 0 rfl rfl 15 (by decide) kw_888 rfl rfl qd_Model_feedByte_42 ?_
    exact xx_iret C hF hK hP hD hS qd_Model_feedByte_45
  · have hF := xx_ip hc hF
    refine lv_iconst (v := (-1 : Int32)) hx hb qd_Model_feedByte_15 (by decide) ?_
    exact xx_iret C hF hK hP hD hS qd_Model_feedByte_16
end
