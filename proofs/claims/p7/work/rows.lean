section
-- ===== PART A: goes FIRST, ahead of the names: the tables' words, and 'selects' of the private methods out of them =====
/-- a private method of a class that the tables say can be made, by its rows of tables_1 -/
def lw_okq (q : MethodName × Nat) : Prop := (q.1.cls ≠ "java/lang/invoke/MethodHandle" ∧ q.1.cls ≠ "java/lang/invoke/VarHandle") ∧ Cond.instantiable q.1.cls q.2 ∈ tables_1 ∧ Cond.privateMethod q.1 ∈ tables_1 ∧ Cond.instanceMethod q.1 ∈ tables_1
theorem lw_p0 : lw_okq (⟨"RowImprover$Liveness", "findMore", "(LRowImprover$Program;)Z"⟩, 1) := ⟨⟨by decide +kernel, by decide +kernel⟩, List.mem_of_getElem? (i := 69) (by decide +kernel), List.mem_of_getElem? (i := 202) (by decide +kernel), List.mem_of_getElem? (i := 203) (by decide +kernel)⟩
theorem lw_p1 : lw_okq (⟨"RowImprover$Liveness", "behind", "(LRowImprover$Program;I)I"⟩, 1) := ⟨⟨by decide +kernel, by decide +kernel⟩, List.mem_of_getElem? (i := 69) (by decide +kernel), List.mem_of_getElem? (i := 210) (by decide +kernel), List.mem_of_getElem? (i := 211) (by decide +kernel)⟩
theorem lw_p2 : lw_okq (⟨"RowImprover$Improver", "improveAt", "(LRowImprover$Program;I)I"⟩, 7) := ⟨⟨by decide +kernel, by decide +kernel⟩, List.mem_of_getElem? (i := 108) (by decide +kernel), List.mem_of_getElem? (i := 241) (by decide +kernel), List.mem_of_getElem? (i := 242) (by decide +kernel)⟩
theorem lw_p3 : lw_okq (⟨"RowImprover$Program", "beginsBlock", "(I)Z"⟩, 2) := ⟨⟨by decide +kernel, by decide +kernel⟩, List.mem_of_getElem? (i := 30) (by decide +kernel), List.mem_of_getElem? (i := 260) (by decide +kernel), List.mem_of_getElem? (i := 261) (by decide +kernel)⟩
theorem lw_p4 : lw_okq (⟨"RowImprover$Improver", "nothingDoes", "(I)Z"⟩, 7) := ⟨⟨by decide +kernel, by decide +kernel⟩, List.mem_of_getElem? (i := 108) (by decide +kernel), List.mem_of_getElem? (i := 283) (by decide +kernel), List.mem_of_getElem? (i := 284) (by decide +kernel)⟩
theorem lw_p5 : lw_okq (⟨"RowImprover$Improver", "firstInstruction", "(I)I"⟩, 7) := ⟨⟨by decide +kernel, by decide +kernel⟩, List.mem_of_getElem? (i := 108) (by decide +kernel), List.mem_of_getElem? (i := 306) (by decide +kernel), List.mem_of_getElem? (i := 307) (by decide +kernel)⟩
theorem lw_p6 : lw_okq (⟨"RowImprover$Improver", "putForRow", "(LRowImprover$Program;III)I"⟩, 7) := ⟨⟨by decide +kernel, by decide +kernel⟩, List.mem_of_getElem? (i := 108) (by decide +kernel), List.mem_of_getElem? (i := 326) (by decide +kernel), List.mem_of_getElem? (i := 327) (by decide +kernel)⟩
theorem lw_p7 : lw_okq (⟨"RowImprover$Program", "moveTargetsAbove", "(II)V"⟩, 2) := ⟨⟨by decide +kernel, by decide +kernel⟩, List.mem_of_getElem? (i := 30) (by decide +kernel), List.mem_of_getElem? (i := 334) (by decide +kernel), List.mem_of_getElem? (i := 335) (by decide +kernel)⟩
theorem lw_p8 : lw_okq (⟨"java/lang/Throwable", "fillInStackTrace", "(I)Ljava/lang/Throwable;"⟩, 6) := ⟨⟨by decide +kernel, by decide +kernel⟩, List.mem_of_getElem? (i := 403) (by decide +kernel), List.mem_of_getElem? (i := 401) (by decide +kernel), List.mem_of_getElem? (i := 402) (by decide +kernel)⟩
theorem lw_p9 : lw_okq (⟨"RowImprover$Machine", "step", "(I)V"⟩, 6) := ⟨⟨by decide +kernel, by decide +kernel⟩, List.mem_of_getElem? (i := 44) (by decide +kernel), List.mem_of_getElem? (i := 529) (by decide +kernel), List.mem_of_getElem? (i := 530) (by decide +kernel)⟩
theorem lw_p10 : lw_okq (⟨"RowImprover$Machine", "jumps", "(I)Z"⟩, 6) := ⟨⟨by decide +kernel, by decide +kernel⟩, List.mem_of_getElem? (i := 44) (by decide +kernel), List.mem_of_getElem? (i := 533) (by decide +kernel), List.mem_of_getElem? (i := 534) (by decide +kernel)⟩
theorem lw_p11 : lw_okq (⟨"RowImproverModel", "put", "(IIIII)V"⟩, 16) := ⟨⟨by decide +kernel, by decide +kernel⟩, List.mem_of_getElem? (i := 599) (by decide +kernel), List.mem_of_getElem? (i := 668) (by decide +kernel), List.mem_of_getElem? (i := 669) (by decide +kernel)⟩
theorem lw_p12 : lw_okq (⟨"RowImproverModel", "execute", "(I)V"⟩, 16) := ⟨⟨by decide +kernel, by decide +kernel⟩, List.mem_of_getElem? (i := 599) (by decide +kernel), List.mem_of_getElem? (i := 696) (by decide +kernel), List.mem_of_getElem? (i := 697) (by decide +kernel)⟩
theorem lw_p13 : lw_okq (⟨"RowImproverModel", "does", "(I)V"⟩, 16) := ⟨⟨by decide +kernel, by decide +kernel⟩, List.mem_of_getElem? (i := 599) (by decide +kernel), List.mem_of_getElem? (i := 700) (by decide +kernel), List.mem_of_getElem? (i := 701) (by decide +kernel)⟩
theorem lw_p14 : lw_okq (⟨"RowImproverModel", "findLives", "()V"⟩, 16) := ⟨⟨by decide +kernel, by decide +kernel⟩, List.mem_of_getElem? (i := 599) (by decide +kernel), List.mem_of_getElem? (i := 715) (by decide +kernel), List.mem_of_getElem? (i := 716) (by decide +kernel)⟩
theorem lw_p15 : lw_okq (⟨"RowImproverModel", "livesAt", "(I)I"⟩, 16) := ⟨⟨by decide +kernel, by decide +kernel⟩, List.mem_of_getElem? (i := 599) (by decide +kernel), List.mem_of_getElem? (i := 719) (by decide +kernel), List.mem_of_getElem? (i := 720) (by decide +kernel)⟩
def lw_privs_1 : List (MethodName × Nat) := [(⟨"RowImprover$Liveness", "findMore", "(LRowImprover$Program;)Z"⟩, 1), (⟨"RowImprover$Liveness", "behind", "(LRowImprover$Program;I)I"⟩, 1), (⟨"RowImprover$Improver", "improveAt", "(LRowImprover$Program;I)I"⟩, 7), (⟨"RowImprover$Program", "beginsBlock", "(I)Z"⟩, 2), (⟨"RowImprover$Improver", "nothingDoes", "(I)Z"⟩, 7), (⟨"RowImprover$Improver", "firstInstruction", "(I)I"⟩, 7), (⟨"RowImprover$Improver", "putForRow", "(LRowImprover$Program;III)I"⟩, 7), (⟨"RowImprover$Program", "moveTargetsAbove", "(II)V"⟩, 2), (⟨"java/lang/Throwable", "fillInStackTrace", "(I)Ljava/lang/Throwable;"⟩, 6), (⟨"RowImprover$Machine", "step", "(I)V"⟩, 6), (⟨"RowImprover$Machine", "jumps", "(I)Z"⟩, 6), (⟨"RowImproverModel", "put", "(IIIII)V"⟩, 16), (⟨"RowImproverModel", "execute", "(I)V"⟩, 16), (⟨"RowImproverModel", "does", "(I)V"⟩, 16), (⟨"RowImproverModel", "findLives", "()V"⟩, 16), (⟨"RowImproverModel", "livesAt", "(I)I"⟩, 16)]
theorem lw_r1 : ∀ q ∈ lw_privs_1, lw_okq q := List.forall_mem_cons.mpr ⟨lw_p0, List.forall_mem_cons.mpr ⟨lw_p1, List.forall_mem_cons.mpr ⟨lw_p2, List.forall_mem_cons.mpr ⟨lw_p3, List.forall_mem_cons.mpr ⟨lw_p4, List.forall_mem_cons.mpr ⟨lw_p5, List.forall_mem_cons.mpr ⟨lw_p6, List.forall_mem_cons.mpr ⟨lw_p7, List.forall_mem_cons.mpr ⟨lw_p8, List.forall_mem_cons.mpr ⟨lw_p9, List.forall_mem_cons.mpr ⟨lw_p10, List.forall_mem_cons.mpr ⟨lw_p11, List.forall_mem_cons.mpr ⟨lw_p12, List.forall_mem_cons.mpr ⟨lw_p13, List.forall_mem_cons.mpr ⟨lw_p14, List.forall_mem_cons.mpr ⟨lw_p15, fun _ h => absurd h List.not_mem_nil⟩⟩⟩⟩⟩⟩⟩⟩⟩⟩⟩⟩⟩⟩⟩⟩
theorem lw_p16 : lw_okq (⟨"RowImproverModel", "reads", "(I)I"⟩, 16) := ⟨⟨by decide +kernel, by decide +kernel⟩, List.mem_of_getElem? (i := 599) (by decide +kernel), List.mem_of_getElem? (i := 726) (by decide +kernel), List.mem_of_getElem? (i := 727) (by decide +kernel)⟩
theorem lw_p17 : lw_okq (⟨"RowImproverModel", "isBegin", "(I)Z"⟩, 16) := ⟨⟨by decide +kernel, by decide +kernel⟩, List.mem_of_getElem? (i := 599) (by decide +kernel), List.mem_of_getElem? (i := 734) (by decide +kernel), List.mem_of_getElem? (i := 735) (by decide +kernel)⟩
theorem lw_p18 : lw_okq (⟨"RowImproverModel", "isThere", "(II)Z"⟩, 16) := ⟨⟨by decide +kernel, by decide +kernel⟩, List.mem_of_getElem? (i := 599) (by decide +kernel), List.mem_of_getElem? (i := 742) (by decide +kernel), List.mem_of_getElem? (i := 743) (by decide +kernel)⟩
theorem lw_p19 : lw_okq (⟨"RowImproverModel", "isPlain", "(II)Z"⟩, 16) := ⟨⟨by decide +kernel, by decide +kernel⟩, List.mem_of_getElem? (i := 599) (by decide +kernel), List.mem_of_getElem? (i := 746) (by decide +kernel), List.mem_of_getElem? (i := 747) (by decide +kernel)⟩
theorem lw_p20 : lw_okq (⟨"RowImproverModel", "agree", "(IIIII)Z"⟩, 16) := ⟨⟨by decide +kernel, by decide +kernel⟩, List.mem_of_getElem? (i := 599) (by decide +kernel), List.mem_of_getElem? (i := 750) (by decide +kernel), List.mem_of_getElem? (i := 751) (by decide +kernel)⟩
theorem lw_p21 : lw_okq (⟨"RowImproverModel", "begin", "(I)V"⟩, 16) := ⟨⟨by decide +kernel, by decide +kernel⟩, List.mem_of_getElem? (i := 599) (by decide +kernel), List.mem_of_getElem? (i := 754) (by decide +kernel), List.mem_of_getElem? (i := 755) (by decide +kernel)⟩
theorem lw_p22 : lw_okq (⟨"RowImproverModel", "improved", "(I)I"⟩, 16) := ⟨⟨by decide +kernel, by decide +kernel⟩, List.mem_of_getElem? (i := 599) (by decide +kernel), List.mem_of_getElem? (i := 762) (by decide +kernel), List.mem_of_getElem? (i := 763) (by decide +kernel)⟩
theorem lw_p23 : lw_okq (⟨"RowImproverModel", "isRow", "(II)Z"⟩, 16) := ⟨⟨by decide +kernel, by decide +kernel⟩, List.mem_of_getElem? (i := 599) (by decide +kernel), List.mem_of_getElem? (i := 766) (by decide +kernel), List.mem_of_getElem? (i := 767) (by decide +kernel)⟩
theorem lw_p24 : lw_okq (⟨"RowImproverModel", "isFound", "(III)Z"⟩, 16) := ⟨⟨by decide +kernel, by decide +kernel⟩, List.mem_of_getElem? (i := 599) (by decide +kernel), List.mem_of_getElem? (i := 770) (by decide +kernel), List.mem_of_getElem? (i := 771) (by decide +kernel)⟩
theorem lw_p25 : lw_okq (⟨"RowImproverModel", "isCandidateNumber", "(III)Z"⟩, 16) := ⟨⟨by decide +kernel, by decide +kernel⟩, List.mem_of_getElem? (i := 599) (by decide +kernel), List.mem_of_getElem? (i := 774) (by decide +kernel), List.mem_of_getElem? (i := 775) (by decide +kernel)⟩
theorem lw_p26 : lw_okq (⟨"RowImproverModel", "cut", "(III)V"⟩, 16) := ⟨⟨by decide +kernel, by decide +kernel⟩, List.mem_of_getElem? (i := 599) (by decide +kernel), List.mem_of_getElem? (i := 778) (by decide +kernel), List.mem_of_getElem? (i := 779) (by decide +kernel)⟩
def lw_privs_2 : List (MethodName × Nat) := [(⟨"RowImproverModel", "reads", "(I)I"⟩, 16), (⟨"RowImproverModel", "isBegin", "(I)Z"⟩, 16), (⟨"RowImproverModel", "isThere", "(II)Z"⟩, 16), (⟨"RowImproverModel", "isPlain", "(II)Z"⟩, 16), (⟨"RowImproverModel", "agree", "(IIIII)Z"⟩, 16), (⟨"RowImproverModel", "begin", "(I)V"⟩, 16), (⟨"RowImproverModel", "improved", "(I)I"⟩, 16), (⟨"RowImproverModel", "isRow", "(II)Z"⟩, 16), (⟨"RowImproverModel", "isFound", "(III)Z"⟩, 16), (⟨"RowImproverModel", "isCandidateNumber", "(III)Z"⟩, 16), (⟨"RowImproverModel", "cut", "(III)V"⟩, 16)]
theorem lw_r2 : ∀ q ∈ lw_privs_2, lw_okq q := List.forall_mem_cons.mpr ⟨lw_p16, List.forall_mem_cons.mpr ⟨lw_p17, List.forall_mem_cons.mpr ⟨lw_p18, List.forall_mem_cons.mpr ⟨lw_p19, List.forall_mem_cons.mpr ⟨lw_p20, List.forall_mem_cons.mpr ⟨lw_p21, List.forall_mem_cons.mpr ⟨lw_p22, List.forall_mem_cons.mpr ⟨lw_p23, List.forall_mem_cons.mpr ⟨lw_p24, List.forall_mem_cons.mpr ⟨lw_p25, List.forall_mem_cons.mpr ⟨lw_p26, fun _ h => absurd h List.not_mem_nil⟩⟩⟩⟩⟩⟩⟩⟩⟩⟩⟩
def lw_privs : List (MethodName × Nat) := lw_privs_1 ++ (lw_privs_2)
def lw_tbl : List Cond := k2_sels lw_privs ++ tables_1
theorem lw_privs_ok : ∀ q ∈ lw_privs, lw_okq q := by
  show ∀ q ∈ lw_privs_1 ++ (lw_privs_2), lw_okq q
  exact List.forall_mem_append.mpr ⟨lw_r1, lw_r2⟩
end
section
/-! tables of the abstract machine, by the text program gen.py out of the claim's bytecode: methods by number, an entry an instruction -/
abbrev rz_I : Type := Nat × Instr × Nat × Nat × Nat × Nat
/-- 0: RowImproverLaw.law([I)Z -/
def rz_T0 : List (Nat × rz_I) := [(3, (0, .dup, 1, 0, 0, 0)), (7, (0, .astore_n 1, 1, 0, 0, 0)), (11, (0, .dup, 1, 0, 0, 0)), (15, (0, .astore_n 2, 1, 0, 0, 0)), (16, (0, .iconst 1, 1, 0, 0, 0)), (19, (0, .astore_n 3, 1, 0, 0, 0)), (20, (0, .iconst 0, 1, 0, 0, 0)), (21, (0, .istore 4, 2, 0, 0, 0)), (23, (0, .iload 4, 2, 0, 0, 0)), (25, (0, .aload_n 0, 1, 0, 0, 0)), (26, (4, .arraylength, 1, 0, 0, 0)), (27, (0, .bipush 6, 2, 0, 0, 0)), (29, (0, .isub, 1, 0, 0, 0)), (30, (0, .if_icmp .gt 558, 3, 588, 0, 0)), (33, (0, .aload_n 0, 1, 0, 0, 0)), (34, (0, .iload 4, 2, 0, 0, 0)), (36, (4, .iaload, 1, 0, 0, 0)), (37, (0, .bipush 15, 2, 0, 0, 0)), (39, (0, .iand, 1, 0, 0, 0)), (40, (0, .tableswitch 542 0 12 #[68, 132, 205, 218, 231, 271, 319, 347, 372, 400, 428, 504, 517], 68, 0, 0, 0)), (108, (0, .aload_n 1, 1, 0, 0, 0)), (109, (0, .aload_n 0, 1, 0, 0, 0)), (110, (0, .iload 4, 2, 0, 0, 0)), (112, (0, .iconst 1, 1, 0, 0, 0)), (113, (0, .iadd, 1, 0, 0, 0)), (114, (4, .iaload, 1, 0, 0, 0)), (115, (0, .aload_n 0, 1, 0, 0, 0)), (116, (0, .iload 4, 2, 0, 0, 0)), (118, (0, .iconst 2, 1, 0, 0, 0)), (119, (0, .iadd, 1, 0, 0, 0)), (120, (4, .iaload, 1, 0, 0, 0)), (121, (0, .aload_n 0, 1, 0, 0, 0)), (122, (0, .iload 4, 2, 0, 0, 0)), (124, (0, .iconst 3, 1, 0, 0, 0)), (125, (0, .iadd, 1, 0, 0, 0)), (126, (4, .iaload, 1, 0, 0, 0)), (127, (0, .aload_n 0, 1, 0, 0, 0)), (128, (0, .iload 4, 2, 0, 0, 0)), (130, (0, .iconst 4, 1, 0, 0, 0)), (131, (0, .iadd, 1, 0, 0, 0)), (132, (4, .iaload, 1, 0, 0, 0)), (133, (0, .aload_n 3, 1, 0, 0, 0)), (134, (1, .invokestatic 51, 3, 104, 6, 0)), (137, (0, .istore 5, 2, 0, 0, 0)), (139, (0, .aload_n 2, 1, 0, 0, 0)), (140, (0, .aload_n 0, 1, 0, 0, 0)), (141, (0, .iload 4, 2, 0, 0, 0)), (143, (0, .iconst 1, 1, 0, 0, 0)), (144, (0, .iadd, 1, 0, 0, 0)), (145, (4, .iaload, 1, 0, 0, 0)), (146, (0, .aload_n 0, 1, 0, 0, 0)), (147, (0, .iload 4, 2, 0, 0, 0)), (149, (0, .iconst 2, 1, 0, 0, 0)), (150, (0, .iadd, 1, 0, 0, 0)), (151, (4, .iaload, 1, 0, 0, 0)), (152, (0, .aload_n 0, 1, 0, 0, 0)), (153, (0, .iload 4, 2, 0, 0, 0)), (155, (0, .iconst 3, 1, 0, 0, 0)), (156, (0, .iadd, 1, 0, 0, 0)), (157, (4, .iaload, 1, 0, 0, 0)), (158, (0, .aload_n 0, 1, 0, 0, 0)), (159, (0, .iload 4, 2, 0, 0, 0)), (161, (0, .iconst 4, 1, 0, 0, 0)), (162, (0, .iadd, 1, 0, 0, 0)), (163, (4, .iaload, 1, 0, 0, 0)), (164, (1, .invokevirtual 56, 3, 71, 5, 0)), (167, (0, .istore 6, 2, 0, 0, 0)), (169, (0, .goto 413, 3, 582, 0, 0)), (172, (0, .aload_n 1, 1, 0, 0, 0)), (173, (0, .aload_n 0, 1, 0, 0, 0)), (174, (0, .iload 4, 2, 0, 0, 0)), (176, (0, .iconst 1, 1, 0, 0, 0)), (177, (0, .iadd, 1, 0, 0, 0)), (178, (4, .iaload, 1, 0, 0, 0)), (179, (0, .aload_n 0, 1, 0, 0, 0)), (180, (0, .iload 4, 2, 0, 0, 0)), (182, (0, .iconst 2, 1, 0, 0, 0)), (183, (0, .iadd, 1, 0, 0, 0)), (184, (4, .iaload, 1, 0, 0, 0)), (185, (0, .aload_n 0, 1, 0, 0, 0)), (186, (0, .iload 4, 2, 0, 0, 0)), (188, (0, .iconst 3, 1, 0, 0, 0)), (189, (0, .iadd, 1, 0, 0, 0)), (190, (4, .iaload, 1, 0, 0, 0)), (191, (0, .aload_n 0, 1, 0, 0, 0)), (192, (0, .iload 4, 2, 0, 0, 0)), (194, (0, .iconst 4, 1, 0, 0, 0)), (195, (0, .iadd, 1, 0, 0, 0)), (196, (4, .iaload, 1, 0, 0, 0)), (197, (0, .aload_n 0, 1, 0, 0, 0)), (198, (0, .iload 4, 2, 0, 0, 0)), (200, (0, .iconst 5, 1, 0, 0, 0)), (201, (0, .iadd, 1, 0, 0, 0)), (202, (4, .iaload, 1, 0, 0, 0)), (203, (1, .invokestatic 57, 3, 105, 6, 0)), (206, (0, .istore 5, 2, 0, 0, 0)), (208, (0, .aload_n 2, 1, 0, 0, 0)), (209, (0, .aload_n 0, 1, 0, 0, 0)), (210, (0, .iload 4, 2, 0, 0, 0)), (212, (0, .iconst 1, 1, 0, 0, 0)), (213, (0, .iadd, 1, 0, 0, 0)), (214, (4, .iaload, 1, 0, 0, 0)), (215, (0, .aload_n 0, 1, 0, 0, 0)), (216, (0, .iload 4, 2, 0, 0, 0)), (218, (0, .iconst 2, 1, 0, 0, 0)), (219, (0, .iadd, 1, 0, 0, 0)), (220, (4, .iaload, 1, 0, 0, 0)), (221, (0, .aload_n 0, 1, 0, 0, 0)), (222, (0, .iload 4, 2, 0, 0, 0)), (224, (0, .iconst 3, 1, 0, 0, 0)), (225, (0, .iadd, 1, 0, 0, 0)), (226, (4, .iaload, 1, 0, 0, 0)), (227, (0, .aload_n 0, 1, 0, 0, 0)), (228, (0, .iload 4, 2, 0, 0, 0)), (230, (0, .iconst 4, 1, 0, 0, 0)), (231, (0, .iadd, 1, 0, 0, 0)), (232, (4, .iaload, 1, 0, 0, 0)), (233, (0, .aload_n 0, 1, 0, 0, 0)), (234, (0, .iload 4, 2, 0, 0, 0)), (236, (0, .iconst 5, 1, 0, 0, 0)), (237, (0, .iadd, 1, 0, 0, 0)), (238, (4, .iaload, 1, 0, 0, 0)), (239, (1, .invokevirtual 60, 3, 75, 6, 0)), (242, (0, .goto 340, 3, 582, 0, 0)), (245, (0, .aload_n 1, 1, 0, 0, 0)), (246, (1, .invokevirtual 61, 3, 1, 1, 0)), (249, (0, .pop, 1, 0, 0, 0)), (250, (0, .aload_n 2, 1, 0, 0, 0)), (251, (1, .invokevirtual 65, 3, 76, 1, 0)), (254, (0, .pop, 1, 0, 0, 0)), (255, (0, .goto 327, 3, 582, 0, 0)), (258, (0, .aload_n 1, 1, 0, 0, 0)), (259, (1, .invokevirtual 66, 3, 3, 1, 0)), (262, (0, .pop, 1, 0, 0, 0)), (263, (0, .aload_n 2, 1, 0, 0, 0)), (264, (1, .invokevirtual 69, 3, 77, 1, 0)), (267, (0, .pop, 1, 0, 0, 0)), (268, (0, .goto 314, 3, 582, 0, 0)), (271, (0, .aload_n 1, 1, 0, 0, 0)), (272, (0, .aload_n 0, 1, 0, 0, 0)), (273, (0, .iload 4, 2, 0, 0, 0)), (275, (0, .iconst 1, 1, 0, 0, 0)), (276, (0, .iadd, 1, 0, 0, 0)), (277, (4, .iaload, 1, 0, 0, 0)), (278, (0, .aload_n 0, 1, 0, 0, 0)), (279, (0, .iload 4, 2, 0, 0, 0)), (281, (0, .iconst 2, 1, 0, 0, 0)), (282, (0, .iadd, 1, 0, 0, 0)), (283, (4, .iaload, 1, 0, 0, 0)), (284, (0, .aload_n 3, 1, 0, 0, 0)), (285, (1, .invokestatic 70, 3, 106, 4, 0)), (288, (0, .istore 5, 2, 0, 0, 0)), (290, (0, .aload_n 2, 1, 0, 0, 0)), (291, (0, .aload_n 0, 1, 0, 0, 0)), (292, (0, .iload 4, 2, 0, 0, 0)), (294, (0, .iconst 1, 1, 0, 0, 0)), (295, (0, .iadd, 1, 0, 0, 0)), (296, (4, .iaload, 1, 0, 0, 0)), (297, (0, .aload_n 0, 1, 0, 0, 0)), (298, (0, .iload 4, 2, 0, 0, 0)), (300, (0, .iconst 2, 1, 0, 0, 0)), (301, (0, .iadd, 1, 0, 0, 0)), (302, (4, .iaload, 1, 0, 0, 0)), (303, (1, .invokevirtual 73, 3, 78, 3, 0)), (306, (0, .istore 6, 2, 0, 0, 0)), (308, (0, .goto 274, 3, 582, 0, 0)), (311, (0, .aload_n 1, 1, 0, 0, 0)), (312, (0, .aload_n 0, 1, 0, 0, 0)), (313, (0, .iload 4, 2, 0, 0, 0)), (315, (0, .iconst 1, 1, 0, 0, 0)), (316, (0, .iadd, 1, 0, 0, 0)), (317, (4, .iaload, 1, 0, 0, 0)), (318, (0, .aload_n 0, 1, 0, 0, 0)), (319, (0, .iload 4, 2, 0, 0, 0)), (321, (0, .iconst 2, 1, 0, 0, 0)), (322, (0, .iadd, 1, 0, 0, 0)), (323, (4, .iaload, 1, 0, 0, 0)), (324, (1, .invokestatic 74, 3, 107, 3, 0)), (327, (0, .istore 5, 2, 0, 0, 0)), (329, (0, .aload_n 2, 1, 0, 0, 0)), (330, (0, .aload_n 0, 1, 0, 0, 0)), (331, (0, .iload 4, 2, 0, 0, 0)), (333, (0, .iconst 1, 1, 0, 0, 0)), (334, (0, .iadd, 1, 0, 0, 0)), (335, (4, .iaload, 1, 0, 0, 0)), (336, (0, .aload_n 0, 1, 0, 0, 0)), (337, (0, .iload 4, 2, 0, 0, 0)), (339, (0, .iconst 2, 1, 0, 0, 0)), (340, (0, .iadd, 1, 0, 0, 0)), (341, (4, .iaload, 1, 0, 0, 0)), (342, (1, .invokevirtual 77, 3, 79, 3, 0)), (345, (0, .aload_n 2, 1, 0, 0, 0)), (346, (1, .invokevirtual 78, 3, 70, 1, 0)), (349, (0, .iload 5, 2, 0, 0, 0)), (351, (0, .if_icmp .eq 5, 3, 356, 0, 0)), (354, (0, .iconst 0, 1, 0, 0, 0)), (355, (2, .ireturn, 1, 0, 0, 0)), (356, (0, .goto 226, 3, 582, 0, 0)), (359, (0, .aload_n 1, 1, 0, 0, 0)), (360, (0, .aload_n 0, 1, 0, 0, 0)), (361, (0, .iload 4, 2, 0, 0, 0)), (363, (0, .iconst 1, 1, 0, 0, 0)), (364, (0, .iadd, 1, 0, 0, 0)), (365, (4, .iaload, 1, 0, 0, 0)), (366, (0, .aload_n 3, 1, 0, 0, 0)), (367, (1, .invokestatic 81, 3, 108, 3, 0)), (370, (0, .istore 5, 2, 0, 0, 0)), (372, (0, .aload_n 2, 1, 0, 0, 0)), (373, (0, .aload_n 0, 1, 0, 0, 0)), (374, (0, .iload 4, 2, 0, 0, 0)), (376, (0, .iconst 1, 1, 0, 0, 0)), (377, (0, .iadd, 1, 0, 0, 0)), (378, (4, .iaload, 1, 0, 0, 0)), (379, (1, .invokevirtual 84, 3, 80, 2, 0)), (382, (0, .istore 6, 2, 0, 0, 0)), (384, (0, .goto 198, 3, 582, 0, 0)), (387, (0, .aload_n 1, 1, 0, 0, 0)), (388, (0, .aload_n 0, 1, 0, 0, 0)), (389, (0, .iload 4, 2, 0, 0, 0)), (391, (0, .iconst 1, 1, 0, 0, 0)), (392, (0, .iadd, 1, 0, 0, 0)), (393, (4, .iaload, 1, 0, 0, 0)), (394, (1, .invokevirtual 85, 3, 5, 2, 0)), (397, (0, .pop, 1, 0, 0, 0)), (398, (0, .aload_n 2, 1, 0, 0, 0)), (399, (0, .aload_n 0, 1, 0, 0, 0)), (400, (0, .iload 4, 2, 0, 0, 0)), (402, (0, .iconst 1, 1, 0, 0, 0)), (403, (0, .iadd, 1, 0, 0, 0)), (404, (4, .iaload, 1, 0, 0, 0)), (405, (1, .invokevirtual 88, 3, 84, 2, 0)), (408, (0, .pop, 1, 0, 0, 0)), (409, (0, .goto 173, 3, 582, 0, 0)), (412, (0, .aload_n 1, 1, 0, 0, 0)), (413, (0, .aload_n 0, 1, 0, 0, 0)), (414, (0, .iload 4, 2, 0, 0, 0)), (416, (0, .iconst 1, 1, 0, 0, 0)), (417, (0, .iadd, 1, 0, 0, 0)), (418, (4, .iaload, 1, 0, 0, 0)), (419, (0, .aload_n 3, 1, 0, 0, 0)), (420, (1, .invokestatic 89, 3, 109, 3, 0)), (423, (0, .istore 5, 2, 0, 0, 0)), (425, (0, .aload_n 2, 1, 0, 0, 0)), (426, (0, .aload_n 0, 1, 0, 0, 0)), (427, (0, .iload 4, 2, 0, 0, 0)), (429, (0, .iconst 1, 1, 0, 0, 0)), (430, (0, .iadd, 1, 0, 0, 0)), (431, (4, .iaload, 1, 0, 0, 0)), (432, (1, .invokevirtual 91, 3, 85, 2, 0)), (435, (0, .istore 6, 2, 0, 0, 0)), (437, (0, .goto 145, 3, 582, 0, 0)), (440, (0, .aload_n 1, 1, 0, 0, 0)), (441, (0, .aload_n 0, 1, 0, 0, 0)), (442, (0, .iload 4, 2, 0, 0, 0)), (444, (0, .iconst 1, 1, 0, 0, 0)), (445, (0, .iadd, 1, 0, 0, 0)), (446, (4, .iaload, 1, 0, 0, 0)), (447, (0, .aload_n 3, 1, 0, 0, 0)), (448, (1, .invokestatic 92, 3, 110, 3, 0)), (451, (0, .istore 5, 2, 0, 0, 0)), (453, (0, .aload_n 2, 1, 0, 0, 0)), (454, (0, .aload_n 0, 1, 0, 0, 0)), (455, (0, .iload 4, 2, 0, 0, 0)), (457, (0, .iconst 1, 1, 0, 0, 0)), (458, (0, .iadd, 1, 0, 0, 0)), (459, (4, .iaload, 1, 0, 0, 0)), (460, (1, .invokevirtual 94, 3, 90, 2, 0)), (463, (0, .istore 6, 2, 0, 0, 0)), (465, (0, .goto 117, 3, 582, 0, 0)), (468, (0, .aload_n 1, 1, 0, 0, 0)), (469, (0, .aload_n 0, 1, 0, 0, 0)), (470, (0, .iload 4, 2, 0, 0, 0)), (472, (0, .iconst 1, 1, 0, 0, 0)), (473, (0, .iadd, 1, 0, 0, 0)), (474, (4, .iaload, 1, 0, 0, 0)), (475, (0, .aload_n 0, 1, 0, 0, 0)), (476, (0, .iload 4, 2, 0, 0, 0)), (478, (0, .iconst 2, 1, 0, 0, 0)), (479, (0, .iadd, 1, 0, 0, 0)), (480, (4, .iaload, 1, 0, 0, 0)), (481, (0, .aload_n 0, 1, 0, 0, 0)), (482, (0, .iload 4, 2, 0, 0, 0)), (484, (0, .iconst 3, 1, 0, 0, 0)), (485, (0, .iadd, 1, 0, 0, 0)), (486, (4, .iaload, 1, 0, 0, 0)), (487, (0, .aload_n 0, 1, 0, 0, 0)), (488, (0, .iload 4, 2, 0, 0, 0)), (490, (0, .iconst 4, 1, 0, 0, 0)), (491, (0, .iadd, 1, 0, 0, 0)), (492, (4, .iaload, 1, 0, 0, 0)), (493, (0, .aload_n 0, 1, 0, 0, 0)), (494, (0, .iload 4, 2, 0, 0, 0)), (496, (0, .iconst 5, 1, 0, 0, 0)), (497, (0, .iadd, 1, 0, 0, 0)), (498, (4, .iaload, 1, 0, 0, 0)), (499, (0, .aload_n 3, 1, 0, 0, 0)), (500, (1, .invokestatic 95, 3, 111, 7, 0)), (503, (0, .istore 5, 2, 0, 0, 0)), (505, (0, .aload_n 2, 1, 0, 0, 0)), (506, (0, .aload_n 0, 1, 0, 0, 0)), (507, (0, .iload 4, 2, 0, 0, 0)), (509, (0, .iconst 1, 1, 0, 0, 0)), (510, (0, .iadd, 1, 0, 0, 0)), (511, (4, .iaload, 1, 0, 0, 0)), (512, (0, .aload_n 0, 1, 0, 0, 0)), (513, (0, .iload 4, 2, 0, 0, 0)), (515, (0, .iconst 2, 1, 0, 0, 0)), (516, (0, .iadd, 1, 0, 0, 0)), (517, (4, .iaload, 1, 0, 0, 0)), (518, (0, .aload_n 0, 1, 0, 0, 0)), (519, (0, .iload 4, 2, 0, 0, 0)), (521, (0, .iconst 3, 1, 0, 0, 0)), (522, (0, .iadd, 1, 0, 0, 0)), (523, (4, .iaload, 1, 0, 0, 0)), (524, (0, .aload_n 0, 1, 0, 0, 0)), (525, (0, .iload 4, 2, 0, 0, 0)), (527, (0, .iconst 4, 1, 0, 0, 0)), (528, (0, .iadd, 1, 0, 0, 0)), (529, (4, .iaload, 1, 0, 0, 0)), (530, (0, .aload_n 0, 1, 0, 0, 0)), (531, (0, .iload 4, 2, 0, 0, 0)), (533, (0, .iconst 5, 1, 0, 0, 0)), (534, (0, .iadd, 1, 0, 0, 0)), (535, (4, .iaload, 1, 0, 0, 0)), (536, (1, .invokevirtual 98, 3, 92, 6, 0)), (539, (0, .istore 6, 2, 0, 0, 0)), (541, (0, .goto 41, 3, 582, 0, 0)), (544, (0, .aload_n 1, 1, 0, 0, 0)), (545, (1, .invokevirtual 99, 3, 8, 1, 0)), (548, (0, .pop, 1, 0, 0, 0)), (549, (0, .aload_n 2, 1, 0, 0, 0)), (550, (1, .invokevirtual 102, 3, 97, 1, 0)), (553, (0, .pop, 1, 0, 0, 0)), (554, (0, .goto 28, 3, 582, 0, 0)), (557, (0, .aload_n 1, 1, 0, 0, 0)), (558, (0, .aload_n 0, 1, 0, 0, 0)), (559, (0, .iload 4, 2, 0, 0, 0)), (561, (0, .iconst 1, 1, 0, 0, 0)), (562, (0, .iadd, 1, 0, 0, 0)), (563, (4, .iaload, 1, 0, 0, 0)), (564, (1, .invokevirtual 103, 3, 48, 2, 0)), (567, (0, .pop, 1, 0, 0, 0)), (568, (0, .aload_n 2, 1, 0, 0, 0)), (569, (0, .aload_n 0, 1, 0, 0, 0)), (570, (0, .iload 4, 2, 0, 0, 0)), (572, (0, .iconst 1, 1, 0, 0, 0)), (573, (0, .iadd, 1, 0, 0, 0)), (574, (4, .iaload, 1, 0, 0, 0)), (575, (1, .invokevirtual 106, 3, 103, 2, 0)), (578, (0, .pop, 1, 0, 0, 0)), (579, (0, .goto 3, 3, 582, 0, 0)), (582, (0, .iinc 4 6, 3, 0, 0, 0)), (585, (0, .goto (-562), 3, 23, 0, 0)), (588, (0, .iconst 1, 1, 0, 0, 0)), (589, (2, .ireturn, 1, 0, 0, 0))]
/-- 1: RowImprover.clear()I -/
def rz_T1 : List (Nat × rz_I) := [(0, (0, .aload_n 0, 1, 0, 0, 0)), (1, (0, .getfield 10, 3, 0, 0, 0)), (4, (1, .invokevirtual 87, 3, 2, 1, 0)), (7, (2, .ireturn, 1, 0, 0, 0))]
/-- 2: RowImprover$Program.empty()I -/
def rz_T2 : List (Nat × rz_I) := [(0, (0, .aload_n 0, 1, 0, 0, 0)), (1, (0, .getfield 15, 3, 1, 1, 0)), (4, (0, .istore_n 1, 1, 0, 0, 0)), (5, (0, .aload_n 0, 1, 0, 0, 0)), (6, (0, .iconst 0, 1, 0, 0, 0)), (7, (0, .putfield 15, 3, 1, 1, 0)), (10, (0, .iload_n 1, 1, 0, 0, 0)), (11, (2, .ireturn, 1, 0, 0, 0))]
/-- 3: RowImprover.size()I -/
def rz_T3 : List (Nat × rz_I) := [(0, (0, .aload_n 0, 1, 0, 0, 0)), (1, (0, .getfield 10, 3, 0, 0, 0)), (4, (1, .invokevirtual 91, 3, 4, 1, 0)), (7, (2, .ireturn, 1, 0, 0, 0))]
/-- 4: RowImprover$Program.length()I -/
def rz_T4 : List (Nat × rz_I) := [(0, (0, .aload_n 0, 1, 0, 0, 0)), (1, (0, .getfield 15, 3, 1, 1, 0)), (4, (2, .ireturn, 1, 0, 0, 0))]
/-- 5: RowImprover.result(I)I -/
def rz_T5 : List (Nat × rz_I) := [(0, (0, .aload_n 0, 1, 0, 0, 0)), (1, (0, .getfield 19, 3, 0, 1, 0)), (4, (0, .iload_n 1, 1, 0, 0, 0)), (5, (1, .invokevirtual 114, 3, 6, 2, 0)), (8, (2, .ireturn, 1, 0, 0, 0))]
/-- 6: RowImprover$Machine.outcome(I)I -/
def rz_T6 : List (Nat × rz_I) := [(0, (0, .iload_n 1, 1, 0, 0, 0)), (1, (0, .ifCond .lt 17, 3, 18, 0, 0)), (4, (0, .iload_n 1, 1, 0, 0, 0)), (5, (0, .iconst 4, 1, 0, 0, 0)), (6, (0, .if_icmp .ge 12, 3, 18, 0, 0)), (9, (0, .aload_n 0, 1, 0, 0, 0)), (10, (0, .getfield 28, 3, 2, 3, 0)), (13, (0, .iload_n 1, 1, 0, 0, 0)), (14, (1, .invokestatic 72, 3, 7, 2, 0)), (17, (2, .ireturn, 1, 0, 0, 0)), (18, (0, .iload_n 1, 1, 0, 0, 0)), (19, (0, .iconst 4, 1, 0, 0, 0)), (20, (0, .if_icmp .lt 18, 3, 38, 0, 0)), (23, (0, .iload_n 1, 1, 0, 0, 0)), (24, (0, .bipush 12, 2, 0, 0, 0)), (26, (0, .if_icmp .ge 12, 3, 38, 0, 0)), (29, (0, .aload_n 0, 1, 0, 0, 0)), (30, (0, .getfield 15, 3, 2, 1, 0)), (33, (0, .iload_n 1, 1, 0, 0, 0)), (34, (0, .iconst 4, 1, 0, 0, 0)), (35, (0, .isub, 1, 0, 0, 0)), (36, (0, .iaload, 1, 0, 0, 0)), (37, (2, .ireturn, 1, 0, 0, 0)), (38, (0, .iload_n 1, 1, 0, 0, 0)), (39, (0, .lookupswitch 43 #[(12, 25), (13, 38)], 25, 0, 0, 0)), (64, (0, .aload_n 0, 1, 0, 0, 0)), (65, (0, .getfield 46, 3, 2, 5, 0)), (68, (0, .ifCond .eq 7, 3, 75, 0, 0)), (71, (0, .iconst 1, 1, 0, 0, 0)), (72, (0, .goto 4, 3, 76, 0, 0)), (75, (0, .iconst 0, 1, 0, 0, 0)), (76, (2, .ireturn, 1, 0, 0, 0)), (77, (0, .aload_n 0, 1, 0, 0, 0)), (78, (0, .getfield 37, 3, 2, 4, 0)), (81, (2, .ireturn, 1, 0, 0, 0)), (82, (0, .iconst (-1), 1, 0, 0, 0)), (83, (2, .ireturn, 1, 0, 0, 0))]
/-- 7: RowImprover$Registers.value(II)I -/
def rz_T7 : List (Nat × rz_I) := [(0, (0, .iload_n 0, 1, 0, 0, 0)), (1, (0, .iload_n 1, 1, 0, 0, 0)), (2, (0, .iconst 4, 1, 0, 0, 0)), (3, (0, .imul, 1, 0, 0, 0)), (4, (0, .ishr, 1, 0, 0, 0)), (5, (0, .bipush 15, 2, 0, 0, 0)), (7, (0, .iand, 1, 0, 0, 0)), (8, (2, .ireturn, 1, 0, 0, 0))]
/-- 8: RowImprover.improve()I -/
def rz_T8 : List (Nat × rz_I) := [(0, (0, .aload_n 0, 1, 0, 0, 0)), (1, (0, .getfield 40, 3, 0, 4, 0)), (4, (0, .aload_n 0, 1, 0, 0, 0)), (5, (0, .getfield 10, 3, 0, 0, 0)), (8, (1, .invokevirtual 151, 3, 9, 2, 0)), (11, (2, .ireturn, 1, 0, 0, 0))]
/-- 9: RowImprover$Improver.improveProgram(LRowImprover$Program;)I -/
def rz_T9 : List (Nat × rz_I) := [(0, (0, .aload_n 1, 1, 0, 0, 0)), (1, (1, .invokevirtual 45, 3, 4, 1, 0)), (4, (0, .istore_n 2, 1, 0, 0, 0)), (5, (0, .aload_n 0, 1, 0, 0, 0)), (6, (0, .getfield 12, 3, 6, 0, 0)), (9, (0, .aload_n 1, 1, 0, 0, 0)), (10, (1, .invokevirtual 51, 3, 10, 2, 0)), (13, (0, .iconst 0, 1, 0, 0, 0)), (14, (0, .istore_n 3, 1, 0, 0, 0)), (15, (0, .iconst 0, 1, 0, 0, 0)), (16, (0, .istore 4, 2, 0, 0, 0)), (18, (0, .iload 4, 2, 0, 0, 0)), (20, (0, .bipush 24, 2, 0, 0, 0)), (22, (0, .if_icmp .ge 24, 3, 46, 0, 0)), (25, (0, .aload_n 1, 1, 0, 0, 0)), (26, (0, .iload_n 3, 1, 0, 0, 0)), (27, (1, .invokevirtual 55, 3, 21, 2, 0)), (30, (0, .ifCond .eq 16, 3, 46, 0, 0)), (33, (0, .aload_n 0, 1, 0, 0, 0)), (34, (0, .aload_n 1, 1, 0, 0, 0)), (35, (0, .iload_n 3, 1, 0, 0, 0)), (36, (1, .invokevirtual 59, 3, 22, 3, 0)), (39, (0, .istore_n 3, 1, 0, 0, 0)), (40, (0, .iinc 4 1, 3, 0, 0, 0)), (43, (0, .goto (-25), 3, 18, 0, 0)), (46, (0, .iload_n 2, 1, 0, 0, 0)), (47, (0, .aload_n 1, 1, 0, 0, 0)), (48, (1, .invokevirtual 45, 3, 4, 1, 0)), (51, (0, .isub, 1, 0, 0, 0)), (52, (2, .ireturn, 1, 0, 0, 0))]
/-- 10: RowImprover$Liveness.findFor(LRowImprover$Program;)V -/
def rz_T10 : List (Nat × rz_I) := [(0, (0, .aload_n 0, 1, 0, 0, 0)), (1, (0, .getfield 9, 3, 3, 0, 0)), (4, (0, .iconst 0, 1, 0, 0, 0)), (5, (1, .invokestatic 15, 3, 11, 2, 0)), (8, (0, .aload_n 0, 1, 0, 0, 0)), (9, (0, .getfield 9, 3, 3, 0, 0)), (12, (0, .aload_n 1, 1, 0, 0, 0)), (13, (1, .invokevirtual 21, 3, 4, 1, 0)), (16, (0, .bipush 14, 2, 0, 0, 0)), (18, (0, .iastore, 1, 0, 0, 0)), (19, (0, .iconst 1, 1, 0, 0, 0)), (20, (0, .istore_n 2, 1, 0, 0, 0)), (21, (0, .iconst 0, 1, 0, 0, 0)), (22, (0, .istore_n 3, 1, 0, 0, 0)), (23, (0, .iload_n 2, 1, 0, 0, 0)), (24, (0, .ifCond .eq 21, 3, 45, 0, 0)), (27, (0, .iload_n 3, 1, 0, 0, 0)), (28, (0, .bipush 73, 2, 0, 0, 0)), (30, (0, .if_icmp .ge 15, 3, 45, 0, 0)), (33, (0, .aload_n 0, 1, 0, 0, 0)), (34, (0, .aload_n 1, 1, 0, 0, 0)), (35, (1, .invokevirtual 27, 3, 12, 2, 0)), (38, (0, .istore_n 2, 1, 0, 0, 0)), (39, (0, .iinc 3 1, 3, 0, 0, 0)), (42, (0, .goto (-19), 3, 23, 0, 0)), (45, (2, .return_, 1, 0, 0, 0))]
/-- 11: java/util/Arrays.fill([II)V -/
def rz_T11 : List (Nat × rz_I) := [(0, (0, .iconst 0, 1, 0, 0, 0)), (1, (0, .istore_n 2, 1, 0, 0, 0)), (2, (0, .aload_n 0, 1, 0, 0, 0)), (3, (0, .arraylength, 1, 0, 0, 0)), (4, (0, .istore_n 3, 1, 0, 0, 0)), (5, (0, .iload_n 2, 1, 0, 0, 0)), (6, (0, .iload_n 3, 1, 0, 0, 0)), (7, (0, .if_icmp .ge 13, 3, 20, 0, 0)), (10, (0, .aload_n 0, 1, 0, 0, 0)), (11, (0, .iload_n 2, 1, 0, 0, 0)), (12, (0, .iload_n 1, 1, 0, 0, 0)), (13, (0, .iastore, 1, 0, 0, 0)), (14, (0, .iinc 2 1, 3, 0, 0, 0)), (17, (0, .goto (-12), 3, 5, 0, 0)), (20, (2, .return_, 1, 0, 0, 0))]
/-- 12: RowImprover$Liveness.findMore(LRowImprover$Program;)Z -/
def rz_T12 : List (Nat × rz_I) := [(0, (0, .iconst 0, 1, 0, 0, 0)), (1, (0, .istore_n 2, 1, 0, 0, 0)), (2, (0, .aload_n 1, 1, 0, 0, 0)), (3, (1, .invokevirtual 21, 3, 4, 1, 0)), (6, (0, .iconst 1, 1, 0, 0, 0)), (7, (0, .isub, 1, 0, 0, 0)), (8, (0, .istore_n 3, 1, 0, 0, 0)), (9, (0, .iload_n 3, 1, 0, 0, 0)), (10, (0, .ifCond .lt 66, 3, 76, 0, 0)), (13, (0, .aload_n 1, 1, 0, 0, 0)), (14, (0, .iload_n 3, 1, 0, 0, 0)), (15, (1, .invokevirtual 31, 3, 13, 2, 0)), (18, (0, .istore 4, 2, 0, 0, 0)), (20, (0, .aload_n 0, 1, 0, 0, 0)), (21, (0, .aload_n 1, 1, 0, 0, 0)), (22, (0, .iload_n 3, 1, 0, 0, 0)), (23, (1, .invokevirtual 35, 3, 14, 3, 0)), (26, (0, .iload 4, 2, 0, 0, 0)), (28, (1, .invokestatic 39, 3, 17, 1, 0)), (31, (0, .iconst (-1), 1, 0, 0, 0)), (32, (0, .ixor, 1, 0, 0, 0)), (33, (0, .iand, 1, 0, 0, 0)), (34, (0, .istore 5, 2, 0, 0, 0)), (36, (0, .iload 4, 2, 0, 0, 0)), (38, (1, .invokestatic 44, 3, 19, 1, 0)), (41, (0, .iload 5, 2, 0, 0, 0)), (43, (0, .ior, 1, 0, 0, 0)), (44, (0, .bipush 14, 2, 0, 0, 0)), (46, (0, .iand, 1, 0, 0, 0)), (47, (0, .istore 6, 2, 0, 0, 0)), (49, (0, .iload 6, 2, 0, 0, 0)), (51, (0, .aload_n 0, 1, 0, 0, 0)), (52, (0, .getfield 9, 3, 3, 0, 0)), (55, (0, .iload_n 3, 1, 0, 0, 0)), (56, (0, .iaload, 1, 0, 0, 0)), (57, (0, .if_icmp .eq 13, 3, 70, 0, 0)), (60, (0, .aload_n 0, 1, 0, 0, 0)), (61, (0, .getfield 9, 3, 3, 0, 0)), (64, (0, .iload_n 3, 1, 0, 0, 0)), (65, (0, .iload 6, 2, 0, 0, 0)), (67, (0, .iastore, 1, 0, 0, 0)), (68, (0, .iconst 1, 1, 0, 0, 0)), (69, (0, .istore_n 2, 1, 0, 0, 0)), (70, (0, .iinc 3 (-1), 3, 0, 0, 0)), (73, (0, .goto (-64), 3, 9, 0, 0)), (76, (0, .iload_n 2, 1, 0, 0, 0)), (77, (2, .ireturn, 1, 0, 0, 0))]
/-- 13: RowImprover$Program.codeAt(I)I -/
def rz_T13 : List (Nat × rz_I) := [(0, (0, .aload_n 0, 1, 0, 0, 0)), (1, (0, .getfield 9, 3, 1, 0, 0)), (4, (0, .iload_n 1, 1, 0, 0, 0)), (5, (0, .iaload, 1, 0, 0, 0)), (6, (2, .ireturn, 1, 0, 0, 0))]
/-- 14: RowImprover$Liveness.behind(LRowImprover$Program;I)I -/
def rz_T14 : List (Nat × rz_I) := [(0, (0, .aload_n 1, 1, 0, 0, 0)), (1, (0, .iload_n 2, 1, 0, 0, 0)), (2, (1, .invokevirtual 31, 3, 13, 2, 0)), (5, (0, .istore_n 3, 1, 0, 0, 0)), (6, (0, .aload_n 0, 1, 0, 0, 0)), (7, (0, .getfield 9, 3, 3, 0, 0)), (10, (0, .iload_n 3, 1, 0, 0, 0)), (11, (1, .invokestatic 47, 3, 15, 1, 0)), (14, (0, .aload_n 1, 1, 0, 0, 0)), (15, (1, .invokevirtual 21, 3, 4, 1, 0)), (18, (6, .invokestatic 50, 3, 0, 0, 0)), (21, (0, .iaload, 1, 0, 0, 0)), (22, (0, .istore 4, 2, 0, 0, 0)), (24, (0, .iload_n 3, 1, 0, 0, 0)), (25, (1, .invokestatic 56, 3, 16, 1, 0)), (28, (0, .tableswitch 43 12 14 #[31, 31, 28], 28, 0, 0, 0)), (56, (0, .iload 4, 2, 0, 0, 0)), (58, (2, .ireturn, 1, 0, 0, 0)), (59, (0, .aload_n 0, 1, 0, 0, 0)), (60, (0, .getfield 9, 3, 3, 0, 0)), (63, (0, .iload_n 2, 1, 0, 0, 0)), (64, (0, .iconst 1, 1, 0, 0, 0)), (65, (0, .iadd, 1, 0, 0, 0)), (66, (0, .iaload, 1, 0, 0, 0)), (67, (0, .iload 4, 2, 0, 0, 0)), (69, (0, .ior, 1, 0, 0, 0)), (70, (2, .ireturn, 1, 0, 0, 0)), (71, (0, .aload_n 0, 1, 0, 0, 0)), (72, (0, .getfield 9, 3, 3, 0, 0)), (75, (0, .iload_n 2, 1, 0, 0, 0)), (76, (0, .iconst 1, 1, 0, 0, 0)), (77, (0, .iadd, 1, 0, 0, 0)), (78, (0, .iaload, 1, 0, 0, 0)), (79, (2, .ireturn, 1, 0, 0, 0))]
/-- 15: RowImprover$Code.t(I)I -/
def rz_T15 : List (Nat × rz_I) := [(0, (0, .iload_n 0, 1, 0, 0, 0)), (1, (0, .bipush 31, 2, 0, 0, 0)), (3, (0, .iand, 1, 0, 0, 0)), (4, (2, .ireturn, 1, 0, 0, 0))]
/-- 16: RowImprover$Code.operation(I)I -/
def rz_T16 : List (Nat × rz_I) := [(0, (0, .iload_n 0, 1, 0, 0, 0)), (1, (0, .bipush 9, 2, 0, 0, 0)), (3, (0, .ishr, 1, 0, 0, 0)), (4, (2, .ireturn, 1, 0, 0, 0))]
/-- 17: RowImprover$Code.writtenBy(I)I -/
def rz_T17 : List (Nat × rz_I) := [(0, (0, .iload_n 0, 1, 0, 0, 0)), (1, (1, .invokestatic 15, 3, 16, 1, 0)), (4, (0, .bipush 10, 2, 0, 0, 0)), (6, (0, .if_icmp .gt 12, 3, 18, 0, 0)), (9, (0, .iconst 1, 1, 0, 0, 0)), (10, (0, .iload_n 0, 1, 0, 0, 0)), (11, (1, .invokestatic 18, 3, 18, 1, 0)), (14, (0, .ishl, 1, 0, 0, 0)), (15, (0, .goto 4, 3, 19, 0, 0)), (18, (0, .iconst 0, 1, 0, 0, 0)), (19, (2, .ireturn, 1, 0, 0, 0))]
/-- 18: RowImprover$Code.d(I)I -/
def rz_T18 : List (Nat × rz_I) := [(0, (0, .iload_n 0, 1, 0, 0, 0)), (1, (0, .bipush 7, 2, 0, 0, 0)), (3, (0, .ishr, 1, 0, 0, 0)), (4, (0, .iconst 3, 1, 0, 0, 0)), (5, (0, .iand, 1, 0, 0, 0)), (6, (2, .ireturn, 1, 0, 0, 0))]
/-- 19: RowImprover$Code.readBy(I)I -/
def rz_T19 : List (Nat × rz_I) := [(0, (0, .iload_n 0, 1, 0, 0, 0)), (1, (1, .invokestatic 15, 3, 16, 1, 0)), (4, (0, .istore_n 1, 1, 0, 0, 0)), (5, (0, .iload_n 1, 1, 0, 0, 0)), (6, (0, .iconst 5, 1, 0, 0, 0)), (7, (0, .if_icmp .gt 17, 3, 24, 0, 0)), (10, (0, .iconst 1, 1, 0, 0, 0)), (11, (0, .iload_n 0, 1, 0, 0, 0)), (12, (1, .invokestatic 21, 3, 20, 1, 0)), (15, (0, .ishl, 1, 0, 0, 0)), (16, (0, .iconst 1, 1, 0, 0, 0)), (17, (0, .iload_n 0, 1, 0, 0, 0)), (18, (1, .invokestatic 24, 3, 15, 1, 0)), (21, (0, .ishl, 1, 0, 0, 0)), (22, (0, .ior, 1, 0, 0, 0)), (23, (2, .ireturn, 1, 0, 0, 0)), (24, (0, .iload_n 1, 1, 0, 0, 0)), (25, (0, .bipush 10, 2, 0, 0, 0)), (27, (0, .if_icmp .gt 10, 3, 37, 0, 0)), (30, (0, .iconst 1, 1, 0, 0, 0)), (31, (0, .iload_n 0, 1, 0, 0, 0)), (32, (1, .invokestatic 21, 3, 20, 1, 0)), (35, (0, .ishl, 1, 0, 0, 0)), (36, (2, .ireturn, 1, 0, 0, 0)), (37, (0, .iload_n 1, 1, 0, 0, 0)), (38, (0, .bipush 13, 2, 0, 0, 0)), (40, (0, .if_icmp .gt 17, 3, 57, 0, 0)), (43, (0, .iconst 1, 1, 0, 0, 0)), (44, (0, .iload_n 0, 1, 0, 0, 0)), (45, (1, .invokestatic 18, 3, 18, 1, 0)), (48, (0, .ishl, 1, 0, 0, 0)), (49, (0, .iconst 1, 1, 0, 0, 0)), (50, (0, .iload_n 0, 1, 0, 0, 0)), (51, (1, .invokestatic 21, 3, 20, 1, 0)), (54, (0, .ishl, 1, 0, 0, 0)), (55, (0, .ior, 1, 0, 0, 0)), (56, (2, .ireturn, 1, 0, 0, 0)), (57, (0, .iload_n 1, 1, 0, 0, 0)), (58, (0, .bipush 15, 2, 0, 0, 0)), (60, (0, .if_icmp .ne 8, 3, 68, 0, 0)), (63, (0, .bipush 15, 2, 0, 0, 0)), (65, (0, .goto 4, 3, 69, 0, 0)), (68, (0, .iconst 0, 1, 0, 0, 0)), (69, (2, .ireturn, 1, 0, 0, 0))]
/-- 20: RowImprover$Code.s(I)I -/
def rz_T20 : List (Nat × rz_I) := [(0, (0, .iload_n 0, 1, 0, 0, 0)), (1, (0, .iconst 5, 1, 0, 0, 0)), (2, (0, .ishr, 1, 0, 0, 0)), (3, (0, .iconst 3, 1, 0, 0, 0)), (4, (0, .iand, 1, 0, 0, 0)), (5, (2, .ireturn, 1, 0, 0, 0))]
/-- 21: RowImprover$Program.has(I)Z -/
def rz_T21 : List (Nat × rz_I) := [(0, (0, .iload_n 1, 1, 0, 0, 0)), (1, (0, .ifCond .lt 15, 3, 16, 0, 0)), (4, (0, .iload_n 1, 1, 0, 0, 0)), (5, (0, .aload_n 0, 1, 0, 0, 0)), (6, (0, .getfield 15, 3, 1, 1, 0)), (9, (0, .if_icmp .ge 7, 3, 16, 0, 0)), (12, (0, .iconst 1, 1, 0, 0, 0)), (13, (0, .goto 4, 3, 17, 0, 0)), (16, (0, .iconst 0, 1, 0, 0, 0)), (17, (2, .ireturn, 1, 0, 0, 0))]
/-- 22: RowImprover$Improver.improveAt(LRowImprover$Program;I)I -/
def rz_T22 : List (Nat × rz_I) := [(0, (0, .iconst 3, 1, 0, 0, 0)), (1, (0, .istore_n 3, 1, 0, 0, 0)), (2, (0, .iload_n 3, 1, 0, 0, 0)), (3, (0, .iconst 1, 1, 0, 0, 0)), (4, (0, .if_icmp .lt 92, 3, 96, 0, 0)), (7, (0, .aload_n 1, 1, 0, 0, 0)), (8, (0, .iload_n 2, 1, 0, 0, 0)), (9, (0, .iload_n 3, 1, 0, 0, 0)), (10, (1, .invokevirtual 63, 3, 23, 3, 0)), (13, (0, .ifCond .eq 77, 3, 90, 0, 0)), (16, (0, .aload_n 0, 1, 0, 0, 0)), (17, (0, .getfield 28, 3, 6, 2, 0)), (20, (0, .aload_n 1, 1, 0, 0, 0)), (21, (0, .iload_n 2, 1, 0, 0, 0)), (22, (0, .iload_n 3, 1, 0, 0, 0)), (23, (1, .invokevirtual 67, 3, 30, 4, 0)), (26, (0, .iconst (-1), 1, 0, 0, 0)), (27, (0, .istore 4, 2, 0, 0, 0)), (29, (0, .aload_n 0, 1, 0, 0, 0)), (30, (0, .getfield 12, 3, 6, 0, 0)), (33, (0, .iload_n 2, 1, 0, 0, 0)), (34, (0, .iload_n 3, 1, 0, 0, 0)), (35, (0, .iadd, 1, 0, 0, 0)), (36, (1, .invokevirtual 71, 3, 31, 2, 0)), (39, (1, .invokestatic 75, 3, 32, 1, 0)), (42, (0, .istore 5, 2, 0, 0, 0)), (44, (0, .aload_n 0, 1, 0, 0, 0)), (45, (0, .iload 5, 2, 0, 0, 0)), (47, (1, .invokevirtual 80, 3, 33, 2, 0)), (50, (0, .ifCond .ne 21, 3, 71, 0, 0)), (53, (0, .iload_n 3, 1, 0, 0, 0)), (54, (0, .iconst 1, 1, 0, 0, 0)), (55, (0, .if_icmp .le 12, 3, 67, 0, 0)), (58, (0, .aload_n 0, 1, 0, 0, 0)), (59, (0, .iload 5, 2, 0, 0, 0)), (61, (1, .invokevirtual 83, 3, 39, 2, 0)), (64, (0, .goto 5, 3, 69, 0, 0)), (67, (0, .bipush (-2), 2, 0, 0, 0)), (69, (0, .istore 4, 2, 0, 0, 0)), (71, (0, .iload 4, 2, 0, 0, 0)), (73, (0, .bipush (-2), 2, 0, 0, 0)), (75, (0, .if_icmp .eq 15, 3, 90, 0, 0)), (78, (0, .iload_n 2, 1, 0, 0, 0)), (79, (0, .aload_n 0, 1, 0, 0, 0)), (80, (0, .aload_n 1, 1, 0, 0, 0)), (81, (0, .iload_n 2, 1, 0, 0, 0)), (82, (0, .iload_n 3, 1, 0, 0, 0)), (83, (0, .iload 4, 2, 0, 0, 0)), (85, (1, .invokevirtual 86, 3, 44, 5, 0)), (88, (0, .iadd, 1, 0, 0, 0)), (89, (2, .ireturn, 1, 0, 0, 0)), (90, (0, .iinc 3 (-1), 3, 0, 0, 0)), (93, (0, .goto (-91), 3, 2, 0, 0)), (96, (0, .iload_n 2, 1, 0, 0, 0)), (97, (0, .iconst 1, 1, 0, 0, 0)), (98, (0, .iadd, 1, 0, 0, 0)), (99, (2, .ireturn, 1, 0, 0, 0))]
/-- 23: RowImprover$Program.hasRow(II)Z -/
def rz_T23 : List (Nat × rz_I) := [(0, (0, .aload_n 0, 1, 0, 0, 0)), (1, (0, .iload_n 1, 1, 0, 0, 0)), (2, (0, .iload_n 2, 1, 0, 0, 0)), (3, (1, .invokevirtual 25, 3, 24, 3, 0)), (6, (0, .ifCond .eq 12, 3, 18, 0, 0)), (9, (0, .aload_n 0, 1, 0, 0, 0)), (10, (0, .iload_n 1, 1, 0, 0, 0)), (11, (0, .iload_n 2, 1, 0, 0, 0)), (12, (1, .invokevirtual 29, 3, 25, 3, 0)), (15, (0, .ifCond .ne 5, 3, 20, 0, 0)), (18, (0, .iconst 0, 1, 0, 0, 0)), (19, (2, .ireturn, 1, 0, 0, 0)), (20, (0, .iconst 1, 1, 0, 0, 0)), (21, (0, .istore_n 3, 1, 0, 0, 0)), (22, (0, .iload_n 3, 1, 0, 0, 0)), (23, (0, .iload_n 2, 1, 0, 0, 0)), (24, (0, .if_icmp .ge 21, 3, 45, 0, 0)), (27, (0, .aload_n 0, 1, 0, 0, 0)), (28, (0, .iload_n 1, 1, 0, 0, 0)), (29, (0, .iload_n 3, 1, 0, 0, 0)), (30, (0, .iadd, 1, 0, 0, 0)), (31, (1, .invokevirtual 32, 3, 27, 2, 0)), (34, (0, .ifCond .eq 5, 3, 39, 0, 0)), (37, (0, .iconst 0, 1, 0, 0, 0)), (38, (2, .ireturn, 1, 0, 0, 0)), (39, (0, .iinc 3 1, 3, 0, 0, 0)), (42, (0, .goto (-20), 3, 22, 0, 0)), (45, (0, .iconst 1, 1, 0, 0, 0)), (46, (2, .ireturn, 1, 0, 0, 0))]
/-- 24: RowImprover$Program.hasAll(II)Z -/
def rz_T24 : List (Nat × rz_I) := [(0, (0, .iload_n 2, 1, 0, 0, 0)), (1, (0, .ifCond .eq 17, 3, 18, 0, 0)), (4, (0, .iload_n 1, 1, 0, 0, 0)), (5, (0, .ifCond .lt 17, 3, 22, 0, 0)), (8, (0, .iload_n 1, 1, 0, 0, 0)), (9, (0, .aload_n 0, 1, 0, 0, 0)), (10, (0, .getfield 15, 3, 1, 1, 0)), (13, (0, .iload_n 2, 1, 0, 0, 0)), (14, (0, .isub, 1, 0, 0, 0)), (15, (0, .if_icmp .gt 7, 3, 22, 0, 0)), (18, (0, .iconst 1, 1, 0, 0, 0)), (19, (0, .goto 4, 3, 23, 0, 0)), (22, (0, .iconst 0, 1, 0, 0, 0)), (23, (2, .ireturn, 1, 0, 0, 0))]
/-- 25: RowImprover$Program.allPlain(II)Z -/
def rz_T25 : List (Nat × rz_I) := [(0, (0, .iconst 0, 1, 0, 0, 0)), (1, (0, .istore_n 3, 1, 0, 0, 0)), (2, (0, .iload_n 3, 1, 0, 0, 0)), (3, (0, .iload_n 2, 1, 0, 0, 0)), (4, (0, .if_icmp .ge 25, 3, 29, 0, 0)), (7, (0, .aload_n 0, 1, 0, 0, 0)), (8, (0, .getfield 9, 3, 1, 0, 0)), (11, (0, .iload_n 1, 1, 0, 0, 0)), (12, (0, .iload_n 3, 1, 0, 0, 0)), (13, (0, .iadd, 1, 0, 0, 0)), (14, (0, .iaload, 1, 0, 0, 0)), (15, (1, .invokestatic 19, 3, 26, 1, 0)), (18, (0, .ifCond .ne 5, 3, 23, 0, 0)), (21, (0, .iconst 0, 1, 0, 0, 0)), (22, (2, .ireturn, 1, 0, 0, 0)), (23, (0, .iinc 3 1, 3, 0, 0, 0)), (26, (0, .goto (-24), 3, 2, 0, 0)), (29, (0, .iconst 1, 1, 0, 0, 0)), (30, (2, .ireturn, 1, 0, 0, 0))]
/-- 26: RowImprover$Code.isPlain(I)Z -/
def rz_T26 : List (Nat × rz_I) := [(0, (0, .iload_n 0, 1, 0, 0, 0)), (1, (1, .invokestatic 15, 3, 16, 1, 0)), (4, (0, .bipush 9, 2, 0, 0, 0)), (6, (0, .if_icmp .gt 7, 3, 13, 0, 0)), (9, (0, .iconst 1, 1, 0, 0, 0)), (10, (0, .goto 4, 3, 14, 0, 0)), (13, (0, .iconst 0, 1, 0, 0, 0)), (14, (2, .ireturn, 1, 0, 0, 0))]
/-- 27: RowImprover$Program.beginsBlock(I)Z -/
def rz_T27 : List (Nat × rz_I) := [(0, (0, .iload_n 1, 1, 0, 0, 0)), (1, (0, .ifCond .eq 17, 3, 18, 0, 0)), (4, (0, .aload_n 0, 1, 0, 0, 0)), (5, (0, .getfield 9, 3, 1, 0, 0)), (8, (0, .iload_n 1, 1, 0, 0, 0)), (9, (0, .iconst 1, 1, 0, 0, 0)), (10, (0, .isub, 1, 0, 0, 0)), (11, (0, .iaload, 1, 0, 0, 0)), (12, (1, .invokestatic 35, 3, 28, 1, 0)), (15, (0, .ifCond .eq 5, 3, 20, 0, 0)), (18, (0, .iconst 1, 1, 0, 0, 0)), (19, (2, .ireturn, 1, 0, 0, 0)), (20, (0, .iconst 0, 1, 0, 0, 0)), (21, (0, .istore_n 2, 1, 0, 0, 0)), (22, (0, .iload_n 2, 1, 0, 0, 0)), (23, (0, .aload_n 0, 1, 0, 0, 0)), (24, (0, .getfield 15, 3, 1, 1, 0)), (27, (0, .if_icmp .ge 36, 3, 63, 0, 0)), (30, (0, .aload_n 0, 1, 0, 0, 0)), (31, (0, .getfield 9, 3, 1, 0, 0)), (34, (0, .iload_n 2, 1, 0, 0, 0)), (35, (0, .iaload, 1, 0, 0, 0)), (36, (1, .invokestatic 38, 3, 29, 1, 0)), (39, (0, .ifCond .eq 18, 3, 57, 0, 0)), (42, (0, .aload_n 0, 1, 0, 0, 0)), (43, (0, .getfield 9, 3, 1, 0, 0)), (46, (0, .iload_n 2, 1, 0, 0, 0)), (47, (0, .iaload, 1, 0, 0, 0)), (48, (1, .invokestatic 41, 3, 15, 1, 0)), (51, (0, .iload_n 1, 1, 0, 0, 0)), (52, (0, .if_icmp .ne 5, 3, 57, 0, 0)), (55, (0, .iconst 1, 1, 0, 0, 0)), (56, (2, .ireturn, 1, 0, 0, 0)), (57, (0, .iinc 2 1, 3, 0, 0, 0)), (60, (0, .goto (-38), 3, 22, 0, 0)), (63, (0, .iconst 0, 1, 0, 0, 0)), (64, (2, .ireturn, 1, 0, 0, 0))]
/-- 28: RowImprover$Code.endsBlock(I)Z -/
def rz_T28 : List (Nat × rz_I) := [(0, (0, .iload_n 0, 1, 0, 0, 0)), (1, (1, .invokestatic 15, 3, 16, 1, 0)), (4, (0, .bipush 12, 2, 0, 0, 0)), (6, (0, .if_icmp .lt 7, 3, 13, 0, 0)), (9, (0, .iconst 1, 1, 0, 0, 0)), (10, (0, .goto 4, 3, 14, 0, 0)), (13, (0, .iconst 0, 1, 0, 0, 0)), (14, (2, .ireturn, 1, 0, 0, 0))]
/-- 29: RowImprover$Code.hasTarget(I)Z -/
def rz_T29 : List (Nat × rz_I) := [(0, (0, .iload_n 0, 1, 0, 0, 0)), (1, (1, .invokestatic 15, 3, 16, 1, 0)), (4, (0, .bipush 12, 2, 0, 0, 0)), (6, (0, .if_icmp .lt 16, 3, 22, 0, 0)), (9, (0, .iload_n 0, 1, 0, 0, 0)), (10, (1, .invokestatic 15, 3, 16, 1, 0)), (13, (0, .bipush 14, 2, 0, 0, 0)), (15, (0, .if_icmp .gt 7, 3, 22, 0, 0)), (18, (0, .iconst 1, 1, 0, 0, 0)), (19, (0, .goto 4, 3, 23, 0, 0)), (22, (0, .iconst 0, 1, 0, 0, 0)), (23, (2, .ireturn, 1, 0, 0, 0))]
/-- 30: RowImprover$Row.takeFrom(LRowImprover$Program;II)V -/
def rz_T30 : List (Nat × rz_I) := [(0, (0, .iconst 0, 1, 0, 0, 0)), (1, (0, .istore 4, 2, 0, 0, 0)), (3, (0, .iload 4, 2, 0, 0, 0)), (5, (0, .iload_n 3, 1, 0, 0, 0)), (6, (0, .if_icmp .ge 24, 3, 30, 0, 0)), (9, (0, .aload_n 0, 1, 0, 0, 0)), (10, (0, .getfield 9, 3, 5, 0, 0)), (13, (0, .iload 4, 2, 0, 0, 0)), (15, (0, .aload_n 1, 1, 0, 0, 0)), (16, (0, .iload_n 2, 1, 0, 0, 0)), (17, (0, .iload 4, 2, 0, 0, 0)), (19, (0, .iadd, 1, 0, 0, 0)), (20, (1, .invokevirtual 15, 3, 13, 2, 0)), (23, (0, .iastore, 1, 0, 0, 0)), (24, (0, .iinc 4 1, 3, 0, 0, 0)), (27, (0, .goto (-24), 3, 3, 0, 0)), (30, (0, .aload_n 0, 1, 0, 0, 0)), (31, (0, .iload_n 3, 1, 0, 0, 0)), (32, (0, .putfield 21, 3, 5, 1, 0)), (35, (2, .return_, 1, 0, 0, 0))]
/-- 31: RowImprover$Liveness.before(I)I -/
def rz_T31 : List (Nat × rz_I) := [(0, (0, .aload_n 0, 1, 0, 0, 0)), (1, (0, .getfield 9, 3, 3, 0, 0)), (4, (0, .iload_n 1, 1, 0, 0, 0)), (5, (0, .iaload, 1, 0, 0, 0)), (6, (2, .ireturn, 1, 0, 0, 0))]
/-- 32: RowImprover$Registers.maskOf(I)I -/
def rz_T32 : List (Nat × rz_I) := [(0, (0, .iconst 0, 1, 0, 0, 0)), (1, (0, .istore_n 1, 1, 0, 0, 0)), (2, (0, .iconst 0, 1, 0, 0, 0)), (3, (0, .istore_n 2, 1, 0, 0, 0)), (4, (0, .iload_n 2, 1, 0, 0, 0)), (5, (0, .iconst 4, 1, 0, 0, 0)), (6, (0, .if_icmp .ge 27, 3, 33, 0, 0)), (9, (0, .iload_n 0, 1, 0, 0, 0)), (10, (0, .iload_n 2, 1, 0, 0, 0)), (11, (0, .ishr, 1, 0, 0, 0)), (12, (0, .iconst 1, 1, 0, 0, 0)), (13, (0, .iand, 1, 0, 0, 0)), (14, (0, .iconst 1, 1, 0, 0, 0)), (15, (0, .if_icmp .ne 12, 3, 27, 0, 0)), (18, (0, .iload_n 1, 1, 0, 0, 0)), (19, (0, .bipush 15, 2, 0, 0, 0)), (21, (0, .iload_n 2, 1, 0, 0, 0)), (22, (0, .iconst 4, 1, 0, 0, 0)), (23, (0, .imul, 1, 0, 0, 0)), (24, (0, .ishl, 1, 0, 0, 0)), (25, (0, .ior, 1, 0, 0, 0)), (26, (0, .istore_n 1, 1, 0, 0, 0)), (27, (0, .iinc 2 1, 3, 0, 0, 0)), (30, (0, .goto (-26), 3, 4, 0, 0)), (33, (0, .iload_n 1, 1, 0, 0, 0)), (34, (2, .ireturn, 1, 0, 0, 0))]
/-- 33: RowImprover$Improver.nothingDoes(I)Z -/
def rz_T33 : List (Nat × rz_I) := [(0, (0, .aload_n 0, 1, 0, 0, 0)), (1, (0, .getfield 32, 3, 6, 3, 0)), (4, (1, .invokevirtual 93, 3, 34, 1, 0)), (7, (0, .aload_n 0, 1, 0, 0, 0)), (8, (0, .dup, 1, 0, 0, 0)), (9, (0, .getfield 42, 3, 6, 6, 0)), (12, (0, .iconst 1, 1, 0, 0, 0)), (13, (0, .iadd, 1, 0, 0, 0)), (14, (0, .putfield 42, 3, 6, 6, 0)), (17, (0, .aload_n 0, 1, 0, 0, 0)), (18, (0, .getfield 21, 3, 6, 1, 0)), (21, (0, .aload_n 0, 1, 0, 0, 0)), (22, (0, .getfield 28, 3, 6, 2, 0)), (25, (0, .aload_n 0, 1, 0, 0, 0)), (26, (0, .getfield 32, 3, 6, 3, 0)), (29, (0, .iload_n 1, 1, 0, 0, 0)), (30, (1, .invokevirtual 96, 3, 35, 4, 0)), (33, (2, .ireturn, 1, 0, 0, 0))]
/-- 34: RowImprover$Row.takeNothing()V -/
def rz_T34 : List (Nat × rz_I) := [(0, (0, .aload_n 0, 1, 0, 0, 0)), (1, (0, .iconst 0, 1, 0, 0, 0)), (2, (0, .putfield 21, 3, 5, 1, 0)), (5, (2, .return_, 1, 0, 0, 0))]
/-- 35: RowImprover$Prover.agree(LRowImprover$Row;LRowImprover$Row;I)Z -/
def rz_T35 : List (Nat × rz_I) := [(0, (0, .iconst 0, 1, 0, 0, 0)), (1, (0, .istore 4, 2, 0, 0, 0)), (3, (0, .iload 4, 2, 0, 0, 0)), (5, (0, .sipush 4096, 3, 0, 0, 0)), (8, (0, .if_icmp .ge 62, 3, 70, 0, 0)), (11, (0, .aload_n 0, 1, 0, 0, 0)), (12, (0, .getfield 33, 3, 4, 2, 0)), (15, (0, .iload 4, 2, 0, 0, 0)), (17, (0, .sipush 1237, 3, 0, 0, 0)), (20, (0, .imul, 1, 0, 0, 0)), (21, (0, .iadd, 1, 0, 0, 0)), (22, (0, .sipush 4096, 3, 0, 0, 0)), (25, (0, .irem, 1, 0, 0, 0)), (26, (0, .istore 5, 2, 0, 0, 0)), (28, (0, .iload 5, 2, 0, 0, 0)), (30, (0, .iconst 4, 1, 0, 0, 0)), (31, (0, .ishl, 1, 0, 0, 0)), (32, (0, .istore 6, 2, 0, 0, 0)), (34, (0, .aload_n 1, 1, 0, 0, 0)), (35, (0, .iload 6, 2, 0, 0, 0)), (37, (1, .invokevirtual 37, 3, 36, 2, 0)), (40, (0, .aload_n 2, 1, 0, 0, 0)), (41, (0, .iload 6, 2, 0, 0, 0)), (43, (1, .invokevirtual 37, 3, 36, 2, 0)), (46, (0, .ixor, 1, 0, 0, 0)), (47, (0, .istore 7, 2, 0, 0, 0)), (49, (0, .iload 7, 2, 0, 0, 0)), (51, (0, .iload_n 3, 1, 0, 0, 0)), (52, (0, .iand, 1, 0, 0, 0)), (53, (0, .ifCond .eq 11, 3, 64, 0, 0)), (56, (0, .aload_n 0, 1, 0, 0, 0)), (57, (0, .iload 5, 2, 0, 0, 0)), (59, (0, .putfield 33, 3, 4, 2, 0)), (62, (0, .iconst 0, 1, 0, 0, 0)), (63, (2, .ireturn, 1, 0, 0, 0)), (64, (0, .iinc 4 1, 3, 0, 0, 0)), (67, (0, .goto (-64), 3, 3, 0, 0)), (70, (0, .iconst 1, 1, 0, 0, 0)), (71, (2, .ireturn, 1, 0, 0, 0))]
/-- 36: RowImprover$Row.registersAfter(I)I -/
def rz_T36 : List (Nat × rz_I) := [(0, (0, .iload_n 1, 1, 0, 0, 0)), (1, (0, .istore_n 2, 1, 0, 0, 0)), (2, (0, .iconst 0, 1, 0, 0, 0)), (3, (0, .istore_n 3, 1, 0, 0, 0)), (4, (0, .iload_n 3, 1, 0, 0, 0)), (5, (0, .aload_n 0, 1, 0, 0, 0)), (6, (0, .getfield 21, 3, 5, 1, 0)), (9, (0, .if_icmp .ge 20, 3, 29, 0, 0)), (12, (0, .aload_n 0, 1, 0, 0, 0)), (13, (0, .getfield 9, 3, 5, 0, 0)), (16, (0, .iload_n 3, 1, 0, 0, 0)), (17, (0, .iaload, 1, 0, 0, 0)), (18, (0, .iload_n 2, 1, 0, 0, 0)), (19, (1, .invokestatic 25, 3, 37, 2, 0)), (22, (0, .istore_n 2, 1, 0, 0, 0)), (23, (0, .iinc 3 1, 3, 0, 0, 0)), (26, (0, .goto (-22), 3, 4, 0, 0)), (29, (0, .iload_n 2, 1, 0, 0, 0)), (30, (2, .ireturn, 1, 0, 0, 0))]
/-- 37: RowImprover$Code.registersAfter(II)I -/
def rz_T37 : List (Nat × rz_I) := [(0, (0, .iload_n 0, 1, 0, 0, 0)), (1, (1, .invokestatic 15, 3, 16, 1, 0)), (4, (0, .istore_n 2, 1, 0, 0, 0)), (5, (0, .iload_n 1, 1, 0, 0, 0)), (6, (0, .iload_n 0, 1, 0, 0, 0)), (7, (1, .invokestatic 21, 3, 20, 1, 0)), (10, (1, .invokestatic 27, 3, 7, 2, 0)), (13, (0, .istore_n 3, 1, 0, 0, 0)), (14, (0, .iload_n 2, 1, 0, 0, 0)), (15, (0, .iconst 5, 1, 0, 0, 0)), (16, (0, .if_icmp .gt 14, 3, 30, 0, 0)), (19, (0, .iload_n 1, 1, 0, 0, 0)), (20, (0, .iload_n 0, 1, 0, 0, 0)), (21, (1, .invokestatic 24, 3, 15, 1, 0)), (24, (1, .invokestatic 27, 3, 7, 2, 0)), (27, (0, .goto 7, 3, 34, 0, 0)), (30, (0, .iload_n 0, 1, 0, 0, 0)), (31, (1, .invokestatic 24, 3, 15, 1, 0)), (34, (0, .istore 4, 2, 0, 0, 0)), (36, (0, .iload_n 2, 1, 0, 0, 0)), (37, (0, .tableswitch 125 0 9 #[55, 64, 73, 82, 91, 100, 55, 73, 91, 116], 55, 0, 0, 0)), (92, (0, .iload_n 3, 1, 0, 0, 0)), (93, (0, .iload 4, 2, 0, 0, 0)), (95, (0, .iadd, 1, 0, 0, 0)), (96, (0, .istore 5, 2, 0, 0, 0)), (98, (0, .goto 66, 3, 164, 0, 0)), (101, (0, .iload_n 3, 1, 0, 0, 0)), (102, (0, .iload 4, 2, 0, 0, 0)), (104, (0, .isub, 1, 0, 0, 0)), (105, (0, .istore 5, 2, 0, 0, 0)), (107, (0, .goto 57, 3, 164, 0, 0)), (110, (0, .iload_n 3, 1, 0, 0, 0)), (111, (0, .iload 4, 2, 0, 0, 0)), (113, (0, .iand, 1, 0, 0, 0)), (114, (0, .istore 5, 2, 0, 0, 0)), (116, (0, .goto 48, 3, 164, 0, 0)), (119, (0, .iload_n 3, 1, 0, 0, 0)), (120, (0, .iload 4, 2, 0, 0, 0)), (122, (0, .ior, 1, 0, 0, 0)), (123, (0, .istore 5, 2, 0, 0, 0)), (125, (0, .goto 39, 3, 164, 0, 0)), (128, (0, .iload_n 3, 1, 0, 0, 0)), (129, (0, .iload 4, 2, 0, 0, 0)), (131, (0, .ixor, 1, 0, 0, 0)), (132, (0, .istore 5, 2, 0, 0, 0)), (134, (0, .goto 30, 3, 164, 0, 0)), (137, (0, .iload_n 3, 1, 0, 0, 0)), (138, (0, .iload 4, 2, 0, 0, 0)), (140, (0, .if_icmp .ge 7, 3, 147, 0, 0)), (143, (0, .iconst 1, 1, 0, 0, 0)), (144, (0, .goto 4, 3, 148, 0, 0)), (147, (0, .iconst 0, 1, 0, 0, 0)), (148, (0, .istore 5, 2, 0, 0, 0)), (150, (0, .goto 14, 3, 164, 0, 0)), (153, (0, .iload_n 3, 1, 0, 0, 0)), (154, (0, .iload 4, 2, 0, 0, 0)), (156, (0, .ishl, 1, 0, 0, 0)), (157, (0, .istore 5, 2, 0, 0, 0)), (159, (0, .goto 5, 3, 164, 0, 0)), (162, (0, .iload_n 1, 1, 0, 0, 0)), (163, (2, .ireturn, 1, 0, 0, 0)), (164, (0, .iload_n 1, 1, 0, 0, 0)), (165, (0, .iload_n 0, 1, 0, 0, 0)), (166, (1, .invokestatic 18, 3, 18, 1, 0)), (169, (0, .iload 5, 2, 0, 0, 0)), (171, (1, .invokestatic 33, 3, 38, 3, 0)), (174, (2, .ireturn, 1, 0, 0, 0))]
/-- 38: RowImprover$Registers.with(III)I -/
def rz_T38 : List (Nat × rz_I) := [(0, (0, .iload_n 1, 1, 0, 0, 0)), (1, (0, .ifCond .ne 5, 3, 6, 0, 0)), (4, (0, .iload_n 0, 1, 0, 0, 0)), (5, (2, .ireturn, 1, 0, 0, 0)), (6, (0, .iload_n 1, 1, 0, 0, 0)), (7, (0, .iconst 4, 1, 0, 0, 0)), (8, (0, .imul, 1, 0, 0, 0)), (9, (0, .istore_n 3, 1, 0, 0, 0)), (10, (0, .iload_n 0, 1, 0, 0, 0)), (11, (0, .bipush 15, 2, 0, 0, 0)), (13, (0, .iload_n 3, 1, 0, 0, 0)), (14, (0, .ishl, 1, 0, 0, 0)), (15, (0, .iconst (-1), 1, 0, 0, 0)), (16, (0, .ixor, 1, 0, 0, 0)), (17, (0, .iand, 1, 0, 0, 0)), (18, (0, .iload_n 2, 1, 0, 0, 0)), (19, (0, .bipush 15, 2, 0, 0, 0)), (21, (0, .iand, 1, 0, 0, 0)), (22, (0, .iload_n 3, 1, 0, 0, 0)), (23, (0, .ishl, 1, 0, 0, 0)), (24, (0, .ior, 1, 0, 0, 0)), (25, (2, .ireturn, 1, 0, 0, 0))]
/-- 39: RowImprover$Improver.firstInstruction(I)I -/
def rz_T39 : List (Nat × rz_I) := [(0, (0, .ldc 100, 2, 32771, 0, 0)), (2, (0, .aload_n 0, 1, 0, 0, 0)), (3, (0, .getfield 28, 3, 6, 2, 0)), (6, (1, .invokevirtual 101, 3, 40, 1, 0)), (9, (0, .ior, 1, 0, 0, 0)), (10, (0, .istore_n 2, 1, 0, 0, 0)), (11, (0, .iconst 0, 1, 0, 0, 0)), (12, (0, .istore_n 3, 1, 0, 0, 0)), (13, (0, .iload_n 3, 1, 0, 0, 0)), (14, (0, .bipush 9, 2, 0, 0, 0)), (16, (0, .if_icmp .gt 132, 3, 148, 0, 0)), (19, (0, .iload_n 3, 1, 0, 0, 0)), (20, (0, .iconst 5, 1, 0, 0, 0)), (21, (0, .if_icmp .gt 8, 3, 29, 0, 0)), (24, (0, .bipush 15, 2, 0, 0, 0)), (26, (0, .goto 4, 3, 30, 0, 0)), (29, (0, .iload_n 2, 1, 0, 0, 0)), (30, (0, .istore 4, 2, 0, 0, 0)), (32, (0, .iconst 1, 1, 0, 0, 0)), (33, (0, .istore 5, 2, 0, 0, 0)), (35, (0, .iload 5, 2, 0, 0, 0)), (37, (0, .iconst 4, 1, 0, 0, 0)), (38, (0, .if_icmp .ge 104, 3, 142, 0, 0)), (41, (0, .iconst 0, 1, 0, 0, 0)), (42, (0, .istore 6, 2, 0, 0, 0)), (44, (0, .iload 6, 2, 0, 0, 0)), (46, (0, .iconst 4, 1, 0, 0, 0)), (47, (0, .if_icmp .ge 89, 3, 136, 0, 0)), (50, (0, .iconst 0, 1, 0, 0, 0)), (51, (0, .istore 7, 2, 0, 0, 0)), (53, (0, .iload 7, 2, 0, 0, 0)), (55, (0, .bipush 15, 2, 0, 0, 0)), (57, (0, .if_icmp .gt 73, 3, 130, 0, 0)), (60, (0, .iload 4, 2, 0, 0, 0)), (62, (0, .iload 7, 2, 0, 0, 0)), (64, (0, .ishr, 1, 0, 0, 0)), (65, (0, .iconst 1, 1, 0, 0, 0)), (66, (0, .iand, 1, 0, 0, 0)), (67, (0, .iconst 1, 1, 0, 0, 0)), (68, (0, .if_icmp .ne 56, 3, 124, 0, 0)), (71, (0, .iload_n 3, 1, 0, 0, 0)), (72, (0, .iload 5, 2, 0, 0, 0)), (74, (0, .iload 6, 2, 0, 0, 0)), (76, (0, .iload 7, 2, 0, 0, 0)), (78, (1, .invokestatic 104, 3, 42, 4, 0)), (81, (0, .istore 8, 2, 0, 0, 0)), (83, (0, .aload_n 0, 1, 0, 0, 0)), (84, (0, .getfield 32, 3, 6, 3, 0)), (87, (0, .iload 8, 2, 0, 0, 0)), (89, (1, .invokevirtual 110, 3, 43, 2, 0)), (92, (0, .aload_n 0, 1, 0, 0, 0)), (93, (0, .dup, 1, 0, 0, 0)), (94, (0, .getfield 42, 3, 6, 6, 0)), (97, (0, .iconst 1, 1, 0, 0, 0)), (98, (0, .iadd, 1, 0, 0, 0)), (99, (0, .putfield 42, 3, 6, 6, 0)), (102, (0, .aload_n 0, 1, 0, 0, 0)), (103, (0, .getfield 21, 3, 6, 1, 0)), (106, (0, .aload_n 0, 1, 0, 0, 0)), (107, (0, .getfield 28, 3, 6, 2, 0)), (110, (0, .aload_n 0, 1, 0, 0, 0)), (111, (0, .getfield 32, 3, 6, 3, 0)), (114, (0, .iload_n 1, 1, 0, 0, 0)), (115, (1, .invokevirtual 96, 3, 35, 4, 0)), (118, (0, .ifCond .eq 6, 3, 124, 0, 0)), (121, (0, .iload 8, 2, 0, 0, 0)), (123, (2, .ireturn, 1, 0, 0, 0)), (124, (0, .iinc 7 1, 3, 0, 0, 0)), (127, (0, .goto (-74), 3, 53, 0, 0)), (130, (0, .iinc 6 1, 3, 0, 0, 0)), (133, (0, .goto (-89), 3, 44, 0, 0)), (136, (0, .iinc 5 1, 3, 0, 0, 0)), (139, (0, .goto (-104), 3, 35, 0, 0)), (142, (0, .iinc 3 1, 3, 0, 0, 0)), (145, (0, .goto (-132), 3, 13, 0, 0)), (148, (0, .bipush (-2), 2, 0, 0, 0)), (150, (2, .ireturn, 1, 0, 0, 0))]
/-- 40: RowImprover$Row.numbers()I -/
def rz_T40 : List (Nat × rz_I) := [(0, (0, .iconst 0, 1, 0, 0, 0)), (1, (0, .istore_n 1, 1, 0, 0, 0)), (2, (0, .iconst 0, 1, 0, 0, 0)), (3, (0, .istore_n 2, 1, 0, 0, 0)), (4, (0, .iload_n 2, 1, 0, 0, 0)), (5, (0, .aload_n 0, 1, 0, 0, 0)), (6, (0, .getfield 21, 3, 5, 1, 0)), (9, (0, .if_icmp .ge 35, 3, 44, 0, 0)), (12, (0, .aload_n 0, 1, 0, 0, 0)), (13, (0, .getfield 9, 3, 5, 0, 0)), (16, (0, .iload_n 2, 1, 0, 0, 0)), (17, (0, .iaload, 1, 0, 0, 0)), (18, (1, .invokestatic 31, 3, 41, 1, 0)), (21, (0, .ifCond .eq 17, 3, 38, 0, 0)), (24, (0, .iload_n 1, 1, 0, 0, 0)), (25, (0, .iconst 1, 1, 0, 0, 0)), (26, (0, .aload_n 0, 1, 0, 0, 0)), (27, (0, .getfield 9, 3, 5, 0, 0)), (30, (0, .iload_n 2, 1, 0, 0, 0)), (31, (0, .iaload, 1, 0, 0, 0)), (32, (1, .invokestatic 35, 3, 15, 1, 0)), (35, (0, .ishl, 1, 0, 0, 0)), (36, (0, .ior, 1, 0, 0, 0)), (37, (0, .istore_n 1, 1, 0, 0, 0)), (38, (0, .iinc 2 1, 3, 0, 0, 0)), (41, (0, .goto (-37), 3, 4, 0, 0)), (44, (0, .iload_n 1, 1, 0, 0, 0)), (45, (2, .ireturn, 1, 0, 0, 0))]
/-- 41: RowImprover$Code.hasNumber(I)Z -/
def rz_T41 : List (Nat × rz_I) := [(0, (0, .iload_n 0, 1, 0, 0, 0)), (1, (1, .invokestatic 15, 3, 16, 1, 0)), (4, (0, .bipush 6, 2, 0, 0, 0)), (6, (0, .if_icmp .lt 16, 3, 22, 0, 0)), (9, (0, .iload_n 0, 1, 0, 0, 0)), (10, (1, .invokestatic 15, 3, 16, 1, 0)), (13, (0, .bipush 9, 2, 0, 0, 0)), (15, (0, .if_icmp .gt 7, 3, 22, 0, 0)), (18, (0, .iconst 1, 1, 0, 0, 0)), (19, (0, .goto 4, 3, 23, 0, 0)), (22, (0, .iconst 0, 1, 0, 0, 0)), (23, (2, .ireturn, 1, 0, 0, 0))]
/-- 42: RowImprover$Code.pack(IIII)I -/
def rz_T42 : List (Nat × rz_I) := [(0, (0, .iload_n 0, 1, 0, 0, 0)), (1, (0, .bipush 9, 2, 0, 0, 0)), (3, (0, .ishl, 1, 0, 0, 0)), (4, (0, .iload_n 1, 1, 0, 0, 0)), (5, (0, .bipush 7, 2, 0, 0, 0)), (7, (0, .ishl, 1, 0, 0, 0)), (8, (0, .ior, 1, 0, 0, 0)), (9, (0, .iload_n 2, 1, 0, 0, 0)), (10, (0, .iconst 5, 1, 0, 0, 0)), (11, (0, .ishl, 1, 0, 0, 0)), (12, (0, .ior, 1, 0, 0, 0)), (13, (0, .iload_n 3, 1, 0, 0, 0)), (14, (0, .ior, 1, 0, 0, 0)), (15, (2, .ireturn, 1, 0, 0, 0))]
/-- 43: RowImprover$Row.takeOne(I)V -/
def rz_T43 : List (Nat × rz_I) := [(0, (0, .aload_n 0, 1, 0, 0, 0)), (1, (0, .getfield 9, 3, 5, 0, 0)), (4, (0, .iconst 0, 1, 0, 0, 0)), (5, (0, .iload_n 1, 1, 0, 0, 0)), (6, (0, .iastore, 1, 0, 0, 0)), (7, (0, .aload_n 0, 1, 0, 0, 0)), (8, (0, .iconst 1, 1, 0, 0, 0)), (9, (0, .putfield 21, 3, 5, 1, 0)), (12, (2, .return_, 1, 0, 0, 0))]
/-- 44: RowImprover$Improver.putForRow(LRowImprover$Program;III)I -/
def rz_T44 : List (Nat × rz_I) := [(0, (0, .aload_n 0, 1, 0, 0, 0)), (1, (0, .dup, 1, 0, 0, 0)), (2, (0, .getfield 35, 3, 6, 4, 0)), (5, (0, .iconst 1, 1, 0, 0, 0)), (6, (0, .iadd, 1, 0, 0, 0)), (7, (0, .putfield 35, 3, 6, 4, 0)), (10, (0, .iload 4, 2, 0, 0, 0)), (12, (0, .iconst (-1), 1, 0, 0, 0)), (13, (0, .if_icmp .ne 13, 3, 26, 0, 0)), (16, (0, .aload_n 0, 1, 0, 0, 0)), (17, (0, .dup, 1, 0, 0, 0)), (18, (0, .getfield 39, 3, 6, 5, 0)), (21, (0, .iconst 1, 1, 0, 0, 0)), (22, (0, .iadd, 1, 0, 0, 0)), (23, (0, .putfield 39, 3, 6, 5, 0)), (26, (0, .aload_n 1, 1, 0, 0, 0)), (27, (0, .iload_n 2, 1, 0, 0, 0)), (28, (0, .iload_n 3, 1, 0, 0, 0)), (29, (0, .iload 4, 2, 0, 0, 0)), (31, (1, .invokevirtual 90, 3, 45, 4, 0)), (34, (0, .istore 5, 2, 0, 0, 0)), (36, (0, .aload_n 0, 1, 0, 0, 0)), (37, (0, .getfield 12, 3, 6, 0, 0)), (40, (0, .aload_n 1, 1, 0, 0, 0)), (41, (1, .invokevirtual 51, 3, 10, 2, 0)), (44, (0, .iload 5, 2, 0, 0, 0)), (46, (2, .ireturn, 1, 0, 0, 0))]
/-- 45: RowImprover$Program.putForRow(III)I -/
def rz_T45 : List (Nat × rz_I) := [(0, (0, .iconst 0, 1, 0, 0, 0)), (1, (0, .istore 4, 2, 0, 0, 0)), (3, (0, .iload_n 3, 1, 0, 0, 0)), (4, (0, .iconst (-1), 1, 0, 0, 0)), (5, (0, .if_icmp .eq 13, 3, 18, 0, 0)), (8, (0, .aload_n 0, 1, 0, 0, 0)), (9, (0, .getfield 9, 3, 1, 0, 0)), (12, (0, .iload_n 1, 1, 0, 0, 0)), (13, (0, .iload_n 3, 1, 0, 0, 0)), (14, (0, .iastore, 1, 0, 0, 0)), (15, (0, .iconst 1, 1, 0, 0, 0)), (16, (0, .istore 4, 2, 0, 0, 0)), (18, (0, .iload_n 2, 1, 0, 0, 0)), (19, (0, .iload 4, 2, 0, 0, 0)), (21, (0, .isub, 1, 0, 0, 0)), (22, (0, .istore 5, 2, 0, 0, 0)), (24, (0, .iload_n 1, 1, 0, 0, 0)), (25, (0, .iload 4, 2, 0, 0, 0)), (27, (0, .iadd, 1, 0, 0, 0)), (28, (0, .istore 6, 2, 0, 0, 0)), (30, (0, .iload 6, 2, 0, 0, 0)), (32, (0, .aload_n 0, 1, 0, 0, 0)), (33, (0, .getfield 15, 3, 1, 1, 0)), (36, (0, .iload 5, 2, 0, 0, 0)), (38, (0, .isub, 1, 0, 0, 0)), (39, (0, .if_icmp .ge 26, 3, 65, 0, 0)), (42, (0, .aload_n 0, 1, 0, 0, 0)), (43, (0, .getfield 9, 3, 1, 0, 0)), (46, (0, .iload 6, 2, 0, 0, 0)), (48, (0, .aload_n 0, 1, 0, 0, 0)), (49, (0, .getfield 9, 3, 1, 0, 0)), (52, (0, .iload 6, 2, 0, 0, 0)), (54, (0, .iload 5, 2, 0, 0, 0)), (56, (0, .iadd, 1, 0, 0, 0)), (57, (0, .iaload, 1, 0, 0, 0)), (58, (0, .iastore, 1, 0, 0, 0)), (59, (0, .iinc 6 1, 3, 0, 0, 0)), (62, (0, .goto (-32), 3, 30, 0, 0)), (65, (0, .aload_n 0, 1, 0, 0, 0)), (66, (0, .dup, 1, 0, 0, 0)), (67, (0, .getfield 15, 3, 1, 1, 0)), (70, (0, .iload 5, 2, 0, 0, 0)), (72, (0, .isub, 1, 0, 0, 0)), (73, (0, .putfield 15, 3, 1, 1, 0)), (76, (0, .aload_n 0, 1, 0, 0, 0)), (77, (0, .iload_n 1, 1, 0, 0, 0)), (78, (0, .iload 5, 2, 0, 0, 0)), (80, (1, .invokevirtual 45, 3, 46, 3, 0)), (83, (0, .iload 4, 2, 0, 0, 0)), (85, (2, .ireturn, 1, 0, 0, 0))]
/-- 46: RowImprover$Program.moveTargetsAbove(II)V -/
def rz_T46 : List (Nat × rz_I) := [(0, (0, .iconst 0, 1, 0, 0, 0)), (1, (0, .istore_n 3, 1, 0, 0, 0)), (2, (0, .iload_n 3, 1, 0, 0, 0)), (3, (0, .aload_n 0, 1, 0, 0, 0)), (4, (0, .getfield 15, 3, 1, 1, 0)), (7, (0, .if_icmp .ge 57, 3, 64, 0, 0)), (10, (0, .aload_n 0, 1, 0, 0, 0)), (11, (0, .getfield 9, 3, 1, 0, 0)), (14, (0, .iload_n 3, 1, 0, 0, 0)), (15, (0, .iaload, 1, 0, 0, 0)), (16, (1, .invokestatic 41, 3, 15, 1, 0)), (19, (0, .istore 4, 2, 0, 0, 0)), (21, (0, .aload_n 0, 1, 0, 0, 0)), (22, (0, .getfield 9, 3, 1, 0, 0)), (25, (0, .iload_n 3, 1, 0, 0, 0)), (26, (0, .iaload, 1, 0, 0, 0)), (27, (1, .invokestatic 38, 3, 29, 1, 0)), (30, (0, .ifCond .eq 28, 3, 58, 0, 0)), (33, (0, .iload 4, 2, 0, 0, 0)), (35, (0, .iload_n 1, 1, 0, 0, 0)), (36, (0, .if_icmp .le 22, 3, 58, 0, 0)), (39, (0, .aload_n 0, 1, 0, 0, 0)), (40, (0, .getfield 9, 3, 1, 0, 0)), (43, (0, .iload_n 3, 1, 0, 0, 0)), (44, (0, .aload_n 0, 1, 0, 0, 0)), (45, (0, .getfield 9, 3, 1, 0, 0)), (48, (0, .iload_n 3, 1, 0, 0, 0)), (49, (0, .iaload, 1, 0, 0, 0)), (50, (0, .iload 4, 2, 0, 0, 0)), (52, (0, .iload_n 2, 1, 0, 0, 0)), (53, (0, .isub, 1, 0, 0, 0)), (54, (1, .invokestatic 49, 3, 47, 2, 0)), (57, (0, .iastore, 1, 0, 0, 0)), (58, (0, .iinc 3 1, 3, 0, 0, 0)), (61, (0, .goto (-59), 3, 2, 0, 0)), (64, (2, .return_, 1, 0, 0, 0))]
/-- 47: RowImprover$Code.withTarget(II)I -/
def rz_T47 : List (Nat × rz_I) := [(0, (0, .iload_n 0, 1, 0, 0, 0)), (1, (0, .bipush (-32), 2, 0, 0, 0)), (3, (0, .iand, 1, 0, 0, 0)), (4, (0, .iload_n 1, 1, 0, 0, 0)), (5, (0, .ior, 1, 0, 0, 0)), (6, (2, .ireturn, 1, 0, 0, 0))]
/-- 48: RowImprover.count(I)I -/
def rz_T48 : List (Nat × rz_I) := [(0, (0, .aload_n 0, 1, 0, 0, 0)), (1, (0, .getfield 40, 3, 0, 4, 0)), (4, (0, .iload_n 1, 1, 0, 0, 0)), (5, (1, .invokevirtual 155, 3, 49, 2, 0)), (8, (2, .ireturn, 1, 0, 0, 0))]
/-- 49: RowImprover$Improver.counted(I)I -/
def rz_T49 : List (Nat × rz_I) := [(0, (0, .iload_n 1, 1, 0, 0, 0)), (1, (0, .tableswitch 42 0 2 #[27, 32, 37], 27, 0, 0, 0)), (28, (0, .aload_n 0, 1, 0, 0, 0)), (29, (0, .getfield 35, 3, 6, 4, 0)), (32, (2, .ireturn, 1, 0, 0, 0)), (33, (0, .aload_n 0, 1, 0, 0, 0)), (34, (0, .getfield 39, 3, 6, 5, 0)), (37, (2, .ireturn, 1, 0, 0, 0)), (38, (0, .aload_n 0, 1, 0, 0, 0)), (39, (0, .getfield 42, 3, 6, 6, 0)), (42, (2, .ireturn, 1, 0, 0, 0)), (43, (0, .iconst (-1), 1, 0, 0, 0)), (44, (2, .ireturn, 1, 0, 0, 0))]
/-- 50: RowImprover.add(IIII)I -/
def rz_T50 : List (Nat × rz_I) := [(0, (0, .iload_n 1, 1, 0, 0, 0)), (1, (0, .iload_n 2, 1, 0, 0, 0)), (2, (0, .iload_n 3, 1, 0, 0, 0)), (3, (0, .iload 4, 2, 0, 0, 0)), (5, (1, .invokestatic 44, 3, 51, 4, 0)), (8, (0, .ifCond .ne 13, 3, 21, 0, 0)), (11, (3, .new 50, 3, 0, 54, 52)), (21, (0, .aload_n 0, 1, 0, 0, 0)), (22, (0, .getfield 10, 3, 0, 0, 0)), (25, (1, .invokevirtual 57, 3, 53, 1, 0)), (28, (0, .ifCond .eq 13, 3, 41, 0, 0)), (31, (3, .new 61, 3, 1, 65, 63)), (41, (0, .aload_n 0, 1, 0, 0, 0)), (42, (0, .getfield 10, 3, 0, 0, 0)), (45, (0, .iload_n 1, 1, 0, 0, 0)), (46, (0, .iload_n 2, 1, 0, 0, 0)), (47, (0, .iload_n 3, 1, 0, 0, 0)), (48, (0, .iload 4, 2, 0, 0, 0)), (50, (1, .invokestatic 66, 3, 42, 4, 0)), (53, (1, .invokevirtual 70, 3, 54, 2, 0)), (56, (2, .ireturn, 1, 0, 0, 0))]
/-- 51: RowImprover$Code.isLegal(IIII)Z -/
def rz_T51 : List (Nat × rz_I) := [(0, (0, .iload_n 0, 1, 0, 0, 0)), (1, (0, .ifCond .lt 9, 3, 10, 0, 0)), (4, (0, .iload_n 0, 1, 0, 0, 0)), (5, (0, .bipush 15, 2, 0, 0, 0)), (7, (0, .if_icmp .le 5, 3, 12, 0, 0)), (10, (0, .iconst 0, 1, 0, 0, 0)), (11, (2, .ireturn, 1, 0, 0, 0)), (12, (0, .iload_n 0, 1, 0, 0, 0)), (13, (0, .bipush 14, 2, 0, 0, 0)), (15, (0, .if_icmp .lt 7, 3, 22, 0, 0)), (18, (0, .iconst 0, 1, 0, 0, 0)), (19, (0, .goto 4, 3, 23, 0, 0)), (22, (0, .iconst 3, 1, 0, 0, 0)), (23, (0, .istore 4, 2, 0, 0, 0)), (25, (0, .iload_n 1, 1, 0, 0, 0)), (26, (0, .ifCond .lt 35, 3, 61, 0, 0)), (29, (0, .iload_n 1, 1, 0, 0, 0)), (30, (0, .iload 4, 2, 0, 0, 0)), (32, (0, .if_icmp .gt 29, 3, 61, 0, 0)), (35, (0, .iload_n 2, 1, 0, 0, 0)), (36, (0, .ifCond .lt 25, 3, 61, 0, 0)), (39, (0, .iload_n 2, 1, 0, 0, 0)), (40, (0, .iload 4, 2, 0, 0, 0)), (42, (0, .if_icmp .gt 19, 3, 61, 0, 0)), (45, (0, .iload_n 3, 1, 0, 0, 0)), (46, (0, .ifCond .lt 15, 3, 61, 0, 0)), (49, (0, .iload_n 3, 1, 0, 0, 0)), (50, (0, .iload_n 0, 1, 0, 0, 0)), (51, (1, .invokestatic 9, 3, 52, 1, 0)), (54, (0, .if_icmp .gt 7, 3, 61, 0, 0)), (57, (0, .iconst 1, 1, 0, 0, 0)), (58, (0, .goto 4, 3, 62, 0, 0)), (61, (0, .iconst 0, 1, 0, 0, 0)), (62, (2, .ireturn, 1, 0, 0, 0))]
/-- 52: RowImprover$Code.greatestT(I)I -/
def rz_T52 : List (Nat × rz_I) := [(0, (0, .iload_n 0, 1, 0, 0, 0)), (1, (0, .iconst 5, 1, 0, 0, 0)), (2, (0, .if_icmp .gt 5, 3, 7, 0, 0)), (5, (0, .iconst 3, 1, 0, 0, 0)), (6, (2, .ireturn, 1, 0, 0, 0)), (7, (0, .iload_n 0, 1, 0, 0, 0)), (8, (0, .bipush 9, 2, 0, 0, 0)), (10, (0, .if_icmp .gt 6, 3, 16, 0, 0)), (13, (0, .bipush 15, 2, 0, 0, 0)), (15, (2, .ireturn, 1, 0, 0, 0)), (16, (0, .iload_n 0, 1, 0, 0, 0)), (17, (0, .bipush 11, 2, 0, 0, 0)), (19, (0, .if_icmp .gt 6, 3, 25, 0, 0)), (22, (0, .bipush 7, 2, 0, 0, 0)), (24, (2, .ireturn, 1, 0, 0, 0)), (25, (0, .iload_n 0, 1, 0, 0, 0)), (26, (0, .bipush 15, 2, 0, 0, 0)), (28, (0, .if_icmp .ne 7, 3, 35, 0, 0)), (31, (0, .iconst 0, 1, 0, 0, 0)), (32, (0, .goto 5, 3, 37, 0, 0)), (35, (0, .bipush 24, 2, 0, 0, 0)), (37, (2, .ireturn, 1, 0, 0, 0))]
/-- 53: RowImprover$Program.isFull()Z -/
def rz_T53 : List (Nat × rz_I) := [(0, (0, .aload_n 0, 1, 0, 0, 0)), (1, (0, .getfield 15, 3, 1, 1, 0)), (4, (0, .bipush 24, 2, 0, 0, 0)), (6, (0, .if_icmp .lt 7, 3, 13, 0, 0)), (9, (0, .iconst 1, 1, 0, 0, 0)), (10, (0, .goto 4, 3, 14, 0, 0)), (13, (0, .iconst 0, 1, 0, 0, 0)), (14, (2, .ireturn, 1, 0, 0, 0))]
/-- 54: RowImprover$Program.append(I)I -/
def rz_T54 : List (Nat × rz_I) := [(0, (0, .aload_n 0, 1, 0, 0, 0)), (1, (0, .getfield 9, 3, 1, 0, 0)), (4, (0, .aload_n 0, 1, 0, 0, 0)), (5, (0, .getfield 15, 3, 1, 1, 0)), (8, (0, .iload_n 1, 1, 0, 0, 0)), (9, (0, .iastore, 1, 0, 0, 0)), (10, (0, .aload_n 0, 1, 0, 0, 0)), (11, (0, .dup, 1, 0, 0, 0)), (12, (0, .getfield 15, 3, 1, 1, 0)), (15, (0, .iconst 1, 1, 0, 0, 0)), (16, (0, .iadd, 1, 0, 0, 0)), (17, (0, .putfield 15, 3, 1, 1, 0)), (20, (0, .aload_n 0, 1, 0, 0, 0)), (21, (0, .getfield 15, 3, 1, 1, 0)), (24, (0, .iconst 1, 1, 0, 0, 0)), (25, (0, .isub, 1, 0, 0, 0)), (26, (2, .ireturn, 1, 0, 0, 0))]
/-- 55: RowImprover.replace(IIIII)V -/
def rz_T55 : List (Nat × rz_I) := [(0, (0, .iload_n 2, 1, 0, 0, 0)), (1, (0, .iload_n 3, 1, 0, 0, 0)), (2, (0, .iload 4, 2, 0, 0, 0)), (4, (0, .iload 5, 2, 0, 0, 0)), (6, (1, .invokestatic 44, 3, 51, 4, 0)), (9, (0, .ifCond .ne 13, 3, 22, 0, 0)), (12, (3, .new 50, 3, 0, 54, 52)), (22, (0, .aload_n 0, 1, 0, 0, 0)), (23, (0, .getfield 10, 3, 0, 0, 0)), (26, (0, .iload_n 1, 1, 0, 0, 0)), (27, (1, .invokevirtual 74, 3, 21, 2, 0)), (30, (0, .ifCond .ne 13, 3, 43, 0, 0)), (33, (3, .new 78, 3, 2, 82, 80)), (43, (0, .aload_n 0, 1, 0, 0, 0)), (44, (0, .getfield 10, 3, 0, 0, 0)), (47, (0, .iload_n 1, 1, 0, 0, 0)), (48, (0, .iload_n 2, 1, 0, 0, 0)), (49, (0, .iload_n 3, 1, 0, 0, 0)), (50, (0, .iload 4, 2, 0, 0, 0)), (52, (0, .iload 5, 2, 0, 0, 0)), (54, (1, .invokestatic 66, 3, 42, 4, 0)), (57, (1, .invokevirtual 83, 3, 56, 3, 0)), (60, (2, .return_, 1, 0, 0, 0))]
/-- 56: RowImprover$Program.put(II)V -/
def rz_T56 : List (Nat × rz_I) := [(0, (0, .aload_n 0, 1, 0, 0, 0)), (1, (0, .getfield 9, 3, 1, 0, 0)), (4, (0, .iload_n 1, 1, 0, 0, 0)), (5, (0, .iload_n 2, 1, 0, 0, 0)), (6, (0, .iastore, 1, 0, 0, 0)), (7, (2, .return_, 1, 0, 0, 0))]
/-- 57: RowImprover.instruction(II)I -/
def rz_T57 : List (Nat × rz_I) := [(0, (0, .iload_n 2, 1, 0, 0, 0)), (1, (0, .ifCond .lt 8, 3, 9, 0, 0)), (4, (0, .iload_n 2, 1, 0, 0, 0)), (5, (0, .iconst 3, 1, 0, 0, 0)), (6, (0, .if_icmp .le 13, 3, 19, 0, 0)), (9, (3, .new 50, 3, 0, 54, 94)), (19, (0, .aload_n 0, 1, 0, 0, 0)), (20, (0, .getfield 10, 3, 0, 0, 0)), (23, (0, .iload_n 1, 1, 0, 0, 0)), (24, (1, .invokevirtual 74, 3, 21, 2, 0)), (27, (0, .ifCond .ne 13, 3, 40, 0, 0)), (30, (3, .new 78, 3, 2, 82, 80)), (40, (0, .aload_n 0, 1, 0, 0, 0)), (41, (0, .getfield 10, 3, 0, 0, 0)), (44, (0, .iload_n 1, 1, 0, 0, 0)), (45, (1, .invokevirtual 96, 3, 13, 2, 0)), (48, (0, .iload_n 2, 1, 0, 0, 0)), (49, (1, .invokestatic 99, 3, 58, 2, 0)), (52, (2, .ireturn, 1, 0, 0, 0))]
/-- 58: RowImprover$Code.part(II)I -/
def rz_T58 : List (Nat × rz_I) := [(0, (0, .iload_n 1, 1, 0, 0, 0)), (1, (0, .tableswitch 42 0 2 #[27, 32, 37], 27, 0, 0, 0)), (28, (0, .iload_n 0, 1, 0, 0, 0)), (29, (1, .invokestatic 15, 3, 16, 1, 0)), (32, (2, .ireturn, 1, 0, 0, 0)), (33, (0, .iload_n 0, 1, 0, 0, 0)), (34, (1, .invokestatic 18, 3, 18, 1, 0)), (37, (2, .ireturn, 1, 0, 0, 0)), (38, (0, .iload_n 0, 1, 0, 0, 0)), (39, (1, .invokestatic 21, 3, 20, 1, 0)), (42, (2, .ireturn, 1, 0, 0, 0)), (43, (0, .iload_n 0, 1, 0, 0, 0)), (44, (1, .invokestatic 24, 3, 15, 1, 0)), (47, (2, .ireturn, 1, 0, 0, 0))]
/-- 59: RowImprover.start(II)V -/
def rz_T59 : List (Nat × rz_I) := [(0, (0, .iload_n 1, 1, 0, 0, 0)), (1, (0, .iconst 1, 1, 0, 0, 0)), (2, (0, .if_icmp .lt 19, 3, 21, 0, 0)), (5, (0, .iload_n 1, 1, 0, 0, 0)), (6, (0, .bipush 12, 2, 0, 0, 0)), (8, (0, .if_icmp .ge 13, 3, 21, 0, 0)), (11, (0, .iload_n 2, 1, 0, 0, 0)), (12, (0, .ifCond .lt 9, 3, 21, 0, 0)), (15, (0, .iload_n 2, 1, 0, 0, 0)), (16, (0, .bipush 15, 2, 0, 0, 0)), (18, (0, .if_icmp .le 13, 3, 31, 0, 0)), (21, (3, .new 50, 3, 0, 54, 103)), (31, (0, .aload_n 0, 1, 0, 0, 0)), (32, (0, .getfield 19, 3, 0, 1, 0)), (35, (0, .iload_n 1, 1, 0, 0, 0)), (36, (0, .iload_n 2, 1, 0, 0, 0)), (37, (1, .invokevirtual 105, 3, 60, 3, 0)), (40, (2, .return_, 1, 0, 0, 0))]
/-- 60: RowImprover$Machine.setStart(II)V -/
def rz_T60 : List (Nat × rz_I) := [(0, (0, .iload_n 1, 1, 0, 0, 0)), (1, (0, .iconst 4, 1, 0, 0, 0)), (2, (0, .if_icmp .ge 19, 3, 21, 0, 0)), (5, (0, .aload_n 0, 1, 0, 0, 0)), (6, (0, .aload_n 0, 1, 0, 0, 0)), (7, (0, .getfield 18, 3, 2, 2, 0)), (10, (0, .iload_n 1, 1, 0, 0, 0)), (11, (0, .iload_n 2, 1, 0, 0, 0)), (12, (1, .invokestatic 22, 3, 38, 3, 0)), (15, (0, .putfield 18, 3, 2, 2, 0)), (18, (0, .goto 12, 3, 30, 0, 0)), (21, (0, .aload_n 0, 1, 0, 0, 0)), (22, (0, .getfield 9, 3, 2, 0, 0)), (25, (0, .iload_n 1, 1, 0, 0, 0)), (26, (0, .iconst 4, 1, 0, 0, 0)), (27, (0, .isub, 1, 0, 0, 0)), (28, (0, .iload_n 2, 1, 0, 0, 0)), (29, (0, .iastore, 1, 0, 0, 0)), (30, (2, .return_, 1, 0, 0, 0))]
/-- 61: RowImprover.run(I)I -/
def rz_T61 : List (Nat × rz_I) := [(0, (0, .iload_n 1, 1, 0, 0, 0)), (1, (0, .ifCond .lt 10, 3, 11, 0, 0)), (4, (0, .iload_n 1, 1, 0, 0, 0)), (5, (0, .sipush 500, 3, 0, 0, 0)), (8, (0, .if_icmp .le 13, 3, 21, 0, 0)), (11, (3, .new 50, 3, 0, 54, 108)), (21, (0, .aload_n 0, 1, 0, 0, 0)), (22, (0, .getfield 19, 3, 0, 1, 0)), (25, (0, .aload_n 0, 1, 0, 0, 0)), (26, (0, .getfield 10, 3, 0, 0, 0)), (29, (0, .iload_n 1, 1, 0, 0, 0)), (30, (1, .invokevirtual 110, 3, 62, 3, 0)), (33, (2, .ireturn, 1, 0, 0, 0))]
/-- 62: RowImprover$Machine.perform(LRowImprover$Program;I)I -/
def rz_T62 : List (Nat × rz_I) := [(0, (0, .aload_n 0, 1, 0, 0, 0)), (1, (0, .aload_n 0, 1, 0, 0, 0)), (2, (0, .getfield 18, 3, 2, 2, 0)), (5, (0, .putfield 28, 3, 2, 3, 0)), (8, (0, .aload_n 0, 1, 0, 0, 0)), (9, (0, .getfield 9, 3, 2, 0, 0)), (12, (0, .iconst 0, 1, 0, 0, 0)), (13, (0, .aload_n 0, 1, 0, 0, 0)), (14, (0, .getfield 15, 3, 2, 1, 0)), (17, (0, .iconst 0, 1, 0, 0, 0)), (18, (0, .bipush 8, 2, 0, 0, 0)), (20, (5, .invokestatic 31, 3, 0, 0, 0)), (23, (0, .aload_n 0, 1, 0, 0, 0)), (24, (0, .iconst 0, 1, 0, 0, 0)), (25, (0, .putfield 37, 3, 2, 4, 0)), (28, (0, .aload_n 0, 1, 0, 0, 0)), (29, (0, .aload_n 1, 1, 0, 0, 0)), (30, (0, .aload_n 0, 1, 0, 0, 0)), (31, (0, .getfield 37, 3, 2, 4, 0)), (34, (1, .invokevirtual 40, 3, 21, 2, 0)), (37, (0, .ifCond .ne 7, 3, 44, 0, 0)), (40, (0, .iconst 1, 1, 0, 0, 0)), (41, (0, .goto 4, 3, 45, 0, 0)), (44, (0, .iconst 0, 1, 0, 0, 0)), (45, (0, .putfield 46, 3, 2, 5, 0)), (48, (0, .iconst 0, 1, 0, 0, 0)), (49, (0, .istore_n 3, 1, 0, 0, 0)), (50, (0, .iload_n 3, 1, 0, 0, 0)), (51, (0, .iload_n 2, 1, 0, 0, 0)), (52, (0, .if_icmp .ge 62, 3, 114, 0, 0)), (55, (0, .aload_n 0, 1, 0, 0, 0)), (56, (0, .getfield 46, 3, 2, 5, 0)), (59, (0, .ifCond .ne 55, 3, 114, 0, 0)), (62, (0, .aload_n 1, 1, 0, 0, 0)), (63, (0, .aload_n 0, 1, 0, 0, 0)), (64, (0, .getfield 37, 3, 2, 4, 0)), (67, (1, .invokevirtual 50, 3, 13, 2, 0)), (70, (0, .istore 4, 2, 0, 0, 0)), (72, (0, .aload_n 0, 1, 0, 0, 0)), (73, (0, .iload 4, 2, 0, 0, 0)), (75, (1, .invokevirtual 54, 3, 63, 2, 0)), (78, (0, .aload_n 0, 1, 0, 0, 0)), (79, (0, .iload 4, 2, 0, 0, 0)), (81, (1, .invokestatic 58, 3, 16, 1, 0)), (84, (0, .bipush 15, 2, 0, 0, 0)), (86, (0, .if_icmp .eq 14, 3, 100, 0, 0)), (89, (0, .aload_n 1, 1, 0, 0, 0)), (90, (0, .aload_n 0, 1, 0, 0, 0)), (91, (0, .getfield 37, 3, 2, 4, 0)), (94, (1, .invokevirtual 40, 3, 21, 2, 0)), (97, (0, .ifCond .ne 7, 3, 104, 0, 0)), (100, (0, .iconst 1, 1, 0, 0, 0)), (101, (0, .goto 4, 3, 105, 0, 0)), (104, (0, .iconst 0, 1, 0, 0, 0)), (105, (0, .putfield 46, 3, 2, 5, 0)), (108, (0, .iinc 3 1, 3, 0, 0, 0)), (111, (0, .goto (-61), 3, 50, 0, 0)), (114, (0, .iload_n 3, 1, 0, 0, 0)), (115, (2, .ireturn, 1, 0, 0, 0))]
/-- 63: RowImprover$Machine.step(I)V -/
def rz_T63 : List (Nat × rz_I) := [(0, (0, .aload_n 0, 1, 0, 0, 0)), (1, (0, .aload_n 0, 1, 0, 0, 0)), (2, (0, .iload_n 1, 1, 0, 0, 0)), (3, (1, .invokevirtual 63, 3, 64, 2, 0)), (6, (0, .ifCond .eq 10, 3, 16, 0, 0)), (9, (0, .iload_n 1, 1, 0, 0, 0)), (10, (1, .invokestatic 66, 3, 15, 1, 0)), (13, (0, .goto 9, 3, 22, 0, 0)), (16, (0, .aload_n 0, 1, 0, 0, 0)), (17, (0, .getfield 37, 3, 2, 4, 0)), (20, (0, .iconst 1, 1, 0, 0, 0)), (21, (0, .iadd, 1, 0, 0, 0)), (22, (0, .putfield 37, 3, 2, 4, 0)), (25, (0, .aload_n 0, 1, 0, 0, 0)), (26, (0, .getfield 28, 3, 2, 3, 0)), (29, (0, .iload_n 1, 1, 0, 0, 0)), (30, (1, .invokestatic 69, 3, 20, 1, 0)), (33, (1, .invokestatic 72, 3, 7, 2, 0)), (36, (0, .iload_n 1, 1, 0, 0, 0)), (37, (1, .invokestatic 66, 3, 15, 1, 0)), (40, (0, .iadd, 1, 0, 0, 0)), (41, (0, .bipush 8, 2, 0, 0, 0)), (43, (0, .irem, 1, 0, 0, 0)), (44, (0, .istore_n 2, 1, 0, 0, 0)), (45, (0, .iload_n 1, 1, 0, 0, 0)), (46, (1, .invokestatic 58, 3, 16, 1, 0)), (49, (0, .bipush 10, 2, 0, 0, 0)), (51, (0, .if_icmp .ne 27, 3, 78, 0, 0)), (54, (0, .aload_n 0, 1, 0, 0, 0)), (55, (0, .aload_n 0, 1, 0, 0, 0)), (56, (0, .getfield 28, 3, 2, 3, 0)), (59, (0, .iload_n 1, 1, 0, 0, 0)), (60, (1, .invokestatic 76, 3, 18, 1, 0)), (63, (0, .aload_n 0, 1, 0, 0, 0)), (64, (0, .getfield 15, 3, 2, 1, 0)), (67, (0, .iload_n 2, 1, 0, 0, 0)), (68, (0, .iaload, 1, 0, 0, 0)), (69, (1, .invokestatic 22, 3, 38, 3, 0)), (72, (0, .putfield 28, 3, 2, 3, 0)), (75, (0, .goto 44, 3, 119, 0, 0)), (78, (0, .iload_n 1, 1, 0, 0, 0)), (79, (1, .invokestatic 58, 3, 16, 1, 0)), (82, (0, .bipush 11, 2, 0, 0, 0)), (84, (0, .if_icmp .ne 23, 3, 107, 0, 0)), (87, (0, .aload_n 0, 1, 0, 0, 0)), (88, (0, .getfield 15, 3, 2, 1, 0)), (91, (0, .iload_n 2, 1, 0, 0, 0)), (92, (0, .aload_n 0, 1, 0, 0, 0)), (93, (0, .getfield 28, 3, 2, 3, 0)), (96, (0, .iload_n 1, 1, 0, 0, 0)), (97, (1, .invokestatic 76, 3, 18, 1, 0)), (100, (1, .invokestatic 72, 3, 7, 2, 0)), (103, (0, .iastore, 1, 0, 0, 0)), (104, (0, .goto 15, 3, 119, 0, 0)), (107, (0, .aload_n 0, 1, 0, 0, 0)), (108, (0, .iload_n 1, 1, 0, 0, 0)), (109, (0, .aload_n 0, 1, 0, 0, 0)), (110, (0, .getfield 28, 3, 2, 3, 0)), (113, (1, .invokestatic 79, 3, 37, 2, 0)), (116, (0, .putfield 28, 3, 2, 3, 0)), (119, (2, .return_, 1, 0, 0, 0))]
/-- 64: RowImprover$Machine.jumps(I)Z -/
def rz_T64 : List (Nat × rz_I) := [(0, (0, .aload_n 0, 1, 0, 0, 0)), (1, (0, .getfield 28, 3, 2, 3, 0)), (4, (0, .iload_n 1, 1, 0, 0, 0)), (5, (1, .invokestatic 76, 3, 18, 1, 0)), (8, (1, .invokestatic 72, 3, 7, 2, 0)), (11, (0, .istore_n 2, 1, 0, 0, 0)), (12, (0, .aload_n 0, 1, 0, 0, 0)), (13, (0, .getfield 28, 3, 2, 3, 0)), (16, (0, .iload_n 1, 1, 0, 0, 0)), (17, (1, .invokestatic 69, 3, 20, 1, 0)), (20, (1, .invokestatic 72, 3, 7, 2, 0)), (23, (0, .istore_n 3, 1, 0, 0, 0)), (24, (0, .iload_n 1, 1, 0, 0, 0)), (25, (1, .invokestatic 58, 3, 16, 1, 0)), (28, (0, .tableswitch 52 12 14 #[28, 39, 50], 28, 0, 0, 0)), (56, (0, .iload_n 2, 1, 0, 0, 0)), (57, (0, .iload_n 3, 1, 0, 0, 0)), (58, (0, .if_icmp .ne 7, 3, 65, 0, 0)), (61, (0, .iconst 1, 1, 0, 0, 0)), (62, (0, .goto 4, 3, 66, 0, 0)), (65, (0, .iconst 0, 1, 0, 0, 0)), (66, (2, .ireturn, 1, 0, 0, 0)), (67, (0, .iload_n 2, 1, 0, 0, 0)), (68, (0, .iload_n 3, 1, 0, 0, 0)), (69, (0, .if_icmp .eq 7, 3, 76, 0, 0)), (72, (0, .iconst 1, 1, 0, 0, 0)), (73, (0, .goto 4, 3, 77, 0, 0)), (76, (0, .iconst 0, 1, 0, 0, 0)), (77, (2, .ireturn, 1, 0, 0, 0)), (78, (0, .iconst 1, 1, 0, 0, 0)), (79, (2, .ireturn, 1, 0, 0, 0)), (80, (0, .iconst 0, 1, 0, 0, 0)), (81, (2, .ireturn, 1, 0, 0, 0))]
/-- 65: RowImprover.live(I)I -/
def rz_T65 : List (Nat × rz_I) := [(0, (0, .iload_n 1, 1, 0, 0, 0)), (1, (0, .ifCond .lt 14, 3, 15, 0, 0)), (4, (0, .iload_n 1, 1, 0, 0, 0)), (5, (0, .aload_n 0, 1, 0, 0, 0)), (6, (0, .getfield 10, 3, 0, 0, 0)), (9, (1, .invokevirtual 91, 3, 4, 1, 0)), (12, (0, .if_icmp .le 13, 3, 25, 0, 0)), (15, (3, .new 78, 3, 2, 82, 117)), (25, (0, .aload_n 0, 1, 0, 0, 0)), (26, (0, .getfield 26, 3, 0, 2, 0)), (29, (0, .aload_n 0, 1, 0, 0, 0)), (30, (0, .getfield 10, 3, 0, 0, 0)), (33, (1, .invokevirtual 119, 3, 10, 2, 0)), (36, (0, .aload_n 0, 1, 0, 0, 0)), (37, (0, .getfield 26, 3, 0, 2, 0)), (40, (0, .iload_n 1, 1, 0, 0, 0)), (41, (1, .invokevirtual 123, 3, 31, 2, 0)), (44, (2, .ireturn, 1, 0, 0, 0))]
/-- 66: RowImprover.block(I)I -/
def rz_T66 : List (Nat × rz_I) := [(0, (0, .aload_n 0, 1, 0, 0, 0)), (1, (0, .getfield 10, 3, 0, 0, 0)), (4, (0, .iload_n 1, 1, 0, 0, 0)), (5, (1, .invokevirtual 74, 3, 21, 2, 0)), (8, (0, .ifCond .ne 13, 3, 21, 0, 0)), (11, (3, .new 78, 3, 2, 82, 80)), (21, (0, .aload_n 0, 1, 0, 0, 0)), (22, (0, .getfield 10, 3, 0, 0, 0)), (25, (0, .iload_n 1, 1, 0, 0, 0)), (26, (1, .invokevirtual 126, 3, 67, 2, 0)), (29, (2, .ireturn, 1, 0, 0, 0))]
/-- 67: RowImprover$Program.beginOfBlock(I)I -/
def rz_T67 : List (Nat × rz_I) := [(0, (0, .iload_n 1, 1, 0, 0, 0)), (1, (0, .istore_n 2, 1, 0, 0, 0)), (2, (0, .iload_n 2, 1, 0, 0, 0)), (3, (0, .ifCond .le 17, 3, 20, 0, 0)), (6, (0, .aload_n 0, 1, 0, 0, 0)), (7, (0, .iload_n 2, 1, 0, 0, 0)), (8, (1, .invokevirtual 32, 3, 27, 2, 0)), (11, (0, .ifCond .ne 9, 3, 20, 0, 0)), (14, (0, .iinc 2 (-1), 3, 0, 0, 0)), (17, (0, .goto (-15), 3, 2, 0, 0)), (20, (0, .iload_n 2, 1, 0, 0, 0)), (21, (2, .ireturn, 1, 0, 0, 0))]
/-- 68: RowImprover.same(IIIII)Z -/
def rz_T68 : List (Nat × rz_I) := [(0, (0, .iload_n 2, 1, 0, 0, 0)), (1, (0, .ifCond .lt 19, 3, 20, 0, 0)), (4, (0, .iload_n 2, 1, 0, 0, 0)), (5, (0, .iconst 3, 1, 0, 0, 0)), (6, (0, .if_icmp .gt 14, 3, 20, 0, 0)), (9, (0, .iload 4, 2, 0, 0, 0)), (11, (0, .ifCond .lt 9, 3, 20, 0, 0)), (14, (0, .iload 4, 2, 0, 0, 0)), (16, (0, .iconst 3, 1, 0, 0, 0)), (17, (0, .if_icmp .le 13, 3, 30, 0, 0)), (20, (3, .new 50, 3, 0, 54, 129)), (30, (0, .iload 5, 2, 0, 0, 0)), (32, (0, .ifCond .lt 10, 3, 42, 0, 0)), (35, (0, .iload 5, 2, 0, 0, 0)), (37, (0, .bipush 15, 2, 0, 0, 0)), (39, (0, .if_icmp .le 13, 3, 52, 0, 0)), (42, (3, .new 50, 3, 0, 54, 131)), (52, (0, .aload_n 0, 1, 0, 0, 0)), (53, (0, .getfield 10, 3, 0, 0, 0)), (56, (0, .iload_n 1, 1, 0, 0, 0)), (57, (0, .iload_n 2, 1, 0, 0, 0)), (58, (1, .invokevirtual 133, 3, 24, 3, 0)), (61, (0, .ifCond .eq 16, 3, 77, 0, 0)), (64, (0, .aload_n 0, 1, 0, 0, 0)), (65, (0, .getfield 10, 3, 0, 0, 0)), (68, (0, .iload_n 3, 1, 0, 0, 0)), (69, (0, .iload 4, 2, 0, 0, 0)), (71, (1, .invokevirtual 133, 3, 24, 3, 0)), (74, (0, .ifCond .ne 13, 3, 87, 0, 0)), (77, (3, .new 78, 3, 2, 82, 137)), (87, (0, .aload_n 0, 1, 0, 0, 0)), (88, (0, .getfield 10, 3, 0, 0, 0)), (91, (0, .iload_n 1, 1, 0, 0, 0)), (92, (0, .iload_n 2, 1, 0, 0, 0)), (93, (1, .invokevirtual 139, 3, 25, 3, 0)), (96, (0, .ifCond .eq 16, 3, 112, 0, 0)), (99, (0, .aload_n 0, 1, 0, 0, 0)), (100, (0, .getfield 10, 3, 0, 0, 0)), (103, (0, .iload_n 3, 1, 0, 0, 0)), (104, (0, .iload 4, 2, 0, 0, 0)), (106, (1, .invokevirtual 139, 3, 25, 3, 0)), (109, (0, .ifCond .ne 13, 3, 122, 0, 0)), (112, (3, .new 142, 3, 3, 146, 144)), (122, (0, .aload_n 0, 1, 0, 0, 0)), (123, (0, .getfield 33, 3, 0, 3, 0)), (126, (0, .aload_n 0, 1, 0, 0, 0)), (127, (0, .getfield 10, 3, 0, 0, 0)), (130, (0, .iload_n 1, 1, 0, 0, 0)), (131, (0, .iload_n 2, 1, 0, 0, 0)), (132, (0, .iload_n 3, 1, 0, 0, 0)), (133, (0, .iload 4, 2, 0, 0, 0)), (135, (0, .iload 5, 2, 0, 0, 0)), (137, (1, .invokevirtual 147, 3, 69, 7, 0)), (140, (2, .ireturn, 1, 0, 0, 0))]
/-- 69: RowImprover$Prover.agreeInProgram(LRowImprover$Program;IIIII)Z -/
def rz_T69 : List (Nat × rz_I) := [(0, (0, .aload_n 0, 1, 0, 0, 0)), (1, (0, .getfield 10, 3, 4, 0, 0)), (4, (0, .aload_n 1, 1, 0, 0, 0)), (5, (0, .iload_n 2, 1, 0, 0, 0)), (6, (0, .iload_n 3, 1, 0, 0, 0)), (7, (1, .invokevirtual 19, 3, 30, 4, 0)), (10, (0, .aload_n 0, 1, 0, 0, 0)), (11, (0, .getfield 16, 3, 4, 1, 0)), (14, (0, .aload_n 1, 1, 0, 0, 0)), (15, (0, .iload 4, 2, 0, 0, 0)), (17, (0, .iload 5, 2, 0, 0, 0)), (19, (1, .invokevirtual 19, 3, 30, 4, 0)), (22, (0, .aload_n 0, 1, 0, 0, 0)), (23, (0, .aload_n 0, 1, 0, 0, 0)), (24, (0, .getfield 10, 3, 4, 0, 0)), (27, (0, .aload_n 0, 1, 0, 0, 0)), (28, (0, .getfield 16, 3, 4, 1, 0)), (31, (0, .iload 6, 2, 0, 0, 0)), (33, (1, .invokestatic 23, 3, 32, 1, 0)), (36, (1, .invokevirtual 29, 3, 35, 4, 0)), (39, (2, .ireturn, 1, 0, 0, 0))]
/-- 70: RowImproverModel.thrown()I -/
def rz_T70 : List (Nat × rz_I) := [(0, (0, .aload_n 0, 1, 0, 0, 0)), (1, (0, .getfield 37, 3, 7, 0, 0)), (4, (2, .ireturn, 1, 0, 0, 0))]
/-- 71: RowImproverModel.add(IIII)I -/
def rz_T71 : List (Nat × rz_I) := [(0, (0, .aload_n 0, 1, 0, 0, 0)), (1, (0, .iload_n 1, 1, 0, 0, 0)), (2, (0, .iload_n 2, 1, 0, 0, 0)), (3, (0, .iload_n 3, 1, 0, 0, 0)), (4, (0, .iload 4, 2, 0, 0, 0)), (6, (1, .invokestatic 45, 3, 72, 4, 0)), (9, (0, .ifCond .ne 7, 3, 16, 0, 0)), (12, (0, .iconst 1, 1, 0, 0, 0)), (13, (0, .goto 17, 3, 30, 0, 0)), (16, (0, .aload_n 0, 1, 0, 0, 0)), (17, (0, .getfield 49, 3, 7, 1, 0)), (20, (0, .bipush 24, 2, 0, 0, 0)), (22, (0, .if_icmp .ne 7, 3, 29, 0, 0)), (25, (0, .iconst 2, 1, 0, 0, 0)), (26, (0, .goto 4, 3, 30, 0, 0)), (29, (0, .iconst 0, 1, 0, 0, 0)), (30, (0, .putfield 37, 3, 7, 0, 0)), (33, (0, .aload_n 0, 1, 0, 0, 0)), (34, (0, .getfield 37, 3, 7, 0, 0)), (37, (0, .ifCond .eq 5, 3, 42, 0, 0)), (40, (0, .iconst 0, 1, 0, 0, 0)), (41, (2, .ireturn, 1, 0, 0, 0)), (42, (0, .aload_n 0, 1, 0, 0, 0)), (43, (0, .aload_n 0, 1, 0, 0, 0)), (44, (0, .getfield 49, 3, 7, 1, 0)), (47, (0, .iload_n 1, 1, 0, 0, 0)), (48, (0, .iload_n 2, 1, 0, 0, 0)), (49, (0, .iload_n 3, 1, 0, 0, 0)), (50, (0, .iload 4, 2, 0, 0, 0)), (52, (1, .invokevirtual 52, 3, 74, 6, 0)), (55, (0, .aload_n 0, 1, 0, 0, 0)), (56, (0, .dup, 1, 0, 0, 0)), (57, (0, .getfield 49, 3, 7, 1, 0)), (60, (0, .iconst 1, 1, 0, 0, 0)), (61, (0, .iadd, 1, 0, 0, 0)), (62, (0, .putfield 49, 3, 7, 1, 0)), (65, (0, .aload_n 0, 1, 0, 0, 0)), (66, (0, .getfield 49, 3, 7, 1, 0)), (69, (0, .iconst 1, 1, 0, 0, 0)), (70, (0, .isub, 1, 0, 0, 0)), (71, (2, .ireturn, 1, 0, 0, 0))]
/-- 72: RowImproverModel.isInstruction(IIII)Z -/
def rz_T72 : List (Nat × rz_I) := [(0, (0, .iload_n 0, 1, 0, 0, 0)), (1, (0, .iconst 0, 1, 0, 0, 0)), (2, (0, .bipush 15, 2, 0, 0, 0)), (4, (1, .invokestatic 41, 3, 73, 3, 0)), (7, (0, .ifCond .eq 21, 3, 28, 0, 0)), (10, (0, .iload_n 1, 1, 0, 0, 0)), (11, (0, .iconst 0, 1, 0, 0, 0)), (12, (0, .iconst 3, 1, 0, 0, 0)), (13, (1, .invokestatic 41, 3, 73, 3, 0)), (16, (0, .ifCond .eq 12, 3, 28, 0, 0)), (19, (0, .iload_n 2, 1, 0, 0, 0)), (20, (0, .iconst 0, 1, 0, 0, 0)), (21, (0, .iconst 3, 1, 0, 0, 0)), (22, (1, .invokestatic 41, 3, 73, 3, 0)), (25, (0, .ifCond .ne 5, 3, 30, 0, 0)), (28, (0, .iconst 0, 1, 0, 0, 0)), (29, (2, .ireturn, 1, 0, 0, 0)), (30, (0, .iload_n 0, 1, 0, 0, 0)), (31, (0, .iconst 5, 1, 0, 0, 0)), (32, (0, .if_icmp .gt 7, 3, 39, 0, 0)), (35, (0, .iconst 3, 1, 0, 0, 0)), (36, (0, .goto 37, 3, 73, 0, 0)), (39, (0, .iload_n 0, 1, 0, 0, 0)), (40, (0, .bipush 9, 2, 0, 0, 0)), (42, (0, .if_icmp .gt 8, 3, 50, 0, 0)), (45, (0, .bipush 15, 2, 0, 0, 0)), (47, (0, .goto 26, 3, 73, 0, 0)), (50, (0, .iload_n 0, 1, 0, 0, 0)), (51, (0, .bipush 11, 2, 0, 0, 0)), (53, (0, .if_icmp .gt 8, 3, 61, 0, 0)), (56, (0, .bipush 7, 2, 0, 0, 0)), (58, (0, .goto 15, 3, 73, 0, 0)), (61, (0, .iload_n 0, 1, 0, 0, 0)), (62, (0, .bipush 14, 2, 0, 0, 0)), (64, (0, .if_icmp .gt 8, 3, 72, 0, 0)), (67, (0, .bipush 24, 2, 0, 0, 0)), (69, (0, .goto 4, 3, 73, 0, 0)), (72, (0, .iconst 0, 1, 0, 0, 0)), (73, (0, .istore 4, 2, 0, 0, 0)), (75, (0, .iload_n 3, 1, 0, 0, 0)), (76, (0, .iconst 0, 1, 0, 0, 0)), (77, (0, .iload 4, 2, 0, 0, 0)), (79, (1, .invokestatic 41, 3, 73, 3, 0)), (82, (0, .ifCond .eq 21, 3, 103, 0, 0)), (85, (0, .iload_n 0, 1, 0, 0, 0)), (86, (0, .bipush 14, 2, 0, 0, 0)), (88, (0, .if_icmp .lt 11, 3, 99, 0, 0)), (91, (0, .iload_n 1, 1, 0, 0, 0)), (92, (0, .ifCond .ne 11, 3, 103, 0, 0)), (95, (0, .iload_n 2, 1, 0, 0, 0)), (96, (0, .ifCond .ne 7, 3, 103, 0, 0)), (99, (0, .iconst 1, 1, 0, 0, 0)), (100, (0, .goto 4, 3, 104, 0, 0)), (103, (0, .iconst 0, 1, 0, 0, 0)), (104, (2, .ireturn, 1, 0, 0, 0))]
/-- 73: RowImproverModel.in(III)Z -/
def rz_T73 : List (Nat × rz_I) := [(0, (0, .iload_n 0, 1, 0, 0, 0)), (1, (0, .iload_n 1, 1, 0, 0, 0)), (2, (0, .if_icmp .lt 12, 3, 14, 0, 0)), (5, (0, .iload_n 0, 1, 0, 0, 0)), (6, (0, .iload_n 2, 1, 0, 0, 0)), (7, (0, .if_icmp .gt 7, 3, 14, 0, 0)), (10, (0, .iconst 1, 1, 0, 0, 0)), (11, (0, .goto 4, 3, 15, 0, 0)), (14, (0, .iconst 0, 1, 0, 0, 0)), (15, (2, .ireturn, 1, 0, 0, 0))]
/-- 74: RowImproverModel.put(IIIII)V -/
def rz_T74 : List (Nat × rz_I) := [(0, (0, .aload_n 0, 1, 0, 0, 0)), (1, (0, .getfield 7, 3, 7, 2, 0)), (4, (0, .iload_n 1, 1, 0, 0, 0)), (5, (0, .iload_n 2, 1, 0, 0, 0)), (6, (0, .iastore, 1, 0, 0, 0)), (7, (0, .aload_n 0, 1, 0, 0, 0)), (8, (0, .getfield 13, 3, 7, 3, 0)), (11, (0, .iload_n 1, 1, 0, 0, 0)), (12, (0, .iload_n 3, 1, 0, 0, 0)), (13, (0, .iastore, 1, 0, 0, 0)), (14, (0, .aload_n 0, 1, 0, 0, 0)), (15, (0, .getfield 16, 3, 7, 4, 0)), (18, (0, .iload_n 1, 1, 0, 0, 0)), (19, (0, .iload 4, 2, 0, 0, 0)), (21, (0, .iastore, 1, 0, 0, 0)), (22, (0, .aload_n 0, 1, 0, 0, 0)), (23, (0, .getfield 19, 3, 7, 5, 0)), (26, (0, .iload_n 1, 1, 0, 0, 0)), (27, (0, .iload 5, 2, 0, 0, 0)), (29, (0, .iastore, 1, 0, 0, 0)), (30, (2, .return_, 1, 0, 0, 0))]
/-- 75: RowImproverModel.replace(IIIII)V -/
def rz_T75 : List (Nat × rz_I) := [(0, (0, .aload_n 0, 1, 0, 0, 0)), (1, (0, .iload_n 2, 1, 0, 0, 0)), (2, (0, .iload_n 3, 1, 0, 0, 0)), (3, (0, .iload 4, 2, 0, 0, 0)), (5, (0, .iload 5, 2, 0, 0, 0)), (7, (1, .invokestatic 45, 3, 72, 4, 0)), (10, (0, .ifCond .ne 7, 3, 17, 0, 0)), (13, (0, .iconst 1, 1, 0, 0, 0)), (14, (0, .goto 22, 3, 36, 0, 0)), (17, (0, .iload_n 1, 1, 0, 0, 0)), (18, (0, .iconst 0, 1, 0, 0, 0)), (19, (0, .aload_n 0, 1, 0, 0, 0)), (20, (0, .getfield 49, 3, 7, 1, 0)), (23, (0, .iconst 1, 1, 0, 0, 0)), (24, (0, .isub, 1, 0, 0, 0)), (25, (1, .invokestatic 41, 3, 73, 3, 0)), (28, (0, .ifCond .ne 7, 3, 35, 0, 0)), (31, (0, .iconst 2, 1, 0, 0, 0)), (32, (0, .goto 4, 3, 36, 0, 0)), (35, (0, .iconst 0, 1, 0, 0, 0)), (36, (0, .putfield 37, 3, 7, 0, 0)), (39, (0, .aload_n 0, 1, 0, 0, 0)), (40, (0, .getfield 37, 3, 7, 0, 0)), (43, (0, .ifCond .ne 14, 3, 57, 0, 0)), (46, (0, .aload_n 0, 1, 0, 0, 0)), (47, (0, .iload_n 1, 1, 0, 0, 0)), (48, (0, .iload_n 2, 1, 0, 0, 0)), (49, (0, .iload_n 3, 1, 0, 0, 0)), (50, (0, .iload 4, 2, 0, 0, 0)), (52, (0, .iload 5, 2, 0, 0, 0)), (54, (1, .invokevirtual 52, 3, 74, 6, 0)), (57, (2, .return_, 1, 0, 0, 0))]
/-- 76: RowImproverModel.clear()I -/
def rz_T76 : List (Nat × rz_I) := [(0, (0, .aload_n 0, 1, 0, 0, 0)), (1, (0, .iconst 0, 1, 0, 0, 0)), (2, (0, .putfield 37, 3, 7, 0, 0)), (5, (0, .aload_n 0, 1, 0, 0, 0)), (6, (0, .getfield 49, 3, 7, 1, 0)), (9, (0, .istore_n 1, 1, 0, 0, 0)), (10, (0, .aload_n 0, 1, 0, 0, 0)), (11, (0, .iconst 0, 1, 0, 0, 0)), (12, (0, .putfield 49, 3, 7, 1, 0)), (15, (0, .iload_n 1, 1, 0, 0, 0)), (16, (2, .ireturn, 1, 0, 0, 0))]
/-- 77: RowImproverModel.size()I -/
def rz_T77 : List (Nat × rz_I) := [(0, (0, .aload_n 0, 1, 0, 0, 0)), (1, (0, .iconst 0, 1, 0, 0, 0)), (2, (0, .putfield 37, 3, 7, 0, 0)), (5, (0, .aload_n 0, 1, 0, 0, 0)), (6, (0, .getfield 49, 3, 7, 1, 0)), (9, (2, .ireturn, 1, 0, 0, 0))]
/-- 78: RowImproverModel.instruction(II)I -/
def rz_T78 : List (Nat × rz_I) := [(0, (0, .aload_n 0, 1, 0, 0, 0)), (1, (0, .iload_n 2, 1, 0, 0, 0)), (2, (0, .iconst 0, 1, 0, 0, 0)), (3, (0, .iconst 3, 1, 0, 0, 0)), (4, (1, .invokestatic 41, 3, 73, 3, 0)), (7, (0, .ifCond .ne 7, 3, 14, 0, 0)), (10, (0, .iconst 1, 1, 0, 0, 0)), (11, (0, .goto 22, 3, 33, 0, 0)), (14, (0, .iload_n 1, 1, 0, 0, 0)), (15, (0, .iconst 0, 1, 0, 0, 0)), (16, (0, .aload_n 0, 1, 0, 0, 0)), (17, (0, .getfield 49, 3, 7, 1, 0)), (20, (0, .iconst 1, 1, 0, 0, 0)), (21, (0, .isub, 1, 0, 0, 0)), (22, (1, .invokestatic 41, 3, 73, 3, 0)), (25, (0, .ifCond .ne 7, 3, 32, 0, 0)), (28, (0, .iconst 2, 1, 0, 0, 0)), (29, (0, .goto 4, 3, 33, 0, 0)), (32, (0, .iconst 0, 1, 0, 0, 0)), (33, (0, .putfield 37, 3, 7, 0, 0)), (36, (0, .aload_n 0, 1, 0, 0, 0)), (37, (0, .getfield 37, 3, 7, 0, 0)), (40, (0, .ifCond .eq 5, 3, 45, 0, 0)), (43, (0, .iconst 0, 1, 0, 0, 0)), (44, (2, .ireturn, 1, 0, 0, 0)), (45, (0, .iload_n 2, 1, 0, 0, 0)), (46, (0, .ifCond .ne 12, 3, 58, 0, 0)), (49, (0, .aload_n 0, 1, 0, 0, 0)), (50, (0, .getfield 7, 3, 7, 2, 0)), (53, (0, .iload_n 1, 1, 0, 0, 0)), (54, (0, .iaload, 1, 0, 0, 0)), (55, (0, .goto 37, 3, 92, 0, 0)), (58, (0, .iload_n 2, 1, 0, 0, 0)), (59, (0, .iconst 1, 1, 0, 0, 0)), (60, (0, .if_icmp .ne 12, 3, 72, 0, 0)), (63, (0, .aload_n 0, 1, 0, 0, 0)), (64, (0, .getfield 13, 3, 7, 3, 0)), (67, (0, .iload_n 1, 1, 0, 0, 0)), (68, (0, .iaload, 1, 0, 0, 0)), (69, (0, .goto 23, 3, 92, 0, 0)), (72, (0, .iload_n 2, 1, 0, 0, 0)), (73, (0, .iconst 2, 1, 0, 0, 0)), (74, (0, .if_icmp .ne 12, 3, 86, 0, 0)), (77, (0, .aload_n 0, 1, 0, 0, 0)), (78, (0, .getfield 16, 3, 7, 4, 0)), (81, (0, .iload_n 1, 1, 0, 0, 0)), (82, (0, .iaload, 1, 0, 0, 0)), (83, (0, .goto 9, 3, 92, 0, 0)), (86, (0, .aload_n 0, 1, 0, 0, 0)), (87, (0, .getfield 19, 3, 7, 5, 0)), (90, (0, .iload_n 1, 1, 0, 0, 0)), (91, (0, .iaload, 1, 0, 0, 0)), (92, (2, .ireturn, 1, 0, 0, 0))]
/-- 79: RowImproverModel.start(II)V -/
def rz_T79 : List (Nat × rz_I) := [(0, (0, .aload_n 0, 1, 0, 0, 0)), (1, (0, .iload_n 1, 1, 0, 0, 0)), (2, (0, .iconst 1, 1, 0, 0, 0)), (3, (0, .bipush 11, 2, 0, 0, 0)), (5, (1, .invokestatic 41, 3, 73, 3, 0)), (8, (0, .ifCond .eq 17, 3, 25, 0, 0)), (11, (0, .iload_n 2, 1, 0, 0, 0)), (12, (0, .iconst 0, 1, 0, 0, 0)), (13, (0, .bipush 15, 2, 0, 0, 0)), (15, (1, .invokestatic 41, 3, 73, 3, 0)), (18, (0, .ifCond .eq 7, 3, 25, 0, 0)), (21, (0, .iconst 0, 1, 0, 0, 0)), (22, (0, .goto 4, 3, 26, 0, 0)), (25, (0, .iconst 1, 1, 0, 0, 0)), (26, (0, .putfield 37, 3, 7, 0, 0)), (29, (0, .aload_n 0, 1, 0, 0, 0)), (30, (0, .getfield 37, 3, 7, 0, 0)), (33, (0, .ifCond .ne 10, 3, 43, 0, 0)), (36, (0, .aload_n 0, 1, 0, 0, 0)), (37, (0, .getfield 22, 3, 7, 6, 0)), (40, (0, .iload_n 1, 1, 0, 0, 0)), (41, (0, .iload_n 2, 1, 0, 0, 0)), (42, (0, .iastore, 1, 0, 0, 0)), (43, (2, .return_, 1, 0, 0, 0))]
/-- 80: RowImproverModel.run(I)I -/
def rz_T80 : List (Nat × rz_I) := [(0, (0, .aload_n 0, 1, 0, 0, 0)), (1, (0, .iload_n 1, 1, 0, 0, 0)), (2, (0, .iconst 0, 1, 0, 0, 0)), (3, (0, .sipush 500, 3, 0, 0, 0)), (6, (1, .invokestatic 41, 3, 73, 3, 0)), (9, (0, .ifCond .eq 7, 3, 16, 0, 0)), (12, (0, .iconst 0, 1, 0, 0, 0)), (13, (0, .goto 4, 3, 17, 0, 0)), (16, (0, .iconst 1, 1, 0, 0, 0)), (17, (0, .putfield 37, 3, 7, 0, 0)), (20, (0, .aload_n 0, 1, 0, 0, 0)), (21, (0, .getfield 37, 3, 7, 0, 0)), (24, (0, .ifCond .eq 5, 3, 29, 0, 0)), (27, (0, .iconst 0, 1, 0, 0, 0)), (28, (2, .ireturn, 1, 0, 0, 0)), (29, (0, .iconst 0, 1, 0, 0, 0)), (30, (0, .istore_n 2, 1, 0, 0, 0)), (31, (0, .iload_n 2, 1, 0, 0, 0)), (32, (0, .bipush 12, 2, 0, 0, 0)), (34, (0, .if_icmp .ge 21, 3, 55, 0, 0)), (37, (0, .aload_n 0, 1, 0, 0, 0)), (38, (0, .getfield 25, 3, 7, 7, 0)), (41, (0, .iload_n 2, 1, 0, 0, 0)), (42, (0, .aload_n 0, 1, 0, 0, 0)), (43, (0, .getfield 22, 3, 7, 6, 0)), (46, (0, .iload_n 2, 1, 0, 0, 0)), (47, (0, .iaload, 1, 0, 0, 0)), (48, (0, .iastore, 1, 0, 0, 0)), (49, (0, .iinc 2 1, 3, 0, 0, 0)), (52, (0, .goto (-21), 3, 31, 0, 0)), (55, (0, .aload_n 0, 1, 0, 0, 0)), (56, (0, .iconst 0, 1, 0, 0, 0)), (57, (0, .putfield 60, 3, 7, 9, 0)), (60, (0, .aload_n 0, 1, 0, 0, 0)), (61, (0, .aload_n 0, 1, 0, 0, 0)), (62, (0, .getfield 60, 3, 7, 9, 0)), (65, (0, .aload_n 0, 1, 0, 0, 0)), (66, (0, .getfield 49, 3, 7, 1, 0)), (69, (0, .if_icmp .lt 7, 3, 76, 0, 0)), (72, (0, .iconst 1, 1, 0, 0, 0)), (73, (0, .goto 4, 3, 77, 0, 0)), (76, (0, .iconst 0, 1, 0, 0, 0)), (77, (0, .putfield 67, 3, 7, 8, 0)), (80, (0, .iconst 0, 1, 0, 0, 0)), (81, (0, .istore_n 2, 1, 0, 0, 0)), (82, (0, .aload_n 0, 1, 0, 0, 0)), (83, (0, .getfield 67, 3, 7, 8, 0)), (86, (0, .ifCond .ne 55, 3, 141, 0, 0)), (89, (0, .iload_n 2, 1, 0, 0, 0)), (90, (0, .iload_n 1, 1, 0, 0, 0)), (91, (0, .if_icmp .ge 50, 3, 141, 0, 0)), (94, (0, .aload_n 0, 1, 0, 0, 0)), (95, (0, .getfield 60, 3, 7, 9, 0)), (98, (0, .istore_n 3, 1, 0, 0, 0)), (99, (0, .aload_n 0, 1, 0, 0, 0)), (100, (0, .iload_n 3, 1, 0, 0, 0)), (101, (1, .invokevirtual 70, 3, 81, 2, 0)), (104, (0, .iinc 2 1, 3, 0, 0, 0)), (107, (0, .aload_n 0, 1, 0, 0, 0)), (108, (0, .aload_n 0, 1, 0, 0, 0)), (109, (0, .getfield 7, 3, 7, 2, 0)), (112, (0, .iload_n 3, 1, 0, 0, 0)), (113, (0, .iaload, 1, 0, 0, 0)), (114, (0, .bipush 15, 2, 0, 0, 0)), (116, (0, .if_icmp .eq 14, 3, 130, 0, 0)), (119, (0, .aload_n 0, 1, 0, 0, 0)), (120, (0, .getfield 60, 3, 7, 9, 0)), (123, (0, .aload_n 0, 1, 0, 0, 0)), (124, (0, .getfield 49, 3, 7, 1, 0)), (127, (0, .if_icmp .lt 7, 3, 134, 0, 0)), (130, (0, .iconst 1, 1, 0, 0, 0)), (131, (0, .goto 4, 3, 135, 0, 0)), (134, (0, .iconst 0, 1, 0, 0, 0)), (135, (0, .putfield 67, 3, 7, 8, 0)), (138, (0, .goto (-56), 3, 82, 0, 0)), (141, (0, .iload_n 2, 1, 0, 0, 0)), (142, (2, .ireturn, 1, 0, 0, 0))]
/-- 81: RowImproverModel.execute(I)V -/
def rz_T81 : List (Nat × rz_I) := [(0, (0, .aload_n 0, 1, 0, 0, 0)), (1, (0, .getfield 7, 3, 7, 2, 0)), (4, (0, .iload_n 1, 1, 0, 0, 0)), (5, (0, .iaload, 1, 0, 0, 0)), (6, (0, .istore_n 2, 1, 0, 0, 0)), (7, (0, .aload_n 0, 1, 0, 0, 0)), (8, (0, .iload_n 1, 1, 0, 0, 0)), (9, (0, .iconst 1, 1, 0, 0, 0)), (10, (0, .iadd, 1, 0, 0, 0)), (11, (0, .putfield 60, 3, 7, 9, 0)), (14, (0, .iconst 0, 1, 0, 0, 0)), (15, (0, .istore_n 3, 1, 0, 0, 0)), (16, (0, .iload_n 3, 1, 0, 0, 0)), (17, (0, .iconst 4, 1, 0, 0, 0)), (18, (0, .if_icmp .ge 21, 3, 39, 0, 0)), (21, (0, .aload_n 0, 1, 0, 0, 0)), (22, (0, .getfield 31, 3, 7, 11, 0)), (25, (0, .iload_n 3, 1, 0, 0, 0)), (26, (0, .aload_n 0, 1, 0, 0, 0)), (27, (0, .getfield 25, 3, 7, 7, 0)), (30, (0, .iload_n 3, 1, 0, 0, 0)), (31, (0, .iaload, 1, 0, 0, 0)), (32, (0, .iastore, 1, 0, 0, 0)), (33, (0, .iinc 3 1, 3, 0, 0, 0)), (36, (0, .goto (-20), 3, 16, 0, 0)), (39, (0, .iconst 4, 1, 0, 0, 0)), (40, (0, .aload_n 0, 1, 0, 0, 0)), (41, (0, .getfield 25, 3, 7, 7, 0)), (44, (0, .aload_n 0, 1, 0, 0, 0)), (45, (0, .getfield 16, 3, 7, 4, 0)), (48, (0, .iload_n 1, 1, 0, 0, 0)), (49, (0, .iaload, 1, 0, 0, 0)), (50, (0, .iaload, 1, 0, 0, 0)), (51, (0, .aload_n 0, 1, 0, 0, 0)), (52, (0, .getfield 19, 3, 7, 5, 0)), (55, (0, .iload_n 1, 1, 0, 0, 0)), (56, (0, .iaload, 1, 0, 0, 0)), (57, (0, .iadd, 1, 0, 0, 0)), (58, (0, .bipush 8, 2, 0, 0, 0)), (60, (0, .irem, 1, 0, 0, 0)), (61, (0, .iadd, 1, 0, 0, 0)), (62, (0, .istore_n 3, 1, 0, 0, 0)), (63, (0, .iload_n 2, 1, 0, 0, 0)), (64, (0, .bipush 9, 2, 0, 0, 0)), (66, (0, .if_icmp .gt 11, 3, 77, 0, 0)), (69, (0, .aload_n 0, 1, 0, 0, 0)), (70, (0, .iload_n 1, 1, 0, 0, 0)), (71, (1, .invokevirtual 63, 3, 82, 2, 0)), (74, (0, .goto 146, 3, 220, 0, 0)), (77, (0, .iload_n 2, 1, 0, 0, 0)), (78, (0, .bipush 10, 2, 0, 0, 0)), (80, (0, .if_icmp .ne 36, 3, 116, 0, 0)), (83, (0, .aload_n 0, 1, 0, 0, 0)), (84, (0, .getfield 31, 3, 7, 11, 0)), (87, (0, .aload_n 0, 1, 0, 0, 0)), (88, (0, .getfield 13, 3, 7, 3, 0)), (91, (0, .iload_n 1, 1, 0, 0, 0)), (92, (0, .iaload, 1, 0, 0, 0)), (93, (0, .aload_n 0, 1, 0, 0, 0)), (94, (0, .getfield 13, 3, 7, 3, 0)), (97, (0, .iload_n 1, 1, 0, 0, 0)), (98, (0, .iaload, 1, 0, 0, 0)), (99, (0, .ifCond .ne 7, 3, 106, 0, 0)), (102, (0, .iconst 0, 1, 0, 0, 0)), (103, (0, .goto 9, 3, 112, 0, 0)), (106, (0, .aload_n 0, 1, 0, 0, 0)), (107, (0, .getfield 25, 3, 7, 7, 0)), (110, (0, .iload_n 3, 1, 0, 0, 0)), (111, (0, .iaload, 1, 0, 0, 0)), (112, (0, .iastore, 1, 0, 0, 0)), (113, (0, .goto 107, 3, 220, 0, 0)), (116, (0, .iload_n 2, 1, 0, 0, 0)), (117, (0, .bipush 11, 2, 0, 0, 0)), (119, (0, .if_icmp .ne 23, 3, 142, 0, 0)), (122, (0, .aload_n 0, 1, 0, 0, 0)), (123, (0, .getfield 25, 3, 7, 7, 0)), (126, (0, .iload_n 3, 1, 0, 0, 0)), (127, (0, .aload_n 0, 1, 0, 0, 0)), (128, (0, .getfield 25, 3, 7, 7, 0)), (131, (0, .aload_n 0, 1, 0, 0, 0)), (132, (0, .getfield 13, 3, 7, 3, 0)), (135, (0, .iload_n 1, 1, 0, 0, 0)), (136, (0, .iaload, 1, 0, 0, 0)), (137, (0, .iaload, 1, 0, 0, 0)), (138, (0, .iastore, 1, 0, 0, 0)), (139, (0, .goto 81, 3, 220, 0, 0)), (142, (0, .iload_n 2, 1, 0, 0, 0)), (143, (0, .bipush 12, 2, 0, 0, 0)), (145, (0, .if_icmp .ne 28, 3, 173, 0, 0)), (148, (0, .aload_n 0, 1, 0, 0, 0)), (149, (0, .getfield 25, 3, 7, 7, 0)), (152, (0, .aload_n 0, 1, 0, 0, 0)), (153, (0, .getfield 13, 3, 7, 3, 0)), (156, (0, .iload_n 1, 1, 0, 0, 0)), (157, (0, .iaload, 1, 0, 0, 0)), (158, (0, .iaload, 1, 0, 0, 0)), (159, (0, .aload_n 0, 1, 0, 0, 0)), (160, (0, .getfield 25, 3, 7, 7, 0)), (163, (0, .aload_n 0, 1, 0, 0, 0)), (164, (0, .getfield 16, 3, 7, 4, 0)), (167, (0, .iload_n 1, 1, 0, 0, 0)), (168, (0, .iaload, 1, 0, 0, 0)), (169, (0, .iaload, 1, 0, 0, 0)), (170, (0, .if_icmp .eq 40, 3, 210, 0, 0)), (173, (0, .iload_n 2, 1, 0, 0, 0)), (174, (0, .bipush 13, 2, 0, 0, 0)), (176, (0, .if_icmp .ne 28, 3, 204, 0, 0)), (179, (0, .aload_n 0, 1, 0, 0, 0)), (180, (0, .getfield 25, 3, 7, 7, 0)), (183, (0, .aload_n 0, 1, 0, 0, 0)), (184, (0, .getfield 13, 3, 7, 3, 0)), (187, (0, .iload_n 1, 1, 0, 0, 0)), (188, (0, .iaload, 1, 0, 0, 0)), (189, (0, .iaload, 1, 0, 0, 0)), (190, (0, .aload_n 0, 1, 0, 0, 0)), (191, (0, .getfield 25, 3, 7, 7, 0)), (194, (0, .aload_n 0, 1, 0, 0, 0)), (195, (0, .getfield 16, 3, 7, 4, 0)), (198, (0, .iload_n 1, 1, 0, 0, 0)), (199, (0, .iaload, 1, 0, 0, 0)), (200, (0, .iaload, 1, 0, 0, 0)), (201, (0, .if_icmp .ne 9, 3, 210, 0, 0)), (204, (0, .iload_n 2, 1, 0, 0, 0)), (205, (0, .bipush 14, 2, 0, 0, 0)), (207, (0, .if_icmp .ne 13, 3, 220, 0, 0)), (210, (0, .aload_n 0, 1, 0, 0, 0)), (211, (0, .aload_n 0, 1, 0, 0, 0)), (212, (0, .getfield 19, 3, 7, 5, 0)), (215, (0, .iload_n 1, 1, 0, 0, 0)), (216, (0, .iaload, 1, 0, 0, 0)), (217, (0, .putfield 60, 3, 7, 9, 0)), (220, (0, .iconst 0, 1, 0, 0, 0)), (221, (0, .istore 4, 2, 0, 0, 0)), (223, (0, .iload 4, 2, 0, 0, 0)), (225, (0, .iconst 4, 1, 0, 0, 0)), (226, (0, .if_icmp .ge 23, 3, 249, 0, 0)), (229, (0, .aload_n 0, 1, 0, 0, 0)), (230, (0, .getfield 25, 3, 7, 7, 0)), (233, (0, .iload 4, 2, 0, 0, 0)), (235, (0, .aload_n 0, 1, 0, 0, 0)), (236, (0, .getfield 31, 3, 7, 11, 0)), (239, (0, .iload 4, 2, 0, 0, 0)), (241, (0, .iaload, 1, 0, 0, 0)), (242, (0, .iastore, 1, 0, 0, 0)), (243, (0, .iinc 4 1, 3, 0, 0, 0)), (246, (0, .goto (-23), 3, 223, 0, 0)), (249, (2, .return_, 1, 0, 0, 0))]
/-- 82: RowImproverModel.does(I)V -/
def rz_T82 : List (Nat × rz_I) := [(0, (0, .aload_n 0, 1, 0, 0, 0)), (1, (0, .getfield 7, 3, 7, 2, 0)), (4, (0, .iload_n 1, 1, 0, 0, 0)), (5, (0, .iaload, 1, 0, 0, 0)), (6, (0, .istore_n 2, 1, 0, 0, 0)), (7, (0, .iload_n 2, 1, 0, 0, 0)), (8, (0, .bipush 6, 2, 0, 0, 0)), (10, (0, .if_icmp .ge 17, 3, 27, 0, 0)), (13, (0, .aload_n 0, 1, 0, 0, 0)), (14, (0, .getfield 31, 3, 7, 11, 0)), (17, (0, .aload_n 0, 1, 0, 0, 0)), (18, (0, .getfield 19, 3, 7, 5, 0)), (21, (0, .iload_n 1, 1, 0, 0, 0)), (22, (0, .iaload, 1, 0, 0, 0)), (23, (0, .iaload, 1, 0, 0, 0)), (24, (0, .goto 9, 3, 33, 0, 0)), (27, (0, .aload_n 0, 1, 0, 0, 0)), (28, (0, .getfield 19, 3, 7, 5, 0)), (31, (0, .iload_n 1, 1, 0, 0, 0)), (32, (0, .iaload, 1, 0, 0, 0)), (33, (0, .istore_n 3, 1, 0, 0, 0)), (34, (0, .iload_n 2, 1, 0, 0, 0)), (35, (0, .aload_n 0, 1, 0, 0, 0)), (36, (0, .getfield 31, 3, 7, 11, 0)), (39, (0, .aload_n 0, 1, 0, 0, 0)), (40, (0, .getfield 16, 3, 7, 4, 0)), (43, (0, .iload_n 1, 1, 0, 0, 0)), (44, (0, .iaload, 1, 0, 0, 0)), (45, (0, .iaload, 1, 0, 0, 0)), (46, (0, .iload_n 3, 1, 0, 0, 0)), (47, (1, .invokestatic 56, 3, 83, 3, 0)), (50, (0, .istore 4, 2, 0, 0, 0)), (52, (0, .aload_n 0, 1, 0, 0, 0)), (53, (0, .getfield 31, 3, 7, 11, 0)), (56, (0, .aload_n 0, 1, 0, 0, 0)), (57, (0, .getfield 13, 3, 7, 3, 0)), (60, (0, .iload_n 1, 1, 0, 0, 0)), (61, (0, .iaload, 1, 0, 0, 0)), (62, (0, .aload_n 0, 1, 0, 0, 0)), (63, (0, .getfield 13, 3, 7, 3, 0)), (66, (0, .iload_n 1, 1, 0, 0, 0)), (67, (0, .iaload, 1, 0, 0, 0)), (68, (0, .ifCond .ne 7, 3, 75, 0, 0)), (71, (0, .iconst 0, 1, 0, 0, 0)), (72, (0, .goto 5, 3, 77, 0, 0)), (75, (0, .iload 4, 2, 0, 0, 0)), (77, (0, .iastore, 1, 0, 0, 0)), (78, (2, .return_, 1, 0, 0, 0))]
/-- 83: RowImproverModel.made(III)I -/
def rz_T83 : List (Nat × rz_I) := [(0, (0, .iload_n 0, 1, 0, 0, 0)), (1, (0, .ifCond .eq 9, 3, 10, 0, 0)), (4, (0, .iload_n 0, 1, 0, 0, 0)), (5, (0, .bipush 6, 2, 0, 0, 0)), (7, (0, .if_icmp .ne 9, 3, 16, 0, 0)), (10, (0, .iload_n 1, 1, 0, 0, 0)), (11, (0, .iload_n 2, 1, 0, 0, 0)), (12, (0, .iadd, 1, 0, 0, 0)), (13, (0, .goto 80, 3, 93, 0, 0)), (16, (0, .iload_n 0, 1, 0, 0, 0)), (17, (0, .iconst 1, 1, 0, 0, 0)), (18, (0, .if_icmp .ne 9, 3, 27, 0, 0)), (21, (0, .iload_n 1, 1, 0, 0, 0)), (22, (0, .iload_n 2, 1, 0, 0, 0)), (23, (0, .isub, 1, 0, 0, 0)), (24, (0, .goto 69, 3, 93, 0, 0)), (27, (0, .iload_n 0, 1, 0, 0, 0)), (28, (0, .iconst 2, 1, 0, 0, 0)), (29, (0, .if_icmp .eq 9, 3, 38, 0, 0)), (32, (0, .iload_n 0, 1, 0, 0, 0)), (33, (0, .bipush 7, 2, 0, 0, 0)), (35, (0, .if_icmp .ne 9, 3, 44, 0, 0)), (38, (0, .iload_n 1, 1, 0, 0, 0)), (39, (0, .iload_n 2, 1, 0, 0, 0)), (40, (0, .iand, 1, 0, 0, 0)), (41, (0, .goto 52, 3, 93, 0, 0)), (44, (0, .iload_n 0, 1, 0, 0, 0)), (45, (0, .iconst 3, 1, 0, 0, 0)), (46, (0, .if_icmp .ne 9, 3, 55, 0, 0)), (49, (0, .iload_n 1, 1, 0, 0, 0)), (50, (0, .iload_n 2, 1, 0, 0, 0)), (51, (0, .ior, 1, 0, 0, 0)), (52, (0, .goto 41, 3, 93, 0, 0)), (55, (0, .iload_n 0, 1, 0, 0, 0)), (56, (0, .iconst 4, 1, 0, 0, 0)), (57, (0, .if_icmp .eq 9, 3, 66, 0, 0)), (60, (0, .iload_n 0, 1, 0, 0, 0)), (61, (0, .bipush 8, 2, 0, 0, 0)), (63, (0, .if_icmp .ne 9, 3, 72, 0, 0)), (66, (0, .iload_n 1, 1, 0, 0, 0)), (67, (0, .iload_n 2, 1, 0, 0, 0)), (68, (0, .ixor, 1, 0, 0, 0)), (69, (0, .goto 24, 3, 93, 0, 0)), (72, (0, .iload_n 0, 1, 0, 0, 0)), (73, (0, .iconst 5, 1, 0, 0, 0)), (74, (0, .if_icmp .ne 16, 3, 90, 0, 0)), (77, (0, .iload_n 1, 1, 0, 0, 0)), (78, (0, .iload_n 2, 1, 0, 0, 0)), (79, (0, .if_icmp .ge 7, 3, 86, 0, 0)), (82, (0, .iconst 1, 1, 0, 0, 0)), (83, (0, .goto 10, 3, 93, 0, 0)), (86, (0, .iconst 0, 1, 0, 0, 0)), (87, (0, .goto 6, 3, 93, 0, 0)), (90, (0, .iload_n 1, 1, 0, 0, 0)), (91, (0, .iload_n 2, 1, 0, 0, 0)), (92, (0, .ishl, 1, 0, 0, 0)), (93, (0, .istore_n 3, 1, 0, 0, 0)), (94, (0, .iload_n 3, 1, 0, 0, 0)), (95, (0, .bipush 15, 2, 0, 0, 0)), (97, (0, .iand, 1, 0, 0, 0)), (98, (2, .ireturn, 1, 0, 0, 0))]
/-- 84: RowImproverModel.result(I)I -/
def rz_T84 : List (Nat × rz_I) := [(0, (0, .aload_n 0, 1, 0, 0, 0)), (1, (0, .iconst 0, 1, 0, 0, 0)), (2, (0, .putfield 37, 3, 7, 0, 0)), (5, (0, .iload_n 1, 1, 0, 0, 0)), (6, (0, .bipush 12, 2, 0, 0, 0)), (8, (0, .if_icmp .ne 10, 3, 18, 0, 0)), (11, (0, .aload_n 0, 1, 0, 0, 0)), (12, (0, .getfield 67, 3, 7, 8, 0)), (15, (0, .goto 36, 3, 51, 0, 0)), (18, (0, .iload_n 1, 1, 0, 0, 0)), (19, (0, .bipush 13, 2, 0, 0, 0)), (21, (0, .if_icmp .ne 10, 3, 31, 0, 0)), (24, (0, .aload_n 0, 1, 0, 0, 0)), (25, (0, .getfield 60, 3, 7, 9, 0)), (28, (0, .goto 23, 3, 51, 0, 0)), (31, (0, .iload_n 1, 1, 0, 0, 0)), (32, (0, .iconst 0, 1, 0, 0, 0)), (33, (0, .bipush 11, 2, 0, 0, 0)), (35, (1, .invokestatic 41, 3, 73, 3, 0)), (38, (0, .ifCond .eq 12, 3, 50, 0, 0)), (41, (0, .aload_n 0, 1, 0, 0, 0)), (42, (0, .getfield 25, 3, 7, 7, 0)), (45, (0, .iload_n 1, 1, 0, 0, 0)), (46, (0, .iaload, 1, 0, 0, 0)), (47, (0, .goto 4, 3, 51, 0, 0)), (50, (0, .iconst (-1), 1, 0, 0, 0)), (51, (2, .ireturn, 1, 0, 0, 0))]
/-- 85: RowImproverModel.live(I)I -/
def rz_T85 : List (Nat × rz_I) := [(0, (0, .aload_n 0, 1, 0, 0, 0)), (1, (0, .iload_n 1, 1, 0, 0, 0)), (2, (0, .iconst 0, 1, 0, 0, 0)), (3, (0, .aload_n 0, 1, 0, 0, 0)), (4, (0, .getfield 49, 3, 7, 1, 0)), (7, (1, .invokestatic 41, 3, 73, 3, 0)), (10, (0, .ifCond .eq 7, 3, 17, 0, 0)), (13, (0, .iconst 0, 1, 0, 0, 0)), (14, (0, .goto 4, 3, 18, 0, 0)), (17, (0, .iconst 1, 1, 0, 0, 0)), (18, (0, .putfield 37, 3, 7, 0, 0)), (21, (0, .aload_n 0, 1, 0, 0, 0)), (22, (0, .getfield 37, 3, 7, 0, 0)), (25, (0, .ifCond .eq 5, 3, 30, 0, 0)), (28, (0, .iconst 0, 1, 0, 0, 0)), (29, (2, .ireturn, 1, 0, 0, 0)), (30, (0, .aload_n 0, 1, 0, 0, 0)), (31, (1, .invokevirtual 83, 3, 86, 1, 0)), (34, (0, .aload_n 0, 1, 0, 0, 0)), (35, (0, .iload_n 1, 1, 0, 0, 0)), (36, (1, .invokevirtual 77, 3, 87, 2, 0)), (39, (2, .ireturn, 1, 0, 0, 0))]
/-- 86: RowImproverModel.findLives()V -/
def rz_T86 : List (Nat × rz_I) := [(0, (0, .iconst 0, 1, 0, 0, 0)), (1, (0, .istore_n 1, 1, 0, 0, 0)), (2, (0, .iload_n 1, 1, 0, 0, 0)), (3, (0, .aload_n 0, 1, 0, 0, 0)), (4, (0, .getfield 49, 3, 7, 1, 0)), (7, (0, .if_icmp .ge 16, 3, 23, 0, 0)), (10, (0, .aload_n 0, 1, 0, 0, 0)), (11, (0, .getfield 28, 3, 7, 10, 0)), (14, (0, .iload_n 1, 1, 0, 0, 0)), (15, (0, .iconst 0, 1, 0, 0, 0)), (16, (0, .iastore, 1, 0, 0, 0)), (17, (0, .iinc 1 1, 3, 0, 0, 0)), (20, (0, .goto (-18), 3, 2, 0, 0)), (23, (0, .iconst 1, 1, 0, 0, 0)), (24, (0, .istore_n 1, 1, 0, 0, 0)), (25, (0, .iload_n 1, 1, 0, 0, 0)), (26, (0, .ifCond .eq 153, 3, 179, 0, 0)), (29, (0, .iconst 0, 1, 0, 0, 0)), (30, (0, .istore_n 1, 1, 0, 0, 0)), (31, (0, .aload_n 0, 1, 0, 0, 0)), (32, (0, .getfield 49, 3, 7, 1, 0)), (35, (0, .iconst 1, 1, 0, 0, 0)), (36, (0, .isub, 1, 0, 0, 0)), (37, (0, .istore_n 2, 1, 0, 0, 0)), (38, (0, .iload_n 2, 1, 0, 0, 0)), (39, (0, .ifCond .lt 137, 3, 176, 0, 0)), (42, (0, .aload_n 0, 1, 0, 0, 0)), (43, (0, .getfield 7, 3, 7, 2, 0)), (46, (0, .iload_n 2, 1, 0, 0, 0)), (47, (0, .iaload, 1, 0, 0, 0)), (48, (0, .istore_n 3, 1, 0, 0, 0)), (49, (0, .iload_n 3, 1, 0, 0, 0)), (50, (0, .bipush 14, 2, 0, 0, 0)), (52, (0, .if_icmp .eq 9, 3, 61, 0, 0)), (55, (0, .iload_n 3, 1, 0, 0, 0)), (56, (0, .bipush 15, 2, 0, 0, 0)), (58, (0, .if_icmp .ne 7, 3, 65, 0, 0)), (61, (0, .iconst 0, 1, 0, 0, 0)), (62, (0, .goto 10, 3, 72, 0, 0)), (65, (0, .aload_n 0, 1, 0, 0, 0)), (66, (0, .iload_n 2, 1, 0, 0, 0)), (67, (0, .iconst 1, 1, 0, 0, 0)), (68, (0, .iadd, 1, 0, 0, 0)), (69, (1, .invokevirtual 77, 3, 87, 2, 0)), (72, (0, .istore 4, 2, 0, 0, 0)), (74, (0, .iload 4, 2, 0, 0, 0)), (76, (0, .iload_n 3, 1, 0, 0, 0)), (77, (0, .bipush 12, 2, 0, 0, 0)), (79, (0, .if_icmp .lt 22, 3, 101, 0, 0)), (82, (0, .iload_n 3, 1, 0, 0, 0)), (83, (0, .bipush 14, 2, 0, 0, 0)), (85, (0, .if_icmp .gt 16, 3, 101, 0, 0)), (88, (0, .aload_n 0, 1, 0, 0, 0)), (89, (0, .aload_n 0, 1, 0, 0, 0)), (90, (0, .getfield 19, 3, 7, 5, 0)), (93, (0, .iload_n 2, 1, 0, 0, 0)), (94, (0, .iaload, 1, 0, 0, 0)), (95, (1, .invokevirtual 77, 3, 87, 2, 0)), (98, (0, .goto 4, 3, 102, 0, 0)), (101, (0, .iconst 0, 1, 0, 0, 0)), (102, (0, .ior, 1, 0, 0, 0)), (103, (0, .istore 4, 2, 0, 0, 0)), (105, (0, .iload_n 3, 1, 0, 0, 0)), (106, (0, .bipush 10, 2, 0, 0, 0)), (108, (0, .if_icmp .gt 15, 3, 123, 0, 0)), (111, (0, .aload_n 0, 1, 0, 0, 0)), (112, (0, .getfield 13, 3, 7, 3, 0)), (115, (0, .iload_n 2, 1, 0, 0, 0)), (116, (0, .iaload, 1, 0, 0, 0)), (117, (1, .invokestatic 73, 3, 88, 1, 0)), (120, (0, .goto 4, 3, 124, 0, 0)), (123, (0, .iconst 0, 1, 0, 0, 0)), (124, (0, .istore 5, 2, 0, 0, 0)), (126, (0, .aload_n 0, 1, 0, 0, 0)), (127, (0, .iload_n 2, 1, 0, 0, 0)), (128, (1, .invokevirtual 80, 3, 89, 2, 0)), (131, (0, .iload 4, 2, 0, 0, 0)), (133, (0, .iload 5, 2, 0, 0, 0)), (135, (0, .iconst (-1), 1, 0, 0, 0)), (136, (0, .ixor, 1, 0, 0, 0)), (137, (0, .iand, 1, 0, 0, 0)), (138, (0, .ior, 1, 0, 0, 0)), (139, (0, .istore 6, 2, 0, 0, 0)), (141, (0, .iload_n 1, 1, 0, 0, 0)), (142, (0, .ifCond .ne 14, 3, 156, 0, 0)), (145, (0, .iload 6, 2, 0, 0, 0)), (147, (0, .aload_n 0, 1, 0, 0, 0)), (148, (0, .getfield 28, 3, 7, 10, 0)), (151, (0, .iload_n 2, 1, 0, 0, 0)), (152, (0, .iaload, 1, 0, 0, 0)), (153, (0, .if_icmp .eq 7, 3, 160, 0, 0)), (156, (0, .iconst 1, 1, 0, 0, 0)), (157, (0, .goto 4, 3, 161, 0, 0)), (160, (0, .iconst 0, 1, 0, 0, 0)), (161, (0, .istore_n 1, 1, 0, 0, 0)), (162, (0, .aload_n 0, 1, 0, 0, 0)), (163, (0, .getfield 28, 3, 7, 10, 0)), (166, (0, .iload_n 2, 1, 0, 0, 0)), (167, (0, .iload 6, 2, 0, 0, 0)), (169, (0, .iastore, 1, 0, 0, 0)), (170, (0, .iinc 2 (-1), 3, 0, 0, 0)), (173, (0, .goto (-135), 3, 38, 0, 0)), (176, (0, .goto (-151), 3, 25, 0, 0)), (179, (2, .return_, 1, 0, 0, 0))]
/-- 87: RowImproverModel.livesAt(I)I -/
def rz_T87 : List (Nat × rz_I) := [(0, (0, .iload_n 1, 1, 0, 0, 0)), (1, (0, .aload_n 0, 1, 0, 0, 0)), (2, (0, .getfield 49, 3, 7, 1, 0)), (5, (0, .if_icmp .lt 8, 3, 13, 0, 0)), (8, (0, .bipush 14, 2, 0, 0, 0)), (10, (0, .goto 9, 3, 19, 0, 0)), (13, (0, .aload_n 0, 1, 0, 0, 0)), (14, (0, .getfield 28, 3, 7, 10, 0)), (17, (0, .iload_n 1, 1, 0, 0, 0)), (18, (0, .iaload, 1, 0, 0, 0)), (19, (2, .ireturn, 1, 0, 0, 0))]
/-- 88: RowImproverModel.bit(I)I -/
def rz_T88 : List (Nat × rz_I) := [(0, (0, .iload_n 0, 1, 0, 0, 0)), (1, (0, .ifCond .ne 7, 3, 8, 0, 0)), (4, (0, .iconst 0, 1, 0, 0, 0)), (5, (0, .goto 6, 3, 11, 0, 0)), (8, (0, .iconst 1, 1, 0, 0, 0)), (9, (0, .iload_n 0, 1, 0, 0, 0)), (10, (0, .ishl, 1, 0, 0, 0)), (11, (2, .ireturn, 1, 0, 0, 0))]
/-- 89: RowImproverModel.reads(I)I -/
def rz_T89 : List (Nat × rz_I) := [(0, (0, .aload_n 0, 1, 0, 0, 0)), (1, (0, .getfield 7, 3, 7, 2, 0)), (4, (0, .iload_n 1, 1, 0, 0, 0)), (5, (0, .iaload, 1, 0, 0, 0)), (6, (0, .istore_n 2, 1, 0, 0, 0)), (7, (0, .iload_n 2, 1, 0, 0, 0)), (8, (0, .iconst 5, 1, 0, 0, 0)), (9, (0, .if_icmp .gt 23, 3, 32, 0, 0)), (12, (0, .aload_n 0, 1, 0, 0, 0)), (13, (0, .getfield 16, 3, 7, 4, 0)), (16, (0, .iload_n 1, 1, 0, 0, 0)), (17, (0, .iaload, 1, 0, 0, 0)), (18, (1, .invokestatic 73, 3, 88, 1, 0)), (21, (0, .aload_n 0, 1, 0, 0, 0)), (22, (0, .getfield 19, 3, 7, 5, 0)), (25, (0, .iload_n 1, 1, 0, 0, 0)), (26, (0, .iaload, 1, 0, 0, 0)), (27, (1, .invokestatic 73, 3, 88, 1, 0)), (30, (0, .ior, 1, 0, 0, 0)), (31, (2, .ireturn, 1, 0, 0, 0)), (32, (0, .iload_n 2, 1, 0, 0, 0)), (33, (0, .bipush 10, 2, 0, 0, 0)), (35, (0, .if_icmp .gt 13, 3, 48, 0, 0)), (38, (0, .aload_n 0, 1, 0, 0, 0)), (39, (0, .getfield 16, 3, 7, 4, 0)), (42, (0, .iload_n 1, 1, 0, 0, 0)), (43, (0, .iaload, 1, 0, 0, 0)), (44, (1, .invokestatic 73, 3, 88, 1, 0)), (47, (2, .ireturn, 1, 0, 0, 0)), (48, (0, .iload_n 2, 1, 0, 0, 0)), (49, (0, .bipush 13, 2, 0, 0, 0)), (51, (0, .if_icmp .gt 25, 3, 76, 0, 0)), (54, (0, .aload_n 0, 1, 0, 0, 0)), (55, (0, .getfield 13, 3, 7, 3, 0)), (58, (0, .iload_n 1, 1, 0, 0, 0)), (59, (0, .iaload, 1, 0, 0, 0)), (60, (1, .invokestatic 73, 3, 88, 1, 0)), (63, (0, .aload_n 0, 1, 0, 0, 0)), (64, (0, .getfield 16, 3, 7, 4, 0)), (67, (0, .iload_n 1, 1, 0, 0, 0)), (68, (0, .iaload, 1, 0, 0, 0)), (69, (1, .invokestatic 73, 3, 88, 1, 0)), (72, (0, .ior, 1, 0, 0, 0)), (73, (0, .goto 15, 3, 88, 0, 0)), (76, (0, .iload_n 2, 1, 0, 0, 0)), (77, (0, .bipush 14, 2, 0, 0, 0)), (79, (0, .if_icmp .ne 7, 3, 86, 0, 0)), (82, (0, .iconst 0, 1, 0, 0, 0)), (83, (0, .goto 5, 3, 88, 0, 0)), (86, (0, .bipush 14, 2, 0, 0, 0)), (88, (2, .ireturn, 1, 0, 0, 0))]
/-- 90: RowImproverModel.block(I)I -/
def rz_T90 : List (Nat × rz_I) := [(0, (0, .aload_n 0, 1, 0, 0, 0)), (1, (0, .iload_n 1, 1, 0, 0, 0)), (2, (0, .iconst 0, 1, 0, 0, 0)), (3, (0, .aload_n 0, 1, 0, 0, 0)), (4, (0, .getfield 49, 3, 7, 1, 0)), (7, (0, .iconst 1, 1, 0, 0, 0)), (8, (0, .isub, 1, 0, 0, 0)), (9, (1, .invokestatic 41, 3, 73, 3, 0)), (12, (0, .ifCond .eq 7, 3, 19, 0, 0)), (15, (0, .iconst 0, 1, 0, 0, 0)), (16, (0, .goto 4, 3, 20, 0, 0)), (19, (0, .iconst 1, 1, 0, 0, 0)), (20, (0, .putfield 37, 3, 7, 0, 0)), (23, (0, .aload_n 0, 1, 0, 0, 0)), (24, (0, .getfield 37, 3, 7, 0, 0)), (27, (0, .ifCond .eq 5, 3, 32, 0, 0)), (30, (0, .iconst 0, 1, 0, 0, 0)), (31, (2, .ireturn, 1, 0, 0, 0)), (32, (0, .iload_n 1, 1, 0, 0, 0)), (33, (0, .istore_n 2, 1, 0, 0, 0)), (34, (0, .aload_n 0, 1, 0, 0, 0)), (35, (0, .iload_n 2, 1, 0, 0, 0)), (36, (1, .invokevirtual 86, 3, 91, 2, 0)), (39, (0, .ifCond .ne 9, 3, 48, 0, 0)), (42, (0, .iinc 2 (-1), 3, 0, 0, 0)), (45, (0, .goto (-11), 3, 34, 0, 0)), (48, (0, .iload_n 2, 1, 0, 0, 0)), (49, (2, .ireturn, 1, 0, 0, 0))]
/-- 91: RowImproverModel.isBegin(I)Z -/
def rz_T91 : List (Nat × rz_I) := [(0, (0, .iload_n 1, 1, 0, 0, 0)), (1, (0, .ifCond .eq 16, 3, 17, 0, 0)), (4, (0, .aload_n 0, 1, 0, 0, 0)), (5, (0, .getfield 7, 3, 7, 2, 0)), (8, (0, .iload_n 1, 1, 0, 0, 0)), (9, (0, .iconst 1, 1, 0, 0, 0)), (10, (0, .isub, 1, 0, 0, 0)), (11, (0, .iaload, 1, 0, 0, 0)), (12, (0, .bipush 12, 2, 0, 0, 0)), (14, (0, .if_icmp .lt 7, 3, 21, 0, 0)), (17, (0, .iconst 1, 1, 0, 0, 0)), (18, (0, .goto 4, 3, 22, 0, 0)), (21, (0, .iconst 0, 1, 0, 0, 0)), (22, (0, .istore_n 2, 1, 0, 0, 0)), (23, (0, .iconst 0, 1, 0, 0, 0)), (24, (0, .istore_n 3, 1, 0, 0, 0)), (25, (0, .iload_n 3, 1, 0, 0, 0)), (26, (0, .aload_n 0, 1, 0, 0, 0)), (27, (0, .getfield 49, 3, 7, 1, 0)), (30, (0, .if_icmp .ge 51, 3, 81, 0, 0)), (33, (0, .iload_n 2, 1, 0, 0, 0)), (34, (0, .ifCond .ne 35, 3, 69, 0, 0)), (37, (0, .aload_n 0, 1, 0, 0, 0)), (38, (0, .getfield 7, 3, 7, 2, 0)), (41, (0, .iload_n 3, 1, 0, 0, 0)), (42, (0, .iaload, 1, 0, 0, 0)), (43, (0, .bipush 12, 2, 0, 0, 0)), (45, (0, .if_icmp .lt 28, 3, 73, 0, 0)), (48, (0, .aload_n 0, 1, 0, 0, 0)), (49, (0, .getfield 7, 3, 7, 2, 0)), (52, (0, .iload_n 3, 1, 0, 0, 0)), (53, (0, .iaload, 1, 0, 0, 0)), (54, (0, .bipush 14, 2, 0, 0, 0)), (56, (0, .if_icmp .gt 17, 3, 73, 0, 0)), (59, (0, .aload_n 0, 1, 0, 0, 0)), (60, (0, .getfield 19, 3, 7, 5, 0)), (63, (0, .iload_n 3, 1, 0, 0, 0)), (64, (0, .iaload, 1, 0, 0, 0)), (65, (0, .iload_n 1, 1, 0, 0, 0)), (66, (0, .if_icmp .ne 7, 3, 73, 0, 0)), (69, (0, .iconst 1, 1, 0, 0, 0)), (70, (0, .goto 4, 3, 74, 0, 0)), (73, (0, .iconst 0, 1, 0, 0, 0)), (74, (0, .istore_n 2, 1, 0, 0, 0)), (75, (0, .iinc 3 1, 3, 0, 0, 0)), (78, (0, .goto (-53), 3, 25, 0, 0)), (81, (0, .iload_n 2, 1, 0, 0, 0)), (82, (2, .ireturn, 1, 0, 0, 0))]
/-- 92: RowImproverModel.same(IIIII)Z -/
def rz_T92 : List (Nat × rz_I) := [(0, (0, .aload_n 0, 1, 0, 0, 0)), (1, (0, .iload_n 2, 1, 0, 0, 0)), (2, (0, .iconst 0, 1, 0, 0, 0)), (3, (0, .iconst 3, 1, 0, 0, 0)), (4, (1, .invokestatic 41, 3, 73, 3, 0)), (7, (0, .ifCond .eq 24, 3, 31, 0, 0)), (10, (0, .iload 4, 2, 0, 0, 0)), (12, (0, .iconst 0, 1, 0, 0, 0)), (13, (0, .iconst 3, 1, 0, 0, 0)), (14, (1, .invokestatic 41, 3, 73, 3, 0)), (17, (0, .ifCond .eq 14, 3, 31, 0, 0)), (20, (0, .iload 5, 2, 0, 0, 0)), (22, (0, .iconst 0, 1, 0, 0, 0)), (23, (0, .bipush 15, 2, 0, 0, 0)), (25, (1, .invokestatic 41, 3, 73, 3, 0)), (28, (0, .ifCond .ne 7, 3, 35, 0, 0)), (31, (0, .iconst 1, 1, 0, 0, 0)), (32, (0, .goto 50, 3, 82, 0, 0)), (35, (0, .aload_n 0, 1, 0, 0, 0)), (36, (0, .iload_n 1, 1, 0, 0, 0)), (37, (0, .iload_n 2, 1, 0, 0, 0)), (38, (1, .invokevirtual 93, 3, 93, 3, 0)), (41, (0, .ifCond .eq 13, 3, 54, 0, 0)), (44, (0, .aload_n 0, 1, 0, 0, 0)), (45, (0, .iload_n 3, 1, 0, 0, 0)), (46, (0, .iload 4, 2, 0, 0, 0)), (48, (1, .invokevirtual 93, 3, 93, 3, 0)), (51, (0, .ifCond .ne 7, 3, 58, 0, 0)), (54, (0, .iconst 2, 1, 0, 0, 0)), (55, (0, .goto 27, 3, 82, 0, 0)), (58, (0, .aload_n 0, 1, 0, 0, 0)), (59, (0, .iload_n 1, 1, 0, 0, 0)), (60, (0, .iload_n 2, 1, 0, 0, 0)), (61, (1, .invokevirtual 97, 3, 94, 3, 0)), (64, (0, .ifCond .eq 13, 3, 77, 0, 0)), (67, (0, .aload_n 0, 1, 0, 0, 0)), (68, (0, .iload_n 3, 1, 0, 0, 0)), (69, (0, .iload 4, 2, 0, 0, 0)), (71, (1, .invokevirtual 97, 3, 94, 3, 0)), (74, (0, .ifCond .ne 7, 3, 81, 0, 0)), (77, (0, .iconst 3, 1, 0, 0, 0)), (78, (0, .goto 4, 3, 82, 0, 0)), (81, (0, .iconst 0, 1, 0, 0, 0)), (82, (0, .putfield 37, 3, 7, 0, 0)), (85, (0, .aload_n 0, 1, 0, 0, 0)), (86, (0, .getfield 37, 3, 7, 0, 0)), (89, (0, .ifCond .ne 21, 3, 110, 0, 0)), (92, (0, .aload_n 0, 1, 0, 0, 0)), (93, (0, .iload_n 1, 1, 0, 0, 0)), (94, (0, .iload_n 2, 1, 0, 0, 0)), (95, (0, .iload_n 3, 1, 0, 0, 0)), (96, (0, .iload 4, 2, 0, 0, 0)), (98, (0, .iload 5, 2, 0, 0, 0)), (100, (1, .invokevirtual 100, 3, 95, 6, 0)), (103, (0, .ifCond .eq 7, 3, 110, 0, 0)), (106, (0, .iconst 1, 1, 0, 0, 0)), (107, (0, .goto 4, 3, 111, 0, 0)), (110, (0, .iconst 0, 1, 0, 0, 0)), (111, (2, .ireturn, 1, 0, 0, 0))]
/-- 93: RowImproverModel.isThere(II)Z -/
def rz_T93 : List (Nat × rz_I) := [(0, (0, .iload_n 1, 1, 0, 0, 0)), (1, (0, .ifCond .lt 21, 3, 22, 0, 0)), (4, (0, .iload_n 1, 1, 0, 0, 0)), (5, (0, .i2l, 1, 0, 0, 0)), (6, (0, .iload_n 2, 1, 0, 0, 0)), (7, (0, .i2l, 1, 0, 0, 0)), (8, (0, .ladd, 1, 0, 0, 0)), (9, (0, .aload_n 0, 1, 0, 0, 0)), (10, (0, .getfield 49, 3, 7, 1, 0)), (13, (0, .i2l, 1, 0, 0, 0)), (14, (0, .lcmp, 1, 0, 0, 0)), (15, (0, .ifCond .gt 7, 3, 22, 0, 0)), (18, (0, .iconst 1, 1, 0, 0, 0)), (19, (0, .goto 4, 3, 23, 0, 0)), (22, (0, .iconst 0, 1, 0, 0, 0)), (23, (2, .ireturn, 1, 0, 0, 0))]
/-- 94: RowImproverModel.isPlain(II)Z -/
def rz_T94 : List (Nat × rz_I) := [(0, (0, .iconst 1, 1, 0, 0, 0)), (1, (0, .istore_n 3, 1, 0, 0, 0)), (2, (0, .iload_n 1, 1, 0, 0, 0)), (3, (0, .istore 4, 2, 0, 0, 0)), (5, (0, .iload 4, 2, 0, 0, 0)), (7, (0, .iload_n 1, 1, 0, 0, 0)), (8, (0, .iload_n 2, 1, 0, 0, 0)), (9, (0, .iadd, 1, 0, 0, 0)), (10, (0, .if_icmp .ge 31, 3, 41, 0, 0)), (13, (0, .iload_n 3, 1, 0, 0, 0)), (14, (0, .ifCond .eq 19, 3, 33, 0, 0)), (17, (0, .aload_n 0, 1, 0, 0, 0)), (18, (0, .getfield 7, 3, 7, 2, 0)), (21, (0, .iload 4, 2, 0, 0, 0)), (23, (0, .iaload, 1, 0, 0, 0)), (24, (0, .bipush 9, 2, 0, 0, 0)), (26, (0, .if_icmp .gt 7, 3, 33, 0, 0)), (29, (0, .iconst 1, 1, 0, 0, 0)), (30, (0, .goto 4, 3, 34, 0, 0)), (33, (0, .iconst 0, 1, 0, 0, 0)), (34, (0, .istore_n 3, 1, 0, 0, 0)), (35, (0, .iinc 4 1, 3, 0, 0, 0)), (38, (0, .goto (-33), 3, 5, 0, 0)), (41, (0, .iload_n 3, 1, 0, 0, 0)), (42, (2, .ireturn, 1, 0, 0, 0))]
/-- 95: RowImproverModel.agree(IIIII)Z -/
def rz_T95 : List (Nat × rz_I) := [(0, (0, .iconst 0, 1, 0, 0, 0)), (1, (0, .istore 6, 2, 0, 0, 0)), (3, (0, .iload 6, 2, 0, 0, 0)), (5, (0, .sipush 4096, 3, 0, 0, 0)), (8, (0, .if_icmp .ge 142, 3, 150, 0, 0)), (11, (0, .aload_n 0, 1, 0, 0, 0)), (12, (0, .iload 6, 2, 0, 0, 0)), (14, (1, .invokevirtual 90, 3, 96, 2, 0)), (17, (0, .iconst 0, 1, 0, 0, 0)), (18, (0, .istore 7, 2, 0, 0, 0)), (20, (0, .iload 7, 2, 0, 0, 0)), (22, (0, .iload_n 2, 1, 0, 0, 0)), (23, (0, .if_icmp .ge 17, 3, 40, 0, 0)), (26, (0, .aload_n 0, 1, 0, 0, 0)), (27, (0, .iload_n 1, 1, 0, 0, 0)), (28, (0, .iload 7, 2, 0, 0, 0)), (30, (0, .iadd, 1, 0, 0, 0)), (31, (1, .invokevirtual 63, 3, 82, 2, 0)), (34, (0, .iinc 7 1, 3, 0, 0, 0)), (37, (0, .goto (-17), 3, 20, 0, 0)), (40, (0, .iconst 0, 1, 0, 0, 0)), (41, (0, .istore 7, 2, 0, 0, 0)), (43, (0, .iload 7, 2, 0, 0, 0)), (45, (0, .iconst 4, 1, 0, 0, 0)), (46, (0, .if_icmp .ge 23, 3, 69, 0, 0)), (49, (0, .aload_n 0, 1, 0, 0, 0)), (50, (0, .getfield 34, 3, 7, 12, 0)), (53, (0, .iload 7, 2, 0, 0, 0)), (55, (0, .aload_n 0, 1, 0, 0, 0)), (56, (0, .getfield 31, 3, 7, 11, 0)), (59, (0, .iload 7, 2, 0, 0, 0)), (61, (0, .iaload, 1, 0, 0, 0)), (62, (0, .iastore, 1, 0, 0, 0)), (63, (0, .iinc 7 1, 3, 0, 0, 0)), (66, (0, .goto (-23), 3, 43, 0, 0)), (69, (0, .aload_n 0, 1, 0, 0, 0)), (70, (0, .iload 6, 2, 0, 0, 0)), (72, (1, .invokevirtual 90, 3, 96, 2, 0)), (75, (0, .iconst 0, 1, 0, 0, 0)), (76, (0, .istore 7, 2, 0, 0, 0)), (78, (0, .iload 7, 2, 0, 0, 0)), (80, (0, .iload 4, 2, 0, 0, 0)), (82, (0, .if_icmp .ge 17, 3, 99, 0, 0)), (85, (0, .aload_n 0, 1, 0, 0, 0)), (86, (0, .iload_n 3, 1, 0, 0, 0)), (87, (0, .iload 7, 2, 0, 0, 0)), (89, (0, .iadd, 1, 0, 0, 0)), (90, (1, .invokevirtual 63, 3, 82, 2, 0)), (93, (0, .iinc 7 1, 3, 0, 0, 0)), (96, (0, .goto (-18), 3, 78, 0, 0)), (99, (0, .iconst 1, 1, 0, 0, 0)), (100, (0, .istore 7, 2, 0, 0, 0)), (102, (0, .iload 7, 2, 0, 0, 0)), (104, (0, .iconst 4, 1, 0, 0, 0)), (105, (0, .if_icmp .ge 39, 3, 144, 0, 0)), (108, (0, .iload 5, 2, 0, 0, 0)), (110, (0, .iload 7, 2, 0, 0, 0)), (112, (0, .ishr, 1, 0, 0, 0)), (113, (0, .iconst 1, 1, 0, 0, 0)), (114, (0, .iand, 1, 0, 0, 0)), (115, (0, .iconst 1, 1, 0, 0, 0)), (116, (0, .if_icmp .ne 22, 3, 138, 0, 0)), (119, (0, .aload_n 0, 1, 0, 0, 0)), (120, (0, .getfield 34, 3, 7, 12, 0)), (123, (0, .iload 7, 2, 0, 0, 0)), (125, (0, .iaload, 1, 0, 0, 0)), (126, (0, .aload_n 0, 1, 0, 0, 0)), (127, (0, .getfield 31, 3, 7, 11, 0)), (130, (0, .iload 7, 2, 0, 0, 0)), (132, (0, .iaload, 1, 0, 0, 0)), (133, (0, .if_icmp .eq 5, 3, 138, 0, 0)), (136, (0, .iconst 0, 1, 0, 0, 0)), (137, (2, .ireturn, 1, 0, 0, 0)), (138, (0, .iinc 7 1, 3, 0, 0, 0)), (141, (0, .goto (-39), 3, 102, 0, 0)), (144, (0, .iinc 6 1, 3, 0, 0, 0)), (147, (0, .goto (-144), 3, 3, 0, 0)), (150, (0, .iconst 1, 1, 0, 0, 0)), (151, (2, .ireturn, 1, 0, 0, 0))]
/-- 96: RowImproverModel.begin(I)V -/
def rz_T96 : List (Nat × rz_I) := [(0, (0, .aload_n 0, 1, 0, 0, 0)), (1, (0, .getfield 31, 3, 7, 11, 0)), (4, (0, .iconst 0, 1, 0, 0, 0)), (5, (0, .iconst 0, 1, 0, 0, 0)), (6, (0, .iastore, 1, 0, 0, 0)), (7, (0, .aload_n 0, 1, 0, 0, 0)), (8, (0, .getfield 31, 3, 7, 11, 0)), (11, (0, .iconst 1, 1, 0, 0, 0)), (12, (0, .iload_n 1, 1, 0, 0, 0)), (13, (0, .bipush 15, 2, 0, 0, 0)), (15, (0, .iand, 1, 0, 0, 0)), (16, (0, .iastore, 1, 0, 0, 0)), (17, (0, .aload_n 0, 1, 0, 0, 0)), (18, (0, .getfield 31, 3, 7, 11, 0)), (21, (0, .iconst 2, 1, 0, 0, 0)), (22, (0, .iload_n 1, 1, 0, 0, 0)), (23, (0, .iconst 4, 1, 0, 0, 0)), (24, (0, .ishr, 1, 0, 0, 0)), (25, (0, .bipush 15, 2, 0, 0, 0)), (27, (0, .iand, 1, 0, 0, 0)), (28, (0, .iastore, 1, 0, 0, 0)), (29, (0, .aload_n 0, 1, 0, 0, 0)), (30, (0, .getfield 31, 3, 7, 11, 0)), (33, (0, .iconst 3, 1, 0, 0, 0)), (34, (0, .iload_n 1, 1, 0, 0, 0)), (35, (0, .bipush 8, 2, 0, 0, 0)), (37, (0, .ishr, 1, 0, 0, 0)), (38, (0, .iastore, 1, 0, 0, 0)), (39, (2, .return_, 1, 0, 0, 0))]
/-- 97: RowImproverModel.improve()I -/
def rz_T97 : List (Nat × rz_I) := [(0, (0, .aload_n 0, 1, 0, 0, 0)), (1, (0, .iconst 0, 1, 0, 0, 0)), (2, (0, .putfield 37, 3, 7, 0, 0)), (5, (0, .aload_n 0, 1, 0, 0, 0)), (6, (0, .getfield 49, 3, 7, 1, 0)), (9, (0, .istore_n 1, 1, 0, 0, 0)), (10, (0, .iconst 0, 1, 0, 0, 0)), (11, (0, .istore_n 2, 1, 0, 0, 0)), (12, (0, .iload_n 2, 1, 0, 0, 0)), (13, (0, .aload_n 0, 1, 0, 0, 0)), (14, (0, .getfield 49, 3, 7, 1, 0)), (17, (0, .if_icmp .ge 26, 3, 43, 0, 0)), (20, (0, .aload_n 0, 1, 0, 0, 0)), (21, (0, .iload_n 2, 1, 0, 0, 0)), (22, (1, .invokevirtual 126, 3, 98, 2, 0)), (25, (0, .istore_n 3, 1, 0, 0, 0)), (26, (0, .iload_n 3, 1, 0, 0, 0)), (27, (0, .ifCond .ge 9, 3, 36, 0, 0)), (30, (0, .iload_n 2, 1, 0, 0, 0)), (31, (0, .iconst 1, 1, 0, 0, 0)), (32, (0, .iadd, 1, 0, 0, 0)), (33, (0, .goto 6, 3, 39, 0, 0)), (36, (0, .iload_n 2, 1, 0, 0, 0)), (37, (0, .iload_n 3, 1, 0, 0, 0)), (38, (0, .iadd, 1, 0, 0, 0)), (39, (0, .istore_n 2, 1, 0, 0, 0)), (40, (0, .goto (-28), 3, 12, 0, 0)), (43, (0, .iload_n 1, 1, 0, 0, 0)), (44, (0, .aload_n 0, 1, 0, 0, 0)), (45, (0, .getfield 49, 3, 7, 1, 0)), (48, (0, .isub, 1, 0, 0, 0)), (49, (2, .ireturn, 1, 0, 0, 0))]
/-- 98: RowImproverModel.improved(I)I -/
def rz_T98 : List (Nat × rz_I) := [(0, (0, .aload_n 0, 1, 0, 0, 0)), (1, (1, .invokevirtual 83, 3, 86, 1, 0)), (4, (0, .iconst 3, 1, 0, 0, 0)), (5, (0, .istore_n 2, 1, 0, 0, 0)), (6, (0, .iload_n 2, 1, 0, 0, 0)), (7, (0, .ifCond .le 90, 3, 97, 0, 0)), (10, (0, .aload_n 0, 1, 0, 0, 0)), (11, (0, .iload_n 1, 1, 0, 0, 0)), (12, (0, .iload_n 2, 1, 0, 0, 0)), (13, (1, .invokevirtual 116, 3, 99, 3, 0)), (16, (0, .ifCond .eq 75, 3, 91, 0, 0)), (19, (0, .aload_n 0, 1, 0, 0, 0)), (20, (0, .iload_n 1, 1, 0, 0, 0)), (21, (0, .iload_n 2, 1, 0, 0, 0)), (22, (0, .iadd, 1, 0, 0, 0)), (23, (1, .invokevirtual 77, 3, 87, 2, 0)), (26, (0, .istore_n 3, 1, 0, 0, 0)), (27, (0, .aload_n 0, 1, 0, 0, 0)), (28, (0, .dup, 1, 0, 0, 0)), (29, (0, .getfield 107, 3, 7, 15, 0)), (32, (0, .iconst 1, 1, 0, 0, 0)), (33, (0, .iadd, 1, 0, 0, 0)), (34, (0, .putfield 107, 3, 7, 15, 0)), (37, (0, .aload_n 0, 1, 0, 0, 0)), (38, (0, .iload_n 1, 1, 0, 0, 0)), (39, (0, .iload_n 2, 1, 0, 0, 0)), (40, (0, .iload_n 1, 1, 0, 0, 0)), (41, (0, .iconst 0, 1, 0, 0, 0)), (42, (0, .iload_n 3, 1, 0, 0, 0)), (43, (1, .invokevirtual 100, 3, 95, 6, 0)), (46, (0, .ifCond .eq 7, 3, 53, 0, 0)), (49, (0, .iconst 0, 1, 0, 0, 0)), (50, (0, .goto 23, 3, 73, 0, 0)), (53, (0, .iload_n 2, 1, 0, 0, 0)), (54, (0, .iconst 1, 1, 0, 0, 0)), (55, (0, .if_icmp .le 17, 3, 72, 0, 0)), (58, (0, .aload_n 0, 1, 0, 0, 0)), (59, (0, .iload_n 1, 1, 0, 0, 0)), (60, (0, .iload_n 2, 1, 0, 0, 0)), (61, (0, .iload_n 3, 1, 0, 0, 0)), (62, (1, .invokevirtual 119, 3, 100, 4, 0)), (65, (0, .ifCond .eq 7, 3, 72, 0, 0)), (68, (0, .iconst 1, 1, 0, 0, 0)), (69, (0, .goto 4, 3, 73, 0, 0)), (72, (0, .iconst (-1), 1, 0, 0, 0)), (73, (0, .istore 4, 2, 0, 0, 0)), (75, (0, .iload 4, 2, 0, 0, 0)), (77, (0, .ifCond .lt 14, 3, 91, 0, 0)), (80, (0, .aload_n 0, 1, 0, 0, 0)), (81, (0, .iload_n 1, 1, 0, 0, 0)), (82, (0, .iload_n 2, 1, 0, 0, 0)), (83, (0, .iload 4, 2, 0, 0, 0)), (85, (1, .invokevirtual 122, 3, 102, 4, 0)), (88, (0, .iload 4, 2, 0, 0, 0)), (90, (2, .ireturn, 1, 0, 0, 0)), (91, (0, .iinc 2 (-1), 3, 0, 0, 0)), (94, (0, .goto (-88), 3, 6, 0, 0)), (97, (0, .iconst (-1), 1, 0, 0, 0)), (98, (2, .ireturn, 1, 0, 0, 0))]
/-- 99: RowImproverModel.isRow(II)Z -/
def rz_T99 : List (Nat × rz_I) := [(0, (0, .iload_n 1, 1, 0, 0, 0)), (1, (0, .iload_n 2, 1, 0, 0, 0)), (2, (0, .iadd, 1, 0, 0, 0)), (3, (0, .aload_n 0, 1, 0, 0, 0)), (4, (0, .getfield 49, 3, 7, 1, 0)), (7, (0, .if_icmp .gt 12, 3, 19, 0, 0)), (10, (0, .aload_n 0, 1, 0, 0, 0)), (11, (0, .iload_n 1, 1, 0, 0, 0)), (12, (0, .iload_n 2, 1, 0, 0, 0)), (13, (1, .invokevirtual 97, 3, 94, 3, 0)), (16, (0, .ifCond .ne 5, 3, 21, 0, 0)), (19, (0, .iconst 0, 1, 0, 0, 0)), (20, (2, .ireturn, 1, 0, 0, 0)), (21, (0, .iconst 1, 1, 0, 0, 0)), (22, (0, .istore_n 3, 1, 0, 0, 0)), (23, (0, .iload_n 1, 1, 0, 0, 0)), (24, (0, .iconst 1, 1, 0, 0, 0)), (25, (0, .iadd, 1, 0, 0, 0)), (26, (0, .istore 4, 2, 0, 0, 0)), (28, (0, .iload 4, 2, 0, 0, 0)), (30, (0, .iload_n 1, 1, 0, 0, 0)), (31, (0, .iload_n 2, 1, 0, 0, 0)), (32, (0, .iadd, 1, 0, 0, 0)), (33, (0, .if_icmp .ge 28, 3, 61, 0, 0)), (36, (0, .iload_n 3, 1, 0, 0, 0)), (37, (0, .ifCond .eq 16, 3, 53, 0, 0)), (40, (0, .aload_n 0, 1, 0, 0, 0)), (41, (0, .iload 4, 2, 0, 0, 0)), (43, (1, .invokevirtual 86, 3, 91, 2, 0)), (46, (0, .ifCond .ne 7, 3, 53, 0, 0)), (49, (0, .iconst 1, 1, 0, 0, 0)), (50, (0, .goto 4, 3, 54, 0, 0)), (53, (0, .iconst 0, 1, 0, 0, 0)), (54, (0, .istore_n 3, 1, 0, 0, 0)), (55, (0, .iinc 4 1, 3, 0, 0, 0)), (58, (0, .goto (-30), 3, 28, 0, 0)), (61, (0, .iload_n 3, 1, 0, 0, 0)), (62, (2, .ireturn, 1, 0, 0, 0))]
/-- 100: RowImproverModel.isFound(III)Z -/
def rz_T100 : List (Nat × rz_I) := [(0, (0, .iconst 0, 1, 0, 0, 0)), (1, (0, .istore 4, 2, 0, 0, 0)), (3, (0, .iload 4, 2, 0, 0, 0)), (5, (0, .sipush 1920, 3, 0, 0, 0)), (8, (0, .if_icmp .ge 110, 3, 118, 0, 0)), (11, (0, .iload 4, 2, 0, 0, 0)), (13, (0, .sipush 192, 3, 0, 0, 0)), (16, (0, .idiv, 1, 0, 0, 0)), (17, (0, .istore 5, 2, 0, 0, 0)), (19, (0, .iconst 1, 1, 0, 0, 0)), (20, (0, .iload 4, 2, 0, 0, 0)), (22, (0, .bipush 64, 2, 0, 0, 0)), (24, (0, .idiv, 1, 0, 0, 0)), (25, (0, .iconst 3, 1, 0, 0, 0)), (26, (0, .irem, 1, 0, 0, 0)), (27, (0, .iadd, 1, 0, 0, 0)), (28, (0, .istore 6, 2, 0, 0, 0)), (30, (0, .iload 4, 2, 0, 0, 0)), (32, (0, .bipush 16, 2, 0, 0, 0)), (34, (0, .idiv, 1, 0, 0, 0)), (35, (0, .iconst 4, 1, 0, 0, 0)), (36, (0, .irem, 1, 0, 0, 0)), (37, (0, .istore 7, 2, 0, 0, 0)), (39, (0, .iload 4, 2, 0, 0, 0)), (41, (0, .bipush 16, 2, 0, 0, 0)), (43, (0, .irem, 1, 0, 0, 0)), (44, (0, .istore 8, 2, 0, 0, 0)), (46, (0, .iload 5, 2, 0, 0, 0)), (48, (0, .bipush 6, 2, 0, 0, 0)), (50, (0, .if_icmp .ge 12, 3, 62, 0, 0)), (53, (0, .iload 8, 2, 0, 0, 0)), (55, (0, .iconst 4, 1, 0, 0, 0)), (56, (0, .if_icmp .ge 56, 3, 112, 0, 0)), (59, (0, .goto 14, 3, 73, 0, 0)), (62, (0, .aload_n 0, 1, 0, 0, 0)), (63, (0, .iload 8, 2, 0, 0, 0)), (65, (0, .iload_n 1, 1, 0, 0, 0)), (66, (0, .iload_n 2, 1, 0, 0, 0)), (67, (1, .invokevirtual 104, 3, 101, 4, 0)), (70, (0, .ifCond .eq 42, 3, 112, 0, 0)), (73, (0, .aload_n 0, 1, 0, 0, 0)), (74, (0, .bipush 24, 2, 0, 0, 0)), (76, (0, .iload 5, 2, 0, 0, 0)), (78, (0, .iload 6, 2, 0, 0, 0)), (80, (0, .iload 7, 2, 0, 0, 0)), (82, (0, .iload 8, 2, 0, 0, 0)), (84, (1, .invokevirtual 52, 3, 74, 6, 0)), (87, (0, .aload_n 0, 1, 0, 0, 0)), (88, (0, .dup, 1, 0, 0, 0)), (89, (0, .getfield 107, 3, 7, 15, 0)), (92, (0, .iconst 1, 1, 0, 0, 0)), (93, (0, .iadd, 1, 0, 0, 0)), (94, (0, .putfield 107, 3, 7, 15, 0)), (97, (0, .aload_n 0, 1, 0, 0, 0)), (98, (0, .iload_n 1, 1, 0, 0, 0)), (99, (0, .iload_n 2, 1, 0, 0, 0)), (100, (0, .bipush 24, 2, 0, 0, 0)), (102, (0, .iconst 1, 1, 0, 0, 0)), (103, (0, .iload_n 3, 1, 0, 0, 0)), (104, (1, .invokevirtual 100, 3, 95, 6, 0)), (107, (0, .ifCond .eq 5, 3, 112, 0, 0)), (110, (0, .iconst 1, 1, 0, 0, 0)), (111, (2, .ireturn, 1, 0, 0, 0)), (112, (0, .iinc 4 1, 3, 0, 0, 0)), (115, (0, .goto (-112), 3, 3, 0, 0)), (118, (0, .iconst 0, 1, 0, 0, 0)), (119, (2, .ireturn, 1, 0, 0, 0))]
/-- 101: RowImproverModel.isCandidateNumber(III)Z -/
def rz_T101 : List (Nat × rz_I) := [(0, (0, .iload_n 1, 1, 0, 0, 0)), (1, (0, .ifCond .eq 14, 3, 15, 0, 0)), (4, (0, .iload_n 1, 1, 0, 0, 0)), (5, (0, .iconst 1, 1, 0, 0, 0)), (6, (0, .if_icmp .eq 9, 3, 15, 0, 0)), (9, (0, .iload_n 1, 1, 0, 0, 0)), (10, (0, .bipush 15, 2, 0, 0, 0)), (12, (0, .if_icmp .ne 7, 3, 19, 0, 0)), (15, (0, .iconst 1, 1, 0, 0, 0)), (16, (0, .goto 4, 3, 20, 0, 0)), (19, (0, .iconst 0, 1, 0, 0, 0)), (20, (0, .istore 4, 2, 0, 0, 0)), (22, (0, .iload_n 2, 1, 0, 0, 0)), (23, (0, .istore 5, 2, 0, 0, 0)), (25, (0, .iload 5, 2, 0, 0, 0)), (27, (0, .iload_n 2, 1, 0, 0, 0)), (28, (0, .iload_n 3, 1, 0, 0, 0)), (29, (0, .iadd, 1, 0, 0, 0)), (30, (0, .if_icmp .ge 44, 3, 74, 0, 0)), (33, (0, .iload 4, 2, 0, 0, 0)), (35, (0, .ifCond .ne 26, 3, 61, 0, 0)), (38, (0, .aload_n 0, 1, 0, 0, 0)), (39, (0, .getfield 7, 3, 7, 2, 0)), (42, (0, .iload 5, 2, 0, 0, 0)), (44, (0, .iaload, 1, 0, 0, 0)), (45, (0, .bipush 6, 2, 0, 0, 0)), (47, (0, .if_icmp .lt 18, 3, 65, 0, 0)), (50, (0, .aload_n 0, 1, 0, 0, 0)), (51, (0, .getfield 19, 3, 7, 5, 0)), (54, (0, .iload 5, 2, 0, 0, 0)), (56, (0, .iaload, 1, 0, 0, 0)), (57, (0, .iload_n 1, 1, 0, 0, 0)), (58, (0, .if_icmp .ne 7, 3, 65, 0, 0)), (61, (0, .iconst 1, 1, 0, 0, 0)), (62, (0, .goto 4, 3, 66, 0, 0)), (65, (0, .iconst 0, 1, 0, 0, 0)), (66, (0, .istore 4, 2, 0, 0, 0)), (68, (0, .iinc 5 1, 3, 0, 0, 0)), (71, (0, .goto (-46), 3, 25, 0, 0)), (74, (0, .iload 4, 2, 0, 0, 0)), (76, (2, .ireturn, 1, 0, 0, 0))]
/-- 102: RowImproverModel.cut(III)V -/
def rz_T102 : List (Nat × rz_I) := [(0, (0, .iload_n 2, 1, 0, 0, 0)), (1, (0, .iload_n 3, 1, 0, 0, 0)), (2, (0, .isub, 1, 0, 0, 0)), (3, (0, .istore 4, 2, 0, 0, 0)), (5, (0, .iload_n 3, 1, 0, 0, 0)), (6, (0, .iconst 1, 1, 0, 0, 0)), (7, (0, .if_icmp .ne 36, 3, 43, 0, 0)), (10, (0, .aload_n 0, 1, 0, 0, 0)), (11, (0, .iload_n 1, 1, 0, 0, 0)), (12, (0, .aload_n 0, 1, 0, 0, 0)), (13, (0, .getfield 7, 3, 7, 2, 0)), (16, (0, .bipush 24, 2, 0, 0, 0)), (18, (0, .iaload, 1, 0, 0, 0)), (19, (0, .aload_n 0, 1, 0, 0, 0)), (20, (0, .getfield 13, 3, 7, 3, 0)), (23, (0, .bipush 24, 2, 0, 0, 0)), (25, (0, .iaload, 1, 0, 0, 0)), (26, (0, .aload_n 0, 1, 0, 0, 0)), (27, (0, .getfield 16, 3, 7, 4, 0)), (30, (0, .bipush 24, 2, 0, 0, 0)), (32, (0, .iaload, 1, 0, 0, 0)), (33, (0, .aload_n 0, 1, 0, 0, 0)), (34, (0, .getfield 19, 3, 7, 5, 0)), (37, (0, .bipush 24, 2, 0, 0, 0)), (39, (0, .iaload, 1, 0, 0, 0)), (40, (1, .invokevirtual 52, 3, 74, 6, 0)), (43, (0, .iload_n 1, 1, 0, 0, 0)), (44, (0, .iload_n 3, 1, 0, 0, 0)), (45, (0, .iadd, 1, 0, 0, 0)), (46, (0, .istore 5, 2, 0, 0, 0)), (48, (0, .iload 5, 2, 0, 0, 0)), (50, (0, .iload 4, 2, 0, 0, 0)), (52, (0, .iadd, 1, 0, 0, 0)), (53, (0, .aload_n 0, 1, 0, 0, 0)), (54, (0, .getfield 49, 3, 7, 1, 0)), (57, (0, .if_icmp .ge 55, 3, 112, 0, 0)), (60, (0, .aload_n 0, 1, 0, 0, 0)), (61, (0, .iload 5, 2, 0, 0, 0)), (63, (0, .aload_n 0, 1, 0, 0, 0)), (64, (0, .getfield 7, 3, 7, 2, 0)), (67, (0, .iload 5, 2, 0, 0, 0)), (69, (0, .iload 4, 2, 0, 0, 0)), (71, (0, .iadd, 1, 0, 0, 0)), (72, (0, .iaload, 1, 0, 0, 0)), (73, (0, .aload_n 0, 1, 0, 0, 0)), (74, (0, .getfield 13, 3, 7, 3, 0)), (77, (0, .iload 5, 2, 0, 0, 0)), (79, (0, .iload 4, 2, 0, 0, 0)), (81, (0, .iadd, 1, 0, 0, 0)), (82, (0, .iaload, 1, 0, 0, 0)), (83, (0, .aload_n 0, 1, 0, 0, 0)), (84, (0, .getfield 16, 3, 7, 4, 0)), (87, (0, .iload 5, 2, 0, 0, 0)), (89, (0, .iload 4, 2, 0, 0, 0)), (91, (0, .iadd, 1, 0, 0, 0)), (92, (0, .iaload, 1, 0, 0, 0)), (93, (0, .aload_n 0, 1, 0, 0, 0)), (94, (0, .getfield 19, 3, 7, 5, 0)), (97, (0, .iload 5, 2, 0, 0, 0)), (99, (0, .iload 4, 2, 0, 0, 0)), (101, (0, .iadd, 1, 0, 0, 0)), (102, (0, .iaload, 1, 0, 0, 0)), (103, (1, .invokevirtual 52, 3, 74, 6, 0)), (106, (0, .iinc 5 1, 3, 0, 0, 0)), (109, (0, .goto (-61), 3, 48, 0, 0)), (112, (0, .aload_n 0, 1, 0, 0, 0)), (113, (0, .dup, 1, 0, 0, 0)), (114, (0, .getfield 49, 3, 7, 1, 0)), (117, (0, .iload 4, 2, 0, 0, 0)), (119, (0, .isub, 1, 0, 0, 0)), (120, (0, .putfield 49, 3, 7, 1, 0)), (123, (0, .iconst 0, 1, 0, 0, 0)), (124, (0, .istore 5, 2, 0, 0, 0)), (126, (0, .iload 5, 2, 0, 0, 0)), (128, (0, .aload_n 0, 1, 0, 0, 0)), (129, (0, .getfield 49, 3, 7, 1, 0)), (132, (0, .if_icmp .ge 56, 3, 188, 0, 0)), (135, (0, .aload_n 0, 1, 0, 0, 0)), (136, (0, .getfield 7, 3, 7, 2, 0)), (139, (0, .iload 5, 2, 0, 0, 0)), (141, (0, .iaload, 1, 0, 0, 0)), (142, (0, .bipush 12, 2, 0, 0, 0)), (144, (0, .if_icmp .lt 38, 3, 182, 0, 0)), (147, (0, .aload_n 0, 1, 0, 0, 0)), (148, (0, .getfield 7, 3, 7, 2, 0)), (151, (0, .iload 5, 2, 0, 0, 0)), (153, (0, .iaload, 1, 0, 0, 0)), (154, (0, .bipush 14, 2, 0, 0, 0)), (156, (0, .if_icmp .gt 26, 3, 182, 0, 0)), (159, (0, .aload_n 0, 1, 0, 0, 0)), (160, (0, .getfield 19, 3, 7, 5, 0)), (163, (0, .iload 5, 2, 0, 0, 0)), (165, (0, .iaload, 1, 0, 0, 0)), (166, (0, .iload_n 1, 1, 0, 0, 0)), (167, (0, .if_icmp .le 15, 3, 182, 0, 0)), (170, (0, .aload_n 0, 1, 0, 0, 0)), (171, (0, .getfield 19, 3, 7, 5, 0)), (174, (0, .iload 5, 2, 0, 0, 0)), (176, (0, .dup2, 1, 0, 0, 0)), (177, (0, .iaload, 1, 0, 0, 0)), (178, (0, .iload 4, 2, 0, 0, 0)), (180, (0, .isub, 1, 0, 0, 0)), (181, (0, .iastore, 1, 0, 0, 0)), (182, (0, .iinc 5 1, 3, 0, 0, 0)), (185, (0, .goto (-59), 3, 126, 0, 0)), (188, (0, .aload_n 0, 1, 0, 0, 0)), (189, (0, .dup, 1, 0, 0, 0)), (190, (0, .getfield 110, 3, 7, 13, 0)), (193, (0, .iconst 1, 1, 0, 0, 0)), (194, (0, .iadd, 1, 0, 0, 0)), (195, (0, .putfield 110, 3, 7, 13, 0)), (198, (0, .aload_n 0, 1, 0, 0, 0)), (199, (0, .dup, 1, 0, 0, 0)), (200, (0, .getfield 113, 3, 7, 14, 0)), (203, (0, .iload_n 3, 1, 0, 0, 0)), (204, (0, .ifCond .ne 7, 3, 211, 0, 0)), (207, (0, .iconst 1, 1, 0, 0, 0)), (208, (0, .goto 4, 3, 212, 0, 0)), (211, (0, .iconst 0, 1, 0, 0, 0)), (212, (0, .iadd, 1, 0, 0, 0)), (213, (0, .putfield 113, 3, 7, 14, 0)), (216, (2, .return_, 1, 0, 0, 0))]
/-- 103: RowImproverModel.count(I)I -/
def rz_T103 : List (Nat × rz_I) := [(0, (0, .aload_n 0, 1, 0, 0, 0)), (1, (0, .iconst 0, 1, 0, 0, 0)), (2, (0, .putfield 37, 3, 7, 0, 0)), (5, (0, .iload_n 1, 1, 0, 0, 0)), (6, (0, .ifCond .ne 10, 3, 16, 0, 0)), (9, (0, .aload_n 0, 1, 0, 0, 0)), (10, (0, .getfield 110, 3, 7, 13, 0)), (13, (0, .goto 28, 3, 41, 0, 0)), (16, (0, .iload_n 1, 1, 0, 0, 0)), (17, (0, .iconst 1, 1, 0, 0, 0)), (18, (0, .if_icmp .ne 10, 3, 28, 0, 0)), (21, (0, .aload_n 0, 1, 0, 0, 0)), (22, (0, .getfield 113, 3, 7, 14, 0)), (25, (0, .goto 16, 3, 41, 0, 0)), (28, (0, .iload_n 1, 1, 0, 0, 0)), (29, (0, .iconst 2, 1, 0, 0, 0)), (30, (0, .if_icmp .ne 10, 3, 40, 0, 0)), (33, (0, .aload_n 0, 1, 0, 0, 0)), (34, (0, .getfield 107, 3, 7, 15, 0)), (37, (0, .goto 4, 3, 41, 0, 0)), (40, (0, .iconst (-1), 1, 0, 0, 0)), (41, (2, .ireturn, 1, 0, 0, 0))]
/-- 104: RowImproverLaw.add(LRowImprover;IIII[J)I -/
def rz_T104 : List (Nat × rz_I) := [(0, (0, .aload 5, 2, 0, 0, 0)), (2, (0, .iconst 0, 1, 0, 0, 0)), (3, (0, .aload_n 0, 1, 0, 0, 0)), (4, (0, .iload_n 1, 1, 0, 0, 0)), (5, (0, .iload_n 2, 1, 0, 0, 0)), (6, (0, .iload_n 3, 1, 0, 0, 0)), (7, (0, .iload 4, 2, 0, 0, 0)), (9, (1, .invokevirtual 7, 3, 50, 5, 0)), (12, (0, .i2l, 1, 0, 0, 0)), (13, (0, .lastore, 1, 0, 0, 0)), (14, (0, .goto 11, 3, 25, 0, 0)), (17, (7, .astore 6, 2, 0, 0, 0)), (19, (0, .iconst 1, 1, 0, 0, 0)), (20, (2, .ireturn, 1, 0, 0, 0)), (21, (7, .astore 6, 2, 0, 0, 0)), (23, (0, .iconst 2, 1, 0, 0, 0)), (24, (2, .ireturn, 1, 0, 0, 0)), (25, (0, .iconst 0, 1, 0, 0, 0)), (26, (2, .ireturn, 1, 0, 0, 0))]
/-- 105: RowImproverLaw.replace(LRowImprover;IIIII)I -/
def rz_T105 : List (Nat × rz_I) := [(0, (0, .aload_n 0, 1, 0, 0, 0)), (1, (0, .iload_n 1, 1, 0, 0, 0)), (2, (0, .iload_n 2, 1, 0, 0, 0)), (3, (0, .iload_n 3, 1, 0, 0, 0)), (4, (0, .iload 4, 2, 0, 0, 0)), (6, (0, .iload 5, 2, 0, 0, 0)), (8, (1, .invokevirtual 17, 3, 55, 6, 0)), (11, (0, .goto 11, 3, 22, 0, 0)), (14, (7, .astore 6, 2, 0, 0, 0)), (16, (0, .iconst 1, 1, 0, 0, 0)), (17, (2, .ireturn, 1, 0, 0, 0)), (18, (7, .astore 6, 2, 0, 0, 0)), (20, (0, .iconst 2, 1, 0, 0, 0)), (21, (2, .ireturn, 1, 0, 0, 0)), (22, (0, .iconst 0, 1, 0, 0, 0)), (23, (2, .ireturn, 1, 0, 0, 0))]
/-- 106: RowImproverLaw.instruction(LRowImprover;II[J)I -/
def rz_T106 : List (Nat × rz_I) := [(0, (0, .aload_n 3, 1, 0, 0, 0)), (1, (0, .iconst 0, 1, 0, 0, 0)), (2, (0, .aload_n 0, 1, 0, 0, 0)), (3, (0, .iload_n 1, 1, 0, 0, 0)), (4, (0, .iload_n 2, 1, 0, 0, 0)), (5, (1, .invokevirtual 23, 3, 57, 3, 0)), (8, (0, .i2l, 1, 0, 0, 0)), (9, (0, .lastore, 1, 0, 0, 0)), (10, (0, .goto 11, 3, 21, 0, 0)), (13, (7, .astore 4, 2, 0, 0, 0)), (15, (0, .iconst 1, 1, 0, 0, 0)), (16, (2, .ireturn, 1, 0, 0, 0)), (17, (7, .astore 4, 2, 0, 0, 0)), (19, (0, .iconst 2, 1, 0, 0, 0)), (20, (2, .ireturn, 1, 0, 0, 0)), (21, (0, .iconst 0, 1, 0, 0, 0)), (22, (2, .ireturn, 1, 0, 0, 0))]
/-- 107: RowImproverLaw.start(LRowImprover;II)I -/
def rz_T107 : List (Nat × rz_I) := [(0, (0, .aload_n 0, 1, 0, 0, 0)), (1, (0, .iload_n 1, 1, 0, 0, 0)), (2, (0, .iload_n 2, 1, 0, 0, 0)), (3, (1, .invokevirtual 27, 3, 59, 3, 0)), (6, (0, .goto 6, 3, 12, 0, 0)), (9, (7, .astore_n 3, 1, 0, 0, 0)), (10, (0, .iconst 1, 1, 0, 0, 0)), (11, (2, .ireturn, 1, 0, 0, 0)), (12, (0, .iconst 0, 1, 0, 0, 0)), (13, (2, .ireturn, 1, 0, 0, 0))]
/-- 108: RowImproverLaw.run(LRowImprover;I[J)I -/
def rz_T108 : List (Nat × rz_I) := [(0, (0, .aload_n 2, 1, 0, 0, 0)), (1, (0, .iconst 0, 1, 0, 0, 0)), (2, (0, .aload_n 0, 1, 0, 0, 0)), (3, (0, .iload_n 1, 1, 0, 0, 0)), (4, (1, .invokevirtual 31, 3, 61, 2, 0)), (7, (0, .i2l, 1, 0, 0, 0)), (8, (0, .lastore, 1, 0, 0, 0)), (9, (0, .goto 6, 3, 15, 0, 0)), (12, (7, .astore_n 3, 1, 0, 0, 0)), (13, (0, .iconst 1, 1, 0, 0, 0)), (14, (2, .ireturn, 1, 0, 0, 0)), (15, (0, .iconst 0, 1, 0, 0, 0)), (16, (2, .ireturn, 1, 0, 0, 0))]
/-- 109: RowImproverLaw.live(LRowImprover;I[J)I -/
def rz_T109 : List (Nat × rz_I) := [(0, (0, .aload_n 2, 1, 0, 0, 0)), (1, (0, .iconst 0, 1, 0, 0, 0)), (2, (0, .aload_n 0, 1, 0, 0, 0)), (3, (0, .iload_n 1, 1, 0, 0, 0)), (4, (1, .invokevirtual 35, 3, 65, 2, 0)), (7, (0, .i2l, 1, 0, 0, 0)), (8, (0, .lastore, 1, 0, 0, 0)), (9, (0, .goto 6, 3, 15, 0, 0)), (12, (7, .astore_n 3, 1, 0, 0, 0)), (13, (0, .iconst 1, 1, 0, 0, 0)), (14, (2, .ireturn, 1, 0, 0, 0)), (15, (0, .iconst 0, 1, 0, 0, 0)), (16, (2, .ireturn, 1, 0, 0, 0))]
/-- 110: RowImproverLaw.block(LRowImprover;I[J)I -/
def rz_T110 : List (Nat × rz_I) := [(0, (0, .aload_n 2, 1, 0, 0, 0)), (1, (0, .iconst 0, 1, 0, 0, 0)), (2, (0, .aload_n 0, 1, 0, 0, 0)), (3, (0, .iload_n 1, 1, 0, 0, 0)), (4, (1, .invokevirtual 38, 3, 66, 2, 0)), (7, (0, .i2l, 1, 0, 0, 0)), (8, (0, .lastore, 1, 0, 0, 0)), (9, (0, .goto 6, 3, 15, 0, 0)), (12, (7, .astore_n 3, 1, 0, 0, 0)), (13, (0, .iconst 1, 1, 0, 0, 0)), (14, (2, .ireturn, 1, 0, 0, 0)), (15, (0, .iconst 0, 1, 0, 0, 0)), (16, (2, .ireturn, 1, 0, 0, 0))]
/-- 111: RowImproverLaw.same(LRowImprover;IIIII[J)I -/
def rz_T111 : List (Nat × rz_I) := [(0, (0, .aload 6, 2, 0, 0, 0)), (2, (0, .iconst 0, 1, 0, 0, 0)), (3, (0, .aload_n 0, 1, 0, 0, 0)), (4, (0, .iload_n 1, 1, 0, 0, 0)), (5, (0, .iload_n 2, 1, 0, 0, 0)), (6, (0, .iload_n 3, 1, 0, 0, 0)), (7, (0, .iload 4, 2, 0, 0, 0)), (9, (0, .iload 5, 2, 0, 0, 0)), (11, (1, .invokevirtual 41, 3, 68, 6, 0)), (14, (0, .ifCond .eq 7, 3, 21, 0, 0)), (17, (0, .lconst 1, 1, 0, 0, 0)), (18, (0, .goto 4, 3, 22, 0, 0)), (21, (0, .lconst 0, 1, 0, 0, 0)), (22, (0, .lastore, 1, 0, 0, 0)), (23, (0, .goto 15, 3, 38, 0, 0)), (26, (7, .astore 7, 2, 0, 0, 0)), (28, (0, .iconst 1, 1, 0, 0, 0)), (29, (2, .ireturn, 1, 0, 0, 0)), (30, (7, .astore 7, 2, 0, 0, 0)), (32, (0, .iconst 2, 1, 0, 0, 0)), (33, (2, .ireturn, 1, 0, 0, 0)), (34, (7, .astore 7, 2, 0, 0, 0)), (36, (0, .iconst 3, 1, 0, 0, 0)), (37, (2, .ireturn, 1, 0, 0, 0)), (38, (0, .iconst 0, 1, 0, 0, 0)), (39, (2, .ireturn, 1, 0, 0, 0))]
def rz_T (M : Nat) : List (Nat × rz_I) := match M with
  | 0 => rz_T0
  | 1 => rz_T1
  | 2 => rz_T2
  | 3 => rz_T3
  | 4 => rz_T4
  | 5 => rz_T5
  | 6 => rz_T6
  | 7 => rz_T7
  | 8 => rz_T8
  | 9 => rz_T9
  | 10 => rz_T10
  | 11 => rz_T11
  | 12 => rz_T12
  | 13 => rz_T13
  | 14 => rz_T14
  | 15 => rz_T15
  | 16 => rz_T16
  | 17 => rz_T17
  | 18 => rz_T18
  | 19 => rz_T19
  | 20 => rz_T20
  | 21 => rz_T21
  | 22 => rz_T22
  | 23 => rz_T23
  | 24 => rz_T24
  | 25 => rz_T25
  | 26 => rz_T26
  | 27 => rz_T27
  | 28 => rz_T28
  | 29 => rz_T29
  | 30 => rz_T30
  | 31 => rz_T31
  | 32 => rz_T32
  | 33 => rz_T33
  | 34 => rz_T34
  | 35 => rz_T35
  | 36 => rz_T36
  | 37 => rz_T37
  | 38 => rz_T38
  | 39 => rz_T39
  | 40 => rz_T40
  | 41 => rz_T41
  | 42 => rz_T42
  | 43 => rz_T43
  | 44 => rz_T44
  | 45 => rz_T45
  | 46 => rz_T46
  | 47 => rz_T47
  | 48 => rz_T48
  | 49 => rz_T49
  | 50 => rz_T50
  | 51 => rz_T51
  | 52 => rz_T52
  | 53 => rz_T53
  | 54 => rz_T54
  | 55 => rz_T55
  | 56 => rz_T56
  | 57 => rz_T57
  | 58 => rz_T58
  | 59 => rz_T59
  | 60 => rz_T60
  | 61 => rz_T61
  | 62 => rz_T62
  | 63 => rz_T63
  | 64 => rz_T64
  | 65 => rz_T65
  | 66 => rz_T66
  | 67 => rz_T67
  | 68 => rz_T68
  | 69 => rz_T69
  | 70 => rz_T70
  | 71 => rz_T71
  | 72 => rz_T72
  | 73 => rz_T73
  | 74 => rz_T74
  | 75 => rz_T75
  | 76 => rz_T76
  | 77 => rz_T77
  | 78 => rz_T78
  | 79 => rz_T79
  | 80 => rz_T80
  | 81 => rz_T81
  | 82 => rz_T82
  | 83 => rz_T83
  | 84 => rz_T84
  | 85 => rz_T85
  | 86 => rz_T86
  | 87 => rz_T87
  | 88 => rz_T88
  | 89 => rz_T89
  | 90 => rz_T90
  | 91 => rz_T91
  | 92 => rz_T92
  | 93 => rz_T93
  | 94 => rz_T94
  | 95 => rz_T95
  | 96 => rz_T96
  | 97 => rz_T97
  | 98 => rz_T98
  | 99 => rz_T99
  | 100 => rz_T100
  | 101 => rz_T101
  | 102 => rz_T102
  | 103 => rz_T103
  | 104 => rz_T104
  | 105 => rz_T105
  | 106 => rz_T106
  | 107 => rz_T107
  | 108 => rz_T108
  | 109 => rz_T109
  | 110 => rz_T110
  | 111 => rz_T111
  | _ => []
def rz_y (M : Nat) : MethodName := match M with
  | 0 => ⟨"RowImproverLaw", "law", "([I)Z"⟩
  | 1 => ⟨"RowImprover", "clear", "()I"⟩
  | 2 => ⟨"RowImprover$Program", "empty", "()I"⟩
  | 3 => ⟨"RowImprover", "size", "()I"⟩
  | 4 => ⟨"RowImprover$Program", "length", "()I"⟩
  | 5 => ⟨"RowImprover", "result", "(I)I"⟩
  | 6 => ⟨"RowImprover$Machine", "outcome", "(I)I"⟩
  | 7 => ⟨"RowImprover$Registers", "value", "(II)I"⟩
  | 8 => ⟨"RowImprover", "improve", "()I"⟩
  | 9 => ⟨"RowImprover$Improver", "improveProgram", "(LRowImprover$Program;)I"⟩
  | 10 => ⟨"RowImprover$Liveness", "findFor", "(LRowImprover$Program;)V"⟩
  | 11 => ⟨"java/util/Arrays", "fill", "([II)V"⟩
  | 12 => ⟨"RowImprover$Liveness", "findMore", "(LRowImprover$Program;)Z"⟩
  | 13 => ⟨"RowImprover$Program", "codeAt", "(I)I"⟩
  | 14 => ⟨"RowImprover$Liveness", "behind", "(LRowImprover$Program;I)I"⟩
  | 15 => ⟨"RowImprover$Code", "t", "(I)I"⟩
  | 16 => ⟨"RowImprover$Code", "operation", "(I)I"⟩
  | 17 => ⟨"RowImprover$Code", "writtenBy", "(I)I"⟩
  | 18 => ⟨"RowImprover$Code", "d", "(I)I"⟩
  | 19 => ⟨"RowImprover$Code", "readBy", "(I)I"⟩
  | 20 => ⟨"RowImprover$Code", "s", "(I)I"⟩
  | 21 => ⟨"RowImprover$Program", "has", "(I)Z"⟩
  | 22 => ⟨"RowImprover$Improver", "improveAt", "(LRowImprover$Program;I)I"⟩
  | 23 => ⟨"RowImprover$Program", "hasRow", "(II)Z"⟩
  | 24 => ⟨"RowImprover$Program", "hasAll", "(II)Z"⟩
  | 25 => ⟨"RowImprover$Program", "allPlain", "(II)Z"⟩
  | 26 => ⟨"RowImprover$Code", "isPlain", "(I)Z"⟩
  | 27 => ⟨"RowImprover$Program", "beginsBlock", "(I)Z"⟩
  | 28 => ⟨"RowImprover$Code", "endsBlock", "(I)Z"⟩
  | 29 => ⟨"RowImprover$Code", "hasTarget", "(I)Z"⟩
  | 30 => ⟨"RowImprover$Row", "takeFrom", "(LRowImprover$Program;II)V"⟩
  | 31 => ⟨"RowImprover$Liveness", "before", "(I)I"⟩
  | 32 => ⟨"RowImprover$Registers", "maskOf", "(I)I"⟩
  | 33 => ⟨"RowImprover$Improver", "nothingDoes", "(I)Z"⟩
  | 34 => ⟨"RowImprover$Row", "takeNothing", "()V"⟩
  | 35 => ⟨"RowImprover$Prover", "agree", "(LRowImprover$Row;LRowImprover$Row;I)Z"⟩
  | 36 => ⟨"RowImprover$Row", "registersAfter", "(I)I"⟩
  | 37 => ⟨"RowImprover$Code", "registersAfter", "(II)I"⟩
  | 38 => ⟨"RowImprover$Registers", "with", "(III)I"⟩
  | 39 => ⟨"RowImprover$Improver", "firstInstruction", "(I)I"⟩
  | 40 => ⟨"RowImprover$Row", "numbers", "()I"⟩
  | 41 => ⟨"RowImprover$Code", "hasNumber", "(I)Z"⟩
  | 42 => ⟨"RowImprover$Code", "pack", "(IIII)I"⟩
  | 43 => ⟨"RowImprover$Row", "takeOne", "(I)V"⟩
  | 44 => ⟨"RowImprover$Improver", "putForRow", "(LRowImprover$Program;III)I"⟩
  | 45 => ⟨"RowImprover$Program", "putForRow", "(III)I"⟩
  | 46 => ⟨"RowImprover$Program", "moveTargetsAbove", "(II)V"⟩
  | 47 => ⟨"RowImprover$Code", "withTarget", "(II)I"⟩
  | 48 => ⟨"RowImprover", "count", "(I)I"⟩
  | 49 => ⟨"RowImprover$Improver", "counted", "(I)I"⟩
  | 50 => ⟨"RowImprover", "add", "(IIII)I"⟩
  | 51 => ⟨"RowImprover$Code", "isLegal", "(IIII)Z"⟩
  | 52 => ⟨"RowImprover$Code", "greatestT", "(I)I"⟩
  | 53 => ⟨"RowImprover$Program", "isFull", "()Z"⟩
  | 54 => ⟨"RowImprover$Program", "append", "(I)I"⟩
  | 55 => ⟨"RowImprover", "replace", "(IIIII)V"⟩
  | 56 => ⟨"RowImprover$Program", "put", "(II)V"⟩
  | 57 => ⟨"RowImprover", "instruction", "(II)I"⟩
  | 58 => ⟨"RowImprover$Code", "part", "(II)I"⟩
  | 59 => ⟨"RowImprover", "start", "(II)V"⟩
  | 60 => ⟨"RowImprover$Machine", "setStart", "(II)V"⟩
  | 61 => ⟨"RowImprover", "run", "(I)I"⟩
  | 62 => ⟨"RowImprover$Machine", "perform", "(LRowImprover$Program;I)I"⟩
  | 63 => ⟨"RowImprover$Machine", "step", "(I)V"⟩
  | 64 => ⟨"RowImprover$Machine", "jumps", "(I)Z"⟩
  | 65 => ⟨"RowImprover", "live", "(I)I"⟩
  | 66 => ⟨"RowImprover", "block", "(I)I"⟩
  | 67 => ⟨"RowImprover$Program", "beginOfBlock", "(I)I"⟩
  | 68 => ⟨"RowImprover", "same", "(IIIII)Z"⟩
  | 69 => ⟨"RowImprover$Prover", "agreeInProgram", "(LRowImprover$Program;IIIII)Z"⟩
  | 70 => ⟨"RowImproverModel", "thrown", "()I"⟩
  | 71 => ⟨"RowImproverModel", "add", "(IIII)I"⟩
  | 72 => ⟨"RowImproverModel", "isInstruction", "(IIII)Z"⟩
  | 73 => ⟨"RowImproverModel", "in", "(III)Z"⟩
  | 74 => ⟨"RowImproverModel", "put", "(IIIII)V"⟩
  | 75 => ⟨"RowImproverModel", "replace", "(IIIII)V"⟩
  | 76 => ⟨"RowImproverModel", "clear", "()I"⟩
  | 77 => ⟨"RowImproverModel", "size", "()I"⟩
  | 78 => ⟨"RowImproverModel", "instruction", "(II)I"⟩
  | 79 => ⟨"RowImproverModel", "start", "(II)V"⟩
  | 80 => ⟨"RowImproverModel", "run", "(I)I"⟩
  | 81 => ⟨"RowImproverModel", "execute", "(I)V"⟩
  | 82 => ⟨"RowImproverModel", "does", "(I)V"⟩
  | 83 => ⟨"RowImproverModel", "made", "(III)I"⟩
  | 84 => ⟨"RowImproverModel", "result", "(I)I"⟩
  | 85 => ⟨"RowImproverModel", "live", "(I)I"⟩
  | 86 => ⟨"RowImproverModel", "findLives", "()V"⟩
  | 87 => ⟨"RowImproverModel", "livesAt", "(I)I"⟩
  | 88 => ⟨"RowImproverModel", "bit", "(I)I"⟩
  | 89 => ⟨"RowImproverModel", "reads", "(I)I"⟩
  | 90 => ⟨"RowImproverModel", "block", "(I)I"⟩
  | 91 => ⟨"RowImproverModel", "isBegin", "(I)Z"⟩
  | 92 => ⟨"RowImproverModel", "same", "(IIIII)Z"⟩
  | 93 => ⟨"RowImproverModel", "isThere", "(II)Z"⟩
  | 94 => ⟨"RowImproverModel", "isPlain", "(II)Z"⟩
  | 95 => ⟨"RowImproverModel", "agree", "(IIIII)Z"⟩
  | 96 => ⟨"RowImproverModel", "begin", "(I)V"⟩
  | 97 => ⟨"RowImproverModel", "improve", "()I"⟩
  | 98 => ⟨"RowImproverModel", "improved", "(I)I"⟩
  | 99 => ⟨"RowImproverModel", "isRow", "(II)Z"⟩
  | 100 => ⟨"RowImproverModel", "isFound", "(III)Z"⟩
  | 101 => ⟨"RowImproverModel", "isCandidateNumber", "(III)Z"⟩
  | 102 => ⟨"RowImproverModel", "cut", "(III)V"⟩
  | 103 => ⟨"RowImproverModel", "count", "(I)I"⟩
  | 104 => ⟨"RowImproverLaw", "add", "(LRowImprover;IIII[J)I"⟩
  | 105 => ⟨"RowImproverLaw", "replace", "(LRowImprover;IIIII)I"⟩
  | 106 => ⟨"RowImproverLaw", "instruction", "(LRowImprover;II[J)I"⟩
  | 107 => ⟨"RowImproverLaw", "start", "(LRowImprover;II)I"⟩
  | 108 => ⟨"RowImproverLaw", "run", "(LRowImprover;I[J)I"⟩
  | 109 => ⟨"RowImproverLaw", "live", "(LRowImprover;I[J)I"⟩
  | 110 => ⟨"RowImproverLaw", "block", "(LRowImprover;I[J)I"⟩
  | 111 => ⟨"RowImproverLaw", "same", "(LRowImprover;IIIII[J)I"⟩
  | _ => ⟨"", "", ""⟩
def rz_by (M : Nat) : ByteArray := match M with
  | 0 => code
  | 1 => prog_1_method_4_code
  | 2 => prog_6_method_9_code
  | 3 => prog_1_method_5_code
  | 4 => prog_6_method_2_code
  | 5 => prog_1_method_9_code
  | 6 => prog_5_method_6_code
  | 7 => prog_8_method_2_code
  | 8 => prog_1_method_13_code
  | 9 => prog_3_method_3_code
  | 10 => prog_4_method_3_code
  | 11 => prog_22_method_103_code
  | 12 => prog_4_method_4_code
  | 13 => prog_6_method_6_code
  | 14 => prog_4_method_5_code
  | 15 => prog_2_method_9_code
  | 16 => prog_2_method_6_code
  | 17 => prog_2_method_16_code
  | 18 => prog_2_method_7_code
  | 19 => prog_2_method_15_code
  | 20 => prog_2_method_8_code
  | 21 => prog_6_method_4_code
  | 22 => prog_3_method_4_code
  | 23 => prog_6_method_11_code
  | 24 => prog_6_method_5_code
  | 25 => prog_6_method_10_code
  | 26 => prog_2_method_10_code
  | 27 => prog_6_method_13_code
  | 28 => prog_2_method_13_code
  | 29 => prog_2_method_12_code
  | 30 => prog_9_method_2_code
  | 31 => prog_4_method_2_code
  | 32 => prog_8_method_4_code
  | 33 => prog_3_method_6_code
  | 34 => prog_9_method_3_code
  | 35 => prog_7_method_3_code
  | 36 => prog_9_method_5_code
  | 37 => prog_2_method_17_code
  | 38 => prog_8_method_3_code
  | 39 => prog_3_method_7_code
  | 40 => prog_9_method_6_code
  | 41 => prog_2_method_11_code
  | 42 => prog_2_method_4_code
  | 43 => prog_9_method_4_code
  | 44 => prog_3_method_5_code
  | 45 => prog_6_method_14_code
  | 46 => prog_6_method_15_code
  | 47 => prog_2_method_14_code
  | 48 => prog_1_method_14_code
  | 49 => prog_3_method_2_code
  | 50 => prog_1_method_2_code
  | 51 => prog_2_method_2_code
  | 52 => prog_2_method_3_code
  | 53 => prog_6_method_3_code
  | 54 => prog_6_method_7_code
  | 55 => prog_1_method_3_code
  | 56 => prog_6_method_8_code
  | 57 => prog_1_method_6_code
  | 58 => prog_2_method_5_code
  | 59 => prog_1_method_7_code
  | 60 => prog_5_method_2_code
  | 61 => prog_1_method_8_code
  | 62 => prog_5_method_3_code
  | 63 => prog_5_method_4_code
  | 64 => prog_5_method_5_code
  | 65 => prog_1_method_10_code
  | 66 => prog_1_method_11_code
  | 67 => prog_6_method_12_code
  | 68 => prog_1_method_12_code
  | 69 => prog_7_method_2_code
  | 70 => prog_11_method_2_code
  | 71 => prog_11_method_7_code
  | 72 => prog_11_method_5_code
  | 73 => prog_11_method_4_code
  | 74 => prog_11_method_6_code
  | 75 => prog_11_method_8_code
  | 76 => prog_11_method_9_code
  | 77 => prog_11_method_10_code
  | 78 => prog_11_method_11_code
  | 79 => prog_11_method_12_code
  | 80 => prog_11_method_16_code
  | 81 => prog_11_method_15_code
  | 82 => prog_11_method_14_code
  | 83 => prog_11_method_13_code
  | 84 => prog_11_method_17_code
  | 85 => prog_11_method_22_code
  | 86 => prog_11_method_21_code
  | 87 => prog_11_method_20_code
  | 88 => prog_11_method_18_code
  | 89 => prog_11_method_19_code
  | 90 => prog_11_method_24_code
  | 91 => prog_11_method_23_code
  | 92 => prog_11_method_29_code
  | 93 => prog_11_method_28_code
  | 94 => prog_11_method_27_code
  | 95 => prog_11_method_25_code
  | 96 => prog_11_method_26_code
  | 97 => prog_11_method_35_code
  | 98 => prog_11_method_34_code
  | 99 => prog_11_method_30_code
  | 100 => prog_11_method_32_code
  | 101 => prog_11_method_31_code
  | 102 => prog_11_method_33_code
  | 103 => prog_11_method_36_code
  | 104 => method_3_code
  | 105 => method_4_code
  | 106 => method_5_code
  | 107 => method_6_code
  | 108 => method_7_code
  | 109 => method_8_code
  | 110 => method_9_code
  | 111 => method_10_code
  | _ => code
def rz_mL (M : Nat) : Nat := match M with
  | 0 => 7
  | 1 => 1
  | 2 => 2
  | 3 => 1
  | 4 => 1
  | 5 => 2
  | 6 => 2
  | 7 => 2
  | 8 => 1
  | 9 => 5
  | 10 => 4
  | 11 => 4
  | 12 => 7
  | 13 => 2
  | 14 => 5
  | 15 => 1
  | 16 => 1
  | 17 => 1
  | 18 => 1
  | 19 => 2
  | 20 => 1
  | 21 => 2
  | 22 => 6
  | 23 => 4
  | 24 => 3
  | 25 => 4
  | 26 => 1
  | 27 => 3
  | 28 => 1
  | 29 => 1
  | 30 => 5
  | 31 => 2
  | 32 => 3
  | 33 => 2
  | 34 => 1
  | 35 => 8
  | 36 => 4
  | 37 => 6
  | 38 => 4
  | 39 => 9
  | 40 => 3
  | 41 => 1
  | 42 => 4
  | 43 => 2
  | 44 => 6
  | 45 => 7
  | 46 => 5
  | 47 => 2
  | 48 => 2
  | 49 => 2
  | 50 => 5
  | 51 => 5
  | 52 => 1
  | 53 => 1
  | 54 => 2
  | 55 => 6
  | 56 => 3
  | 57 => 3
  | 58 => 2
  | 59 => 3
  | 60 => 3
  | 61 => 2
  | 62 => 5
  | 63 => 3
  | 64 => 4
  | 65 => 2
  | 66 => 2
  | 67 => 3
  | 68 => 6
  | 69 => 7
  | 70 => 1
  | 71 => 5
  | 72 => 5
  | 73 => 3
  | 74 => 6
  | 75 => 6
  | 76 => 2
  | 77 => 1
  | 78 => 3
  | 79 => 3
  | 80 => 4
  | 81 => 5
  | 82 => 5
  | 83 => 4
  | 84 => 2
  | 85 => 2
  | 86 => 7
  | 87 => 2
  | 88 => 1
  | 89 => 3
  | 90 => 3
  | 91 => 4
  | 92 => 6
  | 93 => 3
  | 94 => 5
  | 95 => 8
  | 96 => 2
  | 97 => 4
  | 98 => 5
  | 99 => 5
  | 100 => 9
  | 101 => 6
  | 102 => 6
  | 103 => 2
  | 104 => 7
  | 105 => 7
  | 106 => 5
  | 107 => 4
  | 108 => 4
  | 109 => 4
  | 110 => 4
  | 111 => 8
  | _ => 0
def rz_rt (M : Nat) : Option FieldType := match M with
  | 0 => (some .boolean)
  | 1 => (some .int)
  | 2 => (some .int)
  | 3 => (some .int)
  | 4 => (some .int)
  | 5 => (some .int)
  | 6 => (some .int)
  | 7 => (some .int)
  | 8 => (some .int)
  | 9 => (some .int)
  | 10 => none
  | 11 => none
  | 12 => (some .boolean)
  | 13 => (some .int)
  | 14 => (some .int)
  | 15 => (some .int)
  | 16 => (some .int)
  | 17 => (some .int)
  | 18 => (some .int)
  | 19 => (some .int)
  | 20 => (some .int)
  | 21 => (some .boolean)
  | 22 => (some .int)
  | 23 => (some .boolean)
  | 24 => (some .boolean)
  | 25 => (some .boolean)
  | 26 => (some .boolean)
  | 27 => (some .boolean)
  | 28 => (some .boolean)
  | 29 => (some .boolean)
  | 30 => none
  | 31 => (some .int)
  | 32 => (some .int)
  | 33 => (some .boolean)
  | 34 => none
  | 35 => (some .boolean)
  | 36 => (some .int)
  | 37 => (some .int)
  | 38 => (some .int)
  | 39 => (some .int)
  | 40 => (some .int)
  | 41 => (some .boolean)
  | 42 => (some .int)
  | 43 => none
  | 44 => (some .int)
  | 45 => (some .int)
  | 46 => none
  | 47 => (some .int)
  | 48 => (some .int)
  | 49 => (some .int)
  | 50 => (some .int)
  | 51 => (some .boolean)
  | 52 => (some .int)
  | 53 => (some .boolean)
  | 54 => (some .int)
  | 55 => none
  | 56 => none
  | 57 => (some .int)
  | 58 => (some .int)
  | 59 => none
  | 60 => none
  | 61 => (some .int)
  | 62 => (some .int)
  | 63 => none
  | 64 => (some .boolean)
  | 65 => (some .int)
  | 66 => (some .int)
  | 67 => (some .int)
  | 68 => (some .boolean)
  | 69 => (some .boolean)
  | 70 => (some .int)
  | 71 => (some .int)
  | 72 => (some .boolean)
  | 73 => (some .boolean)
  | 74 => none
  | 75 => none
  | 76 => (some .int)
  | 77 => (some .int)
  | 78 => (some .int)
  | 79 => none
  | 80 => (some .int)
  | 81 => none
  | 82 => none
  | 83 => (some .int)
  | 84 => (some .int)
  | 85 => (some .int)
  | 86 => none
  | 87 => (some .int)
  | 88 => (some .int)
  | 89 => (some .int)
  | 90 => (some .int)
  | 91 => (some .boolean)
  | 92 => (some .boolean)
  | 93 => (some .boolean)
  | 94 => (some .boolean)
  | 95 => (some .boolean)
  | 96 => none
  | 97 => (some .int)
  | 98 => (some .int)
  | 99 => (some .boolean)
  | 100 => (some .boolean)
  | 101 => (some .boolean)
  | 102 => none
  | 103 => (some .int)
  | 104 => (some .int)
  | 105 => (some .int)
  | 106 => (some .int)
  | 107 => (some .int)
  | 108 => (some .int)
  | 109 => (some .int)
  | 110 => (some .int)
  | 111 => (some .int)
  | _ => none
def rz_hd (M : Nat) : List (Nat × Nat × Nat × Nat) := match M with
  | 0 => []
  | 1 => []
  | 2 => []
  | 3 => []
  | 4 => []
  | 5 => []
  | 6 => []
  | 7 => []
  | 8 => []
  | 9 => []
  | 10 => []
  | 11 => []
  | 12 => []
  | 13 => []
  | 14 => []
  | 15 => []
  | 16 => []
  | 17 => []
  | 18 => []
  | 19 => []
  | 20 => []
  | 21 => []
  | 22 => []
  | 23 => []
  | 24 => []
  | 25 => []
  | 26 => []
  | 27 => []
  | 28 => []
  | 29 => []
  | 30 => []
  | 31 => []
  | 32 => []
  | 33 => []
  | 34 => []
  | 35 => []
  | 36 => []
  | 37 => []
  | 38 => []
  | 39 => []
  | 40 => []
  | 41 => []
  | 42 => []
  | 43 => []
  | 44 => []
  | 45 => []
  | 46 => []
  | 47 => []
  | 48 => []
  | 49 => []
  | 50 => []
  | 51 => []
  | 52 => []
  | 53 => []
  | 54 => []
  | 55 => []
  | 56 => []
  | 57 => []
  | 58 => []
  | 59 => []
  | 60 => []
  | 61 => []
  | 62 => []
  | 63 => []
  | 64 => []
  | 65 => []
  | 66 => []
  | 67 => []
  | 68 => []
  | 69 => []
  | 70 => []
  | 71 => []
  | 72 => []
  | 73 => []
  | 74 => []
  | 75 => []
  | 76 => []
  | 77 => []
  | 78 => []
  | 79 => []
  | 80 => []
  | 81 => []
  | 82 => []
  | 83 => []
  | 84 => []
  | 85 => []
  | 86 => []
  | 87 => []
  | 88 => []
  | 89 => []
  | 90 => []
  | 91 => []
  | 92 => []
  | 93 => []
  | 94 => []
  | 95 => []
  | 96 => []
  | 97 => []
  | 98 => []
  | 99 => []
  | 100 => []
  | 101 => []
  | 102 => []
  | 103 => []
  | 104 => [(0, 14, 17, 13), (0, 14, 21, 15)]
  | 105 => [(0, 11, 14, 13), (0, 11, 18, 21)]
  | 106 => [(0, 10, 13, 13), (0, 10, 17, 21)]
  | 107 => [(0, 6, 9, 13)]
  | 108 => [(0, 9, 12, 13)]
  | 109 => [(0, 9, 12, 21)]
  | 110 => [(0, 9, 12, 21)]
  | 111 => [(0, 23, 26, 13), (0, 23, 30, 21), (0, 23, 34, 45)]
  | _ => []
def rz_hk (M : Nat) : List Nat := match M with
  | 0 => []
  | 1 => []
  | 2 => []
  | 3 => []
  | 4 => []
  | 5 => []
  | 6 => []
  | 7 => []
  | 8 => []
  | 9 => []
  | 10 => []
  | 11 => []
  | 12 => []
  | 13 => []
  | 14 => []
  | 15 => []
  | 16 => []
  | 17 => []
  | 18 => []
  | 19 => []
  | 20 => []
  | 21 => []
  | 22 => []
  | 23 => []
  | 24 => []
  | 25 => []
  | 26 => []
  | 27 => []
  | 28 => []
  | 29 => []
  | 30 => []
  | 31 => []
  | 32 => []
  | 33 => []
  | 34 => []
  | 35 => []
  | 36 => []
  | 37 => []
  | 38 => []
  | 39 => []
  | 40 => []
  | 41 => []
  | 42 => []
  | 43 => []
  | 44 => []
  | 45 => []
  | 46 => []
  | 47 => []
  | 48 => []
  | 49 => []
  | 50 => []
  | 51 => []
  | 52 => []
  | 53 => []
  | 54 => []
  | 55 => []
  | 56 => []
  | 57 => []
  | 58 => []
  | 59 => []
  | 60 => []
  | 61 => []
  | 62 => []
  | 63 => []
  | 64 => []
  | 65 => []
  | 66 => []
  | 67 => []
  | 68 => []
  | 69 => []
  | 70 => []
  | 71 => []
  | 72 => []
  | 73 => []
  | 74 => []
  | 75 => []
  | 76 => []
  | 77 => []
  | 78 => []
  | 79 => []
  | 80 => []
  | 81 => []
  | 82 => []
  | 83 => []
  | 84 => []
  | 85 => []
  | 86 => []
  | 87 => []
  | 88 => []
  | 89 => []
  | 90 => []
  | 91 => []
  | 92 => []
  | 93 => []
  | 94 => []
  | 95 => []
  | 96 => []
  | 97 => []
  | 98 => []
  | 99 => []
  | 100 => []
  | 101 => []
  | 102 => []
  | 103 => []
  | 104 => [0, 1]
  | 105 => [0, 2]
  | 106 => [0, 2]
  | 107 => [0]
  | 108 => [0]
  | 109 => [2]
  | 110 => [2]
  | 111 => [0, 2, 3]
  | _ => []
def rz_fr (M : Nat) : Nat := match M with
  | 0 => 10
  | 1 => 1
  | 2 => 0
  | 3 => 1
  | 4 => 0
  | 5 => 2
  | 6 => 1
  | 7 => 0
  | 8 => 7
  | 9 => 6
  | 10 => 3
  | 11 => 0
  | 12 => 2
  | 13 => 0
  | 14 => 1
  | 15 => 0
  | 16 => 0
  | 17 => 1
  | 18 => 0
  | 19 => 1
  | 20 => 0
  | 21 => 0
  | 22 => 5
  | 23 => 3
  | 24 => 0
  | 25 => 2
  | 26 => 1
  | 27 => 2
  | 28 => 1
  | 29 => 1
  | 30 => 1
  | 31 => 0
  | 32 => 0
  | 33 => 4
  | 34 => 0
  | 35 => 3
  | 36 => 2
  | 37 => 1
  | 38 => 0
  | 39 => 4
  | 40 => 2
  | 41 => 1
  | 42 => 0
  | 43 => 0
  | 44 => 4
  | 45 => 3
  | 46 => 2
  | 47 => 0
  | 48 => 1
  | 49 => 0
  | 50 => 6
  | 51 => 1
  | 52 => 0
  | 53 => 0
  | 54 => 0
  | 55 => 6
  | 56 => 0
  | 57 => 6
  | 58 => 1
  | 59 => 6
  | 60 => 1
  | 61 => 6
  | 62 => 3
  | 63 => 2
  | 64 => 1
  | 65 => 6
  | 66 => 6
  | 67 => 3
  | 68 => 6
  | 69 => 4
  | 70 => 0
  | 71 => 2
  | 72 => 1
  | 73 => 0
  | 74 => 0
  | 75 => 2
  | 76 => 0
  | 77 => 0
  | 78 => 1
  | 79 => 1
  | 80 => 3
  | 81 => 2
  | 82 => 1
  | 83 => 0
  | 84 => 1
  | 85 => 3
  | 86 => 2
  | 87 => 0
  | 88 => 0
  | 89 => 1
  | 90 => 1
  | 91 => 0
  | 92 => 3
  | 93 => 0
  | 94 => 0
  | 95 => 2
  | 96 => 0
  | 97 => 5
  | 98 => 4
  | 99 => 1
  | 100 => 3
  | 101 => 0
  | 102 => 1
  | 103 => 0
  | 104 => 7
  | 105 => 7
  | 106 => 7
  | 107 => 7
  | 108 => 7
  | 109 => 7
  | 110 => 7
  | 111 => 7
  | _ => 0
def rz_lo (M : Nat) : Nat := match M with
  | 0 => 390
  | 1 => 21
  | 2 => 0
  | 3 => 20
  | 4 => 0
  | 5 => 42
  | 6 => 21
  | 7 => 0
  | 8 => 187
  | 9 => 163
  | 10 => 90
  | 11 => 0
  | 12 => 64
  | 13 => 0
  | 14 => 40
  | 15 => 0
  | 16 => 0
  | 17 => 20
  | 18 => 0
  | 19 => 20
  | 20 => 0
  | 21 => 0
  | 22 => 138
  | 23 => 63
  | 24 => 0
  | 25 => 40
  | 26 => 20
  | 27 => 40
  | 28 => 20
  | 29 => 20
  | 30 => 21
  | 31 => 0
  | 32 => 0
  | 33 => 98
  | 34 => 0
  | 35 => 71
  | 36 => 48
  | 37 => 23
  | 38 => 0
  | 39 => 98
  | 40 => 40
  | 41 => 20
  | 42 => 0
  | 43 => 0
  | 44 => 113
  | 45 => 64
  | 46 => 40
  | 47 => 0
  | 48 => 21
  | 49 => 0
  | 50 => 90
  | 51 => 20
  | 52 => 0
  | 53 => 0
  | 54 => 0
  | 55 => 90
  | 56 => 0
  | 57 => 90
  | 58 => 20
  | 59 => 90
  | 60 => 23
  | 61 => 94
  | 62 => 70
  | 63 => 48
  | 64 => 21
  | 65 => 113
  | 66 => 90
  | 67 => 62
  | 68 => 124
  | 69 => 98
  | 70 => 0
  | 71 => 46
  | 72 => 22
  | 73 => 0
  | 74 => 0
  | 75 => 46
  | 76 => 0
  | 77 => 0
  | 78 => 22
  | 79 => 22
  | 80 => 71
  | 81 => 47
  | 82 => 23
  | 83 => 0
  | 84 => 22
  | 85 => 68
  | 86 => 42
  | 87 => 0
  | 88 => 0
  | 89 => 20
  | 90 => 23
  | 91 => 0
  | 92 => 74
  | 93 => 0
  | 94 => 0
  | 95 => 47
  | 96 => 0
  | 97 => 126
  | 98 => 102
  | 99 => 24
  | 100 => 74
  | 101 => 0
  | 102 => 25
  | 103 => 0
  | 104 => 114
  | 105 => 115
  | 106 => 112
  | 107 => 112
  | 108 => 115
  | 109 => 134
  | 110 => 111
  | 111 => 149
  | _ => 0
def rz_MC (M : Nat) : Nat := match M with
  | 0 => 1074
  | 1 => 0
  | 2 => 0
  | 3 => 0
  | 4 => 0
  | 5 => 0
  | 6 => 0
  | 7 => 0
  | 8 => 0
  | 9 => 0
  | 10 => 0
  | 11 => 0
  | 12 => 0
  | 13 => 0
  | 14 => 0
  | 15 => 0
  | 16 => 0
  | 17 => 0
  | 18 => 0
  | 19 => 0
  | 20 => 0
  | 21 => 0
  | 22 => 0
  | 23 => 0
  | 24 => 0
  | 25 => 0
  | 26 => 0
  | 27 => 0
  | 28 => 0
  | 29 => 0
  | 30 => 0
  | 31 => 0
  | 32 => 0
  | 33 => 0
  | 34 => 0
  | 35 => 0
  | 36 => 0
  | 37 => 0
  | 38 => 0
  | 39 => 0
  | 40 => 0
  | 41 => 0
  | 42 => 0
  | 43 => 0
  | 44 => 0
  | 45 => 0
  | 46 => 0
  | 47 => 0
  | 48 => 0
  | 49 => 0
  | 50 => 1
  | 51 => 0
  | 52 => 0
  | 53 => 0
  | 54 => 0
  | 55 => 1
  | 56 => 0
  | 57 => 1
  | 58 => 0
  | 59 => 1
  | 60 => 0
  | 61 => 1
  | 62 => 0
  | 63 => 0
  | 64 => 0
  | 65 => 1
  | 66 => 1
  | 67 => 0
  | 68 => 1
  | 69 => 0
  | 70 => 0
  | 71 => 0
  | 72 => 0
  | 73 => 0
  | 74 => 0
  | 75 => 0
  | 76 => 0
  | 77 => 0
  | 78 => 0
  | 79 => 0
  | 80 => 0
  | 81 => 0
  | 82 => 0
  | 83 => 0
  | 84 => 0
  | 85 => 0
  | 86 => 0
  | 87 => 0
  | 88 => 0
  | 89 => 0
  | 90 => 0
  | 91 => 0
  | 92 => 0
  | 93 => 0
  | 94 => 0
  | 95 => 0
  | 96 => 0
  | 97 => 0
  | 98 => 0
  | 99 => 0
  | 100 => 0
  | 101 => 0
  | 102 => 0
  | 103 => 0
  | 104 => 1
  | 105 => 1
  | 106 => 1
  | 107 => 1
  | 108 => 1
  | 109 => 1
  | 110 => 1
  | 111 => 1
  | _ => 0
def rz_MS (M : Nat) : Nat := match M with
  | 0 => 8598
  | 1 => 0
  | 2 => 0
  | 3 => 0
  | 4 => 0
  | 5 => 0
  | 6 => 0
  | 7 => 0
  | 8 => 0
  | 9 => 0
  | 10 => 0
  | 11 => 0
  | 12 => 0
  | 13 => 0
  | 14 => 0
  | 15 => 0
  | 16 => 0
  | 17 => 0
  | 18 => 0
  | 19 => 0
  | 20 => 0
  | 21 => 0
  | 22 => 0
  | 23 => 0
  | 24 => 0
  | 25 => 0
  | 26 => 0
  | 27 => 0
  | 28 => 0
  | 29 => 0
  | 30 => 0
  | 31 => 0
  | 32 => 0
  | 33 => 0
  | 34 => 0
  | 35 => 0
  | 36 => 0
  | 37 => 0
  | 38 => 0
  | 39 => 0
  | 40 => 0
  | 41 => 0
  | 42 => 0
  | 43 => 0
  | 44 => 0
  | 45 => 0
  | 46 => 0
  | 47 => 0
  | 48 => 0
  | 49 => 0
  | 50 => 6
  | 51 => 0
  | 52 => 0
  | 53 => 0
  | 54 => 0
  | 55 => 6
  | 56 => 0
  | 57 => 6
  | 58 => 0
  | 59 => 6
  | 60 => 0
  | 61 => 6
  | 62 => 0
  | 63 => 0
  | 64 => 0
  | 65 => 6
  | 66 => 6
  | 67 => 0
  | 68 => 6
  | 69 => 0
  | 70 => 0
  | 71 => 0
  | 72 => 0
  | 73 => 0
  | 74 => 0
  | 75 => 0
  | 76 => 0
  | 77 => 0
  | 78 => 0
  | 79 => 0
  | 80 => 0
  | 81 => 0
  | 82 => 0
  | 83 => 0
  | 84 => 0
  | 85 => 0
  | 86 => 0
  | 87 => 0
  | 88 => 0
  | 89 => 0
  | 90 => 0
  | 91 => 0
  | 92 => 0
  | 93 => 0
  | 94 => 0
  | 95 => 0
  | 96 => 0
  | 97 => 0
  | 98 => 0
  | 99 => 0
  | 100 => 0
  | 101 => 0
  | 102 => 0
  | 103 => 0
  | 104 => 6
  | 105 => 6
  | 106 => 6
  | 107 => 6
  | 108 => 6
  | 109 => 6
  | 110 => 6
  | 111 => 6
  | _ => 0
def rz_na (M : Nat) : Nat := match M with
  | 0 => 1
  | 1 => 1
  | 2 => 1
  | 3 => 1
  | 4 => 1
  | 5 => 2
  | 6 => 2
  | 7 => 2
  | 8 => 1
  | 9 => 2
  | 10 => 2
  | 11 => 2
  | 12 => 2
  | 13 => 2
  | 14 => 3
  | 15 => 1
  | 16 => 1
  | 17 => 1
  | 18 => 1
  | 19 => 1
  | 20 => 1
  | 21 => 2
  | 22 => 3
  | 23 => 3
  | 24 => 3
  | 25 => 3
  | 26 => 1
  | 27 => 2
  | 28 => 1
  | 29 => 1
  | 30 => 4
  | 31 => 2
  | 32 => 1
  | 33 => 2
  | 34 => 1
  | 35 => 4
  | 36 => 2
  | 37 => 2
  | 38 => 3
  | 39 => 2
  | 40 => 1
  | 41 => 1
  | 42 => 4
  | 43 => 2
  | 44 => 5
  | 45 => 4
  | 46 => 3
  | 47 => 2
  | 48 => 2
  | 49 => 2
  | 50 => 5
  | 51 => 4
  | 52 => 1
  | 53 => 1
  | 54 => 2
  | 55 => 6
  | 56 => 3
  | 57 => 3
  | 58 => 2
  | 59 => 3
  | 60 => 3
  | 61 => 2
  | 62 => 3
  | 63 => 2
  | 64 => 2
  | 65 => 2
  | 66 => 2
  | 67 => 2
  | 68 => 6
  | 69 => 7
  | 70 => 1
  | 71 => 5
  | 72 => 4
  | 73 => 3
  | 74 => 6
  | 75 => 6
  | 76 => 1
  | 77 => 1
  | 78 => 3
  | 79 => 3
  | 80 => 2
  | 81 => 2
  | 82 => 2
  | 83 => 3
  | 84 => 2
  | 85 => 2
  | 86 => 1
  | 87 => 2
  | 88 => 1
  | 89 => 2
  | 90 => 2
  | 91 => 2
  | 92 => 6
  | 93 => 3
  | 94 => 3
  | 95 => 6
  | 96 => 2
  | 97 => 1
  | 98 => 2
  | 99 => 3
  | 100 => 4
  | 101 => 4
  | 102 => 4
  | 103 => 2
  | 104 => 6
  | 105 => 6
  | 106 => 4
  | 107 => 3
  | 108 => 3
  | 109 => 3
  | 110 => 3
  | 111 => 7
  | _ => 0
def rz_rc (M : Nat) : Nat := match M with
  | 0 => 99
  | 1 => 0
  | 2 => 1
  | 3 => 0
  | 4 => 1
  | 5 => 0
  | 6 => 2
  | 7 => 99
  | 8 => 0
  | 9 => 6
  | 10 => 3
  | 11 => 99
  | 12 => 3
  | 13 => 1
  | 14 => 3
  | 15 => 99
  | 16 => 99
  | 17 => 99
  | 18 => 99
  | 19 => 99
  | 20 => 99
  | 21 => 1
  | 22 => 6
  | 23 => 1
  | 24 => 1
  | 25 => 1
  | 26 => 99
  | 27 => 1
  | 28 => 99
  | 29 => 99
  | 30 => 5
  | 31 => 3
  | 32 => 99
  | 33 => 6
  | 34 => 5
  | 35 => 4
  | 36 => 5
  | 37 => 99
  | 38 => 99
  | 39 => 6
  | 40 => 5
  | 41 => 99
  | 42 => 99
  | 43 => 5
  | 44 => 6
  | 45 => 1
  | 46 => 1
  | 47 => 99
  | 48 => 0
  | 49 => 6
  | 50 => 0
  | 51 => 99
  | 52 => 99
  | 53 => 1
  | 54 => 1
  | 55 => 0
  | 56 => 1
  | 57 => 0
  | 58 => 99
  | 59 => 0
  | 60 => 2
  | 61 => 0
  | 62 => 2
  | 63 => 2
  | 64 => 2
  | 65 => 0
  | 66 => 0
  | 67 => 1
  | 68 => 0
  | 69 => 4
  | 70 => 7
  | 71 => 7
  | 72 => 7
  | 73 => 7
  | 74 => 7
  | 75 => 7
  | 76 => 7
  | 77 => 7
  | 78 => 7
  | 79 => 7
  | 80 => 7
  | 81 => 7
  | 82 => 7
  | 83 => 7
  | 84 => 7
  | 85 => 7
  | 86 => 7
  | 87 => 7
  | 88 => 7
  | 89 => 7
  | 90 => 7
  | 91 => 7
  | 92 => 7
  | 93 => 7
  | 94 => 7
  | 95 => 7
  | 96 => 7
  | 97 => 7
  | 98 => 7
  | 99 => 7
  | 100 => 7
  | 101 => 7
  | 102 => 7
  | 103 => 7
  | 104 => 99
  | 105 => 99
  | 106 => 99
  | 107 => 99
  | 108 => 99
  | 109 => 99
  | 110 => 99
  | 111 => 99
  | _ => 99
def rz_xn (k : Nat) : String := match k with
  | 0 => "java/lang/IllegalArgumentException"
  | 1 => "java/lang/IllegalStateException"
  | 2 => "java/lang/IndexOutOfBoundsException"
  | 3 => "java/lang/UnsupportedOperationException"
  | _ => ""
def rz_F0 : u_T := fun k => match k with
  | 0 => ("RowImprover", "program", "LRowImprover$Program;", true)
  | 1 => ("RowImprover", "machine", "LRowImprover$Machine;", true)
  | 2 => ("RowImprover", "liveness", "LRowImprover$Liveness;", true)
  | 3 => ("RowImprover", "prover", "LRowImprover$Prover;", true)
  | _ => ("RowImprover", "improver", "LRowImprover$Improver;", true)
def rz_F1 : u_T := fun k => match k with
  | 0 => ("RowImprover$Program", "codes", "[I", true)
  | _ => ("RowImprover$Program", "length", "I", false)
def rz_F2 : u_T := fun k => match k with
  | 0 => ("RowImprover$Machine", "startCells", "[I", true)
  | 1 => ("RowImprover$Machine", "cells", "[I", true)
  | 2 => ("RowImprover$Machine", "startRegisters", "I", false)
  | 3 => ("RowImprover$Machine", "registers", "I", false)
  | 4 => ("RowImprover$Machine", "place", "I", false)
  | _ => ("RowImprover$Machine", "ended", "Z", false)
def rz_F3 : u_T := fun k => match k with
  | _ => ("RowImprover$Liveness", "found", "[I", true)
def rz_F4 : u_T := fun k => match k with
  | 0 => ("RowImprover$Prover", "one", "LRowImprover$Row;", true)
  | 1 => ("RowImprover$Prover", "other", "LRowImprover$Row;", true)
  | _ => ("RowImprover$Prover", "latestDifference", "I", false)
def rz_F5 : u_T := fun k => match k with
  | 0 => ("RowImprover$Row", "codes", "[I", true)
  | _ => ("RowImprover$Row", "length", "I", false)
def rz_F6 : u_T := fun k => match k with
  | 0 => ("RowImprover$Improver", "liveness", "LRowImprover$Liveness;", true)
  | 1 => ("RowImprover$Improver", "prover", "LRowImprover$Prover;", true)
  | 2 => ("RowImprover$Improver", "row", "LRowImprover$Row;", true)
  | 3 => ("RowImprover$Improver", "candidate", "LRowImprover$Row;", true)
  | 4 => ("RowImprover$Improver", "replaced", "I", false)
  | 5 => ("RowImprover$Improver", "byNothing", "I", false)
  | _ => ("RowImprover$Improver", "lookedAt", "I", false)
def rz_F7 : u_T := fun k => match k with
  | 0 => ("RowImproverModel", "code", "I", false)
  | 1 => ("RowImproverModel", "size", "I", false)
  | 2 => ("RowImproverModel", "operation", "[I", true)
  | 3 => ("RowImproverModel", "to", "[I", true)
  | 4 => ("RowImproverModel", "from", "[I", true)
  | 5 => ("RowImproverModel", "with", "[I", true)
  | 6 => ("RowImproverModel", "starts", "[I", true)
  | 7 => ("RowImproverModel", "cells", "[I", true)
  | 8 => ("RowImproverModel", "ended", "I", false)
  | 9 => ("RowImproverModel", "goesOn", "I", false)
  | 10 => ("RowImproverModel", "lives", "[I", true)
  | 11 => ("RowImproverModel", "state", "[I", true)
  | 12 => ("RowImproverModel", "first", "[I", true)
  | 13 => ("RowImproverModel", "replaced", "I", false)
  | 14 => ("RowImproverModel", "byNothing", "I", false)
  | _ => ("RowImproverModel", "looked", "I", false)
def rz_ty0 : Nat → FieldType := fun k => match k with
  | 0 => .object "RowImprover$Program"
  | 1 => .object "RowImprover$Machine"
  | 2 => .object "RowImprover$Liveness"
  | 3 => .object "RowImprover$Prover"
  | _ => .object "RowImprover$Improver"
def rz_ty1 : Nat → FieldType := fun k => match k with
  | 0 => .array .int
  | _ => .int
def rz_ty2 : Nat → FieldType := fun k => match k with
  | 0 => .array .int
  | 1 => .array .int
  | 2 => .int
  | 3 => .int
  | 4 => .int
  | _ => .boolean
def rz_ty3 : Nat → FieldType := fun k => match k with
  | _ => .array .int
def rz_ty4 : Nat → FieldType := fun k => match k with
  | 0 => .object "RowImprover$Row"
  | 1 => .object "RowImprover$Row"
  | _ => .int
def rz_ty5 : Nat → FieldType := fun k => match k with
  | 0 => .array .int
  | _ => .int
def rz_ty6 : Nat → FieldType := fun k => match k with
  | 0 => .object "RowImprover$Liveness"
  | 1 => .object "RowImprover$Prover"
  | 2 => .object "RowImprover$Row"
  | 3 => .object "RowImprover$Row"
  | 4 => .int
  | 5 => .int
  | _ => .int
def rz_ty7 : Nat → FieldType := fun k => match k with
  | 0 => .int
  | 1 => .int
  | 2 => .array .int
  | 3 => .array .int
  | 4 => .array .int
  | 5 => .array .int
  | 6 => .array .int
  | 7 => .array .int
  | 8 => .int
  | 9 => .int
  | 10 => .array .int
  | 11 => .array .int
  | 12 => .array .int
  | 13 => .int
  | 14 => .int
  | _ => .int
abbrev rz_cl : List vw_C := [("RowImprover", rz_F0, 5), ("RowImprover$Program", rz_F1, 2), ("RowImprover$Machine", rz_F2, 6), ("RowImprover$Liveness", rz_F3, 1), ("RowImprover$Prover", rz_F4, 3), ("RowImprover$Row", rz_F5, 2), ("RowImprover$Improver", rz_F6, 7), ("RowImproverModel", rz_F7, 16)]
def rz_fty (ci k : Nat) : FieldType := match ci with
  | 0 => rz_ty0 k
  | 1 => rz_ty1 k
  | 2 => rz_ty2 k
  | 3 => rz_ty3 k
  | 4 => rz_ty4 k
  | 5 => rz_ty5 k
  | 6 => rz_ty6 k
  | 7 => rz_ty7 k
  | _ => .int
end
section
/-! where the words stand in the list of the tables' words: by the same program -/
def rz_HT (M : Nat) : List (Nat × Nat) := match M with
  | 0 => [(134, 375), (164, 684), (203, 484), (239, 698), (246, 184), (251, 702), (259, 192), (264, 706), (285, 513), (303, 710), (324, 525), (342, 714), (346, 680), (367, 538), (379, 718), (394, 200), (405, 733), (420, 568), (432, 737), (448, 578), (460, 756), (500, 589), (536, 764), (545, 211), (550, 784), (564, 367), (575, 808)]
  | 1 => [(1, 168), (4, 188)]
  | 2 => [(1, 63), (7, 63)]
  | 3 => [(1, 168), (4, 196)]
  | 4 => [(1, 63)]
  | 5 => [(1, 169), (5, 204)]
  | 6 => [(10, 79), (14, 208), (30, 77), (65, 81), (78, 80)]
  | 7 => []
  | 8 => [(1, 172), (5, 168), (8, 215)]
  | 9 => [(1, 219), (6, 146), (10, 220), (27, 263), (36, 267), (48, 219)]
  | 10 => [(1, 101), (5, 224), (9, 101), (13, 227), (35, 228)]
  | 11 => []
  | 12 => [(3, 227), (15, 232), (23, 236), (28, 249), (38, 256), (52, 101), (61, 101)]
  | 13 => [(1, 62)]
  | 14 => [(2, 232), (7, 101), (11, 240), (15, 227), (18, 243), (25, 246), (60, 101), (72, 101)]
  | 15 => []
  | 16 => []
  | 17 => [(1, 252), (11, 253)]
  | 18 => []
  | 19 => [(1, 252), (12, 259), (18, 262), (32, 259), (45, 253), (51, 259)]
  | 20 => []
  | 21 => [(6, 63)]
  | 22 => [(10, 271), (17, 148), (23, 297), (30, 146), (36, 302), (39, 306), (47, 309), (61, 332), (85, 352)]
  | 23 => [(3, 275), (12, 279), (31, 286)]
  | 24 => [(10, 63)]
  | 25 => [(8, 62), (15, 283)]
  | 26 => [(1, 252)]
  | 27 => [(5, 62), (12, 290), (24, 63), (31, 62), (36, 293), (43, 62), (48, 296)]
  | 28 => [(1, 252)]
  | 29 => [(1, 252), (10, 252)]
  | 30 => [(10, 117), (20, 301), (32, 118)]
  | 31 => [(1, 101)]
  | 32 => []
  | 33 => [(1, 149), (4, 313), (9, 152), (14, 152), (18, 147), (22, 148), (26, 149), (30, 317)]
  | 34 => [(2, 118)]
  | 35 => [(12, 126), (37, 321), (43, 321), (59, 126)]
  | 36 => [(6, 118), (13, 117), (19, 325)]
  | 37 => [(1, 252), (7, 259), (10, 328), (21, 262), (24, 328), (31, 262), (166, 253), (171, 329)]
  | 38 => []
  | 39 => [(0, 336), (3, 148), (6, 337), (78, 345), (84, 149), (89, 348), (94, 152), (99, 152), (103, 147), (107, 148), (111, 149), (115, 317)]
  | 40 => [(6, 118), (13, 117), (18, 341), (27, 117), (32, 344)]
  | 41 => [(1, 252), (10, 252)]
  | 42 => []
  | 43 => [(1, 117), (9, 118)]
  | 44 => [(2, 150), (7, 150), (18, 151), (23, 151), (31, 356), (37, 146), (41, 220)]
  | 45 => [(9, 62), (33, 63), (43, 62), (49, 62), (67, 63), (73, 63), (80, 360)]
  | 46 => [(4, 63), (11, 62), (16, 296), (22, 62), (27, 293), (40, 62), (45, 62), (54, 364)]
  | 47 => []
  | 48 => [(1, 172), (5, 371)]
  | 49 => [(29, 150), (34, 151), (39, 152)]
  | 50 => [(5, 384), (11, 390), (22, 168), (25, 459), (31, 463), (42, 168), (50, 479), (53, 480)]
  | 51 => [(51, 387)]
  | 52 => []
  | 53 => [(1, 63)]
  | 54 => [(1, 62), (5, 63), (12, 63), (17, 63), (21, 63)]
  | 55 => [(6, 384), (12, 390), (23, 168), (27, 492), (33, 493), (44, 168), (54, 479), (57, 509)]
  | 56 => [(1, 62)]
  | 57 => [(9, 390), (20, 168), (24, 492), (30, 493), (41, 168), (45, 521), (49, 522)]
  | 58 => [(29, 252), (34, 253), (39, 259), (44, 262)]
  | 59 => [(21, 390), (32, 169), (37, 533)]
  | 60 => [(7, 78), (12, 537), (15, 78), (22, 76)]
  | 61 => [(11, 390), (22, 169), (26, 168), (30, 546)]
  | 62 => [(2, 78), (5, 79), (9, 76), (14, 77), (20, 550), (25, 80), (31, 80), (34, 553), (45, 81), (56, 81), (64, 80), (67, 554), (75, 555), (81, 565), (91, 80), (94, 553), (105, 81)]
  | 63 => [(3, 559), (10, 566), (17, 80), (22, 80), (26, 79), (30, 564), (33, 208), (37, 566), (46, 565), (56, 79), (60, 563), (64, 77), (69, 537), (72, 79), (79, 565), (88, 77), (93, 79), (97, 563), (100, 208), (110, 79), (113, 567), (116, 79)]
  | 64 => [(1, 79), (5, 563), (8, 208), (13, 79), (17, 564), (20, 208), (25, 565)]
  | 65 => [(6, 168), (9, 196), (15, 493), (26, 170), (30, 168), (33, 576), (37, 170), (41, 577)]
  | 66 => [(1, 168), (5, 492), (11, 493), (22, 168), (26, 585)]
  | 67 => [(8, 286)]
  | 68 => [(20, 390), (42, 390), (53, 168), (58, 599), (65, 168), (71, 599), (77, 493), (88, 168), (93, 601), (100, 168), (106, 601), (112, 602), (123, 171), (127, 168), (137, 618)]
  | 69 => [(1, 124), (7, 622), (11, 125), (19, 622), (24, 124), (28, 125), (33, 623), (36, 624)]
  | 70 => [(1, 631)]
  | 71 => [(6, 688), (17, 632), (30, 631), (34, 631), (44, 632), (52, 694), (57, 632), (62, 632), (66, 632)]
  | 72 => [(4, 691), (13, 691), (22, 691), (79, 691)]
  | 73 => []
  | 74 => [(1, 633), (8, 634), (15, 635), (23, 636)]
  | 75 => [(7, 688), (20, 632), (25, 691), (36, 631), (40, 631), (54, 694)]
  | 76 => [(2, 631), (6, 632), (12, 632)]
  | 77 => [(2, 631), (6, 632)]
  | 78 => [(4, 691), (17, 632), (22, 691), (33, 631), (37, 631), (50, 633), (64, 634), (78, 635), (87, 636)]
  | 79 => [(5, 691), (15, 691), (26, 631), (30, 631), (37, 637)]
  | 80 => [(6, 691), (17, 631), (21, 631), (38, 638), (43, 637), (57, 640), (62, 640), (66, 632), (77, 639), (83, 639), (95, 640), (101, 722), (109, 633), (120, 640), (124, 632), (135, 639)]
  | 81 => [(1, 633), (11, 640), (22, 642), (27, 638), (41, 638), (45, 635), (52, 636), (71, 726), (84, 642), (88, 634), (94, 634), (107, 638), (123, 638), (128, 638), (132, 634), (149, 638), (153, 634), (160, 638), (164, 635), (180, 638), (184, 634), (191, 638), (195, 635), (212, 636), (217, 640), (230, 638), (236, 642)]
  | 82 => [(1, 633), (14, 642), (18, 636), (28, 636), (36, 642), (40, 635), (47, 730), (53, 642), (57, 634), (63, 634)]
  | 83 => []
  | 84 => [(2, 631), (12, 639), (25, 640), (35, 691), (42, 638)]
  | 85 => [(4, 632), (7, 691), (18, 631), (22, 631), (31, 741), (36, 745)]
  | 86 => [(4, 632), (11, 641), (32, 632), (43, 633), (69, 745), (90, 636), (95, 745), (112, 634), (117, 749), (128, 752), (148, 641), (163, 641)]
  | 87 => [(2, 632), (14, 641)]
  | 88 => []
  | 89 => [(1, 633), (13, 635), (18, 749), (22, 636), (27, 749), (39, 635), (44, 749), (55, 634), (60, 749), (64, 635), (69, 749)]
  | 90 => [(4, 632), (9, 691), (20, 631), (24, 631), (36, 760)]
  | 91 => [(5, 633), (27, 632), (38, 633), (49, 633), (60, 636)]
  | 92 => [(4, 691), (14, 691), (25, 691), (38, 768), (48, 768), (61, 772), (71, 772), (82, 631), (86, 631), (100, 776)]
  | 93 => [(10, 632)]
  | 94 => [(18, 633)]
  | 95 => [(14, 780), (31, 726), (50, 643), (56, 642), (72, 780), (90, 726), (120, 643), (127, 642)]
  | 96 => [(1, 642), (8, 642), (18, 642), (30, 642)]
  | 97 => [(2, 631), (6, 632), (14, 632), (22, 788), (45, 632)]
  | 98 => [(1, 741), (13, 792), (23, 745), (29, 646), (34, 646), (43, 776), (62, 796), (85, 804)]
  | 99 => [(4, 632), (13, 772), (43, 760)]
  | 100 => [(67, 800), (84, 694), (89, 646), (94, 646), (104, 776)]
  | 101 => [(39, 633), (51, 636)]
  | 102 => [(13, 633), (20, 634), (27, 635), (34, 636), (40, 694), (54, 632), (64, 633), (74, 634), (84, 635), (94, 636), (103, 694), (114, 632), (120, 632), (129, 632), (136, 633), (148, 633), (160, 636), (171, 636), (190, 644), (195, 644), (200, 645), (213, 645)]
  | 103 => [(2, 631), (10, 644), (22, 645), (34, 646)]
  | 104 => [(9, 380)]
  | 105 => [(8, 488)]
  | 106 => [(5, 516)]
  | 107 => [(3, 528)]
  | 108 => [(4, 541)]
  | 109 => [(4, 571)]
  | 110 => [(4, 581)]
  | 111 => [(11, 593)]
  | _ => []
def rz_MH (M : Nat) : Nat × Nat × Nat × Nat := match M with
  | 0 => (0, 0, 0, 0)
  | 1 => (187, 185, 186, 28)
  | 2 => (191, 189, 190, 29)
  | 3 => (195, 193, 194, 28)
  | 4 => (199, 197, 198, 29)
  | 5 => (203, 201, 202, 28)
  | 6 => (207, 205, 206, 30)
  | 7 => (210, 209, 0, 43)
  | 8 => (214, 212, 213, 28)
  | 9 => (218, 216, 217, 34)
  | 10 => (223, 221, 222, 31)
  | 11 => (226, 225, 0, 45)
  | 12 => (231, 230, 0, 31)
  | 13 => (235, 233, 234, 29)
  | 14 => (239, 238, 1, 31)
  | 15 => (242, 241, 0, 36)
  | 16 => (248, 247, 0, 36)
  | 17 => (251, 250, 0, 36)
  | 18 => (255, 254, 0, 36)
  | 19 => (258, 257, 0, 36)
  | 20 => (261, 260, 0, 36)
  | 21 => (266, 264, 265, 29)
  | 22 => (270, 269, 2, 34)
  | 23 => (274, 272, 273, 29)
  | 24 => (278, 276, 277, 29)
  | 25 => (282, 280, 281, 29)
  | 26 => (285, 284, 0, 36)
  | 27 => (289, 288, 3, 29)
  | 28 => (292, 291, 0, 36)
  | 29 => (295, 294, 0, 36)
  | 30 => (300, 298, 299, 33)
  | 31 => (305, 303, 304, 31)
  | 32 => (308, 307, 0, 43)
  | 33 => (312, 311, 4, 34)
  | 34 => (316, 314, 315, 33)
  | 35 => (320, 318, 319, 32)
  | 36 => (324, 322, 323, 33)
  | 37 => (327, 326, 0, 36)
  | 38 => (331, 330, 0, 43)
  | 39 => (335, 334, 5, 34)
  | 40 => (340, 338, 339, 33)
  | 41 => (343, 342, 0, 36)
  | 42 => (347, 346, 0, 36)
  | 43 => (351, 349, 350, 33)
  | 44 => (355, 354, 6, 34)
  | 45 => (359, 357, 358, 29)
  | 46 => (363, 362, 7, 29)
  | 47 => (366, 365, 0, 36)
  | 48 => (370, 368, 369, 28)
  | 49 => (374, 372, 373, 34)
  | 50 => (383, 381, 382, 28)
  | 51 => (386, 385, 0, 36)
  | 52 => (389, 388, 0, 36)
  | 53 => (462, 460, 461, 29)
  | 54 => (483, 481, 482, 29)
  | 55 => (491, 489, 490, 28)
  | 56 => (512, 510, 511, 29)
  | 57 => (519, 517, 518, 28)
  | 58 => (524, 523, 0, 36)
  | 59 => (531, 529, 530, 28)
  | 60 => (536, 534, 535, 30)
  | 61 => (544, 542, 543, 28)
  | 62 => (549, 547, 548, 30)
  | 63 => (558, 557, 9, 30)
  | 64 => (562, 561, 10, 30)
  | 65 => (574, 572, 573, 28)
  | 66 => (584, 582, 583, 28)
  | 67 => (588, 586, 587, 29)
  | 68 => (596, 594, 595, 28)
  | 69 => (621, 619, 620, 32)
  | 70 => (683, 681, 682, 35)
  | 71 => (687, 685, 686, 35)
  | 72 => (690, 689, 0, 35)
  | 73 => (693, 692, 0, 35)
  | 74 => (697, 696, 11, 35)
  | 75 => (701, 699, 700, 35)
  | 76 => (705, 703, 704, 35)
  | 77 => (709, 707, 708, 35)
  | 78 => (713, 711, 712, 35)
  | 79 => (717, 715, 716, 35)
  | 80 => (721, 719, 720, 35)
  | 81 => (725, 724, 12, 35)
  | 82 => (729, 728, 13, 35)
  | 83 => (732, 731, 0, 35)
  | 84 => (736, 734, 735, 35)
  | 85 => (740, 738, 739, 35)
  | 86 => (744, 743, 14, 35)
  | 87 => (748, 747, 15, 35)
  | 88 => (751, 750, 0, 35)
  | 89 => (755, 754, 16, 35)
  | 90 => (759, 757, 758, 35)
  | 91 => (763, 762, 17, 35)
  | 92 => (767, 765, 766, 35)
  | 93 => (771, 770, 18, 35)
  | 94 => (775, 774, 19, 35)
  | 95 => (779, 778, 20, 35)
  | 96 => (783, 782, 21, 35)
  | 97 => (787, 785, 786, 35)
  | 98 => (791, 790, 22, 35)
  | 99 => (795, 794, 23, 35)
  | 100 => (799, 798, 24, 35)
  | 101 => (803, 802, 25, 35)
  | 102 => (807, 806, 26, 35)
  | 103 => (811, 809, 810, 35)
  | 104 => (377, 376, 0, 27)
  | 105 => (486, 485, 0, 27)
  | 106 => (515, 514, 0, 27)
  | 107 => (527, 526, 0, 27)
  | 108 => (540, 539, 0, 27)
  | 109 => (570, 569, 0, 27)
  | 110 => (580, 579, 0, 27)
  | 111 => (591, 590, 0, 27)
  | _ => (0, 0, 0, 0)
def rz_st (M : Nat) : Bool := match M with
  | 0 => true
  | 1 => false
  | 2 => false
  | 3 => false
  | 4 => false
  | 5 => false
  | 6 => false
  | 7 => true
  | 8 => false
  | 9 => false
  | 10 => false
  | 11 => true
  | 12 => false
  | 13 => false
  | 14 => false
  | 15 => true
  | 16 => true
  | 17 => true
  | 18 => true
  | 19 => true
  | 20 => true
  | 21 => false
  | 22 => false
  | 23 => false
  | 24 => false
  | 25 => false
  | 26 => true
  | 27 => false
  | 28 => true
  | 29 => true
  | 30 => false
  | 31 => false
  | 32 => true
  | 33 => false
  | 34 => false
  | 35 => false
  | 36 => false
  | 37 => true
  | 38 => true
  | 39 => false
  | 40 => false
  | 41 => true
  | 42 => true
  | 43 => false
  | 44 => false
  | 45 => false
  | 46 => false
  | 47 => true
  | 48 => false
  | 49 => false
  | 50 => false
  | 51 => true
  | 52 => true
  | 53 => false
  | 54 => false
  | 55 => false
  | 56 => false
  | 57 => false
  | 58 => true
  | 59 => false
  | 60 => false
  | 61 => false
  | 62 => false
  | 63 => false
  | 64 => false
  | 65 => false
  | 66 => false
  | 67 => false
  | 68 => false
  | 69 => false
  | 70 => false
  | 71 => false
  | 72 => true
  | 73 => true
  | 74 => false
  | 75 => false
  | 76 => false
  | 77 => false
  | 78 => false
  | 79 => false
  | 80 => false
  | 81 => false
  | 82 => false
  | 83 => true
  | 84 => false
  | 85 => false
  | 86 => false
  | 87 => false
  | 88 => true
  | 89 => false
  | 90 => false
  | 91 => false
  | 92 => false
  | 93 => false
  | 94 => false
  | 95 => false
  | 96 => false
  | 97 => false
  | 98 => false
  | 99 => false
  | 100 => false
  | 101 => false
  | 102 => false
  | 103 => false
  | 104 => true
  | 105 => true
  | 106 => true
  | 107 => true
  | 108 => true
  | 109 => true
  | 110 => true
  | 111 => true
  | _ => true
end
section
/-! the abstract machine: values as the machine's own, but a reference is a place in the world (a list of cells) -/
abbrev rz_R : Type := Option Value ⊕ Nat
abbrev rz_L : Type := List (Option Value)
abbrev rz_W : Type := List va_E
def rz_code (M pc : Nat) : Option rz_I := (rz_T M).lookup pc
def rz_tg (pc : Nat) (off : Int) : Nat := ((pc : Int) + off).toNat
def rz_cmp (c : Jvm.ClassFile.Cond) (a b : Int32) : Bool := match c with
  | .eq => decide (a = b)
  | .ne => decide (¬ a = b)
  | .lt => decide (a < b)
  | .ge => decide (b ≤ a)
  | .gt => decide (b < a)
  | .le => decide (a ≤ b)
def rz_fit (ty : FieldType) (v : Value) : Bool := match ty, v with
  | .int, .int _ => true
  | .boolean, .int x => decide (x = 0 ∨ x = 1)
  | .object _, .ref _ => true
  | .array _, .ref _ => true
  | _, _ => false
def rz_pure (ins : Instr) (len x y pc : Nat) (L : rz_L) (st : List Value) (w : rz_W) : Option (Nat × rz_L × List Value × rz_W) := match ins with
  | .iconst i => some (pc + len, L, .int (Int32.ofInt i) :: st, w)
  | .bipush i => some (pc + len, L, .int (Int8.ofInt i).toInt32 :: st, w)
  | .sipush i => some (pc + len, L, .int (Int16.ofInt i).toInt32 :: st, w)
  | .ldc _ => some (pc + len, L, .int (Int32.ofNat x) :: st, w)
  | .lconst i => some (pc + len, L, .long (Int64.ofNat (i : Nat)) :: st, w)
  | .iload_n k => match L[(k : Nat)]? with
    | some (some (.int v)) => some (pc + len, L, .int v :: st, w)
    | _ => none
  | .iload k => match L[k]? with
    | some (some (.int v)) => some (pc + len, L, .int v :: st, w)
    | _ => none
  | .aload_n k => match L[(k : Nat)]? with
    | some (some (.ref v)) => some (pc + len, L, .ref v :: st, w)
    | _ => none
  | .aload k => match L[k]? with
    | some (some (.ref v)) => some (pc + len, L, .ref v :: st, w)
    | _ => none
  | .istore_n k => match st with
    | .int v :: r => if (k : Nat) < L.length then some (pc + len, L.set (k : Nat) (some (.int v)), r, w) else none
    | _ => none
  | .istore k => match st with
    | .int v :: r => if k < L.length then some (pc + len, L.set k (some (.int v)), r, w) else none
    | _ => none
  | .iinc k n => match L[k]? with
    | some (some (.int v)) => some (pc + len, L.set k (some (.int (v + Int32.ofInt n))), st, w)
    | _ => none
  | .iadd => match st with
    | .int b :: .int a :: r => some (pc + len, L, .int (a + b) :: r, w)
    | _ => none
  | .isub => match st with
    | .int b :: .int a :: r => some (pc + len, L, .int (a - b) :: r, w)
    | _ => none
  | .imul => match st with
    | .int b :: .int a :: r => some (pc + len, L, .int (a * b) :: r, w)
    | _ => none
  | .idiv => match st with
    | .int b :: .int a :: r => if b = 0 then none else some (pc + len, L, .int (a / b) :: r, w)
    | _ => none
  | .irem => match st with
    | .int b :: .int a :: r => if b = 0 then none else some (pc + len, L, .int (a - a / b * b) :: r, w)
    | _ => none
  | .iand => match st with
    | .int b :: .int a :: r => some (pc + len, L, .int (a &&& b) :: r, w)
    | _ => none
  | .ior => match st with
    | .int b :: .int a :: r => some (pc + len, L, .int (a ||| b) :: r, w)
    | _ => none
  | .ixor => match st with
    | .int b :: .int a :: r => some (pc + len, L, .int (a ^^^ b) :: r, w)
    | _ => none
  | .ishl => match st with
    | .int b :: .int a :: r => some (pc + len, L, .int (a <<< (b &&& 31)) :: r, w)
    | _ => none
  | .ishr => match st with
    | .int b :: .int a :: r => some (pc + len, L, .int (a >>> (b &&& 31)) :: r, w)
    | _ => none
  | .i2l => match st with
    | .int a :: r => some (pc + len, L, .long a.toInt64 :: r, w)
    | _ => none
  | .ladd => match st with
    | .long b :: .long a :: r => some (pc + len, L, .long (a + b) :: r, w)
    | _ => none
  | .lcmp => match st with
    | .long b :: .long a :: r => some (pc + len, L, .int (lg_cmp a b) :: r, w)
    | _ => none
  | .pop => match st with
    | .int _ :: r => some (pc + len, L, r, w)
    | _ => none
  | .dup => match st with
    | .int a :: r => some (pc + len, L, .int a :: .int a :: r, w)
    | .ref a :: r => some (pc + len, L, .ref a :: .ref a :: r, w)
    | _ => none
  | .dup2 => match st with
    | .int a :: .ref b :: r => some (pc + len, L, .int a :: .ref b :: .int a :: .ref b :: r, w)
    | _ => none
  | .goto _ => some (x, L, st, w)
  | .if_icmp c _ => match st with
    | .int b :: .int a :: r => some (if rz_cmp c a b = true then x else pc + len, L, r, w)
    | _ => none
  | .ifCond c _ => match st with
    | .int a :: r => some (if rz_cmp c a 0 = true then x else pc + len, L, r, w)
    | _ => none
  | .tableswitch d lo hi offs => match st with
    | .int v :: r => some (if v.toInt < lo ∨ hi < v.toInt then rz_tg pc d else rz_tg pc (offs.getD (v.toInt - lo).toNat d), L, r, w)
    | _ => none
  | .lookupswitch d ps => match st with
    | .int v :: r => some (rz_tg pc (Op.lookupswitch.offset ps.toList d v.toInt), L, r, w)
    | _ => none
  | .getfield _ => match st with
    | .ref i :: r => match w[i]? with
      | some (.inr (ci, fs)) => if ci = x then (match fs[y]? with
        | some v => some (pc + len, L, v :: r, w)
        | none => none) else none
      | _ => none
    | _ => none
  | .putfield _ => match st with
    | v :: .ref i :: r => match w[i]? with
      | some (.inr (ci, fs)) => if ci = x ∧ y < fs.length ∧ rz_fit (rz_fty x y) v = true then some (pc + len, L, r, w.set i (.inr (ci, fs.set y v))) else none
      | _ => none
    | _ => none
  | .iaload => match st with
    | .int j :: .ref i :: r => match w[i]? with
      | some (.inl (k, n, .inl f)) => if k = 0 ∧ ¬ (j < 0 ∨ n ≤ j.toNatClampNeg) then some (pc + len, L, .int (f j.toNatClampNeg) :: r, w) else none
      | _ => none
    | _ => none
  | .iastore => match st with
    | .int v :: .int j :: .ref i :: r => match w[i]? with
      | some (.inl (k, n, .inl f)) => if k = 0 ∧ ¬ (j < 0 ∨ n ≤ j.toNatClampNeg) then some (pc + len, L, r, w.set i (.inl (k, n, .inl (upd f j.toNatClampNeg v)))) else none
      | _ => none
    | _ => none
  | .lastore => match st with
    | .long v :: .int j :: .ref i :: r => match w[i]? with
      | some (.inl (k, n, .inr (.inl f))) => if k = 1 ∧ ¬ (j < 0 ∨ n ≤ j.toNatClampNeg) then some (pc + len, L, r, w.set i (.inl (k, n, .inr (.inl (vp_updL f j.toNatClampNeg v))))) else none
      | _ => none
    | _ => none
  | .arraylength => match st with
    | .ref i :: r => match w[i]? with
      | some (.inl (k, n, .inl _)) => if k = 0 then some (pc + len, L, .int (Int32.ofNat n) :: r, w) else none
      | _ => none
    | _ => none
  | _ => none
/-- what a method's end gives: the value on the stack, of its return type -/
def rz_end (rt : Option FieldType) (st : List Value) : Option (Option Value) := match rt, st with
  | none, [] => some none
  | some .int, [.int v] => some (some (.int v))
  | some .boolean, [.int v] => if v = 0 ∨ v = 1 then some (some (.int v)) else none
  | _, _ => none
def rz_ent (M : Nat) (args : List Value) : rz_L := args.map some ++ List.replicate (rz_mL M - args.length) none
def rz_recv (w : rz_W) (M : Nat) (ins : Instr) (args : List Value) : Bool := match ins with
  | .invokestatic _ => true
  | _ => match args with
    | .ref i :: _ => match w[i]? with
      | some (.inr (ci, _)) => decide (ci = rz_rc M)
      | _ => false
    | _ => false
/-- the handler that takes an exception of kind k thrown at pc: the place behind its store, and the local that it fills -/
def rz_go (hs : List (Nat × Nat × Nat × Nat)) (ks : List Nat) (pc k : Nat) : Option Nat := match hs, ks with
  | h :: hs, q :: ks => if h.1 ≤ pc ∧ pc < h.2.1 ∧ q = k then some h.2.2.1 else rz_go hs ks pc k
  | _, _ => none
def rz_hnd (M pc k : Nat) : Option (Nat × Nat) := match rz_go (rz_hd M) (rz_hk M) pc k with
  | none => none
  | some hp => match rz_code M hp with
    | some (7, .astore_n i, len, _, _, _) => some (hp + len, (i : Nat))
    | some (7, .astore i, len, _, _, _) => some (hp + len, i)
    | _ => none
def rz_cpy (f g : Nat → Int32) (n : Nat) : Nat → Int32 := fun k => if k < n then f k else g k
/-- n: the fuel; xs, xl: the script (read by the law alone); kc, ks: cells and slots that this frame has used -/
def rz_run (xs : Nat → Int32) (xl : Nat) : Nat → Nat → Nat → rz_L → List Value → rz_W → Nat → Nat → Option (rz_R × rz_W)
  | 0, _, _, _, _, _, _, _ => none
  | n + 1, M, pc, L, st, w, kc, ks => match rz_code M pc with
    | none => none
    | some (kind, ins, len, x, y, _) => match kind with
      | 0 => match rz_pure ins len x y pc L st w with
        | some (pc', L', st', w') => rz_run xs xl n M pc' L' st' w' kc ks
        | none => none
      | 1 => if y ≤ st.length ∧ kc + rz_MC x ≤ rz_MC M ∧ ks + rz_MS x ≤ rz_MS M ∧ rz_recv w x ins (st.take y).reverse = true ∧ ((st.drop y).map fun v => v.category).sum ≤ 8 ∧ ((st.take y).all fun v => decide (v.category = 1)) = true then
          match rz_run xs xl n x 0 (rz_ent x (st.take y).reverse) [] w 0 0 with
          | some (.inl v, w') => rz_run xs xl n M (pc + len) L (v.toList ++ st.drop y) w' (kc + rz_MC x) (ks + rz_MS x)
          | some (.inr k, w') => match rz_hnd M pc k with
            | some (hp, i) => rz_run xs xl n M hp (L.set i none) [] w' (kc + rz_MC x) (ks + rz_MS x)
            | none => none
          | none => none
        else none
      | 2 => match rz_end (rz_rt M) st with
        | some v => some (.inl v, w)
        | none => none
      | 3 => if st = [] ∧ kc + 1 ≤ rz_MC M ∧ ks + 6 ≤ rz_MS M then some (.inr x, w) else none
      | 4 => if M = 0 then (match ins, st with
          | .iaload, .int j :: .ref 999 :: r => if ¬ (j < 0 ∨ xl ≤ j.toNatClampNeg) then rz_run xs xl n M (pc + len) L (.int (xs j.toNatClampNeg) :: r) w kc ks else none
          | .arraylength, .ref 999 :: r => rz_run xs xl n M (pc + len) L (.int (Int32.ofNat xl) :: r) w kc ks
          | _, _ => none) else none
      | 5 => match st with
        | .int cn :: .int dp :: .ref d :: .int sp :: .ref s :: r => (match w[s]?, w[d]? with
          | some (.inl (k0, n0, .inl f)), some (.inl (k1, n1, .inl g)) => if k0 = 0 ∧ k1 = 0 ∧ s ≠ d ∧ sp = 0 ∧ dp = 0 ∧ cn = 8 ∧ n0 = 8 ∧ n1 = 8 ∧ r = [] then rz_run xs xl n M (pc + len) L [] (w.set d (.inl (k1, n1, .inl (va_cpy f g 0 0 8)))) kc ks else none
          | _, _ => none)
        | _ => none
      | 6 => match st with
        | .int b :: .int a :: r => if (r.map fun v => v.category).sum ≤ 8 then rz_run xs xl n M (pc + len) L (.int (if b < a then b else a) :: r) w kc ks else none
        | _ => none
      | _ => none
end
section
/-! what a program decides of the tables: each entry is the bytes', each link is a word -/
def rz_ln (ins : Instr) : Nat := match ins with
  | .bipush _ => 2
  | .ldc _ => 2
  | .iload _ => 2
  | .aload _ => 2
  | .istore _ => 2
  | .astore _ => 2
  | .sipush _ => 3
  | .iinc _ _ => 3
  | .goto _ => 3
  | .if_icmp _ _ => 3
  | .ifCond _ _ => 3
  | .getfield _ => 3
  | .putfield _ => 3
  | .invokestatic _ => 3
  | .invokevirtual _ => 3
  | .invokespecial _ => 3
  | .new _ => 3
  | _ => 1
def rz_wd (i : Nat) (w : Cond) : Bool := decide (lw_tbl[i]? = some w)
theorem rz_wd_in {i : Nat} {w : Cond} (h : rz_wd i w = true) : w ∈ lw_tbl := List.mem_of_getElem? (of_decide_eq_true h)
def rz_hint (M pc : Nat) : Nat := ((rz_HT M).lookup pc).getD 0
def rz_names : List String := ["java/lang/RuntimeException", "java/lang/Exception"]
def rz_okp (own : String) (pc : Nat) (ins : Instr) (x y h : Nat) : Bool := match ins with
  | .ldc idx => rz_wd h (.constant own idx (Int32.ofNat x))
  | .goto off => decide ((pc : Int) + off = (x : Int))
  | .if_icmp _ off => decide ((pc : Int) + off = (x : Int))
  | .ifCond _ off => decide ((pc : Int) + off = (x : Int))
  | .tableswitch d lo hi offs => decide ((offs.size : Int) = hi - lo + 1) && (d :: offs.toList).all (fun o => decide (0 ≤ (pc : Int) + o))
  | .lookupswitch d ps => (ps.toList.zip (ps.toList.drop 1)).all (fun (a, next) => a.1 < next.1) && decide (0 ≤ (pc : Int) + d) && ps.toList.all (fun o => decide (0 ≤ (pc : Int) + o.2))
  | .getfield idx => match rz_cl[x]? with
    | some (C, T, N) => decide (y < N) && decide ((T y).1 = C) && rz_wd h (.fieldLink own idx C (T y).2.1 (T y).2.2.1)
    | none => false
  | .putfield idx => match rz_cl[x]? with
    | some (C, T, N) => decide (y < N) && decide ((T y).1 = C) && rz_wd h (.fieldLink own idx C (T y).2.1 (T y).2.2.1) && decide ((T y).2.2.2 = false) && decide (parseFieldDescriptor (T y).2.2.1 = some (rz_fty x y))
    | none => false
  | _ => true
def rz_sy : MethodName := ⟨"java/lang/System", "arraycopy", "(Ljava/lang/Object;ILjava/lang/Object;II)V"⟩
def rz_ok (M pc : Nat) (q : rz_I) : Bool :=
  decide (decode (rz_by M) pc = .ok (q.2.1, q.2.2.1)) && (match q with
  | (0, ins, len, x, y, _) => (match ins with
    | .tableswitch _ _ _ _ => true
    | .lookupswitch _ _ => true
    | _ => decide (len = rz_ln ins)) && rz_okp (rz_y M).cls pc ins x y (rz_hint M pc)
  | (1, ins, len, x, y, _) => decide (len = 3) && decide (y = rz_na x) && decide (0 < x) && decide (rz_fr x + 1 ≤ rz_fr M) && decide (8 + (rz_mL x + 11) + rz_lo x ≤ rz_lo M) && (match ins with
    | .invokestatic idx => rz_st x && rz_wd (rz_hint M pc) (.methodLink (rz_y M).cls idx (rz_y x))
    | .invokevirtual idx => !(rz_st x) && rz_wd (rz_hint M pc) (.methodLink (rz_y M).cls idx (rz_y x))
    | _ => false)
  | (2, ins, _, _, _, _) => (match rz_rt M with
    | none => decide (ins = .return_)
    | some .int => decide (ins = .ireturn)
    | some .boolean => decide (ins = .ireturn)
    | _ => false) && decide (q.2.2.1 = 1)
  | (3, ins, _, x, y, z) => (match ins with
    | .new idx => decide (x < 4) && rz_wd (rz_hint M pc) (.classLink (rz_y M).cls idx (rz_xn x)) && decide ((rz_y M).cls = "RowImprover") && decide (y = (match x with | 0 => 54 | 1 => 65 | 2 => 82 | _ => 146)) && decide (decode (rz_by M) (pc + 3) = .ok (.dup, 1)) && decide (decode (rz_by M) (pc + 4) = .ok (.ldc z, 2)) && decide (decode (rz_by M) (pc + 6) = .ok (.invokespecial y, 3)) && decide (decode (rz_by M) (pc + 9) = .ok (.athrow, 1)) && lw_tbl.any (fun w => match w with
        | .stringRef o k _ => o == "RowImprover" && k == z
        | _ => false) && decide (rz_hd M = []) && decide (6 ≤ rz_fr M) && decide (90 ≤ rz_lo M)
    | _ => false)
  | (4, ins, len, _, _, _) => decide (len = rz_ln ins) && (match ins with
    | .iaload => true
    | .arraylength => true
    | _ => false)
  | (5, ins, len, _, _, _) => decide (len = 3) && (match ins with
    | .invokestatic idx => rz_wd (rz_hint M pc) (.methodLink (rz_y M).cls idx rz_sy)
    | _ => false) && decide (1 ≤ rz_fr M) && decide (40 ≤ rz_lo M)
  | (6, ins, len, _, _, _) => decide (len = 3) && (match ins with
    | .invokestatic idx => rz_wd (rz_hint M pc) (.methodLink (rz_y M).cls idx Lib.Math.min.name)
    | _ => false) && decide (1 ≤ rz_fr M) && decide (21 ≤ rz_lo M)
  | (7, ins, len, _, _, _) => decide (len = rz_ln ins)
  | _ => false)
end
section
set_option maxRecDepth 100000 in
theorem rz_c0 : (rz_T 0).all (fun e => rz_ok 0 e.1 e.2) = true := by decide +kernel
set_option maxRecDepth 100000 in
theorem rz_c1 : (rz_T 1).all (fun e => rz_ok 1 e.1 e.2) = true := by decide +kernel
set_option maxRecDepth 100000 in
theorem rz_c2 : (rz_T 2).all (fun e => rz_ok 2 e.1 e.2) = true := by decide +kernel
set_option maxRecDepth 100000 in
theorem rz_c3 : (rz_T 3).all (fun e => rz_ok 3 e.1 e.2) = true := by decide +kernel
set_option maxRecDepth 100000 in
theorem rz_c4 : (rz_T 4).all (fun e => rz_ok 4 e.1 e.2) = true := by decide +kernel
set_option maxRecDepth 100000 in
theorem rz_c5 : (rz_T 5).all (fun e => rz_ok 5 e.1 e.2) = true := by decide +kernel
set_option maxRecDepth 100000 in
theorem rz_c6 : (rz_T 6).all (fun e => rz_ok 6 e.1 e.2) = true := by decide +kernel
set_option maxRecDepth 100000 in
theorem rz_c7 : (rz_T 7).all (fun e => rz_ok 7 e.1 e.2) = true := by decide +kernel
set_option maxRecDepth 100000 in
theorem rz_c8 : (rz_T 8).all (fun e => rz_ok 8 e.1 e.2) = true := by decide +kernel
set_option maxRecDepth 100000 in
theorem rz_c9 : (rz_T 9).all (fun e => rz_ok 9 e.1 e.2) = true := by decide +kernel
set_option maxRecDepth 100000 in
theorem rz_c10 : (rz_T 10).all (fun e => rz_ok 10 e.1 e.2) = true := by decide +kernel
set_option maxRecDepth 100000 in
theorem rz_c11 : (rz_T 11).all (fun e => rz_ok 11 e.1 e.2) = true := by decide +kernel
set_option maxRecDepth 100000 in
theorem rz_c12 : (rz_T 12).all (fun e => rz_ok 12 e.1 e.2) = true := by decide +kernel
set_option maxRecDepth 100000 in
theorem rz_c13 : (rz_T 13).all (fun e => rz_ok 13 e.1 e.2) = true := by decide +kernel
set_option maxRecDepth 100000 in
theorem rz_c14 : (rz_T 14).all (fun e => rz_ok 14 e.1 e.2) = true := by decide +kernel
set_option maxRecDepth 100000 in
theorem rz_c15 : (rz_T 15).all (fun e => rz_ok 15 e.1 e.2) = true := by decide +kernel
set_option maxRecDepth 100000 in
theorem rz_c16 : (rz_T 16).all (fun e => rz_ok 16 e.1 e.2) = true := by decide +kernel
set_option maxRecDepth 100000 in
theorem rz_c17 : (rz_T 17).all (fun e => rz_ok 17 e.1 e.2) = true := by decide +kernel
set_option maxRecDepth 100000 in
theorem rz_c18 : (rz_T 18).all (fun e => rz_ok 18 e.1 e.2) = true := by decide +kernel
set_option maxRecDepth 100000 in
theorem rz_c19 : (rz_T 19).all (fun e => rz_ok 19 e.1 e.2) = true := by decide +kernel
set_option maxRecDepth 100000 in
theorem rz_c20 : (rz_T 20).all (fun e => rz_ok 20 e.1 e.2) = true := by decide +kernel
set_option maxRecDepth 100000 in
theorem rz_c21 : (rz_T 21).all (fun e => rz_ok 21 e.1 e.2) = true := by decide +kernel
set_option maxRecDepth 100000 in
theorem rz_c22 : (rz_T 22).all (fun e => rz_ok 22 e.1 e.2) = true := by decide +kernel
set_option maxRecDepth 100000 in
theorem rz_c23 : (rz_T 23).all (fun e => rz_ok 23 e.1 e.2) = true := by decide +kernel
set_option maxRecDepth 100000 in
theorem rz_c24 : (rz_T 24).all (fun e => rz_ok 24 e.1 e.2) = true := by decide +kernel
set_option maxRecDepth 100000 in
theorem rz_c25 : (rz_T 25).all (fun e => rz_ok 25 e.1 e.2) = true := by decide +kernel
set_option maxRecDepth 100000 in
theorem rz_c26 : (rz_T 26).all (fun e => rz_ok 26 e.1 e.2) = true := by decide +kernel
set_option maxRecDepth 100000 in
theorem rz_c27 : (rz_T 27).all (fun e => rz_ok 27 e.1 e.2) = true := by decide +kernel
set_option maxRecDepth 100000 in
theorem rz_c28 : (rz_T 28).all (fun e => rz_ok 28 e.1 e.2) = true := by decide +kernel
set_option maxRecDepth 100000 in
theorem rz_c29 : (rz_T 29).all (fun e => rz_ok 29 e.1 e.2) = true := by decide +kernel
set_option maxRecDepth 100000 in
theorem rz_c30 : (rz_T 30).all (fun e => rz_ok 30 e.1 e.2) = true := by decide +kernel
set_option maxRecDepth 100000 in
theorem rz_c31 : (rz_T 31).all (fun e => rz_ok 31 e.1 e.2) = true := by decide +kernel
set_option maxRecDepth 100000 in
theorem rz_c32 : (rz_T 32).all (fun e => rz_ok 32 e.1 e.2) = true := by decide +kernel
set_option maxRecDepth 100000 in
theorem rz_c33 : (rz_T 33).all (fun e => rz_ok 33 e.1 e.2) = true := by decide +kernel
set_option maxRecDepth 100000 in
theorem rz_c34 : (rz_T 34).all (fun e => rz_ok 34 e.1 e.2) = true := by decide +kernel
set_option maxRecDepth 100000 in
theorem rz_c35 : (rz_T 35).all (fun e => rz_ok 35 e.1 e.2) = true := by decide +kernel
set_option maxRecDepth 100000 in
theorem rz_c36 : (rz_T 36).all (fun e => rz_ok 36 e.1 e.2) = true := by decide +kernel
set_option maxRecDepth 100000 in
theorem rz_c37 : (rz_T 37).all (fun e => rz_ok 37 e.1 e.2) = true := by decide +kernel
set_option maxRecDepth 100000 in
theorem rz_c38 : (rz_T 38).all (fun e => rz_ok 38 e.1 e.2) = true := by decide +kernel
set_option maxRecDepth 100000 in
theorem rz_c39 : (rz_T 39).all (fun e => rz_ok 39 e.1 e.2) = true := by decide +kernel
set_option maxRecDepth 100000 in
theorem rz_c40 : (rz_T 40).all (fun e => rz_ok 40 e.1 e.2) = true := by decide +kernel
set_option maxRecDepth 100000 in
theorem rz_c41 : (rz_T 41).all (fun e => rz_ok 41 e.1 e.2) = true := by decide +kernel
set_option maxRecDepth 100000 in
theorem rz_c42 : (rz_T 42).all (fun e => rz_ok 42 e.1 e.2) = true := by decide +kernel
set_option maxRecDepth 100000 in
theorem rz_c43 : (rz_T 43).all (fun e => rz_ok 43 e.1 e.2) = true := by decide +kernel
set_option maxRecDepth 100000 in
theorem rz_c44 : (rz_T 44).all (fun e => rz_ok 44 e.1 e.2) = true := by decide +kernel
set_option maxRecDepth 100000 in
theorem rz_c45 : (rz_T 45).all (fun e => rz_ok 45 e.1 e.2) = true := by decide +kernel
set_option maxRecDepth 100000 in
theorem rz_c46 : (rz_T 46).all (fun e => rz_ok 46 e.1 e.2) = true := by decide +kernel
set_option maxRecDepth 100000 in
theorem rz_c47 : (rz_T 47).all (fun e => rz_ok 47 e.1 e.2) = true := by decide +kernel
set_option maxRecDepth 100000 in
theorem rz_c48 : (rz_T 48).all (fun e => rz_ok 48 e.1 e.2) = true := by decide +kernel
set_option maxRecDepth 100000 in
theorem rz_c49 : (rz_T 49).all (fun e => rz_ok 49 e.1 e.2) = true := by decide +kernel
set_option maxRecDepth 100000 in
theorem rz_c50 : (rz_T 50).all (fun e => rz_ok 50 e.1 e.2) = true := by decide +kernel
set_option maxRecDepth 100000 in
theorem rz_c51 : (rz_T 51).all (fun e => rz_ok 51 e.1 e.2) = true := by decide +kernel
set_option maxRecDepth 100000 in
theorem rz_c52 : (rz_T 52).all (fun e => rz_ok 52 e.1 e.2) = true := by decide +kernel
set_option maxRecDepth 100000 in
theorem rz_c53 : (rz_T 53).all (fun e => rz_ok 53 e.1 e.2) = true := by decide +kernel
set_option maxRecDepth 100000 in
theorem rz_c54 : (rz_T 54).all (fun e => rz_ok 54 e.1 e.2) = true := by decide +kernel
set_option maxRecDepth 100000 in
theorem rz_c55 : (rz_T 55).all (fun e => rz_ok 55 e.1 e.2) = true := by decide +kernel
set_option maxRecDepth 100000 in
theorem rz_c56 : (rz_T 56).all (fun e => rz_ok 56 e.1 e.2) = true := by decide +kernel
set_option maxRecDepth 100000 in
theorem rz_c57 : (rz_T 57).all (fun e => rz_ok 57 e.1 e.2) = true := by decide +kernel
set_option maxRecDepth 100000 in
theorem rz_c58 : (rz_T 58).all (fun e => rz_ok 58 e.1 e.2) = true := by decide +kernel
set_option maxRecDepth 100000 in
theorem rz_c59 : (rz_T 59).all (fun e => rz_ok 59 e.1 e.2) = true := by decide +kernel
set_option maxRecDepth 100000 in
theorem rz_c60 : (rz_T 60).all (fun e => rz_ok 60 e.1 e.2) = true := by decide +kernel
set_option maxRecDepth 100000 in
theorem rz_c61 : (rz_T 61).all (fun e => rz_ok 61 e.1 e.2) = true := by decide +kernel
set_option maxRecDepth 100000 in
theorem rz_c62 : (rz_T 62).all (fun e => rz_ok 62 e.1 e.2) = true := by decide +kernel
set_option maxRecDepth 100000 in
theorem rz_c63 : (rz_T 63).all (fun e => rz_ok 63 e.1 e.2) = true := by decide +kernel
set_option maxRecDepth 100000 in
theorem rz_c64 : (rz_T 64).all (fun e => rz_ok 64 e.1 e.2) = true := by decide +kernel
set_option maxRecDepth 100000 in
theorem rz_c65 : (rz_T 65).all (fun e => rz_ok 65 e.1 e.2) = true := by decide +kernel
set_option maxRecDepth 100000 in
theorem rz_c66 : (rz_T 66).all (fun e => rz_ok 66 e.1 e.2) = true := by decide +kernel
set_option maxRecDepth 100000 in
theorem rz_c67 : (rz_T 67).all (fun e => rz_ok 67 e.1 e.2) = true := by decide +kernel
set_option maxRecDepth 100000 in
theorem rz_c68 : (rz_T 68).all (fun e => rz_ok 68 e.1 e.2) = true := by decide +kernel
set_option maxRecDepth 100000 in
theorem rz_c69 : (rz_T 69).all (fun e => rz_ok 69 e.1 e.2) = true := by decide +kernel
set_option maxRecDepth 100000 in
theorem rz_c70 : (rz_T 70).all (fun e => rz_ok 70 e.1 e.2) = true := by decide +kernel
set_option maxRecDepth 100000 in
theorem rz_c71 : (rz_T 71).all (fun e => rz_ok 71 e.1 e.2) = true := by decide +kernel
set_option maxRecDepth 100000 in
theorem rz_c72 : (rz_T 72).all (fun e => rz_ok 72 e.1 e.2) = true := by decide +kernel
set_option maxRecDepth 100000 in
theorem rz_c73 : (rz_T 73).all (fun e => rz_ok 73 e.1 e.2) = true := by decide +kernel
set_option maxRecDepth 100000 in
theorem rz_c74 : (rz_T 74).all (fun e => rz_ok 74 e.1 e.2) = true := by decide +kernel
set_option maxRecDepth 100000 in
theorem rz_c75 : (rz_T 75).all (fun e => rz_ok 75 e.1 e.2) = true := by decide +kernel
set_option maxRecDepth 100000 in
theorem rz_c76 : (rz_T 76).all (fun e => rz_ok 76 e.1 e.2) = true := by decide +kernel
set_option maxRecDepth 100000 in
theorem rz_c77 : (rz_T 77).all (fun e => rz_ok 77 e.1 e.2) = true := by decide +kernel
set_option maxRecDepth 100000 in
theorem rz_c78 : (rz_T 78).all (fun e => rz_ok 78 e.1 e.2) = true := by decide +kernel
set_option maxRecDepth 100000 in
theorem rz_c79 : (rz_T 79).all (fun e => rz_ok 79 e.1 e.2) = true := by decide +kernel
set_option maxRecDepth 100000 in
theorem rz_c80 : (rz_T 80).all (fun e => rz_ok 80 e.1 e.2) = true := by decide +kernel
set_option maxRecDepth 100000 in
theorem rz_c81 : (rz_T 81).all (fun e => rz_ok 81 e.1 e.2) = true := by decide +kernel
set_option maxRecDepth 100000 in
theorem rz_c82 : (rz_T 82).all (fun e => rz_ok 82 e.1 e.2) = true := by decide +kernel
set_option maxRecDepth 100000 in
theorem rz_c83 : (rz_T 83).all (fun e => rz_ok 83 e.1 e.2) = true := by decide +kernel
set_option maxRecDepth 100000 in
theorem rz_c84 : (rz_T 84).all (fun e => rz_ok 84 e.1 e.2) = true := by decide +kernel
set_option maxRecDepth 100000 in
theorem rz_c85 : (rz_T 85).all (fun e => rz_ok 85 e.1 e.2) = true := by decide +kernel
set_option maxRecDepth 100000 in
theorem rz_c86 : (rz_T 86).all (fun e => rz_ok 86 e.1 e.2) = true := by decide +kernel
set_option maxRecDepth 100000 in
theorem rz_c87 : (rz_T 87).all (fun e => rz_ok 87 e.1 e.2) = true := by decide +kernel
set_option maxRecDepth 100000 in
theorem rz_c88 : (rz_T 88).all (fun e => rz_ok 88 e.1 e.2) = true := by decide +kernel
set_option maxRecDepth 100000 in
theorem rz_c89 : (rz_T 89).all (fun e => rz_ok 89 e.1 e.2) = true := by decide +kernel
set_option maxRecDepth 100000 in
theorem rz_c90 : (rz_T 90).all (fun e => rz_ok 90 e.1 e.2) = true := by decide +kernel
set_option maxRecDepth 100000 in
theorem rz_c91 : (rz_T 91).all (fun e => rz_ok 91 e.1 e.2) = true := by decide +kernel
set_option maxRecDepth 100000 in
theorem rz_c92 : (rz_T 92).all (fun e => rz_ok 92 e.1 e.2) = true := by decide +kernel
set_option maxRecDepth 100000 in
theorem rz_c93 : (rz_T 93).all (fun e => rz_ok 93 e.1 e.2) = true := by decide +kernel
set_option maxRecDepth 100000 in
theorem rz_c94 : (rz_T 94).all (fun e => rz_ok 94 e.1 e.2) = true := by decide +kernel
set_option maxRecDepth 100000 in
theorem rz_c95 : (rz_T 95).all (fun e => rz_ok 95 e.1 e.2) = true := by decide +kernel
set_option maxRecDepth 100000 in
theorem rz_c96 : (rz_T 96).all (fun e => rz_ok 96 e.1 e.2) = true := by decide +kernel
set_option maxRecDepth 100000 in
theorem rz_c97 : (rz_T 97).all (fun e => rz_ok 97 e.1 e.2) = true := by decide +kernel
set_option maxRecDepth 100000 in
theorem rz_c98 : (rz_T 98).all (fun e => rz_ok 98 e.1 e.2) = true := by decide +kernel
set_option maxRecDepth 100000 in
theorem rz_c99 : (rz_T 99).all (fun e => rz_ok 99 e.1 e.2) = true := by decide +kernel
set_option maxRecDepth 100000 in
theorem rz_c100 : (rz_T 100).all (fun e => rz_ok 100 e.1 e.2) = true := by decide +kernel
set_option maxRecDepth 100000 in
theorem rz_c101 : (rz_T 101).all (fun e => rz_ok 101 e.1 e.2) = true := by decide +kernel
set_option maxRecDepth 100000 in
theorem rz_c102 : (rz_T 102).all (fun e => rz_ok 102 e.1 e.2) = true := by decide +kernel
set_option maxRecDepth 100000 in
theorem rz_c103 : (rz_T 103).all (fun e => rz_ok 103 e.1 e.2) = true := by decide +kernel
set_option maxRecDepth 100000 in
theorem rz_c104 : (rz_T 104).all (fun e => rz_ok 104 e.1 e.2) = true := by decide +kernel
set_option maxRecDepth 100000 in
theorem rz_c105 : (rz_T 105).all (fun e => rz_ok 105 e.1 e.2) = true := by decide +kernel
set_option maxRecDepth 100000 in
theorem rz_c106 : (rz_T 106).all (fun e => rz_ok 106 e.1 e.2) = true := by decide +kernel
set_option maxRecDepth 100000 in
theorem rz_c107 : (rz_T 107).all (fun e => rz_ok 107 e.1 e.2) = true := by decide +kernel
set_option maxRecDepth 100000 in
theorem rz_c108 : (rz_T 108).all (fun e => rz_ok 108 e.1 e.2) = true := by decide +kernel
set_option maxRecDepth 100000 in
theorem rz_c109 : (rz_T 109).all (fun e => rz_ok 109 e.1 e.2) = true := by decide +kernel
set_option maxRecDepth 100000 in
theorem rz_c110 : (rz_T 110).all (fun e => rz_ok 110 e.1 e.2) = true := by decide +kernel
set_option maxRecDepth 100000 in
theorem rz_c111 : (rz_T 111).all (fun e => rz_ok 111 e.1 e.2) = true := by decide +kernel
end
section
def rz_mok (M : Nat) : Bool :=
  (match rz_hd M with
    | [] => rz_wd (rz_MH M).1 (.code (rz_y M) (rz_by M) (rz_mL M) (rz_rt M))
    | h :: hs => rz_wd (rz_MH M).1 (.codeWith (rz_y M) (rz_by M) (rz_mL M) (rz_rt M) (h :: hs))) &&
  (if rz_st M = true then rz_wd (rz_MH M).2.1 (.static (rz_y M)) && decide ((parseMethodDescriptor (rz_y M).desc).map (fun d => d.parameters.length) = some (rz_na M)) else rz_wd (rz_MH M).2.1 (.instanceMethod (rz_y M)) && rz_wd (rz_MH M).2.2.1 (.selects (rz_y M).cls (rz_y M) (rz_y M)) && decide ((rz_cl[rz_rc M]?).map (fun q => q.1) = some (rz_y M).cls) && decide ((parseMethodDescriptor (rz_y M).desc).map (fun d => d.parameters.length + 1) = some (rz_na M))) &&
  rz_wd (rz_MH M).2.2.2 (.initialized (rz_y M).cls) && decide ((rz_y M).cls ≠ "java/lang/invoke/MethodHandle") && decide ((rz_y M).cls ≠ "java/lang/invoke/VarHandle") && Jvm.plainName (rz_y M).cls && decide (rz_na M ≤ rz_mL M) && decide ((rz_hd M).length = (rz_hk M).length)
set_option maxRecDepth 100000 in
theorem rz_m1 : rz_mok 1 = true := by decide +kernel
set_option maxRecDepth 100000 in
theorem rz_m2 : rz_mok 2 = true := by decide +kernel
set_option maxRecDepth 100000 in
theorem rz_m3 : rz_mok 3 = true := by decide +kernel
set_option maxRecDepth 100000 in
theorem rz_m4 : rz_mok 4 = true := by decide +kernel
set_option maxRecDepth 100000 in
theorem rz_m5 : rz_mok 5 = true := by decide +kernel
set_option maxRecDepth 100000 in
theorem rz_m6 : rz_mok 6 = true := by decide +kernel
set_option maxRecDepth 100000 in
theorem rz_m7 : rz_mok 7 = true := by decide +kernel
set_option maxRecDepth 100000 in
theorem rz_m8 : rz_mok 8 = true := by decide +kernel
set_option maxRecDepth 100000 in
theorem rz_m9 : rz_mok 9 = true := by decide +kernel
set_option maxRecDepth 100000 in
theorem rz_m10 : rz_mok 10 = true := by decide +kernel
set_option maxRecDepth 100000 in
theorem rz_m11 : rz_mok 11 = true := by decide +kernel
set_option maxRecDepth 100000 in
theorem rz_m12 : rz_mok 12 = true := by decide +kernel
set_option maxRecDepth 100000 in
theorem rz_m13 : rz_mok 13 = true := by decide +kernel
set_option maxRecDepth 100000 in
theorem rz_m14 : rz_mok 14 = true := by decide +kernel
set_option maxRecDepth 100000 in
theorem rz_m15 : rz_mok 15 = true := by decide +kernel
set_option maxRecDepth 100000 in
theorem rz_m16 : rz_mok 16 = true := by decide +kernel
set_option maxRecDepth 100000 in
theorem rz_m17 : rz_mok 17 = true := by decide +kernel
set_option maxRecDepth 100000 in
theorem rz_m18 : rz_mok 18 = true := by decide +kernel
set_option maxRecDepth 100000 in
theorem rz_m19 : rz_mok 19 = true := by decide +kernel
set_option maxRecDepth 100000 in
theorem rz_m20 : rz_mok 20 = true := by decide +kernel
set_option maxRecDepth 100000 in
theorem rz_m21 : rz_mok 21 = true := by decide +kernel
set_option maxRecDepth 100000 in
theorem rz_m22 : rz_mok 22 = true := by decide +kernel
set_option maxRecDepth 100000 in
theorem rz_m23 : rz_mok 23 = true := by decide +kernel
set_option maxRecDepth 100000 in
theorem rz_m24 : rz_mok 24 = true := by decide +kernel
set_option maxRecDepth 100000 in
theorem rz_m25 : rz_mok 25 = true := by decide +kernel
set_option maxRecDepth 100000 in
theorem rz_m26 : rz_mok 26 = true := by decide +kernel
set_option maxRecDepth 100000 in
theorem rz_m27 : rz_mok 27 = true := by decide +kernel
set_option maxRecDepth 100000 in
theorem rz_m28 : rz_mok 28 = true := by decide +kernel
set_option maxRecDepth 100000 in
theorem rz_m29 : rz_mok 29 = true := by decide +kernel
set_option maxRecDepth 100000 in
theorem rz_m30 : rz_mok 30 = true := by decide +kernel
set_option maxRecDepth 100000 in
theorem rz_m31 : rz_mok 31 = true := by decide +kernel
set_option maxRecDepth 100000 in
theorem rz_m32 : rz_mok 32 = true := by decide +kernel
set_option maxRecDepth 100000 in
theorem rz_m33 : rz_mok 33 = true := by decide +kernel
set_option maxRecDepth 100000 in
theorem rz_m34 : rz_mok 34 = true := by decide +kernel
set_option maxRecDepth 100000 in
theorem rz_m35 : rz_mok 35 = true := by decide +kernel
set_option maxRecDepth 100000 in
theorem rz_m36 : rz_mok 36 = true := by decide +kernel
set_option maxRecDepth 100000 in
theorem rz_m37 : rz_mok 37 = true := by decide +kernel
set_option maxRecDepth 100000 in
theorem rz_m38 : rz_mok 38 = true := by decide +kernel
set_option maxRecDepth 100000 in
theorem rz_m39 : rz_mok 39 = true := by decide +kernel
set_option maxRecDepth 100000 in
theorem rz_m40 : rz_mok 40 = true := by decide +kernel
set_option maxRecDepth 100000 in
theorem rz_m41 : rz_mok 41 = true := by decide +kernel
set_option maxRecDepth 100000 in
theorem rz_m42 : rz_mok 42 = true := by decide +kernel
set_option maxRecDepth 100000 in
theorem rz_m43 : rz_mok 43 = true := by decide +kernel
set_option maxRecDepth 100000 in
theorem rz_m44 : rz_mok 44 = true := by decide +kernel
set_option maxRecDepth 100000 in
theorem rz_m45 : rz_mok 45 = true := by decide +kernel
set_option maxRecDepth 100000 in
theorem rz_m46 : rz_mok 46 = true := by decide +kernel
set_option maxRecDepth 100000 in
theorem rz_m47 : rz_mok 47 = true := by decide +kernel
set_option maxRecDepth 100000 in
theorem rz_m48 : rz_mok 48 = true := by decide +kernel
set_option maxRecDepth 100000 in
theorem rz_m49 : rz_mok 49 = true := by decide +kernel
set_option maxRecDepth 100000 in
theorem rz_m50 : rz_mok 50 = true := by decide +kernel
set_option maxRecDepth 100000 in
theorem rz_m51 : rz_mok 51 = true := by decide +kernel
set_option maxRecDepth 100000 in
theorem rz_m52 : rz_mok 52 = true := by decide +kernel
set_option maxRecDepth 100000 in
theorem rz_m53 : rz_mok 53 = true := by decide +kernel
set_option maxRecDepth 100000 in
theorem rz_m54 : rz_mok 54 = true := by decide +kernel
set_option maxRecDepth 100000 in
theorem rz_m55 : rz_mok 55 = true := by decide +kernel
set_option maxRecDepth 100000 in
theorem rz_m56 : rz_mok 56 = true := by decide +kernel
set_option maxRecDepth 100000 in
theorem rz_m57 : rz_mok 57 = true := by decide +kernel
set_option maxRecDepth 100000 in
theorem rz_m58 : rz_mok 58 = true := by decide +kernel
set_option maxRecDepth 100000 in
theorem rz_m59 : rz_mok 59 = true := by decide +kernel
set_option maxRecDepth 100000 in
theorem rz_m60 : rz_mok 60 = true := by decide +kernel
set_option maxRecDepth 100000 in
theorem rz_m61 : rz_mok 61 = true := by decide +kernel
set_option maxRecDepth 100000 in
theorem rz_m62 : rz_mok 62 = true := by decide +kernel
set_option maxRecDepth 100000 in
theorem rz_m63 : rz_mok 63 = true := by decide +kernel
set_option maxRecDepth 100000 in
theorem rz_m64 : rz_mok 64 = true := by decide +kernel
set_option maxRecDepth 100000 in
theorem rz_m65 : rz_mok 65 = true := by decide +kernel
set_option maxRecDepth 100000 in
theorem rz_m66 : rz_mok 66 = true := by decide +kernel
set_option maxRecDepth 100000 in
theorem rz_m67 : rz_mok 67 = true := by decide +kernel
set_option maxRecDepth 100000 in
theorem rz_m68 : rz_mok 68 = true := by decide +kernel
set_option maxRecDepth 100000 in
theorem rz_m69 : rz_mok 69 = true := by decide +kernel
set_option maxRecDepth 100000 in
theorem rz_m70 : rz_mok 70 = true := by decide +kernel
set_option maxRecDepth 100000 in
theorem rz_m71 : rz_mok 71 = true := by decide +kernel
set_option maxRecDepth 100000 in
theorem rz_m72 : rz_mok 72 = true := by decide +kernel
set_option maxRecDepth 100000 in
theorem rz_m73 : rz_mok 73 = true := by decide +kernel
set_option maxRecDepth 100000 in
theorem rz_m74 : rz_mok 74 = true := by decide +kernel
set_option maxRecDepth 100000 in
theorem rz_m75 : rz_mok 75 = true := by decide +kernel
set_option maxRecDepth 100000 in
theorem rz_m76 : rz_mok 76 = true := by decide +kernel
set_option maxRecDepth 100000 in
theorem rz_m77 : rz_mok 77 = true := by decide +kernel
set_option maxRecDepth 100000 in
theorem rz_m78 : rz_mok 78 = true := by decide +kernel
set_option maxRecDepth 100000 in
theorem rz_m79 : rz_mok 79 = true := by decide +kernel
set_option maxRecDepth 100000 in
theorem rz_m80 : rz_mok 80 = true := by decide +kernel
set_option maxRecDepth 100000 in
theorem rz_m81 : rz_mok 81 = true := by decide +kernel
set_option maxRecDepth 100000 in
theorem rz_m82 : rz_mok 82 = true := by decide +kernel
set_option maxRecDepth 100000 in
theorem rz_m83 : rz_mok 83 = true := by decide +kernel
set_option maxRecDepth 100000 in
theorem rz_m84 : rz_mok 84 = true := by decide +kernel
set_option maxRecDepth 100000 in
theorem rz_m85 : rz_mok 85 = true := by decide +kernel
set_option maxRecDepth 100000 in
theorem rz_m86 : rz_mok 86 = true := by decide +kernel
set_option maxRecDepth 100000 in
theorem rz_m87 : rz_mok 87 = true := by decide +kernel
set_option maxRecDepth 100000 in
theorem rz_m88 : rz_mok 88 = true := by decide +kernel
set_option maxRecDepth 100000 in
theorem rz_m89 : rz_mok 89 = true := by decide +kernel
set_option maxRecDepth 100000 in
theorem rz_m90 : rz_mok 90 = true := by decide +kernel
set_option maxRecDepth 100000 in
theorem rz_m91 : rz_mok 91 = true := by decide +kernel
set_option maxRecDepth 100000 in
theorem rz_m92 : rz_mok 92 = true := by decide +kernel
set_option maxRecDepth 100000 in
theorem rz_m93 : rz_mok 93 = true := by decide +kernel
set_option maxRecDepth 100000 in
theorem rz_m94 : rz_mok 94 = true := by decide +kernel
set_option maxRecDepth 100000 in
theorem rz_m95 : rz_mok 95 = true := by decide +kernel
set_option maxRecDepth 100000 in
theorem rz_m96 : rz_mok 96 = true := by decide +kernel
set_option maxRecDepth 100000 in
theorem rz_m97 : rz_mok 97 = true := by decide +kernel
set_option maxRecDepth 100000 in
theorem rz_m98 : rz_mok 98 = true := by decide +kernel
set_option maxRecDepth 100000 in
theorem rz_m99 : rz_mok 99 = true := by decide +kernel
set_option maxRecDepth 100000 in
theorem rz_m100 : rz_mok 100 = true := by decide +kernel
set_option maxRecDepth 100000 in
theorem rz_m101 : rz_mok 101 = true := by decide +kernel
set_option maxRecDepth 100000 in
theorem rz_m102 : rz_mok 102 = true := by decide +kernel
set_option maxRecDepth 100000 in
theorem rz_m103 : rz_mok 103 = true := by decide +kernel
set_option maxRecDepth 100000 in
theorem rz_m104 : rz_mok 104 = true := by decide +kernel
set_option maxRecDepth 100000 in
theorem rz_m105 : rz_mok 105 = true := by decide +kernel
set_option maxRecDepth 100000 in
theorem rz_m106 : rz_mok 106 = true := by decide +kernel
set_option maxRecDepth 100000 in
theorem rz_m107 : rz_mok 107 = true := by decide +kernel
set_option maxRecDepth 100000 in
theorem rz_m108 : rz_mok 108 = true := by decide +kernel
set_option maxRecDepth 100000 in
theorem rz_m109 : rz_mok 109 = true := by decide +kernel
set_option maxRecDepth 100000 in
theorem rz_m110 : rz_mok 110 = true := by decide +kernel
set_option maxRecDepth 100000 in
theorem rz_m111 : rz_mok 111 = true := by decide +kernel
theorem rz_mok_of {M : Nat} (h0 : 0 < M) (h1 : M < 112) : rz_mok M = true := match M, h0, h1 with
  | 0, h0, _ => absurd h0 (by decide)
  | 1, _, _ => rz_m1
  | 2, _, _ => rz_m2
  | 3, _, _ => rz_m3
  | 4, _, _ => rz_m4
  | 5, _, _ => rz_m5
  | 6, _, _ => rz_m6
  | 7, _, _ => rz_m7
  | 8, _, _ => rz_m8
  | 9, _, _ => rz_m9
  | 10, _, _ => rz_m10
  | 11, _, _ => rz_m11
  | 12, _, _ => rz_m12
  | 13, _, _ => rz_m13
  | 14, _, _ => rz_m14
  | 15, _, _ => rz_m15
  | 16, _, _ => rz_m16
  | 17, _, _ => rz_m17
  | 18, _, _ => rz_m18
  | 19, _, _ => rz_m19
  | 20, _, _ => rz_m20
  | 21, _, _ => rz_m21
  | 22, _, _ => rz_m22
  | 23, _, _ => rz_m23
  | 24, _, _ => rz_m24
  | 25, _, _ => rz_m25
  | 26, _, _ => rz_m26
  | 27, _, _ => rz_m27
  | 28, _, _ => rz_m28
  | 29, _, _ => rz_m29
  | 30, _, _ => rz_m30
  | 31, _, _ => rz_m31
  | 32, _, _ => rz_m32
  | 33, _, _ => rz_m33
  | 34, _, _ => rz_m34
  | 35, _, _ => rz_m35
  | 36, _, _ => rz_m36
  | 37, _, _ => rz_m37
  | 38, _, _ => rz_m38
  | 39, _, _ => rz_m39
  | 40, _, _ => rz_m40
  | 41, _, _ => rz_m41
  | 42, _, _ => rz_m42
  | 43, _, _ => rz_m43
  | 44, _, _ => rz_m44
  | 45, _, _ => rz_m45
  | 46, _, _ => rz_m46
  | 47, _, _ => rz_m47
  | 48, _, _ => rz_m48
  | 49, _, _ => rz_m49
  | 50, _, _ => rz_m50
  | 51, _, _ => rz_m51
  | 52, _, _ => rz_m52
  | 53, _, _ => rz_m53
  | 54, _, _ => rz_m54
  | 55, _, _ => rz_m55
  | 56, _, _ => rz_m56
  | 57, _, _ => rz_m57
  | 58, _, _ => rz_m58
  | 59, _, _ => rz_m59
  | 60, _, _ => rz_m60
  | 61, _, _ => rz_m61
  | 62, _, _ => rz_m62
  | 63, _, _ => rz_m63
  | 64, _, _ => rz_m64
  | 65, _, _ => rz_m65
  | 66, _, _ => rz_m66
  | 67, _, _ => rz_m67
  | 68, _, _ => rz_m68
  | 69, _, _ => rz_m69
  | 70, _, _ => rz_m70
  | 71, _, _ => rz_m71
  | 72, _, _ => rz_m72
  | 73, _, _ => rz_m73
  | 74, _, _ => rz_m74
  | 75, _, _ => rz_m75
  | 76, _, _ => rz_m76
  | 77, _, _ => rz_m77
  | 78, _, _ => rz_m78
  | 79, _, _ => rz_m79
  | 80, _, _ => rz_m80
  | 81, _, _ => rz_m81
  | 82, _, _ => rz_m82
  | 83, _, _ => rz_m83
  | 84, _, _ => rz_m84
  | 85, _, _ => rz_m85
  | 86, _, _ => rz_m86
  | 87, _, _ => rz_m87
  | 88, _, _ => rz_m88
  | 89, _, _ => rz_m89
  | 90, _, _ => rz_m90
  | 91, _, _ => rz_m91
  | 92, _, _ => rz_m92
  | 93, _, _ => rz_m93
  | 94, _, _ => rz_m94
  | 95, _, _ => rz_m95
  | 96, _, _ => rz_m96
  | 97, _, _ => rz_m97
  | 98, _, _ => rz_m98
  | 99, _, _ => rz_m99
  | 100, _, _ => rz_m100
  | 101, _, _ => rz_m101
  | 102, _, _ => rz_m102
  | 103, _, _ => rz_m103
  | 104, _, _ => rz_m104
  | 105, _, _ => rz_m105
  | 106, _, _ => rz_m106
  | 107, _, _ => rz_m107
  | 108, _, _ => rz_m108
  | 109, _, _ => rz_m109
  | 110, _, _ => rz_m110
  | 111, _, _ => rz_m111
  | _ + 112, _, h1 => absurd h1 (by omega)
def rz_tw : List Cond := lw_tbl.filter goodWord
theorem rz_use {w : Cond} (h : w ∈ lw_tbl) (hg : goodWord w = true) : w ∈ rz_tw := List.mem_filter.mpr ⟨h, hg⟩
set_option maxRecDepth 100000 in
theorem rz_clw : rz_cl.all (fun q => (u_ws q.1 q.2.1 q.2.2).all (fun w => decide (w ∈ lw_tbl) && goodWord w)) = true := by decide +kernel
theorem rz_clw_of {ci : Nat} {C : String} {T : u_T} {N : Nat} (h : rz_cl[ci]? = some (C, T, N)) : ∀ w ∈ u_ws C T N, w ∈ rz_tw := fun w hw => by
  have h1 := List.all_eq_true.mp (List.all_eq_true.mp rz_clw (C, T, N) (List.mem_of_getElem? h)) w hw
  simp only [Bool.and_eq_true, decide_eq_true_eq] at h1
  exact rz_use h1.1 h1.2
theorem rz_cty : (List.range 8).all (fun ci => match rz_cl[ci]? with
  | some (_, T, N) => (List.range N).all (fun k => decide (parseFieldDescriptor (T k).2.2.1 = some (rz_fty ci k)))
  | none => false) = true := by decide +kernel
theorem rz_cty_of {ci : Nat} {C : String} {T : u_T} {N : Nat} (h : rz_cl[ci]? = some (C, T, N)) : ∀ k, k < N → parseFieldDescriptor (T k).2.2.1 = some (rz_fty ci k) := fun k hk => by
  have hlt : ci < 8 := (List.getElem?_eq_some_iff.mp h).1
  have h1 := List.all_eq_true.mp rz_cty ci (List.mem_range.mpr hlt)
  rw [h] at h1
  exact of_decide_eq_true (List.all_eq_true.mp h1 k (List.mem_range.mpr hk))
theorem rz_cnm : rz_cl.all (fun q => (List.range q.2.2).all (fun a => (List.range q.2.2).all (fun b => decide (a ≠ b → (q.2.1 a).2.1 ≠ (q.2.1 b).2.1)))) = true := by decide +kernel
theorem rz_cnm_of {ci : Nat} {C : String} {T : u_T} {N : Nat} (h : rz_cl[ci]? = some (C, T, N)) : ∀ a, a < N → ∀ b, b < N → a ≠ b → (T a).2.1 ≠ (T b).2.1 := fun a ha b hb =>
  of_decide_eq_true (List.all_eq_true.mp (List.all_eq_true.mp (List.all_eq_true.mp rz_cnm (C, T, N) (List.mem_of_getElem? h)) a (List.mem_range.mpr ha)) b (List.mem_range.mpr hb))
theorem rz_allT (M : Nat) : (rz_T M).all (fun e => rz_ok M e.1 e.2) = true := match M with
  | 0 => rz_c0
  | 1 => rz_c1
  | 2 => rz_c2
  | 3 => rz_c3
  | 4 => rz_c4
  | 5 => rz_c5
  | 6 => rz_c6
  | 7 => rz_c7
  | 8 => rz_c8
  | 9 => rz_c9
  | 10 => rz_c10
  | 11 => rz_c11
  | 12 => rz_c12
  | 13 => rz_c13
  | 14 => rz_c14
  | 15 => rz_c15
  | 16 => rz_c16
  | 17 => rz_c17
  | 18 => rz_c18
  | 19 => rz_c19
  | 20 => rz_c20
  | 21 => rz_c21
  | 22 => rz_c22
  | 23 => rz_c23
  | 24 => rz_c24
  | 25 => rz_c25
  | 26 => rz_c26
  | 27 => rz_c27
  | 28 => rz_c28
  | 29 => rz_c29
  | 30 => rz_c30
  | 31 => rz_c31
  | 32 => rz_c32
  | 33 => rz_c33
  | 34 => rz_c34
  | 35 => rz_c35
  | 36 => rz_c36
  | 37 => rz_c37
  | 38 => rz_c38
  | 39 => rz_c39
  | 40 => rz_c40
  | 41 => rz_c41
  | 42 => rz_c42
  | 43 => rz_c43
  | 44 => rz_c44
  | 45 => rz_c45
  | 46 => rz_c46
  | 47 => rz_c47
  | 48 => rz_c48
  | 49 => rz_c49
  | 50 => rz_c50
  | 51 => rz_c51
  | 52 => rz_c52
  | 53 => rz_c53
  | 54 => rz_c54
  | 55 => rz_c55
  | 56 => rz_c56
  | 57 => rz_c57
  | 58 => rz_c58
  | 59 => rz_c59
  | 60 => rz_c60
  | 61 => rz_c61
  | 62 => rz_c62
  | 63 => rz_c63
  | 64 => rz_c64
  | 65 => rz_c65
  | 66 => rz_c66
  | 67 => rz_c67
  | 68 => rz_c68
  | 69 => rz_c69
  | 70 => rz_c70
  | 71 => rz_c71
  | 72 => rz_c72
  | 73 => rz_c73
  | 74 => rz_c74
  | 75 => rz_c75
  | 76 => rz_c76
  | 77 => rz_c77
  | 78 => rz_c78
  | 79 => rz_c79
  | 80 => rz_c80
  | 81 => rz_c81
  | 82 => rz_c82
  | 83 => rz_c83
  | 84 => rz_c84
  | 85 => rz_c85
  | 86 => rz_c86
  | 87 => rz_c87
  | 88 => rz_c88
  | 89 => rz_c89
  | 90 => rz_c90
  | 91 => rz_c91
  | 92 => rz_c92
  | 93 => rz_c93
  | 94 => rz_c94
  | 95 => rz_c95
  | 96 => rz_c96
  | 97 => rz_c97
  | 98 => rz_c98
  | 99 => rz_c99
  | 100 => rz_c100
  | 101 => rz_c101
  | 102 => rz_c102
  | 103 => rz_c103
  | 104 => rz_c104
  | 105 => rz_c105
  | 106 => rz_c106
  | 107 => rz_c107
  | 108 => rz_c108
  | 109 => rz_c109
  | 110 => rz_c110
  | 111 => rz_c111
  | _ + 112 => rfl
theorem rz_lookup {l : List (Nat × rz_I)} {pc : Nat} {q : rz_I} (h : l.lookup pc = some q) : (pc, q) ∈ l := by
  induction l with
  | nil => cases h
  | cons a t ih =>
    obtain ⟨k, v⟩ := a
    rw [List.lookup_cons] at h
    split at h
    · rename_i hk
      have hk' : pc = k := by simpa using hk
      cases h
      subst hk'
      exact List.mem_cons_self
    · exact List.mem_cons_of_mem _ (ih h)
theorem rz_all {M pc : Nat} {q : rz_I} (h : rz_code M pc = some q) : rz_ok M pc q = true :=
  List.all_eq_true.mp (rz_allT M) (pc, q) (rz_lookup h)
theorem rz_lt {M pc : Nat} {q : rz_I} (h : rz_code M pc = some q) : M < 112 := by
  by_cases hM : M < 112
  · exact hM
  · obtain ⟨k, rfl⟩ : ∃ k, M = k + 112 := ⟨M - 112, by omega⟩
    exact absurd (show (none : Option rz_I) = some q from h) (by simp)

theorem rz_fx1 : Cond.code Lib.Math.min.name Lib.Math.min.code 2 (some .int) ∈ lw_tbl := List.mem_of_getElem? (i := 245) (by decide +kernel)
theorem rz_fx2 : Cond.static Lib.Math.min.name ∈ lw_tbl := List.mem_of_getElem? (i := 244) (by decide +kernel)
theorem rz_fx3 : Cond.initialized "java/lang/Math" ∈ lw_tbl := List.mem_of_getElem? (i := 46) (by decide +kernel)
theorem rz_fx4 : Cond.native arraycopyName ∈ lw_tbl := List.mem_of_getElem? (i := 552) (by decide +kernel)
theorem rz_fx5 : Cond.static arraycopyName ∈ lw_tbl := List.mem_of_getElem? (i := 551) (by decide +kernel)
theorem rz_fx6 : Cond.initialized "java/lang/System" ∈ lw_tbl := List.mem_of_getElem? (i := 44) (by decide +kernel)
theorem rz_sye : rz_sy = arraycopyName := rfl
end
section
/-! how a state of the abstract machine lies in the machine's -/
def rz_v (ad : Nat → Nat) (v : Value) : Value := match v with
  | .ref i => .ref (ad i)
  | .int x => .int x
  | .long x => .long x
  | .float x => .float x
  | .double x => .double x
  | .null => .null
  | .retAddr x => .retAddr x
theorem rz_v_cat (ad : Nat → Nat) (v : Value) : (rz_v ad v).category = v.category := by cases v <;> rfl
def rz_e (cI cJ : ClassId) (ad : Nat → Nat) (c : va_E) : va_E := match c with
  | .inl q => .inl (if q.1 = 0 then cI else cJ, q.2)
  | .inr q => .inr (q.1, q.2.map (rz_v ad))
def rz_ws (cI cJ : ClassId) (ad : Nat → Nat) (w : rz_W) : va_W := w.mapIdx (fun i c => (ad i, rz_e cI cJ ad c))
theorem rz_ws_get {cI cJ : ClassId} {ad : Nat → Nat} {w : rz_W} {i : Nat} {c : va_E} (h : w[i]? = some c) : (rz_ws cI cJ ad w)[i]? = some (ad i, rz_e cI cJ ad c) := by
  simp [rz_ws, List.getElem?_mapIdx, h]
theorem rz_ws_set {cI cJ : ClassId} {ad : Nat → Nat} {w : rz_W} {i : Nat} {c : va_E} : rz_ws cI cJ ad (w.set i c) = (rz_ws cI cJ ad w).set i (ad i, rz_e cI cJ ad c) := by
  apply List.ext_getElem?
  intro j
  simp only [rz_ws, List.getElem?_mapIdx, List.getElem?_set, List.length_mapIdx]
  by_cases hj : i = j
  · subst hj
    by_cases hl : i < w.length
    · simp [hl]
    · simp [hl]
  · simp [hj]
theorem rz_ws_addr {cI cJ : ClassId} {ad : Nat → Nat} {w : rz_W} {k : Nat} {q : Nat × va_E} (h : (rz_ws cI cJ ad w)[k]? = some q) : k < w.length ∧ q.1 = ad k := by
  simp only [rz_ws, List.getElem?_mapIdx] at h
  cases hw : w[k]? with
  | none => rw [hw] at h; cases h
  | some c => rw [hw] at h; cases h; exact ⟨(List.getElem?_eq_some_iff.mp hw).1, rfl⟩
def rz_rm (M : Nat) : Room := { frames := rz_fr M, cells := rz_MC M, slots := rz_MS M, locals := rz_lo M }
def rz_Cx (p : Program) (R : Room) (s : State) (m : MethodId) (args : Array Value) (c : Code) (M : Nat) (D : va_G) (cI cJ : ClassId) (A : Nat → Prop) : Prop :=
  p.tables.exec = Jvm.exec ∧ c.code = rz_by M ∧ c.maxLocals = rz_mL M ∧ s.vm.findClass (rz_y M).cls = some m.cls ∧ (∀ w ∈ rz_tw, w.before args s = true) ∧ va_K D rz_cl [(cI, .int), (cJ, .long)] s ∧ (∀ q, s.heap.size ≤ q → A q) ∧ R = rz_rm M
def rz_Lr (ad : Nat → Nat) (ls : Array Slot) (nL : Nat) (L : rz_L) : Prop := ls.size = nL ∧ lv_wf ls ∧ L.length = nL ∧ ∀ (i : Nat) (v : Value), L[i]? = some (some v) → v.category = 1 ∧ ls[i]? = some (.val (rz_v ad v))
def rz_lp (ad : Nat → Nat) (L : rz_L) : List (Nat × Value) := (List.range L.length).filterMap (fun i => match L[i]? with
  | some (some v) => some (i, rz_v ad v)
  | _ => none)
theorem rz_lp_mem {ad : Nat → Nat} {L : rz_L} {q : Nat × Value} : q ∈ rz_lp ad L ↔ ∃ v, L[q.1]? = some (some v) ∧ q.2 = rz_v ad v := by
  constructor
  · intro h
    obtain ⟨i, -, h2⟩ := List.mem_filterMap.mp h
    split at h2
    · rename_i v hv
      cases h2
      exact ⟨v, hv, rfl⟩
    · cases h2
  · rintro ⟨v, h1, h2⟩
    refine List.mem_filterMap.mpr ⟨q.1, List.mem_range.mpr (List.getElem?_eq_some_iff.mp h1).1, ?_⟩
    obtain ⟨i, u⟩ := q
    dsimp only at h1 h2 ⊢
    rw [h1, h2]
theorem rz_Lr.has {ad : Nat → Nat} {ls : Array Slot} {nL : Nat} {L : rz_L} (h : rz_Lr ad ls nL L) : lv_has ls nL (rz_lp ad L) :=
  ⟨h.1, h.2.1, fun q hq => by
    obtain ⟨v, h1, h2⟩ := rz_lp_mem.mp hq
    rw [h2]
    exact (h.2.2.2 q.1 v h1).2⟩
theorem rz_Lr.store {ad : Nat → Nat} {ls ls' : Array Slot} {nL i : Nat} {L : rz_L} {v : Value} (h : rz_Lr ad ls nL L) (hc : v.category = 1)
    (h' : lv_has ls' nL ((i, rz_v ad v) :: (rz_lp ad L).filter (fun q => !(q.1 == i) && !(q.1 + 1 == i && q.2.category == 2)))) : rz_Lr ad ls' nL (L.set i (some v)) := by
  refine ⟨h'.1, h'.2.1, by rw [List.length_set]; exact h.2.2.1, fun j u hj => ?_⟩
  rw [List.getElem?_set] at hj
  by_cases hij : i = j
  · rw [if_pos hij] at hj
    split at hj
    · cases hj
      subst hij
      exact ⟨hc, h'.2.2 _ List.mem_cons_self⟩
    · cases hj
  · rw [if_neg hij] at hj
    have h1 := h.2.2.2 j u hj
    refine ⟨h1.1, h'.2.2 (j, rz_v ad u) (List.mem_cons_of_mem _ (List.mem_filter.mpr ⟨rz_lp_mem.mpr ⟨u, hj, rfl⟩, ?_⟩))⟩
    have h2 : (rz_v ad u).category = 1 := by rw [rz_v_cat]; exact h1.1
    simp [h2, Ne.symm hij]
theorem rz_Lr.drop {ad : Nat → Nat} {ls ls' : Array Slot} {nL i : Nat} {L : rz_L} {u0 : Value} (h : rz_Lr ad ls nL L)
    (h' : lv_has ls' nL ((i, u0) :: (rz_lp ad L).filter (fun q => !(q.1 == i) && !(q.1 + 1 == i && q.2.category == 2)))) : rz_Lr ad ls' nL (L.set i none) := by
  refine ⟨h'.1, h'.2.1, by rw [List.length_set]; exact h.2.2.1, fun j u hj => ?_⟩
  rw [List.getElem?_set] at hj
  by_cases hij : i = j
  · rw [if_pos hij] at hj
    split at hj <;> cases hj
  · rw [if_neg hij] at hj
    have h1 := h.2.2.2 j u hj
    refine ⟨h1.1, h'.2.2 (j, rz_v ad u) (List.mem_cons_of_mem _ (List.mem_filter.mpr ⟨rz_lp_mem.mpr ⟨u, hj, rfl⟩, ?_⟩))⟩
    have h2 : (rz_v ad u).category = 1 := by rw [rz_v_cat]; exact h1.1
    simp [h2, Ne.symm hij]
end
section
/-! a pure instruction of the abstract machine is the machine's step -/
section RZP
variable {p : Program} {l : Launch} {e : Env} {R : Room} {s : State} {m : MethodId} {args : Array Value} {below : List Frame} {meth : Method} {c : Code} {H : Heap} {locs : List Loc} {cells slots : Nat} {Q : State → Prop}
variable {M : Nat} {D : va_G} {cI cJ : ClassId} {ad : Nat → Nat} {A : Nat → Prop}
theorem rz_cmp_t {c : Jvm.ClassFile.Cond} {a b : Int32} {x y : Nat} (h : rz_cmp c a b = true) : (if rz_cmp c a b = true then x else y) = x := if_pos h
theorem rz_cmp_f {c : Jvm.ClassFile.Cond} {a b : Int32} {x y : Nat} (h : ¬ rz_cmp c a b = true) : (if rz_cmp c a b = true then x else y) = y := if_neg h
theorem rz_tg_eq {pc : Nat} {off : Int} (h : 0 ≤ (pc : Int) + off) : (pc : Int) + off = ((rz_tg pc off : Nat) : Int) := by
  unfold rz_tg; omega
set_option maxHeartbeats 4000000 in
theorem rz_branch1 {cc : ByteArray} {pc tgt : Nat} {ls : Array Slot} {rest : List Value} {off : Int} {cd : Jvm.ClassFile.Cond} {a : Int32} (hx : p.tables.exec = Jvm.exec) (hb : c.code = cc) (hdg : decode cc pc = .ok (.ifCond cd off, 3)) (ht : (pc : Int) + off = (tgt : Int))
    (kk : W p l e R s m args below meth c H locs cells slots Q (F0 m (if rz_cmp cd a 0 = true then tgt else pc + 3) ls rest)) : W p l e R s m args below meth c H locs cells slots Q (F0 m pc ls (.int a :: rest)) := by
  cases cd
  all_goals first
    | exact lv_if_eq hx hb hdg ht (fun h => by rwa [if_pos (by simpa [rz_cmp] using h)] at kk) (fun h => by rwa [if_neg (by simpa [rz_cmp] using h)] at kk)
    | exact lv_if_ne hx hb hdg ht (fun h => by rwa [if_pos (by simpa [rz_cmp] using h)] at kk) (fun h => by rwa [if_neg (by simpa [rz_cmp] using h)] at kk)
    | exact lv_if_lt hx hb hdg ht (fun h => by rwa [if_pos (by simpa [rz_cmp] using h)] at kk) (fun h => by rwa [if_neg (by simpa [rz_cmp] using h)] at kk)
    | exact lv_if_ge hx hb hdg ht (fun h => by rwa [if_pos (by simpa [rz_cmp] using h)] at kk) (fun h => by rwa [if_neg (by simpa [rz_cmp] using h)] at kk)
    | exact lv_if_gt hx hb hdg ht (fun h => by rwa [if_pos (by simpa [rz_cmp] using h)] at kk) (fun h => by rwa [if_neg (by simpa [rz_cmp] using h)] at kk)
    | exact lv_if_le hx hb hdg ht (fun h => by rwa [if_pos (by simpa [rz_cmp] using h)] at kk) (fun h => by rwa [if_neg (by simpa [rz_cmp] using h)] at kk)
set_option maxHeartbeats 4000000 in
theorem rz_branch2 {cc : ByteArray} {pc tgt : Nat} {ls : Array Slot} {rest : List Value} {off : Int} {cd : Jvm.ClassFile.Cond} {a b : Int32} (hx : p.tables.exec = Jvm.exec) (hb : c.code = cc) (hdg : decode cc pc = .ok (.if_icmp cd off, 3)) (ht : (pc : Int) + off = (tgt : Int))
    (kk : W p l e R s m args below meth c H locs cells slots Q (F0 m (if rz_cmp cd a b = true then tgt else pc + 3) ls rest)) : W p l e R s m args below meth c H locs cells slots Q (F0 m pc ls (.int b :: .int a :: rest)) := by
  cases cd
  all_goals first
    | exact lv_icmp_eq hx hb hdg ht (fun h => by rwa [if_pos (by simpa [rz_cmp] using h)] at kk) (fun h => by rwa [if_neg (by simpa [rz_cmp] using h)] at kk)
    | exact lv_icmp_ne hx hb hdg ht (fun h => by rwa [if_pos (by simpa [rz_cmp] using h)] at kk) (fun h => by rwa [if_neg (by simpa [rz_cmp] using h)] at kk)
    | exact lv_icmp_lt hx hb hdg ht (fun h => by rwa [if_pos (by simpa [rz_cmp] using h)] at kk) (fun h => by rwa [if_neg (by simpa [rz_cmp] using h)] at kk)
    | exact lv_icmp_ge hx hb hdg ht (fun h => by rwa [if_pos (by simpa [rz_cmp] using h)] at kk) (fun h => by rwa [if_neg (by simpa [rz_cmp] using h)] at kk)
    | exact lv_icmp_gt hx hb hdg ht (fun h => by rwa [if_pos (by simpa [rz_cmp] using h)] at kk) (fun h => by rwa [if_neg (by simpa [rz_cmp] using h)] at kk)
    | exact lv_icmp_le hx hb hdg ht (fun h => by rwa [if_pos (by simpa [rz_cmp] using h)] at kk) (fun h => by rwa [if_neg (by simpa [rz_cmp] using h)] at kk)
theorem rz_nar {ty : FieldType} {v : Value} {ad : Nat → Nat} (h : rz_fit ty v = true) : narrow ty (rz_v ad v) = rz_v ad v ∧ fits ty (rz_v ad v) = true := by
  cases ty <;> cases v <;> simp [rz_fit] at h <;> first
    | exact ⟨rfl, rfl⟩
    | (rcases h with rfl | rfl
       · exact ⟨show narrow .boolean (.int 0) = .int 0 by decide +kernel, rfl⟩
       · exact ⟨show narrow .boolean (.int 1) = .int 1 by decide +kernel, rfl⟩)
theorem rz_ok0 {M pc len x y z : Nat} {ins : Instr} (h : rz_ok M pc (0, ins, len, x, y, z) = true) : decode (rz_by M) pc = .ok (ins, len) ∧ (match (generalizing := false) ins with
    | .tableswitch _ _ _ _ => true
    | .lookupswitch _ _ => true
    | _ => decide (len = rz_ln ins)) = true ∧ rz_okp (rz_y M).cls pc ins x y (rz_hint M pc) = true := by
  have h1 := Bool.and_eq_true_iff.mp h
  have h2 := Bool.and_eq_true_iff.mp h1.2
  exact ⟨of_decide_eq_true h1.1, h2.1, h2.2⟩
set_option maxHeartbeats 8000000 in
set_option maxRecDepth 100000 in
theorem rz_pure_ok {pc pc' x y z len : Nat} {ins : Instr} {L L' : rz_L} {st st' : List Value} {w w' : rz_W} {ls : Array Slot}
    (hk : rz_code M pc = some (0, ins, len, x, y, z)) (hp : rz_pure ins len x y pc L st w = some (pc', L', st', w')) (hC : rz_Cx p R s m args c M D cI cJ A)
    (hP : va_P D rz_cl (rz_ws cI cJ ad w) H) (hD : va_D A (rz_ws cI cJ ad w)) (hS : va_S A s.heap H locs) (hL : rz_Lr ad ls (rz_mL M) L)
    (kk : ∀ (ls' : Array Slot) (H' : Heap) (locs' : List Loc), rz_Lr ad ls' (rz_mL M) L' → va_P D rz_cl (rz_ws cI cJ ad w') H' → va_D A (rz_ws cI cJ ad w') → va_S A s.heap H' locs' → W p l e R s m args below meth c H' locs' cells slots Q (F0 m pc' ls' (st'.map (rz_v ad)))) :
    W p l e R s m args below meth c H locs cells slots Q (F0 m pc ls (st.map (rz_v ad))) := by
  obtain ⟨hx, hb, hml, hown, hts, hK, hA, hR⟩ := hC
  obtain ⟨hdg, hlen, ok⟩ := rz_ok0 (rz_all hk)
  unfold rz_pure at hp
  split at hp
  · -- iconst
    replace hlen : len = 1 := of_decide_eq_true hlen
    subst hlen
    cases hp
    exact lv_iconst hx hb hdg rfl (kk ls H locs hL hP hD hS)
  · replace hlen : len = 2 := of_decide_eq_true hlen
    subst hlen
    cases hp
    exact lv_bipush hx hb hdg rfl (kk ls H locs hL hP hD hS)
  · replace hlen : len = 3 := of_decide_eq_true hlen
    subst hlen
    cases hp
    exact lv_sipush hx hb hdg rfl (kk ls H locs hL hP hD hS)
  · replace hlen : len = 2 := of_decide_eq_true hlen
    subst hlen
    cases hp
    exact lv_ldc hx hb hown (hts _ (rz_use (rz_wd_in ok) rfl)) hdg (kk ls H locs hL hP hD hS)
  · replace hlen : len = 1 := of_decide_eq_true hlen
    subst hlen
    cases hp
    exact lv_lconst hx hb hdg rfl (kk ls H locs hL hP hD hS)
  · -- iload_n
    replace hlen : len = 1 := of_decide_eq_true hlen
    subst hlen
    split at hp
    · rename_i v hv
      cases hp
      exact lv_iload_n hx hb hdg rfl (hL.2.2.2 _ _ hv).2 (kk ls H locs hL hP hD hS)
    · cases hp
  · replace hlen : len = 2 := of_decide_eq_true hlen
    subst hlen
    split at hp
    · rename_i v hv
      cases hp
      exact lv_iload hx hb hdg (hL.2.2.2 _ _ hv).2 (kk ls H locs hL hP hD hS)
    · cases hp
  · replace hlen : len = 1 := of_decide_eq_true hlen
    subst hlen
    split at hp
    · rename_i v hv
      cases hp
      exact lv_aload_n hx hb hdg rfl (hL.2.2.2 _ _ hv).2 (kk ls H locs hL hP hD hS)
    · cases hp
  · replace hlen : len = 2 := of_decide_eq_true hlen
    subst hlen
    split at hp
    · rename_i v hv
      cases hp
      exact lv_aload hx hb hdg (hL.2.2.2 _ _ hv).2 (kk ls H locs hL hP hD hS)
    · cases hp
  · -- istore_n
    replace hlen : len = 1 := of_decide_eq_true hlen
    subst hlen
    split at hp
    · split at hp
      · rename_i k v r hlt
        cases hp
        exact lv_istore_n hx hb hdg rfl hL.has (by rw [← hL.2.2.1]; exact hlt) rfl (fun ls' h' => kk ls' H locs (hL.store (v := .int v) rfl h') hP hD hS)
      · cases hp
    · cases hp
  · replace hlen : len = 2 := of_decide_eq_true hlen
    subst hlen
    split at hp
    · split at hp
      · rename_i k v r hlt
        cases hp
        exact lv_istore hx hb hdg hL.has (by rw [← hL.2.2.1]; exact hlt) rfl (fun ls' h' => kk ls' H locs (hL.store (v := .int v) rfl h') hP hD hS)
      · cases hp
    · cases hp
  · -- iinc
    replace hlen : len = 3 := of_decide_eq_true hlen
    subst hlen
    split at hp
    · rename_i k n _ v hv
      cases hp
      obtain ⟨i0, hi0⟩ := List.getElem?_of_mem (rz_lp_mem (ad := ad) (L := L) (q := (k, .int v)) |>.mpr ⟨.int v, hv, rfl⟩)
      exact lv_iinc hx hb hdg hL.has hi0 rfl (by rw [← hL.2.2.1]; exact (List.getElem?_eq_some_iff.mp hv).1) rfl (fun ls' h' => kk ls' H locs (hL.store (v := .int (v + Int32.ofInt n)) rfl h') hP hD hS)
    · cases hp
  · replace hlen : len = 1 := of_decide_eq_true hlen
    subst hlen
    split at hp
    · cases hp
      exact lv_iadd hx hb hdg (kk ls H locs hL hP hD hS)
    · cases hp
  · replace hlen : len = 1 := of_decide_eq_true hlen
    subst hlen
    split at hp
    · cases hp
      exact lv_isub hx hb hdg (kk ls H locs hL hP hD hS)
    · cases hp
  · replace hlen : len = 1 := of_decide_eq_true hlen
    subst hlen
    split at hp
    · cases hp
      exact lv_imul hx hb hdg (kk ls H locs hL hP hD hS)
    · cases hp
  · replace hlen : len = 1 := of_decide_eq_true hlen
    subst hlen
    split at hp
    · split at hp
      · cases hp
      · rename_i hne
        cases hp
        exact lv_idiv hx hb hdg hne (kk ls H locs hL hP hD hS)
    · cases hp
  · replace hlen : len = 1 := of_decide_eq_true hlen
    subst hlen
    split at hp
    · split at hp
      · cases hp
      · rename_i hne
        cases hp
        exact lv_irem hx hb hdg hne (kk ls H locs hL hP hD hS)
    · cases hp
  · replace hlen : len = 1 := of_decide_eq_true hlen
    subst hlen
    split at hp
    · cases hp
      exact lv_iand hx hb hdg (kk ls H locs hL hP hD hS)
    · cases hp
  · replace hlen : len = 1 := of_decide_eq_true hlen
    subst hlen
    split at hp
    · cases hp
      exact lv_ior hx hb hdg (kk ls H locs hL hP hD hS)
    · cases hp
  · replace hlen : len = 1 := of_decide_eq_true hlen
    subst hlen
    split at hp
    · cases hp
      exact lv_ixor hx hb hdg (kk ls H locs hL hP hD hS)
    · cases hp
  · replace hlen : len = 1 := of_decide_eq_true hlen
    subst hlen
    split at hp
    · cases hp
      exact lv_ishl hx hb hdg (kk ls H locs hL hP hD hS)
    · cases hp
  · replace hlen : len = 1 := of_decide_eq_true hlen
    subst hlen
    split at hp
    · cases hp
      exact lv_ishr hx hb hdg (kk ls H locs hL hP hD hS)
    · cases hp
  · replace hlen : len = 1 := of_decide_eq_true hlen
    subst hlen
    split at hp
    · cases hp
      exact lv_i2l hx hb hdg rfl (kk ls H locs hL hP hD hS)
    · cases hp
  · replace hlen : len = 1 := of_decide_eq_true hlen
    subst hlen
    split at hp
    · cases hp
      exact lv_ladd hx hb hdg (kk ls H locs hL hP hD hS)
    · cases hp
  · replace hlen : len = 1 := of_decide_eq_true hlen
    subst hlen
    split at hp
    · cases hp
      exact W.lcmp hx hb hdg (kk ls H locs hL hP hD hS)
    · cases hp
  · -- pop
    replace hlen : len = 1 := of_decide_eq_true hlen
    subst hlen
    split at hp
    · cases hp
      exact lv_pop hx hb hdg rfl (kk ls H locs hL hP hD hS)
    · cases hp
  · -- dup
    replace hlen : len = 1 := of_decide_eq_true hlen
    subst hlen
    split at hp
    · cases hp
      exact lv_dup hx hb hdg rfl (kk ls H locs hL hP hD hS)
    · cases hp
      exact lv_dup hx hb hdg rfl (kk ls H locs hL hP hD hS)
    · cases hp
  · -- dup2
    replace hlen : len = 1 := of_decide_eq_true hlen
    subst hlen
    split at hp
    · cases hp
      exact lv_dup2_11 hx hb hdg rfl rfl (kk ls H locs hL hP hD hS)
    · cases hp
  · -- goto
    replace hlen : len = 3 := of_decide_eq_true hlen
    subst hlen
    cases hp
    exact lv_goto hx hb hdg (of_decide_eq_true ok) (kk ls H locs hL hP hD hS)
  · -- if_icmp
    replace hlen : len = 3 := of_decide_eq_true hlen
    subst hlen
    split at hp
    · cases hp
      exact rz_branch2 hx hb hdg (of_decide_eq_true ok) (kk ls H locs hL hP hD hS)
    · cases hp
  · replace hlen : len = 3 := of_decide_eq_true hlen
    subst hlen
    split at hp
    · cases hp
      exact rz_branch1 hx hb hdg (of_decide_eq_true ok) (kk ls H locs hL hP hD hS)
    · cases hp
  · -- tableswitch
    split at hp
    · rename_i d lo hi offs _ v r
      cases hp
      unfold rz_okp at ok
      simp only [Bool.and_eq_true, decide_eq_true_eq, List.all_eq_true] at ok
      obtain ⟨o1, o2⟩ := ok
      have kk := kk ls H locs hL hP hD hS
      by_cases hv : v.toInt < lo ∨ hi < v.toInt
      · rw [if_pos hv] at kk
        exact lv_tableOut hx hb hdg hv (rz_tg_eq (o2 d List.mem_cons_self)) kk
      · rw [if_neg hv] at kk
        have h1 : ¬ v.toInt < lo := fun h => hv (Or.inl h)
        have h2 : ¬ hi < v.toInt := fun h => hv (Or.inr h)
        have hsz : (v.toInt - lo).toNat < offs.size := by omega
        have ho : offs[(v.toInt - lo).toNat]? = some (offs.getD (v.toInt - lo).toNat d) := by
          simp [Array.getD, hsz]
        have hm : offs.getD (v.toInt - lo).toNat d ∈ d :: offs.toList := by
          refine List.mem_cons_of_mem _ (Array.mem_toList_iff.mpr ?_)
          exact Array.mem_of_getElem? ho
        exact lv_tableIn hx hb hdg h1 h2 ho (rz_tg_eq (o2 _ hm)) kk
    · cases hp
  · -- lookupswitch
    split at hp
    · rename_i d ps _ v r
      cases hp
      unfold rz_okp at ok
      simp only [Bool.and_eq_true, decide_eq_true_eq] at ok
      obtain ⟨⟨o1, o2⟩, o3⟩ := ok
      have key : ∀ (qs : List (Int × Int)), (∀ q ∈ qs, 0 ≤ (pc : Int) + q.2) → 0 ≤ (pc : Int) + Op.lookupswitch.offset qs d v.toInt := by
        intro qs
        induction qs with
        | nil => intro _; simpa [Op.lookupswitch.offset] using o2
        | cons a t ih =>
          intro h
          have h1 := h a List.mem_cons_self
          have h2 := ih (fun q hq => h q (List.mem_cons_of_mem _ hq))
          simp only [Op.lookupswitch.offset]
          split
          · exact h1
          · exact h2
      exact lv_lookup hx hb hdg o1 rfl (rz_tg_eq (key ps.toList (fun q hq => of_decide_eq_true (List.all_eq_true.mp o3 q hq)))) (kk ls H locs hL hP hD hS)
    · cases hp
  · -- getfield
    replace hlen : len = 3 := of_decide_eq_true hlen
    subst hlen
    unfold rz_okp at ok
    split at hp
    · split at hp
      · split at hp
        · split at hp
          · rename_i idx _ i r _ ci fs hw hci _ v hv
            cases hp
            subst hci
            dsimp only at ok
            split at ok
            · rename_i C T N hcl
              simp only [Bool.and_eq_true, decide_eq_true_eq] at ok
              obtain ⟨⟨o1, o2⟩, o3⟩ := ok
              exact va_get (D := D) (ci := ci) (v := rz_v ad v) (C := C) (T := T) (N := N) hx hb hts (rz_clw_of hcl) hown hK hP i (rz_ws_get hw) hcl y o1 (hts _ (rz_use (rz_wd_in o3) rfl)) (fun q h9 => by rw [o2] at h9; exact h9) (by simp [hv]) hdg (kk ls H locs hL hP hD hS)
            · cases ok
          · cases hp
        · cases hp
      · cases hp
    · cases hp
  · -- putfield
    replace hlen : len = 3 := of_decide_eq_true hlen
    subst hlen
    unfold rz_okp at ok
    split at hp
    · split at hp
      · split at hp
        · rename_i idx _ v i r _ ci fs hw hci
          cases hp
          obtain ⟨rfl, hy, hfit⟩ := hci
          dsimp only at ok
          split at ok
          · rename_i C T N hcl
            simp only [Bool.and_eq_true, decide_eq_true_eq] at ok
            obtain ⟨⟨⟨⟨o1, o2⟩, o3⟩, o4⟩, o5⟩ := ok
            obtain ⟨hn, hf⟩ := rz_nar (ad := ad) hfit
            exact va_put (D := D) (ci := ci) (v := rz_v ad v) (ty := rz_fty ci y) (C := C) (T := T) (N := N) hx hb hts (rz_clw_of hcl) (rz_fty ci) (rz_cty_of hcl) (rz_cnm_of hcl) hown hK hP hD hS i (rz_ws_get hw) hcl y o1 (hts _ (rz_use (rz_wd_in o3) rfl)) (fun q h9 => by rw [o2] at h9; exact h9) o4 o5 hn hf (by rw [List.length_map]; exact hy) hdg
              (fun H1 locs1 h1 h2 h3 => kk ls H1 locs1 hL (by rw [rz_ws_set]; simpa [rz_e, List.map_set] using h1) (by rw [rz_ws_set]; simpa [rz_e, List.map_set] using h2) h3)
          · cases ok
        · cases hp
      · cases hp
    · cases hp
  · -- iaload
    replace hlen : len = 1 := of_decide_eq_true hlen
    subst hlen
    split at hp
    · split at hp
      · split at hp
        · rename_i _ j i r _ k n f hw hc
          cases hp
          obtain ⟨rfl, hin⟩ := hc
          exact va_iald hx hb hK hP i 0 (cA := cI) (n := n) (f := f) (rz_ws_get hw) rfl hin hdg (kk ls H locs hL hP hD hS)
        · cases hp
      · cases hp
    · cases hp
  · -- iastore
    replace hlen : len = 1 := of_decide_eq_true hlen
    subst hlen
    split at hp
    · split at hp
      · split at hp
        · rename_i _ v j i r _ k n f hw hc
          cases hp
          obtain ⟨rfl, hin⟩ := hc
          exact va_iast hx hb hK hP hD hS i 0 (cA := cI) (n := n) (f := f) (rz_ws_get hw) rfl hin hdg
            (fun H1 locs1 h1 h2 h3 => kk ls H1 locs1 hL (by rw [rz_ws_set]; exact h1) (by rw [rz_ws_set]; exact h2) h3)
        · cases hp
      · cases hp
    · cases hp
  · -- lastore
    replace hlen : len = 1 := of_decide_eq_true hlen
    subst hlen
    split at hp
    · split at hp
      · split at hp
        · rename_i _ v j i r _ k n f hw hc
          cases hp
          obtain ⟨rfl, hin⟩ := hc
          exact va_last hx hb hK hP hD hS i 1 (cA := cJ) (n := n) (f := f) (rz_ws_get hw) rfl hin hdg
            (fun H1 locs1 h1 h2 h3 => kk ls H1 locs1 hL (by rw [rz_ws_set]; exact h1) (by rw [rz_ws_set]; exact h2) h3)
        · cases hp
      · cases hp
    · cases hp
  · -- arraylength
    replace hlen : len = 1 := of_decide_eq_true hlen
    subst hlen
    split at hp
    · split at hp
      · split at hp
        · rename_i _ i r _ k n f hw hc
          cases hp
          subst hc
          exact va_alen hx hb hK hP i 0 (cA := cI) (x := (n, .inl f)) (rz_ws_get hw) (ty := .int) rfl rfl hdg (kk ls H locs hL hP hD hS)
        · cases hp
      · cases hp
    · cases hp
  · cases hp
end RZP
end
section
/-! what a frame knows beside its world: Throwable's two statics, the words that move with the tables alone, the constants; a method's contract -/
def rz_tN : String := "java/lang/Throwable"
def rz_Zs (n d : String) (A : Nat → Prop) (U : State) (H : Heap) : Prop := ∃ (c : ClassId) (k : Class) (i : Nat) (f : Field) (a : Nat) (cell : Cell) (v : Value), U.vm.findClass rz_tN = some c ∧ U.fieldFound? rz_tN n d = some (c, k, i, f) ∧ f.isStatic = true ∧ k.statics = some a ∧ H[a]? = some cell ∧ cell.vm.isStatics = true ∧ cell.cls = c ∧ f.slot < cell.slots.size ∧ k.staticTypes[f.slot]? = some f.type ∧ cell.slots[f.slot]? = some v ∧ v.isRef = true ∧ ¬ A a
theorem rz_Zs.moved {n d : String} {A : Nat → Prop} {u U : State} {H : Heap} (hvm : u.vm.Alike U.vm) (h : rz_Zs n d A u H) : rz_Zs n d A U H := by
  obtain ⟨c, k, i, f, a, cell, v, h1, h2, h3, h4, h5, h6, h7, h8, h9, h10⟩ := h
  obtain ⟨k', hi', he⟩ := State.fieldFound?_setVm hvm h2
  exact ⟨c, k', i, f, a, cell, v, by rw [hvm.findClass]; exact h1, hi', h3, by rw [he]; exact h4, h5, h6, h7, h8, by rw [he]; exact h9, h10⟩
theorem rz_Zs.kept {n d : String} {A : Nat → Prop} {U : State} {H H1 : Heap} (h : rz_Zs n d A U H) (hq : ∀ a : Nat, a < H.size → ¬ A a → H1[a]? = H[a]?) : rz_Zs n d A U H1 := by
  obtain ⟨c, k, i, f, a, cell, v, h1, h2, h3, h4, h5, h6, h7, h8, h9, h10, h11, h12⟩ := h
  exact ⟨c, k, i, f, a, cell, v, h1, h2, h3, h4, by rw [hq a (Array.getElem?_eq_some_iff.mp h5).1 h12]; exact h5, h6, h7, h8, h9, h10, h11, h12⟩
theorem rz_Zs.narrow {n d : String} {A B : Nat → Prop} {U : State} {H : Heap} (h : rz_Zs n d A U H) (hAB : ∀ q, q < H.size → B q → A q) : rz_Zs n d B U H := by
  obtain ⟨c, k, i, f, a, cell, v, h1, h2, h3, h4, h5, h6, h7, h8, h9, h10, h11, h12⟩ := h
  exact ⟨c, k, i, f, a, cell, v, h1, h2, h3, h4, h5, h6, h7, h8, h9, h10, h11, fun z => h12 (hAB a (Array.getElem?_eq_some_iff.mp h5).1 z)⟩
theorem rz_Zs.of {args : Array Value} {s : State} {n d : String} {A : Nat → Prop} (hl : (Cond.laysStatic rz_tN n d).before args s = true) (h : (Cond.isRef (.static rz_tN n d)).before args s = true) (hA : ∀ a : Nat, a < s.heap.size → ¬ A a) : rz_Zs n d A s s.heap := by
  obtain ⟨c, k, i, f, a, cell, hc, hi, hst, ha, hcell, hs, hcls, hlt, hty⟩ := Cond.laysStatic_spec hl
  cases hv : (Term.static rz_tN n d).eval args s none [] s with
  | none => simp [Cond.before, Cond.holds, Cond.value, hv] at h
  | some v =>
    obtain ⟨hst', a', cell', ha', hcell', -, hslot⟩ := Term.static_spec hi hv
    cases ha.symm.trans ha'
    cases hcell.symm.trans hcell'
    refine ⟨c, k, i, f, a, cell, v, hc, hi, hst, ha, hcell, hs, hcls, hlt, hty, hslot, ?_, hA a (Array.getElem?_eq_some_iff.mp hcell).1⟩
    simp only [Cond.before, Cond.holds, Cond.value, hv] at h
    cases v <;> simp_all [Value.isRef]
theorem rz_Zs.lays {args : Array Value} {s : State} {n d : String} {A : Nat → Prop} (h : rz_Zs n d A s s.heap) : (Cond.laysStatic rz_tN n d).before args s = true := by
  obtain ⟨c, k, i, f, a, cell, v, h1, h2, h3, h4, h5, h6, h7, h8, h9, h10, h11, h12⟩ := h
  simp [Cond.before, Cond.holds, Cond.value, h1, h2, h3, h4, h5, h6, h7, h8, h9]
theorem rz_Zs.isRef {args : Array Value} {s : State} {n d : String} {A : Nat → Prop} (h : rz_Zs n d A s s.heap) : (Cond.isRef (.static rz_tN n d)).before args s = true := by
  obtain ⟨c, k, i, f, a, cell, v, h1, h2, h3, h4, h5, h6, h7, h8, h9, h10, h11, h12⟩ := h
  have hv : (Term.static rz_tN n d).eval args s none [] s = some v := by
    simp [Term.eval, State.fieldNamed?, h2, h3, h4, h5, h6, h10]
  simp only [Cond.before, Cond.holds, Cond.value, hv]
  cases v <;> simp_all [Value.isRef]
def rz_isX (w : Cond) : Bool := match w with
  | .declares _ => true
  | .castable _ _ => true
  | _ => false
theorem rz_X_moved {w : Cond} (hw : rz_isX w = true) {u U : State} (hvm : u.vm.Alike U.vm) (h : w.before #[] u = true) : w.before #[] U = true := by
  cases w <;> first | (simp [rz_isX] at hw; done) | skip
  · exact va_tabs rfl (rfl : (u.setVm U.vm).vm = U.vm) (by rw [Cond.declares_setVm hvm]; exact h)
  · exact va_tabs rfl (rfl : (u.setVm U.vm).vm = U.vm) (by rw [Cond.castable_setVm hvm]; exact h)
def rz_X (A : Nat → Prop) (U : State) (H : Heap) : Prop :=
  rz_Zs "UNASSIGNED_STACK" "[Ljava/lang/StackTraceElement;" A U H ∧ rz_Zs "SUPPRESSED_SENTINEL" "Ljava/util/List;" A U H ∧ (∀ w ∈ lw_tbl, rz_isX w = true → w.before #[] U = true) ∧ (∀ (own tx : String) (k : Nat), Cond.stringRef own k tx ∈ lw_tbl → ∃ a, vk_R own k tx a U) ∧ (∀ i j : Nat, i < 4 → j < 4 → i ≠ j → ∀ c c' : ClassId, U.vm.findClass (rz_xn i) = some c → U.vm.findClass (rz_xn j) = some c' → U.vm.assignable c c' = false)
theorem rz_X.go {A B : Nat → Prop} {s U : State} {H : Heap} (h : rz_X A s s.heap) (hW : s.WarmedH U.vm) (hk : ∀ a : Nat, a < s.heap.size → ¬ A a → H[a]? = s.heap[a]?) (hAB : ∀ q, q < H.size → B q → A q) : rz_X B U H := by
  obtain ⟨h1, h2, h3, h4, h5⟩ := h
  refine ⟨((h1.kept hk).narrow hAB).moved hW.alike, ((h2.kept hk).narrow hAB).moved hW.alike, fun w hw hx => rz_X_moved hx hW.alike (h3 w hw hx), fun own tx k hw => ?_, fun i j hi hj hn c c' hc hc' => ?_⟩
  · obtain ⟨a, ha⟩ := h4 own tx k hw
    exact ⟨a, ha.warm hW⟩
  · rw [hW.alike.findClass] at hc hc'
    rw [hW.alike.assignable]
    exact h5 i j hi hj hn c c' hc hc'
def rz_B (cI cJ : ClassId) (ad : Nat → Nat) (w : rz_W) : Nat → Prop := fun q => ∃ (k : Nat) (e : va_E), (rz_ws cI cJ ad w)[k]? = some (q, e)
def rz_Pc (D : va_G) (cI cJ : ClassId) (ad : Nat → Nat) (av : List Value) (w : rz_W) : Array Value → State → Prop := fun a U =>
  a = (av.map (rz_v ad)).toArray ∧ va_P D rz_cl (rz_ws cI cJ ad w) U.heap ∧ va_D (fun _ => True) (rz_ws cI cJ ad w) ∧ va_K D rz_cl [(cI, .int), (cJ, .long)] U ∧ rz_X (rz_B cI cJ ad w) U U.heap
def rz_out (ad : Nat → Nat) (r : rz_R) (st : State) (o : Outcome) (t : State) : Prop := match r with
  | .inl v => o = .returned (v.map (rz_v ad))
  | .inr k => ∃ (q : Addr) (ce : Cell), o = .threw q ∧ t.heap[q]? = some ce ∧ ce.vm.isStatics = false ∧ st.vm.findClass (rz_xn k) = some ce.cls ∧ st.vm.assignable ce.cls ce.cls = true
def rz_Qc (M : Nat) (D : va_G) (cI cJ : ClassId) (ad : Nat → Nat) (w : rz_W) (r : rz_R) (w' : rz_W) : Array Value → State → Outcome → State → Prop := fun _ st o t =>
  va_P D rz_cl (rz_ws cI cJ ad w') t.heap ∧ va_D (va_A (rz_ws cI cJ ad w) st.heap.size) (rz_ws cI cJ ad w') ∧ st.WarmedH t.vm ∧ va_F (va_A (rz_ws cI cJ ad w) st.heap.size) st t ∧
  (∃ Ls : List Loc, st.sameButNew ({ t with vm := st.vm } : State) Ls (rz_MC M) (rz_MS M) ∧ ∀ q ∈ Ls, va_A (rz_ws cI cJ ad w) st.heap.size q.base) ∧ rz_out ad r st o t
def rz_Met (l : Launch) (M : Nat) (D : va_G) (cI cJ : ClassId) (ad : Nat → Nat) (av : List Value) (w : rz_W) (r : rz_R) (w' : rz_W) : Prop :=
  MetFree l (rz_y M) (headSpec rz_tw (rz_rm M)) (rz_Pc D cI cJ ad av w) (fun _ _ _ _ _ => True) (rz_Qc M D cI cJ ad w r w')
/-- a method's code by its word -/
theorem rz_codeS {M : Nat} (hM : rz_mok M = true) {args : Array Value} {s : State} (hts : ∀ w ∈ rz_tw, w.before args s = true) :
    ∃ (mk : MethodId) (meth : Method) (c : Code), s.methodNamed? (rz_y M) = some mk ∧ s.vm.method? mk = some meth ∧ meth.code = some c ∧ c.code = rz_by M ∧ c.maxLocals = rz_mL M ∧ c.exceptionTable.toList.map (fun h => (h.startPc, h.endPc, h.handlerPc, h.catchType)) = rz_hd M ∧ meth.sig.returnType = rz_rt M ∧ meth.locks = false ∧ parseMethodDescriptor (rz_y M).desc = some meth.sig := by
  unfold rz_mok at hM
  simp only [Bool.and_eq_true] at hM
  obtain ⟨⟨⟨⟨⟨⟨⟨h1, -⟩, -⟩, -⟩, -⟩, -⟩, -⟩, -⟩ := hM
  split at h1
  · rename_i hh
    have hc := hts _ (rz_use (rz_wd_in h1) rfl)
    obtain ⟨mk, hn⟩ := Cond.code_named hc
    obtain ⟨meth, c, a1, a2, a3, a4, a5, a6, a7, a8⟩ := Cond.code_spec hn hc
    have h0 : c.exceptionTable.size = 0 := by simpa [Array.isEmpty] using a7
    have h2 : c.exceptionTable.toList = [] := List.eq_nil_of_length_eq_zero (by simpa using h0)
    exact ⟨mk, meth, c, hn, a1, a2, a3, a4, by rw [h2, hh]; rfl, a5, a6, a8⟩
  · rename_i hd tl hh
    have hc := hts _ (rz_use (rz_wd_in h1) rfl)
    obtain ⟨mk, meth, c, a0, a1, a2, a3, a4, a5, a6, a7, a8⟩ := Cond.codeWith_spec hc
    exact ⟨mk, meth, c, a0, a1, a2, a3, a4, by rw [a5, hh], a6, a7, a8⟩
end
section
/-! a call: the step into the callee, and the way back by its contract, returned or thrown -/
section RZC
variable {p : Program} {l : Launch} {e : Env} {R : Room} {s : State} {m : MethodId} {args : Array Value} {below : List Frame} {meth : Method} {c : Code} {T U : State} {locs : List Loc} {cells slots : Nat}
variable {M : Nat} {D : va_G} {cI cJ : ClassId} {ad : Nat → Nat}
theorem rz_hws (hts : ∀ w ∈ rz_tw, w.before args s = true) : ∀ w ∈ rz_tw, ∀ (a' : Array Value) (V : State), s.WarmedH V.vm → w.before a' V = true :=
  fun w hw _ _ hW => word_at hW (good_of_word (List.mem_filter.mp hw).2) (hts w hw)
theorem rz_mok_ini {x : Nat} (h : rz_mok x = true) : Cond.initialized (rz_y x).cls ∈ rz_tw ∧ ((rz_y x).cls ≠ "java/lang/invoke/MethodHandle" ∧ (rz_y x).cls ≠ "java/lang/invoke/VarHandle") ∧ Jvm.plainName (rz_y x).cls = true ∧ rz_na x ≤ rz_mL x := by
  unfold rz_mok at h
  simp only [Bool.and_eq_true, decide_eq_true_eq] at h
  obtain ⟨⟨⟨⟨⟨⟨-, h1⟩, h2⟩, h3⟩, h4⟩, h5⟩, -⟩ := h
  exact ⟨rz_use (rz_wd_in h1) rfl, ⟨h2, h3⟩, h4, h5⟩
theorem rz_mok_st {x : Nat} (h : rz_mok x = true) (hs : rz_st x = true) : Cond.static (rz_y x) ∈ rz_tw ∧ (parseMethodDescriptor (rz_y x).desc).map (fun d => d.parameters.length) = some (rz_na x) := by
  unfold rz_mok at h
  simp only [Bool.and_eq_true, decide_eq_true_eq] at h
  obtain ⟨⟨⟨⟨⟨⟨⟨-, h1⟩, -⟩, -⟩, -⟩, -⟩, -⟩, -⟩ := h
  rw [if_pos hs] at h1
  simp only [Bool.and_eq_true, decide_eq_true_eq] at h1
  exact ⟨rz_use (rz_wd_in h1.1) rfl, h1.2⟩
theorem rz_mok_vi {x : Nat} (h : rz_mok x = true) (hs : rz_st x = false) : Cond.instanceMethod (rz_y x) ∈ rz_tw ∧ Cond.selects (rz_y x).cls (rz_y x) (rz_y x) ∈ rz_tw ∧ (rz_cl[rz_rc x]?).map (fun q => q.1) = some (rz_y x).cls ∧ (parseMethodDescriptor (rz_y x).desc).map (fun d => d.parameters.length + 1) = some (rz_na x) := by
  unfold rz_mok at h
  simp only [Bool.and_eq_true, decide_eq_true_eq] at h
  obtain ⟨⟨⟨⟨⟨⟨⟨-, h1⟩, -⟩, -⟩, -⟩, -⟩, -⟩, -⟩ := h
  rw [if_neg (by rw [hs]; decide)] at h1
  simp only [Bool.and_eq_true, decide_eq_true_eq] at h1
  obtain ⟨⟨⟨a1, a2⟩, a3⟩, a4⟩ := h1
  exact ⟨rz_use (rz_wd_in a1) rfl, rz_use (rz_wd_in a2) rfl, a3, a4⟩
theorem rz_invS (X : Stand p l e R s m args below meth c T locs cells slots) (hexec : p.tables.exec = Jvm.exec) {own : String} {index x pc : Nat} (hx : rz_mok x = true) (hst : rz_st x = true) (hts : ∀ w ∈ rz_tw, w.before args s = true)
    (hown : s.vm.findClass own = some m.cls) (hlink : (Cond.methodLink own index (rz_y x)).before args s = true) {ls : Array Slot} {av rest : List Value} (hn : av.length = rz_na x)
    (hdg : decode c.code pc = .ok (.invokestatic index, 3)) :
    ∃ (mk : MethodId) (vm₁ : Vm), s.methodNamed? (rz_y x) = some mk ∧ Stand p l e R s m args below meth c (T.setVm vm₁) locs cells slots ∧
      ∀ target, Steps p.tables e below (doInvoke e ((T.setVm vm₁).setTop (F0 m pc ls rest)) [] mk av.toArray).1 target → Steps p.tables e below (T.setTop (F0 m pc ls (av.reverse ++ rest))) target := by
  obtain ⟨mk, methM, cM, hnamed, hmethM, -, -, -, -, -, -, hsigM⟩ := rz_codeS hx hts
  obtain ⟨hini, hy, -, -⟩ := rz_mok_ini hx
  obtain ⟨hstw, hlen⟩ := rz_mok_st hx hst
  have hstatic : methM.isStatic = true := Cond.static_spec hnamed hmethM (hts _ hstw)
  obtain ⟨kP, hkP, -⟩ := className_of_methodNamed hnamed
  have hinitP : kP.init = .initialized := Cond.initialized_spec (findClass_of_methodNamed hnamed) hkP (hts _ hini)
  rw [hsigM] at hlen
  obtain ⟨vm₁, X₁, hstep₁⟩ := X.invokestatic hexec hown hlink hnamed hmethM hstatic hkP hinitP hy (g := F0 m pc ls (av.reverse ++ rest)) rfl (argsL := av) (rest := rest) (hn.trans (Option.some.inj hlen).symm) rfl hdg
  exact ⟨mk, vm₁, hnamed, X₁, fun target h => hstep₁ _ fun acts => by rw [doInvoke_state] at h ⊢; exact h⟩
theorem rz_invV (X : Stand p l e R s m args below meth c T locs cells slots) (hexec : p.tables.exec = Jvm.exec) {own : String} {index x pc : Nat} (hx : rz_mok x = true) (hst : rz_st x = false) (hts : ∀ w ∈ rz_tw, w.before args s = true)
    (hown : s.vm.findClass own = some m.cls) (hlink : (Cond.methodLink own index (rz_y x)).before args s = true) {ls : Array Slot} {b : Addr} {cellB : Cell} (hcell : T.heap[b]? = some cellB) (hobj : cellB.vm.isStatics = false) (hcls : s.vm.findClass (rz_y x).cls = some cellB.cls)
    {av rest : List Value} (hn : av.length + 1 = rz_na x) (hdg : decode c.code pc = .ok (.invokevirtual index, 3)) :
    ∃ (mk : MethodId) (vm₁ : Vm), s.methodNamed? (rz_y x) = some mk ∧ Stand p l e R s m args below meth c (T.setVm vm₁) locs cells slots ∧
      ∀ target, Steps p.tables e below (doInvoke e ((T.setVm vm₁).setTop (F0 m pc ls rest)) [] mk (Value.ref b :: av).toArray).1 target → Steps p.tables e below (T.setTop (F0 m pc ls (av.reverse ++ .ref b :: rest))) target := by
  obtain ⟨mk, methM', cM, hnamed, hmethM', -, -, -, -, -, -, hsigM⟩ := rz_codeS hx hts
  obtain ⟨hini, hy, -, -⟩ := rz_mok_ini hx
  obtain ⟨hiw, hsw, -, hlen⟩ := rz_mok_vi hx hst
  obtain ⟨mk', methM, hnamed', hmethM, hstM, habM⟩ := Cond.instanceMethod_spec (hts _ hiw)
  cases hnamed.symm.trans hnamed'
  cases hmethM.symm.trans hmethM'
  obtain ⟨c2, r2, m2, q1, q2, q3, q4, kP, hkP, hkPi⟩ := Cond.selects_spec (hts _ hsw)
  cases hcls.symm.trans q1
  cases (State.methodFound?_of_named hnamed hy).symm.trans q2
  cases hnamed.symm.trans q3
  have hselP : selectMethod e.platform s.vm cellB.cls mk = .method mk := by rw [Launch.admits_selectMethod X.admits]; exact q4
  rw [hsigM] at hlen
  have hlen' : av.length = methM'.sig.parameters.length := by
    have h9 : methM'.sig.parameters.length + 1 = rz_na x := Option.some.inj hlen
    omega
  obtain ⟨vm₁, X₁, hstep₁⟩ := X.invokevirtual hexec hown hlink hnamed hmethM hstM hkP hkPi hy (a := b) (cell := cellB) hcell
    (fun z h => by rw [h] at hobj; cases hobj) hselP hmethM habM hkP hkPi (g := F0 m pc ls (av.reverse ++ .ref b :: rest)) rfl (argsL := av) (rest := rest) hlen' rfl hdg
  exact ⟨mk, vm₁, hnamed, X₁, fun target h => hstep₁ _ fun acts => by rw [doInvoke_state] at h ⊢; exact h⟩
set_option maxHeartbeats 2000000 in
/-- the way back by a contract -/
theorem rz_back (X : Stand p l e R s m args below meth c U locs cells slots) (hts : ∀ w ∈ rz_tw, w.before args s = true) {x : Nat} (hmx : rz_mok x = true) {av : List Value} {w w' : rz_W} {r : rz_R} (hM : rz_Met l x D cI cJ ad av w r w')
    {mk : MethodId} (hn : s.methodNamed? (rz_y x) = some mk) {g : JFrame} {ig : Instr} {len : Nat} (hg : g.method = m) (hsize : g.locals.size = c.maxLocals) (hdg : decode c.code g.pc = .ok (ig, len))
    (hW : 2 * g.monitorRoom + (g.stack.map fun v => v.category).sum ≤ 8) (hfr : rz_fr x + 1 ≤ R.frames) (hlo : 8 + (rz_mL x + 11) + rz_lo x ≤ R.locals) (hce : cells + rz_MC x ≤ R.cells) (hsl : slots + rz_MS x ≤ R.slots)
    (hP : rz_Pc D cI cJ ad av w (av.map (rz_v ad)).toArray (U.calling g mk (av.map (rz_v ad)).toArray)) :
    ∃ (o : Outcome) (t B : State) (Ls : List Loc), rz_Qc x D cI cJ ad w r w' (av.map (rz_v ad)).toArray (U.calling g mk (av.map (rz_v ad)).toArray) o t ∧ B.heap = t.heap ∧ B.vm = t.vm ∧ (∀ q ∈ Ls, va_A (rz_ws cI cJ ad w) U.heap.size q.base) ∧
      Stand p l e R s m args below meth c B (locs ++ Ls) (cells + rz_MC x) (slots + rz_MS x) ∧
      (∀ v, o = .returned v → Steps p.tables e below (doInvoke e (U.setTop g) [] mk (av.map (rz_v ad)).toArray).1 (B.setTop { g with pc := g.pc + len, stack := v.toList ++ g.stack })) ∧
      (∀ q, o = .threw q → Steps p.tables e below (doInvoke e (U.setTop g) [] mk (av.map (rz_v ad)).toArray).1 ((B.setTop g).pushFrame (.throwing q))) := by
  have hws := rz_hws hts
  obtain ⟨hini, -, -, -⟩ := rz_mok_ini hmx
  obtain ⟨mk', methY, cY, hn', hmY0, hcY, -, hlY, -⟩ := rz_codeS hmx hts
  cases hn.symm.trans hn'
  have hnU : U.methodNamed? (rz_y x) = some mk := X.named hn
  obtain ⟨mk2, methY2, cY2, hn2, hmY, hcY2, -, hlY2, -⟩ := rz_codeS (args := (av.map (rz_v ad)).toArray) (s := U) hmx (fun w hw => hws w hw _ _ X.warmed)
  cases hnU.symm.trans hn2
  obtain ⟨kY, hkY, -⟩ := className_of_methodNamed hnU
  have hinitY : kY.init = .initialized := Cond.initialized_spec (findClass_of_methodNamed hnU) hkY (hws _ hini (av.map (rz_v ad)).toArray U X.warmed)
  have h : At U g.method c below := by rw [hg]; exact X.here
  have happ : (headSpec rz_tw (rz_rm x)).appliesLoose (rz_y x) e.platform (U.calling g mk (av.map (rz_v ad)).toArray) = true :=
    Spec.appliesLoose_calling (g := g) h hdg hnU hkY hinitY
      (X.room_calling (g := g) (R' := rz_rm x) hsize hmY hcY2 hfr (by rw [hlY2]; show _ + rz_lo x ≤ _; omega) hce hsl) (atoms_intro fun w hw => hws w hw _ _ X.warmed)
  obtain ⟨mid, hmid⟩ := h.above
  have hfrm : (U.setTop g).frames = (.java g :: mid) ++ below := by rw [State.frames_setTop' g h.top, hmid]; rfl
  obtain ⟨o, t, hsteps, -, hend, hq⟩ := Steps.callFree hM p X.admits X.cas X.clock (acts := []) hfrm happ hP trivial
  have hq' : rz_Qc x D cI cJ ad w r w' (av.map (rz_v ad)).toArray (U.calling g mk (av.map (rz_v ad)).toArray) o t := hq
  rw [State.frames_setTop' g h.top] at hend
  obtain ⟨-, -, hW2, -, ⟨Ls, hsame, hLs⟩, -⟩ := id hq'
  have hW' : U.WarmedH t.vm := hW2
  obtain ⟨e2, q2, q3, q4, q5, q6⟩ := id hsame
  have e3 : t = ({ (U.calling g mk (av.map (rz_v ad)).toArray).setFrames t.frames with heap := t.heap, slotsUsed := t.slotsUsed } : State).setVm t.vm := by
    have : t = ({ t with vm := (U.calling g mk (av.map (rz_v ad)).toArray).vm } : State).setVm t.vm := rfl
    rw [e2] at this
    exact this
  obtain ⟨g₀, hg0⟩ := Option.isSome_iff_exists.mp h.top
  obtain ⟨fr, hfr0⟩ := State.topJava?_eq_some.mp hg0
  have hsameU : U.sameButNew ({ U with heap := t.heap, slotsUsed := t.slotsUsed } : State) Ls (rz_MC x) (rz_MS x) := by
    refine ⟨?_, q2, q3, q4, q5, q6⟩
    obtain ⟨th, hth, -⟩ := State.frames_cons hfr0
    show ({ U with heap := t.heap, slotsUsed := t.slotsUsed } : State) = { U.setFrames U.frames with heap := t.heap, slotsUsed := t.slotsUsed }
    rw [State.setFrames_self hth]
  have hrB : (({ U with heap := t.heap, slotsUsed := t.slotsUsed } : State).setVm t.vm).frames = .java g₀ :: fr := hfr0
  subst hg
  refine ⟨o, t, (({ U with heap := t.heap, slotsUsed := t.slotsUsed } : State).setVm t.vm), Ls, hq', rfl, rfl, hLs,
    ⟨X.admits, X.cas, X.clock, X.frames, X.room, X.hears, X.method, X.code, (X.here.setHeapUsed t.heap t.slotsUsed).setVm hW'.alike, X.tail, State.WarmedH.trans X.warmed hW', X.limits, X.bytes, X.same.trans (hsameU.setVm s.vm)⟩, ?_, ?_⟩
  · intro v hv
    subst hv
    obtain ⟨c₂, i₂, len₂, hc₂, hd₂, hf₂⟩ := hend
    have hcc : c₂ = c := by
      have h1 : t.code? g.method = U.code? g.method := by
        rw [State.code?_eq, State.code?_eq, hW'.alike.method?]
      exact Option.some.inj (hc₂.symm.trans (h1.trans h.code))
    subst hcc
    have hlen : len₂ = len := by rw [hdg] at hd₂; cases hd₂; rfl
    subst hlen
    have hs₂ : t = (({ U with heap := t.heap, slotsUsed := t.slotsUsed } : State).setVm t.vm).setTop { g with pc := g.pc + len₂, stack := v.toList ++ g.stack } := by
      refine e3.trans ?_
      rw [hf₂, State.calling_eq h.top, State.setFrames_setFrames, State.setTop_of_frames _ hrB, hfr0]
      rfl
    rw [← hs₂]
    exact hsteps
  · intro q hv
    subst hv
    have hend' : t.frames = .throwing q :: (.java g :: U.frames.tail) := hend
    have hs₂ : t = ((({ U with heap := t.heap, slotsUsed := t.slotsUsed } : State).setVm t.vm).setTop g).pushFrame (.throwing q) := by
      refine e3.trans ?_
      rw [hend', State.calling_eq h.top, State.setFrames_setFrames, State.setTop_of_frames _ hrB, State.pushFrame, State.setFrames_setFrames, State.frames_setFrames _ (State.cur_lt_of_frames hrB), hfr0]
      rfl
    rw [← hs₂]
    exact hsteps
end RZC
end
section
/-! a handler is found: the rows ahead of it are passed, its own row takes the exception -/
set_option maxRecDepth 100000 in
theorem rz_hoks : (List.range 112).all (fun M => ((rz_hd M).zip (rz_hk M)).all (fun q => decide (Cond.classLink (rz_y M).cls q.1.2.2.2 (rz_xn q.2) ∈ lw_tbl) && decide (q.1.2.2.2 ≠ 0) && decide (q.2 < 4))) = true := by decide +kernel
section RZH
variable {Q : Handler → Pre} {E : CtlPost} {e : Env} {d : Bool} {acts : List Action} {S : State} {f : JFrame} {a : Addr}
theorem rz_go_take {x : ExceptionTableEntry} {t : List ExceptionTableEntry} {c : ClassId} {cell : Cell} (hx : covers x f.pc = true) (h0 : x.catchType ≠ 0)
    (hl : S.vm.ClassLinks e.platform f.method.cls x.catchType c) (hcell : S.heap[a]? = some cell) (hobj : ∀ k, cell.vm ≠ .statics k)
    (hk : ∃ k, S.vm.classes[cell.cls]? = some k) (hc : ∃ k, S.vm.classes[c]? = some k) :
    wp (findHandler.go f a (x :: t)) Q E e d acts S ↔ if S.vm.assignable cell.cls c = true then Q (.found x.handlerPc) d acts (S.setVm (S.vm.noted f.method.cls x.catchType (.cls c))) else wp (findHandler.go f a t) Q E e d acts (S.setVm (S.vm.noted f.method.cls x.catchType (.cls c))) := by
  simp only [covers] at hx
  obtain ⟨ha, ht⟩ := (resolveClass_links e.toSetting hl).op (op := VmOp.resolveClass f.method.cls x.catchType) rfl
  have hal : S.vm.Alike (S.vm.noted f.method.cls x.catchType (.cls c)) := (Vm.Alike.refl S.vm).noted _ _ _
  obtain ⟨k1, hk1⟩ := hk
  obtain ⟨k2, hk2⟩ := hc
  obtain ⟨k1', hk1', -⟩ := hal.2.2 _ _ hk1
  obtain ⟨k2', hk2', -⟩ := hal.2.2 _ _ hk2
  have has : (S.vm.noted f.method.cls x.catchType (.cls c)).assignable cell.cls c = S.vm.assignable cell.cls c := by rw [hal.assignable]
  cases hfit : S.vm.assignable cell.cls c <;> rw [hfit] at has <;>
    simp [findHandler.go, hx, h0, ha, ht, hcell, hobj, hk1', hk2', has, VmOp.dirties, VmOp.acts]
end RZH
theorem rz_find {e : Env} {s : State} {args : Array Value} {f : JFrame} {a : Addr} {cell : Cell} {k hp : Nat} {own : String} (hpl : e.platform.magicAccessors = ({} : Platform).magicAccessors) (hown : s.vm.findClass own = some f.method.cls) (hk4 : k < 4)
    (hobj : ∀ k, cell.vm ≠ .statics k) (hcls : s.vm.findClass (rz_xn k) = some cell.cls) (hself : s.vm.assignable cell.cls cell.cls = true)
    (hnc : ∀ i j : Nat, i < 4 → j < 4 → i ≠ j → ∀ c c' : ClassId, s.vm.findClass (rz_xn i) = some c → s.vm.findClass (rz_xn j) = some c' → s.vm.assignable c c' = false) :
    ∀ (tbl : List ExceptionTableEntry) (ks : List Nat) (S : State), (∀ q ∈ (tbl.map (fun h => (h.startPc, h.endPc, h.handlerPc, h.catchType))).zip ks, (Cond.classLink own q.1.2.2.2 (rz_xn q.2)).before args s = true ∧ q.1.2.2.2 ≠ 0 ∧ q.2 < 4) →
      rz_go (tbl.map (fun h => (h.startPc, h.endPc, h.handlerPc, h.catchType))) ks f.pc k = some hp → s.WarmedH S.vm → S.heap[a]? = some cell →
      ∃ vm', s.WarmedH vm' ∧ ∀ (Q : Handler → Pre) (E : CtlPost) (d : Bool) (acts : List Action), wp (findHandler.go f a tbl) Q E e d acts S ↔ Q (.found hp) d acts (S.setVm vm') := by
  obtain ⟨k0, hk0⟩ := Vm.classAt_of_findClass hcls
  intro tbl
  induction tbl with
  | nil => intro ks S _ hgo; cases ks <;> cases hgo
  | cons x t ih =>
    intro ks S hall hgo hW hcell
    cases ks with
    | nil => cases hgo
    | cons q ks =>
      rw [List.map_cons] at hall hgo
      obtain ⟨k0', hk0', -⟩ := hW.alike.2.2 _ _ hk0
      obtain ⟨hlink, hne, hq4⟩ := hall ((x.startPc, x.endPc, x.handlerPc, x.catchType), q) List.mem_cons_self
      dsimp only at hlink hne hq4
      have hrest := fun z hz => hall z (List.mem_cons_of_mem _ hz)
      rw [rz_go] at hgo
      dsimp only at hgo
      by_cases hcov : covers x f.pc = true
      · have hcov' : x.startPc ≤ f.pc ∧ f.pc < x.endPc := by simpa [covers] using hcov
        obtain ⟨c', hc', hcl⟩ := Cond.classLink_spec hown hlink e.platform hpl
        obtain ⟨dk, _, _, kt, hd, _, _, _, _, hkt, _, hopen⟩ := hcl.here
        obtain ⟨kt', hkt', -⟩ := hW.alike.2.2 _ _ hkt
        have hW' := hW.noted hd hopen (State.rightAt_cls hcl)
        by_cases hqk : q = k
        · subst hqk
          rw [if_pos ⟨hcov'.1, hcov'.2, rfl⟩] at hgo
          cases hgo
          cases hcls.symm.trans hc'
          refine ⟨_, hW', fun Q E d acts => ?_⟩
          rw [rz_go_take hcov hne (hW.classLinks hcl) hcell hobj ⟨k0', hk0'⟩ ⟨kt', hkt'⟩, if_pos (by rw [hW.alike.assignable]; exact hself)]
        · rw [if_neg (fun h => hqk h.2.2)] at hgo
          obtain ⟨vm', hW2, hq⟩ := ih ks (S.setVm (S.vm.noted f.method.cls x.catchType (.cls c'))) hrest hgo hW' hcell
          refine ⟨vm', hW2, fun Q E d acts => ?_⟩
          rw [rz_go_take hcov hne (hW.classLinks hcl) hcell hobj ⟨k0', hk0'⟩ ⟨kt', hkt'⟩, if_neg (by rw [hW.alike.assignable, hnc k q hk4 hq4 (fun h => hqk h.symm) _ _ hcls hc']; decide)]
          exact hq Q E d acts
      · have hcov' : covers x f.pc = false := by simpa using hcov
        rw [if_neg (fun h => hcov (by simp [covers, h.1, h.2.1]))] at hgo
        obtain ⟨vm', hW2, hq⟩ := ih ks S hrest hgo hW hcell
        exact ⟨vm', hW2, fun Q E d acts => by rw [W.findHandler_go_skip hcov']; exact hq Q E d acts⟩
theorem rz_caught {p : Program} {l : Launch} {e : Env} {R : Room} {s : State} {m : MethodId} {args : Array Value} {below : List Frame} {meth : Method} {c : Code} {T : State} {locs : List Loc} {cells slots : Nat}
    (X : Stand p l e R s m args below meth c T locs cells slots) {g : JFrame} (hg : g.method = m) {a : Addr} {cell : Cell} {k hp : Nat} {own : String} (hown : s.vm.findClass own = some m.cls) (hk4 : k < 4) (hcell : T.heap[a]? = some cell)
    (hobj : cell.vm.isStatics = false) (hcls : s.vm.findClass (rz_xn k) = some cell.cls) (hself : s.vm.assignable cell.cls cell.cls = true)
    (hnc : ∀ i j : Nat, i < 4 → j < 4 → i ≠ j → ∀ c c' : ClassId, s.vm.findClass (rz_xn i) = some c → s.vm.findClass (rz_xn j) = some c' → s.vm.assignable c c' = false)
    (ks : List Nat) (hall : ∀ q ∈ (c.exceptionTable.toList.map (fun h => (h.startPc, h.endPc, h.handlerPc, h.catchType))).zip ks, (Cond.classLink own q.1.2.2.2 (rz_xn q.2)).before args s = true ∧ q.1.2.2.2 ≠ 0 ∧ q.2 < 4)
    (hgo : rz_go (c.exceptionTable.toList.map (fun h => (h.startPc, h.endPc, h.handlerPc, h.catchType))) ks g.pc k = some hp) :
    ∃ vm', Stand p l e R s m args below meth c (T.setVm vm') locs cells slots ∧
      ∀ target, Steps p.tables e below ((T.setVm vm').setTop { g with pc := hp, stack := [.ref a] }) target → Steps p.tables e below ((T.setTop g).pushFrame (.throwing a)) target := by
  subst hg
  have hpl : e.platform.magicAccessors = ({} : Platform).magicAccessors := by rw [X.admits.platform]
  obtain ⟨vm', hW', hq⟩ := rz_find (f := g) (a := a) hpl hown hk4 (VmData.ne_statics_of hobj) hcls hself hnc c.exceptionTable.toList ks ((T.setTop g).pushFrame (.throwing a)) hall hgo X.warmed hcell
  refine ⟨vm', X.noted hW', fun target hrest => ?_⟩
  obtain ⟨hgoes, hw⟩ := X.here.throwing a
  refine Steps.head hgoes hw ?_
  have hfind : ∀ (Q : Handler → Pre) (E : CtlPost) (d : Bool) (acts : List Action), wp (findHandler g a) Q E e d acts ((T.setTop g).pushFrame (.throwing a)) ↔ Q (.found hp) d acts (((T.setTop g).pushFrame (.throwing a)).setVm vm') := fun Q E d acts => by
    rw [W.findHandler_eq (s := (T.setTop g).pushFrame (.throwing a)) (meth := meth) (code := c) X.method' X.code]
    exact hq Q E d acts
  have hstep : ∀ r, (stepThrowing e ((T.setTop g).pushFrame (.throwing a)) a (.java g :: r)).Is ((((T.setTop g).pushFrame (.throwing a)).setVm vm').setFrames (.java { g with pc := hp, stack := [.ref a] } :: r)) [] := by
    intro r
    simp only [stepThrowing, searchFrame, vmDo]
    generalize hr : Sem.go _ e false [] ((T.setTop g).pushFrame (.throwing a)) = res
    obtain ⟨as, rfl, ha⟩ := Sem.eq_ok_of hr (a := Handler.found hp) (s' := ((T.setTop g).pushFrame (.throwing a)).setVm vm') (acts' := []) (by simp [hfind _ _ _ _])
    exact ⟨rfl, ha⟩
  rw [stepThread_throwing (frames_entered X.here.top _), (hstep _).1]
  obtain ⟨g₀, hg0⟩ := Option.isSome_iff_exists.mp X.here.top
  obtain ⟨r, hr⟩ := State.topJava?_eq_some.mp hg0
  have hr' : (T.setVm vm').frames = .java g₀ :: r := hr
  rw [State.setTop_of_frames _ hr'] at hrest
  rw [hr]
  rw [State.setTop_of_frames _ hr, State.pushFrame, State.setFrames_setFrames]
  have hcm : ∀ Z Y : List Frame, ((T.setFrames Z).setVm vm').setFrames Y = (T.setVm vm').setFrames Y := fun Z Y => by
    rw [show (T.setFrames Z).setVm vm' = (T.setVm vm').setFrames Z from rfl, State.setFrames_setFrames]
  rw [hcm]
  exact hrest
end
section
/-! a throw: the walk is told anew from the state where it stands (nothing written since), then the library's law of a constructed exception -/
theorem rz_same_nil {s s' : State} {k n : Nat} (h : s.sameButNew s' [] k n) {q : Nat} {c : Cell} (hq : s.heap[q]? = some c) : s'.heap[q]? = some c := by
  obtain ⟨-, -, -, -, -, h6⟩ := h
  obtain ⟨c', h1, h2, h3, h4⟩ := h6 q c hq
  have hs : c'.slots = c.slots := by
    apply Array.ext_getElem?
    intro i
    exact h4 i (by simp)
  rw [h1, h2, hs]
theorem rz_rebase {p : Program} {l : Launch} {e : Env} {R : Room} {s : State} {m : MethodId} {args : Array Value} {below : List Frame} {meth : Method} {c : Code} {T : State} {locs : List Loc} {cells slots : Nat}
    (X : Stand p l e R s m args below meth c T locs cells slots) (hce : cells ≤ R.cells) (hsl : slots ≤ R.slots) :
    Stand p l e { frames := R.frames, cells := R.cells - cells, slots := R.slots - slots, locals := R.locals } (T.setFrames (.invoking m args :: below)) m args below meth c T [] 0 0 := by
  obtain ⟨g₀, hg0⟩ := Option.isSome_iff_exists.mp X.here.top
  obtain ⟨r, hr⟩ := State.topJava?_eq_some.mp hg0
  obtain ⟨th, hth, -⟩ := State.frames_cons hr
  have hcur : T.cur < T.threads.size := State.cur_lt_of_frames hr
  have hf' : (T.setFrames (.invoking m args :: below)).frames = .invoking m args :: below := State.frames_setFrames _ hcur
  have hback : (T.setFrames (.invoking m args :: below)).setFrames T.frames = T := by rw [State.setFrames_setFrames, State.setFrames_self hth]
  have hal : s.vm.Alike T.vm := X.warmed.alike
  refine ⟨X.admits, X.cas, X.clock, hf', ?_, ?_, X.method', X.code, X.here, X.tail, State.WarmedH.refl (T.setFrames (.invoking m args :: below)), ?_, ?_, ?_⟩
  · have h := X.room
    have h1 : (T.setFrames (.invoking m args :: below)).localsInUse = s.localsInUse := by
      rw [State.localsInUse_invoking hf' (meth := meth) (c := c) X.method' X.code, State.localsInUse_invoking X.frames X.method X.code]
    have h2 : (T.setFrames (.invoking m args :: below)).frames.length = s.frames.length := by rw [hf', X.frames]
    have h3 : e.platform.stackLimits (T.setFrames (.invoking m args :: below)).me = e.platform.stackLimits s.me := by rw [State.stackLimits_setFrames, X.limits]
    have h4 : (T.setFrames (.invoking m args :: below)).me.stackBytes = s.me.stackBytes := by rw [State.stackBytes_setFrames, X.bytes]
    have h5 : T.heap.size ≤ s.heap.size + cells := X.heapSize
    have h6 : T.slotsUsed ≤ s.slotsUsed + slots := X.used
    have h7 : (T.setFrames (.invoking m args :: below)).slotsTrue = true := X.book
    have h8 : (T.setFrames (.invoking m args :: below)).heap.size = T.heap.size := rfl
    have h9 : (T.setFrames (.invoking m args :: below)).slotsUsed = T.slotsUsed := rfl
    simp only [State.hasRoom, Bool.and_eq_true, decide_eq_true_eq] at h ⊢
    rw [h1, h2, h3, h4, h8, h9]
    refine ⟨⟨⟨h.1.1.1, ?_⟩, ?_⟩, h7⟩
    · have := h.1.1.2
      omega
    · have := h.1.2
      omega
  · have h := X.hears
    cases below with
    | nil =>
      simp only [State.hears] at h ⊢
      rw [show (T.setFrames (.invoking m args :: [])).vm.method? m = s.vm.method? m from by show T.vm.method? m = _; rw [hal.method?]]
      exact h
    | cons f fs =>
      cases f with
      | java g =>
        simp only [State.hears] at h ⊢
        rw [show (T.setFrames (.invoking m args :: .java g :: fs)).code? g.method = s.code? g.method from by rw [State.code?_eq, State.code?_eq]; show (T.vm.method? _).bind _ = _; rw [hal.method?]]
        exact h
      | _ =>
        first
          | rfl
          | (simp only [State.hears] at h ⊢
             first
               | exact h
               | (rw [show ∀ Z : List Frame, (T.setFrames Z).vm.method? m = s.vm.method? m from fun Z => by show T.vm.method? m = _; rw [hal.method?]]
                  exact h))
  · rw [State.stackLimits_setFrames]
  · rw [State.stackBytes_setFrames]
  · have ht' : ∃ t, (T.setFrames (.invoking m args :: below)).threads[(T.setFrames (.invoking m args :: below)).cur]? = some t := by
      obtain ⟨t, ht, -⟩ := State.frames_cons hf'
      exact ⟨t, ht⟩
    obtain ⟨t, ht⟩ := ht'
    have h := (State.sameButNew.refl (T.setFrames (.invoking m args :: below)) ht).setFrames T.frames (State.cur_lt_of_frames hf')
    rw [hback] at h
    exact h
def rz_oaw (x ic : Nat) : Bool := (Bundle.ownAtoms "RowImprover" ic (rz_xn x) rz_names).all (fun a => (decide (a ∈ lw_tbl) && (goodWord a || rz_isX a)) || decide (a = .laysStatic rz_tN "UNASSIGNED_STACK" "[Ljava/lang/StackTraceElement;") || decide (a = .laysStatic rz_tN "SUPPRESSED_SENTINEL" "Ljava/util/List;") || decide (a = .isRef (.static rz_tN "UNASSIGNED_STACK" "[Ljava/lang/StackTraceElement;")) || decide (a = .isRef (.static rz_tN "SUPPRESSED_SENTINEL" "Ljava/util/List;")))
set_option maxRecDepth 100000 in
theorem rz_oa0 : rz_oaw 0 54 = true := by decide +kernel
set_option maxRecDepth 100000 in
theorem rz_oa1 : rz_oaw 1 65 = true := by decide +kernel
set_option maxRecDepth 100000 in
theorem rz_oa2 : rz_oaw 2 82 = true := by decide +kernel
set_option maxRecDepth 100000 in
theorem rz_oa3 : rz_oaw 3 146 = true := by decide +kernel
def rz_icx (x : Nat) : Nat := match x with
  | 0 => 54
  | 1 => 65
  | 2 => 82
  | _ => 146
theorem rz_oa {x ic : Nat} (h : x < 4) (hi : ic = rz_icx x) : rz_oaw x ic = true := by
  subst hi
  match x, h with
  | 0, _ => exact rz_oa0
  | 1, _ => exact rz_oa1
  | 2, _ => exact rz_oa2
  | 3, _ => exact rz_oa3
theorem rz_xw0 : ∀ x, x < 4 → (Cond.instantiable (rz_xn x) 6 ∈ lw_tbl ∧ Cond.initialized (rz_xn x) ∈ lw_tbl ∧ Bundle.fit (rz_xn x) = true) := by decide +kernel
end
section
set_option maxRecDepth 100000 in
theorem rz_len3s : (List.range 112).all (fun M => (rz_T M).all (fun e => match e.2 with
  | (3, _, len, _) => decide (len = 3)
  | _ => true)) = true := by decide +kernel
theorem rz_all3 {M pc len x y z : Nat} {ins : Instr} (h : rz_code M pc = some (3, ins, len, x, y, z)) : len = 3 :=
  of_decide_eq_true (List.all_eq_true.mp (List.all_eq_true.mp rz_len3s M (List.mem_range.mpr (rz_lt h))) (pc, (3, ins, len, x, y, z)) (rz_lookup h))
theorem rz_ok3 {M pc len x y z : Nat} {ins : Instr} (h : rz_ok M pc (3, ins, len, x, y, z) = true) : ∃ idx : Nat, decode (rz_by M) pc = .ok (.new idx, len) ∧ ins = .new idx ∧ x < 4 ∧ Cond.classLink (rz_y M).cls idx (rz_xn x) ∈ rz_tw ∧ (rz_y M).cls = "RowImprover" ∧ y = rz_icx x ∧ decode (rz_by M) (pc + 3) = .ok (.dup, 1) ∧ decode (rz_by M) (pc + 4) = .ok (.ldc z, 2) ∧ decode (rz_by M) (pc + 6) = .ok (.invokespecial y, 3) ∧ decode (rz_by M) (pc + 9) = .ok (.athrow, 1) ∧ (∃ tx, Cond.stringRef "RowImprover" z tx ∈ lw_tbl) ∧ rz_hd M = [] ∧ 6 ≤ rz_fr M ∧ 90 ≤ rz_lo M := by
  obtain ⟨h1, h2⟩ := Bool.and_eq_true_iff.mp h
  have h1 : decode (rz_by M) pc = .ok (ins, len) := of_decide_eq_true h1
  cases ins <;> first | exact absurd (show false = true from h2) (by decide) | skip
  obtain ⟨h2, a12⟩ := Bool.and_eq_true_iff.mp h2
  obtain ⟨h2, a11⟩ := Bool.and_eq_true_iff.mp h2
  obtain ⟨h2, a10⟩ := Bool.and_eq_true_iff.mp h2
  obtain ⟨h2, a9⟩ := Bool.and_eq_true_iff.mp h2
  obtain ⟨h2, a8⟩ := Bool.and_eq_true_iff.mp h2
  obtain ⟨h2, a7⟩ := Bool.and_eq_true_iff.mp h2
  obtain ⟨h2, a6⟩ := Bool.and_eq_true_iff.mp h2
  obtain ⟨h2, a5⟩ := Bool.and_eq_true_iff.mp h2
  obtain ⟨h2, a4⟩ := Bool.and_eq_true_iff.mp h2
  obtain ⟨h2, a3⟩ := Bool.and_eq_true_iff.mp h2
  obtain ⟨a1, a2⟩ := Bool.and_eq_true_iff.mp h2
  refine ⟨_, h1, rfl, of_decide_eq_true a1, rz_use (rz_wd_in a2) rfl, of_decide_eq_true a3, of_decide_eq_true a4, of_decide_eq_true a5, of_decide_eq_true a6, of_decide_eq_true a7, of_decide_eq_true a8, ?_, of_decide_eq_true a10, of_decide_eq_true a11, of_decide_eq_true a12⟩
  obtain ⟨w, hw, hs⟩ := List.any_eq_true.mp a9
  split at hs
  · rename_i o k tx
    simp only [Bool.and_eq_true, beq_iff_eq] at hs
    obtain ⟨rfl, rfl⟩ := hs
    exact ⟨tx, hw⟩
  · cases hs
set_option maxHeartbeats 4000000 in
set_option maxRecDepth 100000 in
theorem rz_throwW {p : Program} {l : Launch} {e : Env} {R : Room} {s : State} {m : MethodId} {args : Array Value} {below : List Frame} {meth : Method} {c : Code} {H : Heap} {locs : List Loc} {cells slots : Nat} {M : Nat} {A : Nat → Prop}
    (hl : l.stackTraces = false) (hx : p.tables.exec = Jvm.exec) (hb : c.code = rz_by M) (hml : c.maxLocals = rz_mL M) (hown : s.vm.findClass (rz_y M).cls = some m.cls) (hts : ∀ w ∈ rz_tw, w.before args s = true) (hX : rz_X A s s.heap) (hR : R = rz_rm M) (hlocks : meth.locks = false)
    (hh : c.exceptionTable.toList.map (fun h => (h.startPc, h.endPc, h.handlerPc, h.catchType)) = rz_hd M) (hk0 : ∀ a : Nat, a < s.heap.size → ¬ A a → H[a]? = s.heap[a]?) {pc len x y z : Nat} {ins : Instr} {ls : Array Slot} (hls : ls.size = rz_mL M)
    (hcd : rz_code M pc = some (3, ins, len, x, y, z)) (hce : cells + 1 ≤ R.cells) (hsl : slots + 6 ≤ R.slots) :
    W p l e R s m args below meth c H locs cells slots (fun t => ∃ (q : Addr) (ce : Cell), t.status = .running ∧ Ended t below (.threw q) ∧ s.WarmedH t.vm ∧ s.sameButNew ({ t with vm := s.vm } : State) locs (cells + 1) (slots + 6) ∧ t.heap[q]? = some ce ∧ ce.vm.isStatics = false ∧ s.vm.findClass (rz_xn x) = some ce.cls ∧ s.vm.assignable ce.cls ce.cls = true ∧ H.size ≤ t.heap.size ∧ ∀ a : Nat, a < H.size → t.heap[a]? = H[a]?) (F0 m pc ls []) := by
  obtain ⟨idx, d0, rfl, hx4, hcl, hcls, hyy, d3, d4, d6, d9, ⟨tx, htx⟩, hnil, hfr, hlo⟩ := rz_ok3 (rz_all hcd)
  have hlen : len = 3 := rz_all3 hcd
  subst hlen
  intro T hT X
  subst hT
  have Y := rz_rebase X (by omega) (by omega)
  have hws := rz_hws hts
  have htr : e.platform.stackTraces = false := by rw [Example.NoTraceControls.admits_follows X.admits]; exact hl
  generalize hs' : T.setFrames (.invoking m args :: below) = s' at Y
  have hvm : s'.vm = T.vm := by rw [← hs']; rfl
  have hheap : s'.heap = T.heap := by rw [← hs']; rfl
  have hW' : s.WarmedH s'.vm := by rw [hvm]; exact X.warmed
  have hX' : rz_X (fun _ => False) s' s'.heap := by
    rw [hheap]
    exact hX.go hW' hk0 (fun _ _ h => h.elim)
  have hown' : s'.vm.findClass "RowImprover" = some m.cls := by rw [← hcls, hW'.alike.findClass]; exact hown
  have hatoms : ∀ a ∈ Bundle.ownAtoms "RowImprover" y (rz_xn x) rz_names, a.before args s' = true := by
    intro a ha
    have h1 := List.all_eq_true.mp (rz_oa hx4 hyy) a ha
    simp only [Bool.or_eq_true, Bool.and_eq_true, decide_eq_true_eq] at h1
    rcases h1 with (((⟨h1, h2⟩ | rfl) | rfl) | rfl) | rfl
    · rcases h2 with h2 | h2
      · exact hws a (rz_use h1 h2) args s' hW'
      · have h3 := hX'.2.2.1 a h1 h2
        cases a <;> first | (simp [rz_isX] at h2; done) | exact va_tabs rfl rfl h3
    · exact hX'.1.lays
    · exact hX'.2.1.lays
    · exact hX'.1.isRef
    · exact hX'.2.1.isRef
  obtain ⟨hw1, hw2, hfit⟩ := rz_xw0 x hx4
  obtain ⟨vm₁, cX, kX, hfX, hkX, -, -, X₁, st1⟩ := Y.newCold hx (own := "RowImprover") (C := rz_xn x) (index := idx) (n := 6) hown' (by rw [← hcls]; exact hws _ hcl args s' hW') (hws _ (rz_use hw1 rfl) args s' hW') (hws _ (rz_use hw2 rfl) args s' hW')
    (g := F0 m pc ls []) rfl (by rw [hb]; exact d0) (by show 0 + 1 ≤ R.cells - cells; omega) (by show 0 + 6 ≤ R.slots - slots; omega)
  generalize hT1 : (T.setVm vm₁).pushCell { cls := cX, slots := kX.instanceTypes.map defaultValue, vm := .none } = T1 at X₁ st1
  have hcellA : T1.heap[T.heap.size]? = some (freshCell cX kX) := by rw [← hT1]; exact State.heap_pushCell_size _ _
  obtain ⟨sa0, hsa⟩ := hX'.2.2.2.1 _ _ _ htx
  have hconst : (Cond.stringRef "RowImprover" z tx).before args s' = true := hsa.1
  obtain ⟨-, -, -, sa, -, -, -, -, -, hev⟩ := Cond.stringRef_spec hown' hconst
  have hempty : c.exceptionTable.isEmpty = true := by
    rw [hnil] at hh
    have h1 : c.exceptionTable.toList = [] := List.map_eq_nil_iff.mp hh
    have h2 : c.exceptionTable = #[] := by
      apply Array.toList_inj.mp
      simpa using h1
    rw [h2]; rfl
  obtain ⟨U, hsteps, hrun, hend, hWU, hsame, ce, hce1, K⟩ := X₁.ctorThrowS hx htr (own := "RowImprover") (cls := rz_xn x) (names := rz_names) (ic := y) hown' hfit (by decide +kernel)
    hatoms (fun y9 hy9 => by cases hy9) hfX hkX hcellA (by rw [hheap]; exact Nat.le_refl _) (msg := .ref sa) rfl
    (g := F0 m (pc + 6) ls [.ref sa, .ref T.heap.size, .ref T.heap.size]) rfl (by rw [hml]; exact hls) rfl rfl (rest := []) rfl
    (by rw [hb]; exact d6) (by rw [hb]; exact d9) (covers_of_empty hempty _) (by show 2 + 3 < R.frames; rw [hR]; show 5 < rz_fr M; omega) (by rw [hR]; show 2 * 0 + 1 + 81 ≤ rz_lo M; omega) hlocks
  have hkeep : ∀ a : Nat, a < T.heap.size → U.heap[a]? = T.heap[a]? := fun a ha => by
    have h1 : s'.heap[a]? = some T.heap[a] := by rw [hheap]; exact Array.getElem?_eq_getElem ha
    have h2 := rz_same_nil hsame h1
    rw [show U.heap[a]? = ({ U with vm := s'.vm } : State).heap[a]? from rfl, h2, Array.getElem?_eq_getElem ha]
  have hTU : T.sameButNew (U.setVm T.vm) [] 1 6 := by
    obtain ⟨q1, q2, q3, q4, q5, q6⟩ := hsame
    rw [hvm] at q1
    rw [hheap] at q2 q3 q4 q5 q6
    refine ⟨?_, q2, q3, ?_, q5, q6⟩
    · refine (show U.setVm T.vm = ({ U with vm := T.vm } : State) from rfl).trans (q1.trans ?_)
      rw [← hs']
      show ({ (T.setFrames (.invoking m args :: below)).setFrames _ with heap := _, slotsUsed := _ } : State) = _
      rw [State.setFrames_setFrames]
      rfl
    · rw [← hs'] at q4
      exact q4
  refine ⟨U, ?_, T.heap.size, ce, hrun, hend, State.WarmedH.trans X.warmed ?_, ?_, hce1, by rw [K.vm]; rfl, ?_, ?_, ?_, hkeep⟩
  · refine st1 _ ?_
    show Steps p.tables e below (T1.setTop (F0 m (pc + 3) ls [.ref T.heap.size])) _
    have d3' : decode c.code (pc + 3) = .ok (.dup, 1) := by rw [hb]; exact d3
    jvm_step X₁.here [X₁.here.top, hx, d3', Value.category]
    exact X₁.ldcString hx (own := "RowImprover") (text := tx) (index := z) (a := sa) hown' hconst hev (g := F0 m (pc + 4) ls [.ref T.heap.size, .ref T.heap.size]) rfl (by rw [hb]; exact d4) _ hsteps
  · rw [← hs'] at hWU
    exact hWU
  · have h := X.same.trans (hTU.setVm s.vm)
    rw [List.append_nil] at h
    exact h
  · rw [← hW'.alike.findClass]; exact K.cls
  · rw [← hW'.alike.assignable]; exact K.self
  · have := hTU.2.1
    exact this
end
section
/-! a call of the abstract machine, in the walk -/
theorem rz_ok1 {M pc len x y z : Nat} {ins : Instr} (h : rz_ok M pc (1, ins, len, x, y, z) = true) : decode (rz_by M) pc = .ok (ins, 3) ∧ len = 3 ∧ y = rz_na x ∧ 0 < x ∧ rz_fr x + 1 ≤ rz_fr M ∧ 8 + (rz_mL x + 11) + rz_lo x ≤ rz_lo M ∧ ((∃ idx, ins = .invokestatic idx ∧ rz_st x = true ∧ Cond.methodLink (rz_y M).cls idx (rz_y x) ∈ rz_tw) ∨ (∃ idx, ins = .invokevirtual idx ∧ rz_st x = false ∧ Cond.methodLink (rz_y M).cls idx (rz_y x) ∈ rz_tw)) := by
  obtain ⟨h1, h2⟩ := Bool.and_eq_true_iff.mp h
  have h1 : decode (rz_by M) pc = .ok (ins, len) := of_decide_eq_true h1
  obtain ⟨h2, a6⟩ := Bool.and_eq_true_iff.mp h2
  obtain ⟨h2, a5⟩ := Bool.and_eq_true_iff.mp h2
  obtain ⟨h2, a4⟩ := Bool.and_eq_true_iff.mp h2
  obtain ⟨h2, a3⟩ := Bool.and_eq_true_iff.mp h2
  obtain ⟨a1, a2⟩ := Bool.and_eq_true_iff.mp h2
  have a1 : len = 3 := of_decide_eq_true a1
  subst a1
  refine ⟨h1, rfl, of_decide_eq_true a2, of_decide_eq_true a3, of_decide_eq_true a4, of_decide_eq_true a5, ?_⟩
  cases ins <;> first | exact absurd (show false = true from a6) (by decide) | skip
  · obtain ⟨b1, b2⟩ := Bool.and_eq_true_iff.mp a6
    exact Or.inl ⟨_, rfl, b1, rz_use (rz_wd_in b2) rfl⟩
  · obtain ⟨b1, b2⟩ := Bool.and_eq_true_iff.mp a6
    exact Or.inr ⟨_, rfl, by simpa using b1, rz_use (rz_wd_in b2) rfl⟩
theorem rz_go_lt {pc k hp : Nat} : ∀ (hs : List (Nat × Nat × Nat × Nat)) (ks : List Nat), (∀ q ∈ hs.zip ks, q.2 < 4) → rz_go hs ks pc k = some hp → k < 4 := by
  intro hs
  induction hs with
  | nil => intro ks _ h; cases ks <;> cases h
  | cons a t ih =>
    intro ks hq h
    cases ks with
    | nil => cases h
    | cons b ks =>
      rw [rz_go] at h
      by_cases hb : a.1 ≤ pc ∧ pc < a.2.1 ∧ b = k
      · have := hq (a, b) List.mem_cons_self
        rw [← hb.2.2]
        exact this
      · rw [if_neg hb] at h
        exact ih ks (fun q hq' => hq q (List.mem_cons_of_mem _ hq')) h
set_option maxHeartbeats 4000000 in
theorem rz_callW {p : Program} {l : Launch} {e : Env} {R : Room} {s : State} {m : MethodId} {args : Array Value} {below : List Frame} {meth : Method} {c : Code} {H : Heap} {locs : List Loc} {cells slots : Nat} {Q : State → Prop} {M : Nat} {D : va_G} {cI cJ : ClassId} {ad : Nat → Nat} {A : Nat → Prop}
    (hC : rz_Cx p R s m args c M D cI cJ A) (hX : rz_X A s s.heap) (hh : c.exceptionTable.toList.map (fun h => (h.startPc, h.endPc, h.handlerPc, h.catchType)) = rz_hd M)
    {pc len x y z : Nat} {ins : Instr} {L : rz_L} {st : List Value} {w w1 : rz_W} {r : rz_R} {ls : Array Slot} (hcd : rz_code M pc = some (1, ins, len, x, y, z)) (hx112 : x < 112)
    (hy : y ≤ st.length) (hmc : cells + rz_MC x ≤ rz_MC M) (hms : slots + rz_MS x ≤ rz_MS M) (hrecv : rz_recv w x ins (st.take y).reverse = true) (hcat : ((st.drop y).map fun v => v.category).sum ≤ 8)
    (hM : rz_Met l x D cI cJ ad (st.take y).reverse w r w1) (hP : va_P D rz_cl (rz_ws cI cJ ad w) H) (hD : va_D A (rz_ws cI cJ ad w)) (hS : va_S A s.heap H locs) (hL : rz_Lr ad ls (rz_mL M) L)
    (kret : ∀ v, r = .inl v → ∀ (H1 : Heap) (locs1 : List Loc), va_P D rz_cl (rz_ws cI cJ ad w1) H1 → va_D A (rz_ws cI cJ ad w1) → va_S A s.heap H1 locs1 → W p l e R s m args below meth c H1 locs1 (cells + rz_MC x) (slots + rz_MS x) Q (F0 m (pc + 3) ls ((v.toList ++ st.drop y).map (rz_v ad))))
    (kthr : ∀ k, r = .inr k → ∃ hp, rz_go (rz_hd M) (rz_hk M) pc k = some hp ∧ ∀ (H1 : Heap) (locs1 : List Loc) (q : Nat), va_P D rz_cl (rz_ws cI cJ ad w1) H1 → va_D A (rz_ws cI cJ ad w1) → va_S A s.heap H1 locs1 → W p l e R s m args below meth c H1 locs1 (cells + rz_MC x) (slots + rz_MS x) Q (F0 m hp ls [.ref q])) :
    W p l e R s m args below meth c H locs cells slots Q (F0 m pc ls (st.map (rz_v ad))) := by
  obtain ⟨hx, hb, hml, hown, hts, hK, hA, hR⟩ := hC
  obtain ⟨hdg, rfl, hna, hx0, hfr, hlo, hins⟩ := rz_ok1 (rz_all hcd)
  have hmx : rz_mok x = true := rz_mok_of hx0 hx112
  intro T hT X
  subst hT
  have hdg' : decode c.code pc = .ok (ins, 3) := by rw [hb]; exact hdg
  have hlen : ((st.take y).reverse.map (rz_v ad)).length = rz_na x := by simp [← hna, hy]
  have hstk : st.map (rz_v ad) = ((st.take y).reverse.map (rz_v ad)).reverse ++ (st.drop y).map (rz_v ad) := by
    rw [List.map_reverse, List.reverse_reverse, ← List.map_append, List.take_append_drop]
  have hinv : ∃ (mk : MethodId) (vm₁ : Vm), s.methodNamed? (rz_y x) = some mk ∧ Stand p l e R s m args below meth c (T.setVm vm₁) locs cells slots ∧
      ∀ target, Steps p.tables e below (doInvoke e ((T.setVm vm₁).setTop (F0 m pc ls ((st.drop y).map (rz_v ad)))) [] mk ((st.take y).reverse.map (rz_v ad)).toArray).1 target → Steps p.tables e below (T.setTop (F0 m pc ls (st.map (rz_v ad)))) target := by
    rcases hins with ⟨idx, rfl, hst, hlk⟩ | ⟨idx, rfl, hst, hlk⟩
    · rw [hstk]
      exact rz_invS X hx hmx hst hts hown (hts _ hlk) hlen hdg'
    · unfold rz_recv at hrecv
      dsimp only at hrecv
      split at hrecv
      · rename_i i tl hav
        split at hrecv
        · rename_i ci fs hw
          have hci : ci = rz_rc x := of_decide_eq_true hrecv
          obtain ⟨-, -, hcl, -⟩ := rz_mok_vi hmx hst
          cases hq : rz_cl[rz_rc x]? with
          | none => rw [hq] at hcl; cases hcl
          | some q =>
            rw [hq] at hcl
            have hq1 : q.1 = (rz_y x).cls := Option.some.inj hcl
            obtain ⟨cellB, b1, b2, b3⟩ := va_recv hK hP (by rw [hci]; exact hq) (rz_ws_get (cI := cI) (cJ := cJ) (ad := ad) hw)
            rw [hq1] at b3
            rw [hstk, hav]
            rw [hav] at hlen
            have h1 : (tl.map (rz_v ad)).length + 1 = rz_na x := by simpa using hlen
            have h2 := rz_invV X hx hmx hst hts hown (hts _ hlk) (ls := ls) b1 b2 b3 (av := tl.map (rz_v ad)) (rest := (st.drop y).map (rz_v ad)) h1 hdg'
            simpa [rz_v, List.map_cons, List.reverse_cons, List.append_assoc] using h2
        · cases hrecv
      · cases hrecv
  obtain ⟨mk, vm₁, hnamed, X₁, hstep⟩ := hinv
  have hsub : ∀ q, va_A (rz_ws cI cJ ad w) T.heap.size q → A q := fun q h => by
    rcases h with ⟨k, e9, h⟩ | h
    · exact hD.2 k _ h
    · exact hA q (Nat.le_trans hS.1 h)
  have hPc : rz_Pc D cI cJ ad (st.take y).reverse w ((st.take y).reverse.map (rz_v ad)).toArray ((T.setVm vm₁).calling (F0 m pc ls ((st.drop y).map (rz_v ad))) mk ((st.take y).reverse.map (rz_v ad)).toArray) := by
    have hal : s.vm.Alike ((T.setVm vm₁).calling (F0 m pc ls ((st.drop y).map (rz_v ad))) mk ((st.take y).reverse.map (rz_v ad)).toArray).vm := X₁.warmed.alike
    exact ⟨rfl, hP, hD.weaken (fun _ _ _ _ => trivial), va_K.moved hal hK, hX.go (U := (T.setVm vm₁).calling (F0 m pc ls ((st.drop y).map (rz_v ad))) mk ((st.take y).reverse.map (rz_v ad)).toArray) X₁.warmed hS.2.1 (fun q _ hq => by
      obtain ⟨k, e9, h9⟩ := hq
      exact hD.2 k _ h9)⟩
  obtain ⟨o, t, B, Ls, hq, hBh, hBv, hLs, XB, hret, hthr⟩ := rz_back X₁ hts hmx hM hnamed (g := F0 m pc ls ((st.drop y).map (rz_v ad))) (ig := ins) (len := 3) rfl (by rw [hml]; exact hL.1) hdg'
    (by show 2 * 0 + _ ≤ 8; rw [List.map_map, show ((fun v : Value => v.category) ∘ rz_v ad) = (fun v : Value => v.category) from funext fun v => rz_v_cat ad v]; omega)
    (by rw [hR]; exact hfr) (by rw [hR]; exact hlo) (by rw [hR]; exact hmc) (by rw [hR]; exact hms) hPc
  obtain ⟨hP1, hD1, hW1, hF, -, hout⟩ := hq
  have hP1 : va_P D rz_cl (rz_ws cI cJ ad w1) B.heap := by rw [hBh]; exact hP1
  have hD1 : va_D A (rz_ws cI cJ ad w1) := hD1.weaken (fun k q _ h => hsub q.1 h)
  have hS1 : va_S A s.heap B.heap (locs ++ Ls) := by
    rw [hBh]
    refine ⟨Nat.le_trans hS.1 hF.1, fun q h1 h2 => ?_, fun q hq => ?_⟩
    · rw [hF.2 q (Nat.lt_of_lt_of_le h1 hS.1) (fun h => h2 (hsub q h))]
      exact hS.2.1 q h1 h2
    · rcases List.mem_append.mp hq with h | h
      · exact hS.2.2 q h
      · exact hsub _ (hLs q h)
  cases r with
  | inl v =>
    obtain ⟨t', st', q'⟩ := kret v rfl B.heap (locs ++ Ls) hP1 hD1 hS1 B rfl XB
    refine ⟨t', hstep _ ((hret _ hout).trans ?_), q'⟩
    have heq : (v.map (rz_v ad)).toList ++ (st.drop y).map (rz_v ad) = (v.toList ++ st.drop y).map (rz_v ad) := by cases v <;> simp
    show Steps p.tables e below (B.setTop (F0 m (pc + 3) ls ((v.map (rz_v ad)).toList ++ (st.drop y).map (rz_v ad)))) t'
    rw [heq]
    exact st'
  | inr k =>
    obtain ⟨q, ce, ho, hce, hobj, hcls, hself⟩ := hout
    obtain ⟨hp, hgo, kk⟩ := kthr k rfl
    have hM112 : M < 112 := rz_lt hcd
    have hoks := List.all_eq_true.mp rz_hoks M (List.mem_range.mpr hM112)
    have hall : ∀ q ∈ (rz_hd M).zip (rz_hk M), (Cond.classLink (rz_y M).cls q.1.2.2.2 (rz_xn q.2)).before args s = true ∧ q.1.2.2.2 ≠ 0 ∧ q.2 < 4 := fun q hq => by
      have h1 := List.all_eq_true.mp hoks q hq
      simp only [Bool.and_eq_true, decide_eq_true_eq] at h1
      exact ⟨hts _ (rz_use h1.1.1 rfl), h1.1.2, h1.2⟩
    have hal : s.vm.Alike ((T.setVm vm₁).calling (F0 m pc ls ((st.drop y).map (rz_v ad))) mk ((st.take y).reverse.map (rz_v ad)).toArray).vm := X₁.warmed.alike
    rw [hal.findClass] at hcls
    rw [hal.assignable] at hself
    obtain ⟨vm', XC, hst2⟩ := rz_caught XB (g := F0 m pc ls ((st.drop y).map (rz_v ad))) rfl hown (rz_go_lt _ _ (fun q hq => (hall q hq).2.2) hgo) (a := q) (by rw [hBh]; exact hce) hobj hcls hself hX.2.2.2.2 (rz_hk M) (by rw [hh]; exact hall) (by rw [hh]; exact hgo)
    obtain ⟨t', st', q'⟩ := kk B.heap (locs ++ Ls) q hP1 hD1 hS1 (B.setVm vm') rfl XC
    exact ⟨t', hstep _ ((hthr _ ho).trans (hst2 _ st')), q'⟩
end
section
/-! the whole run of a frame of the abstract machine is the machine's walk; a method's run is its contract -/
def rz_Hend (p : Program) (l : Launch) (e : Env) (R : Room) (s : State) (m : MethodId) (args : Array Value) (below : List Frame) (meth : Method) (c : Code) (M : Nat) (D : va_G) (cI cJ : ClassId) (ad : Nat → Nat) (A : Nat → Prop) (Q : State → Prop) (r : rz_R) (w' : rz_W) : Prop :=
  ∀ (pc : Nat) (ins : Instr) (len x y z kd : Nat) (st : List Value) (ls : Array Slot) (H : Heap) (locs : List Loc) (kc ks : Nat), rz_code M pc = some (kd, ins, len, x, y, z) →
    ((kd = 2 ∧ ∃ v, rz_end (rz_rt M) st = some v ∧ r = .inl v) ∨ (kd = 3 ∧ st = [] ∧ r = .inr x ∧ kc + 1 ≤ rz_MC M ∧ ks + 6 ≤ rz_MS M)) →
    ls.size = rz_mL M → kc ≤ rz_MC M → ks ≤ rz_MS M → va_P D rz_cl (rz_ws cI cJ ad w') H → va_D A (rz_ws cI cJ ad w') → va_S A s.heap H locs →
    W p l e R s m args below meth c H locs kc ks Q (F0 m pc ls (st.map (rz_v ad)))
def rz_FR (l : Launch) (xs : Nat → Int32) (xl : Nat) (D : va_G) (cI cJ : ClassId) (ad : Nat → Nat) (n : Nat) : Prop :=
  ∀ (M pc : Nat) (L : rz_L) (st : List Value) (w : rz_W) (kc ks : Nat) (r : rz_R) (w' : rz_W), rz_run xs xl n M pc L st w kc ks = some (r, w') →
  ∀ (p : Program) (e : Env) (R : Room) (s : State) (m : MethodId) (args : Array Value) (below : List Frame) (meth : Method) (c : Code) (A : Nat → Prop) (Q : State → Prop) (H : Heap) (locs : List Loc) (ls : Array Slot),
    rz_Cx p R s m args c M D cI cJ A → rz_X A s s.heap → c.exceptionTable.toList.map (fun h => (h.startPc, h.endPc, h.handlerPc, h.catchType)) = rz_hd M →
    (M = 0 → va_X (ad 999) xl xs s s.heap ∧ ad 999 < s.heap.size ∧ ¬ A (ad 999)) →
    va_P D rz_cl (rz_ws cI cJ ad w) H → va_D A (rz_ws cI cJ ad w) → va_S A s.heap H locs → rz_Lr ad ls (rz_mL M) L → kc ≤ rz_MC M → ks ≤ rz_MS M →
    rz_Hend p l e R s m args below meth c M D cI cJ ad A Q r w' →
    W p l e R s m args below meth c H locs kc ks Q (F0 m pc ls (st.map (rz_v ad)))
theorem rz_Wmono {p : Program} {l : Launch} {e : Env} {R : Room} {s : State} {m : MethodId} {args : Array Value} {below : List Frame} {meth : Method} {c : Code} {H : Heap} {locs : List Loc} {cells slots : Nat} {Q Q' : State → Prop} {g : JFrame} (h : ∀ t, Q t → Q' t)
    (k : W p l e R s m args below meth c H locs cells slots Q g) : W p l e R s m args below meth c H locs cells slots Q' g := fun T hT X => by
  obtain ⟨t, a, b⟩ := k T hT X
  exact ⟨t, a, h t b⟩
theorem rz_args_mem : ∀ (vs : List Value) (k i : Nat) (v : Value), (∀ u ∈ vs, u.category = 1) → vs[i]? = some v → (k + i, v) ∈ lv_args k vs := by
  intro vs
  induction vs with
  | nil => intro k i v _ h; simp at h
  | cons a t ih =>
    intro k i v hc h
    have ha : a.category = 1 := hc a List.mem_cons_self
    rw [lv_args, if_neg (by omega)]
    cases i with
    | zero => simp at h; subst h; exact List.mem_cons_self
    | succ i =>
      have := ih (k + 1) i v (fun u hu => hc u (List.mem_cons_of_mem _ hu)) (by simpa using h)
      rw [show k + (i + 1) = k + 1 + i by omega]
      exact List.mem_cons_of_mem _ this
theorem rz_sl_len : ∀ (vs : List Value), (∀ u ∈ vs, u.category = 1) → (lg_sl vs).length = vs.length := by
  intro vs
  induction vs with
  | nil => intro _; rfl
  | cons a t ih =>
    intro hc
    have ha : a.category = 1 := hc a List.mem_cons_self
    have := ih (fun u hu => hc u (List.mem_cons_of_mem _ hu))
    simp only [lg_sl, List.flatMap_cons, List.length_append, List.length_cons] at this ⊢
    rw [if_neg (by omega)]
    simp only [List.length_cons, List.length_nil]
    omega
theorem rz_ok2 {M pc len x y z : Nat} {ins : Instr} (h : rz_ok M pc (2, ins, len, x, y, z) = true) : ((rz_rt M = none ∧ decode (rz_by M) pc = .ok (.return_, 1)) ∨ (rz_rt M = some .int ∧ decode (rz_by M) pc = .ok (.ireturn, 1)) ∨ (rz_rt M = some .boolean ∧ decode (rz_by M) pc = .ok (.ireturn, 1))) := by
  have hd1 : decode (rz_by M) pc = .ok (ins, len) := of_decide_eq_true (Bool.and_eq_true_iff.mp h).1
  have h2 := (Bool.and_eq_true_iff.mp (Bool.and_eq_true_iff.mp h).2).1
  have a1 : len = 1 := of_decide_eq_true (Bool.and_eq_true_iff.mp (Bool.and_eq_true_iff.mp h).2).2
  have h1 : decode (rz_by M) pc = .ok (ins, 1) := by rw [hd1, a1]
  have h3 : (match (generalizing := false) rz_rt M with
    | none => decide (ins = .return_)
    | some .int => decide (ins = .ireturn)
    | some .boolean => decide (ins = .ireturn)
    | _ => false) = true := h2
  clear h2
  cases hr : rz_rt M with
  | none =>
    rw [hr] at h3
    have : ins = .return_ := of_decide_eq_true h3
    exact Or.inl ⟨rfl, by rw [h1, this]⟩
  | some ty =>
    rw [hr] at h3
    cases ty <;> first | exact absurd (show false = true from h3) (by decide) | skip
    all_goals
      have hi : ins = .ireturn := of_decide_eq_true h3
      subst hi
    all_goals first | exact Or.inr (Or.inl ⟨rfl, h1⟩) | exact Or.inr (Or.inr ⟨rfl, h1⟩)
theorem rz_end_n {st : List Value} {v : Option Value} (h : rz_end none st = some v) : st = [] ∧ v = none := by
  cases st with
  | nil => simp [rz_end] at h; exact ⟨rfl, h.symm⟩
  | cons a t => simp [rz_end] at h
theorem rz_end_i {st : List Value} {v : Option Value} (h : rz_end (some .int) st = some v) : ∃ a, st = [.int a] ∧ v = some (.int a) := by
  cases st with
  | nil => simp [rz_end] at h
  | cons a t =>
    cases t with
    | nil => cases a <;> simp [rz_end] at h; exact ⟨_, rfl, h.symm⟩
    | cons b t => cases a <;> simp [rz_end] at h
theorem rz_end_z {st : List Value} {v : Option Value} (h : rz_end (some .boolean) st = some v) : ∃ a, st = [.int a] ∧ v = some (.int a) ∧ (a = 0 ∨ a = 1) := by
  cases st with
  | nil => simp [rz_end] at h
  | cons a t =>
    cases t with
    | nil => cases a <;> simp [rz_end] at h; exact ⟨_, rfl, h.2.symm, h.1⟩
    | cons b t => cases a <;> simp [rz_end] at h
theorem rz_Lr_ent {ad : Nat → Nat} {M : Nat} {av : List Value} {ls : Array Slot} (hav : av.length ≤ rz_mL M) (hcat : ∀ v ∈ av, v.category = 1) (hl : lv_has ls (rz_mL M) (lv_args 0 (av.map (rz_v ad)))) : rz_Lr ad ls (rz_mL M) (rz_ent M av) := by
  refine ⟨hl.1, hl.2.1, by simp [rz_ent]; omega, fun i v hi => ?_⟩
  unfold rz_ent at hi
  by_cases hlt : i < av.length
  · rw [List.getElem?_append_left (by simpa using hlt), List.getElem?_map] at hi
    cases ha : av[i]? with
    | none => rw [ha] at hi; cases hi
    | some u =>
      rw [ha] at hi
      cases hi
      have hm : (0 + i, rz_v ad v) ∈ lv_args 0 (av.map (rz_v ad)) := rz_args_mem _ 0 i _ (fun u hu => by
        obtain ⟨q, hq, rfl⟩ := List.mem_map.mp hu
        rw [rz_v_cat]; exact hcat q hq) (by rw [List.getElem?_map, ha]; rfl)
      rw [Nat.zero_add] at hm
      exact ⟨hcat v (List.mem_of_getElem? ha), hl.2.2 _ hm⟩
  · rw [List.getElem?_append_right (by simpa using Nat.not_lt.mp hlt)] at hi
    rw [List.getElem?_replicate] at hi
    split at hi <;> cases hi
set_option maxHeartbeats 4000000 in
theorem rz_met_of {l : Launch} (hl : l.stackTraces = false) {xs : Nat → Int32} {xl : Nat} {D : va_G} {cI cJ : ClassId} {ad : Nat → Nat} {n : Nat} (F : rz_FR l xs xl D cI cJ ad n) {M : Nat} (h0 : 0 < M) (h1 : M < 112) {av : List Value} {w w' : rz_W} {r : rz_R}
    (hrun : rz_run xs xl n M 0 (rz_ent M av) [] w 0 0 = some (r, w')) (hav : av.length = rz_na M) (hcat : ∀ v ∈ av, v.category = 1) : rz_Met l M D cI cJ ad av w r w' := by
  have hM := rz_mok_of h0 h1
  obtain ⟨-, -, hplain, hna⟩ := rz_mok_ini hM
  refine MetFree.of_bodyS (code := rz_by M) (maxLocals := rz_mL M) (ret := rz_rt M) hplain ?_ ?_
  · intro args s m h hn
    obtain ⟨mk, meth, c, a0, a1, a2, a3, a4, -, a6, a7, -⟩ := rz_codeS hM (atoms_spec (ws := rz_tw) h)
    cases hn.symm.trans a0
    exact ⟨meth, c, a1, a2, a3, a4, a6, a7⟩
  · intro p e s m args below meth c s₁ B hml hP _
    obtain ⟨rfl, hP0, hD0, hK, hX⟩ := hP
    have hts := atoms_spec (ws := rz_tw) B.pre
    have hown : s.vm.findClass (rz_y M).cls = some m.cls := findClass_of_methodNamed B.named
    have X₀ := Stand.of_body B
    have hh0 : s₁.heap = s.heap := by rw [B.state]; rfl
    have hh : c.exceptionTable.toList.map (fun h => (h.startPc, h.endPc, h.handlerPc, h.catchType)) = rz_hd M := by
      obtain ⟨mk, meth', c', a0, a1, a2, -, -, a5, -⟩ := rz_codeS hM hts
      cases B.named.symm.trans a0
      cases B.method.symm.trans a1
      cases X₀.code.symm.trans a2
      exact a5
    have hlv := lv_entry (av.map (rz_v ad)) (n := rz_mL M) (by
      rw [rz_sl_len _ (fun u hu => by
        obtain ⟨q, hq, rfl⟩ := List.mem_map.mp hu
        rw [rz_v_cat]; exact hcat q hq), List.length_map, hav]
      exact hna)
    have K : W p l e (rz_rm M) s m (av.map (rz_v ad)).toArray below meth c s.heap [] 0 0 (fun t => ∃ o, t.status = .running ∧ Ended t below o ∧ rz_Qc M D cI cJ ad w r w' (av.map (rz_v ad)).toArray s o t) (entryFrame m (av.map (rz_v ad)).toArray (rz_mL M)) := by
      rw [lg_entry_eq]
      refine F M 0 (rz_ent M av) [] w 0 0 r w' hrun p e (rz_rm M) s m (av.map (rz_v ad)).toArray below meth c (va_A (rz_ws cI cJ ad w) s.heap.size) _ s.heap [] _ ⟨B.exec, B.bytes, hml, hown, hts, hK, fun q h => Or.inr h, rfl⟩
        (hX.go (State.WarmedH.refl s) (fun _ _ _ => rfl) (fun q hq h => h.elim (fun h => h) (fun h => absurd hq (by omega)))) hh (fun h => absurd h (by omega)) hP0 hD0.self va_S.rf (rz_Lr_ent (by omega) hcat hlv) (Nat.zero_le _) (Nat.zero_le _) ?_
      intro pc ins len x y z kd st ls H locs kc ks hcd hcase hls hkc hks hP' hD' hS'
      rcases hcase with ⟨rfl, v, hv, rfl⟩ | ⟨rfl, rfl, rfl, hc1, hs1⟩
      · refine W.widen (k := rz_MC M) (n := rz_MS M) hkc hks ?_
        have fin : ∀ (u : Option Value), u.map (rz_v ad) = v.map (rz_v ad) → ∀ t, MQ below (fun _ _ o t => o = .returned (u.map (rz_v ad)) ∧ t.heap = H) (av.map (rz_v ad)).toArray s (rz_MC M) (rz_MS M) (va_A (rz_ws cI cJ ad w) s.heap.size) t → ∃ o, t.status = .running ∧ Ended t below o ∧ rz_Qc M D cI cJ ad w (.inl v) w' (av.map (rz_v ad)).toArray s o t := by
          rintro u hu t ⟨o, a1, a2, ⟨rfl, a4⟩, Ls, ⟨-, a5, a6⟩, a7⟩
          exact ⟨_, a1, a2, by rw [a4]; exact hP', hD', a5, hS'.F a4, ⟨Ls, a6, a7⟩, by rw [hu]; rfl⟩
        rcases rz_ok2 (rz_all hcd) with ⟨hrt, hdg⟩ | ⟨hrt, hdg⟩ | ⟨hrt, hdg⟩
        · rw [hrt] at hv
          obtain ⟨rfl, rfl⟩ := rz_end_n hv
          exact rz_Wmono (fin none rfl) (W.vret B.exec B.bytes (B.returns.trans hrt) (fun t ht hW => ⟨rfl, ht⟩) hS'.2.2 hdg)
        · rw [hrt] at hv
          obtain ⟨a, rfl, rfl⟩ := rz_end_i hv
          exact rz_Wmono (fin (some (.int a)) rfl) (W.iret (v := a) B.exec B.bytes (B.returns.trans hrt) (fun t ht hW => ⟨rfl, ht⟩) hS'.2.2 hdg)
        · rw [hrt] at hv
          obtain ⟨a, rfl, rfl, h01⟩ := rz_end_z hv
          refine rz_Wmono (fin (some (.int a)) rfl) (W.zret (v := a) (ty := .boolean) B.exec B.bytes (B.returns.trans hrt) ?_ (fun t ht hW => ⟨rfl, ht⟩) hS'.2.2 hdg)
          rcases h01 with rfl | rfl <;> decide +kernel
      · refine rz_Wmono ?_ (rz_throwW hl B.exec B.bytes hml hown hts hX rfl B.notSynchronized hh (fun a h1 h2 => hS'.2.1 a h1 (fun h => h2 (h.elim (fun h => h) (fun h => absurd h1 (by omega))))) hls hcd hc1 hs1)
        rintro t ⟨q, ce, b1, b2, b3, b4, b5, b6, b7, b8, b9, b10⟩
        refine ⟨_, b1, b2, hP'.kept (fun k q hk => b10 q.1 ((hP' k q hk).lt)), hD', b3, ⟨Nat.le_trans hS'.1 b9, fun q h1 h2 => ?_⟩, ⟨locs, b4.mono hc1 hs1, hS'.2.2⟩, q, ce, rfl, b5, b6, b7, b8⟩
        rw [b10 q (Nat.lt_of_lt_of_le h1 hS'.1)]
        exact hS'.2.1 q h1 h2
    obtain ⟨t, a1, o, b1, b2, b3⟩ := K s₁ hh0 X₀
    exact ⟨t, o, a1, b1, b2, b3⟩
end
section
/-! the abstract machine is sound -/
theorem rz_ok4 {M pc len x y z : Nat} {ins : Instr} (h : rz_ok M pc (4, ins, len, x, y, z) = true) : decode (rz_by M) pc = .ok (ins, len) ∧ len = rz_ln ins :=
  ⟨of_decide_eq_true (Bool.and_eq_true_iff.mp h).1, of_decide_eq_true (Bool.and_eq_true_iff.mp (Bool.and_eq_true_iff.mp h).2).1⟩
theorem rz_ok5 {M pc len x y z : Nat} {ins : Instr} (h : rz_ok M pc (5, ins, len, x, y, z) = true) : ∃ idx, decode (rz_by M) pc = .ok (.invokestatic idx, 3) ∧ len = 3 ∧ Cond.methodLink (rz_y M).cls idx arraycopyName ∈ rz_tw ∧ 1 ≤ rz_fr M ∧ 40 ≤ rz_lo M := by
  have hd1 : decode (rz_by M) pc = .ok (ins, len) := of_decide_eq_true (Bool.and_eq_true_iff.mp h).1
  have b := (Bool.and_eq_true_iff.mp h).2
  have a4 := (Bool.and_eq_true_iff.mp b).2
  have b1 := (Bool.and_eq_true_iff.mp b).1
  have a3 := (Bool.and_eq_true_iff.mp b1).2
  have b2 := (Bool.and_eq_true_iff.mp b1).1
  have a1 : len = 3 := of_decide_eq_true (Bool.and_eq_true_iff.mp b2).1
  have a2 := (Bool.and_eq_true_iff.mp b2).2
  cases ins <;> first | exact absurd (show false = true from a2) (by decide) | skip
  exact ⟨_, by rw [hd1, a1], a1, rz_use (rz_wd_in a2) rfl, of_decide_eq_true a3, of_decide_eq_true a4⟩
theorem rz_ok6 {M pc len x y z : Nat} {ins : Instr} (h : rz_ok M pc (6, ins, len, x, y, z) = true) : ∃ idx, decode (rz_by M) pc = .ok (.invokestatic idx, 3) ∧ len = 3 ∧ Cond.methodLink (rz_y M).cls idx Lib.Math.min.name ∈ rz_tw ∧ 1 ≤ rz_fr M ∧ 21 ≤ rz_lo M := by
  have hd1 : decode (rz_by M) pc = .ok (ins, len) := of_decide_eq_true (Bool.and_eq_true_iff.mp h).1
  have b := (Bool.and_eq_true_iff.mp h).2
  have a4 := (Bool.and_eq_true_iff.mp b).2
  have b1 := (Bool.and_eq_true_iff.mp b).1
  have a3 := (Bool.and_eq_true_iff.mp b1).2
  have b2 := (Bool.and_eq_true_iff.mp b1).1
  have a1 : len = 3 := of_decide_eq_true (Bool.and_eq_true_iff.mp b2).1
  have a2 := (Bool.and_eq_true_iff.mp b2).2
  cases ins <;> first | exact absurd (show false = true from a2) (by decide) | skip
  exact ⟨_, by rw [hd1, a1], a1, rz_use (rz_wd_in a2) rfl, of_decide_eq_true a3, of_decide_eq_true a4⟩
theorem rz_ok7 {M pc len x y z : Nat} {ins : Instr} (h : rz_ok M pc (7, ins, len, x, y, z) = true) : decode (rz_by M) pc = .ok (ins, len) ∧ len = rz_ln ins :=
  ⟨of_decide_eq_true (Bool.and_eq_true_iff.mp h).1, of_decide_eq_true (Bool.and_eq_true_iff.mp h).2⟩
theorem rz_run_code {xs : Nat → Int32} {xl n M pc kc ks : Nat} {L : rz_L} {st : List Value} {w : rz_W} {q : rz_R × rz_W} (h : rz_run xs xl n M pc L st w kc ks = some q) : M < 112 := by
  cases n with
  | zero => cases h
  | succ n =>
    rw [rz_run] at h
    cases hc : rz_code M pc with
    | none => rw [hc] at h; cases h
    | some q => exact rz_lt hc
set_option maxRecDepth 100000 in
theorem rz_hbs : (List.range 112).all (fun M => (rz_T M).all (fun e => match e.2 with
  | (7, .astore_n i, _) => decide ((i : Nat) < rz_mL M)
  | (7, .astore i, _) => decide (i < rz_mL M)
  | _ => true)) = true := by decide +kernel
theorem rz_hbound {M pc len x y z : Nat} {i : Fin 4} (h : rz_code M pc = some (7, .astore_n i, len, x, y, z)) : (i : Nat) < rz_mL M :=
  of_decide_eq_true (List.all_eq_true.mp (List.all_eq_true.mp rz_hbs M (List.mem_range.mpr (rz_lt h))) (pc, (7, .astore_n i, len, x, y, z)) (rz_lookup h))
theorem rz_hbound2 {M pc len x y z i : Nat} (h : rz_code M pc = some (7, .astore i, len, x, y, z)) : i < rz_mL M :=
  of_decide_eq_true (List.all_eq_true.mp (List.all_eq_true.mp rz_hbs M (List.mem_range.mpr (rz_lt h))) (pc, (7, .astore i, len, x, y, z)) (rz_lookup h))
set_option maxHeartbeats 8000000 in
theorem rz_sound {l : Launch} (hl : l.stackTraces = false) (xs : Nat → Int32) (xl : Nat) (D : va_G) (cI cJ : ClassId) (ad : Nat → Nat) : ∀ n, rz_FR l xs xl D cI cJ ad n := by
  intro n
  induction n with
  | zero => intro M pc L st w kc ks r w' h; cases h
  | succ n ih =>
    intro M pc L st w kc ks r w' h p e R s m args below meth c A Q H locs ls hC hX hh hscr hP hD hS hL hkc hks hend
    rw [rz_run] at h
    cases hcd : rz_code M pc with
    | none => rw [hcd] at h; cases h
    | some q =>
      obtain ⟨kd, ins, len, x, y, z⟩ := q
      rw [hcd] at h
      dsimp only at h
      split at h
      · -- pure
        split at h
        · rename_i pc' L' st' w1 hp
          exact rz_pure_ok hcd hp hC hP hD hS hL (fun ls' H' locs' hL' hP' hD' hS' => ih M pc' L' st' w1 kc ks r w' h p e R s m args below meth c A Q H' locs' ls' hC hX hh hscr hP' hD' hS' hL' hkc hks hend)
        · cases h
      · -- call
        split at h
        · rename_i hcond
          obtain ⟨c1, c2, c3, c4, c5, c6⟩ := hcond
          obtain ⟨-, hlen3, hna, hx0, -, -, -⟩ := rz_ok1 (rz_all hcd)
          have hcats : ∀ v ∈ (st.take y).reverse, v.category = 1 := fun v hv => of_decide_eq_true (List.all_eq_true.mp c6 v (List.mem_reverse.mp hv))
          have hlenA : (st.take y).reverse.length = rz_na x := by simp [← hna, c1]
          subst hlen3
          split at h
          · rename_i v w1 hr1
            have hM := rz_met_of hl ih hx0 (rz_run_code hr1) hr1 hlenA hcats
            refine rz_callW hC hX hh hcd (rz_run_code hr1) c1 c2 c3 c4 c5 hM hP hD hS hL ?_ (fun k hk => by cases hk)
            intro v' hv' H1 locs1 hP1 hD1 hS1
            cases hv'
            exact ih M (pc + 3) L (v.toList ++ st.drop y) w1 _ _ r w' h p e R s m args below meth c A Q H1 locs1 ls hC hX hh hscr hP1 hD1 hS1 hL c2 c3 hend
          · rename_i k w1 hr1
            split at h
            · rename_i hp i hhnd
              have hM := rz_met_of hl ih hx0 (rz_run_code hr1) hr1 hlenA hcats
              refine rz_callW hC hX hh hcd (rz_run_code hr1) c1 c2 c3 c4 c5 hM hP hD hS hL (fun v hv => by cases hv) ?_
              intro k' hk'
              cases hk'
              unfold rz_hnd at hhnd
              split at hhnd
              · cases hhnd
              · rename_i hp0 hgo
                obtain ⟨hx, hb, hml, hown, hts, hK, hA, hR⟩ := id hC
                split at hhnd
                · rename_i i0 len0 _ _ _ hc7
                  cases hhnd
                  obtain ⟨hd7, hl7⟩ := rz_ok7 (rz_all hc7)
                  replace hl7 : len0 = 1 := hl7
                  subst hl7
                  refine ⟨hp0, hgo, fun H1 locs1 q hP1 hD1 hS1 => ?_⟩
                  refine lv_astore_n hx hb hd7 rfl hL.has ?_ rfl (fun ls' h' => ?_)
                  · exact rz_hbound hc7
                  · exact ih M (hp0 + 1) _ [] w1 _ _ r w' h p e R s m args below meth c A Q H1 locs1 ls' hC hX hh hscr hP1 hD1 hS1 (hL.drop h') c2 c3 hend
                · rename_i i0 len0 _ _ _ hc7
                  cases hhnd
                  obtain ⟨hd7, hl7⟩ := rz_ok7 (rz_all hc7)
                  replace hl7 : len0 = 2 := hl7
                  subst hl7
                  refine ⟨hp0, hgo, fun H1 locs1 q hP1 hD1 hS1 => ?_⟩
                  refine lv_astore hx hb hd7 hL.has ?_ rfl (fun ls' h' => ?_)
                  · exact rz_hbound2 hc7
                  · exact ih M (hp0 + 2) _ [] w1 _ _ r w' h p e R s m args below meth c A Q H1 locs1 ls' hC hX hh hscr hP1 hD1 hS1 (hL.drop h') c2 c3 hend
                · cases hhnd
            · cases h
          · cases h
        · cases h
      · -- return
        split at h
        · rename_i v hv
          cases h
          exact hend pc ins len x y z 2 st ls H locs kc ks hcd (Or.inl ⟨rfl, v, hv, rfl⟩) hL.1 hkc hks hP hD hS
        · cases h
      · -- throw
        split at h
        · rename_i hcond
          obtain ⟨rfl, c2, c3⟩ := hcond
          cases h
          exact hend pc ins len x y z 3 [] ls H locs kc ks hcd (Or.inr ⟨rfl, rfl, rfl, c2, c3⟩) hL.1 hkc hks hP hD hS
        · cases h
      · -- the script
        split at h
        · rename_i hM0
          obtain ⟨hx, hb, hml, hown, hts, hK, hA, hR⟩ := id hC
          obtain ⟨s1, s2, s3⟩ := hscr hM0
          obtain ⟨hdg, hln⟩ := rz_ok4 (rz_all hcd)
          split at h
          · split at h
            · rename_i j rr hin
              replace hln : len = 1 := hln
              subst hln
              exact va_sld hx hb s1 s2 s3 hS hin hdg (ih M (pc + 1) L _ w kc ks r w' h p e R s m args below meth c A Q H locs ls hC hX hh hscr hP hD hS hL hkc hks hend)
            · cases h
          · replace hln : len = 1 := hln
            subst hln
            exact va_slen hx hb s1 s2 s3 hS hdg (ih M (pc + 1) L _ w kc ks r w' h p e R s m args below meth c A Q H locs ls hC hX hh hscr hP hD hS hL hkc hks hend)
          · cases h
        · cases h
      · -- arraycopy
        split at h
        · split at h
          · split at h
            · rename_i cn dp d sp s0 rr _ _ k0 n0 f k1 n1 g hw0 hw1 hcond
              obtain ⟨rfl, rfl, hsd, rfl, rfl, rfl, rfl, rfl, rfl⟩ := hcond
              obtain ⟨hx, hb, hml, hown, hts, hK, hA, hR⟩ := id hC
              obtain ⟨idx, hdg, hln, hlk, hf1, hl1⟩ := rz_ok5 (rz_all hcd)
              subst hln
              have hnf : nativeFrameWords "java/lang/System" "arraycopy" 5 + 11 = 18 := by decide +kernel
              exact va_copyi hx hb (by rw [hml]; exact hL.1.symm) hown (hts _ hlk) (hts _ (rz_use rz_fx4 rfl)) (hts _ (rz_use rz_fx5 rfl)) (hts _ (rz_use rz_fx6 rfl)) hK hP hD hS s0 d 0 0 (a0 := ad s0) (c0 := cI) (c1 := cI) (n0 := 8) (n1 := 8) (f := f) (g := g) (ty := .int) (rz_ws_get hw0) (rz_ws_get hw1) rfl rfl rfl
                (sp := 0) (dp := 0) (n := 8) (by decide) (by decide) (by decide) (by decide) (by decide) (fun i _ => rfl) (by rw [hR]; exact hf1) (by rw [hR]; show 0 + (nativeFrameWords "java/lang/System" "arraycopy" 5 + 11) ≤ rz_lo M; rw [hnf]; omega) hdg
                (fun H1 locs1 h1 h2 h3 => ih M (pc + 3) L [] _ kc ks r w' h p e R s m args below meth c A Q H1 locs1 ls hC hX hh hscr (by rw [rz_ws_set]; exact h1) (by rw [rz_ws_set]; exact h2) h3 hL hkc hks hend)
            · cases h
          · cases h
        · cases h
      · -- min
        split at h
        · split at h
          · rename_i b a rr hcat
            obtain ⟨hx, hb, hml, hown, hts, hK, hA, hR⟩ := id hC
            obtain ⟨idx, hdg, hln, hlk, hf1, hl1⟩ := rz_ok6 (rz_all hcd)
            subst hln
            exact va_mmin hx hb (by rw [hml]; exact hL.1.symm) hown (hts _ hlk) (hts _ (rz_use rz_fx2 rfl)) (hts _ (rz_use rz_fx3 rfl)) (hts _ (rz_use rz_fx1 rfl)) (by rw [hR]; exact hf1)
              (by rw [List.map_map, show ((fun v : Value => v.category) ∘ rz_v ad) = (fun v : Value => v.category) from funext fun v => rz_v_cat ad v, hR]; show _ ≤ rz_lo M; omega) (by rw [hR]; exact hkc) (by rw [hR]; exact hks) hdg
              (ih M (pc + 3) L _ w kc ks r w' h p e R s m args below meth c A Q H locs ls hC hX hh hscr hP hD hS hL hkc hks hend)
          · cases h
        · cases h
      · cases h
end
section
/-! reasoning over the abstract machine: it comes to an end with a result that satisfies 'post' -/
section RZE
variable {xs : Nat → Int32} {xl : Nat}
variable {n M pc len x y z kc ks : Nat} {ins : Instr} {L : rz_L} {st : List Value} {w : rz_W}
theorem rz_u0 (h : rz_code M pc = some (0, ins, len, x, y, z)) : rz_run xs xl (n + 1) M pc L st w kc ks = (match rz_pure ins len x y pc L st w with
    | some (pc', L', st', w') => rz_run xs xl n M pc' L' st' w' kc ks
    | none => none) := by (rw [rz_run, h]) <;> rfl
theorem rz_u1 (h : rz_code M pc = some (1, ins, len, x, y, z)) : rz_run xs xl (n + 1) M pc L st w kc ks = (if y ≤ st.length ∧ kc + rz_MC x ≤ rz_MC M ∧ ks + rz_MS x ≤ rz_MS M ∧ rz_recv w x ins (st.take y).reverse = true ∧ ((st.drop y).map fun v => v.category).sum ≤ 8 ∧ ((st.take y).all fun v => decide (v.category = 1)) = true then
      (match rz_run xs xl n x 0 (rz_ent x (st.take y).reverse) [] w 0 0 with
      | some (.inl v, w') => rz_run xs xl n M (pc + len) L (v.toList ++ st.drop y) w' (kc + rz_MC x) (ks + rz_MS x)
      | some (.inr k, w') => (match rz_hnd M pc k with
        | some (hp, i) => rz_run xs xl n M hp (L.set i none) [] w' (kc + rz_MC x) (ks + rz_MS x)
        | none => none)
      | none => none)
    else none) := by (rw [rz_run, h]) <;> rfl
theorem rz_u2 (h : rz_code M pc = some (2, ins, len, x, y, z)) : rz_run xs xl (n + 1) M pc L st w kc ks = (match rz_end (rz_rt M) st with
    | some v => some (.inl v, w)
    | none => none) := by (rw [rz_run, h]) <;> rfl
theorem rz_u3 (h : rz_code M pc = some (3, ins, len, x, y, z)) : rz_run xs xl (n + 1) M pc L st w kc ks = (if st = [] ∧ kc + 1 ≤ rz_MC M ∧ ks + 6 ≤ rz_MS M then some (.inr x, w) else none) := by (rw [rz_run, h]) <;> rfl
theorem rz_mono1 : ∀ (n M pc : Nat) (L : rz_L) (st : List Value) (w : rz_W) (kc ks : Nat) (q : rz_R × rz_W), rz_run xs xl n M pc L st w kc ks = some q → rz_run xs xl (n + 1) M pc L st w kc ks = some q := by
  intro n
  induction n with
  | zero => intro M pc L st w kc ks q h; cases h
  | succ n ih =>
    intro M pc L st w kc ks q h
    cases hcd : rz_code M pc with
    | none => rw [rz_run, hcd] at h; cases h
    | some t =>
      obtain ⟨kd, ins, len, x, y, z⟩ := t
      by_cases k0 : kd = 0
      · subst k0
        rw [rz_u0 hcd] at h ⊢
        cases hp : rz_pure ins len x y pc L st w with
        | none => rw [hp] at h; cases h
        | some u =>
          obtain ⟨pc', L', st', w'⟩ := u
          rw [hp] at h
          exact ih _ _ _ _ _ _ _ _ h
      by_cases k1 : kd = 1
      · subst k1
        rw [rz_u1 hcd] at h ⊢
        split at h
        · rename_i hc
          rw [if_pos hc]
          cases hr : rz_run xs xl n x 0 (rz_ent x (st.take y).reverse) [] w 0 0 with
          | none => rw [hr] at h; cases h
          | some u =>
            rw [hr] at h
            rw [ih _ _ _ _ _ _ _ _ hr]
            obtain ⟨r, w1⟩ := u
            cases r with
            | inl v => exact ih _ _ _ _ _ _ _ _ h
            | inr k =>
              dsimp only at h ⊢
              cases hh : rz_hnd M pc k with
              | none => rw [hh] at h; cases h
              | some u2 =>
                obtain ⟨hp, i⟩ := u2
                rw [hh] at h
                exact ih _ _ _ _ _ _ _ _ h
        · cases h
      by_cases k2 : kd = 2
      · subst k2
        rw [rz_u2 hcd] at h ⊢
        exact h
      by_cases k3 : kd = 3
      · subst k3
        rw [rz_u3 hcd] at h ⊢
        exact h
      rw [rz_run, hcd] at h ⊢
      dsimp only at h ⊢
      split at h <;> first | contradiction | skip
      · split at h
        · rename_i hc
          rw [if_pos hc]
          split at h
          · split at h
            · rename_i hin
              rw [if_pos hin]
              exact ih _ _ _ _ _ _ _ _ h
            · cases h
          · exact ih _ _ _ _ _ _ _ _ h
          · cases h
        · cases h
      · split at h
        · split at h
          · split at h
            · rename_i hw0 hw1 hc
              rw [if_pos hc]
              exact ih _ _ _ _ _ _ _ _ h
            · cases h
          · cases h
        · cases h
      · split at h
        · split at h
          · rename_i hc
            rw [if_pos hc]
            exact ih _ _ _ _ _ _ _ _ h
          · cases h
        · cases h
theorem rz_mono {n' : Nat} {q : rz_R × rz_W} (h : rz_run xs xl n M pc L st w kc ks = some q) (hn : n ≤ n') : rz_run xs xl n' M pc L st w kc ks = some q := by
  obtain ⟨k, rfl⟩ := Nat.le.dest hn
  clear hn
  induction k with
  | zero => exact h
  | succ k ih => exact rz_mono1 _ _ _ _ _ _ _ _ _ ih
end RZE
def rz_E (xs : Nat → Int32) (xl M pc : Nat) (L : rz_L) (st : List Value) (w : rz_W) (kc ks : Nat) (post : rz_R → rz_W → Prop) : Prop := ∃ (n : Nat) (r : rz_R) (w' : rz_W), rz_run xs xl n M pc L st w kc ks = some (r, w') ∧ post r w'
/-- a method called with these arguments -/
def rz_C (xs : Nat → Int32) (xl M : Nat) (av : List Value) (w : rz_W) (post : rz_R → rz_W → Prop) : Prop := rz_E xs xl M 0 (rz_ent M av) [] w 0 0 post
/-- k pure steps at a stroke -/
def rz_ps (M : Nat) : Nat → Nat → rz_L → List Value → rz_W → Option (Nat × rz_L × List Value × rz_W)
  | 0, pc, L, st, w => some (pc, L, st, w)
  | k + 1, pc, L, st, w => match rz_code M pc with
    | some (0, ins, len, x, y, _) => match rz_pure ins len x y pc L st w with
      | some (pc', L', st', w') => rz_ps M k pc' L' st' w'
      | none => none
    | _ => none
section RZF
variable {xs : Nat → Int32} {xl M pc : Nat} {L : rz_L} {st : List Value} {w : rz_W} {kc ks : Nat} {post : rz_R → rz_W → Prop}
theorem ev_p {ins : Instr} {len x y z pc' : Nat} {L' : rz_L} {st' : List Value} {w' : rz_W} (hc : rz_code M pc = some (0, ins, len, x, y, z)) (hp : rz_pure ins len x y pc L st w = some (pc', L', st', w')) (k : rz_E xs xl M pc' L' st' w' kc ks post) : rz_E xs xl M pc L st w kc ks post := by
  obtain ⟨n, r, w1, h1, h2⟩ := k
  refine ⟨n + 1, r, w1, ?_, h2⟩
  rw [rz_u0 hc, hp]
  exact h1
theorem ev_ps (k : Nat) : ∀ {pc pc' : Nat} {L L' : rz_L} {st st' : List Value} {w w' : rz_W}, rz_ps M k pc L st w = some (pc', L', st', w') → rz_E xs xl M pc' L' st' w' kc ks post → rz_E xs xl M pc L st w kc ks post := by
  induction k with
  | zero => intro pc pc' L L' st st' w w' h k; cases h; exact k
  | succ k ih =>
    intro pc pc' L L' st st' w w' h kk
    rw [rz_ps] at h
    split at h
    · rename_i hc
      split at h
      · rename_i hp
        exact ev_p hc hp (ih h kk)
      · cases h
    · cases h
theorem ev_mono {post' : rz_R → rz_W → Prop} (h : ∀ r w', post r w' → post' r w') (k : rz_E xs xl M pc L st w kc ks post) : rz_E xs xl M pc L st w kc ks post' := by
  obtain ⟨n, r, w1, h1, h2⟩ := k
  exact ⟨n, r, w1, h1, h _ _ h2⟩
theorem ev_ret {ins : Instr} {len x y z : Nat} {v : Option Value} (hc : rz_code M pc = some (2, ins, len, x, y, z)) (hv : rz_end (rz_rt M) st = some v) (k : post (.inl v) w) : rz_E xs xl M pc L st w kc ks post := by
  refine ⟨1, .inl v, w, ?_, k⟩
  rw [rz_u2 hc, hv]
theorem ev_thr {ins : Instr} {len x y z : Nat} (hc : rz_code M pc = some (3, ins, len, x, y, z)) (h : kc + 1 ≤ rz_MC M ∧ ks + 6 ≤ rz_MS M) (k : post (.inr x) w) : rz_E xs xl M pc L [] w kc ks post := by
  refine ⟨1, .inr x, w, ?_, k⟩
  rw [rz_u3 hc, if_pos ⟨rfl, h.1, h.2⟩]
theorem ev_call {ins : Instr} {len x y z : Nat} {av rest : List Value} {post1 : rz_R → rz_W → Prop} (hc : rz_code M pc = some (1, ins, len, x, y, z)) (hav : st = av.reverse ++ rest) (hy : av.length = y) (hr : rz_recv w x ins av = true)
    (hs : ((rest.map fun v => v.category).sum ≤ 8) ∧ (av.all fun v => decide (v.category = 1)) = true) (hk : kc + rz_MC x ≤ rz_MC M ∧ ks + rz_MS x ≤ rz_MS M) (call : rz_C xs xl x av w post1)
    (kk : ∀ r w', post1 r w' → match r with
      | .inl v => rz_E xs xl M (pc + len) L (v.toList ++ rest) w' (kc + rz_MC x) (ks + rz_MS x) post
      | .inr k => ∃ hp i, rz_hnd M pc k = some (hp, i) ∧ rz_E xs xl M hp (L.set i none) [] w' (kc + rz_MC x) (ks + rz_MS x) post) : rz_E xs xl M pc L st w kc ks post := by
  obtain ⟨n1, r1, w1, h1, h2⟩ := call
  have k2 := kk r1 w1 h2
  have e1 : st.take y = av.reverse := by rw [hav, ← hy]; simp
  have e2 : st.drop y = rest := by rw [hav, ← hy]; simp
  have e3 : (st.take y).reverse = av := by rw [e1, List.reverse_reverse]
  have hcond : y ≤ st.length ∧ kc + rz_MC x ≤ rz_MC M ∧ ks + rz_MS x ≤ rz_MS M ∧ rz_recv w x ins (st.take y).reverse = true ∧ ((st.drop y).map fun v => v.category).sum ≤ 8 ∧ ((st.take y).all fun v => decide (v.category = 1)) = true := by
    refine ⟨by rw [hav, ← hy]; simp, hk.1, hk.2, by rw [e3]; exact hr, by rw [e2]; exact hs.1, ?_⟩
    rw [e1, List.all_reverse]
    exact hs.2
  cases r1 with
  | inl v =>
    obtain ⟨n2, r, w2, h3, h4⟩ := k2
    refine ⟨max n1 n2 + 1, r, w2, ?_, h4⟩
    rw [rz_u1 hc, if_pos hcond, e3, rz_mono h1 (Nat.le_max_left n1 n2), e2]
    exact rz_mono h3 (Nat.le_max_right n1 n2)
  | inr k =>
    obtain ⟨hp, i, hh, n2, r, w2, h3, h4⟩ := k2
    refine ⟨max n1 n2 + 1, r, w2, ?_, h4⟩
    rw [rz_u1 hc, if_pos hcond, e3, rz_mono h1 (Nat.le_max_left n1 n2)]
    dsimp only
    rw [hh]
    exact rz_mono h3 (Nat.le_max_right n1 n2)
theorem ev_if {cd : Jvm.ClassFile.Cond} {off : Int} {len x y z : Nat} {a : Int32} (hc : rz_code M pc = some (0, .ifCond cd off, len, x, y, z)) (kt : rz_cmp cd a 0 = true → rz_E xs xl M x L st w kc ks post) (kf : rz_cmp cd a 0 = false → rz_E xs xl M (pc + len) L st w kc ks post) : rz_E xs xl M pc L (.int a :: st) w kc ks post := by
  cases h : rz_cmp cd a 0 with
  | true => exact ev_p hc (show some (if rz_cmp cd a 0 = true then x else pc + len, L, st, w) = _ by rw [h]; rfl) (kt h)
  | false => exact ev_p hc (show some (if rz_cmp cd a 0 = true then x else pc + len, L, st, w) = _ by rw [h]; rfl) (kf h)
theorem ev_ic {cd : Jvm.ClassFile.Cond} {off : Int} {len x y z : Nat} {a b : Int32} (hc : rz_code M pc = some (0, .if_icmp cd off, len, x, y, z)) (kt : rz_cmp cd a b = true → rz_E xs xl M x L st w kc ks post) (kf : rz_cmp cd a b = false → rz_E xs xl M (pc + len) L st w kc ks post) : rz_E xs xl M pc L (.int b :: .int a :: st) w kc ks post := by
  cases h : rz_cmp cd a b with
  | true => exact ev_p hc (show some (if rz_cmp cd a b = true then x else pc + len, L, st, w) = _ by rw [h]; rfl) (kt h)
  | false => exact ev_p hc (show some (if rz_cmp cd a b = true then x else pc + len, L, st, w) = _ by rw [h]; rfl) (kf h)
theorem ev_get {idx len x y z i : Nat} {fs : List Value} {v : Value} (hc : rz_code M pc = some (0, .getfield idx, len, x, y, z)) (hw : w[i]? = some (.inr (x, fs))) (hv : fs[y]? = some v) (k : rz_E xs xl M (pc + len) L (v :: st) w kc ks post) : rz_E xs xl M pc L (.ref i :: st) w kc ks post := by
  refine ev_p hc ?_ k
  simp [rz_pure, hw, hv]
theorem ev_put {idx len x y z i : Nat} {fs : List Value} {v : Value} (hc : rz_code M pc = some (0, .putfield idx, len, x, y, z)) (hw : w[i]? = some (.inr (x, fs))) (hy : y < fs.length) (hv : rz_fit (rz_fty x y) v = true) (k : rz_E xs xl M (pc + len) L st (w.set i (.inr (x, fs.set y v))) kc ks post) : rz_E xs xl M pc L (v :: .ref i :: st) w kc ks post := by
  refine ev_p hc ?_ k
  simp [rz_pure, hw, hv, hy]
theorem ev_ald {len x y z i n : Nat} {f : Nat → Int32} {j : Int32} (hc : rz_code M pc = some (0, .iaload, len, x, y, z)) (hw : w[i]? = some (.inl (0, n, .inl f))) (hj : ¬ (j < 0 ∨ n ≤ j.toNatClampNeg)) (k : rz_E xs xl M (pc + len) L (.int (f j.toNatClampNeg) :: st) w kc ks post) : rz_E xs xl M pc L (.int j :: .ref i :: st) w kc ks post := by
  refine ev_p hc ?_ k
  simp only [rz_pure, hw]
  rw [if_pos ⟨trivial, hj⟩]
theorem ev_ast {len x y z i n : Nat} {f : Nat → Int32} {j v : Int32} (hc : rz_code M pc = some (0, .iastore, len, x, y, z)) (hw : w[i]? = some (.inl (0, n, .inl f))) (hj : ¬ (j < 0 ∨ n ≤ j.toNatClampNeg)) (k : rz_E xs xl M (pc + len) L st (w.set i (.inl (0, n, .inl (upd f j.toNatClampNeg v)))) kc ks post) : rz_E xs xl M pc L (.int v :: .int j :: .ref i :: st) w kc ks post := by
  refine ev_p hc ?_ k
  simp only [rz_pure, hw]
  rw [if_pos ⟨trivial, hj⟩]
end RZF
end
section
/-! the world of the law: the class's cells at places 0 to 24, the reference's at 25 to 34, the law's own array at 35; v the numbers in fields, a the int arrays, g the long array -/
def rz_w (v : Nat → Int32) (a : Nat → Nat → Int32) (g : Nat → Int64) : rz_W := [
  .inr (0, [.ref 1, .ref 3, .ref 6, .ref 8, .ref 13]),
  .inr (1, [.ref 2, .int (v 0)]), .inl (0, 24, .inl (a 0)),
  .inr (2, [.ref 4, .ref 5, .int (v 1), .int (v 2), .int (v 3), .int (v 4)]), .inl (0, 8, .inl (a 1)), .inl (0, 8, .inl (a 2)),
  .inr (3, [.ref 7]), .inl (0, 25, .inl (a 3)),
  .inr (4, [.ref 9, .ref 11, .int (v 5)]), .inr (5, [.ref 10, .int (v 6)]), .inl (0, 3, .inl (a 4)), .inr (5, [.ref 12, .int (v 7)]), .inl (0, 3, .inl (a 5)),
  .inr (6, [.ref 14, .ref 16, .ref 21, .ref 23, .int (v 13), .int (v 14), .int (v 15)]),
  .inr (3, [.ref 15]), .inl (0, 25, .inl (a 6)),
  .inr (4, [.ref 17, .ref 19, .int (v 8)]), .inr (5, [.ref 18, .int (v 9)]), .inl (0, 3, .inl (a 7)), .inr (5, [.ref 20, .int (v 10)]), .inl (0, 3, .inl (a 8)),
  .inr (5, [.ref 22, .int (v 11)]), .inl (0, 3, .inl (a 9)), .inr (5, [.ref 24, .int (v 12)]), .inl (0, 3, .inl (a 10)),
  .inr (7, [.int (v 20), .int (v 21), .ref 26, .ref 27, .ref 28, .ref 29, .ref 30, .ref 31, .int (v 22), .int (v 23), .ref 32, .ref 33, .ref 34, .int (v 24), .int (v 25), .int (v 26)]),
  .inl (0, 25, .inl (a 20)), .inl (0, 25, .inl (a 21)), .inl (0, 25, .inl (a 22)), .inl (0, 25, .inl (a 23)), .inl (0, 12, .inl (a 24)), .inl (0, 12, .inl (a 25)), .inl (0, 25, .inl (a 26)), .inl (0, 4, .inl (a 27)), .inl (0, 4, .inl (a 28)),
  .inl (1, 1, .inr (.inl g))]
def rz_up (v : Nat → Int32) (k : Nat) (x : Int32) : Nat → Int32 := fun j => if j = k then x else v j
def rz_ua (a : Nat → Nat → Int32) (k : Nat) (f : Nat → Int32) : Nat → Nat → Int32 := fun j => if j = k then f else a j
section RZT
variable {xs : Nat → Int32} {xl : Nat} {v : Nat → Int32} {a : Nat → Nat → Int32} {g : Nat → Int64}
theorem t_length : rz_C xs xl 4 [.ref 1] (rz_w v a g) (fun r w' => r = .inl (some (.int (v 0))) ∧ w' = rz_w v a g) :=
  ev_ps 2 rfl (ev_ret rfl rfl ⟨rfl, rfl⟩)
theorem t_t {w : rz_W} (c : Int32) : rz_C xs xl 15 [.int c] w (fun r w' => r = .inl (some (.int (c &&& 31))) ∧ w' = w) :=
  ev_ps 3 rfl (ev_ret rfl rfl ⟨rfl, rfl⟩)
theorem t_op {w : rz_W} (c : Int32) : rz_C xs xl 16 [.int c] w (fun r w' => r = .inl (some (.int (c >>> 9))) ∧ w' = w) :=
  ev_ps 3 rfl (ev_ret rfl rfl ⟨rfl, rfl⟩)
theorem t_pack {w : rz_W} (o d s t : Int32) : rz_C xs xl 42 [.int o, .int d, .int s, .int t] w (fun r w' => r = .inl (some (.int (o <<< 9 ||| d <<< 7 ||| s <<< 5 ||| t))) ∧ w' = w) :=
  ev_ps 13 rfl (ev_ret rfl rfl ⟨rfl, rfl⟩)
theorem t_with {w : rz_W} (r n x : Int32) : rz_C xs xl 38 [.int r, .int n, .int x] w (fun q w' => (∃ u, q = .inl (some (.int u))) ∧ w' = w) := by
  refine ev_ps 1 rfl ?_
  refine ev_if (cd := .ne) rfl (fun _ => ?_) (fun _ => ?_)
  · exact ev_ps 17 rfl (ev_ret rfl rfl ⟨⟨_, rfl⟩, rfl⟩)
  · exact ev_ps 1 rfl (ev_ret rfl rfl ⟨⟨_, rfl⟩, rfl⟩)
theorem t_greatestT {w : rz_W} (o : Int32) : rz_C xs xl 52 [.int o] w (fun q w' => (∃ u, q = .inl (some (.int u))) ∧ w' = w) := by
  refine ev_ps 2 rfl (ev_ic (cd := .gt) rfl (fun _ => ?_) (fun _ => ?_))
  · refine ev_ps 2 rfl (ev_ic (cd := .gt) rfl (fun _ => ?_) (fun _ => ?_))
    · refine ev_ps 2 rfl (ev_ic (cd := .gt) rfl (fun _ => ?_) (fun _ => ?_))
      · refine ev_ps 2 rfl (ev_ic (cd := .ne) rfl (fun _ => ?_) (fun _ => ?_))
        · exact ev_ps 1 rfl (ev_ret rfl rfl ⟨⟨_, rfl⟩, rfl⟩)
        · exact ev_ps 2 rfl (ev_ret rfl rfl ⟨⟨_, rfl⟩, rfl⟩)
      · exact ev_ps 1 rfl (ev_ret rfl rfl ⟨⟨_, rfl⟩, rfl⟩)
    · exact ev_ps 1 rfl (ev_ret rfl rfl ⟨⟨_, rfl⟩, rfl⟩)
  · exact ev_ps 1 rfl (ev_ret rfl rfl ⟨⟨_, rfl⟩, rfl⟩)
theorem t_empty : rz_C xs xl 2 [.ref 1] (rz_w v a g) (fun r w' => r = .inl (some (.int (v 0))) ∧ w' = rz_w (rz_up v 0 0) a g) := by
  refine ev_ps 6 rfl ?_
  exact ev_ps 1 rfl (ev_ret rfl rfl ⟨rfl, rfl⟩)
end RZT
end
section
/-! small numbers as ints -/
theorem rz_toInt {n : Nat} (h : n < 2 ^ 31) : (Int32.ofNat n).toInt = (n : Int) := by
  first
    | exact Int32.toInt_ofNat_of_lt h
    | exact Int32.toInt_ofNat' (by omega)
    | (rw [Int32.toInt_ofNat]; omega)
theorem rz_lt_iff {n k : Nat} (hn : n < 2 ^ 31) (hk : k < 2 ^ 31) : Int32.ofNat n < Int32.ofNat k ↔ n < k := by
  rw [Int32.lt_iff_toInt_lt, rz_toInt hn, rz_toInt hk]; omega
theorem rz_le_iff {n k : Nat} (hn : n < 2 ^ 31) (hk : k < 2 ^ 31) : Int32.ofNat n ≤ Int32.ofNat k ↔ n ≤ k := by
  rw [Int32.le_iff_toInt_le, rz_toInt hn, rz_toInt hk]; omega
theorem rz_eq_iff {n k : Nat} (hn : n < 2 ^ 31) (hk : k < 2 ^ 31) : Int32.ofNat n = Int32.ofNat k ↔ n = k := by
  constructor
  · intro h
    have := congrArg Int32.toInt h
    rw [rz_toInt hn, rz_toInt hk] at this
    omega
  · rintro rfl; rfl
theorem rz_nat {x : Int32} (h0 : ¬ x < 0) : ∃ k : Nat, k < 2 ^ 31 ∧ x = Int32.ofNat k := by
  have h1 : (0 : Int) ≤ x.toInt := by
    rw [Int32.lt_iff_toInt_lt] at h0
    have : (0 : Int32).toInt = 0 := rfl
    omega
  have h2 : x.toInt < 2 ^ 31 := Int32.toInt_lt x
  refine ⟨x.toInt.toNat, by omega, ?_⟩
  apply Int32.toInt_inj.mp
  rw [rz_toInt (by omega)]
  omega
theorem rz_idx {x : Int32} {n : Nat} (hn : n < 2 ^ 31) (h0 : ¬ x < 0) (h1 : x < Int32.ofNat n) : ∃ k, k < n ∧ x = Int32.ofNat k := by
  obtain ⟨k, hk, rfl⟩ := rz_nat h0
  exact ⟨k, (rz_lt_iff hk hn).mp h1, rfl⟩
theorem rz_clamp {k : Nat} (h : k < 2 ^ 31) : (Int32.ofNat k).toNatClampNeg = k := by
  rw [Int32.toNatClampNeg, rz_toInt h]; omega
theorem rz_in {k n : Nat} (hk : k < n) (hn : n < 2 ^ 31) : ¬ (Int32.ofNat k < 0 ∨ n ≤ (Int32.ofNat k).toNatClampNeg) := by
  rw [rz_clamp (by omega)]
  rintro (h | h)
  · have : ¬ Int32.ofNat k < Int32.ofNat 0 := by rw [rz_lt_iff (by omega) (by omega)]; omega
    exact this h
  · omega
theorem rz_succ (k : Nat) : Int32.ofNat k + 1 = Int32.ofNat (k + 1) := (Int32.ofNat_add k 1).symm
theorem rz_add (k n : Nat) : Int32.ofNat k + Int32.ofNat n = Int32.ofNat (k + n) := (Int32.ofNat_add k n).symm
theorem rz_sub {k n : Nat} (h : n ≤ k) : Int32.ofNat k - Int32.ofNat n = Int32.ofNat (k - n) := by
  have : Int32.ofNat k = Int32.ofNat (k - n) + Int32.ofNat n := by rw [rz_add]; congr 1; omega
  rw [this, Int32.add_sub_cancel]
theorem rz_mask (c : Int32) (b : Nat) (hb : b < 2 ^ 31) : ∃ k, k ≤ b ∧ c &&& Int32.ofNat b = Int32.ofNat k := by
  refine ⟨(c.toBitVec &&& BitVec.ofNat 32 b).toNat, ?_, ?_⟩
  · rw [BitVec.toNat_and, BitVec.toNat_ofNat, Nat.mod_eq_of_lt (by omega)]
    exact Nat.and_le_right
  · apply Int32.toBitVec_inj.mp
    rw [Int32.toBitVec_and]
    show c.toBitVec &&& BitVec.ofNat 32 b = BitVec.ofNat 32 _
    rw [BitVec.ofNat_toNat]
    simp
theorem ev_loop {xs : Nat → Int32} {xl M pc kc ks : Nat} {post : rz_R → rz_W → Prop} {α : Type} (mu : α → Nat) (Inv : α → Prop) (L : α → rz_L) (S : α → List Value) (Wd : α → rz_W)
    (step : ∀ x, Inv x → (∀ y, Inv y → mu y < mu x → rz_E xs xl M pc (L y) (S y) (Wd y) kc ks post) → rz_E xs xl M pc (L x) (S x) (Wd x) kc ks post) : ∀ x, Inv x → rz_E xs xl M pc (L x) (S x) (Wd x) kc ks post := by
  have key : ∀ n x, mu x < n → Inv x → rz_E xs xl M pc (L x) (S x) (Wd x) kc ks post := by
    intro n
    induction n with
    | zero => intro x h; omega
    | succ n ih => intro x h hi; exact step x hi (fun y hy hlt => ih y (by omega) hy)
  exact fun x hi => key (mu x + 1) x (by omega) hi
section RZS
variable {xs : Nat → Int32} {xl M pc : Nat} {L : rz_L} {st : List Value} {w : rz_W} {kc ks : Nat} {post : rz_R → rz_W → Prop}
theorem ev_tsw {d lo hi : Int} {offs : Array Int} {len x y z : Nat} {v : Int32} (hc : rz_code M pc = some (0, .tableswitch d lo hi offs, len, x, y, z)) (kk : ∀ t, t ∈ (d :: offs.toList).map (rz_tg pc) → rz_E xs xl M t L st w kc ks post) : rz_E xs xl M pc L (.int v :: st) w kc ks post := by
  refine ev_p hc rfl (kk _ ?_)
  split
  · exact List.mem_cons_self
  · rw [List.map_cons]
    by_cases h : (v.toInt - lo).toNat < offs.size
    · refine List.mem_cons_of_mem _ (List.mem_map.mpr ⟨offs[(v.toInt - lo).toNat], Array.mem_toList_iff.mpr (Array.getElem_mem h), ?_⟩)
      simp [Array.getD, h]
    · have : offs.getD (v.toInt - lo).toNat d = d := by simp [Array.getD, h]
      rw [this]
      exact List.mem_cons_self
theorem ev_lsw {d : Int} {ps : Array (Int × Int)} {len x y z : Nat} {v : Int32} (hc : rz_code M pc = some (0, .lookupswitch d ps, len, x, y, z)) (kk : ∀ t, t ∈ (d :: ps.toList.map (fun q => q.2)).map (rz_tg pc) → rz_E xs xl M t L st w kc ks post) : rz_E xs xl M pc L (.int v :: st) w kc ks post := by
  refine ev_p hc rfl (kk _ ?_)
  refine List.mem_map.mpr ⟨_, ?_, rfl⟩
  generalize ps.toList = qs
  induction qs with
  | nil => simp [Op.lookupswitch.offset]
  | cons a t ih =>
    simp only [Op.lookupswitch.offset, List.map_cons]
    split
    · exact List.mem_cons_of_mem _ List.mem_cons_self
    · rcases List.mem_cons.mp ih with h | h
      · rw [h]; exact List.mem_cons_self
      · exact List.mem_cons_of_mem _ (List.mem_cons_of_mem _ h)
theorem ev_min {ins : Instr} {len x y z : Nat} {a b : Int32} (hc : rz_code M pc = some (6, ins, len, x, y, z)) (hs : (st.map fun v => v.category).sum ≤ 8) (k : rz_E xs xl M (pc + len) L (.int (if b < a then b else a) :: st) w kc ks post) : rz_E xs xl M pc L (.int b :: .int a :: st) w kc ks post := by
  obtain ⟨n, r, w1, h1, h2⟩ := k
  refine ⟨n + 1, r, w1, ?_, h2⟩
  rw [rz_run, hc]
  exact (if_pos hs).trans h1
theorem ev_w {w2 : rz_W} (h : w = w2) (k : rz_E xs xl M pc L st w2 kc ks post) : rz_E xs xl M pc L st w kc ks post := h ▸ k
end RZS
theorem rz_mem2 {t a0 a1 : Nat} (h : t ∈ [a0, a1]) : t = a0 ∨ t = a1 := by simpa using h
theorem rz_mem3 {t a0 a1 a2 : Nat} (h : t ∈ [a0, a1, a2]) : t = a0 ∨ t = a1 ∨ t = a2 := by simpa using h
theorem rz_mem4 {t a0 a1 a2 a3 : Nat} (h : t ∈ [a0, a1, a2, a3]) : t = a0 ∨ t = a1 ∨ t = a2 ∨ t = a3 := by simpa using h
theorem rz_mem5 {t a0 a1 a2 a3 a4 : Nat} (h : t ∈ [a0, a1, a2, a3, a4]) : t = a0 ∨ t = a1 ∨ t = a2 ∨ t = a3 ∨ t = a4 := by simpa using h
theorem rz_mem11 {t a0 a1 a2 a3 a4 a5 a6 a7 a8 a9 a10 : Nat} (h : t ∈ [a0, a1, a2, a3, a4, a5, a6, a7, a8, a9, a10]) : t = a0 ∨ t = a1 ∨ t = a2 ∨ t = a3 ∨ t = a4 ∨ t = a5 ∨ t = a6 ∨ t = a7 ∨ t = a8 ∨ t = a9 ∨ t = a10 := by simpa using h
theorem rz_mem14 {t a0 a1 a2 a3 a4 a5 a6 a7 a8 a9 a10 a11 a12 a13 : Nat} (h : t ∈ [a0, a1, a2, a3, a4, a5, a6, a7, a8, a9, a10, a11, a12, a13]) : t = a0 ∨ t = a1 ∨ t = a2 ∨ t = a3 ∨ t = a4 ∨ t = a5 ∨ t = a6 ∨ t = a7 ∨ t = a8 ∨ t = a9 ∨ t = a10 ∨ t = a11 ∨ t = a12 ∨ t = a13 := by simpa using h
theorem rc_eq_t {a b : Int32} (h : rz_cmp .eq a b = true) : a = b := by simpa [rz_cmp] using h
theorem rc_eq_f {a b : Int32} (h : rz_cmp .eq a b = false) : ¬ a = b := by simpa [rz_cmp] using h
theorem rc_ne_t {a b : Int32} (h : rz_cmp .ne a b = true) : ¬ a = b := by simpa [rz_cmp] using h
theorem rc_ne_f {a b : Int32} (h : rz_cmp .ne a b = false) : a = b := by simpa [rz_cmp] using h
theorem rc_lt_t {a b : Int32} (h : rz_cmp .lt a b = true) : a < b := by simpa [rz_cmp] using h
theorem rc_lt_f {a b : Int32} (h : rz_cmp .lt a b = false) : ¬ a < b := by simpa [rz_cmp] using h
theorem rc_ge_t {a b : Int32} (h : rz_cmp .ge a b = true) : b ≤ a := by simpa [rz_cmp] using h
theorem rc_ge_f {a b : Int32} (h : rz_cmp .ge a b = false) : ¬ b ≤ a := by simpa [rz_cmp] using h
theorem rc_gt_t {a b : Int32} (h : rz_cmp .gt a b = true) : b < a := by simpa [rz_cmp] using h
theorem rc_gt_f {a b : Int32} (h : rz_cmp .gt a b = false) : ¬ b < a := by simpa [rz_cmp] using h
theorem rc_le_t {a b : Int32} (h : rz_cmp .le a b = true) : a ≤ b := by simpa [rz_cmp] using h
theorem rc_le_f {a b : Int32} (h : rz_cmp .le a b = false) : ¬ a ≤ b := by simpa [rz_cmp] using h
theorem rn_ge_t {n k : Nat} (hn : n < 2 ^ 31) (hk : k < 2 ^ 31) (h : rz_cmp .ge (Int32.ofNat n) (Int32.ofNat k) = true) : k ≤ n := (rz_le_iff hk hn).mp (rc_ge_t h)
theorem rn_ge_f {n k : Nat} (hn : n < 2 ^ 31) (hk : k < 2 ^ 31) (h : rz_cmp .ge (Int32.ofNat n) (Int32.ofNat k) = false) : n < k := Nat.not_le.mp fun q => rc_ge_f h ((rz_le_iff hk hn).mpr q)
theorem rn_lt_t {n k : Nat} (hn : n < 2 ^ 31) (hk : k < 2 ^ 31) (h : rz_cmp .lt (Int32.ofNat n) (Int32.ofNat k) = true) : n < k := (rz_lt_iff hn hk).mp (rc_lt_t h)
theorem rn_lt_f {n k : Nat} (hn : n < 2 ^ 31) (hk : k < 2 ^ 31) (h : rz_cmp .lt (Int32.ofNat n) (Int32.ofNat k) = false) : k ≤ n := Nat.not_lt.mp fun q => rc_lt_f h ((rz_lt_iff hn hk).mpr q)
theorem rn_gt_t {n k : Nat} (hn : n < 2 ^ 31) (hk : k < 2 ^ 31) (h : rz_cmp .gt (Int32.ofNat n) (Int32.ofNat k) = true) : k < n := (rz_lt_iff hk hn).mp (rc_gt_t h)
theorem rn_gt_f {n k : Nat} (hn : n < 2 ^ 31) (hk : k < 2 ^ 31) (h : rz_cmp .gt (Int32.ofNat n) (Int32.ofNat k) = false) : n ≤ k := Nat.not_lt.mp fun q => rc_gt_f h ((rz_lt_iff hk hn).mpr q)
theorem rn_le_t {n k : Nat} (hn : n < 2 ^ 31) (hk : k < 2 ^ 31) (h : rz_cmp .le (Int32.ofNat n) (Int32.ofNat k) = true) : n ≤ k := (rz_le_iff hn hk).mp (rc_le_t h)
theorem rn_le_f {n k : Nat} (hn : n < 2 ^ 31) (hk : k < 2 ^ 31) (h : rz_cmp .le (Int32.ofNat n) (Int32.ofNat k) = false) : k < n := Nat.not_le.mp fun q => rc_le_f h ((rz_le_iff hn hk).mpr q)
theorem ev_l {xs : Nat → Int32} {xl M pc : Nat} {L L2 : rz_L} {st : List Value} {w : rz_W} {kc ks : Nat} {post : rz_R → rz_W → Prop} (h : L = L2) (k : rz_E xs xl M pc L2 st w kc ks post) : rz_E xs xl M pc L st w kc ks post := h ▸ k
end
section
/-! the small methods of the class: numbers alone -/
section RZL
variable {xs : Nat → Int32} {xl : Nat} {v : Nat → Int32} {a : Nat → Nat → Int32} {g : Nat → Int64} {w : rz_W}
theorem c_value (x0 x1 : Int32) : rz_C xs xl 7 [.int x0, .int x1] w (fun q w' => q = .inl (some (.int ((x0 >>> (x1 * 4 &&& 31)) &&& 15))) ∧ w' = w) := by
  exact ev_ps 7 rfl (ev_ret rfl rfl ⟨rfl, rfl⟩)
theorem c_t (x0 : Int32) : rz_C xs xl 15 [.int x0] w (fun q w' => q = .inl (some (.int (x0 &&& 31))) ∧ w' = w) := by
  exact ev_ps 3 rfl (ev_ret rfl rfl ⟨rfl, rfl⟩)
theorem c_operation (x0 : Int32) : rz_C xs xl 16 [.int x0] w (fun q w' => q = .inl (some (.int (x0 >>> (9 &&& 31)))) ∧ w' = w) := by
  exact ev_ps 3 rfl (ev_ret rfl rfl ⟨rfl, rfl⟩)
theorem c_d (x0 : Int32) : rz_C xs xl 18 [.int x0] w (fun q w' => q = .inl (some (.int (x0 >>> (7 &&& 31) &&& 3))) ∧ w' = w) := by
  exact ev_ps 5 rfl (ev_ret rfl rfl ⟨rfl, rfl⟩)
theorem c_s (x0 : Int32) : rz_C xs xl 20 [.int x0] w (fun q w' => q = .inl (some (.int (x0 >>> (5 &&& 31) &&& 3))) ∧ w' = w) := by
  exact ev_ps 5 rfl (ev_ret rfl rfl ⟨rfl, rfl⟩)
theorem c_pack (x0 x1 x2 x3 : Int32) : rz_C xs xl 42 [.int x0, .int x1, .int x2, .int x3] w (fun q w' => q = .inl (some (.int (x0 <<< 9 ||| x1 <<< 7 ||| x2 <<< 5 ||| x3))) ∧ w' = w) := by
  exact ev_ps 13 rfl (ev_ret rfl rfl ⟨rfl, rfl⟩)
theorem c_withTarget (x0 x1 : Int32) : rz_C xs xl 47 [.int x0, .int x1] w (fun q w' => q = .inl (some (.int ((x0 &&& -32) ||| x1))) ∧ w' = w) := by
  exact ev_ps 5 rfl (ev_ret rfl rfl ⟨rfl, rfl⟩)
theorem c_with (x0 x1 x2 : Int32) : rz_C xs xl 38 [.int x0, .int x1, .int x2] w (fun q w' => (∃ u, q = .inl (some (.int u))) ∧ w' = w) := by
  refine ev_ps 1 rfl (ev_if (cd := .ne) rfl (fun h1 => ?_) (fun h1 => ?_))
  · exact ev_ps 17 rfl (ev_ret rfl rfl ⟨⟨_, rfl⟩, rfl⟩)
  · exact ev_ps 1 rfl (ev_ret rfl rfl ⟨⟨_, rfl⟩, rfl⟩)
theorem c_greatestT (x0 : Int32) : rz_C xs xl 52 [.int x0] w (fun q w' => (∃ u, q = .inl (some (.int u))) ∧ w' = w) := by
  refine ev_ps 2 rfl (ev_ic (cd := .gt) rfl (fun h1 => ?_) (fun h1 => ?_))
  · refine ev_ps 2 rfl (ev_ic (cd := .gt) rfl (fun h2 => ?_) (fun h2 => ?_))
    · refine ev_ps 2 rfl (ev_ic (cd := .gt) rfl (fun h3 => ?_) (fun h3 => ?_))
      · refine ev_ps 2 rfl (ev_ic (cd := .ne) rfl (fun h4 => ?_) (fun h4 => ?_))
        · exact ev_ps 1 rfl (ev_ret rfl rfl ⟨⟨_, rfl⟩, rfl⟩)
        · exact ev_ps 2 rfl (ev_ret rfl rfl ⟨⟨_, rfl⟩, rfl⟩)
      · exact ev_ps 1 rfl (ev_ret rfl rfl ⟨⟨_, rfl⟩, rfl⟩)
    · exact ev_ps 1 rfl (ev_ret rfl rfl ⟨⟨_, rfl⟩, rfl⟩)
  · exact ev_ps 1 rfl (ev_ret rfl rfl ⟨⟨_, rfl⟩, rfl⟩)
theorem c_isPlain (x0 : Int32) : rz_C xs xl 26 [.int x0] w (fun q w' => (∃ u, (u = 0 ∨ u = 1) ∧ q = .inl (some (.int u))) ∧ w' = w) := by
  refine ev_ps 1 rfl (ev_call (av := [_]) rfl rfl rfl rfl ⟨Nat.le_of_ble_eq_true rfl, rfl⟩ ⟨Nat.le_of_ble_eq_true rfl, Nat.le_of_ble_eq_true rfl⟩ (c_operation _) ?_)
  rintro _ _ ⟨rfl, rfl⟩
  refine ev_ps 1 rfl (ev_ic (cd := .gt) rfl (fun h1 => ?_) (fun h1 => ?_))
  · exact ev_ps 1 rfl (ev_ret rfl rfl ⟨⟨_, by decide, rfl⟩, rfl⟩)
  · exact ev_ps 2 rfl (ev_ret rfl rfl ⟨⟨_, by decide, rfl⟩, rfl⟩)
theorem c_endsBlock (x0 : Int32) : rz_C xs xl 28 [.int x0] w (fun q w' => (∃ u, (u = 0 ∨ u = 1) ∧ q = .inl (some (.int u))) ∧ w' = w) := by
  refine ev_ps 1 rfl (ev_call (av := [_]) rfl rfl rfl rfl ⟨Nat.le_of_ble_eq_true rfl, rfl⟩ ⟨Nat.le_of_ble_eq_true rfl, Nat.le_of_ble_eq_true rfl⟩ (c_operation _) ?_)
  rintro _ _ ⟨rfl, rfl⟩
  refine ev_ps 1 rfl (ev_ic (cd := .lt) rfl (fun h1 => ?_) (fun h1 => ?_))
  · exact ev_ps 1 rfl (ev_ret rfl rfl ⟨⟨_, by decide, rfl⟩, rfl⟩)
  · exact ev_ps 2 rfl (ev_ret rfl rfl ⟨⟨_, by decide, rfl⟩, rfl⟩)
theorem c_hasTarget (x0 : Int32) : rz_C xs xl 29 [.int x0] w (fun q w' => (∃ u, (u = 0 ∨ u = 1) ∧ q = .inl (some (.int u))) ∧ w' = w) := by
  refine ev_ps 1 rfl (ev_call (av := [_]) rfl rfl rfl rfl ⟨Nat.le_of_ble_eq_true rfl, rfl⟩ ⟨Nat.le_of_ble_eq_true rfl, Nat.le_of_ble_eq_true rfl⟩ (c_operation _) ?_)
  rintro _ _ ⟨rfl, rfl⟩
  refine ev_ps 1 rfl (ev_ic (cd := .lt) rfl (fun h1 => ?_) (fun h1 => ?_))
  · exact ev_ps 1 rfl (ev_ret rfl rfl ⟨⟨_, by decide, rfl⟩, rfl⟩)
  · refine ev_ps 1 rfl (ev_call (av := [_]) rfl rfl rfl rfl ⟨Nat.le_of_ble_eq_true rfl, rfl⟩ ⟨Nat.le_of_ble_eq_true rfl, Nat.le_of_ble_eq_true rfl⟩ (c_operation _) ?_)
    rintro _ _ ⟨rfl, rfl⟩
    refine ev_ps 1 rfl (ev_ic (cd := .gt) rfl (fun h2 => ?_) (fun h2 => ?_))
    · exact ev_ps 1 rfl (ev_ret rfl rfl ⟨⟨_, by decide, rfl⟩, rfl⟩)
    · exact ev_ps 2 rfl (ev_ret rfl rfl ⟨⟨_, by decide, rfl⟩, rfl⟩)
theorem c_hasNumber (x0 : Int32) : rz_C xs xl 41 [.int x0] w (fun q w' => (∃ u, (u = 0 ∨ u = 1) ∧ q = .inl (some (.int u))) ∧ w' = w) := by
  refine ev_ps 1 rfl (ev_call (av := [_]) rfl rfl rfl rfl ⟨Nat.le_of_ble_eq_true rfl, rfl⟩ ⟨Nat.le_of_ble_eq_true rfl, Nat.le_of_ble_eq_true rfl⟩ (c_operation _) ?_)
  rintro _ _ ⟨rfl, rfl⟩
  refine ev_ps 1 rfl (ev_ic (cd := .lt) rfl (fun h1 => ?_) (fun h1 => ?_))
  · exact ev_ps 1 rfl (ev_ret rfl rfl ⟨⟨_, by decide, rfl⟩, rfl⟩)
  · refine ev_ps 1 rfl (ev_call (av := [_]) rfl rfl rfl rfl ⟨Nat.le_of_ble_eq_true rfl, rfl⟩ ⟨Nat.le_of_ble_eq_true rfl, Nat.le_of_ble_eq_true rfl⟩ (c_operation _) ?_)
    rintro _ _ ⟨rfl, rfl⟩
    refine ev_ps 1 rfl (ev_ic (cd := .gt) rfl (fun h2 => ?_) (fun h2 => ?_))
    · exact ev_ps 1 rfl (ev_ret rfl rfl ⟨⟨_, by decide, rfl⟩, rfl⟩)
    · exact ev_ps 2 rfl (ev_ret rfl rfl ⟨⟨_, by decide, rfl⟩, rfl⟩)
theorem c_isLegal (x0 x1 x2 x3 : Int32) : rz_C xs xl 51 [.int x0, .int x1, .int x2, .int x3] w (fun q w' => (∃ u, (u = 0 ∨ u = 1) ∧ q = .inl (some (.int u))) ∧ w' = w) := by
  refine ev_ps 1 rfl (ev_if (cd := .lt) rfl (fun h1 => ?_) (fun h1 => ?_))
  · exact ev_ps 1 rfl (ev_ret rfl rfl ⟨⟨_, by decide, rfl⟩, rfl⟩)
  · refine ev_ps 2 rfl (ev_ic (cd := .le) rfl (fun h2 => ?_) (fun h2 => ?_))
    · refine ev_ps 2 rfl (ev_ic (cd := .lt) rfl (fun h3 => ?_) (fun h3 => ?_))
      · refine ev_ps 3 rfl (ev_if (cd := .lt) rfl (fun h4 => ?_) (fun h4 => ?_))
        · exact ev_ps 1 rfl (ev_ret rfl rfl ⟨⟨_, by decide, rfl⟩, rfl⟩)
        · refine ev_ps 2 rfl (ev_ic (cd := .gt) rfl (fun h5 => ?_) (fun h5 => ?_))
          · exact ev_ps 1 rfl (ev_ret rfl rfl ⟨⟨_, by decide, rfl⟩, rfl⟩)
          · refine ev_ps 1 rfl (ev_if (cd := .lt) rfl (fun h6 => ?_) (fun h6 => ?_))
            · exact ev_ps 1 rfl (ev_ret rfl rfl ⟨⟨_, by decide, rfl⟩, rfl⟩)
            · refine ev_ps 2 rfl (ev_ic (cd := .gt) rfl (fun h7 => ?_) (fun h7 => ?_))
              · exact ev_ps 1 rfl (ev_ret rfl rfl ⟨⟨_, by decide, rfl⟩, rfl⟩)
              · refine ev_ps 1 rfl (ev_if (cd := .lt) rfl (fun h8 => ?_) (fun h8 => ?_))
                · exact ev_ps 1 rfl (ev_ret rfl rfl ⟨⟨_, by decide, rfl⟩, rfl⟩)
                · refine ev_ps 2 rfl (ev_call (av := [_]) rfl rfl rfl rfl ⟨Nat.le_of_ble_eq_true rfl, rfl⟩ ⟨Nat.le_of_ble_eq_true rfl, Nat.le_of_ble_eq_true rfl⟩ (c_greatestT _) ?_)
                  rintro _ _ ⟨⟨u, rfl⟩, rfl⟩
                  refine ev_ic (cd := .gt) rfl (fun h9 => ?_) (fun h9 => ?_)
                  · exact ev_ps 1 rfl (ev_ret rfl rfl ⟨⟨_, by decide, rfl⟩, rfl⟩)
                  · exact ev_ps 2 rfl (ev_ret rfl rfl ⟨⟨_, by decide, rfl⟩, rfl⟩)
      · refine ev_ps 4 rfl (ev_if (cd := .lt) rfl (fun h10 => ?_) (fun h10 => ?_))
        · exact ev_ps 1 rfl (ev_ret rfl rfl ⟨⟨_, by decide, rfl⟩, rfl⟩)
        · refine ev_ps 2 rfl (ev_ic (cd := .gt) rfl (fun h11 => ?_) (fun h11 => ?_))
          · exact ev_ps 1 rfl (ev_ret rfl rfl ⟨⟨_, by decide, rfl⟩, rfl⟩)
          · refine ev_ps 1 rfl (ev_if (cd := .lt) rfl (fun h12 => ?_) (fun h12 => ?_))
            · exact ev_ps 1 rfl (ev_ret rfl rfl ⟨⟨_, by decide, rfl⟩, rfl⟩)
            · refine ev_ps 2 rfl (ev_ic (cd := .gt) rfl (fun h13 => ?_) (fun h13 => ?_))
              · exact ev_ps 1 rfl (ev_ret rfl rfl ⟨⟨_, by decide, rfl⟩, rfl⟩)
              · refine ev_ps 1 rfl (ev_if (cd := .lt) rfl (fun h14 => ?_) (fun h14 => ?_))
                · exact ev_ps 1 rfl (ev_ret rfl rfl ⟨⟨_, by decide, rfl⟩, rfl⟩)
                · refine ev_ps 2 rfl (ev_call (av := [_]) rfl rfl rfl rfl ⟨Nat.le_of_ble_eq_true rfl, rfl⟩ ⟨Nat.le_of_ble_eq_true rfl, Nat.le_of_ble_eq_true rfl⟩ (c_greatestT _) ?_)
                  rintro _ _ ⟨⟨u, rfl⟩, rfl⟩
                  refine ev_ic (cd := .gt) rfl (fun h15 => ?_) (fun h15 => ?_)
                  · exact ev_ps 1 rfl (ev_ret rfl rfl ⟨⟨_, by decide, rfl⟩, rfl⟩)
                  · exact ev_ps 2 rfl (ev_ret rfl rfl ⟨⟨_, by decide, rfl⟩, rfl⟩)
    · exact ev_ps 1 rfl (ev_ret rfl rfl ⟨⟨_, by decide, rfl⟩, rfl⟩)
theorem c_writtenBy (x0 : Int32) : rz_C xs xl 17 [.int x0] w (fun q w' => (∃ u, q = .inl (some (.int u))) ∧ w' = w) := by
  refine ev_ps 1 rfl (ev_call (av := [_]) rfl rfl rfl rfl ⟨Nat.le_of_ble_eq_true rfl, rfl⟩ ⟨Nat.le_of_ble_eq_true rfl, Nat.le_of_ble_eq_true rfl⟩ (c_operation _) ?_)
  rintro _ _ ⟨rfl, rfl⟩
  refine ev_ps 1 rfl (ev_ic (cd := .gt) rfl (fun h1 => ?_) (fun h1 => ?_))
  · exact ev_ps 1 rfl (ev_ret rfl rfl ⟨⟨_, rfl⟩, rfl⟩)
  · refine ev_ps 2 rfl (ev_call (av := [_]) rfl rfl rfl rfl ⟨Nat.le_of_ble_eq_true rfl, rfl⟩ ⟨Nat.le_of_ble_eq_true rfl, Nat.le_of_ble_eq_true rfl⟩ (c_d _) ?_)
    rintro _ _ ⟨rfl, rfl⟩
    exact ev_ps 2 rfl (ev_ret rfl rfl ⟨⟨_, rfl⟩, rfl⟩)
theorem c_readBy (x0 : Int32) : rz_C xs xl 19 [.int x0] w (fun q w' => (∃ u, q = .inl (some (.int u))) ∧ w' = w) := by
  refine ev_ps 1 rfl (ev_call (av := [_]) rfl rfl rfl rfl ⟨Nat.le_of_ble_eq_true rfl, rfl⟩ ⟨Nat.le_of_ble_eq_true rfl, Nat.le_of_ble_eq_true rfl⟩ (c_operation _) ?_)
  rintro _ _ ⟨rfl, rfl⟩
  refine ev_ps 3 rfl (ev_ic (cd := .gt) rfl (fun h1 => ?_) (fun h1 => ?_))
  · refine ev_ps 2 rfl (ev_ic (cd := .gt) rfl (fun h2 => ?_) (fun h2 => ?_))
    · refine ev_ps 2 rfl (ev_ic (cd := .gt) rfl (fun h3 => ?_) (fun h3 => ?_))
      · refine ev_ps 2 rfl (ev_ic (cd := .ne) rfl (fun h4 => ?_) (fun h4 => ?_))
        · exact ev_ps 1 rfl (ev_ret rfl rfl ⟨⟨_, rfl⟩, rfl⟩)
        · exact ev_ps 2 rfl (ev_ret rfl rfl ⟨⟨_, rfl⟩, rfl⟩)
      · refine ev_ps 2 rfl (ev_call (av := [_]) rfl rfl rfl rfl ⟨Nat.le_of_ble_eq_true rfl, rfl⟩ ⟨Nat.le_of_ble_eq_true rfl, Nat.le_of_ble_eq_true rfl⟩ (c_d _) ?_)
        rintro _ _ ⟨rfl, rfl⟩
        refine ev_ps 3 rfl (ev_call (av := [_]) rfl rfl rfl rfl ⟨Nat.le_of_ble_eq_true rfl, rfl⟩ ⟨Nat.le_of_ble_eq_true rfl, Nat.le_of_ble_eq_true rfl⟩ (c_s _) ?_)
        rintro _ _ ⟨rfl, rfl⟩
        exact ev_ps 2 rfl (ev_ret rfl rfl ⟨⟨_, rfl⟩, rfl⟩)
    · refine ev_ps 2 rfl (ev_call (av := [_]) rfl rfl rfl rfl ⟨Nat.le_of_ble_eq_true rfl, rfl⟩ ⟨Nat.le_of_ble_eq_true rfl, Nat.le_of_ble_eq_true rfl⟩ (c_s _) ?_)
      rintro _ _ ⟨rfl, rfl⟩
      exact ev_ps 1 rfl (ev_ret rfl rfl ⟨⟨_, rfl⟩, rfl⟩)
  · refine ev_ps 2 rfl (ev_call (av := [_]) rfl rfl rfl rfl ⟨Nat.le_of_ble_eq_true rfl, rfl⟩ ⟨Nat.le_of_ble_eq_true rfl, Nat.le_of_ble_eq_true rfl⟩ (c_s _) ?_)
    rintro _ _ ⟨rfl, rfl⟩
    refine ev_ps 3 rfl (ev_call (av := [_]) rfl rfl rfl rfl ⟨Nat.le_of_ble_eq_true rfl, rfl⟩ ⟨Nat.le_of_ble_eq_true rfl, Nat.le_of_ble_eq_true rfl⟩ (c_t _) ?_)
    rintro _ _ ⟨rfl, rfl⟩
    exact ev_ps 2 rfl (ev_ret rfl rfl ⟨⟨_, rfl⟩, rfl⟩)
theorem c_part (x0 x1 : Int32) : rz_C xs xl 58 [.int x0, .int x1] w (fun q w' => (∃ u, q = .inl (some (.int u))) ∧ w' = w) := by
  refine ev_ps 1 rfl (ev_tsw rfl (fun t ht => ?_))
  rcases rz_mem4 ht with rfl | rfl | rfl | rfl
  · refine ev_ps 1 rfl (ev_call (av := [_]) rfl rfl rfl rfl ⟨Nat.le_of_ble_eq_true rfl, rfl⟩ ⟨Nat.le_of_ble_eq_true rfl, Nat.le_of_ble_eq_true rfl⟩ (c_t _) ?_)
    rintro _ _ ⟨rfl, rfl⟩
    exact ev_ret rfl rfl ⟨⟨_, rfl⟩, rfl⟩
  · refine ev_ps 1 rfl (ev_call (av := [_]) rfl rfl rfl rfl ⟨Nat.le_of_ble_eq_true rfl, rfl⟩ ⟨Nat.le_of_ble_eq_true rfl, Nat.le_of_ble_eq_true rfl⟩ (c_operation _) ?_)
    rintro _ _ ⟨rfl, rfl⟩
    exact ev_ret rfl rfl ⟨⟨_, rfl⟩, rfl⟩
  · refine ev_ps 1 rfl (ev_call (av := [_]) rfl rfl rfl rfl ⟨Nat.le_of_ble_eq_true rfl, rfl⟩ ⟨Nat.le_of_ble_eq_true rfl, Nat.le_of_ble_eq_true rfl⟩ (c_d _) ?_)
    rintro _ _ ⟨rfl, rfl⟩
    exact ev_ret rfl rfl ⟨⟨_, rfl⟩, rfl⟩
  · refine ev_ps 1 rfl (ev_call (av := [_]) rfl rfl rfl rfl ⟨Nat.le_of_ble_eq_true rfl, rfl⟩ ⟨Nat.le_of_ble_eq_true rfl, Nat.le_of_ble_eq_true rfl⟩ (c_s _) ?_)
    rintro _ _ ⟨rfl, rfl⟩
    exact ev_ret rfl rfl ⟨⟨_, rfl⟩, rfl⟩
theorem c_regsAfter (x0 x1 : Int32) : rz_C xs xl 37 [.int x0, .int x1] w (fun q w' => (∃ u, q = .inl (some (.int u))) ∧ w' = w) := by
  refine ev_ps 1 rfl (ev_call (av := [_]) rfl rfl rfl rfl ⟨Nat.le_of_ble_eq_true rfl, rfl⟩ ⟨Nat.le_of_ble_eq_true rfl, Nat.le_of_ble_eq_true rfl⟩ (c_operation _) ?_)
  rintro _ _ ⟨rfl, rfl⟩
  refine ev_ps 3 rfl (ev_call (av := [_]) rfl rfl rfl rfl ⟨Nat.le_of_ble_eq_true rfl, rfl⟩ ⟨Nat.le_of_ble_eq_true rfl, Nat.le_of_ble_eq_true rfl⟩ (c_s _) ?_)
  rintro _ _ ⟨rfl, rfl⟩
  refine ev_call (av := [_, _]) rfl rfl rfl rfl ⟨Nat.le_of_ble_eq_true rfl, rfl⟩ ⟨Nat.le_of_ble_eq_true rfl, Nat.le_of_ble_eq_true rfl⟩ (c_value _ _) ?_
  rintro _ _ ⟨rfl, rfl⟩
  refine ev_ps 3 rfl (ev_ic (cd := .gt) rfl (fun h1 => ?_) (fun h1 => ?_))
  · refine ev_ps 1 rfl (ev_call (av := [_]) rfl rfl rfl rfl ⟨Nat.le_of_ble_eq_true rfl, rfl⟩ ⟨Nat.le_of_ble_eq_true rfl, Nat.le_of_ble_eq_true rfl⟩ (c_t _) ?_)
    rintro _ _ ⟨rfl, rfl⟩
    refine ev_ps 2 rfl (ev_tsw rfl (fun t ht => ?_))
    rcases rz_mem11 ht with rfl | rfl | rfl | rfl | rfl | rfl | rfl | rfl | rfl | rfl | rfl
    · exact ev_ps 1 rfl (ev_ret rfl rfl ⟨⟨_, rfl⟩, rfl⟩)
    · refine ev_ps 7 rfl (ev_call (av := [_]) rfl rfl rfl rfl ⟨Nat.le_of_ble_eq_true rfl, rfl⟩ ⟨Nat.le_of_ble_eq_true rfl, Nat.le_of_ble_eq_true rfl⟩ (c_d _) ?_)
      rintro _ _ ⟨rfl, rfl⟩
      refine ev_ps 1 rfl (ev_call (av := [_, _, _]) rfl rfl rfl rfl ⟨Nat.le_of_ble_eq_true rfl, rfl⟩ ⟨Nat.le_of_ble_eq_true rfl, Nat.le_of_ble_eq_true rfl⟩ (c_with _ _ _) ?_)
      rintro _ _ ⟨⟨u, rfl⟩, rfl⟩
      exact ev_ret rfl rfl ⟨⟨_, rfl⟩, rfl⟩
    · refine ev_ps 7 rfl (ev_call (av := [_]) rfl rfl rfl rfl ⟨Nat.le_of_ble_eq_true rfl, rfl⟩ ⟨Nat.le_of_ble_eq_true rfl, Nat.le_of_ble_eq_true rfl⟩ (c_d _) ?_)
      rintro _ _ ⟨rfl, rfl⟩
      refine ev_ps 1 rfl (ev_call (av := [_, _, _]) rfl rfl rfl rfl ⟨Nat.le_of_ble_eq_true rfl, rfl⟩ ⟨Nat.le_of_ble_eq_true rfl, Nat.le_of_ble_eq_true rfl⟩ (c_with _ _ _) ?_)
      rintro _ _ ⟨⟨u, rfl⟩, rfl⟩
      exact ev_ret rfl rfl ⟨⟨_, rfl⟩, rfl⟩
    · refine ev_ps 7 rfl (ev_call (av := [_]) rfl rfl rfl rfl ⟨Nat.le_of_ble_eq_true rfl, rfl⟩ ⟨Nat.le_of_ble_eq_true rfl, Nat.le_of_ble_eq_true rfl⟩ (c_d _) ?_)
      rintro _ _ ⟨rfl, rfl⟩
      refine ev_ps 1 rfl (ev_call (av := [_, _, _]) rfl rfl rfl rfl ⟨Nat.le_of_ble_eq_true rfl, rfl⟩ ⟨Nat.le_of_ble_eq_true rfl, Nat.le_of_ble_eq_true rfl⟩ (c_with _ _ _) ?_)
      rintro _ _ ⟨⟨u, rfl⟩, rfl⟩
      exact ev_ret rfl rfl ⟨⟨_, rfl⟩, rfl⟩
    · refine ev_ps 7 rfl (ev_call (av := [_]) rfl rfl rfl rfl ⟨Nat.le_of_ble_eq_true rfl, rfl⟩ ⟨Nat.le_of_ble_eq_true rfl, Nat.le_of_ble_eq_true rfl⟩ (c_d _) ?_)
      rintro _ _ ⟨rfl, rfl⟩
      refine ev_ps 1 rfl (ev_call (av := [_, _, _]) rfl rfl rfl rfl ⟨Nat.le_of_ble_eq_true rfl, rfl⟩ ⟨Nat.le_of_ble_eq_true rfl, Nat.le_of_ble_eq_true rfl⟩ (c_with _ _ _) ?_)
      rintro _ _ ⟨⟨u, rfl⟩, rfl⟩
      exact ev_ret rfl rfl ⟨⟨_, rfl⟩, rfl⟩
    · refine ev_ps 7 rfl (ev_call (av := [_]) rfl rfl rfl rfl ⟨Nat.le_of_ble_eq_true rfl, rfl⟩ ⟨Nat.le_of_ble_eq_true rfl, Nat.le_of_ble_eq_true rfl⟩ (c_d _) ?_)
      rintro _ _ ⟨rfl, rfl⟩
      refine ev_ps 1 rfl (ev_call (av := [_, _, _]) rfl rfl rfl rfl ⟨Nat.le_of_ble_eq_true rfl, rfl⟩ ⟨Nat.le_of_ble_eq_true rfl, Nat.le_of_ble_eq_true rfl⟩ (c_with _ _ _) ?_)
      rintro _ _ ⟨⟨u, rfl⟩, rfl⟩
      exact ev_ret rfl rfl ⟨⟨_, rfl⟩, rfl⟩
    · refine ev_ps 2 rfl (ev_ic (cd := .ge) rfl (fun h2 => ?_) (fun h2 => ?_))
      · refine ev_ps 5 rfl (ev_call (av := [_]) rfl rfl rfl rfl ⟨Nat.le_of_ble_eq_true rfl, rfl⟩ ⟨Nat.le_of_ble_eq_true rfl, Nat.le_of_ble_eq_true rfl⟩ (c_d _) ?_)
        rintro _ _ ⟨rfl, rfl⟩
        refine ev_ps 1 rfl (ev_call (av := [_, _, _]) rfl rfl rfl rfl ⟨Nat.le_of_ble_eq_true rfl, rfl⟩ ⟨Nat.le_of_ble_eq_true rfl, Nat.le_of_ble_eq_true rfl⟩ (c_with _ _ _) ?_)
        rintro _ _ ⟨⟨u, rfl⟩, rfl⟩
        exact ev_ret rfl rfl ⟨⟨_, rfl⟩, rfl⟩
      · refine ev_ps 6 rfl (ev_call (av := [_]) rfl rfl rfl rfl ⟨Nat.le_of_ble_eq_true rfl, rfl⟩ ⟨Nat.le_of_ble_eq_true rfl, Nat.le_of_ble_eq_true rfl⟩ (c_d _) ?_)
        rintro _ _ ⟨rfl, rfl⟩
        refine ev_ps 1 rfl (ev_call (av := [_, _, _]) rfl rfl rfl rfl ⟨Nat.le_of_ble_eq_true rfl, rfl⟩ ⟨Nat.le_of_ble_eq_true rfl, Nat.le_of_ble_eq_true rfl⟩ (c_with _ _ _) ?_)
        rintro _ _ ⟨⟨u, rfl⟩, rfl⟩
        exact ev_ret rfl rfl ⟨⟨_, rfl⟩, rfl⟩
    · refine ev_ps 7 rfl (ev_call (av := [_]) rfl rfl rfl rfl ⟨Nat.le_of_ble_eq_true rfl, rfl⟩ ⟨Nat.le_of_ble_eq_true rfl, Nat.le_of_ble_eq_true rfl⟩ (c_d _) ?_)
      rintro _ _ ⟨rfl, rfl⟩
      refine ev_ps 1 rfl (ev_call (av := [_, _, _]) rfl rfl rfl rfl ⟨Nat.le_of_ble_eq_true rfl, rfl⟩ ⟨Nat.le_of_ble_eq_true rfl, Nat.le_of_ble_eq_true rfl⟩ (c_with _ _ _) ?_)
      rintro _ _ ⟨⟨u, rfl⟩, rfl⟩
      exact ev_ret rfl rfl ⟨⟨_, rfl⟩, rfl⟩
    · refine ev_ps 7 rfl (ev_call (av := [_]) rfl rfl rfl rfl ⟨Nat.le_of_ble_eq_true rfl, rfl⟩ ⟨Nat.le_of_ble_eq_true rfl, Nat.le_of_ble_eq_true rfl⟩ (c_d _) ?_)
      rintro _ _ ⟨rfl, rfl⟩
      refine ev_ps 1 rfl (ev_call (av := [_, _, _]) rfl rfl rfl rfl ⟨Nat.le_of_ble_eq_true rfl, rfl⟩ ⟨Nat.le_of_ble_eq_true rfl, Nat.le_of_ble_eq_true rfl⟩ (c_with _ _ _) ?_)
      rintro _ _ ⟨⟨u, rfl⟩, rfl⟩
      exact ev_ret rfl rfl ⟨⟨_, rfl⟩, rfl⟩
    · refine ev_ps 7 rfl (ev_call (av := [_]) rfl rfl rfl rfl ⟨Nat.le_of_ble_eq_true rfl, rfl⟩ ⟨Nat.le_of_ble_eq_true rfl, Nat.le_of_ble_eq_true rfl⟩ (c_d _) ?_)
      rintro _ _ ⟨rfl, rfl⟩
      refine ev_ps 1 rfl (ev_call (av := [_, _, _]) rfl rfl rfl rfl ⟨Nat.le_of_ble_eq_true rfl, rfl⟩ ⟨Nat.le_of_ble_eq_true rfl, Nat.le_of_ble_eq_true rfl⟩ (c_with _ _ _) ?_)
      rintro _ _ ⟨⟨u, rfl⟩, rfl⟩
      exact ev_ret rfl rfl ⟨⟨_, rfl⟩, rfl⟩
    · refine ev_ps 7 rfl (ev_call (av := [_]) rfl rfl rfl rfl ⟨Nat.le_of_ble_eq_true rfl, rfl⟩ ⟨Nat.le_of_ble_eq_true rfl, Nat.le_of_ble_eq_true rfl⟩ (c_d _) ?_)
      rintro _ _ ⟨rfl, rfl⟩
      refine ev_ps 1 rfl (ev_call (av := [_, _, _]) rfl rfl rfl rfl ⟨Nat.le_of_ble_eq_true rfl, rfl⟩ ⟨Nat.le_of_ble_eq_true rfl, Nat.le_of_ble_eq_true rfl⟩ (c_with _ _ _) ?_)
      rintro _ _ ⟨⟨u, rfl⟩, rfl⟩
      exact ev_ret rfl rfl ⟨⟨_, rfl⟩, rfl⟩
  · refine ev_ps 2 rfl (ev_call (av := [_]) rfl rfl rfl rfl ⟨Nat.le_of_ble_eq_true rfl, rfl⟩ ⟨Nat.le_of_ble_eq_true rfl, Nat.le_of_ble_eq_true rfl⟩ (c_t _) ?_)
    rintro _ _ ⟨rfl, rfl⟩
    refine ev_call (av := [_, _]) rfl rfl rfl rfl ⟨Nat.le_of_ble_eq_true rfl, rfl⟩ ⟨Nat.le_of_ble_eq_true rfl, Nat.le_of_ble_eq_true rfl⟩ (c_value _ _) ?_
    rintro _ _ ⟨rfl, rfl⟩
    refine ev_ps 3 rfl (ev_tsw rfl (fun t ht => ?_))
    rcases rz_mem11 ht with rfl | rfl | rfl | rfl | rfl | rfl | rfl | rfl | rfl | rfl | rfl
    · exact ev_ps 1 rfl (ev_ret rfl rfl ⟨⟨_, rfl⟩, rfl⟩)
    · refine ev_ps 7 rfl (ev_call (av := [_]) rfl rfl rfl rfl ⟨Nat.le_of_ble_eq_true rfl, rfl⟩ ⟨Nat.le_of_ble_eq_true rfl, Nat.le_of_ble_eq_true rfl⟩ (c_d _) ?_)
      rintro _ _ ⟨rfl, rfl⟩
      refine ev_ps 1 rfl (ev_call (av := [_, _, _]) rfl rfl rfl rfl ⟨Nat.le_of_ble_eq_true rfl, rfl⟩ ⟨Nat.le_of_ble_eq_true rfl, Nat.le_of_ble_eq_true rfl⟩ (c_with _ _ _) ?_)
      rintro _ _ ⟨⟨u, rfl⟩, rfl⟩
      exact ev_ret rfl rfl ⟨⟨_, rfl⟩, rfl⟩
    · refine ev_ps 7 rfl (ev_call (av := [_]) rfl rfl rfl rfl ⟨Nat.le_of_ble_eq_true rfl, rfl⟩ ⟨Nat.le_of_ble_eq_true rfl, Nat.le_of_ble_eq_true rfl⟩ (c_d _) ?_)
      rintro _ _ ⟨rfl, rfl⟩
      refine ev_ps 1 rfl (ev_call (av := [_, _, _]) rfl rfl rfl rfl ⟨Nat.le_of_ble_eq_true rfl, rfl⟩ ⟨Nat.le_of_ble_eq_true rfl, Nat.le_of_ble_eq_true rfl⟩ (c_with _ _ _) ?_)
      rintro _ _ ⟨⟨u, rfl⟩, rfl⟩
      exact ev_ret rfl rfl ⟨⟨_, rfl⟩, rfl⟩
    · refine ev_ps 7 rfl (ev_call (av := [_]) rfl rfl rfl rfl ⟨Nat.le_of_ble_eq_true rfl, rfl⟩ ⟨Nat.le_of_ble_eq_true rfl, Nat.le_of_ble_eq_true rfl⟩ (c_d _) ?_)
      rintro _ _ ⟨rfl, rfl⟩
      refine ev_ps 1 rfl (ev_call (av := [_, _, _]) rfl rfl rfl rfl ⟨Nat.le_of_ble_eq_true rfl, rfl⟩ ⟨Nat.le_of_ble_eq_true rfl, Nat.le_of_ble_eq_true rfl⟩ (c_with _ _ _) ?_)
      rintro _ _ ⟨⟨u, rfl⟩, rfl⟩
      exact ev_ret rfl rfl ⟨⟨_, rfl⟩, rfl⟩
    · refine ev_ps 7 rfl (ev_call (av := [_]) rfl rfl rfl rfl ⟨Nat.le_of_ble_eq_true rfl, rfl⟩ ⟨Nat.le_of_ble_eq_true rfl, Nat.le_of_ble_eq_true rfl⟩ (c_d _) ?_)
      rintro _ _ ⟨rfl, rfl⟩
      refine ev_ps 1 rfl (ev_call (av := [_, _, _]) rfl rfl rfl rfl ⟨Nat.le_of_ble_eq_true rfl, rfl⟩ ⟨Nat.le_of_ble_eq_true rfl, Nat.le_of_ble_eq_true rfl⟩ (c_with _ _ _) ?_)
      rintro _ _ ⟨⟨u, rfl⟩, rfl⟩
      exact ev_ret rfl rfl ⟨⟨_, rfl⟩, rfl⟩
    · refine ev_ps 7 rfl (ev_call (av := [_]) rfl rfl rfl rfl ⟨Nat.le_of_ble_eq_true rfl, rfl⟩ ⟨Nat.le_of_ble_eq_true rfl, Nat.le_of_ble_eq_true rfl⟩ (c_d _) ?_)
      rintro _ _ ⟨rfl, rfl⟩
      refine ev_ps 1 rfl (ev_call (av := [_, _, _]) rfl rfl rfl rfl ⟨Nat.le_of_ble_eq_true rfl, rfl⟩ ⟨Nat.le_of_ble_eq_true rfl, Nat.le_of_ble_eq_true rfl⟩ (c_with _ _ _) ?_)
      rintro _ _ ⟨⟨u, rfl⟩, rfl⟩
      exact ev_ret rfl rfl ⟨⟨_, rfl⟩, rfl⟩
    · refine ev_ps 2 rfl (ev_ic (cd := .ge) rfl (fun h3 => ?_) (fun h3 => ?_))
      · refine ev_ps 5 rfl (ev_call (av := [_]) rfl rfl rfl rfl ⟨Nat.le_of_ble_eq_true rfl, rfl⟩ ⟨Nat.le_of_ble_eq_true rfl, Nat.le_of_ble_eq_true rfl⟩ (c_d _) ?_)
        rintro _ _ ⟨rfl, rfl⟩
        refine ev_ps 1 rfl (ev_call (av := [_, _, _]) rfl rfl rfl rfl ⟨Nat.le_of_ble_eq_true rfl, rfl⟩ ⟨Nat.le_of_ble_eq_true rfl, Nat.le_of_ble_eq_true rfl⟩ (c_with _ _ _) ?_)
        rintro _ _ ⟨⟨u, rfl⟩, rfl⟩
        exact ev_ret rfl rfl ⟨⟨_, rfl⟩, rfl⟩
      · refine ev_ps 6 rfl (ev_call (av := [_]) rfl rfl rfl rfl ⟨Nat.le_of_ble_eq_true rfl, rfl⟩ ⟨Nat.le_of_ble_eq_true rfl, Nat.le_of_ble_eq_true rfl⟩ (c_d _) ?_)
        rintro _ _ ⟨rfl, rfl⟩
        refine ev_ps 1 rfl (ev_call (av := [_, _, _]) rfl rfl rfl rfl ⟨Nat.le_of_ble_eq_true rfl, rfl⟩ ⟨Nat.le_of_ble_eq_true rfl, Nat.le_of_ble_eq_true rfl⟩ (c_with _ _ _) ?_)
        rintro _ _ ⟨⟨u, rfl⟩, rfl⟩
        exact ev_ret rfl rfl ⟨⟨_, rfl⟩, rfl⟩
    · refine ev_ps 7 rfl (ev_call (av := [_]) rfl rfl rfl rfl ⟨Nat.le_of_ble_eq_true rfl, rfl⟩ ⟨Nat.le_of_ble_eq_true rfl, Nat.le_of_ble_eq_true rfl⟩ (c_d _) ?_)
      rintro _ _ ⟨rfl, rfl⟩
      refine ev_ps 1 rfl (ev_call (av := [_, _, _]) rfl rfl rfl rfl ⟨Nat.le_of_ble_eq_true rfl, rfl⟩ ⟨Nat.le_of_ble_eq_true rfl, Nat.le_of_ble_eq_true rfl⟩ (c_with _ _ _) ?_)
      rintro _ _ ⟨⟨u, rfl⟩, rfl⟩
      exact ev_ret rfl rfl ⟨⟨_, rfl⟩, rfl⟩
    · refine ev_ps 7 rfl (ev_call (av := [_]) rfl rfl rfl rfl ⟨Nat.le_of_ble_eq_true rfl, rfl⟩ ⟨Nat.le_of_ble_eq_true rfl, Nat.le_of_ble_eq_true rfl⟩ (c_d _) ?_)
      rintro _ _ ⟨rfl, rfl⟩
      refine ev_ps 1 rfl (ev_call (av := [_, _, _]) rfl rfl rfl rfl ⟨Nat.le_of_ble_eq_true rfl, rfl⟩ ⟨Nat.le_of_ble_eq_true rfl, Nat.le_of_ble_eq_true rfl⟩ (c_with _ _ _) ?_)
      rintro _ _ ⟨⟨u, rfl⟩, rfl⟩
      exact ev_ret rfl rfl ⟨⟨_, rfl⟩, rfl⟩
    · refine ev_ps 7 rfl (ev_call (av := [_]) rfl rfl rfl rfl ⟨Nat.le_of_ble_eq_true rfl, rfl⟩ ⟨Nat.le_of_ble_eq_true rfl, Nat.le_of_ble_eq_true rfl⟩ (c_d _) ?_)
      rintro _ _ ⟨rfl, rfl⟩
      refine ev_ps 1 rfl (ev_call (av := [_, _, _]) rfl rfl rfl rfl ⟨Nat.le_of_ble_eq_true rfl, rfl⟩ ⟨Nat.le_of_ble_eq_true rfl, Nat.le_of_ble_eq_true rfl⟩ (c_with _ _ _) ?_)
      rintro _ _ ⟨⟨u, rfl⟩, rfl⟩
      exact ev_ret rfl rfl ⟨⟨_, rfl⟩, rfl⟩
    · refine ev_ps 7 rfl (ev_call (av := [_]) rfl rfl rfl rfl ⟨Nat.le_of_ble_eq_true rfl, rfl⟩ ⟨Nat.le_of_ble_eq_true rfl, Nat.le_of_ble_eq_true rfl⟩ (c_d _) ?_)
      rintro _ _ ⟨rfl, rfl⟩
      refine ev_ps 1 rfl (ev_call (av := [_, _, _]) rfl rfl rfl rfl ⟨Nat.le_of_ble_eq_true rfl, rfl⟩ ⟨Nat.le_of_ble_eq_true rfl, Nat.le_of_ble_eq_true rfl⟩ (c_with _ _ _) ?_)
      rintro _ _ ⟨⟨u, rfl⟩, rfl⟩
      exact ev_ret rfl rfl ⟨⟨_, rfl⟩, rfl⟩
end RZL
end
section
/-! the class's Program (place 1; its array at 2): v 0 is its length -/
section RZP1
variable {xs : Nat → Int32} {xl : Nat} {v : Nat → Int32} {a : Nat → Nat → Int32} {g : Nat → Int64}
def rz_bo (w : rz_W) (P : Prop) : rz_R → rz_W → Prop := fun q w' => (∃ u : Int32, (u = 0 ∨ u = 1) ∧ (u = 1 → P) ∧ q = .inl (some (.int u))) ∧ w' = w
theorem rz_bo0 {w : rz_W} {P : Prop} : rz_bo w P (.inl (some (.int 0))) w := ⟨⟨0, Or.inl rfl, fun h => absurd h (by decide), rfl⟩, rfl⟩
theorem rz_bo1 {w : rz_W} {P : Prop} (h : P) : rz_bo w P (.inl (some (.int 1))) w := ⟨⟨1, Or.inr rfl, fun _ => h, rfl⟩, rfl⟩
theorem c_length : rz_C xs xl 4 [.ref 1] (rz_w v a g) (fun r w' => r = .inl (some (.int (v 0))) ∧ w' = rz_w v a g) :=
  ev_ps 2 rfl (ev_ret rfl rfl ⟨rfl, rfl⟩)
theorem c_empty : rz_C xs xl 2 [.ref 1] (rz_w v a g) (fun r w' => r = .inl (some (.int (v 0))) ∧ w' = rz_w (rz_up v 0 0) a g) := by
  refine ev_ps 6 rfl ?_
  exact ev_ps 1 rfl (ev_ret rfl rfl ⟨rfl, rfl⟩)
theorem c_has (x : Int32) : rz_C xs xl 21 [.ref 1, .int x] (rz_w v a g) (rz_bo (rz_w v a g) (¬ x < 0 ∧ x < v 0)) := by
  refine ev_ps 1 rfl (ev_if (cd := .lt) rfl (fun h1 => ?_) (fun h1 => ?_))
  · exact ev_ps 1 rfl (ev_ret rfl rfl rz_bo0)
  · refine ev_ps 3 rfl (ev_ic (cd := .ge) rfl (fun h2 => ?_) (fun h2 => ?_))
    · exact ev_ps 1 rfl (ev_ret rfl rfl rz_bo0)
    · exact ev_ps 2 rfl (ev_ret rfl rfl (rz_bo1 ⟨rc_lt_f h1, Int32.not_le.mp (rc_ge_f h2)⟩))
theorem c_hasAll (x n : Int32) : rz_C xs xl 24 [.ref 1, .int x, .int n] (rz_w v a g) (rz_bo (rz_w v a g) (n = 0 ∨ (¬ x < 0 ∧ ¬ v 0 - n < x))) := by
  refine ev_ps 1 rfl (ev_if (cd := .eq) rfl (fun h1 => ?_) (fun h1 => ?_))
  · exact ev_ps 2 rfl (ev_ret rfl rfl (rz_bo1 (Or.inl (rc_eq_t h1))))
  · refine ev_ps 1 rfl (ev_if (cd := .lt) rfl (fun h2 => ?_) (fun h2 => ?_))
    · exact ev_ps 1 rfl (ev_ret rfl rfl rz_bo0)
    · refine ev_ps 5 rfl (ev_ic (cd := .gt) rfl (fun h3 => ?_) (fun h3 => ?_))
      · exact ev_ps 1 rfl (ev_ret rfl rfl rz_bo0)
      · exact ev_ps 2 rfl (ev_ret rfl rfl (rz_bo1 (Or.inr ⟨rc_lt_f h2, rc_gt_f h3⟩)))
theorem c_isFull : rz_C xs xl 53 [.ref 1] (rz_w v a g) (fun q w' => (∃ u : Int32, (u = 0 ∨ u = 1) ∧ (u = 0 → v 0 < 24) ∧ q = .inl (some (.int u))) ∧ w' = rz_w v a g) := by
  refine ev_ps 3 rfl (ev_ic (cd := .lt) rfl (fun h1 => ?_) (fun h1 => ?_))
  · exact ev_ps 1 rfl (ev_ret rfl rfl ⟨⟨0, Or.inl rfl, fun _ => rc_lt_t h1, rfl⟩, rfl⟩)
  · exact ev_ps 2 rfl (ev_ret rfl rfl ⟨⟨1, Or.inr rfl, fun h => absurd h (by decide), rfl⟩, rfl⟩)
theorem c_codeAt {k : Nat} (hk : k < 24) : rz_C xs xl 13 [.ref 1, .int (Int32.ofNat k)] (rz_w v a g) (fun r w' => (∃ u, r = .inl (some (.int u))) ∧ w' = rz_w v a g) := by
  refine ev_ps 3 rfl (ev_ald rfl rfl (rz_in hk (by decide)) ?_)
  exact ev_ret rfl rfl ⟨⟨_, rfl⟩, rfl⟩
theorem c_append {n : Nat} (x : Int32) (hv : v 0 = Int32.ofNat n) (hn : n < 24) : rz_C xs xl 54 [.ref 1, .int x] (rz_w v a g) (fun r w' => (∃ u, r = .inl (some (.int u))) ∧ ∃ f, w' = rz_w (rz_up v 0 (v 0 + 1)) (rz_ua a 0 f) g) := by
  refine ev_ps 5 rfl (ev_ast rfl rfl (by rw [hv]; exact rz_in hn (by decide)) ?_)
  refine ev_w (w2 := rz_w v (rz_ua a 0 (upd (a 0) (v 0).toNatClampNeg x)) g) rfl ?_
  refine ev_ps 6 rfl ?_
  exact ev_ps 4 rfl (ev_ret rfl rfl ⟨⟨_, rfl⟩, _, rfl⟩)
theorem c_put {k : Nat} (x : Int32) (hk : k < 24) : rz_C xs xl 56 [.ref 1, .int (Int32.ofNat k), .int x] (rz_w v a g) (fun r w' => r = .inl none ∧ ∃ f, w' = rz_w v (rz_ua a 0 f) g) := by
  refine ev_ps 4 rfl (ev_ast rfl rfl (rz_in hk (by decide)) ?_)
  exact ev_ret rfl rfl ⟨rfl, _, rfl⟩
theorem c_allPlain {p n : Nat} (hpn : p + n ≤ 24) : rz_C xs xl 25 [.ref 1, .int (Int32.ofNat p), .int (Int32.ofNat n)] (rz_w v a g) (rz_bo (rz_w v a g) True) := by
  refine ev_ps 2 rfl ?_
  refine ev_loop (α := Nat) (fun k => n - k) (fun k => k ≤ n) (fun k => [some (.ref 1), some (.int (Int32.ofNat p)), some (.int (Int32.ofNat n)), some (.int (Int32.ofNat k))]) (fun _ => []) (fun _ => rz_w v a g) ?_ 0 (Nat.zero_le _)
  intro k hk ih
  refine ev_ps 2 rfl (ev_ic (cd := .ge) rfl (fun h => ?_) (fun h => ?_))
  · exact ev_ps 1 rfl (ev_ret rfl rfl (rz_bo1 trivial))
  · have hk' : k < n := rn_ge_f (by omega) (by omega) h
    refine ev_ps 5 rfl (ev_ald rfl rfl (by rw [rz_add]; exact rz_in (by omega) (by decide)) ?_)
    refine ev_call (av := [_]) rfl rfl rfl rfl ⟨Nat.le_of_ble_eq_true rfl, rfl⟩ ⟨Nat.le_of_ble_eq_true rfl, Nat.le_of_ble_eq_true rfl⟩ (c_isPlain _) ?_
    rintro _ _ ⟨⟨u, hu, rfl⟩, rfl⟩
    refine ev_if (cd := .ne) rfl (fun h2 => ?_) (fun h2 => ?_)
    · have h9 := ih (k + 1) (by omega) (by omega)
      rw [← rz_succ k] at h9
      exact ev_ps 2 rfl h9
    · exact ev_ps 1 rfl (ev_ret rfl rfl rz_bo0)
/-- a row of none, wherever -/
theorem c_allPlain0 (x : Int32) : rz_C xs xl 25 [.ref 1, .int x, .int 0] (rz_w v a g) (rz_bo (rz_w v a g) True) := by
  refine ev_ps 4 rfl (ev_ic (cd := .ge) rfl (fun h => ?_) (fun h => ?_))
  · exact ev_ps 1 rfl (ev_ret rfl rfl (rz_bo1 trivial))
  · exact absurd (by decide : (0 : Int32) ≤ 0) (rc_ge_f h)
theorem c_beginsBlock {p n : Nat} (hv : v 0 = Int32.ofNat n) (hn : n ≤ 24) (hp : p ≤ 24) : rz_C xs xl 27 [.ref 1, .int (Int32.ofNat p)] (rz_w v a g) (rz_bo (rz_w v a g) True) := by
  have loop : rz_E xs xl 27 22 [some (.ref 1), some (.int (Int32.ofNat p)), some (.int (Int32.ofNat 0))] [] (rz_w v a g) 0 0 (rz_bo (rz_w v a g) True) := by
    refine ev_loop (α := Nat) (fun k => n - k) (fun k => k ≤ n) (fun k => [some (.ref 1), some (.int (Int32.ofNat p)), some (.int (Int32.ofNat k))]) (fun _ => []) (fun _ => rz_w v a g) ?_ 0 (Nat.zero_le _)
    intro k hk ih
    have next : rz_E xs xl 27 57 [some (.ref 1), some (.int (Int32.ofNat p)), some (.int (Int32.ofNat k))] [] (rz_w v a g) 0 0 (rz_bo (rz_w v a g) True) ∨ n ≤ k := by
      by_cases hkn : k < n
      · have h9 := ih (k + 1) (by omega) (by omega)
        rw [← rz_succ k] at h9
        exact Or.inl (ev_ps 2 rfl h9)
      · exact Or.inr (by omega)
    refine ev_ps 3 rfl (ev_ic (cd := .ge) rfl (fun h => ?_) (fun h => ?_))
    · exact ev_ps 1 rfl (ev_ret rfl rfl rz_bo0)
    · rw [hv] at h
      have hk' : k < n := rn_ge_f (by omega) (by omega) h
      have next := next.resolve_right (by omega)
      refine ev_ps 3 rfl (ev_ald rfl rfl (rz_in (by omega) (by decide)) ?_)
      refine ev_call (av := [_]) rfl rfl rfl rfl ⟨Nat.le_of_ble_eq_true rfl, rfl⟩ ⟨Nat.le_of_ble_eq_true rfl, Nat.le_of_ble_eq_true rfl⟩ (c_hasTarget _) ?_
      rintro _ _ ⟨⟨u, hu, rfl⟩, rfl⟩
      refine ev_if (cd := .eq) rfl (fun h2 => next) (fun h2 => ?_)
      refine ev_ps 3 rfl (ev_ald rfl rfl (rz_in (by omega) (by decide)) ?_)
      refine ev_call (av := [_]) rfl rfl rfl rfl ⟨Nat.le_of_ble_eq_true rfl, rfl⟩ ⟨Nat.le_of_ble_eq_true rfl, Nat.le_of_ble_eq_true rfl⟩ (c_t _) ?_
      rintro _ _ ⟨rfl, rfl⟩
      refine ev_ps 1 rfl (ev_ic (cd := .ne) rfl (fun h2 => next) (fun h2 => ?_))
      exact ev_ps 1 rfl (ev_ret rfl rfl (rz_bo1 trivial))
  refine ev_ps 1 rfl (ev_if (cd := .eq) rfl (fun h1 => ?_) (fun h1 => ?_))
  · exact ev_ps 1 rfl (ev_ret rfl rfl (rz_bo1 trivial))
  · have hp0 : 0 < p := by
      rcases Nat.eq_zero_or_pos p with rfl | h
      · exact absurd rfl (rc_eq_f h1)
      · exact h
    have e : Int32.ofNat p - 1 = Int32.ofNat (p - 1) := rz_sub (n := 1) hp0
    refine ev_ps 5 rfl (ev_ald rfl rfl (by rw [show Int32.ofNat p - Int32.ofInt 1 = Int32.ofNat (p - 1) from e]; exact rz_in (by omega) (by decide)) ?_)
    refine ev_call (av := [_]) rfl rfl rfl rfl ⟨Nat.le_of_ble_eq_true rfl, rfl⟩ ⟨Nat.le_of_ble_eq_true rfl, Nat.le_of_ble_eq_true rfl⟩ (c_endsBlock _) ?_
    rintro _ _ ⟨⟨u, hu, rfl⟩, rfl⟩
    refine ev_if (cd := .eq) rfl (fun h2 => ?_) (fun h2 => ?_)
    · exact ev_ps 2 rfl loop
    · exact ev_ps 1 rfl (ev_ret rfl rfl (rz_bo1 trivial))
end RZP1
end
section
/-! Program's writers, and rows, liveness, provers at each of their places -/
section RZP2
variable {xs : Nat → Int32} {xl : Nat} {v : Nat → Int32} {a : Nat → Nat → Int32} {g : Nat → Int64}
theorem c_hasRow {p n m : Nat} (hv : v 0 = Int32.ofNat m) (hm : m ≤ 24) (hp : p ≤ 24) (hn : n ≤ 3) (hn1 : 1 ≤ n) : rz_C xs xl 23 [.ref 1, .int (Int32.ofNat p), .int (Int32.ofNat n)] (rz_w v a g) (rz_bo (rz_w v a g) (p + n ≤ m)) := by
  refine ev_ps 3 rfl (ev_call (av := [_, _, _]) rfl rfl rfl rfl ⟨Nat.le_of_ble_eq_true rfl, rfl⟩ ⟨Nat.le_of_ble_eq_true rfl, Nat.le_of_ble_eq_true rfl⟩ (c_hasAll _ _) ?_)
  rintro _ _ ⟨⟨u, hu, hP, rfl⟩, rfl⟩
  refine ev_if (cd := .eq) rfl (fun h1 => ?_) (fun h1 => ?_)
  · exact ev_ps 1 rfl (ev_ret rfl rfl rz_bo0)
  · have hle : p + n ≤ m := by
      rcases hP (hu.resolve_left (rc_eq_f h1)) with h | ⟨-, h⟩
      · have : n = 0 := (rz_eq_iff (k := 0) (by omega) (by omega)).mp h
        omega
      · rw [hv] at h
        by_cases hmn : n ≤ m
        · rw [rz_sub hmn, rz_lt_iff (by omega) (by omega)] at h
          omega
        · exfalso
          apply h
          have e : Int32.ofNat m - Int32.ofNat n < 0 := by
            have : ∀ m' < 25, ∀ n' < 4, m' < n' → Int32.ofNat m' - Int32.ofNat n' < 0 := by decide +kernel
            exact this m (by omega) n (by omega) (by omega)
          have e2 : ¬ Int32.ofNat p < Int32.ofNat 0 := by rw [rz_lt_iff (by omega) (by omega)]; omega
          exact Int32.lt_of_lt_of_le e (Int32.not_lt.mp e2)
    refine ev_ps 3 rfl (ev_call (av := [_, _, _]) rfl rfl rfl rfl ⟨Nat.le_of_ble_eq_true rfl, rfl⟩ ⟨Nat.le_of_ble_eq_true rfl, Nat.le_of_ble_eq_true rfl⟩ (c_allPlain (by omega)) ?_)
    rintro _ _ ⟨⟨u, hu, hP, rfl⟩, rfl⟩
    refine ev_if (cd := .ne) rfl (fun h2 => ?_) (fun h2 => ?_)
    · refine ev_ps 2 rfl ?_
      refine ev_loop (α := Nat) (fun k => n - k) (fun k => 1 ≤ k ∧ k ≤ n) (fun k => [some (.ref 1), some (.int (Int32.ofNat p)), some (.int (Int32.ofNat n)), some (.int (Int32.ofNat k))]) (fun _ => []) (fun _ => rz_w v a g) ?_ 1 ⟨Nat.le_refl _, hn1⟩
      intro k hk ih
      refine ev_ps 2 rfl (ev_ic (cd := .ge) rfl (fun h => ?_) (fun h => ?_))
      · exact ev_ps 1 rfl (ev_ret rfl rfl (rz_bo1 hle))
      · have hk' : k < n := rn_ge_f (by omega) (by omega) h
        refine ev_ps 4 rfl ?_
        refine ev_call (av := [.ref 1, .int (Int32.ofNat (p + k))]) rfl (by rw [← rz_add]; rfl) rfl rfl ⟨Nat.le_of_ble_eq_true rfl, rfl⟩ ⟨Nat.le_of_ble_eq_true rfl, Nat.le_of_ble_eq_true rfl⟩ (c_beginsBlock hv hm (by omega)) ?_
        rintro _ _ ⟨⟨u, hu, -, rfl⟩, rfl⟩
        refine ev_if (cd := .eq) rfl (fun h2 => ?_) (fun h2 => ?_)
        · have h9 := ih (k + 1) ⟨by omega, by omega⟩ (by omega)
          rw [← rz_succ k] at h9
          exact ev_ps 2 rfl h9
        · exact ev_ps 1 rfl (ev_ret rfl rfl rz_bo0)
    · exact ev_ps 1 rfl (ev_ret rfl rfl rz_bo0)
theorem c_beginOfBlock {p n : Nat} (hv : v 0 = Int32.ofNat n) (hn : n ≤ 24) (hp : p ≤ 24) : rz_C xs xl 67 [.ref 1, .int (Int32.ofNat p)] (rz_w v a g) (fun q w' => (∃ u, q = .inl (some (.int u))) ∧ w' = rz_w v a g) := by
  refine ev_ps 2 rfl ?_
  refine ev_loop (α := Nat) (fun k => k) (fun k => k ≤ 24) (fun k => [some (.ref 1), some (.int (Int32.ofNat p)), some (.int (Int32.ofNat k))]) (fun _ => []) (fun _ => rz_w v a g) ?_ p hp
  intro k hk ih
  refine ev_ps 1 rfl (ev_if (cd := .le) rfl (fun h => ?_) (fun h => ?_))
  · exact ev_ps 1 rfl (ev_ret rfl rfl ⟨⟨_, rfl⟩, rfl⟩)
  · have hk0 : 0 < k := rn_le_f (k := 0) (by omega) (by omega) h
    refine ev_ps 2 rfl (ev_call (av := [_, _]) rfl rfl rfl rfl ⟨Nat.le_of_ble_eq_true rfl, rfl⟩ ⟨Nat.le_of_ble_eq_true rfl, Nat.le_of_ble_eq_true rfl⟩ (c_beginsBlock hv hn hk) ?_)
    rintro _ _ ⟨⟨u, hu, -, rfl⟩, rfl⟩
    refine ev_if (cd := .ne) rfl (fun h2 => ?_) (fun h2 => ?_)
    · exact ev_ps 1 rfl (ev_ret rfl rfl ⟨⟨_, rfl⟩, rfl⟩)
    · have h9 := ih (k - 1) (by omega) (by omega)
      rw [← rz_sub (k := k) (n := 1) hk0, show Int32.ofNat k - Int32.ofNat 1 = Int32.ofNat k + Int32.ofInt (-1) from Int32.sub_eq_add_neg _ _] at h9
      exact ev_ps 2 rfl h9
theorem c_moveTargets {n : Nat} (x y : Int32) (hv : v 0 = Int32.ofNat n) (hn : n ≤ 24) : rz_C xs xl 46 [.ref 1, .int x, .int y] (rz_w v a g) (fun q w' => q = .inl none ∧ ∃ f, w' = rz_w v (rz_ua a 0 f) g) := by
  refine ev_ps 2 rfl ?_
  suffices H : ∀ (t : Option Value), rz_E xs xl 46 2 [some (.ref 1), some (.int x), some (.int y), some (.int (Int32.ofNat 0)), t] [] (rz_w v (rz_ua a 0 (a 0)) g) 0 0 (fun q w' => q = .inl none ∧ ∃ f, w' = rz_w v (rz_ua a 0 f) g) from H none
  intro t
  refine ev_loop (α := Nat × Option Value × (Nat → Int32)) (fun q => n - q.1) (fun q => q.1 ≤ n) (fun q => [some (.ref 1), some (.int x), some (.int y), some (.int (Int32.ofNat q.1)), q.2.1]) (fun _ => []) (fun q => rz_w v (rz_ua a 0 q.2.2) g) ?_ (0, t, a 0) (Nat.zero_le _)
  rintro ⟨k, t, f⟩ hk ih
  dsimp only at hk ih ⊢
  have next : k < n → ∀ (t : Int32) (f : Nat → Int32), rz_E xs xl 46 58 [some (.ref 1), some (.int x), some (.int y), some (.int (Int32.ofNat k)), some (.int t)] [] (rz_w v (rz_ua a 0 f) g) 0 0 (fun q w' => q = .inl none ∧ ∃ f, w' = rz_w v (rz_ua a 0 f) g) := by
    intro hkn t f
    have h9 := ih (k + 1, some (.int t), f) (by show k + 1 ≤ n; omega) (by show n - (k + 1) < n - k; omega)
    dsimp only at h9
    rw [← rz_succ k] at h9
    exact ev_ps 2 rfl h9
  refine ev_ps 3 rfl (ev_ic (cd := .ge) rfl (fun h => ?_) (fun h => ?_))
  · exact ev_ret rfl rfl ⟨rfl, _, rfl⟩
  · rw [show (rz_w v (rz_ua a 0 f) g) = (rz_w v (rz_ua a 0 f) g) from rfl] at *
    have h' : rz_cmp .ge (Int32.ofNat k) (v 0) = false := h
    rw [hv] at h'
    have hk' : k < n := rn_ge_f (by omega) (by omega) h'
    refine ev_ps 3 rfl (ev_ald rfl rfl (rz_in (by omega) (by decide)) ?_)
    refine ev_call (av := [_]) rfl rfl rfl rfl ⟨Nat.le_of_ble_eq_true rfl, rfl⟩ ⟨Nat.le_of_ble_eq_true rfl, Nat.le_of_ble_eq_true rfl⟩ (c_t _) ?_
    rintro _ _ ⟨rfl, rfl⟩
    refine ev_ps 4 rfl (ev_ald rfl rfl (rz_in (by omega) (by decide)) ?_)
    refine ev_call (av := [_]) rfl rfl rfl rfl ⟨Nat.le_of_ble_eq_true rfl, rfl⟩ ⟨Nat.le_of_ble_eq_true rfl, Nat.le_of_ble_eq_true rfl⟩ (c_hasTarget _) ?_
    rintro _ _ ⟨⟨u, hu, rfl⟩, rfl⟩
    refine ev_if (cd := .eq) rfl (fun h2 => next hk' _ _) (fun h2 => ?_)
    refine ev_ps 2 rfl (ev_ic (cd := .le) rfl (fun h2 => next hk' _ _) (fun h2 => ?_))
    refine ev_ps 6 rfl (ev_ald rfl rfl (rz_in (by omega) (by decide)) ?_)
    refine ev_ps 3 rfl (ev_call (av := [_, _]) rfl rfl rfl rfl ⟨Nat.le_of_ble_eq_true rfl, rfl⟩ ⟨Nat.le_of_ble_eq_true rfl, Nat.le_of_ble_eq_true rfl⟩ (c_withTarget _ _) ?_)
    rintro _ _ ⟨rfl, rfl⟩
    refine ev_ast rfl rfl (rz_in (by omega) (by decide)) ?_
    exact ev_w (w2 := rz_w v (rz_ua a 0 (upd f (Int32.ofNat k).toNatClampNeg _)) g) rfl (next hk' _ _)
theorem c_progPutForRow {p n m : Nat} (x : Int32) (hv : v 0 = Int32.ofNat m) (hm : m ≤ 24) (hn1 : 1 ≤ n) (hpn : p + n ≤ m) : rz_C xs xl 45 [.ref 1, .int (Int32.ofNat p), .int (Int32.ofNat n), .int x] (rz_w v a g)
    (fun q w' => ∃ (c : Nat) (f : Nat → Int32), c ≤ 1 ∧ q = .inl (some (.int (Int32.ofNat c))) ∧ w' = rz_w (rz_up v 0 (Int32.ofNat (m - (n - c)))) (rz_ua a 0 f) g) := by
  have main : ∀ (c : Nat) (f : Nat → Int32), c ≤ 1 → rz_E xs xl 45 18 [some (.ref 1), some (.int (Int32.ofNat p)), some (.int (Int32.ofNat n)), some (.int x), some (.int (Int32.ofNat c)), none, none] [] (rz_w v (rz_ua a 0 f) g) 0 0 (fun q w' => ∃ (c : Nat) (f : Nat → Int32), c ≤ 1 ∧ q = .inl (some (.int (Int32.ofNat c))) ∧ w' = rz_w (rz_up v 0 (Int32.ofNat (m - (n - c)))) (rz_ua a 0 f) g) := by
    intro c f hc
    refine ev_ps 8 rfl ?_
    refine ev_l (L2 := [some (.ref 1), some (.int (Int32.ofNat p)), some (.int (Int32.ofNat n)), some (.int x), some (.int (Int32.ofNat c)), some (.int (Int32.ofNat (n - c))), some (.int (Int32.ofNat (p + c)))]) (by rw [← rz_sub (show c ≤ n by omega), ← rz_add]; rfl) ?_
    refine ev_loop (α := Nat × (Nat → Int32)) (fun q => m - q.1) (fun q => q.1 + (n - c) ≤ m) (fun q => [some (.ref 1), some (.int (Int32.ofNat p)), some (.int (Int32.ofNat n)), some (.int x), some (.int (Int32.ofNat c)), some (.int (Int32.ofNat (n - c))), some (.int (Int32.ofNat q.1))]) (fun _ => []) (fun q => rz_w v (rz_ua a 0 q.2) g) ?_ (p + c, f) (by show p + c + (n - c) ≤ m; omega)
    rintro ⟨k, f⟩ hk ih
    dsimp only at hk ih ⊢
    refine ev_ps 5 rfl (ev_ic (cd := .ge) rfl (fun h => ?_) (fun h => ?_))
    · refine ev_ps 6 rfl ?_
      refine ev_w (w2 := rz_w (rz_up v 0 (Int32.ofNat (m - (n - c)))) (rz_ua a 0 f) g) ?_ ?_
      · rw [← rz_sub (show n - c ≤ m by omega), ← hv]; rfl
      · refine ev_ps 3 rfl (ev_call (av := [_, _, _]) rfl rfl rfl rfl ⟨Nat.le_of_ble_eq_true rfl, rfl⟩ ⟨Nat.le_of_ble_eq_true rfl, Nat.le_of_ble_eq_true rfl⟩ (c_moveTargets (n := m - (n - c)) _ _ rfl (by omega)) ?_)
        rintro _ _ ⟨rfl, f2, rfl⟩
        exact ev_ps 1 rfl (ev_ret rfl rfl ⟨c, f2, hc, rfl, rfl⟩)
    · have h' : rz_cmp .ge (Int32.ofNat k) (v 0 - Int32.ofNat (n - c)) = false := h
      rw [hv, rz_sub (by omega)] at h'
      have hk' : k < m - (n - c) := rn_ge_f (by omega) (by omega) h'
      refine ev_ps 8 rfl (ev_ald rfl rfl (by rw [rz_add]; exact rz_in (by omega) (by decide)) ?_)
      refine ev_ast rfl rfl (rz_in (by omega) (by decide)) ?_
      have h9 := fun f2 => ih (k + 1, f2) (by show k + 1 + (n - c) ≤ m; omega) (by show m - (k + 1) < m - k; omega)
      dsimp only at h9
      rw [← rz_succ k] at h9
      exact ev_w (w2 := rz_w v (rz_ua a 0 (upd f (Int32.ofNat k).toNatClampNeg _)) g) rfl (ev_ps 2 rfl (h9 _))
  refine ev_ps 4 rfl (ev_ic (cd := .eq) rfl (fun h => ?_) (fun h => ?_))
  · exact ev_w (w2 := rz_w v (rz_ua a 0 (a 0)) g) rfl (main 0 (a 0) (by omega))
  · refine ev_ps 4 rfl (ev_ast rfl rfl (rz_in (by omega) (by decide)) ?_)
    refine ev_w (w2 := rz_w v (rz_ua a 0 (upd (a 0) (Int32.ofNat p).toNatClampNeg x)) g) rfl ?_
    exact ev_ps 2 rfl (main 1 _ (by omega))
theorem c_takeNothing_9 : rz_C xs xl 34 [.ref 9] (rz_w v a g) (fun q w' => q = .inl none ∧ w' = rz_w (rz_up v 6 0) a g) :=
  ev_ps 3 rfl (ev_ret rfl rfl ⟨rfl, rfl⟩)
theorem c_takeOne_9 (x : Int32) : rz_C xs xl 43 [.ref 9, .int x] (rz_w v a g) (fun q w' => q = .inl none ∧ ∃ f, w' = rz_w (rz_up v 6 1) (rz_ua a 4 f) g) := by
  refine ev_ps 4 rfl (ev_ast rfl rfl (by decide) ?_)
  refine ev_w (w2 := rz_w v (rz_ua a 4 (upd (a 4) (0 : Int32).toNatClampNeg x)) g) rfl ?_
  exact ev_ps 3 rfl (ev_ret rfl rfl ⟨rfl, _, rfl⟩)
theorem c_takeFrom_9 {p n : Nat} (hn : n ≤ 3) (hpn : p + n ≤ 24) : rz_C xs xl 30 [.ref 9, .ref 1, .int (Int32.ofNat p), .int (Int32.ofNat n)] (rz_w v a g) (fun q w' => q = .inl none ∧ ∃ f, w' = rz_w (rz_up v 6 (Int32.ofNat n)) (rz_ua a 4 f) g) := by
  refine ev_ps 2 rfl (ev_w (w2 := rz_w v (rz_ua a 4 (a 4)) g) rfl ?_)
  refine ev_loop (α := Nat × (Nat → Int32)) (fun q => n - q.1) (fun q => q.1 ≤ n) (fun q => [some (.ref 9), some (.ref 1), some (.int (Int32.ofNat p)), some (.int (Int32.ofNat n)), some (.int (Int32.ofNat q.1))]) (fun _ => []) (fun q => rz_w v (rz_ua a 4 q.2) g) ?_ (0, a 4) (Nat.zero_le _)
  rintro ⟨k, f⟩ hk ih
  dsimp only at hk ih ⊢
  refine ev_ps 2 rfl (ev_ic (cd := .ge) rfl (fun h => ?_) (fun h => ?_))
  · exact ev_ps 3 rfl (ev_ret rfl rfl ⟨rfl, f, rfl⟩)
  · have hk' : k < n := rn_ge_f (by omega) (by omega) h
    refine ev_ps 7 rfl ?_
    refine ev_call (av := [.ref 1, .int (Int32.ofNat (p + k))]) rfl (by rw [← rz_add]; rfl) rfl rfl ⟨Nat.le_of_ble_eq_true rfl, rfl⟩ ⟨Nat.le_of_ble_eq_true rfl, Nat.le_of_ble_eq_true rfl⟩ (c_codeAt (by omega)) ?_
    rintro _ _ ⟨⟨u, rfl⟩, rfl⟩
    refine ev_ast rfl rfl (rz_in (by omega) (by decide)) ?_
    have h9 := fun f2 => ih (k + 1, f2) (by show k + 1 ≤ n; omega) (by show n - (k + 1) < n - k; omega)
    dsimp only at h9
    rw [← rz_succ k] at h9
    exact ev_w (w2 := rz_w v (rz_ua a 4 (upd f (Int32.ofNat k).toNatClampNeg _)) g) rfl (ev_ps 2 rfl (h9 _))
theorem c_takeFrom0_9 (x : Int32) : rz_C xs xl 30 [.ref 9, .ref 1, .int x, .int 0] (rz_w v a g) (fun q w' => q = .inl none ∧ ∃ f, w' = rz_w (rz_up v 6 (Int32.ofNat 0)) (rz_ua a 4 f) g) := by
  refine ev_ps 4 rfl (ev_ic (cd := .ge) rfl (fun h => ?_) (fun h => ?_))
  · exact ev_ps 3 rfl (ev_ret rfl rfl ⟨rfl, a 4, rfl⟩)
  · exact absurd (by decide : (0 : Int32) ≤ 0) (rc_ge_f h)
theorem c_rowRegs_9 {n : Nat} (x : Int32) (hv : v 6 = Int32.ofNat n) (hn : n ≤ 3) : rz_C xs xl 36 [.ref 9, .int x] (rz_w v a g) (fun q w' => (∃ u, q = .inl (some (.int u))) ∧ w' = rz_w v a g) := by
  refine ev_ps 4 rfl ?_
  refine ev_loop (α := Nat × Int32) (fun q => n - q.1) (fun q => q.1 ≤ n) (fun q => [some (.ref 9), some (.int x), some (.int q.2), some (.int (Int32.ofNat q.1))]) (fun _ => []) (fun _ => rz_w v a g) ?_ (0, x) (Nat.zero_le _)
  rintro ⟨k, y⟩ hk ih
  dsimp only at hk ih ⊢
  refine ev_ps 3 rfl (ev_ic (cd := .ge) rfl (fun h => ?_) (fun h => ?_))
  · exact ev_ps 1 rfl (ev_ret rfl rfl ⟨⟨_, rfl⟩, rfl⟩)
  · rw [hv] at h
    have hk' : k < n := rn_ge_f (by omega) (by omega) h
    refine ev_ps 3 rfl (ev_ald rfl rfl (rz_in (by omega) (by decide)) ?_)
    refine ev_ps 1 rfl (ev_call (av := [_, _]) rfl rfl rfl rfl ⟨Nat.le_of_ble_eq_true rfl, rfl⟩ ⟨Nat.le_of_ble_eq_true rfl, Nat.le_of_ble_eq_true rfl⟩ (c_regsAfter _ _) ?_)
    rintro _ _ ⟨⟨u, rfl⟩, rfl⟩
    have h9 := ih (k + 1, u) (by show k + 1 ≤ n; omega) (by show n - (k + 1) < n - k; omega)
    dsimp only at h9
    rw [← rz_succ k] at h9
    exact ev_ps 3 rfl h9
theorem c_takeNothing_11 : rz_C xs xl 34 [.ref 11] (rz_w v a g) (fun q w' => q = .inl none ∧ w' = rz_w (rz_up v 7 0) a g) :=
  ev_ps 3 rfl (ev_ret rfl rfl ⟨rfl, rfl⟩)
theorem c_takeOne_11 (x : Int32) : rz_C xs xl 43 [.ref 11, .int x] (rz_w v a g) (fun q w' => q = .inl none ∧ ∃ f, w' = rz_w (rz_up v 7 1) (rz_ua a 5 f) g) := by
  refine ev_ps 4 rfl (ev_ast rfl rfl (by decide) ?_)
  refine ev_w (w2 := rz_w v (rz_ua a 5 (upd (a 5) (0 : Int32).toNatClampNeg x)) g) rfl ?_
  exact ev_ps 3 rfl (ev_ret rfl rfl ⟨rfl, _, rfl⟩)
theorem c_takeFrom_11 {p n : Nat} (hn : n ≤ 3) (hpn : p + n ≤ 24) : rz_C xs xl 30 [.ref 11, .ref 1, .int (Int32.ofNat p), .int (Int32.ofNat n)] (rz_w v a g) (fun q w' => q = .inl none ∧ ∃ f, w' = rz_w (rz_up v 7 (Int32.ofNat n)) (rz_ua a 5 f) g) := by
  refine ev_ps 2 rfl (ev_w (w2 := rz_w v (rz_ua a 5 (a 5)) g) rfl ?_)
  refine ev_loop (α := Nat × (Nat → Int32)) (fun q => n - q.1) (fun q => q.1 ≤ n) (fun q => [some (.ref 11), some (.ref 1), some (.int (Int32.ofNat p)), some (.int (Int32.ofNat n)), some (.int (Int32.ofNat q.1))]) (fun _ => []) (fun q => rz_w v (rz_ua a 5 q.2) g) ?_ (0, a 5) (Nat.zero_le _)
  rintro ⟨k, f⟩ hk ih
  dsimp only at hk ih ⊢
  refine ev_ps 2 rfl (ev_ic (cd := .ge) rfl (fun h => ?_) (fun h => ?_))
  · exact ev_ps 3 rfl (ev_ret rfl rfl ⟨rfl, f, rfl⟩)
  · have hk' : k < n := rn_ge_f (by omega) (by omega) h
    refine ev_ps 7 rfl ?_
    refine ev_call (av := [.ref 1, .int (Int32.ofNat (p + k))]) rfl (by rw [← rz_add]; rfl) rfl rfl ⟨Nat.le_of_ble_eq_true rfl, rfl⟩ ⟨Nat.le_of_ble_eq_true rfl, Nat.le_of_ble_eq_true rfl⟩ (c_codeAt (by omega)) ?_
    rintro _ _ ⟨⟨u, rfl⟩, rfl⟩
    refine ev_ast rfl rfl (rz_in (by omega) (by decide)) ?_
    have h9 := fun f2 => ih (k + 1, f2) (by show k + 1 ≤ n; omega) (by show n - (k + 1) < n - k; omega)
    dsimp only at h9
    rw [← rz_succ k] at h9
    exact ev_w (w2 := rz_w v (rz_ua a 5 (upd f (Int32.ofNat k).toNatClampNeg _)) g) rfl (ev_ps 2 rfl (h9 _))
theorem c_takeFrom0_11 (x : Int32) : rz_C xs xl 30 [.ref 11, .ref 1, .int x, .int 0] (rz_w v a g) (fun q w' => q = .inl none ∧ ∃ f, w' = rz_w (rz_up v 7 (Int32.ofNat 0)) (rz_ua a 5 f) g) := by
  refine ev_ps 4 rfl (ev_ic (cd := .ge) rfl (fun h => ?_) (fun h => ?_))
  · exact ev_ps 3 rfl (ev_ret rfl rfl ⟨rfl, a 5, rfl⟩)
  · exact absurd (by decide : (0 : Int32) ≤ 0) (rc_ge_f h)
theorem c_rowRegs_11 {n : Nat} (x : Int32) (hv : v 7 = Int32.ofNat n) (hn : n ≤ 3) : rz_C xs xl 36 [.ref 11, .int x] (rz_w v a g) (fun q w' => (∃ u, q = .inl (some (.int u))) ∧ w' = rz_w v a g) := by
  refine ev_ps 4 rfl ?_
  refine ev_loop (α := Nat × Int32) (fun q => n - q.1) (fun q => q.1 ≤ n) (fun q => [some (.ref 11), some (.int x), some (.int q.2), some (.int (Int32.ofNat q.1))]) (fun _ => []) (fun _ => rz_w v a g) ?_ (0, x) (Nat.zero_le _)
  rintro ⟨k, y⟩ hk ih
  dsimp only at hk ih ⊢
  refine ev_ps 3 rfl (ev_ic (cd := .ge) rfl (fun h => ?_) (fun h => ?_))
  · exact ev_ps 1 rfl (ev_ret rfl rfl ⟨⟨_, rfl⟩, rfl⟩)
  · rw [hv] at h
    have hk' : k < n := rn_ge_f (by omega) (by omega) h
    refine ev_ps 3 rfl (ev_ald rfl rfl (rz_in (by omega) (by decide)) ?_)
    refine ev_ps 1 rfl (ev_call (av := [_, _]) rfl rfl rfl rfl ⟨Nat.le_of_ble_eq_true rfl, rfl⟩ ⟨Nat.le_of_ble_eq_true rfl, Nat.le_of_ble_eq_true rfl⟩ (c_regsAfter _ _) ?_)
    rintro _ _ ⟨⟨u, rfl⟩, rfl⟩
    have h9 := ih (k + 1, u) (by show k + 1 ≤ n; omega) (by show n - (k + 1) < n - k; omega)
    dsimp only at h9
    rw [← rz_succ k] at h9
    exact ev_ps 3 rfl h9
theorem c_takeNothing_21 : rz_C xs xl 34 [.ref 21] (rz_w v a g) (fun q w' => q = .inl none ∧ w' = rz_w (rz_up v 11 0) a g) :=
  ev_ps 3 rfl (ev_ret rfl rfl ⟨rfl, rfl⟩)
theorem c_takeOne_21 (x : Int32) : rz_C xs xl 43 [.ref 21, .int x] (rz_w v a g) (fun q w' => q = .inl none ∧ ∃ f, w' = rz_w (rz_up v 11 1) (rz_ua a 9 f) g) := by
  refine ev_ps 4 rfl (ev_ast rfl rfl (by decide) ?_)
  refine ev_w (w2 := rz_w v (rz_ua a 9 (upd (a 9) (0 : Int32).toNatClampNeg x)) g) rfl ?_
  exact ev_ps 3 rfl (ev_ret rfl rfl ⟨rfl, _, rfl⟩)
theorem c_takeFrom_21 {p n : Nat} (hn : n ≤ 3) (hpn : p + n ≤ 24) : rz_C xs xl 30 [.ref 21, .ref 1, .int (Int32.ofNat p), .int (Int32.ofNat n)] (rz_w v a g) (fun q w' => q = .inl none ∧ ∃ f, w' = rz_w (rz_up v 11 (Int32.ofNat n)) (rz_ua a 9 f) g) := by
  refine ev_ps 2 rfl (ev_w (w2 := rz_w v (rz_ua a 9 (a 9)) g) rfl ?_)
  refine ev_loop (α := Nat × (Nat → Int32)) (fun q => n - q.1) (fun q => q.1 ≤ n) (fun q => [some (.ref 21), some (.ref 1), some (.int (Int32.ofNat p)), some (.int (Int32.ofNat n)), some (.int (Int32.ofNat q.1))]) (fun _ => []) (fun q => rz_w v (rz_ua a 9 q.2) g) ?_ (0, a 9) (Nat.zero_le _)
  rintro ⟨k, f⟩ hk ih
  dsimp only at hk ih ⊢
  refine ev_ps 2 rfl (ev_ic (cd := .ge) rfl (fun h => ?_) (fun h => ?_))
  · exact ev_ps 3 rfl (ev_ret rfl rfl ⟨rfl, f, rfl⟩)
  · have hk' : k < n := rn_ge_f (by omega) (by omega) h
    refine ev_ps 7 rfl ?_
    refine ev_call (av := [.ref 1, .int (Int32.ofNat (p + k))]) rfl (by rw [← rz_add]; rfl) rfl rfl ⟨Nat.le_of_ble_eq_true rfl, rfl⟩ ⟨Nat.le_of_ble_eq_true rfl, Nat.le_of_ble_eq_true rfl⟩ (c_codeAt (by omega)) ?_
    rintro _ _ ⟨⟨u, rfl⟩, rfl⟩
    refine ev_ast rfl rfl (rz_in (by omega) (by decide)) ?_
    have h9 := fun f2 => ih (k + 1, f2) (by show k + 1 ≤ n; omega) (by show n - (k + 1) < n - k; omega)
    dsimp only at h9
    rw [← rz_succ k] at h9
    exact ev_w (w2 := rz_w v (rz_ua a 9 (upd f (Int32.ofNat k).toNatClampNeg _)) g) rfl (ev_ps 2 rfl (h9 _))
theorem c_takeFrom0_21 (x : Int32) : rz_C xs xl 30 [.ref 21, .ref 1, .int x, .int 0] (rz_w v a g) (fun q w' => q = .inl none ∧ ∃ f, w' = rz_w (rz_up v 11 (Int32.ofNat 0)) (rz_ua a 9 f) g) := by
  refine ev_ps 4 rfl (ev_ic (cd := .ge) rfl (fun h => ?_) (fun h => ?_))
  · exact ev_ps 3 rfl (ev_ret rfl rfl ⟨rfl, a 9, rfl⟩)
  · exact absurd (by decide : (0 : Int32) ≤ 0) (rc_ge_f h)
theorem c_rowRegs_21 {n : Nat} (x : Int32) (hv : v 11 = Int32.ofNat n) (hn : n ≤ 3) : rz_C xs xl 36 [.ref 21, .int x] (rz_w v a g) (fun q w' => (∃ u, q = .inl (some (.int u))) ∧ w' = rz_w v a g) := by
  refine ev_ps 4 rfl ?_
  refine ev_loop (α := Nat × Int32) (fun q => n - q.1) (fun q => q.1 ≤ n) (fun q => [some (.ref 21), some (.int x), some (.int q.2), some (.int (Int32.ofNat q.1))]) (fun _ => []) (fun _ => rz_w v a g) ?_ (0, x) (Nat.zero_le _)
  rintro ⟨k, y⟩ hk ih
  dsimp only at hk ih ⊢
  refine ev_ps 3 rfl (ev_ic (cd := .ge) rfl (fun h => ?_) (fun h => ?_))
  · exact ev_ps 1 rfl (ev_ret rfl rfl ⟨⟨_, rfl⟩, rfl⟩)
  · rw [hv] at h
    have hk' : k < n := rn_ge_f (by omega) (by omega) h
    refine ev_ps 3 rfl (ev_ald rfl rfl (rz_in (by omega) (by decide)) ?_)
    refine ev_ps 1 rfl (ev_call (av := [_, _]) rfl rfl rfl rfl ⟨Nat.le_of_ble_eq_true rfl, rfl⟩ ⟨Nat.le_of_ble_eq_true rfl, Nat.le_of_ble_eq_true rfl⟩ (c_regsAfter _ _) ?_)
    rintro _ _ ⟨⟨u, rfl⟩, rfl⟩
    have h9 := ih (k + 1, u) (by show k + 1 ≤ n; omega) (by show n - (k + 1) < n - k; omega)
    dsimp only at h9
    rw [← rz_succ k] at h9
    exact ev_ps 3 rfl h9
theorem c_takeNothing_23 : rz_C xs xl 34 [.ref 23] (rz_w v a g) (fun q w' => q = .inl none ∧ w' = rz_w (rz_up v 12 0) a g) :=
  ev_ps 3 rfl (ev_ret rfl rfl ⟨rfl, rfl⟩)
theorem c_takeOne_23 (x : Int32) : rz_C xs xl 43 [.ref 23, .int x] (rz_w v a g) (fun q w' => q = .inl none ∧ ∃ f, w' = rz_w (rz_up v 12 1) (rz_ua a 10 f) g) := by
  refine ev_ps 4 rfl (ev_ast rfl rfl (by decide) ?_)
  refine ev_w (w2 := rz_w v (rz_ua a 10 (upd (a 10) (0 : Int32).toNatClampNeg x)) g) rfl ?_
  exact ev_ps 3 rfl (ev_ret rfl rfl ⟨rfl, _, rfl⟩)
theorem c_takeFrom_23 {p n : Nat} (hn : n ≤ 3) (hpn : p + n ≤ 24) : rz_C xs xl 30 [.ref 23, .ref 1, .int (Int32.ofNat p), .int (Int32.ofNat n)] (rz_w v a g) (fun q w' => q = .inl none ∧ ∃ f, w' = rz_w (rz_up v 12 (Int32.ofNat n)) (rz_ua a 10 f) g) := by
  refine ev_ps 2 rfl (ev_w (w2 := rz_w v (rz_ua a 10 (a 10)) g) rfl ?_)
  refine ev_loop (α := Nat × (Nat → Int32)) (fun q => n - q.1) (fun q => q.1 ≤ n) (fun q => [some (.ref 23), some (.ref 1), some (.int (Int32.ofNat p)), some (.int (Int32.ofNat n)), some (.int (Int32.ofNat q.1))]) (fun _ => []) (fun q => rz_w v (rz_ua a 10 q.2) g) ?_ (0, a 10) (Nat.zero_le _)
  rintro ⟨k, f⟩ hk ih
  dsimp only at hk ih ⊢
  refine ev_ps 2 rfl (ev_ic (cd := .ge) rfl (fun h => ?_) (fun h => ?_))
  · exact ev_ps 3 rfl (ev_ret rfl rfl ⟨rfl, f, rfl⟩)
  · have hk' : k < n := rn_ge_f (by omega) (by omega) h
    refine ev_ps 7 rfl ?_
    refine ev_call (av := [.ref 1, .int (Int32.ofNat (p + k))]) rfl (by rw [← rz_add]; rfl) rfl rfl ⟨Nat.le_of_ble_eq_true rfl, rfl⟩ ⟨Nat.le_of_ble_eq_true rfl, Nat.le_of_ble_eq_true rfl⟩ (c_codeAt (by omega)) ?_
    rintro _ _ ⟨⟨u, rfl⟩, rfl⟩
    refine ev_ast rfl rfl (rz_in (by omega) (by decide)) ?_
    have h9 := fun f2 => ih (k + 1, f2) (by show k + 1 ≤ n; omega) (by show n - (k + 1) < n - k; omega)
    dsimp only at h9
    rw [← rz_succ k] at h9
    exact ev_w (w2 := rz_w v (rz_ua a 10 (upd f (Int32.ofNat k).toNatClampNeg _)) g) rfl (ev_ps 2 rfl (h9 _))
theorem c_takeFrom0_23 (x : Int32) : rz_C xs xl 30 [.ref 23, .ref 1, .int x, .int 0] (rz_w v a g) (fun q w' => q = .inl none ∧ ∃ f, w' = rz_w (rz_up v 12 (Int32.ofNat 0)) (rz_ua a 10 f) g) := by
  refine ev_ps 4 rfl (ev_ic (cd := .ge) rfl (fun h => ?_) (fun h => ?_))
  · exact ev_ps 3 rfl (ev_ret rfl rfl ⟨rfl, a 10, rfl⟩)
  · exact absurd (by decide : (0 : Int32) ≤ 0) (rc_ge_f h)
theorem c_rowRegs_23 {n : Nat} (x : Int32) (hv : v 12 = Int32.ofNat n) (hn : n ≤ 3) : rz_C xs xl 36 [.ref 23, .int x] (rz_w v a g) (fun q w' => (∃ u, q = .inl (some (.int u))) ∧ w' = rz_w v a g) := by
  refine ev_ps 4 rfl ?_
  refine ev_loop (α := Nat × Int32) (fun q => n - q.1) (fun q => q.1 ≤ n) (fun q => [some (.ref 23), some (.int x), some (.int q.2), some (.int (Int32.ofNat q.1))]) (fun _ => []) (fun _ => rz_w v a g) ?_ (0, x) (Nat.zero_le _)
  rintro ⟨k, y⟩ hk ih
  dsimp only at hk ih ⊢
  refine ev_ps 3 rfl (ev_ic (cd := .ge) rfl (fun h => ?_) (fun h => ?_))
  · exact ev_ps 1 rfl (ev_ret rfl rfl ⟨⟨_, rfl⟩, rfl⟩)
  · rw [hv] at h
    have hk' : k < n := rn_ge_f (by omega) (by omega) h
    refine ev_ps 3 rfl (ev_ald rfl rfl (rz_in (by omega) (by decide)) ?_)
    refine ev_ps 1 rfl (ev_call (av := [_, _]) rfl rfl rfl rfl ⟨Nat.le_of_ble_eq_true rfl, rfl⟩ ⟨Nat.le_of_ble_eq_true rfl, Nat.le_of_ble_eq_true rfl⟩ (c_regsAfter _ _) ?_)
    rintro _ _ ⟨⟨u, rfl⟩, rfl⟩
    have h9 := ih (k + 1, u) (by show k + 1 ≤ n; omega) (by show n - (k + 1) < n - k; omega)
    dsimp only at h9
    rw [← rz_succ k] at h9
    exact ev_ps 3 rfl h9
theorem c_numbers {n : Nat} (hv : v 11 = Int32.ofNat n) (hn : n ≤ 3) : rz_C xs xl 40 [.ref 21] (rz_w v a g) (fun q w' => (∃ u, q = .inl (some (.int u))) ∧ w' = rz_w v a g) := by
  refine ev_ps 4 rfl ?_
  refine ev_loop (α := Nat × Int32) (fun q => n - q.1) (fun q => q.1 ≤ n) (fun q => [some (.ref 21), some (.int q.2), some (.int (Int32.ofNat q.1))]) (fun _ => []) (fun _ => rz_w v a g) ?_ (0, 0) (Nat.zero_le _)
  rintro ⟨k, y⟩ hk ih
  dsimp only at hk ih ⊢
  have next : k < n → ∀ y : Int32, rz_E xs xl 40 38 [some (.ref 21), some (.int y), some (.int (Int32.ofNat k))] [] (rz_w v a g) 0 0 (fun q w' => (∃ u, q = .inl (some (.int u))) ∧ w' = rz_w v a g) := fun hkn y => by
    have h9 := ih (k + 1, y) (by show k + 1 ≤ n; omega) (by show n - (k + 1) < n - k; omega)
    dsimp only at h9
    rw [← rz_succ k] at h9
    exact ev_ps 2 rfl h9
  refine ev_ps 3 rfl (ev_ic (cd := .ge) rfl (fun h => ?_) (fun h => ?_))
  · exact ev_ps 1 rfl (ev_ret rfl rfl ⟨⟨_, rfl⟩, rfl⟩)
  · rw [hv] at h
    have hk' : k < n := rn_ge_f (by omega) (by omega) h
    refine ev_ps 3 rfl (ev_ald rfl rfl (rz_in (by omega) (by decide)) ?_)
    refine ev_call (av := [_]) rfl rfl rfl rfl ⟨Nat.le_of_ble_eq_true rfl, rfl⟩ ⟨Nat.le_of_ble_eq_true rfl, Nat.le_of_ble_eq_true rfl⟩ (c_hasNumber _) ?_
    rintro _ _ ⟨⟨u, hu, rfl⟩, rfl⟩
    refine ev_if (cd := .eq) rfl (fun h2 => next hk' _) (fun h2 => ?_)
    refine ev_ps 5 rfl (ev_ald rfl rfl (rz_in (by omega) (by decide)) ?_)
    refine ev_call (av := [_]) rfl rfl rfl rfl ⟨Nat.le_of_ble_eq_true rfl, rfl⟩ ⟨Nat.le_of_ble_eq_true rfl, Nat.le_of_ble_eq_true rfl⟩ (c_t _) ?_
    rintro _ _ ⟨rfl, rfl⟩
    exact ev_ps 3 rfl (next hk' _)
theorem c_maskOf {w : rz_W} (x : Int32) : rz_C xs xl 32 [.int x] w (fun q w' => (∃ u, q = .inl (some (.int u))) ∧ w' = w) := by
  refine ev_ps 4 rfl ?_
  refine ev_loop (α := Nat × Int32) (fun q => 4 - q.1) (fun q => q.1 ≤ 4) (fun q => [some (.int x), some (.int q.2), some (.int (Int32.ofNat q.1))]) (fun _ => []) (fun _ => w) ?_ (0, 0) (Nat.zero_le _)
  rintro ⟨k, y⟩ hk ih
  dsimp only at hk ih ⊢
  have next : k < 4 → ∀ y : Int32, rz_E xs xl 32 27 [some (.int x), some (.int y), some (.int (Int32.ofNat k))] [] w 0 0 (fun q w' => (∃ u, q = .inl (some (.int u))) ∧ w' = w) := fun hkn y => by
    have h9 := ih (k + 1, y) (by show k + 1 ≤ 4; omega) (by show 4 - (k + 1) < 4 - k; omega)
    dsimp only at h9
    rw [← rz_succ k] at h9
    exact ev_ps 2 rfl h9
  refine ev_ps 2 rfl (ev_ic (cd := .ge) rfl (fun h => ?_) (fun h => ?_))
  · exact ev_ps 1 rfl (ev_ret rfl rfl ⟨⟨_, rfl⟩, rfl⟩)
  · have hk' : k < 4 := rn_ge_f (k := 4) (by omega) (by omega) h
    refine ev_ps 6 rfl (ev_ic (cd := .ne) rfl (fun h2 => next hk' _) (fun h2 => ?_))
    exact ev_ps 8 rfl (next hk' _)
end RZP2
end
section
/-! liveness and provers at each of their places -/
section RZP3
variable {xs : Nat → Int32} {xl : Nat} {v : Nat → Int32} {a : Nat → Nat → Int32} {g : Nat → Int64}
theorem rz_minIdx {n : Nat} (c : Int32) (hn : n ≤ 24) : ¬ ((if Int32.ofNat n < c &&& 31 then Int32.ofNat n else c &&& 31) < 0 ∨ 25 ≤ (if Int32.ofNat n < c &&& 31 then Int32.ofNat n else c &&& 31).toNatClampNeg) := by
  obtain ⟨j, hj, e⟩ := rz_mask c 31 (by decide)
  have e' : c &&& 31 = Int32.ofNat j := e
  rw [e']
  by_cases h : n < j
  · rw [if_pos ((rz_lt_iff (by omega) (by omega)).mpr h)]
    exact rz_in (by omega) (by decide)
  · rw [if_neg (fun q => h ((rz_lt_iff (by omega) (by omega)).mp q))]
    exact rz_in (by omega) (by decide)
theorem c_before_6 {k : Nat} (hk : k ≤ 24) : rz_C xs xl 31 [.ref 6, .int (Int32.ofNat k)] (rz_w v a g) (fun q w' => (∃ u, q = .inl (some (.int u))) ∧ w' = rz_w v a g) := by
  refine ev_ps 3 rfl (ev_ald rfl rfl (rz_in (by omega) (by decide)) ?_)
  exact ev_ret rfl rfl ⟨⟨_, rfl⟩, rfl⟩
theorem c_fill_6 (x : Int32) : rz_C xs xl 11 [.ref 7, .int x] (rz_w v a g) (fun q w' => q = .inl none ∧ ∃ f, w' = rz_w v (rz_ua a 3 f) g) := by
  refine ev_ps 5 rfl (ev_w (w2 := rz_w v (rz_ua a 3 (a 3)) g) rfl ?_)
  refine ev_loop (α := Nat × (Nat → Int32)) (fun q => 25 - q.1) (fun q => q.1 ≤ 25) (fun q => [some (.ref 7), some (.int x), some (.int (Int32.ofNat q.1)), some (.int (Int32.ofNat 25))]) (fun _ => []) (fun q => rz_w v (rz_ua a 3 q.2) g) ?_ (0, a 3) (Nat.zero_le _)
  rintro ⟨k, f⟩ hk ih
  dsimp only at hk ih ⊢
  refine ev_ps 2 rfl (ev_ic (cd := .ge) rfl (fun h => ?_) (fun h => ?_))
  · exact ev_ret rfl rfl ⟨rfl, f, rfl⟩
  · have hk' : k < 25 := rn_ge_f (by omega) (by omega) h
    refine ev_ps 3 rfl (ev_ast rfl rfl (rz_in hk' (by decide)) ?_)
    have h9 := fun f2 => ih (k + 1, f2) (by show k + 1 ≤ 25; omega) (by show 25 - (k + 1) < 25 - k; omega)
    dsimp only at h9
    rw [← rz_succ k] at h9
    exact ev_w (w2 := rz_w v (rz_ua a 3 (upd f (Int32.ofNat k).toNatClampNeg _)) g) rfl (ev_ps 2 rfl (h9 _))
theorem c_behind_6 {n k : Nat} (hv : v 0 = Int32.ofNat n) (hn : n ≤ 24) (hk : k < 24) : rz_C xs xl 14 [.ref 6, .ref 1, .int (Int32.ofNat k)] (rz_w v a g) (fun q w' => (∃ u, q = .inl (some (.int u))) ∧ w' = rz_w v a g) := by
  refine ev_ps 2 rfl (ev_call (av := [_, _]) rfl rfl rfl rfl ⟨Nat.le_of_ble_eq_true rfl, rfl⟩ ⟨Nat.le_of_ble_eq_true rfl, Nat.le_of_ble_eq_true rfl⟩ (c_codeAt (by omega)) ?_)
  rintro _ _ ⟨⟨c, rfl⟩, rfl⟩
  refine ev_ps 4 rfl (ev_call (av := [_]) rfl rfl rfl rfl ⟨Nat.le_of_ble_eq_true rfl, rfl⟩ ⟨Nat.le_of_ble_eq_true rfl, Nat.le_of_ble_eq_true rfl⟩ (c_t _) ?_)
  rintro _ _ ⟨rfl, rfl⟩
  refine ev_ps 1 rfl (ev_call (av := [_]) rfl rfl rfl rfl ⟨Nat.le_of_ble_eq_true rfl, rfl⟩ ⟨Nat.le_of_ble_eq_true rfl, Nat.le_of_ble_eq_true rfl⟩ (c_length) ?_)
  rintro _ _ ⟨rfl, rfl⟩
  refine ev_min rfl (Nat.le_of_ble_eq_true rfl) ?_
  refine ev_ald rfl rfl (by rw [hv]; exact rz_minIdx c hn) ?_
  have hin : ¬ (Int32.ofNat k + Int32.ofInt 1 < 0 ∨ 25 ≤ (Int32.ofNat k + Int32.ofInt 1).toNatClampNeg) := by
    rw [show Int32.ofNat k + Int32.ofInt 1 = Int32.ofNat (k + 1) from rz_succ k]
    exact rz_in (by omega) (by decide)
  refine ev_ps 2 rfl (ev_call (av := [_]) rfl rfl rfl rfl ⟨Nat.le_of_ble_eq_true rfl, rfl⟩ ⟨Nat.le_of_ble_eq_true rfl, Nat.le_of_ble_eq_true rfl⟩ (c_operation _) ?_)
  rintro _ _ ⟨rfl, rfl⟩
  refine ev_tsw rfl (fun t ht => ?_)
  rcases rz_mem4 ht with rfl | rfl | rfl | rfl
  · refine ev_ps 5 rfl (ev_ald rfl rfl hin ?_)
    exact ev_ret rfl rfl ⟨⟨_, rfl⟩, rfl⟩
  · refine ev_ps 5 rfl (ev_ald rfl rfl hin ?_)
    exact ev_ps 2 rfl (ev_ret rfl rfl ⟨⟨_, rfl⟩, rfl⟩)
  · refine ev_ps 5 rfl (ev_ald rfl rfl hin ?_)
    exact ev_ps 2 rfl (ev_ret rfl rfl ⟨⟨_, rfl⟩, rfl⟩)
  · exact ev_ps 1 rfl (ev_ret rfl rfl ⟨⟨_, rfl⟩, rfl⟩)
theorem c_findMore_6 {n : Nat} (hv : v 0 = Int32.ofNat n) (hn : n ≤ 24) : rz_C xs xl 12 [.ref 6, .ref 1] (rz_w v a g) (fun q w' => (∃ u, (u = 0 ∨ u = 1) ∧ q = .inl (some (.int u))) ∧ ∃ f, w' = rz_w v (rz_ua a 3 f) g) := by
  refine ev_ps 3 rfl (ev_call (av := [_]) rfl rfl rfl rfl ⟨Nat.le_of_ble_eq_true rfl, rfl⟩ ⟨Nat.le_of_ble_eq_true rfl, Nat.le_of_ble_eq_true rfl⟩ (c_length) ?_)
  rintro _ _ ⟨rfl, rfl⟩
  refine ev_ps 3 rfl ?_
  suffices H : ∀ (m : Int32) (t4 t5 t6 : Option Value) (k : Nat) (f : Nat → Int32), k ≤ n → (m = 0 ∨ m = 1) → rz_E xs xl 12 9 [some (.ref 6), some (.ref 1), some (.int m), some (.int (Int32.ofNat k - 1)), t4, t5, t6] [] (rz_w v (rz_ua a 3 f) g) 0 0 (fun q w' => (∃ u, (u = 0 ∨ u = 1) ∧ q = .inl (some (.int u))) ∧ ∃ f, w' = rz_w v (rz_ua a 3 f) g) by
    refine ev_l (L2 := [some (.ref 6), some (.ref 1), some (.int 0), some (.int (Int32.ofNat n - 1)), none, none, none]) (by rw [← hv]; rfl) ?_
    exact ev_w (w2 := rz_w v (rz_ua a 3 (a 3)) g) rfl (H 0 none none none n (a 3) (Nat.le_refl _) (Or.inl rfl))
  intro m t4 t5 t6 k f hk hm
  refine ev_loop (α := Nat × Int32 × Option Value × Option Value × Option Value × (Nat → Int32)) (fun q => q.1) (fun q => q.1 ≤ n ∧ (q.2.1 = 0 ∨ q.2.1 = 1)) (fun q => [some (.ref 6), some (.ref 1), some (.int q.2.1), some (.int (Int32.ofNat q.1 - 1)), q.2.2.1, q.2.2.2.1, q.2.2.2.2.1]) (fun _ => []) (fun q => rz_w v (rz_ua a 3 q.2.2.2.2.2) g) ?_ (k, m, t4, t5, t6, f) ⟨hk, hm⟩
  rintro ⟨k, m, t4, t5, t6, f⟩ ⟨hk, hm⟩ ih
  dsimp only at hk hm ih ⊢
  refine ev_ps 1 rfl (ev_if (cd := .lt) rfl (fun h => ?_) (fun h => ?_))
  · refine ev_ps 1 rfl (ev_ret rfl (show (if m = 0 ∨ m = 1 then some (some (Value.int m)) else none) = _ from if_pos hm) ⟨⟨_, hm, rfl⟩, _, rfl⟩)
  · have hk0 : 0 < k := by
      rcases Nat.eq_zero_or_pos k with rfl | h0
      · exact absurd (by decide : Int32.ofNat 0 - 1 < 0) (rc_lt_f h)
      · exact h0
    have e : Int32.ofNat k - 1 = Int32.ofNat (k - 1) := rz_sub (n := 1) hk0
    rw [e]
    have next : ∀ (m : Int32) (t4 t5 t6 : Option Value) (f : Nat → Int32), (m = 0 ∨ m = 1) → rz_E xs xl 12 70 [some (.ref 6), some (.ref 1), some (.int m), some (.int (Int32.ofNat (k - 1))), t4, t5, t6] [] (rz_w v (rz_ua a 3 f) g) 0 0 (fun q w' => (∃ u, (u = 0 ∨ u = 1) ∧ q = .inl (some (.int u))) ∧ ∃ f, w' = rz_w v (rz_ua a 3 f) g) := by
      intro m t4 t5 t6 f hm
      have h9 := ih (k - 1, m, t4, t5, t6, f) ⟨by show k - 1 ≤ n; omega, hm⟩ (by show k - 1 < k; omega)
      dsimp only at h9
      rw [show Int32.ofNat (k - 1) - 1 = Int32.ofNat (k - 1) + Int32.ofInt (-1) from Int32.sub_eq_add_neg _ _] at h9
      exact ev_ps 2 rfl h9
    refine ev_ps 2 rfl (ev_call (av := [_, _]) rfl rfl rfl rfl ⟨Nat.le_of_ble_eq_true rfl, rfl⟩ ⟨Nat.le_of_ble_eq_true rfl, Nat.le_of_ble_eq_true rfl⟩ (c_codeAt (by omega)) ?_)
    rintro _ _ ⟨⟨c, rfl⟩, rfl⟩
    refine ev_ps 4 rfl (ev_call (av := [_, _, _]) rfl rfl rfl rfl ⟨Nat.le_of_ble_eq_true rfl, rfl⟩ ⟨Nat.le_of_ble_eq_true rfl, Nat.le_of_ble_eq_true rfl⟩ (c_behind_6 hv hn (by omega)) ?_)
    rintro _ _ ⟨⟨b, rfl⟩, rfl⟩
    refine ev_ps 1 rfl (ev_call (av := [_]) rfl rfl rfl rfl ⟨Nat.le_of_ble_eq_true rfl, rfl⟩ ⟨Nat.le_of_ble_eq_true rfl, Nat.le_of_ble_eq_true rfl⟩ (c_writtenBy _) ?_)
    rintro _ _ ⟨⟨b2, rfl⟩, rfl⟩
    refine ev_ps 5 rfl (ev_call (av := [_]) rfl rfl rfl rfl ⟨Nat.le_of_ble_eq_true rfl, rfl⟩ ⟨Nat.le_of_ble_eq_true rfl, Nat.le_of_ble_eq_true rfl⟩ (c_readBy _) ?_)
    rintro _ _ ⟨⟨b3, rfl⟩, rfl⟩
    refine ev_ps 9 rfl (ev_ald rfl rfl (rz_in (by omega) (by decide)) ?_)
    refine ev_ic (cd := .eq) rfl (fun h2 => next _ _ _ _ _ hm) (fun h2 => ?_)
    refine ev_ps 4 rfl (ev_ast rfl rfl (rz_in (by omega) (by decide)) ?_)
    exact ev_w (w2 := rz_w v (rz_ua a 3 (upd f (Int32.ofNat (k - 1)).toNatClampNeg _)) g) rfl (ev_ps 2 rfl (next 1 _ _ _ _ (Or.inr rfl)))
theorem c_findFor_6 {n : Nat} (hv : v 0 = Int32.ofNat n) (hn : n ≤ 24) : rz_C xs xl 10 [.ref 6, .ref 1] (rz_w v a g) (fun q w' => q = .inl none ∧ ∃ f, w' = rz_w v (rz_ua a 3 f) g) := by
  refine ev_ps 3 rfl (ev_call (av := [_, _]) rfl rfl rfl rfl ⟨Nat.le_of_ble_eq_true rfl, rfl⟩ ⟨Nat.le_of_ble_eq_true rfl, Nat.le_of_ble_eq_true rfl⟩ (c_fill_6 _) ?_)
  rintro _ _ ⟨rfl, f0, rfl⟩
  refine ev_ps 3 rfl (ev_call (av := [_]) rfl rfl rfl rfl ⟨Nat.le_of_ble_eq_true rfl, rfl⟩ ⟨Nat.le_of_ble_eq_true rfl, Nat.le_of_ble_eq_true rfl⟩ (c_length) ?_)
  rintro _ _ ⟨rfl, rfl⟩
  refine ev_ps 1 rfl (ev_ast rfl rfl (by rw [hv]; exact rz_in (by omega) (by decide)) ?_)
  refine ev_w (w2 := rz_w v (rz_ua a 3 (upd f0 (v 0).toNatClampNeg _)) g) rfl ?_
  refine ev_ps 4 rfl ?_
  refine ev_loop (α := Nat × Int32 × (Nat → Int32)) (fun q => 73 - q.1) (fun q => q.1 ≤ 73) (fun q => [some (.ref 6), some (.ref 1), some (.int q.2.1), some (.int (Int32.ofNat q.1))]) (fun _ => []) (fun q => rz_w v (rz_ua a 3 q.2.2) g) ?_ (0, 1, _) (Nat.zero_le _)
  rintro ⟨k, m, f⟩ hk ih
  dsimp only at hk ih ⊢
  refine ev_ps 1 rfl (ev_if (cd := .eq) rfl (fun h => ?_) (fun h => ?_))
  · exact ev_ret rfl rfl ⟨rfl, f, rfl⟩
  · refine ev_ps 2 rfl (ev_ic (cd := .ge) rfl (fun h => ?_) (fun h => ?_))
    · exact ev_ret rfl rfl ⟨rfl, f, rfl⟩
    · have hk' : k < 73 := rn_ge_f (k := 73) (by omega) (by omega) h
      refine ev_ps 2 rfl (ev_call (av := [_, _]) rfl rfl rfl rfl ⟨Nat.le_of_ble_eq_true rfl, rfl⟩ ⟨Nat.le_of_ble_eq_true rfl, Nat.le_of_ble_eq_true rfl⟩ (c_findMore_6 (a := rz_ua a 3 f) hv hn) ?_)
      rintro _ _ ⟨⟨u, hu, rfl⟩, f2, rfl⟩
      have h9 := ih (k + 1, u, f2) (by show k + 1 ≤ 73; omega) (by show 73 - (k + 1) < 73 - k; omega)
      dsimp only at h9
      rw [← rz_succ k] at h9
      exact ev_w (w2 := rz_w v (rz_ua a 3 f2) g) rfl (ev_ps 3 rfl h9)
theorem c_before_14 {k : Nat} (hk : k ≤ 24) : rz_C xs xl 31 [.ref 14, .int (Int32.ofNat k)] (rz_w v a g) (fun q w' => (∃ u, q = .inl (some (.int u))) ∧ w' = rz_w v a g) := by
  refine ev_ps 3 rfl (ev_ald rfl rfl (rz_in (by omega) (by decide)) ?_)
  exact ev_ret rfl rfl ⟨⟨_, rfl⟩, rfl⟩
theorem c_fill_14 (x : Int32) : rz_C xs xl 11 [.ref 15, .int x] (rz_w v a g) (fun q w' => q = .inl none ∧ ∃ f, w' = rz_w v (rz_ua a 6 f) g) := by
  refine ev_ps 5 rfl (ev_w (w2 := rz_w v (rz_ua a 6 (a 6)) g) rfl ?_)
  refine ev_loop (α := Nat × (Nat → Int32)) (fun q => 25 - q.1) (fun q => q.1 ≤ 25) (fun q => [some (.ref 15), some (.int x), some (.int (Int32.ofNat q.1)), some (.int (Int32.ofNat 25))]) (fun _ => []) (fun q => rz_w v (rz_ua a 6 q.2) g) ?_ (0, a 6) (Nat.zero_le _)
  rintro ⟨k, f⟩ hk ih
  dsimp only at hk ih ⊢
  refine ev_ps 2 rfl (ev_ic (cd := .ge) rfl (fun h => ?_) (fun h => ?_))
  · exact ev_ret rfl rfl ⟨rfl, f, rfl⟩
  · have hk' : k < 25 := rn_ge_f (by omega) (by omega) h
    refine ev_ps 3 rfl (ev_ast rfl rfl (rz_in hk' (by decide)) ?_)
    have h9 := fun f2 => ih (k + 1, f2) (by show k + 1 ≤ 25; omega) (by show 25 - (k + 1) < 25 - k; omega)
    dsimp only at h9
    rw [← rz_succ k] at h9
    exact ev_w (w2 := rz_w v (rz_ua a 6 (upd f (Int32.ofNat k).toNatClampNeg _)) g) rfl (ev_ps 2 rfl (h9 _))
theorem c_behind_14 {n k : Nat} (hv : v 0 = Int32.ofNat n) (hn : n ≤ 24) (hk : k < 24) : rz_C xs xl 14 [.ref 14, .ref 1, .int (Int32.ofNat k)] (rz_w v a g) (fun q w' => (∃ u, q = .inl (some (.int u))) ∧ w' = rz_w v a g) := by
  refine ev_ps 2 rfl (ev_call (av := [_, _]) rfl rfl rfl rfl ⟨Nat.le_of_ble_eq_true rfl, rfl⟩ ⟨Nat.le_of_ble_eq_true rfl, Nat.le_of_ble_eq_true rfl⟩ (c_codeAt (by omega)) ?_)
  rintro _ _ ⟨⟨c, rfl⟩, rfl⟩
  refine ev_ps 4 rfl (ev_call (av := [_]) rfl rfl rfl rfl ⟨Nat.le_of_ble_eq_true rfl, rfl⟩ ⟨Nat.le_of_ble_eq_true rfl, Nat.le_of_ble_eq_true rfl⟩ (c_t _) ?_)
  rintro _ _ ⟨rfl, rfl⟩
  refine ev_ps 1 rfl (ev_call (av := [_]) rfl rfl rfl rfl ⟨Nat.le_of_ble_eq_true rfl, rfl⟩ ⟨Nat.le_of_ble_eq_true rfl, Nat.le_of_ble_eq_true rfl⟩ (c_length) ?_)
  rintro _ _ ⟨rfl, rfl⟩
  refine ev_min rfl (Nat.le_of_ble_eq_true rfl) ?_
  refine ev_ald rfl rfl (by rw [hv]; exact rz_minIdx c hn) ?_
  have hin : ¬ (Int32.ofNat k + Int32.ofInt 1 < 0 ∨ 25 ≤ (Int32.ofNat k + Int32.ofInt 1).toNatClampNeg) := by
    rw [show Int32.ofNat k + Int32.ofInt 1 = Int32.ofNat (k + 1) from rz_succ k]
    exact rz_in (by omega) (by decide)
  refine ev_ps 2 rfl (ev_call (av := [_]) rfl rfl rfl rfl ⟨Nat.le_of_ble_eq_true rfl, rfl⟩ ⟨Nat.le_of_ble_eq_true rfl, Nat.le_of_ble_eq_true rfl⟩ (c_operation _) ?_)
  rintro _ _ ⟨rfl, rfl⟩
  refine ev_tsw rfl (fun t ht => ?_)
  rcases rz_mem4 ht with rfl | rfl | rfl | rfl
  · refine ev_ps 5 rfl (ev_ald rfl rfl hin ?_)
    exact ev_ret rfl rfl ⟨⟨_, rfl⟩, rfl⟩
  · refine ev_ps 5 rfl (ev_ald rfl rfl hin ?_)
    exact ev_ps 2 rfl (ev_ret rfl rfl ⟨⟨_, rfl⟩, rfl⟩)
  · refine ev_ps 5 rfl (ev_ald rfl rfl hin ?_)
    exact ev_ps 2 rfl (ev_ret rfl rfl ⟨⟨_, rfl⟩, rfl⟩)
  · exact ev_ps 1 rfl (ev_ret rfl rfl ⟨⟨_, rfl⟩, rfl⟩)
theorem c_findMore_14 {n : Nat} (hv : v 0 = Int32.ofNat n) (hn : n ≤ 24) : rz_C xs xl 12 [.ref 14, .ref 1] (rz_w v a g) (fun q w' => (∃ u, (u = 0 ∨ u = 1) ∧ q = .inl (some (.int u))) ∧ ∃ f, w' = rz_w v (rz_ua a 6 f) g) := by
  refine ev_ps 3 rfl (ev_call (av := [_]) rfl rfl rfl rfl ⟨Nat.le_of_ble_eq_true rfl, rfl⟩ ⟨Nat.le_of_ble_eq_true rfl, Nat.le_of_ble_eq_true rfl⟩ (c_length) ?_)
  rintro _ _ ⟨rfl, rfl⟩
  refine ev_ps 3 rfl ?_
  suffices H : ∀ (m : Int32) (t4 t5 t6 : Option Value) (k : Nat) (f : Nat → Int32), k ≤ n → (m = 0 ∨ m = 1) → rz_E xs xl 12 9 [some (.ref 14), some (.ref 1), some (.int m), some (.int (Int32.ofNat k - 1)), t4, t5, t6] [] (rz_w v (rz_ua a 6 f) g) 0 0 (fun q w' => (∃ u, (u = 0 ∨ u = 1) ∧ q = .inl (some (.int u))) ∧ ∃ f, w' = rz_w v (rz_ua a 6 f) g) by
    refine ev_l (L2 := [some (.ref 14), some (.ref 1), some (.int 0), some (.int (Int32.ofNat n - 1)), none, none, none]) (by rw [← hv]; rfl) ?_
    exact ev_w (w2 := rz_w v (rz_ua a 6 (a 6)) g) rfl (H 0 none none none n (a 6) (Nat.le_refl _) (Or.inl rfl))
  intro m t4 t5 t6 k f hk hm
  refine ev_loop (α := Nat × Int32 × Option Value × Option Value × Option Value × (Nat → Int32)) (fun q => q.1) (fun q => q.1 ≤ n ∧ (q.2.1 = 0 ∨ q.2.1 = 1)) (fun q => [some (.ref 14), some (.ref 1), some (.int q.2.1), some (.int (Int32.ofNat q.1 - 1)), q.2.2.1, q.2.2.2.1, q.2.2.2.2.1]) (fun _ => []) (fun q => rz_w v (rz_ua a 6 q.2.2.2.2.2) g) ?_ (k, m, t4, t5, t6, f) ⟨hk, hm⟩
  rintro ⟨k, m, t4, t5, t6, f⟩ ⟨hk, hm⟩ ih
  dsimp only at hk hm ih ⊢
  refine ev_ps 1 rfl (ev_if (cd := .lt) rfl (fun h => ?_) (fun h => ?_))
  · refine ev_ps 1 rfl (ev_ret rfl (show (if m = 0 ∨ m = 1 then some (some (Value.int m)) else none) = _ from if_pos hm) ⟨⟨_, hm, rfl⟩, _, rfl⟩)
  · have hk0 : 0 < k := by
      rcases Nat.eq_zero_or_pos k with rfl | h0
      · exact absurd (by decide : Int32.ofNat 0 - 1 < 0) (rc_lt_f h)
      · exact h0
    have e : Int32.ofNat k - 1 = Int32.ofNat (k - 1) := rz_sub (n := 1) hk0
    rw [e]
    have next : ∀ (m : Int32) (t4 t5 t6 : Option Value) (f : Nat → Int32), (m = 0 ∨ m = 1) → rz_E xs xl 12 70 [some (.ref 14), some (.ref 1), some (.int m), some (.int (Int32.ofNat (k - 1))), t4, t5, t6] [] (rz_w v (rz_ua a 6 f) g) 0 0 (fun q w' => (∃ u, (u = 0 ∨ u = 1) ∧ q = .inl (some (.int u))) ∧ ∃ f, w' = rz_w v (rz_ua a 6 f) g) := by
      intro m t4 t5 t6 f hm
      have h9 := ih (k - 1, m, t4, t5, t6, f) ⟨by show k - 1 ≤ n; omega, hm⟩ (by show k - 1 < k; omega)
      dsimp only at h9
      rw [show Int32.ofNat (k - 1) - 1 = Int32.ofNat (k - 1) + Int32.ofInt (-1) from Int32.sub_eq_add_neg _ _] at h9
      exact ev_ps 2 rfl h9
    refine ev_ps 2 rfl (ev_call (av := [_, _]) rfl rfl rfl rfl ⟨Nat.le_of_ble_eq_true rfl, rfl⟩ ⟨Nat.le_of_ble_eq_true rfl, Nat.le_of_ble_eq_true rfl⟩ (c_codeAt (by omega)) ?_)
    rintro _ _ ⟨⟨c, rfl⟩, rfl⟩
    refine ev_ps 4 rfl (ev_call (av := [_, _, _]) rfl rfl rfl rfl ⟨Nat.le_of_ble_eq_true rfl, rfl⟩ ⟨Nat.le_of_ble_eq_true rfl, Nat.le_of_ble_eq_true rfl⟩ (c_behind_14 hv hn (by omega)) ?_)
    rintro _ _ ⟨⟨b, rfl⟩, rfl⟩
    refine ev_ps 1 rfl (ev_call (av := [_]) rfl rfl rfl rfl ⟨Nat.le_of_ble_eq_true rfl, rfl⟩ ⟨Nat.le_of_ble_eq_true rfl, Nat.le_of_ble_eq_true rfl⟩ (c_writtenBy _) ?_)
    rintro _ _ ⟨⟨b2, rfl⟩, rfl⟩
    refine ev_ps 5 rfl (ev_call (av := [_]) rfl rfl rfl rfl ⟨Nat.le_of_ble_eq_true rfl, rfl⟩ ⟨Nat.le_of_ble_eq_true rfl, Nat.le_of_ble_eq_true rfl⟩ (c_readBy _) ?_)
    rintro _ _ ⟨⟨b3, rfl⟩, rfl⟩
    refine ev_ps 9 rfl (ev_ald rfl rfl (rz_in (by omega) (by decide)) ?_)
    refine ev_ic (cd := .eq) rfl (fun h2 => next _ _ _ _ _ hm) (fun h2 => ?_)
    refine ev_ps 4 rfl (ev_ast rfl rfl (rz_in (by omega) (by decide)) ?_)
    exact ev_w (w2 := rz_w v (rz_ua a 6 (upd f (Int32.ofNat (k - 1)).toNatClampNeg _)) g) rfl (ev_ps 2 rfl (next 1 _ _ _ _ (Or.inr rfl)))
theorem c_findFor_14 {n : Nat} (hv : v 0 = Int32.ofNat n) (hn : n ≤ 24) : rz_C xs xl 10 [.ref 14, .ref 1] (rz_w v a g) (fun q w' => q = .inl none ∧ ∃ f, w' = rz_w v (rz_ua a 6 f) g) := by
  refine ev_ps 3 rfl (ev_call (av := [_, _]) rfl rfl rfl rfl ⟨Nat.le_of_ble_eq_true rfl, rfl⟩ ⟨Nat.le_of_ble_eq_true rfl, Nat.le_of_ble_eq_true rfl⟩ (c_fill_14 _) ?_)
  rintro _ _ ⟨rfl, f0, rfl⟩
  refine ev_ps 3 rfl (ev_call (av := [_]) rfl rfl rfl rfl ⟨Nat.le_of_ble_eq_true rfl, rfl⟩ ⟨Nat.le_of_ble_eq_true rfl, Nat.le_of_ble_eq_true rfl⟩ (c_length) ?_)
  rintro _ _ ⟨rfl, rfl⟩
  refine ev_ps 1 rfl (ev_ast rfl rfl (by rw [hv]; exact rz_in (by omega) (by decide)) ?_)
  refine ev_w (w2 := rz_w v (rz_ua a 6 (upd f0 (v 0).toNatClampNeg _)) g) rfl ?_
  refine ev_ps 4 rfl ?_
  refine ev_loop (α := Nat × Int32 × (Nat → Int32)) (fun q => 73 - q.1) (fun q => q.1 ≤ 73) (fun q => [some (.ref 14), some (.ref 1), some (.int q.2.1), some (.int (Int32.ofNat q.1))]) (fun _ => []) (fun q => rz_w v (rz_ua a 6 q.2.2) g) ?_ (0, 1, _) (Nat.zero_le _)
  rintro ⟨k, m, f⟩ hk ih
  dsimp only at hk ih ⊢
  refine ev_ps 1 rfl (ev_if (cd := .eq) rfl (fun h => ?_) (fun h => ?_))
  · exact ev_ret rfl rfl ⟨rfl, f, rfl⟩
  · refine ev_ps 2 rfl (ev_ic (cd := .ge) rfl (fun h => ?_) (fun h => ?_))
    · exact ev_ret rfl rfl ⟨rfl, f, rfl⟩
    · have hk' : k < 73 := rn_ge_f (k := 73) (by omega) (by omega) h
      refine ev_ps 2 rfl (ev_call (av := [_, _]) rfl rfl rfl rfl ⟨Nat.le_of_ble_eq_true rfl, rfl⟩ ⟨Nat.le_of_ble_eq_true rfl, Nat.le_of_ble_eq_true rfl⟩ (c_findMore_14 (a := rz_ua a 6 f) hv hn) ?_)
      rintro _ _ ⟨⟨u, hu, rfl⟩, f2, rfl⟩
      have h9 := ih (k + 1, u, f2) (by show k + 1 ≤ 73; omega) (by show 73 - (k + 1) < 73 - k; omega)
      dsimp only at h9
      rw [← rz_succ k] at h9
      exact ev_w (w2 := rz_w v (rz_ua a 6 f2) g) rfl (ev_ps 3 rfl h9)
theorem c_agree_8 {n1 n2 : Nat} (x : Int32) (h1 : v 6 = Int32.ofNat n1) (hn1 : n1 ≤ 3) (h2 : v 7 = Int32.ofNat n2) (hn2 : n2 ≤ 3) : rz_C xs xl 35 [.ref 8, .ref 9, .ref 11, .int x] (rz_w v a g) (fun q w' => (∃ u, (u = 0 ∨ u = 1) ∧ q = .inl (some (.int u))) ∧ ∃ d, w' = rz_w (rz_up v 5 d) a g) := by
  refine ev_ps 2 rfl ?_
  refine ev_loop (α := Nat × Option Value × Option Value × Option Value) (fun q => 4096 - q.1) (fun q => q.1 ≤ 4096) (fun q => [some (.ref 8), some (.ref 9), some (.ref 11), some (.int x), some (.int (Int32.ofNat q.1)), q.2.1, q.2.2.1, q.2.2.2]) (fun _ => []) (fun _ => rz_w v a g) ?_ (0, none, none, none) (Nat.zero_le _)
  rintro ⟨k, t5, t6, t7⟩ hk ih
  dsimp only at hk ih ⊢
  refine ev_ps 2 rfl (ev_ic (cd := .ge) rfl (fun h => ?_) (fun h => ?_))
  · exact ev_ps 1 rfl (ev_ret rfl rfl ⟨⟨1, Or.inr rfl, rfl⟩, v 5, rfl⟩)
  · have hk' : k < 4096 := rn_ge_f (k := 4096) (by omega) (by omega) h
    refine ev_ps 15 rfl ?_
    refine ev_ps 0 rfl (ev_call (av := [_, _]) rfl rfl rfl rfl ⟨Nat.le_of_ble_eq_true rfl, rfl⟩ ⟨Nat.le_of_ble_eq_true rfl, Nat.le_of_ble_eq_true rfl⟩ (c_rowRegs_9 _ h1 hn1) ?_)
    rintro _ _ ⟨⟨u1, rfl⟩, rfl⟩
    refine ev_ps 2 rfl (ev_call (av := [_, _]) rfl rfl rfl rfl ⟨Nat.le_of_ble_eq_true rfl, rfl⟩ ⟨Nat.le_of_ble_eq_true rfl, Nat.le_of_ble_eq_true rfl⟩ (c_rowRegs_11 _ h2 hn2) ?_)
    rintro _ _ ⟨⟨u2, rfl⟩, rfl⟩
    refine ev_ps 5 rfl (ev_if (cd := .eq) rfl (fun h => ?_) (fun h => ?_))
    · have h9 := fun t5 t6 t7 => ih (k + 1, t5, t6, t7) (by show k + 1 ≤ 4096; omega) (by show 4096 - (k + 1) < 4096 - k; omega)
      dsimp only at h9
      rw [← rz_succ k] at h9
      exact ev_ps 2 rfl (h9 _ _ _)
    · exact ev_ps 4 rfl (ev_ret rfl rfl ⟨⟨0, Or.inl rfl, rfl⟩, _, rfl⟩)
theorem c_agree_16 {n1 n2 : Nat} (x : Int32) (h1 : v 11 = Int32.ofNat n1) (hn1 : n1 ≤ 3) (h2 : v 12 = Int32.ofNat n2) (hn2 : n2 ≤ 3) : rz_C xs xl 35 [.ref 16, .ref 21, .ref 23, .int x] (rz_w v a g) (fun q w' => (∃ u, (u = 0 ∨ u = 1) ∧ q = .inl (some (.int u))) ∧ ∃ d, w' = rz_w (rz_up v 8 d) a g) := by
  refine ev_ps 2 rfl ?_
  refine ev_loop (α := Nat × Option Value × Option Value × Option Value) (fun q => 4096 - q.1) (fun q => q.1 ≤ 4096) (fun q => [some (.ref 16), some (.ref 21), some (.ref 23), some (.int x), some (.int (Int32.ofNat q.1)), q.2.1, q.2.2.1, q.2.2.2]) (fun _ => []) (fun _ => rz_w v a g) ?_ (0, none, none, none) (Nat.zero_le _)
  rintro ⟨k, t5, t6, t7⟩ hk ih
  dsimp only at hk ih ⊢
  refine ev_ps 2 rfl (ev_ic (cd := .ge) rfl (fun h => ?_) (fun h => ?_))
  · exact ev_ps 1 rfl (ev_ret rfl rfl ⟨⟨1, Or.inr rfl, rfl⟩, v 8, rfl⟩)
  · have hk' : k < 4096 := rn_ge_f (k := 4096) (by omega) (by omega) h
    refine ev_ps 15 rfl ?_
    refine ev_ps 0 rfl (ev_call (av := [_, _]) rfl rfl rfl rfl ⟨Nat.le_of_ble_eq_true rfl, rfl⟩ ⟨Nat.le_of_ble_eq_true rfl, Nat.le_of_ble_eq_true rfl⟩ (c_rowRegs_21 _ h1 hn1) ?_)
    rintro _ _ ⟨⟨u1, rfl⟩, rfl⟩
    refine ev_ps 2 rfl (ev_call (av := [_, _]) rfl rfl rfl rfl ⟨Nat.le_of_ble_eq_true rfl, rfl⟩ ⟨Nat.le_of_ble_eq_true rfl, Nat.le_of_ble_eq_true rfl⟩ (c_rowRegs_23 _ h2 hn2) ?_)
    rintro _ _ ⟨⟨u2, rfl⟩, rfl⟩
    refine ev_ps 5 rfl (ev_if (cd := .eq) rfl (fun h => ?_) (fun h => ?_))
    · have h9 := fun t5 t6 t7 => ih (k + 1, t5, t6, t7) (by show k + 1 ≤ 4096; omega) (by show 4096 - (k + 1) < 4096 - k; omega)
      dsimp only at h9
      rw [← rz_succ k] at h9
      exact ev_ps 2 rfl (h9 _ _ _)
    · exact ev_ps 4 rfl (ev_ret rfl rfl ⟨⟨0, Or.inl rfl, rfl⟩, _, rfl⟩)
end RZP3
end
section
/-! the machine (place 3), the provers' one caller -/
section RZP4
variable {xs : Nat → Int32} {xl : Nat} {v : Nat → Int32} {a : Nat → Nat → Int32} {g : Nat → Int64}
theorem rz_remIdx (c d : Int32) : ¬ ((c &&& 15) + (d &&& 31) - ((c &&& 15) + (d &&& 31)) / 8 * 8 < 0 ∨ 8 ≤ ((c &&& 15) + (d &&& 31) - ((c &&& 15) + (d &&& 31)) / 8 * 8).toNatClampNeg) := by
  obtain ⟨i, hi, e1⟩ := rz_mask c 15 (by decide)
  obtain ⟨j, hj, e2⟩ := rz_mask d 31 (by decide)
  have e1' : c &&& 15 = Int32.ofNat i := e1
  have e2' : d &&& 31 = Int32.ofNat j := e2
  rw [e1', e2', rz_add]
  have key : ∀ s, s < 47 → ¬ (Int32.ofNat s - Int32.ofNat s / 8 * 8 < 0 ∨ 8 ≤ (Int32.ofNat s - Int32.ofNat s / 8 * 8).toNatClampNeg) := by decide +kernel
  exact key (i + j) (by omega)
theorem rz_sub4 {x : Int32} (h1 : ¬ x < 4) (h2 : x < 12) : ∃ k, k < 8 ∧ x - 4 = Int32.ofNat k := by
  obtain ⟨k, hk, rfl⟩ := rz_idx (n := 12) (by decide) (fun h => h1 (Int32.lt_trans h (by decide))) h2
  have hk4 : 4 ≤ k := Nat.not_lt.mp fun q => h1 ((rz_lt_iff (k := 4) (by omega) (by omega)).mpr q)
  exact ⟨k - 4, by omega, rz_sub (n := 4) hk4⟩
theorem c_jumps (x : Int32) : rz_C xs xl 64 [.ref 3, .int x] (rz_w v a g) (fun q w' => (∃ u, (u = 0 ∨ u = 1) ∧ q = .inl (some (.int u))) ∧ w' = rz_w v a g) := by
  refine ev_ps 3 rfl (ev_call (av := [_]) rfl rfl rfl rfl ⟨Nat.le_of_ble_eq_true rfl, rfl⟩ ⟨Nat.le_of_ble_eq_true rfl, Nat.le_of_ble_eq_true rfl⟩ (c_d _) ?_)
  rintro _ _ ⟨rfl, rfl⟩
  refine ev_call (av := [_, _]) rfl rfl rfl rfl ⟨Nat.le_of_ble_eq_true rfl, rfl⟩ ⟨Nat.le_of_ble_eq_true rfl, Nat.le_of_ble_eq_true rfl⟩ (c_value _ _) ?_
  rintro _ _ ⟨rfl, rfl⟩
  refine ev_ps 4 rfl (ev_call (av := [_]) rfl rfl rfl rfl ⟨Nat.le_of_ble_eq_true rfl, rfl⟩ ⟨Nat.le_of_ble_eq_true rfl, Nat.le_of_ble_eq_true rfl⟩ (c_s _) ?_)
  rintro _ _ ⟨rfl, rfl⟩
  refine ev_call (av := [_, _]) rfl rfl rfl rfl ⟨Nat.le_of_ble_eq_true rfl, rfl⟩ ⟨Nat.le_of_ble_eq_true rfl, Nat.le_of_ble_eq_true rfl⟩ (c_value _ _) ?_
  rintro _ _ ⟨rfl, rfl⟩
  refine ev_ps 2 rfl (ev_call (av := [_]) rfl rfl rfl rfl ⟨Nat.le_of_ble_eq_true rfl, rfl⟩ ⟨Nat.le_of_ble_eq_true rfl, Nat.le_of_ble_eq_true rfl⟩ (c_operation _) ?_)
  rintro _ _ ⟨rfl, rfl⟩
  refine ev_tsw rfl (fun t ht => ?_)
  rcases rz_mem4 ht with rfl | rfl | rfl | rfl
  · exact ev_ps 1 rfl (ev_ret rfl rfl ⟨⟨_, by decide, rfl⟩, rfl⟩)
  · refine ev_ps 2 rfl (ev_ic (cd := .ne) rfl (fun h1 => ?_) (fun h1 => ?_))
    · exact ev_ps 1 rfl (ev_ret rfl rfl ⟨⟨_, by decide, rfl⟩, rfl⟩)
    · exact ev_ps 2 rfl (ev_ret rfl rfl ⟨⟨_, by decide, rfl⟩, rfl⟩)
  · refine ev_ps 2 rfl (ev_ic (cd := .eq) rfl (fun h2 => ?_) (fun h2 => ?_))
    · exact ev_ps 1 rfl (ev_ret rfl rfl ⟨⟨_, by decide, rfl⟩, rfl⟩)
    · exact ev_ps 2 rfl (ev_ret rfl rfl ⟨⟨_, by decide, rfl⟩, rfl⟩)
  · exact ev_ps 1 rfl (ev_ret rfl rfl ⟨⟨_, by decide, rfl⟩, rfl⟩)
theorem c_outcome (x : Int32) : rz_C xs xl 6 [.ref 3, .int x] (rz_w v a g) (fun q w' => (∃ u, q = .inl (some (.int u))) ∧ w' = rz_w v a g) := by
  have tail : rz_E xs xl 6 38 [some (.ref 3), some (.int x)] [] (rz_w v a g) 0 0 (fun q w' => (∃ u, q = .inl (some (.int u))) ∧ w' = rz_w v a g) := by
    refine ev_ps 1 rfl (ev_lsw rfl (fun t ht => ?_))
    rcases rz_mem3 ht with rfl | rfl | rfl
    · exact ev_ps 1 rfl (ev_ret rfl rfl ⟨⟨_, rfl⟩, rfl⟩)
    · refine ev_ps 2 rfl (ev_if (cd := .eq) rfl (fun h1 => ?_) (fun h1 => ?_))
      · exact ev_ps 1 rfl (ev_ret rfl rfl ⟨⟨_, rfl⟩, rfl⟩)
      · exact ev_ps 2 rfl (ev_ret rfl rfl ⟨⟨_, rfl⟩, rfl⟩)
    · exact ev_ps 2 rfl (ev_ret rfl rfl ⟨⟨_, rfl⟩, rfl⟩)
  have mid : rz_E xs xl 6 18 [some (.ref 3), some (.int x)] [] (rz_w v a g) 0 0 (fun q w' => (∃ u, q = .inl (some (.int u))) ∧ w' = rz_w v a g) := by
    refine ev_ps 2 rfl (ev_ic (cd := .lt) rfl (fun h1 => tail) (fun h1 => ?_))
    refine ev_ps 2 rfl (ev_ic (cd := .ge) rfl (fun h2 => tail) (fun h2 => ?_))
    obtain ⟨k, hk, e⟩ := rz_sub4 (rc_lt_f h1) (Int32.not_le.mp (rc_ge_f h2))
    refine ev_ps 5 rfl (ev_ald rfl rfl (by rw [show x - Int32.ofInt 4 = Int32.ofNat k from e]; exact rz_in hk (by decide)) ?_)
    exact ev_ret rfl rfl ⟨⟨_, rfl⟩, rfl⟩
  refine ev_ps 1 rfl (ev_if (cd := .lt) rfl (fun h1 => mid) (fun h1 => ?_))
  refine ev_ps 2 rfl (ev_ic (cd := .ge) rfl (fun h1 => mid) (fun h1 => ?_))
  refine ev_ps 3 rfl (ev_call (av := [_, _]) rfl rfl rfl rfl ⟨Nat.le_of_ble_eq_true rfl, rfl⟩ ⟨Nat.le_of_ble_eq_true rfl, Nat.le_of_ble_eq_true rfl⟩ (c_value _ _) ?_)
  rintro _ _ ⟨rfl, rfl⟩
  exact ev_ret rfl rfl ⟨⟨_, rfl⟩, rfl⟩
theorem c_setStart {k : Nat} (y : Int32) (hk : k < 12) : rz_C xs xl 60 [.ref 3, .int (Int32.ofNat k), .int y] (rz_w v a g) (fun q w' => q = .inl none ∧ ∃ r f, w' = rz_w (rz_up v 1 r) (rz_ua a 1 f) g) := by
  refine ev_ps 2 rfl (ev_ic (cd := .ge) rfl (fun h1 => ?_) (fun h1 => ?_))
  · have h4 : 4 ≤ k := rn_ge_t (k := 4) (by omega) (by omega) h1
    refine ev_ps 6 rfl (ev_ast rfl rfl (by rw [show Int32.ofNat k - Int32.ofInt 4 = Int32.ofNat (k - 4) from rz_sub (n := 4) h4]; exact rz_in (by omega) (by decide)) ?_)
    exact ev_ret rfl rfl ⟨rfl, v 1, _, rfl⟩
  · refine ev_ps 5 rfl (ev_call (av := [_, _, _]) rfl rfl rfl rfl ⟨Nat.le_of_ble_eq_true rfl, rfl⟩ ⟨Nat.le_of_ble_eq_true rfl, Nat.le_of_ble_eq_true rfl⟩ (c_with _ _ _) ?_)
    rintro _ _ ⟨⟨u, rfl⟩, rfl⟩
    exact ev_ps 2 rfl (ev_ret rfl rfl ⟨rfl, u, a 1, rfl⟩)
theorem c_step (x : Int32) : rz_C xs xl 63 [.ref 3, .int x] (rz_w v a g) (fun q w' => q = .inl none ∧ ∃ r p f, w' = rz_w (rz_up (rz_up v 2 r) 3 p) (rz_ua a 2 f) g) := by
  have main : ∀ y : Int32, rz_E xs xl 63 22 [some (.ref 3), some (.int x), none] [.int y, .ref 3] (rz_w v a g) 0 0 (fun q w' => q = .inl none ∧ ∃ r p f, w' = rz_w (rz_up (rz_up v 2 r) 3 p) (rz_ua a 2 f) g) := by
    intro y
    refine ev_ps 1 rfl (ev_w (w2 := rz_w (rz_up v 3 y) a g) rfl ?_)
    refine ev_ps 3 rfl (ev_call (av := [_]) rfl rfl rfl rfl ⟨Nat.le_of_ble_eq_true rfl, rfl⟩ ⟨Nat.le_of_ble_eq_true rfl, Nat.le_of_ble_eq_true rfl⟩ (c_s _) ?_)
    rintro _ _ ⟨rfl, rfl⟩
    refine ev_call (av := [_, _]) rfl rfl rfl rfl ⟨Nat.le_of_ble_eq_true rfl, rfl⟩ ⟨Nat.le_of_ble_eq_true rfl, Nat.le_of_ble_eq_true rfl⟩ (c_value _ _) ?_
    rintro _ _ ⟨rfl, rfl⟩
    refine ev_ps 1 rfl (ev_call (av := [_]) rfl rfl rfl rfl ⟨Nat.le_of_ble_eq_true rfl, rfl⟩ ⟨Nat.le_of_ble_eq_true rfl, Nat.le_of_ble_eq_true rfl⟩ (c_t _) ?_)
    rintro _ _ ⟨rfl, rfl⟩
    refine ev_ps 5 rfl (ev_call (av := [_]) rfl rfl rfl rfl ⟨Nat.le_of_ble_eq_true rfl, rfl⟩ ⟨Nat.le_of_ble_eq_true rfl, Nat.le_of_ble_eq_true rfl⟩ (c_operation _) ?_)
    rintro _ _ ⟨rfl, rfl⟩
    refine ev_ps 1 rfl (ev_ic (cd := .ne) rfl (fun h1 => ?_) (fun h1 => ?_))
    · refine ev_ps 1 rfl (ev_call (av := [_]) rfl rfl rfl rfl ⟨Nat.le_of_ble_eq_true rfl, rfl⟩ ⟨Nat.le_of_ble_eq_true rfl, Nat.le_of_ble_eq_true rfl⟩ (c_operation _) ?_)
      rintro _ _ ⟨rfl, rfl⟩
      refine ev_ps 1 rfl (ev_ic (cd := .ne) rfl (fun h1 => ?_) (fun h1 => ?_))
      · refine ev_ps 4 rfl (ev_call (av := [_, _]) rfl rfl rfl rfl ⟨Nat.le_of_ble_eq_true rfl, rfl⟩ ⟨Nat.le_of_ble_eq_true rfl, Nat.le_of_ble_eq_true rfl⟩ (c_regsAfter _ _) ?_)
        rintro _ _ ⟨⟨u, rfl⟩, rfl⟩
        exact ev_ps 1 rfl (ev_ret rfl rfl ⟨rfl, u, y, a 2, rfl⟩)
      · refine ev_ps 6 rfl (ev_call (av := [_]) rfl rfl rfl rfl ⟨Nat.le_of_ble_eq_true rfl, rfl⟩ ⟨Nat.le_of_ble_eq_true rfl, Nat.le_of_ble_eq_true rfl⟩ (c_d _) ?_)
        rintro _ _ ⟨rfl, rfl⟩
        refine ev_call (av := [_, _]) rfl rfl rfl rfl ⟨Nat.le_of_ble_eq_true rfl, rfl⟩ ⟨Nat.le_of_ble_eq_true rfl, Nat.le_of_ble_eq_true rfl⟩ (c_value _ _) ?_
        rintro _ _ ⟨rfl, rfl⟩
        refine ev_ast rfl rfl (rz_remIdx _ _) ?_
        exact ev_ps 1 rfl (ev_ret rfl rfl ⟨rfl, v 2, y, _, rfl⟩)
    · refine ev_ps 4 rfl (ev_call (av := [_]) rfl rfl rfl rfl ⟨Nat.le_of_ble_eq_true rfl, rfl⟩ ⟨Nat.le_of_ble_eq_true rfl, Nat.le_of_ble_eq_true rfl⟩ (c_d _) ?_)
      rintro _ _ ⟨rfl, rfl⟩
      refine ev_ps 3 rfl (ev_ald rfl rfl (rz_remIdx _ _) ?_)
      refine ev_call (av := [_, _, _]) rfl rfl rfl rfl ⟨Nat.le_of_ble_eq_true rfl, rfl⟩ ⟨Nat.le_of_ble_eq_true rfl, Nat.le_of_ble_eq_true rfl⟩ (c_with _ _ _) ?_
      rintro _ _ ⟨⟨u, rfl⟩, rfl⟩
      exact ev_ps 2 rfl (ev_ret rfl rfl ⟨rfl, u, y, a 2, rfl⟩)
  refine ev_ps 3 rfl (ev_call (av := [_, _]) rfl rfl rfl rfl ⟨Nat.le_of_ble_eq_true rfl, rfl⟩ ⟨Nat.le_of_ble_eq_true rfl, Nat.le_of_ble_eq_true rfl⟩ (c_jumps _) ?_)
  rintro _ _ ⟨⟨u, hu, rfl⟩, rfl⟩
  refine ev_if (cd := .eq) rfl (fun h1 => ?_) (fun h1 => ?_)
  · exact ev_ps 4 rfl (main _)
  · refine ev_ps 1 rfl (ev_call (av := [_]) rfl rfl rfl rfl ⟨Nat.le_of_ble_eq_true rfl, rfl⟩ ⟨Nat.le_of_ble_eq_true rfl, Nat.le_of_ble_eq_true rfl⟩ (c_t _) ?_)
    rintro _ _ ⟨rfl, rfl⟩
    exact ev_ps 1 rfl (main _)
theorem ev_cpy {M pc len x y z : Nat} {ins : Instr} {L : rz_L} {w : rz_W} {kc ks s d : Nat} {f h : Nat → Int32} {post : rz_R → rz_W → Prop} (hc : rz_code M pc = some (5, ins, len, x, y, z)) (h0 : w[s]? = some (.inl (0, 8, .inl f))) (h1 : w[d]? = some (.inl (0, 8, .inl h))) (hsd : s ≠ d)
    (k : rz_E xs xl M (pc + len) L [] (w.set d (.inl (0, 8, .inl (va_cpy f h 0 0 8)))) kc ks post) : rz_E xs xl M pc L [.int 8, .int 0, .ref d, .int 0, .ref s] w kc ks post := by
  obtain ⟨n, r, w1, e1, e2⟩ := k
  refine ⟨n + 1, r, w1, ?_, e2⟩
  rw [rz_run, hc]
  dsimp only
  rw [h0, h1]
  exact (if_pos ⟨rfl, rfl, hsd, rfl, rfl, rfl, rfl, rfl, rfl⟩).trans e1
theorem c_perform {n l : Nat} (hv : v 0 = Int32.ofNat n) (hn : n ≤ 24) (hl : l ≤ 500) : rz_C xs xl 62 [.ref 3, .ref 1, .int (Int32.ofNat l)] (rz_w v a g) (fun q w' => (∃ u, q = .inl (some (.int u))) ∧ ∃ r p e f, (e = 0 ∨ e = 1) ∧ w' = rz_w (rz_up (rz_up (rz_up v 2 r) 3 p) 4 e) (rz_ua a 2 f) g) := by
  have loop : ∀ (r p e : Int32) (f : Nat → Int32), (e = 0 ∨ e = 1) → (e = 0 → ¬ p < 0 ∧ p < v 0) → rz_E xs xl 62 50 [some (.ref 3), some (.ref 1), some (.int (Int32.ofNat l)), some (.int (Int32.ofNat 0)), none] [] (rz_w (rz_up (rz_up (rz_up v 2 r) 3 p) 4 e) (rz_ua a 2 f) g) 0 0 (fun q w' => (∃ u, q = .inl (some (.int u))) ∧ ∃ r p e f, (e = 0 ∨ e = 1) ∧ w' = rz_w (rz_up (rz_up (rz_up v 2 r) 3 p) 4 e) (rz_ua a 2 f) g) := by
    intro r p e f he hp
    refine ev_loop (α := Nat × Option Value × Int32 × Int32 × Int32 × (Nat → Int32)) (fun q => l - q.1) (fun q => q.1 ≤ l ∧ (q.2.2.2.2.1 = 0 ∨ q.2.2.2.2.1 = 1) ∧ (q.2.2.2.2.1 = 0 → ¬ q.2.2.2.1 < 0 ∧ q.2.2.2.1 < v 0)) (fun q => [some (.ref 3), some (.ref 1), some (.int (Int32.ofNat l)), some (.int (Int32.ofNat q.1)), q.2.1]) (fun _ => []) (fun q => rz_w (rz_up (rz_up (rz_up v 2 q.2.2.1) 3 q.2.2.2.1) 4 q.2.2.2.2.1) (rz_ua a 2 q.2.2.2.2.2) g) ?_ (0, none, r, p, e, f) ⟨Nat.zero_le _, he, hp⟩
    rintro ⟨k, t, r, p, e, f⟩ ⟨hk, he, hp⟩ ih
    dsimp only at hk he hp ih ⊢
    refine ev_ps 2 rfl (ev_ic (cd := .ge) rfl (fun h => ?_) (fun h => ?_))
    · exact ev_ps 1 rfl (ev_ret rfl rfl ⟨⟨_, rfl⟩, r, p, e, f, he, rfl⟩)
    · have hk' : k < l := rn_ge_f (by omega) (by omega) h
      refine ev_ps 2 rfl (ev_if (cd := .ne) rfl (fun h1 => ?_) (fun h1 => ?_))
      · exact ev_ps 1 rfl (ev_ret rfl rfl ⟨⟨_, rfl⟩, r, p, e, f, he, rfl⟩)
      · have he0 : e = 0 := rc_ne_f h1
        obtain ⟨hp0, hp1⟩ := hp he0
        rw [hv] at hp1
        obtain ⟨j, hj, rfl⟩ := rz_idx (by omega) hp0 hp1
        refine ev_ps 3 rfl (ev_call (av := [_, _]) rfl rfl rfl rfl ⟨Nat.le_of_ble_eq_true rfl, rfl⟩ ⟨Nat.le_of_ble_eq_true rfl, Nat.le_of_ble_eq_true rfl⟩ (c_codeAt (by omega)) ?_)
        rintro _ _ ⟨⟨c, rfl⟩, rfl⟩
        refine ev_ps 3 rfl (ev_call (av := [_, _]) rfl rfl rfl rfl ⟨Nat.le_of_ble_eq_true rfl, rfl⟩ ⟨Nat.le_of_ble_eq_true rfl, Nat.le_of_ble_eq_true rfl⟩ (c_step _) ?_)
        rintro _ _ ⟨rfl, r2, p2, f2, rfl⟩
        refine ev_w (w2 := rz_w (rz_up (rz_up (rz_up v 2 r2) 3 p2) 4 e) (rz_ua a 2 f2) g) rfl ?_
        have next : ∀ (e2 : Int32), (e2 = 0 ∨ e2 = 1) → (e2 = 0 → ¬ p2 < 0 ∧ p2 < v 0) → rz_E xs xl 62 105 [some (.ref 3), some (.ref 1), some (.int (Int32.ofNat l)), some (.int (Int32.ofNat k)), some (.int c)] [.int e2, .ref 3] (rz_w (rz_up (rz_up (rz_up v 2 r2) 3 p2) 4 e) (rz_ua a 2 f2) g) 0 0 (fun q w' => (∃ u, q = .inl (some (.int u))) ∧ ∃ r p e f, (e = 0 ∨ e = 1) ∧ w' = rz_w (rz_up (rz_up (rz_up v 2 r) 3 p) 4 e) (rz_ua a 2 f) g) := by
          intro e2 he2 hp2
          have h9 := ih (k + 1, some (.int c), r2, p2, e2, f2) ⟨by show k + 1 ≤ l; omega, he2, hp2⟩ (by show l - (k + 1) < l - k; omega)
          dsimp only at h9
          rw [← rz_succ k] at h9
          refine ev_put rfl rfl (Nat.le_of_ble_eq_true rfl) (by show decide (e2 = 0 ∨ e2 = 1) = true; exact decide_eq_true he2) ?_
          exact ev_w (w2 := rz_w (rz_up (rz_up (rz_up v 2 r2) 3 p2) 4 e2) (rz_ua a 2 f2) g) rfl (ev_ps 2 rfl h9)
        refine ev_ps 2 rfl (ev_call (av := [_]) rfl rfl rfl rfl ⟨Nat.le_of_ble_eq_true rfl, rfl⟩ ⟨Nat.le_of_ble_eq_true rfl, Nat.le_of_ble_eq_true rfl⟩ (c_operation _) ?_)
        rintro _ _ ⟨rfl, rfl⟩
        refine ev_ps 1 rfl (ev_ic (cd := .eq) rfl (fun h2 => ?_) (fun h2 => ?_))
        · exact ev_ps 2 rfl (next 1 (Or.inr rfl) (fun h => absurd h (by decide)))
        · refine ev_ps 3 rfl (ev_call (av := [_, _]) rfl rfl rfl rfl ⟨Nat.le_of_ble_eq_true rfl, rfl⟩ ⟨Nat.le_of_ble_eq_true rfl, Nat.le_of_ble_eq_true rfl⟩ (c_has _) ?_)
          rintro _ _ ⟨⟨u, hu, hP, rfl⟩, rfl⟩
          refine ev_if (cd := .ne) rfl (fun h3 => ?_) (fun h3 => ?_)
          · exact ev_ps 1 rfl (next 0 (Or.inl rfl) (fun _ => hP (hu.resolve_left (rc_ne_t h3))))
          · exact ev_ps 2 rfl (next 1 (Or.inr rfl) (fun h => absurd h (by decide)))
  refine ev_ps 4 rfl (ev_w (w2 := rz_w (rz_up v 2 (v 1)) a g) rfl ?_)
  refine ev_ps 7 rfl (ev_cpy rfl rfl rfl (by decide) ?_)
  refine ev_w (w2 := rz_w (rz_up v 2 (v 1)) (rz_ua a 2 (va_cpy (a 1) (a 2) 0 0 8)) g) rfl ?_
  refine ev_ps 3 rfl (ev_w (w2 := rz_w (rz_up (rz_up (rz_up v 2 (v 1)) 3 0) 4 (v 4)) (rz_ua a 2 (va_cpy (a 1) (a 2) 0 0 8)) g) rfl ?_)
  have fin : ∀ e2 : Int32, (e2 = 0 ∨ e2 = 1) → (e2 = 0 → ¬ (0 : Int32) < 0 ∧ (0 : Int32) < v 0) → rz_E xs xl 62 45 [some (.ref 3), some (.ref 1), some (.int (Int32.ofNat l)), none, none] [.int e2, .ref 3] (rz_w (rz_up (rz_up (rz_up v 2 (v 1)) 3 0) 4 (v 4)) (rz_ua a 2 (va_cpy (a 1) (a 2) 0 0 8)) g) 0 0 (fun q w' => (∃ u, q = .inl (some (.int u))) ∧ ∃ r p e f, (e = 0 ∨ e = 1) ∧ w' = rz_w (rz_up (rz_up (rz_up v 2 r) 3 p) 4 e) (rz_ua a 2 f) g) := by
    intro e2 he2 hp2
    refine ev_put rfl rfl (Nat.le_of_ble_eq_true rfl) (by show decide (e2 = 0 ∨ e2 = 1) = true; exact decide_eq_true he2) ?_
    exact ev_w (w2 := rz_w (rz_up (rz_up (rz_up v 2 (v 1)) 3 0) 4 e2) (rz_ua a 2 (va_cpy (a 1) (a 2) 0 0 8)) g) rfl (ev_ps 2 rfl (loop _ 0 e2 _ he2 hp2))
  refine ev_ps 4 rfl (ev_call (av := [_, _]) rfl rfl rfl rfl ⟨Nat.le_of_ble_eq_true rfl, rfl⟩ ⟨Nat.le_of_ble_eq_true rfl, Nat.le_of_ble_eq_true rfl⟩ (c_has _) ?_)
  rintro _ _ ⟨⟨u, hu, hP, rfl⟩, rfl⟩
  refine ev_if (cd := .ne) rfl (fun h3 => ?_) (fun h3 => ?_)
  · exact ev_ps 1 rfl (fin 0 (Or.inl rfl) (fun _ => hP (hu.resolve_left (rc_ne_t h3))))
  · exact ev_ps 2 rfl (fin 1 (Or.inr rfl) (fun h => absurd h (by decide)))
/-- n is a row's length, and the row lies in the array, or is empty -/
def rz_okr (x n : Int32) : Prop := ∃ k : Nat, k ≤ 3 ∧ n = Int32.ofNat k ∧ (k = 0 ∨ ∃ p : Nat, x = Int32.ofNat p ∧ p + k ≤ 24)
theorem c_takeFromX_9 {x n : Int32} (h : rz_okr x n) : rz_C xs xl 30 [.ref 9, .ref 1, .int x, .int n] (rz_w v a g) (fun q w' => q = .inl none ∧ ∃ k f, k ≤ 3 ∧ w' = rz_w (rz_up v 6 (Int32.ofNat k)) (rz_ua a 4 f) g) := by
  obtain ⟨k, hk, rfl, h⟩ := h
  rcases h with rfl | ⟨p, rfl, hp⟩
  · exact ev_mono (fun q w' ⟨h1, f, h2⟩ => ⟨h1, 0, f, by omega, h2⟩) (c_takeFrom0_9 x)
  · exact ev_mono (fun q w' ⟨h1, f, h2⟩ => ⟨h1, k, f, hk, h2⟩) (c_takeFrom_9 hk hp)
theorem c_takeFromX_11 {x n : Int32} (h : rz_okr x n) : rz_C xs xl 30 [.ref 11, .ref 1, .int x, .int n] (rz_w v a g) (fun q w' => q = .inl none ∧ ∃ k f, k ≤ 3 ∧ w' = rz_w (rz_up v 7 (Int32.ofNat k)) (rz_ua a 5 f) g) := by
  obtain ⟨k, hk, rfl, h⟩ := h
  rcases h with rfl | ⟨p, rfl, hp⟩
  · exact ev_mono (fun q w' ⟨h1, f, h2⟩ => ⟨h1, 0, f, by omega, h2⟩) (c_takeFrom0_11 x)
  · exact ev_mono (fun q w' ⟨h1, f, h2⟩ => ⟨h1, k, f, hk, h2⟩) (c_takeFrom_11 hk hp)
theorem c_agreeInProgram {x n y m : Int32} (z : Int32) (h1 : rz_okr x n) (h2 : rz_okr y m) : rz_C xs xl 69 [.ref 8, .ref 1, .int x, .int n, .int y, .int m, .int z] (rz_w v a g) (fun q w' => (∃ u, (u = 0 ∨ u = 1) ∧ q = .inl (some (.int u))) ∧ ∃ k1 k2 d f1 f2, k1 ≤ 3 ∧ k2 ≤ 3 ∧ w' = rz_w (rz_up (rz_up (rz_up v 6 (Int32.ofNat k1)) 7 (Int32.ofNat k2)) 5 d) (rz_ua (rz_ua a 4 f1) 5 f2) g) := by
  refine ev_ps 5 rfl (ev_call (av := [_, _, _, _]) rfl rfl rfl rfl ⟨Nat.le_of_ble_eq_true rfl, rfl⟩ ⟨Nat.le_of_ble_eq_true rfl, Nat.le_of_ble_eq_true rfl⟩ (c_takeFromX_9 h1) ?_)
  rintro _ _ ⟨rfl, k1, f1, hk1, rfl⟩
  refine ev_ps 5 rfl (ev_call (av := [_, _, _, _]) rfl rfl rfl rfl ⟨Nat.le_of_ble_eq_true rfl, rfl⟩ ⟨Nat.le_of_ble_eq_true rfl, Nat.le_of_ble_eq_true rfl⟩ (c_takeFromX_11 h2) ?_)
  rintro _ _ ⟨rfl, k2, f2, hk2, rfl⟩
  refine ev_ps 6 rfl (ev_call (av := [_]) rfl rfl rfl rfl ⟨Nat.le_of_ble_eq_true rfl, rfl⟩ ⟨Nat.le_of_ble_eq_true rfl, Nat.le_of_ble_eq_true rfl⟩ (c_maskOf _) ?_)
  rintro _ _ ⟨⟨u, rfl⟩, rfl⟩
  refine ev_call (av := [_, _, _, _]) rfl rfl rfl rfl ⟨Nat.le_of_ble_eq_true rfl, rfl⟩ ⟨Nat.le_of_ble_eq_true rfl, Nat.le_of_ble_eq_true rfl⟩ (c_agree_8 _ (n1 := k1) (n2 := k2) rfl hk1 rfl hk2) ?_
  rintro _ _ ⟨⟨u, hu, rfl⟩, d, rfl⟩
  exact ev_ret rfl (show (if u = 0 ∨ u = 1 then some (some (Value.int u)) else none) = _ from if_pos hu) ⟨⟨u, hu, rfl⟩, k1, k2, d, f1, f2, hk1, hk2, rfl⟩
end RZP4
end
section
/-! the improver (place 13) -/
section RZP5
variable {xs : Nat → Int32} {xl : Nat} {v : Nat → Int32} {a : Nat → Nat → Int32} {g : Nat → Int64}
theorem c_counted (x : Int32) : rz_C xs xl 49 [.ref 13, .int x] (rz_w v a g) (fun q w' => (∃ u, q = .inl (some (.int u))) ∧ w' = rz_w v a g) := by
  refine ev_ps 1 rfl (ev_tsw rfl (fun t ht => ?_))
  rcases rz_mem4 ht with rfl | rfl | rfl | rfl
  · exact ev_ps 1 rfl (ev_ret rfl rfl ⟨⟨_, rfl⟩, rfl⟩)
  · exact ev_ps 2 rfl (ev_ret rfl rfl ⟨⟨_, rfl⟩, rfl⟩)
  · exact ev_ps 2 rfl (ev_ret rfl rfl ⟨⟨_, rfl⟩, rfl⟩)
  · exact ev_ps 2 rfl (ev_ret rfl rfl ⟨⟨_, rfl⟩, rfl⟩)
theorem c_nothingDoes {n : Nat} (x : Int32) (hv : v 11 = Int32.ofNat n) (hn : n ≤ 3) : rz_C xs xl 33 [.ref 13, .int x] (rz_w v a g) (fun q w' => (∃ u, (u = 0 ∨ u = 1) ∧ q = .inl (some (.int u))) ∧ ∃ d y c f, w' = rz_w (rz_up (rz_up (rz_up v 12 c) 15 y) 8 d) (rz_ua a 10 f) g) := by
  refine ev_ps 2 rfl (ev_call (av := [_]) rfl rfl rfl rfl ⟨Nat.le_of_ble_eq_true rfl, rfl⟩ ⟨Nat.le_of_ble_eq_true rfl, Nat.le_of_ble_eq_true rfl⟩ (c_takeNothing_23) ?_)
  rintro _ _ ⟨rfl, rfl⟩
  refine ev_ps 6 rfl (ev_w (w2 := rz_w (rz_up (rz_up v 12 0) 15 (v 15 + Int32.ofInt 1)) a g) rfl ?_)
  refine ev_ps 7 rfl (ev_call (av := [_, _, _, _]) rfl rfl rfl rfl ⟨Nat.le_of_ble_eq_true rfl, rfl⟩ ⟨Nat.le_of_ble_eq_true rfl, Nat.le_of_ble_eq_true rfl⟩ (c_agree_16 _ (n1 := n) (n2 := 0) hv hn rfl (by omega)) ?_)
  rintro _ _ ⟨⟨u, hu, rfl⟩, d, rfl⟩
  exact ev_ret rfl (show (if u = 0 ∨ u = 1 then some (some (Value.int u)) else none) = _ from if_pos hu) ⟨⟨u, hu, rfl⟩, d, _, 0, a 10, rfl⟩
theorem c_firstInstruction {n : Nat} (x : Int32) (hv : v 11 = Int32.ofNat n) (hn : n ≤ 3) : rz_C xs xl 39 [.ref 13, .int x] (rz_w v a g) (fun q w' => (∃ u, q = .inl (some (.int u))) ∧ ∃ d y c f, w' = rz_w (rz_up (rz_up (rz_up v 12 c) 15 y) 8 d) (rz_ua a 10 f) g) := by
  refine ev_ps 3 rfl (ev_call (av := [_]) rfl rfl rfl rfl ⟨Nat.le_of_ble_eq_true rfl, rfl⟩ ⟨Nat.le_of_ble_eq_true rfl, Nat.le_of_ble_eq_true rfl⟩ (c_numbers hv hn) ?_)
  rintro _ _ ⟨⟨N0, rfl⟩, rfl⟩
  refine ev_ps 4 rfl ?_
  suffices H : ∀ N : Int32, rz_E xs xl 39 13 [some (.ref 13), some (.int x), some (.int N), some (.int (Int32.ofNat 0)), none, none, none, none, none] [] (rz_w v a g) 0 0 (fun q w' => (∃ u, q = .inl (some (.int u))) ∧ ∃ d y c f, w' = rz_w (rz_up (rz_up (rz_up v 12 c) 15 y) 8 d) (rz_ua a 10 f) g) from H _
  intro N
  have Lt : ∀ (o ch i j : Int32), (∀ (t7 t8 : Option Value) (d y c : Int32) (f : Nat → Int32), rz_E xs xl 39 130 [some (.ref 13), some (.int x), some (.int N), some (.int o), some (.int ch), some (.int i), some (.int j), t7, t8] [] (rz_w (rz_up (rz_up (rz_up v 12 c) 15 y) 8 d) (rz_ua a 10 f) g) 0 0 (fun q w' => (∃ u, q = .inl (some (.int u))) ∧ ∃ d y c f, w' = rz_w (rz_up (rz_up (rz_up v 12 c) 15 y) 8 d) (rz_ua a 10 f) g)) → ∀ (t8 : Option Value) (d y c : Int32) (f : Nat → Int32), rz_E xs xl 39 53 [some (.ref 13), some (.int x), some (.int N), some (.int o), some (.int ch), some (.int i), some (.int j), some (.int (Int32.ofNat 0)), t8] [] (rz_w (rz_up (rz_up (rz_up v 12 c) 15 y) 8 d) (rz_ua a 10 f) g) 0 0 (fun q w' => (∃ u, q = .inl (some (.int u))) ∧ ∃ d y c f, w' = rz_w (rz_up (rz_up (rz_up v 12 c) 15 y) 8 d) (rz_ua a 10 f) g) := by
    intro o ch i j hK t8 d y c f
    refine ev_loop (α := Nat × Option Value × Int32 × Int32 × Int32 × (Nat → Int32)) (fun q => 16 - q.1) (fun q => q.1 ≤ 16) (fun q => [some (.ref 13), some (.int x), some (.int N), some (.int o), some (.int ch), some (.int i), some (.int j), some (.int (Int32.ofNat q.1)), q.2.1]) (fun _ => []) (fun q => rz_w (rz_up (rz_up (rz_up v 12 q.2.2.2.2.1) 15 q.2.2.2.1) 8 q.2.2.1) (rz_ua a 10 q.2.2.2.2.2) g) ?_ (0, t8, d, y, c, f) (Nat.zero_le _)
    rintro ⟨k, t8, d, y, c, f⟩ hk ih
    dsimp only at hk ih ⊢
    have next : k < 16 → ∀ (t8 : Option Value) (d y c : Int32) (f : Nat → Int32), rz_E xs xl 39 124 [some (.ref 13), some (.int x), some (.int N), some (.int o), some (.int ch), some (.int i), some (.int j), some (.int (Int32.ofNat k)), t8] [] (rz_w (rz_up (rz_up (rz_up v 12 c) 15 y) 8 d) (rz_ua a 10 f) g) 0 0 (fun q w' => (∃ u, q = .inl (some (.int u))) ∧ ∃ d y c f, w' = rz_w (rz_up (rz_up (rz_up v 12 c) 15 y) 8 d) (rz_ua a 10 f) g) := fun hk' t8 d y c f => by
      have h9 := ih (k + 1, t8, d, y, c, f) (by show k + 1 ≤ 16; omega) (by show 16 - (k + 1) < 16 - k; omega)
      dsimp only at h9
      rw [← rz_succ k] at h9
      exact ev_ps 2 rfl h9
    refine ev_ps 2 rfl (ev_ic (cd := .gt) rfl (fun h => hK _ _ _ _ _ _) (fun h => ?_))
    have hk' : k < 16 := by
      have : k ≤ 15 := rn_gt_f (k := 15) (by omega) (by omega) h
      omega
    refine ev_ps 6 rfl (ev_ic (cd := .ne) rfl (fun h => next hk' _ _ _ _ _) (fun h => ?_))
    refine ev_ps 4 rfl (ev_call (av := [_, _, _, _]) rfl rfl rfl rfl ⟨Nat.le_of_ble_eq_true rfl, rfl⟩ ⟨Nat.le_of_ble_eq_true rfl, Nat.le_of_ble_eq_true rfl⟩ (c_pack _ _ _ _) ?_)
    rintro _ _ ⟨rfl, rfl⟩
    refine ev_ps 4 rfl (ev_call (av := [_, _]) rfl rfl rfl rfl ⟨Nat.le_of_ble_eq_true rfl, rfl⟩ ⟨Nat.le_of_ble_eq_true rfl, Nat.le_of_ble_eq_true rfl⟩ (c_takeOne_23 _) ?_)
    rintro _ _ ⟨rfl, f2, rfl⟩
    refine ev_ps 6 rfl (ev_w (w2 := rz_w (rz_up (rz_up (rz_up v 12 1) 15 (y + Int32.ofInt 1)) 8 d) (rz_ua a 10 f2) g) rfl ?_)
    refine ev_ps 7 rfl (ev_call (av := [_, _, _, _]) rfl rfl rfl rfl ⟨Nat.le_of_ble_eq_true rfl, rfl⟩ ⟨Nat.le_of_ble_eq_true rfl, Nat.le_of_ble_eq_true rfl⟩ (c_agree_16 _ (n1 := n) (n2 := 1) hv hn rfl (by omega)) ?_)
    rintro _ _ ⟨⟨u, hu, rfl⟩, d2, rfl⟩
    refine ev_w (w2 := rz_w (rz_up (rz_up (rz_up v 12 1) 15 (y + Int32.ofInt 1)) 8 d2) (rz_ua a 10 f2) g) rfl ?_
    refine ev_if (cd := .eq) rfl (fun h => next hk' _ _ _ _ _) (fun h => ?_)
    exact ev_ps 1 rfl (ev_ret rfl rfl ⟨⟨_, rfl⟩, d2, _, 1, f2, rfl⟩)
  have Ls : ∀ (o ch i : Int32), (∀ (t6 t7 t8 : Option Value) (d y c : Int32) (f : Nat → Int32), rz_E xs xl 39 136 [some (.ref 13), some (.int x), some (.int N), some (.int o), some (.int ch), some (.int i), t6, t7, t8] [] (rz_w (rz_up (rz_up (rz_up v 12 c) 15 y) 8 d) (rz_ua a 10 f) g) 0 0 (fun q w' => (∃ u, q = .inl (some (.int u))) ∧ ∃ d y c f, w' = rz_w (rz_up (rz_up (rz_up v 12 c) 15 y) 8 d) (rz_ua a 10 f) g)) → ∀ (t7 t8 : Option Value) (d y c : Int32) (f : Nat → Int32), rz_E xs xl 39 44 [some (.ref 13), some (.int x), some (.int N), some (.int o), some (.int ch), some (.int i), some (.int (Int32.ofNat 0)), t7, t8] [] (rz_w (rz_up (rz_up (rz_up v 12 c) 15 y) 8 d) (rz_ua a 10 f) g) 0 0 (fun q w' => (∃ u, q = .inl (some (.int u))) ∧ ∃ d y c f, w' = rz_w (rz_up (rz_up (rz_up v 12 c) 15 y) 8 d) (rz_ua a 10 f) g) := by
    intro o ch i hK t7 t8 d y c f
    refine ev_loop (α := Nat × Option Value × Option Value ×  Int32 × Int32 × Int32 × (Nat → Int32)) (fun q => 4 - q.1) (fun q => q.1 ≤ 4) (fun q => [some (.ref 13), some (.int x), some (.int N), some (.int o), some (.int ch), some (.int i), some (.int (Int32.ofNat q.1)), q.2.1, q.2.2.1]) (fun _ => []) (fun q => rz_w (rz_up (rz_up (rz_up v 12 q.2.2.2.2.2.1) 15 q.2.2.2.2.1) 8 q.2.2.2.1) (rz_ua a 10 q.2.2.2.2.2.2) g) ?_ (0, t7, t8, d, y, c, f) (by show 0 ≤ 4; omega)
    rintro ⟨k, t7, t8, d, y, c, f⟩ hk ih
    dsimp only at hk ih ⊢
    have next : k < 4 → ∀ (t7 t8 : Option Value) (d y c : Int32) (f : Nat → Int32), rz_E xs xl 39 130 [some (.ref 13), some (.int x), some (.int N), some (.int o), some (.int ch), some (.int i), some (.int (Int32.ofNat k)), t7, t8] [] (rz_w (rz_up (rz_up (rz_up v 12 c) 15 y) 8 d) (rz_ua a 10 f) g) 0 0 (fun q w' => (∃ u, q = .inl (some (.int u))) ∧ ∃ d y c f, w' = rz_w (rz_up (rz_up (rz_up v 12 c) 15 y) 8 d) (rz_ua a 10 f) g) := fun hk' t7 t8 d y c f => by
      have h9 := ih (k + 1, t7, t8, d, y, c, f) (by show k + 1 ≤ 4; omega) (by show 4 - (k + 1) < 4 - k; omega)
      dsimp only at h9
      rw [← rz_succ k] at h9
      exact ev_ps 2 rfl h9
    refine ev_ps 2 rfl (ev_ic (cd := .ge) rfl (fun h => hK _ _ _ _ _ _ _) (fun h => ?_))
    have hk' : k < 4 := rn_ge_f (k := 4) (by omega) (by omega) h
    exact ev_ps 2 rfl (Lt o ch i (Int32.ofNat k) (fun t7 t8 d y c f => next hk' _ _ _ _ _ _) _ _ _ _ _)
  have Ld : ∀ (o ch : Int32), (∀ (t5 t6 t7 t8 : Option Value) (d y c : Int32) (f : Nat → Int32), rz_E xs xl 39 142 [some (.ref 13), some (.int x), some (.int N), some (.int o), some (.int ch), t5, t6, t7, t8] [] (rz_w (rz_up (rz_up (rz_up v 12 c) 15 y) 8 d) (rz_ua a 10 f) g) 0 0 (fun q w' => (∃ u, q = .inl (some (.int u))) ∧ ∃ d y c f, w' = rz_w (rz_up (rz_up (rz_up v 12 c) 15 y) 8 d) (rz_ua a 10 f) g)) → ∀ (t6 t7 t8 : Option Value) (d y c : Int32) (f : Nat → Int32), rz_E xs xl 39 35 [some (.ref 13), some (.int x), some (.int N), some (.int o), some (.int ch), some (.int (Int32.ofNat 1)), t6, t7, t8] [] (rz_w (rz_up (rz_up (rz_up v 12 c) 15 y) 8 d) (rz_ua a 10 f) g) 0 0 (fun q w' => (∃ u, q = .inl (some (.int u))) ∧ ∃ d y c f, w' = rz_w (rz_up (rz_up (rz_up v 12 c) 15 y) 8 d) (rz_ua a 10 f) g) := by
    intro o ch hK t6 t7 t8 d y c f
    refine ev_loop (α := Nat × Option Value × Option Value × Option Value ×  Int32 × Int32 × Int32 × (Nat → Int32)) (fun q => 4 - q.1) (fun q => q.1 ≤ 4) (fun q => [some (.ref 13), some (.int x), some (.int N), some (.int o), some (.int ch), some (.int (Int32.ofNat q.1)), q.2.1, q.2.2.1, q.2.2.2.1]) (fun _ => []) (fun q => rz_w (rz_up (rz_up (rz_up v 12 q.2.2.2.2.2.2.1) 15 q.2.2.2.2.2.1) 8 q.2.2.2.2.1) (rz_ua a 10 q.2.2.2.2.2.2.2) g) ?_ (1, t6, t7, t8, d, y, c, f) (by show 1 ≤ 4; omega)
    rintro ⟨k, t6, t7, t8, d, y, c, f⟩ hk ih
    dsimp only at hk ih ⊢
    have next : k < 4 → ∀ (t6 t7 t8 : Option Value) (d y c : Int32) (f : Nat → Int32), rz_E xs xl 39 136 [some (.ref 13), some (.int x), some (.int N), some (.int o), some (.int ch), some (.int (Int32.ofNat k)), t6, t7, t8] [] (rz_w (rz_up (rz_up (rz_up v 12 c) 15 y) 8 d) (rz_ua a 10 f) g) 0 0 (fun q w' => (∃ u, q = .inl (some (.int u))) ∧ ∃ d y c f, w' = rz_w (rz_up (rz_up (rz_up v 12 c) 15 y) 8 d) (rz_ua a 10 f) g) := fun hk' t6 t7 t8 d y c f => by
      have h9 := ih (k + 1, t6, t7, t8, d, y, c, f) (by show k + 1 ≤ 4; omega) (by show 4 - (k + 1) < 4 - k; omega)
      dsimp only at h9
      rw [← rz_succ k] at h9
      exact ev_ps 2 rfl h9
    refine ev_ps 2 rfl (ev_ic (cd := .ge) rfl (fun h => hK _ _ _ _ _ _ _ _) (fun h => ?_))
    have hk' : k < 4 := rn_ge_f (k := 4) (by omega) (by omega) h
    exact ev_ps 2 rfl (Ls o ch (Int32.ofNat k) (fun t6 t7 t8 d y c f => next hk' _ _ _ _ _ _ _) _ _ _ _ _ _)
  have Lo : ∀ (t4 t5 t6 t7 t8 : Option Value) (d y c : Int32) (f : Nat → Int32), rz_E xs xl 39 13 [some (.ref 13), some (.int x), some (.int N), some (.int (Int32.ofNat 0)), t4, t5, t6, t7, t8] [] (rz_w (rz_up (rz_up (rz_up v 12 c) 15 y) 8 d) (rz_ua a 10 f) g) 0 0 (fun q w' => (∃ u, q = .inl (some (.int u))) ∧ ∃ d y c f, w' = rz_w (rz_up (rz_up (rz_up v 12 c) 15 y) 8 d) (rz_ua a 10 f) g) := by
    intro t4 t5 t6 t7 t8 d y c f
    refine ev_loop (α := Nat × Option Value × Option Value × Option Value × Option Value × Option Value × Int32 × Int32 × Int32 × (Nat → Int32)) (fun q => 10 - q.1) (fun q => q.1 ≤ 10) (fun q => [some (.ref 13), some (.int x), some (.int N), some (.int (Int32.ofNat q.1)), q.2.1, q.2.2.1, q.2.2.2.1, q.2.2.2.2.1, q.2.2.2.2.2.1]) (fun _ => []) (fun q => rz_w (rz_up (rz_up (rz_up v 12 q.2.2.2.2.2.2.2.2.1) 15 q.2.2.2.2.2.2.2.1) 8 q.2.2.2.2.2.2.1) (rz_ua a 10 q.2.2.2.2.2.2.2.2.2) g) ?_ (0, t4, t5, t6, t7, t8, d, y, c, f) (Nat.zero_le _)
    rintro ⟨k, t4, t5, t6, t7, t8, d, y, c, f⟩ hk ih
    dsimp only at hk ih ⊢
    refine ev_ps 2 rfl (ev_ic (cd := .gt) rfl (fun h => ?_) (fun h => ?_))
    · exact ev_ps 1 rfl (ev_ret rfl rfl ⟨⟨_, rfl⟩, d, y, c, f, rfl⟩)
    · have hk' : k < 10 := by
        have : k ≤ 9 := rn_gt_f (k := 9) (by omega) (by omega) h
        omega
      have next : ∀ (t4 t5 t6 t7 t8 : Option Value) (d y c : Int32) (f : Nat → Int32), rz_E xs xl 39 142 [some (.ref 13), some (.int x), some (.int N), some (.int (Int32.ofNat k)), t4, t5, t6, t7, t8] [] (rz_w (rz_up (rz_up (rz_up v 12 c) 15 y) 8 d) (rz_ua a 10 f) g) 0 0 (fun q w' => (∃ u, q = .inl (some (.int u))) ∧ ∃ d y c f, w' = rz_w (rz_up (rz_up (rz_up v 12 c) 15 y) 8 d) (rz_ua a 10 f) g) := fun t4 t5 t6 t7 t8 d y c f => by
        have h9 := ih (k + 1, t4, t5, t6, t7, t8, d, y, c, f) (by show k + 1 ≤ 10; omega) (by show 10 - (k + 1) < 10 - k; omega)
        dsimp only at h9
        rw [← rz_succ k] at h9
        exact ev_ps 2 rfl h9
      refine ev_ps 2 rfl (ev_ic (cd := .gt) rfl (fun h => ?_) (fun h => ?_))
      · exact ev_ps 4 rfl (Ld (Int32.ofNat k) _ (fun t5 t6 t7 t8 d y c f => next _ _ _ _ _ _ _ _ _) _ _ _ _ _ _ _)
      · exact ev_ps 5 rfl (Ld (Int32.ofNat k) _ (fun t5 t6 t7 t8 d y c f => next _ _ _ _ _ _ _ _ _) _ _ _ _ _ _ _)
  exact ev_w (w2 := rz_w (rz_up (rz_up (rz_up v 12 (v 12)) 15 (v 15)) 8 (v 8)) (rz_ua a 10 (a 10)) g) rfl (Lo _ _ _ _ _ _ _ _ _)
theorem c_imprPutForRow {p n m : Nat} (x : Int32) (hv : v 0 = Int32.ofNat m) (hm : m ≤ 24) (hn1 : 1 ≤ n) (hpn : p + n ≤ m) : rz_C xs xl 44 [.ref 13, .ref 1, .int (Int32.ofNat p), .int (Int32.ofNat n), .int x] (rz_w v a g)
    (fun q w' => (∃ u, q = .inl (some (.int u))) ∧ ∃ (k : Nat) (r b : Int32) (f f2 : Nat → Int32), k ≤ 24 ∧ w' = rz_w (rz_up (rz_up (rz_up v 13 r) 14 b) 0 (Int32.ofNat k)) (rz_ua (rz_ua a 0 f) 6 f2) g) := by
  refine ev_ps 6 rfl (ev_w (w2 := rz_w (rz_up (rz_up v 13 (v 13 + Int32.ofInt 1)) 14 (v 14)) a g) rfl ?_)
  have main : ∀ b : Int32, rz_E xs xl 44 26 [some (.ref 13), some (.ref 1), some (.int (Int32.ofNat p)), some (.int (Int32.ofNat n)), some (.int x), none] [] (rz_w (rz_up (rz_up v 13 (v 13 + Int32.ofInt 1)) 14 b) a g) 0 0 (fun q w' => (∃ u, q = .inl (some (.int u))) ∧ ∃ (k : Nat) (r b : Int32) (f f2 : Nat → Int32), k ≤ 24 ∧ w' = rz_w (rz_up (rz_up (rz_up v 13 r) 14 b) 0 (Int32.ofNat k)) (rz_ua (rz_ua a 0 f) 6 f2) g) := by
    intro b
    refine ev_ps 4 rfl (ev_call (av := [_, _, _, _]) rfl rfl rfl rfl ⟨Nat.le_of_ble_eq_true rfl, rfl⟩ ⟨Nat.le_of_ble_eq_true rfl, Nat.le_of_ble_eq_true rfl⟩ (c_progPutForRow _ (m := m) hv hm hn1 hpn) ?_)
    rintro _ _ ⟨c, f, hc, rfl, rfl⟩
    refine ev_ps 4 rfl (ev_call (av := [_, _]) rfl rfl rfl rfl ⟨Nat.le_of_ble_eq_true rfl, rfl⟩ ⟨Nat.le_of_ble_eq_true rfl, Nat.le_of_ble_eq_true rfl⟩ (c_findFor_14 (n := m - (n - c)) rfl (by omega)) ?_)
    rintro _ _ ⟨rfl, f2, rfl⟩
    exact ev_ps 1 rfl (ev_ret rfl rfl ⟨⟨_, rfl⟩, m - (n - c), _, b, f, f2, by omega, rfl⟩)
  refine ev_ps 2 rfl (ev_ic (cd := .ne) rfl (fun h => main _) (fun h => ?_))
  exact ev_ps 6 rfl (ev_w (w2 := rz_w (rz_up (rz_up v 13 (v 13 + Int32.ofInt 1)) 14 (v 14 + Int32.ofInt 1)) a g) rfl (main _))
def rz_ci (v : Nat → Int32) : Prop := (∃ n : Nat, n ≤ 24 ∧ v 0 = Int32.ofNat n) ∧ (v 4 = 0 ∨ v 4 = 1)
def rz_cf (v : Nat → Int32) (a : Nat → Nat → Int32) (v' : Nat → Int32) (a' : Nat → Nat → Int32) : Prop := (∀ k, 20 ≤ k → v' k = v k) ∧ ∀ k, 20 ≤ k → a' k = a k
theorem rz_cf.rf {v : Nat → Int32} {a : Nat → Nat → Int32} : rz_cf v a v a := ⟨fun _ _ => rfl, fun _ _ => rfl⟩
theorem rz_cf.up {v v' : Nat → Int32} {a a' : Nat → Nat → Int32} (h : rz_cf v a v' a') {k : Nat} (hk : k < 20) (x : Int32) : rz_cf v a (rz_up v' k x) a' :=
  ⟨fun j hj => (if_neg (by omega)).trans (h.1 j hj), h.2⟩
theorem rz_cf.ua {v v' : Nat → Int32} {a a' : Nat → Nat → Int32} (h : rz_cf v a v' a') {k : Nat} (hk : k < 20) (f : Nat → Int32) : rz_cf v a v' (rz_ua a' k f) :=
  ⟨h.1, fun j hj => (if_neg (by omega)).trans (h.2 j hj)⟩
theorem rz_cf.tr {v v1 v2 : Nat → Int32} {a a1 a2 : Nat → Nat → Int32} (h : rz_cf v a v1 a1) (h2 : rz_cf v1 a1 v2 a2) : rz_cf v a v2 a2 :=
  ⟨fun j hj => (h2.1 j hj).trans (h.1 j hj), fun j hj => (h2.2 j hj).trans (h.2 j hj)⟩
/-- what a method of the class leaves: its own part of the world in order, the rest as it was -/
def rz_cp (v : Nat → Int32) (a : Nat → Nat → Int32) (g : Nat → Int64) (P : rz_R → Prop) : rz_R → rz_W → Prop := fun q w' => P q ∧ ∃ v' a', w' = rz_w v' a' g ∧ rz_cf v a v' a' ∧ rz_ci v'
def rz_pi : rz_R → Prop := fun q => ∃ u, q = .inl (some (.int u))
theorem c_improveAt {p m : Nat} (hci : rz_ci v) (hv : v 0 = Int32.ofNat m) (hm : m ≤ 24) (hp : p < m) : rz_C xs xl 22 [.ref 13, .ref 1, .int (Int32.ofNat p)] (rz_w v a g) (rz_cp v a g rz_pi) := by
  refine ev_ps 2 rfl ?_
  refine ev_loop (α := Nat × Option Value × Option Value × (Nat → Int32) × (Nat → Nat → Int32)) (fun q => q.1) (fun q => q.1 ≤ 3 ∧ rz_cf v a q.2.2.2.1 q.2.2.2.2 ∧ rz_ci q.2.2.2.1 ∧ q.2.2.2.1 0 = Int32.ofNat m) (fun q => [some (.ref 13), some (.ref 1), some (.int (Int32.ofNat p)), some (.int (Int32.ofNat q.1)), q.2.1, q.2.2.1]) (fun _ => []) (fun q => rz_w q.2.2.2.1 q.2.2.2.2 g) ?_ (3, none, none, v, a) ⟨by show 3 ≤ 3; omega, rz_cf.rf, hci, hv⟩
  rintro ⟨n, t4, t5, v1, a1⟩ ⟨hn, hcf, hci1, hv1⟩ ih
  dsimp only at hn hcf hci1 hv1 ih ⊢
  refine ev_ps 2 rfl (ev_ic (cd := .lt) rfl (fun h => ?_) (fun h => ?_))
  · exact ev_ps 3 rfl (ev_ret rfl rfl ⟨⟨_, rfl⟩, v1, a1, rfl, hcf, hci1⟩)
  · have hn1 : 1 ≤ n := rn_lt_f (k := 1) (by omega) (by omega) h
    have next : ∀ (t4 t5 : Option Value) (v2 : Nat → Int32) (a2 : Nat → Nat → Int32), rz_cf v a v2 a2 → rz_ci v2 → v2 0 = Int32.ofNat m → rz_E xs xl 22 90 [some (.ref 13), some (.ref 1), some (.int (Int32.ofNat p)), some (.int (Int32.ofNat n)), t4, t5] [] (rz_w v2 a2 g) 0 0 (rz_cp v a g rz_pi) := by
      intro t4 t5 v2 a2 hcf2 hci2 hv2
      have h9 := ih (n - 1, t4, t5, v2, a2) ⟨by show n - 1 ≤ 3; omega, hcf2, hci2, hv2⟩ (by show n - 1 < n; omega)
      dsimp only at h9
      rw [← rz_sub (k := n) (n := 1) hn1, show Int32.ofNat n - Int32.ofNat 1 = Int32.ofNat n + Int32.ofInt (-1) from Int32.sub_eq_add_neg _ _] at h9
      exact ev_ps 2 rfl h9
    refine ev_ps 3 rfl (ev_call (av := [_, _, _]) rfl rfl rfl rfl ⟨Nat.le_of_ble_eq_true rfl, rfl⟩ ⟨Nat.le_of_ble_eq_true rfl, Nat.le_of_ble_eq_true rfl⟩ (c_hasRow hv1 hm (by omega) hn hn1) ?_)
    rintro _ _ ⟨⟨u, hu, hP, rfl⟩, rfl⟩
    refine ev_if (cd := .eq) rfl (fun h1 => next _ _ _ _ hcf hci1 hv1) (fun h1 => ?_)
    have hpn : p + n ≤ m := hP (hu.resolve_left (rc_eq_f h1))
    refine ev_ps 5 rfl (ev_call (av := [_, _, _, _]) rfl rfl rfl rfl ⟨Nat.le_of_ble_eq_true rfl, rfl⟩ ⟨Nat.le_of_ble_eq_true rfl, Nat.le_of_ble_eq_true rfl⟩ (c_takeFrom_21 hn (by omega)) ?_)
    rintro _ _ ⟨rfl, f, rfl⟩
    refine ev_ps 7 rfl ?_
    refine ev_call (av := [.ref 14, .int (Int32.ofNat (p + n))]) rfl (by rw [← rz_add]; rfl) rfl rfl ⟨Nat.le_of_ble_eq_true rfl, rfl⟩ ⟨Nat.le_of_ble_eq_true rfl, Nat.le_of_ble_eq_true rfl⟩ (c_before_14 (by omega)) ?_
    rintro _ _ ⟨⟨u2, rfl⟩, rfl⟩
    refine ev_call (av := [_]) rfl rfl rfl rfl ⟨Nat.le_of_ble_eq_true rfl, rfl⟩ ⟨Nat.le_of_ble_eq_true rfl, Nat.le_of_ble_eq_true rfl⟩ (c_maskOf _) ?_
    rintro _ _ ⟨⟨u3, rfl⟩, rfl⟩
    refine ev_ps 3 rfl (ev_call (av := [_, _]) rfl rfl rfl rfl ⟨Nat.le_of_ble_eq_true rfl, rfl⟩ ⟨Nat.le_of_ble_eq_true rfl, Nat.le_of_ble_eq_true rfl⟩ (c_nothingDoes _ (n := n) rfl hn) ?_)
    rintro _ _ ⟨⟨u4, hu4, rfl⟩, d, y, c, f2, rfl⟩
    have tail : ∀ (t : Int32) (v2 : Nat → Int32) (a2 : Nat → Nat → Int32), rz_cf v a v2 a2 → rz_ci v2 → v2 0 = Int32.ofNat m → rz_E xs xl 22 71 [some (.ref 13), some (.ref 1), some (.int (Int32.ofNat p)), some (.int (Int32.ofNat n)), some (.int t), some (.int u3)] [] (rz_w v2 a2 g) 0 0 (rz_cp v a g rz_pi) := by
      intro t v2 a2 hcf2 hci2 hv2
      refine ev_ps 2 rfl (ev_ic (cd := .eq) rfl (fun h => next _ _ _ _ hcf2 hci2 hv2) (fun h => ?_))
      refine ev_ps 6 rfl (ev_call (av := [_, _, _, _, _]) rfl rfl rfl rfl ⟨Nat.le_of_ble_eq_true rfl, rfl⟩ ⟨Nat.le_of_ble_eq_true rfl, Nat.le_of_ble_eq_true rfl⟩ (c_imprPutForRow _ hv2 hm hn1 hpn) ?_)
      rintro _ _ ⟨⟨u5, rfl⟩, k, r, b, f3, f4, hk, rfl⟩
      exact ev_ps 1 rfl (ev_ret rfl rfl ⟨⟨_, rfl⟩, _, _, rfl, (((((hcf2.up (by decide) r).up (by decide) b).up (by decide) _).ua (by decide) f3).ua (by decide) f4), ⟨k, hk, rfl⟩, hci2.2⟩)
    have hcf3 : rz_cf v a (rz_up (rz_up (rz_up (rz_up v1 11 (Int32.ofNat n)) 12 c) 15 y) 8 d) (rz_ua (rz_ua a1 9 f) 10 f2) := (((((hcf.up (by decide) _).up (by decide) c).up (by decide) y).up (by decide) d).ua (by decide) f).ua (by decide) f2
    have hci3 : rz_ci (rz_up (rz_up (rz_up (rz_up v1 11 (Int32.ofNat n)) 12 c) 15 y) 8 d) := hci1
    refine ev_if (cd := .ne) rfl (fun h2 => ?_) (fun h2 => ?_)
    · exact tail _ _ _ hcf3 hci3 hv1
    · refine ev_ps 2 rfl (ev_ic (cd := .le) rfl (fun h3 => ?_) (fun h3 => ?_))
      · exact ev_ps 2 rfl (tail _ _ _ hcf3 hci3 hv1)
      · refine ev_ps 2 rfl (ev_call (av := [_, _]) rfl rfl rfl rfl ⟨Nat.le_of_ble_eq_true rfl, rfl⟩ ⟨Nat.le_of_ble_eq_true rfl, Nat.le_of_ble_eq_true rfl⟩ (c_firstInstruction _ (n := n) rfl hn) ?_)
        rintro _ _ ⟨⟨u5, rfl⟩, d2, y2, c2, f5, rfl⟩
        refine ev_ps 2 rfl (tail _ _ _ ((((hcf3.up (by decide) c2).up (by decide) y2).up (by decide) d2).ua (by decide) f5) hci3 hv1)
theorem c_improveProgram (hci : rz_ci v) : rz_C xs xl 9 [.ref 13, .ref 1] (rz_w v a g) (rz_cp v a g rz_pi) := by
  obtain ⟨n, hn, hv⟩ := hci.1
  refine ev_ps 1 rfl (ev_call (av := [_]) rfl rfl rfl rfl ⟨Nat.le_of_ble_eq_true rfl, rfl⟩ ⟨Nat.le_of_ble_eq_true rfl, Nat.le_of_ble_eq_true rfl⟩ (c_length) ?_)
  rintro _ _ ⟨rfl, rfl⟩
  refine ev_ps 4 rfl (ev_call (av := [_, _]) rfl rfl rfl rfl ⟨Nat.le_of_ble_eq_true rfl, rfl⟩ ⟨Nat.le_of_ble_eq_true rfl, Nat.le_of_ble_eq_true rfl⟩ (c_findFor_14 hv hn) ?_)
  rintro _ _ ⟨rfl, f, rfl⟩
  refine ev_ps 4 rfl ?_
  refine ev_loop (α := Nat × Int32 × (Nat → Int32) × (Nat → Nat → Int32)) (fun q => 24 - q.1) (fun q => q.1 ≤ 24 ∧ rz_cf v a q.2.2.1 q.2.2.2 ∧ rz_ci q.2.2.1) (fun q => [some (.ref 13), some (.ref 1), some (.int (v 0)), some (.int q.2.1), some (.int (Int32.ofNat q.1))]) (fun _ => []) (fun q => rz_w q.2.2.1 q.2.2.2 g) ?_ (0, 0, v, rz_ua a 6 f) ⟨Nat.zero_le _, rz_cf.rf.ua (by decide) f, hci⟩
  rintro ⟨k, x, v1, a1⟩ ⟨hk, hcf, hci1⟩ ih
  dsimp only at hk hcf hci1 ih ⊢
  have fin : rz_E xs xl 9 46 [some (.ref 13), some (.ref 1), some (.int (v 0)), some (.int x), some (.int (Int32.ofNat k))] [] (rz_w v1 a1 g) 0 0 (rz_cp v a g rz_pi) := by
    refine ev_ps 2 rfl (ev_call (av := [_]) rfl rfl rfl rfl ⟨Nat.le_of_ble_eq_true rfl, rfl⟩ ⟨Nat.le_of_ble_eq_true rfl, Nat.le_of_ble_eq_true rfl⟩ (c_length) ?_)
    rintro _ _ ⟨rfl, rfl⟩
    exact ev_ps 1 rfl (ev_ret rfl rfl ⟨⟨_, rfl⟩, v1, a1, rfl, hcf, hci1⟩)
  refine ev_ps 2 rfl (ev_ic (cd := .ge) rfl (fun h => fin) (fun h => ?_))
  have hk' : k < 24 := rn_ge_f (k := 24) (by omega) (by omega) h
  refine ev_ps 2 rfl (ev_call (av := [_, _]) rfl rfl rfl rfl ⟨Nat.le_of_ble_eq_true rfl, rfl⟩ ⟨Nat.le_of_ble_eq_true rfl, Nat.le_of_ble_eq_true rfl⟩ (c_has _) ?_)
  rintro _ _ ⟨⟨u, hu, hP, rfl⟩, rfl⟩
  refine ev_if (cd := .eq) rfl (fun h1 => fin) (fun h1 => ?_)
  obtain ⟨hx0, hx1⟩ := hP (hu.resolve_left (rc_eq_f h1))
  obtain ⟨n1, hn1, hv1⟩ := hci1.1
  rw [hv1] at hx1
  obtain ⟨p, hp, rfl⟩ := rz_idx (by omega) hx0 hx1
  refine ev_ps 3 rfl (ev_call (av := [_, _, _]) rfl rfl rfl rfl ⟨Nat.le_of_ble_eq_true rfl, rfl⟩ ⟨Nat.le_of_ble_eq_true rfl, Nat.le_of_ble_eq_true rfl⟩ (c_improveAt hci1 hv1 hn1 hp) ?_)
  rintro _ _ ⟨⟨u2, rfl⟩, v2, a2, rfl, hcf2, hci2⟩
  have h9 := ih (k + 1, u2, v2, a2) ⟨by show k + 1 ≤ 24; omega, hcf.tr hcf2, hci2⟩ (by show 24 - (k + 1) < 24 - k; omega)
  dsimp only at h9
  rw [← rz_succ k] at h9
  exact ev_ps 3 rfl h9
end RZP5
end
section
/-! the class's own methods (place 0), and the law's that call them -/
section RZP6
variable {xs : Nat → Int32} {xl : Nat} {v : Nat → Int32} {a : Nat → Nat → Int32} {g : Nat → Int64}
theorem p_clear (hci : rz_ci v) : rz_C xs xl 1 [.ref 0] (rz_w v a g) (rz_cp v a g rz_pi) := by
  refine ev_ps 2 rfl (ev_call (av := [_]) rfl rfl rfl rfl ⟨Nat.le_of_ble_eq_true rfl, rfl⟩ ⟨Nat.le_of_ble_eq_true rfl, Nat.le_of_ble_eq_true rfl⟩ (c_empty) ?_)
  rintro _ _ ⟨rfl, rfl⟩
  exact ev_ret rfl rfl ⟨⟨_, rfl⟩, _, _, rfl, rz_cf.rf.up (by decide) _, ⟨0, by omega, rfl⟩, hci.2⟩
theorem p_size (hci : rz_ci v) : rz_C xs xl 3 [.ref 0] (rz_w v a g) (rz_cp v a g rz_pi) := by
  refine ev_ps 2 rfl (ev_call (av := [_]) rfl rfl rfl rfl ⟨Nat.le_of_ble_eq_true rfl, rfl⟩ ⟨Nat.le_of_ble_eq_true rfl, Nat.le_of_ble_eq_true rfl⟩ (c_length) ?_)
  rintro _ _ ⟨rfl, rfl⟩
  exact ev_ret rfl rfl ⟨⟨_, rfl⟩, _, _, rfl, rz_cf.rf, hci⟩
theorem p_result (hci : rz_ci v) (x : Int32) : rz_C xs xl 5 [.ref 0, .int x] (rz_w v a g) (rz_cp v a g rz_pi) := by
  refine ev_ps 3 rfl (ev_call (av := [_, _]) rfl rfl rfl rfl ⟨Nat.le_of_ble_eq_true rfl, rfl⟩ ⟨Nat.le_of_ble_eq_true rfl, Nat.le_of_ble_eq_true rfl⟩ (c_outcome _) ?_)
  rintro _ _ ⟨⟨u, rfl⟩, rfl⟩
  exact ev_ret rfl rfl ⟨⟨_, rfl⟩, _, _, rfl, rz_cf.rf, hci⟩
theorem p_improve (hci : rz_ci v) : rz_C xs xl 8 [.ref 0] (rz_w v a g) (rz_cp v a g rz_pi) := by
  refine ev_ps 4 rfl (ev_call (av := [_, _]) rfl rfl rfl rfl ⟨Nat.le_of_ble_eq_true rfl, rfl⟩ ⟨Nat.le_of_ble_eq_true rfl, Nat.le_of_ble_eq_true rfl⟩ (c_improveProgram hci) ?_)
  rintro _ _ ⟨⟨u, rfl⟩, v2, a2, rfl, h1, h2⟩
  exact ev_ret rfl rfl ⟨⟨_, rfl⟩, _, _, rfl, h1, h2⟩
theorem p_count (hci : rz_ci v) (x : Int32) : rz_C xs xl 48 [.ref 0, .int x] (rz_w v a g) (rz_cp v a g rz_pi) := by
  refine ev_ps 3 rfl (ev_call (av := [_, _]) rfl rfl rfl rfl ⟨Nat.le_of_ble_eq_true rfl, rfl⟩ ⟨Nat.le_of_ble_eq_true rfl, Nat.le_of_ble_eq_true rfl⟩ (c_counted _) ?_)
  rintro _ _ ⟨⟨u, rfl⟩, rfl⟩
  exact ev_ret rfl rfl ⟨⟨_, rfl⟩, _, _, rfl, rz_cf.rf, hci⟩
theorem p_add (hci : rz_ci v) (x0 x1 x2 x3 : Int32) : rz_C xs xl 50 [.ref 0, .int x0, .int x1, .int x2, .int x3] (rz_w v a g) (rz_cp v a g (fun q => rz_pi q ∨ q = .inr 0 ∨ q = .inr 1)) := by
  refine ev_ps 4 rfl (ev_call (av := [_, _, _, _]) rfl rfl rfl rfl ⟨Nat.le_of_ble_eq_true rfl, rfl⟩ ⟨Nat.le_of_ble_eq_true rfl, Nat.le_of_ble_eq_true rfl⟩ (c_isLegal _ _ _ _) ?_)
  rintro _ _ ⟨⟨u, hu, rfl⟩, rfl⟩
  refine ev_if (cd := .ne) rfl (fun h => ?_) (fun h => ?_)
  · refine ev_ps 2 rfl (ev_call (av := [_]) rfl rfl rfl rfl ⟨Nat.le_of_ble_eq_true rfl, rfl⟩ ⟨Nat.le_of_ble_eq_true rfl, Nat.le_of_ble_eq_true rfl⟩ (c_isFull) ?_)
    rintro _ _ ⟨⟨u2, hu2, hP, rfl⟩, rfl⟩
    refine ev_if (cd := .eq) rfl (fun h2 => ?_) (fun h2 => ?_)
    · obtain ⟨n, hn, hv⟩ := hci.1
      have hlt := hP (rc_eq_t h2)
      rw [hv] at hlt
      have hn' : n < 24 := (rz_lt_iff (k := 24) (by omega) (by omega)).mp hlt
      refine ev_ps 6 rfl (ev_call (av := [_, _, _, _]) rfl rfl rfl rfl ⟨Nat.le_of_ble_eq_true rfl, rfl⟩ ⟨Nat.le_of_ble_eq_true rfl, Nat.le_of_ble_eq_true rfl⟩ (c_pack _ _ _ _) ?_)
      rintro _ _ ⟨rfl, rfl⟩
      refine ev_call (av := [_, _]) rfl rfl rfl rfl ⟨Nat.le_of_ble_eq_true rfl, rfl⟩ ⟨Nat.le_of_ble_eq_true rfl, Nat.le_of_ble_eq_true rfl⟩ (c_append _ hv hn') ?_
      rintro _ _ ⟨⟨u3, rfl⟩, f, rfl⟩
      exact ev_ret rfl rfl ⟨Or.inl ⟨_, rfl⟩, _, _, rfl, (rz_cf.rf.up (by decide) _).ua (by decide) f, ⟨n + 1, by omega, by show v 0 + 1 = _; rw [hv, rz_succ]⟩, hci.2⟩
    · exact ev_thr rfl ⟨Nat.le_of_ble_eq_true rfl, Nat.le_of_ble_eq_true rfl⟩ ⟨Or.inr (Or.inr rfl), v, a, rfl, rz_cf.rf, hci⟩
  · exact ev_thr rfl ⟨Nat.le_of_ble_eq_true rfl, Nat.le_of_ble_eq_true rfl⟩ ⟨Or.inr (Or.inl rfl), v, a, rfl, rz_cf.rf, hci⟩
theorem p_replace (hci : rz_ci v) (x0 x1 x2 x3 x4 : Int32) : rz_C xs xl 55 [.ref 0, .int x0, .int x1, .int x2, .int x3, .int x4] (rz_w v a g) (rz_cp v a g (fun q => q = .inl none ∨ q = .inr 0 ∨ q = .inr 2)) := by
  refine ev_ps 4 rfl (ev_call (av := [_, _, _, _]) rfl rfl rfl rfl ⟨Nat.le_of_ble_eq_true rfl, rfl⟩ ⟨Nat.le_of_ble_eq_true rfl, Nat.le_of_ble_eq_true rfl⟩ (c_isLegal _ _ _ _) ?_)
  rintro _ _ ⟨⟨u, hu, rfl⟩, rfl⟩
  refine ev_if (cd := .ne) rfl (fun h => ?_) (fun h => ?_)
  · refine ev_ps 3 rfl (ev_call (av := [_, _]) rfl rfl rfl rfl ⟨Nat.le_of_ble_eq_true rfl, rfl⟩ ⟨Nat.le_of_ble_eq_true rfl, Nat.le_of_ble_eq_true rfl⟩ (c_has _) ?_)
    rintro _ _ ⟨⟨u2, hu2, hP, rfl⟩, rfl⟩
    refine ev_if (cd := .ne) rfl (fun h2 => ?_) (fun h2 => ?_)
    · obtain ⟨n, hn, hv⟩ := hci.1
      obtain ⟨hx0, hx1⟩ := hP (hu2.resolve_left (rc_ne_t h2))
      rw [hv] at hx1
      obtain ⟨p, hp, rfl⟩ := rz_idx (by omega) hx0 hx1
      refine ev_ps 7 rfl (ev_call (av := [_, _, _, _]) rfl rfl rfl rfl ⟨Nat.le_of_ble_eq_true rfl, rfl⟩ ⟨Nat.le_of_ble_eq_true rfl, Nat.le_of_ble_eq_true rfl⟩ (c_pack _ _ _ _) ?_)
      rintro _ _ ⟨rfl, rfl⟩
      refine ev_call (av := [_, _, _]) rfl rfl rfl rfl ⟨Nat.le_of_ble_eq_true rfl, rfl⟩ ⟨Nat.le_of_ble_eq_true rfl, Nat.le_of_ble_eq_true rfl⟩ (c_put _ (by omega)) ?_
      rintro _ _ ⟨rfl, f, rfl⟩
      exact ev_ret rfl rfl ⟨Or.inl rfl, _, _, rfl, rz_cf.rf.ua (by decide) f, hci⟩
    · exact ev_thr rfl ⟨Nat.le_of_ble_eq_true rfl, Nat.le_of_ble_eq_true rfl⟩ ⟨Or.inr (Or.inr rfl), v, a, rfl, rz_cf.rf, hci⟩
  · exact ev_thr rfl ⟨Nat.le_of_ble_eq_true rfl, Nat.le_of_ble_eq_true rfl⟩ ⟨Or.inr (Or.inl rfl), v, a, rfl, rz_cf.rf, hci⟩
theorem p_instruction (hci : rz_ci v) (x0 x1 : Int32) : rz_C xs xl 57 [.ref 0, .int x0, .int x1] (rz_w v a g) (rz_cp v a g (fun q => rz_pi q ∨ q = .inr 0 ∨ q = .inr 2)) := by
  refine ev_ps 1 rfl (ev_if (cd := .lt) rfl (fun h => ?_) (fun h => ?_))
  · exact ev_thr rfl ⟨Nat.le_of_ble_eq_true rfl, Nat.le_of_ble_eq_true rfl⟩ ⟨Or.inr (Or.inl rfl), v, a, rfl, rz_cf.rf, hci⟩
  · refine ev_ps 2 rfl (ev_ic (cd := .le) rfl (fun h => ?_) (fun h => ?_))
    · refine ev_ps 3 rfl (ev_call (av := [_, _]) rfl rfl rfl rfl ⟨Nat.le_of_ble_eq_true rfl, rfl⟩ ⟨Nat.le_of_ble_eq_true rfl, Nat.le_of_ble_eq_true rfl⟩ (c_has _) ?_)
      rintro _ _ ⟨⟨u2, hu2, hP, rfl⟩, rfl⟩
      refine ev_if (cd := .ne) rfl (fun h2 => ?_) (fun h2 => ?_)
      · obtain ⟨n, hn, hv⟩ := hci.1
        obtain ⟨hx0, hx1⟩ := hP (hu2.resolve_left (rc_ne_t h2))
        rw [hv] at hx1
        obtain ⟨p, hp, rfl⟩ := rz_idx (by omega) hx0 hx1
        refine ev_ps 3 rfl (ev_call (av := [_, _]) rfl rfl rfl rfl ⟨Nat.le_of_ble_eq_true rfl, rfl⟩ ⟨Nat.le_of_ble_eq_true rfl, Nat.le_of_ble_eq_true rfl⟩ (c_codeAt (by omega)) ?_)
        rintro _ _ ⟨⟨c, rfl⟩, rfl⟩
        refine ev_ps 1 rfl (ev_call (av := [_, _]) rfl rfl rfl rfl ⟨Nat.le_of_ble_eq_true rfl, rfl⟩ ⟨Nat.le_of_ble_eq_true rfl, Nat.le_of_ble_eq_true rfl⟩ (c_part _ _) ?_)
        rintro _ _ ⟨⟨c2, rfl⟩, rfl⟩
        exact ev_ret rfl rfl ⟨Or.inl ⟨_, rfl⟩, _, _, rfl, rz_cf.rf, hci⟩
      · exact ev_thr rfl ⟨Nat.le_of_ble_eq_true rfl, Nat.le_of_ble_eq_true rfl⟩ ⟨Or.inr (Or.inr rfl), v, a, rfl, rz_cf.rf, hci⟩
    · exact ev_thr rfl ⟨Nat.le_of_ble_eq_true rfl, Nat.le_of_ble_eq_true rfl⟩ ⟨Or.inr (Or.inl rfl), v, a, rfl, rz_cf.rf, hci⟩
def rz_sok (x y : Int32) : Prop := ¬ x < 1 ∧ x < 12 ∧ ¬ y < 0 ∧ ¬ 15 < y
theorem p_start (hci : rz_ci v) (x y : Int32) : rz_C xs xl 59 [.ref 0, .int x, .int y] (rz_w v a g) (rz_cp v a g (fun q => (q = .inl none ∧ rz_sok x y) ∨ (q = .inr 0 ∧ ¬ rz_sok x y))) := by
  refine ev_ps 2 rfl (ev_ic (cd := .lt) rfl (fun h1 => ?_) (fun h1 => ?_))
  · exact ev_thr rfl ⟨Nat.le_of_ble_eq_true rfl, Nat.le_of_ble_eq_true rfl⟩ ⟨Or.inr ⟨rfl, fun q => q.1 (rc_lt_t h1)⟩, v, a, rfl, rz_cf.rf, hci⟩
  · refine ev_ps 2 rfl (ev_ic (cd := .ge) rfl (fun h2 => ?_) (fun h2 => ?_))
    · exact ev_thr rfl ⟨Nat.le_of_ble_eq_true rfl, Nat.le_of_ble_eq_true rfl⟩ ⟨Or.inr ⟨rfl, fun q => Int32.not_le.mpr q.2.1 (rc_ge_t h2)⟩, v, a, rfl, rz_cf.rf, hci⟩
    · refine ev_ps 1 rfl (ev_if (cd := .lt) rfl (fun h3 => ?_) (fun h3 => ?_))
      · exact ev_thr rfl ⟨Nat.le_of_ble_eq_true rfl, Nat.le_of_ble_eq_true rfl⟩ ⟨Or.inr ⟨rfl, fun q => q.2.2.1 (rc_lt_t h3)⟩, v, a, rfl, rz_cf.rf, hci⟩
      · refine ev_ps 2 rfl (ev_ic (cd := .le) rfl (fun h4 => ?_) (fun h4 => ?_))
        · have hx : x < 12 := Int32.not_le.mp (rc_ge_f h2)
          have hok : rz_sok x y := ⟨rc_lt_f h1, hx, rc_lt_f h3, Int32.not_lt.mpr (rc_le_t h4)⟩
          obtain ⟨k, hk, rfl⟩ := rz_idx (n := 12) (by decide) (fun h => rc_lt_f h1 (Int32.lt_trans h (by decide))) hx
          refine ev_ps 4 rfl (ev_call (av := [_, _, _]) rfl rfl rfl rfl ⟨Nat.le_of_ble_eq_true rfl, rfl⟩ ⟨Nat.le_of_ble_eq_true rfl, Nat.le_of_ble_eq_true rfl⟩ (c_setStart _ hk) ?_)
          rintro _ _ ⟨rfl, r, f, rfl⟩
          exact ev_ret rfl rfl ⟨Or.inl ⟨rfl, hok⟩, _, _, rfl, (rz_cf.rf.up (by decide) r).ua (by decide) f, hci⟩
        · exact ev_thr rfl ⟨Nat.le_of_ble_eq_true rfl, Nat.le_of_ble_eq_true rfl⟩ ⟨Or.inr ⟨rfl, fun q => q.2.2.2 (Int32.not_le.mp (rc_le_f h4))⟩, v, a, rfl, rz_cf.rf, hci⟩
theorem p_run (hci : rz_ci v) (x : Int32) : rz_C xs xl 61 [.ref 0, .int x] (rz_w v a g) (rz_cp v a g (fun q => rz_pi q ∨ q = .inr 0)) := by
  refine ev_ps 1 rfl (ev_if (cd := .lt) rfl (fun h => ?_) (fun h => ?_))
  · exact ev_thr rfl ⟨Nat.le_of_ble_eq_true rfl, Nat.le_of_ble_eq_true rfl⟩ ⟨Or.inr rfl, v, a, rfl, rz_cf.rf, hci⟩
  · refine ev_ps 2 rfl (ev_ic (cd := .le) rfl (fun h2 => ?_) (fun h2 => ?_))
    · obtain ⟨n, hn, hv⟩ := hci.1
      obtain ⟨l, hl, rfl⟩ := rz_nat (rc_lt_f h)
      have hl5 : l ≤ 500 := rn_le_t (k := 500) hl (by omega) h2
      refine ev_ps 5 rfl (ev_call (av := [_, _, _]) rfl rfl rfl rfl ⟨Nat.le_of_ble_eq_true rfl, rfl⟩ ⟨Nat.le_of_ble_eq_true rfl, Nat.le_of_ble_eq_true rfl⟩ (c_perform hv hn hl5) ?_)
      rintro _ _ ⟨⟨u, rfl⟩, r, p, e, f, he, rfl⟩
      exact ev_ret rfl rfl ⟨Or.inl ⟨_, rfl⟩, _, _, rfl, (((rz_cf.rf.up (by decide) r).up (by decide) p).up (by decide) e).ua (by decide) f, hci.1, he⟩
    · exact ev_thr rfl ⟨Nat.le_of_ble_eq_true rfl, Nat.le_of_ble_eq_true rfl⟩ ⟨Or.inr rfl, v, a, rfl, rz_cf.rf, hci⟩
theorem p_live (hci : rz_ci v) (x : Int32) : rz_C xs xl 65 [.ref 0, .int x] (rz_w v a g) (rz_cp v a g (fun q => rz_pi q ∨ q = .inr 2)) := by
  refine ev_ps 1 rfl (ev_if (cd := .lt) rfl (fun h => ?_) (fun h => ?_))
  · exact ev_thr rfl ⟨Nat.le_of_ble_eq_true rfl, Nat.le_of_ble_eq_true rfl⟩ ⟨Or.inr rfl, v, a, rfl, rz_cf.rf, hci⟩
  · refine ev_ps 3 rfl (ev_call (av := [_]) rfl rfl rfl rfl ⟨Nat.le_of_ble_eq_true rfl, rfl⟩ ⟨Nat.le_of_ble_eq_true rfl, Nat.le_of_ble_eq_true rfl⟩ (c_length) ?_)
    rintro _ _ ⟨rfl, rfl⟩
    refine ev_ic (cd := .le) rfl (fun h2 => ?_) (fun h2 => ?_)
    · obtain ⟨n, hn, hv⟩ := hci.1
      obtain ⟨l, hl, rfl⟩ := rz_nat (rc_lt_f h)
      rw [hv] at h2
      have hl5 : l ≤ n := rn_le_t hl (by omega) h2
      refine ev_ps 4 rfl (ev_call (av := [_, _]) rfl rfl rfl rfl ⟨Nat.le_of_ble_eq_true rfl, rfl⟩ ⟨Nat.le_of_ble_eq_true rfl, Nat.le_of_ble_eq_true rfl⟩ (c_findFor_6 hv hn) ?_)
      rintro _ _ ⟨rfl, f, rfl⟩
      refine ev_ps 3 rfl (ev_call (av := [_, _]) rfl rfl rfl rfl ⟨Nat.le_of_ble_eq_true rfl, rfl⟩ ⟨Nat.le_of_ble_eq_true rfl, Nat.le_of_ble_eq_true rfl⟩ (c_before_6 (by omega)) ?_)
      rintro _ _ ⟨⟨u, rfl⟩, rfl⟩
      exact ev_ret rfl rfl ⟨Or.inl ⟨_, rfl⟩, _, _, rfl, rz_cf.rf.ua (by decide) f, hci⟩
    · exact ev_thr rfl ⟨Nat.le_of_ble_eq_true rfl, Nat.le_of_ble_eq_true rfl⟩ ⟨Or.inr rfl, v, a, rfl, rz_cf.rf, hci⟩
theorem p_block (hci : rz_ci v) (x : Int32) : rz_C xs xl 66 [.ref 0, .int x] (rz_w v a g) (rz_cp v a g (fun q => rz_pi q ∨ q = .inr 2)) := by
  refine ev_ps 3 rfl (ev_call (av := [_, _]) rfl rfl rfl rfl ⟨Nat.le_of_ble_eq_true rfl, rfl⟩ ⟨Nat.le_of_ble_eq_true rfl, Nat.le_of_ble_eq_true rfl⟩ (c_has _) ?_)
  rintro _ _ ⟨⟨u2, hu2, hP, rfl⟩, rfl⟩
  refine ev_if (cd := .ne) rfl (fun h2 => ?_) (fun h2 => ?_)
  · obtain ⟨n, hn, hv⟩ := hci.1
    obtain ⟨hx0, hx1⟩ := hP (hu2.resolve_left (rc_ne_t h2))
    rw [hv] at hx1
    obtain ⟨p, hp, rfl⟩ := rz_idx (by omega) hx0 hx1
    refine ev_ps 3 rfl (ev_call (av := [_, _]) rfl rfl rfl rfl ⟨Nat.le_of_ble_eq_true rfl, rfl⟩ ⟨Nat.le_of_ble_eq_true rfl, Nat.le_of_ble_eq_true rfl⟩ (c_beginOfBlock hv hn (by omega)) ?_)
    rintro _ _ ⟨⟨u, rfl⟩, rfl⟩
    exact ev_ret rfl rfl ⟨Or.inl ⟨_, rfl⟩, _, _, rfl, rz_cf.rf, hci⟩
  · exact ev_thr rfl ⟨Nat.le_of_ble_eq_true rfl, Nat.le_of_ble_eq_true rfl⟩ ⟨Or.inr rfl, v, a, rfl, rz_cf.rf, hci⟩
theorem c_allPlainX {x n : Int32} (h : rz_okr x n) : rz_C xs xl 25 [.ref 1, .int x, .int n] (rz_w v a g) (rz_bo (rz_w v a g) True) := by
  obtain ⟨k, hk, rfl, h⟩ := h
  rcases h with rfl | ⟨p, rfl, hp⟩
  · exact c_allPlain0 x
  · exact c_allPlain hp
theorem rz_okr_of {x n : Int32} {m : Nat} (hv : v 0 = Int32.ofNat m) (hm : m ≤ 24) (h0 : ¬ n < 0) (h3 : ¬ 3 < n) (h : n = 0 ∨ (¬ x < 0 ∧ ¬ v 0 - n < x)) : rz_okr x n := by
  obtain ⟨k, hk, rfl⟩ := rz_nat h0
  have hk3 : k ≤ 3 := Nat.not_lt.mp fun q => h3 ((rz_lt_iff (n := 3) (by omega) hk).mpr q)
  refine ⟨k, hk3, rfl, ?_⟩
  rcases h with h | ⟨hx, hx2⟩
  · exact Or.inl ((rz_eq_iff (k := 0) hk (by omega)).mp h)
  · by_cases hk0 : k = 0
    · exact Or.inl hk0
    · right
      obtain ⟨p, hp, rfl⟩ := rz_nat hx
      refine ⟨p, rfl, ?_⟩
      rw [hv] at hx2
      by_cases hmk : k ≤ m
      · rw [rz_sub hmk, rz_lt_iff (by omega) hp] at hx2
        omega
      · exfalso
        apply hx2
        have e : Int32.ofNat m - Int32.ofNat k < 0 := by
          have : ∀ m' < 25, ∀ n' < 4, m' < n' → Int32.ofNat m' - Int32.ofNat n' < 0 := by decide +kernel
          exact this m (by omega) k (by omega) (by omega)
        exact Int32.lt_of_lt_of_le e (Int32.not_lt.mp hx)
theorem p_same (hci : rz_ci v) (x n y m z : Int32) : rz_C xs xl 68 [.ref 0, .int x, .int n, .int y, .int m, .int z] (rz_w v a g) (rz_cp v a g (fun q => rz_pi q ∨ q = .inr 0 ∨ q = .inr 2 ∨ q = .inr 3)) := by
  refine ev_ps 1 rfl (ev_if (cd := .lt) rfl (fun h1 => ?_) (fun h1 => ?_))
  · exact ev_thr rfl ⟨Nat.le_of_ble_eq_true rfl, Nat.le_of_ble_eq_true rfl⟩ ⟨Or.inr (Or.inl rfl), v, a, rfl, rz_cf.rf, hci⟩
  refine ev_ps 2 rfl (ev_ic (cd := .gt) rfl (fun h2 => ?_) (fun h2 => ?_))
  · exact ev_thr rfl ⟨Nat.le_of_ble_eq_true rfl, Nat.le_of_ble_eq_true rfl⟩ ⟨Or.inr (Or.inl rfl), v, a, rfl, rz_cf.rf, hci⟩
  refine ev_ps 1 rfl (ev_if (cd := .lt) rfl (fun h3 => ?_) (fun h3 => ?_))
  · exact ev_thr rfl ⟨Nat.le_of_ble_eq_true rfl, Nat.le_of_ble_eq_true rfl⟩ ⟨Or.inr (Or.inl rfl), v, a, rfl, rz_cf.rf, hci⟩
  refine ev_ps 2 rfl (ev_ic (cd := .le) rfl (fun h4 => ?_) (fun h4 => ?_))
  rotate_left
  · exact ev_thr rfl ⟨Nat.le_of_ble_eq_true rfl, Nat.le_of_ble_eq_true rfl⟩ ⟨Or.inr (Or.inl rfl), v, a, rfl, rz_cf.rf, hci⟩
  refine ev_ps 1 rfl (ev_if (cd := .lt) rfl (fun h5 => ?_) (fun h5 => ?_))
  · exact ev_thr rfl ⟨Nat.le_of_ble_eq_true rfl, Nat.le_of_ble_eq_true rfl⟩ ⟨Or.inr (Or.inl rfl), v, a, rfl, rz_cf.rf, hci⟩
  refine ev_ps 2 rfl (ev_ic (cd := .le) rfl (fun h6 => ?_) (fun h6 => ?_))
  rotate_left
  · exact ev_thr rfl ⟨Nat.le_of_ble_eq_true rfl, Nat.le_of_ble_eq_true rfl⟩ ⟨Or.inr (Or.inl rfl), v, a, rfl, rz_cf.rf, hci⟩
  obtain ⟨k, hk, hv⟩ := hci.1
  refine ev_ps 4 rfl (ev_call (av := [_, _, _]) rfl rfl rfl rfl ⟨Nat.le_of_ble_eq_true rfl, rfl⟩ ⟨Nat.le_of_ble_eq_true rfl, Nat.le_of_ble_eq_true rfl⟩ (c_hasAll _ _) ?_)
  rintro _ _ ⟨⟨u1, hu1, hP1, rfl⟩, rfl⟩
  refine ev_if (cd := .eq) rfl (fun h7 => ?_) (fun h7 => ?_)
  · exact ev_thr rfl ⟨Nat.le_of_ble_eq_true rfl, Nat.le_of_ble_eq_true rfl⟩ ⟨Or.inr (Or.inr (Or.inl rfl)), v, a, rfl, rz_cf.rf, hci⟩
  have o1 := rz_okr_of hv hk (rc_lt_f h1) (rc_gt_f h2) (hP1 (hu1.resolve_left (rc_eq_f h7)))
  refine ev_ps 4 rfl (ev_call (av := [_, _, _]) rfl rfl rfl rfl ⟨Nat.le_of_ble_eq_true rfl, rfl⟩ ⟨Nat.le_of_ble_eq_true rfl, Nat.le_of_ble_eq_true rfl⟩ (c_hasAll _ _) ?_)
  rintro _ _ ⟨⟨u2, hu2, hP2, rfl⟩, rfl⟩
  refine ev_if (cd := .ne) rfl (fun h8 => ?_) (fun h8 => ?_)
  rotate_left
  · exact ev_thr rfl ⟨Nat.le_of_ble_eq_true rfl, Nat.le_of_ble_eq_true rfl⟩ ⟨Or.inr (Or.inr (Or.inl rfl)), v, a, rfl, rz_cf.rf, hci⟩
  have o2 := rz_okr_of hv hk (rc_lt_f h3) (Int32.not_lt.mpr (rc_le_t h4)) (hP2 (hu2.resolve_left (rc_ne_t h8)))
  refine ev_ps 4 rfl (ev_call (av := [_, _, _]) rfl rfl rfl rfl ⟨Nat.le_of_ble_eq_true rfl, rfl⟩ ⟨Nat.le_of_ble_eq_true rfl, Nat.le_of_ble_eq_true rfl⟩ (c_allPlainX o1) ?_)
  rintro _ _ ⟨⟨u3, hu3, -, rfl⟩, rfl⟩
  refine ev_if (cd := .eq) rfl (fun h9 => ?_) (fun h9 => ?_)
  · exact ev_thr rfl ⟨Nat.le_of_ble_eq_true rfl, Nat.le_of_ble_eq_true rfl⟩ ⟨Or.inr (Or.inr (Or.inr rfl)), v, a, rfl, rz_cf.rf, hci⟩
  refine ev_ps 4 rfl (ev_call (av := [_, _, _]) rfl rfl rfl rfl ⟨Nat.le_of_ble_eq_true rfl, rfl⟩ ⟨Nat.le_of_ble_eq_true rfl, Nat.le_of_ble_eq_true rfl⟩ (c_allPlainX o2) ?_)
  rintro _ _ ⟨⟨u4, hu4, -, rfl⟩, rfl⟩
  refine ev_if (cd := .ne) rfl (fun h10 => ?_) (fun h10 => ?_)
  rotate_left
  · exact ev_thr rfl ⟨Nat.le_of_ble_eq_true rfl, Nat.le_of_ble_eq_true rfl⟩ ⟨Or.inr (Or.inr (Or.inr rfl)), v, a, rfl, rz_cf.rf, hci⟩
  refine ev_ps 9 rfl (ev_call (av := [_, _, _, _, _, _, _]) rfl rfl rfl rfl ⟨Nat.le_of_ble_eq_true rfl, rfl⟩ ⟨Nat.le_of_ble_eq_true rfl, Nat.le_of_ble_eq_true rfl⟩ (c_agreeInProgram _ o1 o2) ?_)
  rintro _ _ ⟨⟨u5, hu5, rfl⟩, k1, k2, d, f1, f2, hk1, hk2, rfl⟩
  exact ev_ret rfl (show (if u5 = 0 ∨ u5 = 1 then some (some (Value.int u5)) else none) = _ from if_pos hu5) ⟨Or.inl ⟨_, rfl⟩, _, _, rfl, ((((rz_cf.rf.up (by decide) _).up (by decide) _).up (by decide) d).ua (by decide) f1).ua (by decide) f2, hci⟩
/-- what one of the law's own methods leaves -/
def rz_hp (v : Nat → Int32) (a : Nat → Nat → Int32) : rz_R → rz_W → Prop := fun q w' => (∃ u, q = .inl (some (.int u))) ∧ ∃ v' a' g', w' = rz_w v' a' g' ∧ rz_cf v a v' a' ∧ rz_ci v'
theorem l_add (hci : rz_ci v) (x0 x1 x2 x3 : Int32) : rz_C xs xl 104 [.ref 0, .int x0, .int x1, .int x2, .int x3, .ref 35] (rz_w v a g) (rz_hp v a) := by
  refine ev_ps 7 rfl (ev_call (av := [_, _, _, _, _]) rfl rfl rfl rfl ⟨Nat.le_of_ble_eq_true rfl, rfl⟩ ⟨Nat.le_of_ble_eq_true rfl, Nat.le_of_ble_eq_true rfl⟩ (p_add hci _ _ _ _) ?_)
  rintro _ _ ⟨⟨u, rfl⟩ | rfl | rfl, v2, a2, rfl, h1, h2⟩
  · exact ev_ps 4 rfl (ev_ret rfl rfl ⟨⟨_, rfl⟩, _, _, _, rfl, h1, h2⟩)
  · exact ⟨19, 6, rfl, ev_ps 1 rfl (ev_ret rfl rfl ⟨⟨_, rfl⟩, _, _, _, rfl, h1, h2⟩)⟩
  · exact ⟨23, 6, rfl, ev_ps 1 rfl (ev_ret rfl rfl ⟨⟨_, rfl⟩, _, _, _, rfl, h1, h2⟩)⟩
theorem l_replace (hci : rz_ci v) (x0 x1 x2 x3 x4 : Int32) : rz_C xs xl 105 [.ref 0, .int x0, .int x1, .int x2, .int x3, .int x4] (rz_w v a g) (rz_hp v a) := by
  refine ev_ps 6 rfl (ev_call (av := [_, _, _, _, _, _]) rfl rfl rfl rfl ⟨Nat.le_of_ble_eq_true rfl, rfl⟩ ⟨Nat.le_of_ble_eq_true rfl, Nat.le_of_ble_eq_true rfl⟩ (p_replace hci _ _ _ _ _) ?_)
  rintro _ _ ⟨rfl | rfl | rfl, v2, a2, rfl, h1, h2⟩
  · exact ev_ps 2 rfl (ev_ret rfl rfl ⟨⟨_, rfl⟩, _, _, _, rfl, h1, h2⟩)
  · exact ⟨16, 6, rfl, ev_ps 1 rfl (ev_ret rfl rfl ⟨⟨_, rfl⟩, _, _, _, rfl, h1, h2⟩)⟩
  · exact ⟨20, 6, rfl, ev_ps 1 rfl (ev_ret rfl rfl ⟨⟨_, rfl⟩, _, _, _, rfl, h1, h2⟩)⟩
theorem l_instruction (hci : rz_ci v) (x0 x1 : Int32) : rz_C xs xl 106 [.ref 0, .int x0, .int x1, .ref 35] (rz_w v a g) (rz_hp v a) := by
  refine ev_ps 5 rfl (ev_call (av := [_, _, _]) rfl rfl rfl rfl ⟨Nat.le_of_ble_eq_true rfl, rfl⟩ ⟨Nat.le_of_ble_eq_true rfl, Nat.le_of_ble_eq_true rfl⟩ (p_instruction hci _ _) ?_)
  rintro _ _ ⟨⟨u, rfl⟩ | rfl | rfl, v2, a2, rfl, h1, h2⟩
  · exact ev_ps 4 rfl (ev_ret rfl rfl ⟨⟨_, rfl⟩, _, _, _, rfl, h1, h2⟩)
  · exact ⟨15, 4, rfl, ev_ps 1 rfl (ev_ret rfl rfl ⟨⟨_, rfl⟩, _, _, _, rfl, h1, h2⟩)⟩
  · exact ⟨19, 4, rfl, ev_ps 1 rfl (ev_ret rfl rfl ⟨⟨_, rfl⟩, _, _, _, rfl, h1, h2⟩)⟩
theorem l_run (hci : rz_ci v) (x0 : Int32) : rz_C xs xl 108 [.ref 0, .int x0, .ref 35] (rz_w v a g) (rz_hp v a) := by
  refine ev_ps 4 rfl (ev_call (av := [_, _]) rfl rfl rfl rfl ⟨Nat.le_of_ble_eq_true rfl, rfl⟩ ⟨Nat.le_of_ble_eq_true rfl, Nat.le_of_ble_eq_true rfl⟩ (p_run hci _) ?_)
  rintro _ _ ⟨⟨u, rfl⟩ | rfl, v2, a2, rfl, h1, h2⟩
  · exact ev_ps 4 rfl (ev_ret rfl rfl ⟨⟨_, rfl⟩, _, _, _, rfl, h1, h2⟩)
  · exact ⟨13, 3, rfl, ev_ps 1 rfl (ev_ret rfl rfl ⟨⟨_, rfl⟩, _, _, _, rfl, h1, h2⟩)⟩
theorem l_live (hci : rz_ci v) (x0 : Int32) : rz_C xs xl 109 [.ref 0, .int x0, .ref 35] (rz_w v a g) (rz_hp v a) := by
  refine ev_ps 4 rfl (ev_call (av := [_, _]) rfl rfl rfl rfl ⟨Nat.le_of_ble_eq_true rfl, rfl⟩ ⟨Nat.le_of_ble_eq_true rfl, Nat.le_of_ble_eq_true rfl⟩ (p_live hci _) ?_)
  rintro _ _ ⟨⟨u, rfl⟩ | rfl, v2, a2, rfl, h1, h2⟩
  · exact ev_ps 4 rfl (ev_ret rfl rfl ⟨⟨_, rfl⟩, _, _, _, rfl, h1, h2⟩)
  · exact ⟨13, 3, rfl, ev_ps 1 rfl (ev_ret rfl rfl ⟨⟨_, rfl⟩, _, _, _, rfl, h1, h2⟩)⟩
theorem l_block (hci : rz_ci v) (x0 : Int32) : rz_C xs xl 110 [.ref 0, .int x0, .ref 35] (rz_w v a g) (rz_hp v a) := by
  refine ev_ps 4 rfl (ev_call (av := [_, _]) rfl rfl rfl rfl ⟨Nat.le_of_ble_eq_true rfl, rfl⟩ ⟨Nat.le_of_ble_eq_true rfl, Nat.le_of_ble_eq_true rfl⟩ (p_block hci _) ?_)
  rintro _ _ ⟨⟨u, rfl⟩ | rfl, v2, a2, rfl, h1, h2⟩
  · exact ev_ps 4 rfl (ev_ret rfl rfl ⟨⟨_, rfl⟩, _, _, _, rfl, h1, h2⟩)
  · exact ⟨13, 3, rfl, ev_ps 1 rfl (ev_ret rfl rfl ⟨⟨_, rfl⟩, _, _, _, rfl, h1, h2⟩)⟩
theorem l_same (hci : rz_ci v) (x0 x1 x2 x3 x4 : Int32) : rz_C xs xl 111 [.ref 0, .int x0, .int x1, .int x2, .int x3, .int x4, .ref 35] (rz_w v a g) (rz_hp v a) := by
  refine ev_ps 8 rfl (ev_call (av := [_, _, _, _, _, _]) rfl rfl rfl rfl ⟨Nat.le_of_ble_eq_true rfl, rfl⟩ ⟨Nat.le_of_ble_eq_true rfl, Nat.le_of_ble_eq_true rfl⟩ (p_same hci _ _ _ _ _) ?_)
  rintro _ _ ⟨⟨u, rfl⟩ | rfl | rfl | rfl, v2, a2, rfl, h1, h2⟩
  · refine ev_if (cd := .eq) rfl (fun h => ?_) (fun h => ?_)
    · exact ev_ps 4 rfl (ev_ret rfl rfl ⟨⟨_, rfl⟩, _, _, _, rfl, h1, h2⟩)
    · exact ev_ps 5 rfl (ev_ret rfl rfl ⟨⟨_, rfl⟩, _, _, _, rfl, h1, h2⟩)
  · exact ⟨28, 7, rfl, ev_ps 1 rfl (ev_ret rfl rfl ⟨⟨_, rfl⟩, _, _, _, rfl, h1, h2⟩)⟩
  · exact ⟨32, 7, rfl, ev_ps 1 rfl (ev_ret rfl rfl ⟨⟨_, rfl⟩, _, _, _, rfl, h1, h2⟩)⟩
  · exact ⟨36, 7, rfl, ev_ps 1 rfl (ev_ret rfl rfl ⟨⟨_, rfl⟩, _, _, _, rfl, h1, h2⟩)⟩
theorem l_start (hci : rz_ci v) (x y : Int32) : rz_C xs xl 107 [.ref 0, .int x, .int y] (rz_w v a g) (fun q w' => ((q = .inl (some (.int 0)) ∧ rz_sok x y) ∨ (q = .inl (some (.int 1)) ∧ ¬ rz_sok x y)) ∧ ∃ v' a' g', w' = rz_w v' a' g' ∧ rz_cf v a v' a' ∧ rz_ci v') := by
  refine ev_ps 3 rfl (ev_call (av := [_, _, _]) rfl rfl rfl rfl ⟨Nat.le_of_ble_eq_true rfl, rfl⟩ ⟨Nat.le_of_ble_eq_true rfl, Nat.le_of_ble_eq_true rfl⟩ (p_start hci _ _) ?_)
  rintro _ _ ⟨⟨rfl, hs⟩ | ⟨rfl, hs⟩, v2, a2, rfl, h1, h2⟩
  · exact ev_ps 2 rfl (ev_ret rfl rfl ⟨Or.inl ⟨rfl, hs⟩, _, _, _, rfl, h1, h2⟩)
  · exact ⟨10, 3, rfl, ev_ps 1 rfl (ev_ret rfl rfl ⟨Or.inr ⟨rfl, hs⟩, _, _, _, rfl, h1, h2⟩)⟩
end RZP6
end
section
/-! the reference (place 25): its small methods -/
section RZM1
variable {xs : Nat → Int32} {xl : Nat} {v : Nat → Int32} {a : Nat → Nat → Int32} {g : Nat → Int64} {w : rz_W}
/-- a row of the reference's program -/
def rz_LI (o d s t : Int32) : Prop := ∃ o' d' s' t' : Nat, o = Int32.ofNat o' ∧ d = Int32.ofNat d' ∧ s = Int32.ofNat s' ∧ t = Int32.ofNat t' ∧ o' ≤ 15 ∧ d' ≤ 3 ∧ s' ≤ 3 ∧ t' ≤ 24 ∧ (o' ≤ 5 → t' ≤ 3)
def rz_li (a : Nat → Nat → Int32) (k : Nat) : Prop := rz_LI (a 20 k) (a 21 k) (a 22 k) (a 23 k)
def rz_sm (f : Nat → Int32) (n : Nat) : Prop := ∀ k, k < n → ∃ j : Nat, j ≤ 15 ∧ f k = Int32.ofNat j
/-- the reference's part of the world in order -/
def rz_mi (v : Nat → Int32) (a : Nat → Nat → Int32) : Prop := (∃ n : Nat, n ≤ 24 ∧ v 21 = Int32.ofNat n ∧ ∀ k, k < n → rz_li a k) ∧ rz_li a 24 ∧ rz_sm (a 24) 12 ∧ rz_sm (a 25) 12
def rz_mf (v : Nat → Int32) (a : Nat → Nat → Int32) (v' : Nat → Int32) (a' : Nat → Nat → Int32) : Prop := (∀ k, k < 20 → v' k = v k) ∧ ∀ k, k < 20 → a' k = a k
theorem rz_mf.rf : rz_mf v a v a := ⟨fun _ _ => rfl, fun _ _ => rfl⟩
theorem rz_mf.up {v' : Nat → Int32} {a' : Nat → Nat → Int32} (h : rz_mf v a v' a') {k : Nat} (hk : 20 ≤ k) (x : Int32) : rz_mf v a (rz_up v' k x) a' :=
  ⟨fun j hj => (if_neg (by omega)).trans (h.1 j hj), h.2⟩
theorem rz_mf.ua {v' : Nat → Int32} {a' : Nat → Nat → Int32} (h : rz_mf v a v' a') {k : Nat} (hk : 20 ≤ k) (f : Nat → Int32) : rz_mf v a v' (rz_ua a' k f) :=
  ⟨h.1, fun j hj => (if_neg (by omega)).trans (h.2 j hj)⟩
theorem rz_mf.tr {v1 v2 : Nat → Int32} {a1 a2 : Nat → Nat → Int32} (h : rz_mf v a v1 a1) (h2 : rz_mf v1 a1 v2 a2) : rz_mf v a v2 a2 :=
  ⟨fun j hj => (h2.1 j hj).trans (h.1 j hj), fun j hj => (h2.2 j hj).trans (h.2 j hj)⟩
def rz_mp (v : Nat → Int32) (a : Nat → Nat → Int32) (g : Nat → Int64) (P : rz_R → Prop) : rz_R → rz_W → Prop := fun q w' => P q ∧ ∃ v' a', w' = rz_w v' a' g ∧ rz_mf v a v' a' ∧ rz_mi v' a'
theorem m_in (x l h : Int32) : rz_C xs xl 73 [.int x, .int l, .int h] w (fun q w' => (∃ u : Int32, ((u = 1 ∧ ¬ x < l ∧ ¬ h < x) ∨ (u = 0 ∧ ¬ (¬ x < l ∧ ¬ h < x))) ∧ q = .inl (some (.int u))) ∧ w' = w) := by
  refine ev_ps 2 rfl (ev_ic (cd := .lt) rfl (fun h1 => ?_) (fun h1 => ?_))
  · exact ev_ps 1 rfl (ev_ret rfl rfl ⟨⟨0, Or.inr ⟨rfl, fun q => q.1 (rc_lt_t h1)⟩, rfl⟩, rfl⟩)
  · refine ev_ps 2 rfl (ev_ic (cd := .gt) rfl (fun h2 => ?_) (fun h2 => ?_))
    · exact ev_ps 1 rfl (ev_ret rfl rfl ⟨⟨0, Or.inr ⟨rfl, fun q => q.2 (rc_gt_t h2)⟩, rfl⟩, rfl⟩)
    · exact ev_ps 2 rfl (ev_ret rfl rfl ⟨⟨1, Or.inl ⟨rfl, rc_lt_f h1, rc_gt_f h2⟩, rfl⟩, rfl⟩)
def rz_bit (r : Int32) : Int32 := if r = 0 then 0 else 1 <<< (r &&& 31)
theorem m_bit (r : Int32) : rz_C xs xl 88 [.int r] w (fun q w' => q = .inl (some (.int (rz_bit r))) ∧ w' = w) := by
  refine ev_ps 1 rfl (ev_if (cd := .ne) rfl (fun h => ?_) (fun h => ?_))
  · exact ev_ps 3 rfl (ev_ret rfl rfl ⟨by rw [rz_bit, if_neg (rc_ne_t h)]; rfl, rfl⟩)
  · exact ev_ps 2 rfl (ev_ret rfl rfl ⟨by rw [rz_bit, if_pos (rc_ne_f h)]; rfl, rfl⟩)
theorem m_thrown : rz_C xs xl 70 [.ref 25] (rz_w v a g) (fun q w' => q = .inl (some (.int (v 20))) ∧ w' = rz_w v a g) :=
  ev_ps 2 rfl (ev_ret rfl rfl ⟨rfl, rfl⟩)
theorem m_made (x y z : Int32) : rz_C xs xl 83 [.int x, .int y, .int z] w (fun q w' => (∃ j : Nat, j ≤ 15 ∧ q = .inl (some (.int (Int32.ofNat j)))) ∧ w' = w) := by
  have fin : ∀ t : Int32, rz_E xs xl 83 93 [some (.int x), some (.int y), some (.int z), none] [.int t] w 0 0 (fun q w' => (∃ j : Nat, j ≤ 15 ∧ q = .inl (some (.int (Int32.ofNat j)))) ∧ w' = w) := by
    intro t
    obtain ⟨j, hj, e⟩ := rz_mask t 15 (by decide)
    exact ev_ps 4 rfl (ev_ret rfl rfl ⟨⟨j, hj, by rw [← e]; rfl⟩, rfl⟩)
  refine ev_ps 1 rfl (ev_if (cd := .eq) rfl (fun h1 => ?_) (fun h1 => ?_))
  · refine ev_ps 4 rfl ?_
    exact fin _
  · refine ev_ps 2 rfl (ev_ic (cd := .ne) rfl (fun h2 => ?_) (fun h2 => ?_))
    · refine ev_ps 2 rfl (ev_ic (cd := .ne) rfl (fun h3 => ?_) (fun h3 => ?_))
      · refine ev_ps 2 rfl (ev_ic (cd := .eq) rfl (fun h4 => ?_) (fun h4 => ?_))
        · refine ev_ps 4 rfl ?_
          exact fin _
        · refine ev_ps 2 rfl (ev_ic (cd := .ne) rfl (fun h5 => ?_) (fun h5 => ?_))
          · refine ev_ps 2 rfl (ev_ic (cd := .ne) rfl (fun h6 => ?_) (fun h6 => ?_))
            · refine ev_ps 2 rfl (ev_ic (cd := .eq) rfl (fun h7 => ?_) (fun h7 => ?_))
              · refine ev_ps 4 rfl ?_
                exact fin _
              · refine ev_ps 2 rfl (ev_ic (cd := .ne) rfl (fun h8 => ?_) (fun h8 => ?_))
                · refine ev_ps 2 rfl (ev_ic (cd := .ne) rfl (fun h9 => ?_) (fun h9 => ?_))
                  · refine ev_ps 3 rfl ?_
                    exact fin _
                  · refine ev_ps 2 rfl (ev_ic (cd := .ge) rfl (fun h10 => ?_) (fun h10 => ?_))
                    · refine ev_ps 2 rfl ?_
                      exact fin _
                    · refine ev_ps 2 rfl ?_
                      exact fin _
                · refine ev_ps 4 rfl ?_
                  exact fin _
            · refine ev_ps 4 rfl ?_
              exact fin _
          · refine ev_ps 4 rfl ?_
            exact fin _
      · refine ev_ps 4 rfl ?_
        exact fin _
    · refine ev_ps 4 rfl ?_
      exact fin _
/-- the four arrays with a row put in -/
def rz_pt (a : Nat → Nat → Int32) (k : Nat) (o d s t : Int32) : Nat → Nat → Int32 := rz_ua (rz_ua (rz_ua (rz_ua a 20 (upd (a 20) k o)) 21 (upd (a 21) k d)) 22 (upd (a 22) k s)) 23 (upd (a 23) k t)
theorem rz_pt_li {k j : Nat} {o d s t : Int32} (h : j = k → rz_LI o d s t) (h2 : j ≠ k → rz_li a j) : rz_li (rz_pt a k o d s t) j := by
  show rz_LI (upd (a 20) k o j) (upd (a 21) k d j) (upd (a 22) k s j) (upd (a 23) k t j)
  by_cases hj : j = k
  · simp only [upd, hj, if_true]
    exact h hj
  · simp only [upd, hj, if_false]
    exact h2 hj
theorem rz_pt_mf {v' : Nat → Int32} {a' : Nat → Nat → Int32} {k : Nat} {o d s t : Int32} (h : rz_mf v a v' a') : rz_mf v a v' (rz_pt a' k o d s t) :=
  (((h.ua (by omega) _).ua (by omega) _).ua (by omega) _).ua (by omega) _
theorem m_put {k : Nat} (hk : k < 25) (x y z u : Int32) : rz_C xs xl 74 [.ref 25, .int (Int32.ofNat k), .int x, .int y, .int z, .int u] (rz_w v a g) (fun q w' => q = .inl none ∧ w' = rz_w v (rz_pt a k x y z u) g) := by
  have e := rz_clamp (k := k) (by omega)
  refine ev_ps 4 rfl (ev_ast rfl rfl (rz_in hk (by decide)) ?_)
  refine ev_w (w2 := rz_w v (rz_ua a 20 (upd (a 20) k x)) g) (by rw [e]; rfl) ?_
  refine ev_ps 4 rfl (ev_ast rfl rfl (rz_in hk (by decide)) ?_)
  refine ev_w (w2 := rz_w v (rz_ua (rz_ua a 20 (upd (a 20) k x)) 21 (upd (a 21) k y)) g) (by rw [e]; rfl) ?_
  refine ev_ps 4 rfl (ev_ast rfl rfl (rz_in hk (by decide)) ?_)
  refine ev_w (w2 := rz_w v (rz_ua (rz_ua (rz_ua a 20 (upd (a 20) k x)) 21 (upd (a 21) k y)) 22 (upd (a 22) k z)) g) (by rw [e]; rfl) ?_
  refine ev_ps 4 rfl (ev_ast rfl rfl (rz_in hk (by decide)) ?_)
  exact ev_ret rfl rfl ⟨rfl, by rw [e]; rfl⟩
theorem rz_le_nat {x : Int32} {b : Nat} (hb : b < 2 ^ 31) (h0 : ¬ x < 0) (h1 : ¬ Int32.ofNat b < x) : ∃ k : Nat, k ≤ b ∧ x = Int32.ofNat k := by
  obtain ⟨k, hk, rfl⟩ := rz_nat h0
  exact ⟨k, Nat.not_lt.mp fun q => h1 ((rz_lt_iff hb hk).mpr q), rfl⟩
theorem m_isInstruction (x y z u : Int32) : rz_C xs xl 72 [.int x, .int y, .int z, .int u] w (rz_bo w (rz_LI x y z u)) := by
  have no : rz_E xs xl 72 28 [some (.int x), some (.int y), some (.int z), some (.int u), none] [] w 0 0 (rz_bo w (rz_LI x y z u)) := ev_ps 1 rfl (ev_ret rfl rfl rz_bo0)
  have no2 : ∀ t, rz_E xs xl 72 103 [some (.int x), some (.int y), some (.int z), some (.int u), t] [] w 0 0 (rz_bo w (rz_LI x y z u)) := fun t => ev_ps 1 rfl (ev_ret rfl rfl rz_bo0)
  refine ev_ps 3 rfl (ev_call (av := [_, _, _]) rfl rfl rfl rfl ⟨Nat.le_of_ble_eq_true rfl, rfl⟩ ⟨Nat.le_of_ble_eq_true rfl, Nat.le_of_ble_eq_true rfl⟩ (m_in _ _ _) ?_)
  rintro _ w ⟨⟨u1, h1, rfl⟩, rfl⟩
  refine ev_if (cd := .eq) rfl (fun e => no) (fun e1 => ?_)
  obtain ⟨-, x0, x1⟩ := h1.resolve_right (fun q => rc_eq_f e1 q.1)
  refine ev_ps 3 rfl (ev_call (av := [_, _, _]) rfl rfl rfl rfl ⟨Nat.le_of_ble_eq_true rfl, rfl⟩ ⟨Nat.le_of_ble_eq_true rfl, Nat.le_of_ble_eq_true rfl⟩ (m_in _ _ _) ?_)
  rintro _ w ⟨⟨u2, h2, rfl⟩, rfl⟩
  refine ev_if (cd := .eq) rfl (fun e => no) (fun e2 => ?_)
  obtain ⟨-, y0, y1⟩ := h2.resolve_right (fun q => rc_eq_f e2 q.1)
  refine ev_ps 3 rfl (ev_call (av := [_, _, _]) rfl rfl rfl rfl ⟨Nat.le_of_ble_eq_true rfl, rfl⟩ ⟨Nat.le_of_ble_eq_true rfl, Nat.le_of_ble_eq_true rfl⟩ (m_in _ _ _) ?_)
  rintro _ w ⟨⟨u3, h3, rfl⟩, rfl⟩
  refine ev_if (cd := .ne) rfl (fun e3 => ?_) (fun e => no)
  obtain ⟨-, z0, z1⟩ := h3.resolve_right (fun q => rc_ne_t e3 q.1)
  obtain ⟨o', ho, rfl⟩ := rz_le_nat (b := 15) (by decide) x0 x1
  obtain ⟨d', hd, rfl⟩ := rz_le_nat (b := 3) (by decide) y0 y1
  obtain ⟨s', hs, rfl⟩ := rz_le_nat (b := 3) (by decide) z0 z1
  have main : ∀ b : Nat, b ≤ 24 → (o' ≤ 5 → b ≤ 3) → rz_E xs xl 72 73 [some (.int (Int32.ofNat o')), some (.int (Int32.ofNat d')), some (.int (Int32.ofNat s')), some (.int u), none] [.int (Int32.ofNat b)] w 0 0 (rz_bo w (rz_LI (Int32.ofNat o') (Int32.ofNat d') (Int32.ofNat s') u)) := by
    intro b hb hb3
    refine ev_ps 4 rfl (ev_call (av := [_, _, _]) rfl rfl rfl rfl ⟨Nat.le_of_ble_eq_true rfl, rfl⟩ ⟨Nat.le_of_ble_eq_true rfl, Nat.le_of_ble_eq_true rfl⟩ (m_in _ _ _) ?_)
    rintro _ _ ⟨⟨u4, h4, rfl⟩, rfl⟩
    refine ev_if (cd := .eq) rfl (fun e => no2 _) (fun e4 => ?_)
    obtain ⟨-, t0, t1⟩ := h4.resolve_right (fun q => rc_eq_f e4 q.1)
    obtain ⟨t', ht, rfl⟩ := rz_le_nat (b := b) (by omega) t0 t1
    have hLI : rz_LI (Int32.ofNat o') (Int32.ofNat d') (Int32.ofNat s') (Int32.ofNat t') := ⟨o', d', s', t', rfl, rfl, rfl, rfl, ho, hd, hs, by omega, fun h => by have := hb3 h; omega⟩
    refine ev_ps 2 rfl (ev_ic (cd := .lt) rfl (fun e => ?_) (fun e => ?_))
    · exact ev_ps 2 rfl (ev_ret rfl rfl (rz_bo1 hLI))
    · refine ev_ps 1 rfl (ev_if (cd := .ne) rfl (fun e => no2 _) (fun e => ?_))
      refine ev_ps 1 rfl (ev_if (cd := .ne) rfl (fun e => no2 _) (fun e => ?_))
      exact ev_ps 2 rfl (ev_ret rfl rfl (rz_bo1 hLI))
  refine ev_ps 2 rfl (ev_ic (cd := .gt) rfl (fun e5 => ?_) (fun e5 => ?_))
  · have h5 : 5 < o' := rn_gt_t (k := 5) (by omega) (by omega) e5
    refine ev_ps 2 rfl (ev_ic (cd := .gt) rfl (fun e => ?_) (fun e => ?_))
    · refine ev_ps 2 rfl (ev_ic (cd := .gt) rfl (fun e => ?_) (fun e => ?_))
      · refine ev_ps 2 rfl (ev_ic (cd := .gt) rfl (fun e => ?_) (fun e => ?_))
        · exact ev_ps 1 rfl (main 0 (by omega) (by omega))
        · exact ev_ps 2 rfl (main 24 (by omega) (by omega))
      · exact ev_ps 2 rfl (main 7 (by omega) (by omega))
    · exact ev_ps 2 rfl (main 15 (by omega) (by omega))
  · exact ev_ps 2 rfl (main 3 (by omega) (by omega))
theorem m_clear (hmi : rz_mi v a) : rz_C xs xl 76 [.ref 25] (rz_w v a g) (rz_mp v a g rz_pi) := by
  refine ev_ps 3 rfl (ev_w (w2 := rz_w (rz_up v 20 0) a g) rfl ?_)
  refine ev_ps 6 rfl (ev_w (w2 := rz_w (rz_up (rz_up v 20 0) 21 0) a g) rfl ?_)
  exact ev_ps 1 rfl (ev_ret rfl rfl ⟨⟨_, rfl⟩, _, _, rfl, (rz_mf.rf.up (by omega) _).up (by omega) _, ⟨0, by omega, rfl, fun k hk => absurd hk (by omega)⟩, hmi.2⟩)
theorem m_size (hmi : rz_mi v a) : rz_C xs xl 77 [.ref 25] (rz_w v a g) (rz_mp v a g rz_pi) := by
  refine ev_ps 3 rfl (ev_w (w2 := rz_w (rz_up v 20 0) a g) rfl ?_)
  exact ev_ps 2 rfl (ev_ret rfl rfl ⟨⟨_, rfl⟩, _, _, rfl, rz_mf.rf.up (by omega) _, hmi⟩)
theorem m_count (hmi : rz_mi v a) (x : Int32) : rz_C xs xl 103 [.ref 25, .int x] (rz_w v a g) (rz_mp v a g rz_pi) := by
  refine ev_ps 3 rfl (ev_w (w2 := rz_w (rz_up v 20 0) a g) rfl ?_)
  refine ev_ps 1 rfl (ev_if (cd := .ne) rfl (fun h1 => ?_) (fun h1 => ?_))
  · refine ev_ps 2 rfl (ev_ic (cd := .ne) rfl (fun h2 => ?_) (fun h2 => ?_))
    · refine ev_ps 2 rfl (ev_ic (cd := .ne) rfl (fun h3 => ?_) (fun h3 => ?_))
      · exact ev_ps 1 rfl (ev_ret rfl rfl ⟨⟨_, rfl⟩, _, _, rfl, rz_mf.rf.up (by omega) _, hmi⟩)
      · exact ev_ps 3 rfl (ev_ret rfl rfl ⟨⟨_, rfl⟩, _, _, rfl, rz_mf.rf.up (by omega) _, hmi⟩)
    · exact ev_ps 3 rfl (ev_ret rfl rfl ⟨⟨_, rfl⟩, _, _, rfl, rz_mf.rf.up (by omega) _, hmi⟩)
  · exact ev_ps 3 rfl (ev_ret rfl rfl ⟨⟨_, rfl⟩, _, _, rfl, rz_mf.rf.up (by omega) _, hmi⟩)
theorem m_result (hmi : rz_mi v a) (x : Int32) : rz_C xs xl 84 [.ref 25, .int x] (rz_w v a g) (rz_mp v a g rz_pi) := by
  refine ev_ps 3 rfl (ev_w (w2 := rz_w (rz_up v 20 0) a g) rfl ?_)
  refine ev_ps 2 rfl (ev_ic (cd := .ne) rfl (fun h => ?_) (fun h => ?_))
  · refine ev_ps 2 rfl (ev_ic (cd := .ne) rfl (fun h => ?_) (fun h => ?_))
    · refine ev_ps 3 rfl (ev_call (av := [_, _, _]) rfl rfl rfl rfl ⟨Nat.le_of_ble_eq_true rfl, rfl⟩ ⟨Nat.le_of_ble_eq_true rfl, Nat.le_of_ble_eq_true rfl⟩ (m_in _ _ _) ?_)
      rintro _ _ ⟨⟨u1, h1, rfl⟩, rfl⟩
      refine ev_if (cd := .eq) rfl (fun e => ?_) (fun e1 => ?_)
      · exact ev_ps 1 rfl (ev_ret rfl rfl ⟨⟨_, rfl⟩, _, _, rfl, rz_mf.rf.up (by omega) _, hmi⟩)
      · obtain ⟨-, x0, x1⟩ := h1.resolve_right (fun q => rc_eq_f e1 q.1)
        obtain ⟨k, hk, rfl⟩ := rz_le_nat (b := 11) (by decide) x0 x1
        refine ev_ps 3 rfl (ev_ald rfl rfl (rz_in (by omega) (by decide)) ?_)
        exact ev_ps 1 rfl (ev_ret rfl rfl ⟨⟨_, rfl⟩, _, _, rfl, rz_mf.rf.up (by omega) _, hmi⟩)
    · exact ev_ps 3 rfl (ev_ret rfl rfl ⟨⟨_, rfl⟩, _, _, rfl, rz_mf.rf.up (by omega) _, hmi⟩)
  · exact ev_ps 3 rfl (ev_ret rfl rfl ⟨⟨_, rfl⟩, _, _, rfl, rz_mf.rf.up (by omega) _, hmi⟩)
theorem m_start (hmi : rz_mi v a) (x y : Int32) : rz_C xs xl 79 [.ref 25, .int x, .int y] (rz_w v a g) (fun q w' => q = .inl none ∧ ∃ v' a', w' = rz_w v' a' g ∧ rz_mf v a v' a' ∧ rz_mi v' a' ∧ ((v' 20 = 0 ∧ rz_sok x y) ∨ (v' 20 = 1 ∧ ¬ rz_sok x y))) := by
  have no : ¬ rz_sok x y → rz_E xs xl 79 25 [some (.ref 25), some (.int x), some (.int y)] [.ref 25] (rz_w v a g) 0 0 (fun q w' => q = .inl none ∧ ∃ v' a', w' = rz_w v' a' g ∧ rz_mf v a v' a' ∧ rz_mi v' a' ∧ ((v' 20 = 0 ∧ rz_sok x y) ∨ (v' 20 = 1 ∧ ¬ rz_sok x y))) := by
    intro hno
    refine ev_ps 2 rfl (ev_w (w2 := rz_w (rz_up v 20 1) a g) rfl ?_)
    refine ev_ps 2 rfl (ev_if (cd := .ne) rfl (fun h => ?_) (fun h => absurd (rc_ne_f h) (show ¬ (1 : Int32) = 0 by decide)))
    exact ev_ret rfl rfl ⟨rfl, _, _, rfl, rz_mf.rf.up (by omega) _, hmi, Or.inr ⟨rfl, hno⟩⟩
  refine ev_ps 4 rfl (ev_call (av := [_, _, _]) rfl rfl rfl rfl ⟨Nat.le_of_ble_eq_true rfl, rfl⟩ ⟨Nat.le_of_ble_eq_true rfl, Nat.le_of_ble_eq_true rfl⟩ (m_in _ _ _) ?_)
  rintro _ _ ⟨⟨u1, h1, rfl⟩, rfl⟩
  refine ev_if (cd := .eq) rfl (fun e => no ?_) (fun e1 => ?_)
  · intro hok
    rcases h1 with ⟨q, -⟩ | ⟨-, q⟩
    · rw [rc_eq_t e] at q; exact absurd q (by decide)
    · refine q ⟨hok.1, ?_⟩
      intro q2
      have : x < 12 := hok.2.1
      obtain ⟨k, hk, rfl⟩ := rz_idx (n := 12) (by decide) (fun h => hok.1 (Int32.lt_trans h (by decide))) this
      have := (rz_lt_iff (n := 11) (by omega) (by omega)).mp q2
      omega
  obtain ⟨-, x0, x1⟩ := h1.resolve_right (fun q => rc_eq_f e1 q.1)
  refine ev_ps 3 rfl (ev_call (av := [_, _, _]) rfl rfl rfl rfl ⟨Nat.le_of_ble_eq_true rfl, rfl⟩ ⟨Nat.le_of_ble_eq_true rfl, Nat.le_of_ble_eq_true rfl⟩ (m_in _ _ _) ?_)
  rintro _ _ ⟨⟨u2, h2, rfl⟩, rfl⟩
  refine ev_if (cd := .eq) rfl (fun e => no ?_) (fun e2 => ?_)
  · intro hok
    rcases h2 with ⟨q, -⟩ | ⟨-, q⟩
    · rw [rc_eq_t e] at q; exact absurd q (by decide)
    · exact q ⟨hok.2.2.1, hok.2.2.2⟩
  obtain ⟨-, y0, y1⟩ := h2.resolve_right (fun q => rc_eq_f e2 q.1)
  obtain ⟨k, hk, rfl⟩ := rz_le_nat (b := 11) (by decide) (fun h => x0 (Int32.lt_trans h (by decide))) x1
  obtain ⟨j, hj, rfl⟩ := rz_le_nat (b := 15) (by decide) y0 y1
  have hok : rz_sok (Int32.ofNat k) (Int32.ofNat j) := ⟨x0, (rz_lt_iff (k := 12) (by omega) (by omega)).mpr (by omega), y0, y1⟩
  refine ev_ps 3 rfl (ev_w (w2 := rz_w (rz_up v 20 0) a g) rfl ?_)
  refine ev_ps 2 rfl (ev_if (cd := .ne) rfl (fun h => absurd rfl (rc_ne_t h)) (fun h => ?_))
  refine ev_ps 4 rfl (ev_ast rfl rfl (rz_in (by omega) (by decide)) ?_)
  refine ev_w (w2 := rz_w (rz_up v 20 0) (rz_ua a 24 (upd (a 24) k (Int32.ofNat j))) g) (by rw [rz_clamp (by omega)]; rfl) ?_
  refine ev_ret rfl rfl ⟨rfl, _, _, rfl, (rz_mf.rf.up (by omega) _).ua (by omega) _, ⟨hmi.1, hmi.2.1, ?_, hmi.2.2.2⟩, Or.inl ⟨rfl, hok⟩⟩
  intro i hi
  show ∃ j', j' ≤ 15 ∧ upd (a 24) k (Int32.ofNat j) i = Int32.ofNat j'
  by_cases hik : i = k
  · exact ⟨j, hj, by simp [upd, hik]⟩
  · obtain ⟨j', hj', e⟩ := hmi.2.2.1 i hi
    exact ⟨j', hj', by simp [upd, hik]; exact e⟩
theorem rz_sub1 {n : Nat} (hn : n ≤ 24) {x : Int32} (h0 : ¬ x < 0) (h1 : ¬ Int32.ofNat n - 1 < x) : ∃ k, k < n ∧ x = Int32.ofNat k := by
  rcases Nat.eq_zero_or_pos n with rfl | hn0
  · exact absurd (Int32.lt_of_lt_of_le (by decide : Int32.ofNat 0 - 1 < 0) (Int32.not_lt.mp h0)) h1
  · rw [show Int32.ofNat n - 1 = Int32.ofNat (n - 1) from rz_sub (n := 1) hn0] at h1
    obtain ⟨k, hk, rfl⟩ := rz_le_nat (by omega) h0 h1
    exact ⟨k, by omega, rfl⟩
theorem m_add (hmi : rz_mi v a) (x0 x1 x2 x3 : Int32) : rz_C xs xl 71 [.ref 25, .int x0, .int x1, .int x2, .int x3] (rz_w v a g) (rz_mp v a g rz_pi) := by
  have no : ∀ c : Int32, c ≠ 0 → rz_E xs xl 71 30 [some (.ref 25), some (.int x0), some (.int x1), some (.int x2), some (.int x3)] [.int c, .ref 25] (rz_w v a g) 0 0 (rz_mp v a g rz_pi) := by
    intro c hc
    refine ev_ps 1 rfl (ev_w (w2 := rz_w (rz_up v 20 c) a g) rfl ?_)
    refine ev_ps 2 rfl (ev_if (cd := .eq) rfl (fun h => absurd (rc_eq_t h) hc) (fun h => ?_))
    exact ev_ps 1 rfl (ev_ret rfl rfl ⟨⟨_, rfl⟩, _, _, rfl, rz_mf.rf.up (by omega) _, hmi⟩)
  refine ev_ps 5 rfl (ev_call (av := [_, _, _, _]) rfl rfl rfl rfl ⟨Nat.le_of_ble_eq_true rfl, rfl⟩ ⟨Nat.le_of_ble_eq_true rfl, Nat.le_of_ble_eq_true rfl⟩ (m_isInstruction _ _ _ _) ?_)
  rintro _ _ ⟨⟨u1, hu1, hP, rfl⟩, rfl⟩
  refine ev_if (cd := .ne) rfl (fun e1 => ?_) (fun e1 => ev_ps 2 rfl (no 1 (by decide)))
  have hLI := hP (hu1.resolve_left (rc_ne_t e1))
  refine ev_ps 3 rfl (ev_ic (cd := .ne) rfl (fun e2 => ?_) (fun e2 => ev_ps 2 rfl (no 2 (by decide))))
  obtain ⟨n, hn, hv, hrows⟩ := hmi.1
  have hn24 : n < 24 := by
    rcases Nat.lt_or_ge n 24 with h | h
    · exact h
    · exact absurd (by rw [hv]; exact congrArg Int32.ofNat (by omega : n = 24)) (rc_ne_t e2)
  refine ev_ps 2 rfl (ev_w (w2 := rz_w (rz_up v 20 0) a g) rfl ?_)
  refine ev_ps 2 rfl (ev_if (cd := .eq) rfl (fun h => ?_) (fun h => absurd rfl (rc_eq_f h)))
  refine ev_ps 7 rfl ?_
  refine ev_call (av := [.ref 25, .int (Int32.ofNat n), .int x0, .int x1, .int x2, .int x3]) rfl (by rw [← hv]; rfl) rfl rfl ⟨Nat.le_of_ble_eq_true rfl, rfl⟩ ⟨Nat.le_of_ble_eq_true rfl, Nat.le_of_ble_eq_true rfl⟩ (m_put (by omega) _ _ _ _) ?_
  rintro _ _ ⟨rfl, rfl⟩
  refine ev_ps 6 rfl (ev_w (w2 := rz_w (rz_up (rz_up v 20 0) 21 (Int32.ofNat (n + 1))) (rz_pt a n x0 x1 x2 x3) g) (by rw [← rz_succ n, ← hv]; rfl) ?_)
  refine ev_ps 4 rfl (ev_ret rfl rfl ⟨⟨_, rfl⟩, _, _, rfl, rz_pt_mf ((rz_mf.rf.up (by omega) _).up (by omega) _), ⟨n + 1, by omega, rfl, fun k hk => rz_pt_li (fun _ => hLI) (fun hne => hrows k (by omega))⟩, rz_pt_li (fun _ => hLI) (fun _ => hmi.2.1), hmi.2.2⟩)
theorem m_replace (hmi : rz_mi v a) (x0 x1 x2 x3 x4 : Int32) : rz_C xs xl 75 [.ref 25, .int x0, .int x1, .int x2, .int x3, .int x4] (rz_w v a g) (rz_mp v a g (fun q => q = .inl none)) := by
  have no : ∀ c : Int32, c ≠ 0 → rz_E xs xl 75 36 [some (.ref 25), some (.int x0), some (.int x1), some (.int x2), some (.int x3), some (.int x4)] [.int c, .ref 25] (rz_w v a g) 0 0 (rz_mp v a g (fun q => q = .inl none)) := by
    intro c hc
    refine ev_ps 1 rfl (ev_w (w2 := rz_w (rz_up v 20 c) a g) rfl ?_)
    refine ev_ps 2 rfl (ev_if (cd := .ne) rfl (fun h => ?_) (fun h => absurd (rc_ne_f h) hc))
    exact ev_ret rfl rfl ⟨rfl, _, _, rfl, rz_mf.rf.up (by omega) _, hmi⟩
  refine ev_ps 5 rfl (ev_call (av := [_, _, _, _]) rfl rfl rfl rfl ⟨Nat.le_of_ble_eq_true rfl, rfl⟩ ⟨Nat.le_of_ble_eq_true rfl, Nat.le_of_ble_eq_true rfl⟩ (m_isInstruction _ _ _ _) ?_)
  rintro _ _ ⟨⟨u1, hu1, hP, rfl⟩, rfl⟩
  refine ev_if (cd := .ne) rfl (fun e1 => ?_) (fun e1 => ev_ps 2 rfl (no 1 (by decide)))
  have hLI := hP (hu1.resolve_left (rc_ne_t e1))
  refine ev_ps 6 rfl (ev_call (av := [_, _, _]) rfl rfl rfl rfl ⟨Nat.le_of_ble_eq_true rfl, rfl⟩ ⟨Nat.le_of_ble_eq_true rfl, Nat.le_of_ble_eq_true rfl⟩ (m_in _ _ _) ?_)
  rintro _ _ ⟨⟨u2, h2, rfl⟩, rfl⟩
  refine ev_if (cd := .ne) rfl (fun e2 => ?_) (fun e2 => ev_ps 2 rfl (no 2 (by decide)))
  obtain ⟨-, y0, y1⟩ := h2.resolve_right (fun q => rc_ne_t e2 q.1)
  obtain ⟨n, hn, hv, hrows⟩ := hmi.1
  have y1' : ¬ v 21 - 1 < x0 := y1
  rw [hv] at y1'
  obtain ⟨k, hk, rfl⟩ := rz_sub1 hn y0 y1'
  refine ev_ps 2 rfl (ev_w (w2 := rz_w (rz_up v 20 0) a g) rfl ?_)
  refine ev_ps 2 rfl (ev_if (cd := .ne) rfl (fun h => absurd rfl (rc_ne_t h)) (fun h => ?_))
  refine ev_ps 6 rfl (ev_call (av := [_, _, _, _, _, _]) rfl rfl rfl rfl ⟨Nat.le_of_ble_eq_true rfl, rfl⟩ ⟨Nat.le_of_ble_eq_true rfl, Nat.le_of_ble_eq_true rfl⟩ (m_put (by omega) _ _ _ _) ?_)
  rintro _ _ ⟨rfl, rfl⟩
  exact ev_ret rfl rfl ⟨rfl, _, _, rfl, rz_pt_mf (rz_mf.rf.up (by omega) _), ⟨n, hn, hv, fun j hj => rz_pt_li (fun _ => hLI) (fun hne => hrows j hj)⟩, rz_pt_li (fun _ => hLI) (fun _ => hmi.2.1), hmi.2.2⟩
theorem m_instruction (hmi : rz_mi v a) (x0 x1 : Int32) : rz_C xs xl 78 [.ref 25, .int x0, .int x1] (rz_w v a g) (rz_mp v a g rz_pi) := by
  have no : ∀ c : Int32, c ≠ 0 → rz_E xs xl 78 33 [some (.ref 25), some (.int x0), some (.int x1)] [.int c, .ref 25] (rz_w v a g) 0 0 (rz_mp v a g rz_pi) := by
    intro c hc
    refine ev_ps 1 rfl (ev_w (w2 := rz_w (rz_up v 20 c) a g) rfl ?_)
    refine ev_ps 2 rfl (ev_if (cd := .eq) rfl (fun h => absurd (rc_eq_t h) hc) (fun h => ?_))
    exact ev_ps 1 rfl (ev_ret rfl rfl ⟨⟨_, rfl⟩, _, _, rfl, rz_mf.rf.up (by omega) _, hmi⟩)
  refine ev_ps 4 rfl (ev_call (av := [_, _, _]) rfl rfl rfl rfl ⟨Nat.le_of_ble_eq_true rfl, rfl⟩ ⟨Nat.le_of_ble_eq_true rfl, Nat.le_of_ble_eq_true rfl⟩ (m_in _ _ _) ?_)
  rintro _ _ ⟨⟨u1, h1, rfl⟩, rfl⟩
  refine ev_if (cd := .ne) rfl (fun e1 => ?_) (fun e1 => ev_ps 2 rfl (no 1 (by decide)))
  refine ev_ps 6 rfl (ev_call (av := [_, _, _]) rfl rfl rfl rfl ⟨Nat.le_of_ble_eq_true rfl, rfl⟩ ⟨Nat.le_of_ble_eq_true rfl, Nat.le_of_ble_eq_true rfl⟩ (m_in _ _ _) ?_)
  rintro _ _ ⟨⟨u2, h2, rfl⟩, rfl⟩
  refine ev_if (cd := .ne) rfl (fun e2 => ?_) (fun e2 => ev_ps 2 rfl (no 2 (by decide)))
  obtain ⟨-, y0, y1⟩ := h2.resolve_right (fun q => rc_ne_t e2 q.1)
  obtain ⟨n, hn, hv, hrows⟩ := hmi.1
  have y1' : ¬ v 21 - 1 < x0 := y1
  rw [hv] at y1'
  obtain ⟨k, hk, rfl⟩ := rz_sub1 hn y0 y1'
  refine ev_ps 2 rfl (ev_w (w2 := rz_w (rz_up v 20 0) a g) rfl ?_)
  refine ev_ps 2 rfl (ev_if (cd := .eq) rfl (fun h => ?_) (fun h => absurd rfl (rc_eq_f h)))
  refine ev_ps 1 rfl (ev_if (cd := .ne) rfl (fun h1 => ?_) (fun h1 => ?_))
  · refine ev_ps 2 rfl (ev_ic (cd := .ne) rfl (fun h2 => ?_) (fun h2 => ?_))
    · refine ev_ps 2 rfl (ev_ic (cd := .ne) rfl (fun h3 => ?_) (fun h3 => ?_))
      · refine ev_ps 3 rfl (ev_ald rfl rfl (rz_in (by omega) (by decide)) ?_)
        exact ev_ret rfl rfl ⟨⟨_, rfl⟩, _, _, rfl, rz_mf.rf.up (by omega) _, hmi⟩
      · refine ev_ps 3 rfl (ev_ald rfl rfl (rz_in (by omega) (by decide)) ?_)
        exact ev_ps 1 rfl (ev_ret rfl rfl ⟨⟨_, rfl⟩, _, _, rfl, rz_mf.rf.up (by omega) _, hmi⟩)
    · refine ev_ps 3 rfl (ev_ald rfl rfl (rz_in (by omega) (by decide)) ?_)
      exact ev_ps 1 rfl (ev_ret rfl rfl ⟨⟨_, rfl⟩, _, _, rfl, rz_mf.rf.up (by omega) _, hmi⟩)
  · refine ev_ps 3 rfl (ev_ald rfl rfl (rz_in (by omega) (by decide)) ?_)
    exact ev_ps 1 rfl (ev_ret rfl rfl ⟨⟨_, rfl⟩, _, _, rfl, rz_mf.rf.up (by omega) _, hmi⟩)
end RZM1
end
section
/-! the reference: a row done, two rows held against each other -/
section RZM2
variable {xs : Nat → Int32} {xl : Nat} {v : Nat → Int32} {a : Nat → Nat → Int32} {g : Nat → Int64}
theorem m_does {k : Nat} (hk : k < 25) (hli : rz_li a k) : rz_C xs xl 82 [.ref 25, .int (Int32.ofNat k)] (rz_w v a g) (fun q w' => q = .inl none ∧ ∃ d j : Nat, d ≤ 3 ∧ j ≤ 15 ∧ w' = rz_w v (rz_ua a 27 (upd (a 27) d (Int32.ofNat j))) g) := by
  obtain ⟨o', d', s', t', ho, hd, hs, ht, b1, b2, b3, b4, b5⟩ := hli
  have e := rz_clamp (k := k) (by omega)
  rw [← e] at ho hd hs ht
  have hin : ¬ (Int32.ofNat k < 0 ∨ 25 ≤ (Int32.ofNat k).toNatClampNeg) := rz_in hk (by decide)
  have tail : ∀ b : Int32, rz_E xs xl 82 33 [some (.ref 25), some (.int (Int32.ofNat k)), some (.int (a 20 (Int32.ofNat k).toNatClampNeg)), none, none] [.int b] (rz_w v a g) 0 0 (fun q w' => q = .inl none ∧ ∃ d j : Nat, d ≤ 3 ∧ j ≤ 15 ∧ w' = rz_w v (rz_ua a 27 (upd (a 27) d (Int32.ofNat j))) g) := by
    intro b
    refine ev_ps 7 rfl (ev_ald rfl rfl hin ?_)
    refine ev_ald rfl rfl (by rw [hs]; exact rz_in (by omega) (by decide)) ?_
    refine ev_ps 1 rfl (ev_call (av := [_, _, _]) rfl rfl rfl rfl ⟨Nat.le_of_ble_eq_true rfl, rfl⟩ ⟨Nat.le_of_ble_eq_true rfl, Nat.le_of_ble_eq_true rfl⟩ (m_made _ _ _) ?_)
    rintro _ _ ⟨⟨j, hj, rfl⟩, rfl⟩
    have fin : ∀ j : Nat, j ≤ 15 → rz_E xs xl 82 77 [some (.ref 25), some (.int (Int32.ofNat k)), some (.int (a 20 (Int32.ofNat k).toNatClampNeg)), some (.int b), some (.int (Int32.ofNat j))] [.int (Int32.ofNat j), .int (a 21 (Int32.ofNat k).toNatClampNeg), .ref 33] (rz_w v a g) 0 0 (fun q w' => q = .inl none ∧ ∃ d j : Nat, d ≤ 3 ∧ j ≤ 15 ∧ w' = rz_w v (rz_ua a 27 (upd (a 27) d (Int32.ofNat j))) g) := by
      intro j hj
      rw [hd]
      refine ev_ast rfl rfl (rz_in (by omega) (by decide)) ?_
      exact ev_ret rfl rfl ⟨rfl, d', j, b2, hj, by rw [rz_clamp (by omega)]; rfl⟩
    refine ev_ps 6 rfl (ev_ald rfl rfl hin ?_)
    refine ev_ps 3 rfl (ev_ald rfl rfl hin ?_)
    refine ev_if (cd := .ne) rfl (fun h => ?_) (fun h => ?_)
    · exact ev_ps 1 rfl (fin j hj)
    · rw [hd]
      refine ev_ps 2 rfl (ev_ast rfl rfl (rz_in (by omega) (by decide)) ?_)
      exact ev_ret rfl rfl ⟨rfl, d', 0, b2, by omega, by rw [rz_clamp (by omega)]; rfl⟩
  refine ev_ps 3 rfl (ev_ald rfl rfl hin ?_)
  refine ev_ps 3 rfl (ev_ic (cd := .ge) rfl (fun h => ?_) (fun h => ?_))
  · refine ev_ps 3 rfl (ev_ald rfl rfl hin ?_)
    exact tail _
  · rw [ho] at h
    have h6 : o' < 6 := rn_ge_f (k := 6) (by omega) (by omega) h
    refine ev_ps 5 rfl (ev_ald rfl rfl hin ?_)
    refine ev_ald rfl rfl (by rw [ht]; exact rz_in (by have := b5 (by omega); omega) (by decide)) ?_
    exact ev_ps 1 rfl (tail _)
theorem m_begin (x : Int32) : rz_C xs xl 96 [.ref 25, .int x] (rz_w v a g) (fun q w' => q = .inl none ∧ ∃ f, w' = rz_w v (rz_ua a 27 f) g) := by
  refine ev_ps 4 rfl (ev_ast rfl rfl (by decide) ?_)
  refine ev_w (w2 := rz_w v (rz_ua a 27 (upd (a 27) _ _)) g) rfl ?_
  refine ev_ps 6 rfl (ev_ast rfl rfl (by decide) ?_)
  refine ev_w (w2 := rz_w v (rz_ua a 27 (upd (upd (a 27) _ _) _ _)) g) rfl ?_
  refine ev_ps 8 rfl (ev_ast rfl rfl (by decide) ?_)
  refine ev_w (w2 := rz_w v (rz_ua a 27 (upd (upd (upd (a 27) _ _) _ _) _ _)) g) rfl ?_
  refine ev_ps 6 rfl (ev_ast rfl rfl (by decide) ?_)
  exact ev_w (w2 := rz_w v (rz_ua a 27 (upd (upd (upd (upd (a 27) _ _) _ _) _ _) _ _)) g) rfl (ev_ret rfl rfl ⟨rfl, _, rfl⟩)
theorem m_agree {p n q m : Nat} (z : Int32) (hp : p + n ≤ 25) (hq : q + m ≤ 25) (h1 : ∀ k, p ≤ k → k < p + n → rz_li a k) (h2 : ∀ k, q ≤ k → k < q + m → rz_li a k) : rz_C xs xl 95 [.ref 25, .int (Int32.ofNat p), .int (Int32.ofNat n), .int (Int32.ofNat q), .int (Int32.ofNat m), .int z] (rz_w v a g) (fun q w' => (∃ u, (u = 0 ∨ u = 1) ∧ q = .inl (some (.int u))) ∧ ∃ f1 f2, w' = rz_w v (rz_ua (rz_ua a 27 f1) 28 f2) g) := by
  have D1 : ∀ (x6 : Int32), (∀ (t7 : Option Value) (f1 f2 : Nat → Int32), rz_E xs xl 95 40 [some (.ref 25), some (.int (Int32.ofNat p)), some (.int (Int32.ofNat n)), some (.int (Int32.ofNat q)), some (.int (Int32.ofNat m)), some (.int z), some (.int x6), t7] [] (rz_w v (rz_ua (rz_ua a 27 f1) 28 f2) g) 0 0 (fun q w' => (∃ u, (u = 0 ∨ u = 1) ∧ q = .inl (some (.int u))) ∧ ∃ f1 f2, w' = rz_w v (rz_ua (rz_ua a 27 f1) 28 f2) g)) → ∀ (f1 f2 : Nat → Int32), rz_E xs xl 95 20 [some (.ref 25), some (.int (Int32.ofNat p)), some (.int (Int32.ofNat n)), some (.int (Int32.ofNat q)), some (.int (Int32.ofNat m)), some (.int z), some (.int x6), some (.int (Int32.ofNat 0))] [] (rz_w v (rz_ua (rz_ua a 27 f1) 28 f2) g) 0 0 (fun q w' => (∃ u, (u = 0 ∨ u = 1) ∧ q = .inl (some (.int u))) ∧ ∃ f1 f2, w' = rz_w v (rz_ua (rz_ua a 27 f1) 28 f2) g) := by
    intro x6 hK f1 f2
    refine ev_loop (α := Nat × (Nat → Int32) × (Nat → Int32)) (fun r => n - r.1) (fun r => r.1 ≤ n) (fun r => [some (.ref 25), some (.int (Int32.ofNat p)), some (.int (Int32.ofNat n)), some (.int (Int32.ofNat q)), some (.int (Int32.ofNat m)), some (.int z), some (.int x6), some (.int (Int32.ofNat r.1))]) (fun _ => []) (fun r => rz_w v (rz_ua (rz_ua a 27 r.2.1) 28 r.2.2) g) ?_ (0, f1, f2) (Nat.zero_le _)
    rintro ⟨k, f1, f2⟩ hk ih
    dsimp only at hk ih ⊢
    refine ev_ps 2 rfl (ev_ic (cd := .ge) rfl (fun h => hK _ _ _) (fun h => ?_))
    have hk' : k < n := rn_ge_f (by omega) (by omega) h
    refine ev_ps 4 rfl ?_
    refine ev_call (av := [.ref 25, .int (Int32.ofNat (p + k))]) rfl (by rw [← rz_add]; rfl) rfl rfl ⟨Nat.le_of_ble_eq_true rfl, rfl⟩ ⟨Nat.le_of_ble_eq_true rfl, Nat.le_of_ble_eq_true rfl⟩ (m_does (by omega) (h1 (p + k) (by omega) (by omega))) ?_
    rintro _ _ ⟨rfl, d, j, hd, hj, rfl⟩
    have h9 := fun f => ih (k + 1, f, f2) (by show k + 1 ≤ n; omega) (by show n - (k + 1) < n - k; omega)
    dsimp only at h9
    rw [← rz_succ k] at h9
    exact ev_w (w2 := rz_w v (rz_ua (rz_ua a 27 (upd f1 _ _)) 28 f2) g) rfl (ev_ps 2 rfl (h9 _))
  have D2 : ∀ (x6 : Int32), (∀ (t7 : Option Value) (f1 f2 : Nat → Int32), rz_E xs xl 95 69 [some (.ref 25), some (.int (Int32.ofNat p)), some (.int (Int32.ofNat n)), some (.int (Int32.ofNat q)), some (.int (Int32.ofNat m)), some (.int z), some (.int x6), t7] [] (rz_w v (rz_ua (rz_ua a 27 f1) 28 f2) g) 0 0 (fun q w' => (∃ u, (u = 0 ∨ u = 1) ∧ q = .inl (some (.int u))) ∧ ∃ f1 f2, w' = rz_w v (rz_ua (rz_ua a 27 f1) 28 f2) g)) → ∀ (f1 f2 : Nat → Int32), rz_E xs xl 95 43 [some (.ref 25), some (.int (Int32.ofNat p)), some (.int (Int32.ofNat n)), some (.int (Int32.ofNat q)), some (.int (Int32.ofNat m)), some (.int z), some (.int x6), some (.int (Int32.ofNat 0))] [] (rz_w v (rz_ua (rz_ua a 27 f1) 28 f2) g) 0 0 (fun q w' => (∃ u, (u = 0 ∨ u = 1) ∧ q = .inl (some (.int u))) ∧ ∃ f1 f2, w' = rz_w v (rz_ua (rz_ua a 27 f1) 28 f2) g) := by
    intro x6 hK f1 f2
    refine ev_loop (α := Nat × (Nat → Int32) × (Nat → Int32)) (fun r => 4 - r.1) (fun r => r.1 ≤ 4) (fun r => [some (.ref 25), some (.int (Int32.ofNat p)), some (.int (Int32.ofNat n)), some (.int (Int32.ofNat q)), some (.int (Int32.ofNat m)), some (.int z), some (.int x6), some (.int (Int32.ofNat r.1))]) (fun _ => []) (fun r => rz_w v (rz_ua (rz_ua a 27 r.2.1) 28 r.2.2) g) ?_ (0, f1, f2) (Nat.zero_le _)
    rintro ⟨k, f1, f2⟩ hk ih
    dsimp only at hk ih ⊢
    refine ev_ps 2 rfl (ev_ic (cd := .ge) rfl (fun h => hK _ _ _) (fun h => ?_))
    have hk' : k < 4 := rn_ge_f (k := 4) (by omega) (by omega) h
    refine ev_ps 6 rfl (ev_ald rfl rfl (rz_in hk' (by decide)) ?_)
    refine ev_ast rfl rfl (rz_in hk' (by decide)) ?_
    have h9 := fun f => ih (k + 1, f1, f) (by show k + 1 ≤ 4; omega) (by show 4 - (k + 1) < 4 - k; omega)
    dsimp only at h9
    rw [← rz_succ k] at h9
    exact ev_w (w2 := rz_w v (rz_ua (rz_ua a 27 f1) 28 (upd f2 _ _)) g) rfl (ev_ps 2 rfl (h9 _))
  have D3 : ∀ (x6 : Int32), (∀ (t7 : Option Value) (f1 f2 : Nat → Int32), rz_E xs xl 95 99 [some (.ref 25), some (.int (Int32.ofNat p)), some (.int (Int32.ofNat n)), some (.int (Int32.ofNat q)), some (.int (Int32.ofNat m)), some (.int z), some (.int x6), t7] [] (rz_w v (rz_ua (rz_ua a 27 f1) 28 f2) g) 0 0 (fun q w' => (∃ u, (u = 0 ∨ u = 1) ∧ q = .inl (some (.int u))) ∧ ∃ f1 f2, w' = rz_w v (rz_ua (rz_ua a 27 f1) 28 f2) g)) → ∀ (f1 f2 : Nat → Int32), rz_E xs xl 95 78 [some (.ref 25), some (.int (Int32.ofNat p)), some (.int (Int32.ofNat n)), some (.int (Int32.ofNat q)), some (.int (Int32.ofNat m)), some (.int z), some (.int x6), some (.int (Int32.ofNat 0))] [] (rz_w v (rz_ua (rz_ua a 27 f1) 28 f2) g) 0 0 (fun q w' => (∃ u, (u = 0 ∨ u = 1) ∧ q = .inl (some (.int u))) ∧ ∃ f1 f2, w' = rz_w v (rz_ua (rz_ua a 27 f1) 28 f2) g) := by
    intro x6 hK f1 f2
    refine ev_loop (α := Nat × (Nat → Int32) × (Nat → Int32)) (fun r => m - r.1) (fun r => r.1 ≤ m) (fun r => [some (.ref 25), some (.int (Int32.ofNat p)), some (.int (Int32.ofNat n)), some (.int (Int32.ofNat q)), some (.int (Int32.ofNat m)), some (.int z), some (.int x6), some (.int (Int32.ofNat r.1))]) (fun _ => []) (fun r => rz_w v (rz_ua (rz_ua a 27 r.2.1) 28 r.2.2) g) ?_ (0, f1, f2) (Nat.zero_le _)
    rintro ⟨k, f1, f2⟩ hk ih
    dsimp only at hk ih ⊢
    refine ev_ps 2 rfl (ev_ic (cd := .ge) rfl (fun h => hK _ _ _) (fun h => ?_))
    have hk' : k < m := rn_ge_f (by omega) (by omega) h
    refine ev_ps 4 rfl ?_
    refine ev_call (av := [.ref 25, .int (Int32.ofNat (q + k))]) rfl (by rw [← rz_add]; rfl) rfl rfl ⟨Nat.le_of_ble_eq_true rfl, rfl⟩ ⟨Nat.le_of_ble_eq_true rfl, Nat.le_of_ble_eq_true rfl⟩ (m_does (by omega) (h2 (q + k) (by omega) (by omega))) ?_
    rintro _ _ ⟨rfl, d, j, hd, hj, rfl⟩
    have h9 := fun f => ih (k + 1, f, f2) (by show k + 1 ≤ m; omega) (by show m - (k + 1) < m - k; omega)
    dsimp only at h9
    rw [← rz_succ k] at h9
    exact ev_w (w2 := rz_w v (rz_ua (rz_ua a 27 (upd f1 _ _)) 28 f2) g) rfl (ev_ps 2 rfl (h9 _))
  have D4 : ∀ (x6 : Int32), (∀ (t7 : Option Value) (f1 f2 : Nat → Int32), rz_E xs xl 95 144 [some (.ref 25), some (.int (Int32.ofNat p)), some (.int (Int32.ofNat n)), some (.int (Int32.ofNat q)), some (.int (Int32.ofNat m)), some (.int z), some (.int x6), t7] [] (rz_w v (rz_ua (rz_ua a 27 f1) 28 f2) g) 0 0 (fun q w' => (∃ u, (u = 0 ∨ u = 1) ∧ q = .inl (some (.int u))) ∧ ∃ f1 f2, w' = rz_w v (rz_ua (rz_ua a 27 f1) 28 f2) g)) → ∀ (f1 f2 : Nat → Int32), rz_E xs xl 95 102 [some (.ref 25), some (.int (Int32.ofNat p)), some (.int (Int32.ofNat n)), some (.int (Int32.ofNat q)), some (.int (Int32.ofNat m)), some (.int z), some (.int x6), some (.int (Int32.ofNat 1))] [] (rz_w v (rz_ua (rz_ua a 27 f1) 28 f2) g) 0 0 (fun q w' => (∃ u, (u = 0 ∨ u = 1) ∧ q = .inl (some (.int u))) ∧ ∃ f1 f2, w' = rz_w v (rz_ua (rz_ua a 27 f1) 28 f2) g) := by
    intro x6 hK f1 f2
    refine ev_loop (α := Nat) (fun r => 4 - r) (fun r => r ≤ 4) (fun r => [some (.ref 25), some (.int (Int32.ofNat p)), some (.int (Int32.ofNat n)), some (.int (Int32.ofNat q)), some (.int (Int32.ofNat m)), some (.int z), some (.int x6), some (.int (Int32.ofNat r))]) (fun _ => []) (fun r => rz_w v (rz_ua (rz_ua a 27 f1) 28 f2) g) ?_ 1 (by omega)
    intro k hk ih
    have next : k < 4 → rz_E xs xl 95 138 [some (.ref 25), some (.int (Int32.ofNat p)), some (.int (Int32.ofNat n)), some (.int (Int32.ofNat q)), some (.int (Int32.ofNat m)), some (.int z), some (.int x6), some (.int (Int32.ofNat k))] [] (rz_w v (rz_ua (rz_ua a 27 f1) 28 f2) g) 0 0 (fun q w' => (∃ u, (u = 0 ∨ u = 1) ∧ q = .inl (some (.int u))) ∧ ∃ f1 f2, w' = rz_w v (rz_ua (rz_ua a 27 f1) 28 f2) g) := fun hk' => by
      have h9 := ih (k + 1) (by omega) (by omega)
      rw [← rz_succ k] at h9
      exact ev_ps 2 rfl h9
    refine ev_ps 2 rfl (ev_ic (cd := .ge) rfl (fun h => hK _ _ _) (fun h => ?_))
    have hk' : k < 4 := rn_ge_f (k := 4) (by omega) (by omega) h
    refine ev_ps 6 rfl (ev_ic (cd := .ne) rfl (fun h => next hk') (fun h => ?_))
    refine ev_ps 3 rfl (ev_ald rfl rfl (rz_in hk' (by decide)) ?_)
    refine ev_ps 3 rfl (ev_ald rfl rfl (rz_in hk' (by decide)) ?_)
    refine ev_ic (cd := .eq) rfl (fun h => next hk') (fun h => ?_)
    exact ev_ps 1 rfl (ev_ret rfl rfl ⟨⟨0, Or.inl rfl, rfl⟩, f1, f2, rfl⟩)
  refine ev_ps 2 rfl (ev_w (w2 := rz_w v (rz_ua (rz_ua a 27 (a 27)) 28 (a 28)) g) rfl ?_)
  refine ev_loop (α := Nat × Option Value × (Nat → Int32) × (Nat → Int32)) (fun r => 4096 - r.1) (fun r => r.1 ≤ 4096) (fun r => [some (.ref 25), some (.int (Int32.ofNat p)), some (.int (Int32.ofNat n)), some (.int (Int32.ofNat q)), some (.int (Int32.ofNat m)), some (.int z), some (.int (Int32.ofNat r.1)), r.2.1]) (fun _ => []) (fun r => rz_w v (rz_ua (rz_ua a 27 r.2.2.1) 28 r.2.2.2) g) ?_ (0, none, a 27, a 28) (Nat.zero_le _)
  rintro ⟨k, t7, f1, f2⟩ hk ih
  dsimp only at hk ih ⊢
  refine ev_ps 2 rfl (ev_ic (cd := .ge) rfl (fun h => ?_) (fun h => ?_))
  · exact ev_ps 1 rfl (ev_ret rfl rfl ⟨⟨1, Or.inr rfl, rfl⟩, f1, f2, rfl⟩)
  · have hk' : k < 4096 := rn_ge_f (k := 4096) (by omega) (by omega) h
    refine ev_ps 2 rfl (ev_call (av := [_, _]) rfl rfl rfl rfl ⟨Nat.le_of_ble_eq_true rfl, rfl⟩ ⟨Nat.le_of_ble_eq_true rfl, Nat.le_of_ble_eq_true rfl⟩ (m_begin _) ?_)
    rintro _ _ ⟨rfl, f, rfl⟩
    refine ev_w (w2 := rz_w v (rz_ua (rz_ua a 27 f) 28 f2) g) rfl (ev_ps 2 rfl (D1 _ (fun t7 f1 f2 => ?_) _ _))
    refine ev_ps 2 rfl (D2 _ (fun t7 f1 f2 => ?_) _ _)
    refine ev_ps 2 rfl (ev_call (av := [_, _]) rfl rfl rfl rfl ⟨Nat.le_of_ble_eq_true rfl, rfl⟩ ⟨Nat.le_of_ble_eq_true rfl, Nat.le_of_ble_eq_true rfl⟩ (m_begin _) ?_)
    rintro _ _ ⟨rfl, f, rfl⟩
    refine ev_w (w2 := rz_w v (rz_ua (rz_ua a 27 f) 28 f2) g) rfl (ev_ps 2 rfl (D3 _ (fun t7 f1 f2 => ?_) _ _))
    refine ev_ps 2 rfl (D4 _ (fun t7 f1 f2 => ?_) _ _)
    have h9 := ih (k + 1, t7, f1, f2) (by show k + 1 ≤ 4096; omega) (by show 4096 - (k + 1) < 4096 - k; omega)
    dsimp only at h9
    rw [← rz_succ k] at h9
    exact ev_ps 2 rfl h9
theorem m_isPlain {p n : Nat} (hp : p + n ≤ 25) : rz_C xs xl 94 [.ref 25, .int (Int32.ofNat p), .int (Int32.ofNat n)] (rz_w v a g) (rz_bo (rz_w v a g) True) := by
  refine ev_ps 4 rfl ?_
  refine ev_loop (α := Nat × Int32) (fun r => p + n - r.1) (fun r => r.1 ≤ p + n ∧ (r.2 = 0 ∨ r.2 = 1)) (fun r => [some (.ref 25), some (.int (Int32.ofNat p)), some (.int (Int32.ofNat n)), some (.int r.2), some (.int (Int32.ofNat r.1))]) (fun _ => []) (fun _ => rz_w v a g) ?_ (p, 1) ⟨by show p ≤ p + n; omega, Or.inr rfl⟩
  rintro ⟨k, b⟩ ⟨hk, hb⟩ ih
  dsimp only at hk hb ih ⊢
  have next : k < p + n → ∀ b : Int32, (b = 0 ∨ b = 1) → rz_E xs xl 94 34 [some (.ref 25), some (.int (Int32.ofNat p)), some (.int (Int32.ofNat n)), some (.int b), some (.int (Int32.ofNat k))] [.int b] (rz_w v a g) 0 0 (rz_bo (rz_w v a g) True) := fun hk' b hb => by
    have h9 := ih (k + 1, b) ⟨by show k + 1 ≤ p + n; omega, hb⟩ (by show p + n - (k + 1) < p + n - k; omega)
    dsimp only at h9
    rw [← rz_succ k] at h9
    exact ev_ps 3 rfl h9
  have next2 : k < p + n → ∀ b0 b : Int32, (b = 0 ∨ b = 1) → rz_E xs xl 94 34 [some (.ref 25), some (.int (Int32.ofNat p)), some (.int (Int32.ofNat n)), some (.int b0), some (.int (Int32.ofNat k))] [.int b] (rz_w v a g) 0 0 (rz_bo (rz_w v a g) True) := fun hk' b0 b hb => by
    have h9 := ih (k + 1, b) ⟨by show k + 1 ≤ p + n; omega, hb⟩ (by show p + n - (k + 1) < p + n - k; omega)
    dsimp only at h9
    rw [← rz_succ k] at h9
    exact ev_ps 3 rfl h9
  refine ev_ps 4 rfl (ev_ic (cd := .ge) rfl (fun h => ?_) (fun h => ?_))
  · exact ev_ps 1 rfl (ev_ret rfl (show (if b = 0 ∨ b = 1 then some (some (Value.int b)) else none) = _ from if_pos hb) ⟨⟨b, hb, fun _ => trivial, rfl⟩, rfl⟩)
  · rw [rz_add] at h
    have hk' : k < p + n := rn_ge_f (by omega) (by omega) h
    refine ev_ps 1 rfl (ev_if (cd := .eq) rfl (fun h => ?_) (fun h => ?_))
    · exact ev_ps 1 rfl (next2 hk' _ 0 (Or.inl rfl))
    · refine ev_ps 3 rfl (ev_ald rfl rfl (rz_in (by omega) (by decide)) ?_)
      refine ev_ps 1 rfl (ev_ic (cd := .gt) rfl (fun h => ?_) (fun h => ?_))
      · exact ev_ps 1 rfl (next2 hk' _ 0 (Or.inl rfl))
      · exact ev_ps 2 rfl (next2 hk' _ 1 (Or.inr rfl))
theorem m_isThere {n m : Nat} (x : Int32) (hn : n ≤ 3) (hm : m ≤ 24) (hv : v 21 = Int32.ofNat m) : rz_C xs xl 93 [.ref 25, .int x, .int (Int32.ofNat n)] (rz_w v a g) (rz_bo (rz_w v a g) (∃ p : Nat, x = Int32.ofNat p ∧ p + n ≤ m)) := by
  refine ev_ps 1 rfl (ev_if (cd := .lt) rfl (fun h => ?_) (fun h => ?_))
  · exact ev_ps 1 rfl (ev_ret rfl rfl rz_bo0)
  · refine ev_ps 9 rfl (ev_if (cd := .gt) rfl (fun h2 => ?_) (fun h2 => ?_))
    · exact ev_ps 1 rfl (ev_ret rfl rfl rz_bo0)
    · refine ev_ps 2 rfl (ev_ret rfl rfl (rz_bo1 ?_))
      obtain ⟨p, hp, rfl⟩ := rz_nat (rc_lt_f h)
      refine ⟨p, rfl, ?_⟩
      rw [hv] at h2
      have h3 := rc_gt_f h2
      have e1 : (Int32.ofNat p).toInt64.toInt = (p : Int) := by rw [Int32.toInt_toInt64, rz_toInt hp]
      have e2 : (Int32.ofNat n).toInt64.toInt = (n : Int) := by rw [Int32.toInt_toInt64, rz_toInt (by omega)]
      have e3 : (Int32.ofNat m).toInt64.toInt = (m : Int) := by rw [Int32.toInt_toInt64, rz_toInt (by omega)]
      have e4 : ((Int32.ofNat p).toInt64 + (Int32.ofNat n).toInt64).toInt = (p : Int) + (n : Int) := by
        rw [Int64.toInt_add, e1, e2]
        rw [Int.bmod_eq_of_le (by omega) (by omega)]
      have h4 : ¬ (Int32.ofNat m).toInt64 < (Int32.ofNat p).toInt64 + (Int32.ofNat n).toInt64 := fun q => h3 (by
        show 0 < lg_cmp ((Int32.ofNat p).toInt64 + (Int32.ofNat n).toInt64) (Int32.ofNat m).toInt64
        unfold lg_cmp
        rw [if_pos q]
        decide)
      rw [Int64.lt_iff_toInt_lt, e3, e4] at h4
      omega
theorem rz_mi_st {f1 f2 : Nat → Int32} (hmi : rz_mi v a) : rz_mi v (rz_ua (rz_ua a 27 f1) 28 f2) := hmi
theorem m_same (hmi : rz_mi v a) (x n y m z : Int32) : rz_C xs xl 92 [.ref 25, .int x, .int n, .int y, .int m, .int z] (rz_w v a g) (rz_mp v a g rz_pi) := by
  have no : ∀ c : Int32, c ≠ 0 → rz_E xs xl 92 82 [some (.ref 25), some (.int x), some (.int n), some (.int y), some (.int m), some (.int z)] [.int c, .ref 25] (rz_w v a g) 0 0 (rz_mp v a g rz_pi) := by
    intro c hc
    refine ev_ps 1 rfl (ev_w (w2 := rz_w (rz_up v 20 c) a g) rfl ?_)
    refine ev_ps 2 rfl (ev_if (cd := .ne) rfl (fun h => ?_) (fun h => absurd (rc_ne_f h) hc))
    exact ev_ps 1 rfl (ev_ret rfl rfl ⟨⟨_, rfl⟩, _, _, rfl, rz_mf.rf.up (by omega) _, hmi⟩)
  have no1 : rz_E xs xl 92 31 [some (.ref 25), some (.int x), some (.int n), some (.int y), some (.int m), some (.int z)] [.ref 25] (rz_w v a g) 0 0 (rz_mp v a g rz_pi) := ev_ps 2 rfl (no 1 (by decide))
  have no2 : rz_E xs xl 92 54 [some (.ref 25), some (.int x), some (.int n), some (.int y), some (.int m), some (.int z)] [.ref 25] (rz_w v a g) 0 0 (rz_mp v a g rz_pi) := ev_ps 2 rfl (no 2 (by decide))
  have no3 : rz_E xs xl 92 77 [some (.ref 25), some (.int x), some (.int n), some (.int y), some (.int m), some (.int z)] [.ref 25] (rz_w v a g) 0 0 (rz_mp v a g rz_pi) := ev_ps 2 rfl (no 3 (by decide))
  obtain ⟨k, hk, hv, hrows⟩ := hmi.1
  refine ev_ps 4 rfl (ev_call (av := [_, _, _]) rfl rfl rfl rfl ⟨Nat.le_of_ble_eq_true rfl, rfl⟩ ⟨Nat.le_of_ble_eq_true rfl, Nat.le_of_ble_eq_true rfl⟩ (m_in _ _ _) ?_)
  rintro _ _ ⟨⟨u1, h1, rfl⟩, rfl⟩
  refine ev_if (cd := .eq) rfl (fun e => no1) (fun e1 => ?_)
  obtain ⟨-, n0, n1⟩ := h1.resolve_right (fun q => rc_eq_f e1 q.1)
  refine ev_ps 3 rfl (ev_call (av := [_, _, _]) rfl rfl rfl rfl ⟨Nat.le_of_ble_eq_true rfl, rfl⟩ ⟨Nat.le_of_ble_eq_true rfl, Nat.le_of_ble_eq_true rfl⟩ (m_in _ _ _) ?_)
  rintro _ _ ⟨⟨u2, h2, rfl⟩, rfl⟩
  refine ev_if (cd := .eq) rfl (fun e => no1) (fun e2 => ?_)
  obtain ⟨-, m0, m1⟩ := h2.resolve_right (fun q => rc_eq_f e2 q.1)
  refine ev_ps 3 rfl (ev_call (av := [_, _, _]) rfl rfl rfl rfl ⟨Nat.le_of_ble_eq_true rfl, rfl⟩ ⟨Nat.le_of_ble_eq_true rfl, Nat.le_of_ble_eq_true rfl⟩ (m_in _ _ _) ?_)
  rintro _ _ ⟨⟨u3, h3, rfl⟩, rfl⟩
  refine ev_if (cd := .ne) rfl (fun e3 => ?_) (fun e => no1)
  obtain ⟨n', hn', rfl⟩ := rz_le_nat (b := 3) (by decide) n0 n1
  obtain ⟨m', hm', rfl⟩ := rz_le_nat (b := 3) (by decide) m0 m1
  refine ev_ps 3 rfl (ev_call (av := [_, _, _]) rfl rfl rfl rfl ⟨Nat.le_of_ble_eq_true rfl, rfl⟩ ⟨Nat.le_of_ble_eq_true rfl, Nat.le_of_ble_eq_true rfl⟩ (m_isThere _ hn' hk hv) ?_)
  rintro _ _ ⟨⟨u4, hu4, hP4, rfl⟩, rfl⟩
  refine ev_if (cd := .eq) rfl (fun e => no2) (fun e4 => ?_)
  obtain ⟨p, rfl, hpn⟩ := hP4 (hu4.resolve_left (rc_eq_f e4))
  refine ev_ps 3 rfl (ev_call (av := [_, _, _]) rfl rfl rfl rfl ⟨Nat.le_of_ble_eq_true rfl, rfl⟩ ⟨Nat.le_of_ble_eq_true rfl, Nat.le_of_ble_eq_true rfl⟩ (m_isThere _ hm' hk hv) ?_)
  rintro _ _ ⟨⟨u5, hu5, hP5, rfl⟩, rfl⟩
  refine ev_if (cd := .ne) rfl (fun e5 => ?_) (fun e => no2)
  obtain ⟨q, rfl, hqm⟩ := hP5 (hu5.resolve_left (rc_ne_t e5))
  refine ev_ps 3 rfl (ev_call (av := [_, _, _]) rfl rfl rfl rfl ⟨Nat.le_of_ble_eq_true rfl, rfl⟩ ⟨Nat.le_of_ble_eq_true rfl, Nat.le_of_ble_eq_true rfl⟩ (m_isPlain (by omega)) ?_)
  rintro _ _ ⟨⟨u6, hu6, -, rfl⟩, rfl⟩
  refine ev_if (cd := .eq) rfl (fun e => no3) (fun e6 => ?_)
  refine ev_ps 3 rfl (ev_call (av := [_, _, _]) rfl rfl rfl rfl ⟨Nat.le_of_ble_eq_true rfl, rfl⟩ ⟨Nat.le_of_ble_eq_true rfl, Nat.le_of_ble_eq_true rfl⟩ (m_isPlain (by omega)) ?_)
  rintro _ _ ⟨⟨u7, hu7, -, rfl⟩, rfl⟩
  refine ev_if (cd := .ne) rfl (fun e7 => ?_) (fun e => no3)
  refine ev_ps 2 rfl (ev_w (w2 := rz_w (rz_up v 20 0) a g) rfl ?_)
  refine ev_ps 2 rfl (ev_if (cd := .ne) rfl (fun h => absurd rfl (rc_ne_t h)) (fun h => ?_))
  refine ev_ps 6 rfl (ev_call (av := [_, _, _, _, _, _]) rfl rfl rfl rfl ⟨Nat.le_of_ble_eq_true rfl, rfl⟩ ⟨Nat.le_of_ble_eq_true rfl, Nat.le_of_ble_eq_true rfl⟩ (m_agree _ (by omega) (by omega) (fun j h1 h2 => hrows j (by omega)) (fun j h1 h2 => hrows j (by omega))) ?_)
  rintro _ _ ⟨⟨u8, hu8, rfl⟩, f1, f2, rfl⟩
  refine ev_if (cd := .eq) rfl (fun h => ?_) (fun h => ?_)
  · exact ev_ps 1 rfl (ev_ret rfl rfl ⟨⟨_, rfl⟩, _, _, rfl, ((rz_mf.rf.up (by omega) _).ua (by omega) _).ua (by omega) _, hmi⟩)
  · exact ev_ps 2 rfl (ev_ret rfl rfl ⟨⟨_, rfl⟩, _, _, rfl, ((rz_mf.rf.up (by omega) _).ua (by omega) _).ua (by omega) _, hmi⟩)
end RZM2
end
section
/-! the reference: blocks, runs -/
section RZM3
variable {xs : Nat → Int32} {xl : Nat} {v : Nat → Int32} {a : Nat → Nat → Int32} {g : Nat → Int64}
/-- no row below n jumps to p -/
def rz_nt (a : Nat → Nat → Int32) (n p : Nat) : Prop := ∀ k, k < n → ¬ (¬ a 20 k < 12 ∧ ¬ 14 < a 20 k ∧ a 23 k = Int32.ofNat p)
theorem m_isBegin {p n : Nat} (hv : v 21 = Int32.ofNat n) (hn : n ≤ 24) (hp : p ≤ 24) : rz_C xs xl 91 [.ref 25, .int (Int32.ofNat p)] (rz_w v a g) (fun q w' => (∃ u : Int32, (u = 0 ∨ u = 1) ∧ (u = 0 → p ≠ 0 ∧ rz_nt a n p) ∧ q = .inl (some (.int u))) ∧ w' = rz_w v a g) := by
  have main : ∀ b : Int32, (b = 0 ∨ b = 1) → (b = 0 → p ≠ 0) → rz_E xs xl 91 22 [some (.ref 25), some (.int (Int32.ofNat p)), none, none] [.int b] (rz_w v a g) 0 0 (fun q w' => (∃ u : Int32, (u = 0 ∨ u = 1) ∧ (u = 0 → p ≠ 0 ∧ rz_nt a n p) ∧ q = .inl (some (.int u))) ∧ w' = rz_w v a g) := by
    intro b hb hbp
    refine ev_ps 3 rfl ?_
    refine ev_loop (α := Nat × Int32) (fun r => n - r.1) (fun r => r.1 ≤ n ∧ (r.2 = 0 ∨ r.2 = 1) ∧ (r.2 = 0 → p ≠ 0 ∧ rz_nt a r.1 p)) (fun r => [some (.ref 25), some (.int (Int32.ofNat p)), some (.int r.2), some (.int (Int32.ofNat r.1))]) (fun _ => []) (fun _ => rz_w v a g) ?_ (0, b) ⟨Nat.zero_le _, hb, fun h => ⟨hbp h, fun k hk => absurd hk (by omega)⟩⟩
    rintro ⟨k, b⟩ ⟨hk, hb, hbp⟩ ih
    dsimp only at hk hb hbp ih ⊢
    have next : k < n → ∀ c : Int32, (c = 0 ∨ c = 1) → (c = 0 → p ≠ 0 ∧ rz_nt a (k + 1) p) → rz_E xs xl 91 74 [some (.ref 25), some (.int (Int32.ofNat p)), some (.int b), some (.int (Int32.ofNat k))] [.int c] (rz_w v a g) 0 0 (fun q w' => (∃ u : Int32, (u = 0 ∨ u = 1) ∧ (u = 0 → p ≠ 0 ∧ rz_nt a n p) ∧ q = .inl (some (.int u))) ∧ w' = rz_w v a g) := fun hk' c hc hcp => by
      have h9 := ih (k + 1, c) ⟨by show k + 1 ≤ n; omega, hc, hcp⟩ (by show n - (k + 1) < n - k; omega)
      dsimp only at h9
      rw [← rz_succ k] at h9
      exact ev_ps 3 rfl h9
    refine ev_ps 3 rfl (ev_ic (cd := .ge) rfl (fun h => ?_) (fun h => ?_))
    · rw [hv] at h
      have hkn : n ≤ k := rn_ge_t (by omega) (by omega) h
      have : k = n := by omega
      subst this
      exact ev_ps 1 rfl (ev_ret rfl (show (if b = 0 ∨ b = 1 then some (some (Value.int b)) else none) = _ from if_pos hb) ⟨⟨b, hb, hbp, rfl⟩, rfl⟩)
    · rw [hv] at h
      have hk' : k < n := rn_ge_f (by omega) (by omega) h
      have e := rz_clamp (k := k) (by omega)
      have hin : ¬ (Int32.ofNat k < 0 ∨ 25 ≤ (Int32.ofNat k).toNatClampNeg) := rz_in (by omega) (by decide)
      refine ev_ps 1 rfl (ev_if (cd := .ne) rfl (fun h => ?_) (fun h => ?_))
      · exact ev_ps 2 rfl (next hk' 1 (Or.inr rfl) (fun h => absurd h (by decide)))
      · have hb0 : b = 0 := rc_ne_f h
        have ext : (¬ (¬ a 20 k < 12 ∧ ¬ 14 < a 20 k ∧ a 23 k = Int32.ofNat p)) → (0 : Int32) = 0 → p ≠ 0 ∧ rz_nt a (k + 1) p := fun hno _ => ⟨(hbp hb0).1, fun j hj => by
          by_cases hjk : j = k
          · rw [hjk]; exact hno
          · exact (hbp hb0).2 j (by omega)⟩
        refine ev_ps 3 rfl (ev_ald rfl rfl hin ?_)
        refine ev_ps 1 rfl (ev_ic (cd := .lt) rfl (fun h => ?_) (fun h => ?_))
        · exact ev_ps 1 rfl (next hk' 0 (Or.inl rfl) (ext (fun q => q.1 (by have := rc_lt_t h; rw [← e]; exact this))))
        · refine ev_ps 3 rfl (ev_ald rfl rfl hin ?_)
          refine ev_ps 1 rfl (ev_ic (cd := .gt) rfl (fun h2 => ?_) (fun h2 => ?_))
          · exact ev_ps 1 rfl (next hk' 0 (Or.inl rfl) (ext (fun q => q.2.1 (by have := rc_gt_t h2; rw [← e]; exact this))))
          · refine ev_ps 3 rfl (ev_ald rfl rfl hin ?_)
            refine ev_ps 1 rfl (ev_ic (cd := .ne) rfl (fun h3 => ?_) (fun h3 => ?_))
            · exact ev_ps 1 rfl (next hk' 0 (Or.inl rfl) (ext (fun q => rc_ne_t h3 (by rw [e]; exact q.2.2))))
            · exact ev_ps 2 rfl (next hk' 1 (Or.inr rfl) (fun h => absurd h (by decide)))
  refine ev_ps 1 rfl (ev_if (cd := .eq) rfl (fun h1 => ?_) (fun h1 => ?_))
  · exact ev_ps 2 rfl (main 1 (Or.inr rfl) (fun h => absurd h (by decide)))
  · have hp0 : 0 < p := by
      rcases Nat.eq_zero_or_pos p with rfl | h
      · exact absurd rfl (rc_eq_f h1)
      · exact h
    refine ev_ps 5 rfl (ev_ald rfl rfl (by rw [show Int32.ofNat p - Int32.ofInt 1 = Int32.ofNat (p - 1) from rz_sub (n := 1) hp0]; exact rz_in (by omega) (by decide)) ?_)
    refine ev_ps 1 rfl (ev_ic (cd := .lt) rfl (fun h2 => ?_) (fun h2 => ?_))
    · exact ev_ps 1 rfl (main 0 (Or.inl rfl) (fun _ => by omega))
    · exact ev_ps 2 rfl (main 1 (Or.inr rfl) (fun h => absurd h (by decide)))
theorem m_block (hmi : rz_mi v a) (x : Int32) : rz_C xs xl 90 [.ref 25, .int x] (rz_w v a g) (rz_mp v a g rz_pi) := by
  refine ev_ps 7 rfl (ev_call (av := [_, _, _]) rfl rfl rfl rfl ⟨Nat.le_of_ble_eq_true rfl, rfl⟩ ⟨Nat.le_of_ble_eq_true rfl, Nat.le_of_ble_eq_true rfl⟩ (m_in _ _ _) ?_)
  rintro _ _ ⟨⟨u2, h2, rfl⟩, rfl⟩
  refine ev_if (cd := .eq) rfl (fun e2 => ?_) (fun e2 => ?_)
  · refine ev_ps 2 rfl (ev_w (w2 := rz_w (rz_up v 20 1) a g) rfl ?_)
    refine ev_ps 2 rfl (ev_if (cd := .eq) rfl (fun h => absurd (rc_eq_t h) (show ¬ (1 : Int32) = 0 by decide)) (fun h => ?_))
    exact ev_ps 1 rfl (ev_ret rfl rfl ⟨⟨_, rfl⟩, _, _, rfl, rz_mf.rf.up (by omega) _, hmi⟩)
  · obtain ⟨-, y0, y1⟩ := h2.resolve_right (fun q => rc_eq_f e2 q.1)
    obtain ⟨n, hn, hv, hrows⟩ := hmi.1
    have y1' : ¬ v 21 - 1 < x := y1
    rw [hv] at y1'
    obtain ⟨k, hk, rfl⟩ := rz_sub1 hn y0 y1'
    refine ev_ps 3 rfl (ev_w (w2 := rz_w (rz_up v 20 0) a g) rfl ?_)
    refine ev_ps 2 rfl (ev_if (cd := .eq) rfl (fun h => ?_) (fun h => absurd rfl (rc_eq_f h)))
    refine ev_ps 2 rfl ?_
    refine ev_loop (α := Nat) (fun r => r) (fun r => r ≤ 24) (fun r => [some (.ref 25), some (.int (Int32.ofNat k)), some (.int (Int32.ofNat r))]) (fun _ => []) (fun _ => rz_w (rz_up v 20 0) a g) ?_ k (by omega)
    intro j hj ih
    refine ev_ps 2 rfl (ev_call (av := [_, _]) rfl rfl rfl rfl ⟨Nat.le_of_ble_eq_true rfl, rfl⟩ ⟨Nat.le_of_ble_eq_true rfl, Nat.le_of_ble_eq_true rfl⟩ (m_isBegin (v := rz_up v 20 0) hv hn hj) ?_)
    rintro _ _ ⟨⟨u3, hu3, hP3, rfl⟩, rfl⟩
    refine ev_if (cd := .ne) rfl (fun h => ?_) (fun h => ?_)
    · exact ev_ps 1 rfl (ev_ret rfl rfl ⟨⟨_, rfl⟩, _, _, rfl, rz_mf.rf.up (by omega) _, hmi⟩)
    · have hj0 : 0 < j := Nat.pos_of_ne_zero (hP3 (rc_ne_f h)).1
      have h9 := ih (j - 1) (by omega) (by omega)
      rw [← rz_sub (k := j) (n := 1) hj0, show Int32.ofNat j - Int32.ofNat 1 = Int32.ofNat j + Int32.ofInt (-1) from Int32.sub_eq_add_neg _ _] at h9
      exact ev_ps 2 rfl h9
theorem rz_cellIdx {i t : Nat} (hi : i ≤ 15) (ht : t ≤ 24) : ∃ c, c < 12 ∧ 4 + (Int32.ofNat i + Int32.ofNat t - (Int32.ofNat i + Int32.ofNat t) / 8 * 8) = Int32.ofNat c := by
  rw [rz_add]
  have key : ∀ s, s < 47 → (4 + (Int32.ofNat s - Int32.ofNat s / 8 * 8)) = Int32.ofNat (4 + s % 8) := by decide +kernel
  exact ⟨4 + (i + t) % 8, by omega, key (i + t) (by omega)⟩
theorem rz_sm_up {f : Nat → Int32} {n k j : Nat} (h : rz_sm f n) (hj : j ≤ 15) : rz_sm (upd f k (Int32.ofNat j)) n := by
  intro i hi
  by_cases hik : i = k
  · exact ⟨j, hj, by simp [upd, hik]⟩
  · obtain ⟨j', hj', e⟩ := h i hi
    exact ⟨j', hj', by simp [upd, hik]; exact e⟩
theorem m_execute {k n : Nat} (hmi : rz_mi v a) (hv : v 21 = Int32.ofNat n) (hn : n ≤ 24) (hk : k < n) (hli : rz_li a k) : rz_C xs xl 81 [.ref 25, .int (Int32.ofNat k)] (rz_w v a g) (fun q w' => q = .inl none ∧ ∃ (j : Nat) (f f2 : Nat → Int32), j ≤ 24 ∧ rz_sm f2 12 ∧ w' = rz_w (rz_up v 23 (Int32.ofNat j)) (rz_ua (rz_ua a 27 f) 25 f2) g) := by
  obtain ⟨o', d', s', t', ho, hd, hs, ht, b1, b2, b3, b4, b5⟩ := id hli
  have e := rz_clamp (k := k) (by omega)
  rw [← e] at ho hd hs ht
  have hin : ¬ (Int32.ofNat k < 0 ∨ 25 ≤ (Int32.ofNat k).toNatClampNeg) := rz_in (by omega) (by decide)
  -- the end: the state goes back into the cells
  have back : ∀ (x3 : Int32) (j : Nat) (f f2 : Nat → Int32), j ≤ 24 → rz_sm f 4 → rz_sm f2 12 → rz_E xs xl 81 220 [some (.ref 25), some (.int (Int32.ofNat k)), some (.int (a 20 (Int32.ofNat k).toNatClampNeg)), some (.int x3), none] [] (rz_w (rz_up v 23 (Int32.ofNat j)) (rz_ua (rz_ua a 27 f) 25 f2) g) 0 0 (fun q w' => q = .inl none ∧ ∃ (j : Nat) (f f2 : Nat → Int32), j ≤ 24 ∧ rz_sm f2 12 ∧ w' = rz_w (rz_up v 23 (Int32.ofNat j)) (rz_ua (rz_ua a 27 f) 25 f2) g) := by
    intro x3 j f f2 hj hf hf2
    refine ev_ps 2 rfl ?_
    refine ev_loop (α := Nat × (Nat → Int32)) (fun r => 4 - r.1) (fun r => r.1 ≤ 4 ∧ rz_sm r.2 12) (fun r => [some (.ref 25), some (.int (Int32.ofNat k)), some (.int (a 20 (Int32.ofNat k).toNatClampNeg)), some (.int x3), some (.int (Int32.ofNat r.1))]) (fun _ => []) (fun r => rz_w (rz_up v 23 (Int32.ofNat j)) (rz_ua (rz_ua a 27 f) 25 r.2) g) ?_ (0, f2) ⟨Nat.zero_le _, hf2⟩
    rintro ⟨i, f2⟩ ⟨hi, hf2⟩ ih
    dsimp only at hi hf2 ih ⊢
    refine ev_ps 2 rfl (ev_ic (cd := .ge) rfl (fun h => ?_) (fun h => ?_))
    · exact ev_ret rfl rfl ⟨rfl, j, f, f2, hj, hf2, rfl⟩
    · have hi' : i < 4 := rn_ge_f (k := 4) (by omega) (by omega) h
      obtain ⟨c, hc, ec⟩ := hf i hi'
      have ei := rz_clamp (k := i) (by omega)
      refine ev_ps 6 rfl (ev_ald rfl rfl (rz_in hi' (by decide)) ?_)
      refine ev_ast rfl rfl (rz_in (by omega) (by decide)) ?_
      have h9 := ih (i + 1, upd f2 i (Int32.ofNat c)) ⟨by show i + 1 ≤ 4; omega, rz_sm_up hf2 hc⟩ (by show 4 - (i + 1) < 4 - i; omega)
      dsimp only at h9
      rw [← rz_succ i] at h9
      refine ev_w (w2 := rz_w (rz_up v 23 (Int32.ofNat j)) (rz_ua (rz_ua a 27 f) 25 (upd f2 i (Int32.ofNat c))) g) ?_ (ev_ps 2 rfl h9)
      rw [ei, ← ec]
      rfl
  -- the row itself
  have mid : ∀ (f : Nat → Int32) (t3 : Option Value), rz_sm f 4 → rz_E xs xl 81 39 [some (.ref 25), some (.int (Int32.ofNat k)), some (.int (a 20 (Int32.ofNat k).toNatClampNeg)), t3, none] [] (rz_w (rz_up v 23 (Int32.ofNat (k + 1))) (rz_ua a 27 f) g) 0 0 (fun q w' => q = .inl none ∧ ∃ (j : Nat) (f f2 : Nat → Int32), j ≤ 24 ∧ rz_sm f2 12 ∧ w' = rz_w (rz_up v 23 (Int32.ofNat j)) (rz_ua (rz_ua a 27 f) 25 f2) g) := by
    intro f t3 hf
    obtain ⟨i, hi, ei⟩ := hmi.2.2.2 s' (by omega)
    obtain ⟨c, hc, ec⟩ := rz_cellIdx (i := i) (t := t') hi b4
    have es : a 25 (a 22 (Int32.ofNat k).toNatClampNeg).toNatClampNeg = Int32.ofNat i := by rw [hs, rz_clamp (by omega)]; exact ei
    refine ev_ps 6 rfl (ev_ald rfl rfl hin ?_)
    refine ev_ald rfl rfl (by rw [show (rz_ua a 27 f) 22 = a 22 from rfl, hs]; exact rz_in (by omega) (by decide)) ?_
    refine ev_ps 3 rfl (ev_ald rfl rfl hin ?_)
    refine ev_ps 5 rfl ?_
    refine ev_l (L2 := [some (.ref 25), some (.int (Int32.ofNat k)), some (.int (a 20 (Int32.ofNat k).toNatClampNeg)), some (.int (Int32.ofNat c)), none]) ?_ ?_
    · rw [← ec, ← es, ← ht]; rfl
    have same : rz_w (rz_up v 23 (Int32.ofNat (k + 1))) (rz_ua a 27 f) g = rz_w (rz_up v 23 (Int32.ofNat (k + 1))) (rz_ua (rz_ua a 27 f) 25 (a 25)) g := rfl
    have stay := back (Int32.ofNat c) (k + 1) f (a 25) (by omega) hf hmi.2.2.2
    have jump : rz_E xs xl 81 210 [some (.ref 25), some (.int (Int32.ofNat k)), some (.int (a 20 (Int32.ofNat k).toNatClampNeg)), some (.int (Int32.ofNat c)), none] [] (rz_w (rz_up v 23 (Int32.ofNat (k + 1))) (rz_ua a 27 f) g) 0 0 (fun q w' => q = .inl none ∧ ∃ (j : Nat) (f f2 : Nat → Int32), j ≤ 24 ∧ rz_sm f2 12 ∧ w' = rz_w (rz_up v 23 (Int32.ofNat j)) (rz_ua (rz_ua a 27 f) 25 f2) g) := by
      refine ev_ps 4 rfl (ev_ald rfl rfl hin ?_)
      refine ev_ps 1 rfl (ev_w (w2 := rz_w (rz_up v 23 (Int32.ofNat t')) (rz_ua (rz_ua a 27 f) 25 (a 25)) g) ?_ (back (Int32.ofNat c) t' f (a 25) b4 hf hmi.2.2.2))
      rw [← ht]; rfl
    have hd2 : ¬ (a 21 (Int32.ofNat k).toNatClampNeg < 0 ∨ 12 ≤ (a 21 (Int32.ofNat k).toNatClampNeg).toNatClampNeg) := by rw [hd]; exact rz_in (by omega) (by decide)
    have hs2 : ¬ (a 22 (Int32.ofNat k).toNatClampNeg < 0 ∨ 12 ≤ (a 22 (Int32.ofNat k).toNatClampNeg).toNatClampNeg) := by rw [hs]; exact rz_in (by omega) (by decide)
    refine ev_ps 2 rfl (ev_ic (cd := .gt) rfl (fun h => ?_) (fun h => ?_))
    · refine ev_ps 2 rfl (ev_ic (cd := .ne) rfl (fun h => ?_) (fun h => ?_))
      · refine ev_ps 2 rfl (ev_ic (cd := .ne) rfl (fun h => ?_) (fun h => ?_))
        · have later : rz_E xs xl 81 173 [some (.ref 25), some (.int (Int32.ofNat k)), some (.int (a 20 (Int32.ofNat k).toNatClampNeg)), some (.int (Int32.ofNat c)), none] [] (rz_w (rz_up v 23 (Int32.ofNat (k + 1))) (rz_ua a 27 f) g) 0 0 (fun q w' => q = .inl none ∧ ∃ (j : Nat) (f f2 : Nat → Int32), j ≤ 24 ∧ rz_sm f2 12 ∧ w' = rz_w (rz_up v 23 (Int32.ofNat j)) (rz_ua (rz_ua a 27 f) 25 f2) g) := by
            have last : rz_E xs xl 81 204 [some (.ref 25), some (.int (Int32.ofNat k)), some (.int (a 20 (Int32.ofNat k).toNatClampNeg)), some (.int (Int32.ofNat c)), none] [] (rz_w (rz_up v 23 (Int32.ofNat (k + 1))) (rz_ua a 27 f) g) 0 0 (fun q w' => q = .inl none ∧ ∃ (j : Nat) (f f2 : Nat → Int32), j ≤ 24 ∧ rz_sm f2 12 ∧ w' = rz_w (rz_up v 23 (Int32.ofNat j)) (rz_ua (rz_ua a 27 f) 25 f2) g) :=
              ev_ps 2 rfl (ev_ic (cd := .ne) rfl (fun h => ev_w same stay) (fun h => jump))
            refine ev_ps 2 rfl (ev_ic (cd := .ne) rfl (fun h => last) (fun h => ?_))
            refine ev_ps 5 rfl (ev_ald rfl rfl hin (ev_ald rfl rfl hd2 ?_))
            refine ev_ps 5 rfl (ev_ald rfl rfl hin (ev_ald rfl rfl hs2 ?_))
            exact ev_ic (cd := .ne) rfl (fun h => jump) (fun h => last)
          refine ev_ps 2 rfl (ev_ic (cd := .ne) rfl (fun h => later) (fun h => ?_))
          refine ev_ps 5 rfl (ev_ald rfl rfl hin (ev_ald rfl rfl hd2 ?_))
          refine ev_ps 5 rfl (ev_ald rfl rfl hin (ev_ald rfl rfl hs2 ?_))
          exact ev_ic (cd := .eq) rfl (fun h => jump) (fun h => later)
        · -- a cell is written
          obtain ⟨y, hy, ey⟩ := hmi.2.2.2 d' (by omega)
          have ed : a 25 (a 21 (Int32.ofNat k).toNatClampNeg).toNatClampNeg = Int32.ofNat y := by rw [hd, rz_clamp (by omega)]; exact ey
          refine ev_ps 8 rfl (ev_ald rfl rfl hin (ev_ald rfl rfl hd2 ?_))
          refine ev_ast rfl rfl (rz_in hc (by decide)) ?_
          refine ev_w (w2 := rz_w (rz_up v 23 (Int32.ofNat (k + 1))) (rz_ua (rz_ua a 27 f) 25 (upd (a 25) c (Int32.ofNat y))) g) ?_ (ev_ps 1 rfl (back (Int32.ofNat c) (k + 1) f _ (by omega) hf (rz_sm_up hmi.2.2.2 hy)))
          rw [← ed, rz_clamp (k := c) (by omega)]; rfl
      · -- a cell is read
        have fin : ∀ y : Nat, y ≤ 15 → rz_E xs xl 81 112 [some (.ref 25), some (.int (Int32.ofNat k)), some (.int (a 20 (Int32.ofNat k).toNatClampNeg)), some (.int (Int32.ofNat c)), none] [.int (Int32.ofNat y), .int (Int32.ofNat d'), .ref 33] (rz_w (rz_up v 23 (Int32.ofNat (k + 1))) (rz_ua a 27 f) g) 0 0 (fun q w' => q = .inl none ∧ ∃ (j : Nat) (f f2 : Nat → Int32), j ≤ 24 ∧ rz_sm f2 12 ∧ w' = rz_w (rz_up v 23 (Int32.ofNat j)) (rz_ua (rz_ua a 27 f) 25 f2) g) := by
          intro y hy
          refine ev_ast rfl rfl (rz_in (by omega) (by decide)) ?_
          exact ev_w (w2 := rz_w (rz_up v 23 (Int32.ofNat (k + 1))) (rz_ua (rz_ua a 27 (upd f _ (Int32.ofNat y))) 25 (a 25)) g) rfl (ev_ps 1 rfl (back (Int32.ofNat c) (k + 1) _ (a 25) (by omega) (rz_sm_up hf hy) hmi.2.2.2))
        refine ev_ps 5 rfl (ev_ald rfl rfl hin ?_)
        refine ev_ps 3 rfl (ev_ald rfl rfl hin ?_)
        rw [show (rz_ua a 27 f) 21 = a 21 from rfl, hd]
        refine ev_if (cd := .ne) rfl (fun h => ?_) (fun h => ?_)
        · obtain ⟨y, hy, ey⟩ := hmi.2.2.2 c hc
          refine ev_ps 3 rfl (ev_ald rfl rfl (rz_in hc (by decide)) ?_)
          rw [show (rz_ua a 27 f) 25 = a 25 from rfl, rz_clamp (k := c) (by omega), ey]
          exact fin y hy
        · exact ev_ps 2 rfl (fin 0 (by omega))
    · refine ev_ps 2 rfl (ev_call (av := [_, _]) rfl rfl rfl rfl ⟨Nat.le_of_ble_eq_true rfl, rfl⟩ ⟨Nat.le_of_ble_eq_true rfl, Nat.le_of_ble_eq_true rfl⟩ (m_does (by omega) hli) ?_)
      rintro _ _ ⟨rfl, d, y, hd3, hy, rfl⟩
      exact ev_w (w2 := rz_w (rz_up v 23 (Int32.ofNat (k + 1))) (rz_ua (rz_ua a 27 (upd f d (Int32.ofNat y))) 25 (a 25)) g) rfl (ev_ps 1 rfl (back (Int32.ofNat c) (k + 1) _ (a 25) (by omega) (rz_sm_up hf hy) hmi.2.2.2))
  refine ev_ps 3 rfl (ev_ald rfl rfl hin ?_)
  refine ev_ps 6 rfl (ev_w (w2 := rz_w (rz_up v 23 (Int32.ofNat (k + 1))) (rz_ua a 27 (a 27)) g) (by rw [← rz_succ]; rfl) ?_)
  refine ev_ps 2 rfl ?_
  refine ev_loop (α := Nat × (Nat → Int32)) (fun r => 4 - r.1) (fun r => r.1 ≤ 4 ∧ rz_sm r.2 r.1) (fun r => [some (.ref 25), some (.int (Int32.ofNat k)), some (.int (a 20 (Int32.ofNat k).toNatClampNeg)), some (.int (Int32.ofNat r.1)), none]) (fun _ => []) (fun r => rz_w (rz_up v 23 (Int32.ofNat (k + 1))) (rz_ua a 27 r.2) g) ?_ (0, a 27) ⟨Nat.zero_le _, fun j hj => absurd hj (by omega)⟩
  rintro ⟨i, f⟩ ⟨hi, hf⟩ ih
  dsimp only at hi hf ih ⊢
  refine ev_ps 2 rfl (ev_ic (cd := .ge) rfl (fun h => ?_) (fun h => ?_))
  · have h4 : 4 ≤ i := rn_ge_t (k := 4) (by omega) (by omega) h
    have : i = 4 := by omega
    subst this
    exact mid f _ hf
  · have hi' : i < 4 := rn_ge_f (k := 4) (by omega) (by omega) h
    obtain ⟨y, hy, ey⟩ := hmi.2.2.2 i (by omega)
    have ei := rz_clamp (k := i) (by omega)
    refine ev_ps 6 rfl (ev_ald rfl rfl (rz_in (by omega) (by decide)) ?_)
    refine ev_ast rfl rfl (rz_in hi' (by decide)) ?_
    have h9 := ih (i + 1, upd f i (Int32.ofNat y)) ⟨by show i + 1 ≤ 4; omega, fun j hj => by
      by_cases hji : j = i
      · exact ⟨y, hy, by simp [upd, hji]⟩
      · obtain ⟨c, hc, ec⟩ := hf j (by omega)
        exact ⟨c, hc, by simp [upd, hji]; exact ec⟩⟩ (by show 4 - (i + 1) < 4 - i; omega)
    dsimp only at h9
    rw [← rz_succ i] at h9
    refine ev_w (w2 := rz_w (rz_up v 23 (Int32.ofNat (k + 1))) (rz_ua a 27 (upd f i (Int32.ofNat y))) g) ?_ (ev_ps 2 rfl h9)
    rw [ei, ← ey]; rfl
end RZM3
end
section
/-! the reference's liveness: the search comes to an end, for what is found only grows -/
section RZM4
variable {xs : Nat → Int32} {xl : Nat} {v : Nat → Int32} {a : Nat → Nat → Int32} {g : Nat → Int64}
def rz_at (n : Nat) (f : Nat → Int32) (k : Nat) : Int32 := if k < n then f k else 14
theorem m_livesAt {n k : Nat} (hv : v 21 = Int32.ofNat n) (hn : n ≤ 24) (hk : k ≤ 24) : rz_C xs xl 87 [.ref 25, .int (Int32.ofNat k)] (rz_w v a g) (fun q w' => q = .inl (some (.int (rz_at n (a 26) k))) ∧ w' = rz_w v a g) := by
  refine ev_ps 3 rfl (ev_ic (cd := .lt) rfl (fun h => ?_) (fun h => ?_))
  · rw [hv] at h
    have hkn : k < n := rn_lt_t (by omega) (by omega) h
    refine ev_ps 3 rfl (ev_ald rfl rfl (rz_in (by omega) (by decide)) ?_)
    exact ev_ret rfl rfl ⟨by rw [rz_at, if_pos hkn, rz_clamp (by omega)], rfl⟩
  · rw [hv] at h
    have hkn : n ≤ k := rn_lt_f (by omega) (by omega) h
    exact ev_ps 2 rfl (ev_ret rfl rfl ⟨by rw [rz_at, if_neg (by omega)]; rfl, rfl⟩)
def rz_rd (o d s t : Int32) : Int32 := if 5 < o then (if 10 < o then (if 13 < o then (if o = 14 then 0 else 14) else rz_bit d ||| rz_bit s) else rz_bit s) else rz_bit s ||| rz_bit t
theorem m_reads {k : Nat} (hk : k < 25) : rz_C xs xl 89 [.ref 25, .int (Int32.ofNat k)] (rz_w v a g) (fun q w' => q = .inl (some (.int (rz_rd (a 20 k) (a 21 k) (a 22 k) (a 23 k)))) ∧ w' = rz_w v a g) := by
  have e := rz_clamp (k := k) (by omega)
  have hin : ¬ (Int32.ofNat k < 0 ∨ 25 ≤ (Int32.ofNat k).toNatClampNeg) := rz_in hk (by decide)
  refine ev_ps 3 rfl (ev_ald rfl rfl hin ?_)
  rw [e]
  refine ev_ps 3 rfl (ev_ic (cd := .gt) rfl (fun h1 => ?_) (fun h1 => ?_))
  · have g1 : 5 < a 20 k := rc_gt_t h1
    refine ev_ps 2 rfl (ev_ic (cd := .gt) rfl (fun h2 => ?_) (fun h2 => ?_))
    · have g2 : 10 < a 20 k := rc_gt_t h2
      refine ev_ps 2 rfl (ev_ic (cd := .gt) rfl (fun h3 => ?_) (fun h3 => ?_))
      · have g3 : 13 < a 20 k := rc_gt_t h3
        refine ev_ps 2 rfl (ev_ic (cd := .ne) rfl (fun h4 => ?_) (fun h4 => ?_))
        · have g4 : ¬ a 20 k = 14 := rc_ne_t h4
          exact ev_ps 1 rfl (ev_ret rfl rfl ⟨by rw [rz_rd, if_pos g1, if_pos g2, if_pos g3, if_neg g4]; rfl, rfl⟩)
        · have g4 : a 20 k = 14 := rc_ne_f h4
          exact ev_ps 2 rfl (ev_ret rfl rfl ⟨by rw [rz_rd, if_pos g1, if_pos g2, if_pos g3, if_pos g4]; rfl, rfl⟩)
      · have g3 : ¬ 13 < a 20 k := rc_gt_f h3
        refine ev_ps 3 rfl (ev_ald rfl rfl hin ?_)
        rw [e]
        refine ev_call (av := [_]) rfl rfl rfl rfl ⟨Nat.le_of_ble_eq_true rfl, rfl⟩ ⟨Nat.le_of_ble_eq_true rfl, Nat.le_of_ble_eq_true rfl⟩ (m_bit _) ?_
        rintro _ _ ⟨rfl, rfl⟩
        refine ev_ps 3 rfl (ev_ald rfl rfl hin ?_)
        rw [e]
        refine ev_call (av := [_]) rfl rfl rfl rfl ⟨Nat.le_of_ble_eq_true rfl, rfl⟩ ⟨Nat.le_of_ble_eq_true rfl, Nat.le_of_ble_eq_true rfl⟩ (m_bit _) ?_
        rintro _ _ ⟨rfl, rfl⟩
        exact ev_ps 2 rfl (ev_ret rfl rfl ⟨by rw [rz_rd, if_pos g1, if_pos g2, if_neg g3], rfl⟩)
    · have g2 : ¬ 10 < a 20 k := rc_gt_f h2
      refine ev_ps 3 rfl (ev_ald rfl rfl hin ?_)
      rw [e]
      refine ev_call (av := [_]) rfl rfl rfl rfl ⟨Nat.le_of_ble_eq_true rfl, rfl⟩ ⟨Nat.le_of_ble_eq_true rfl, Nat.le_of_ble_eq_true rfl⟩ (m_bit _) ?_
      rintro _ _ ⟨rfl, rfl⟩
      exact ev_ret rfl rfl ⟨by rw [rz_rd, if_pos g1, if_neg g2], rfl⟩
  · have g1 : ¬ 5 < a 20 k := rc_gt_f h1
    refine ev_ps 3 rfl (ev_ald rfl rfl hin ?_)
    rw [e]
    refine ev_call (av := [_]) rfl rfl rfl rfl ⟨Nat.le_of_ble_eq_true rfl, rfl⟩ ⟨Nat.le_of_ble_eq_true rfl, Nat.le_of_ble_eq_true rfl⟩ (m_bit _) ?_
    rintro _ _ ⟨rfl, rfl⟩
    refine ev_ps 3 rfl (ev_ald rfl rfl hin ?_)
    rw [e]
    refine ev_call (av := [_]) rfl rfl rfl rfl ⟨Nat.le_of_ble_eq_true rfl, rfl⟩ ⟨Nat.le_of_ble_eq_true rfl, Nat.le_of_ble_eq_true rfl⟩ (m_bit _) ?_
    rintro _ _ ⟨rfl, rfl⟩
    exact ev_ps 1 rfl (ev_ret rfl rfl ⟨by rw [rz_rd, if_neg g1], rfl⟩)
/-- all bits of x are bits of y -/
def rz_sb (x y : Int32) : Prop := ∀ i, x.toBitVec.getLsbD i = true → y.toBitVec.getLsbD i = true
theorem rz_sb.rf {x : Int32} : rz_sb x x := fun _ h => h
theorem rz_sb.tr {x y z : Int32} (h : rz_sb x y) (h2 : rz_sb y z) : rz_sb x z := fun i q => h2 i (h i q)
theorem rz_sb.or {x y x' y' : Int32} (h : rz_sb x x') (h2 : rz_sb y y') : rz_sb (x ||| y) (x' ||| y') := fun i q => by
  rw [Int32.toBitVec_or, BitVec.getLsbD_or, Bool.or_eq_true] at q ⊢
  exact q.imp (h i) (h2 i)
theorem rz_sb.and {x x' c : Int32} (h : rz_sb x x') : rz_sb (x &&& c) (x' &&& c) := fun i q => by
  rw [Int32.toBitVec_and, BitVec.getLsbD_and, Bool.and_eq_true] at q ⊢
  exact ⟨h i q.1, q.2⟩
theorem rz_sb.zero {x : Int32} : rz_sb 0 x := fun i q => by
  have : (0 : Int32).toBitVec.getLsbD i = false := by
    show (0#32).getLsbD i = false
    simp
  rw [this] at q; cases q
theorem rz_sb.eq {x y : Int32} (h : rz_sb x y) : x &&& y = x := by
  apply Int32.toBitVec_inj.mp
  apply BitVec.eq_of_getLsbD_eq
  intro i _
  rw [Int32.toBitVec_and, BitVec.getLsbD_and]
  cases hx : x.toBitVec.getLsbD i with
  | false => rfl
  | true => rw [h i hx]; rfl
theorem rz_sb_nat {i j : Nat} (hi : i ≤ 15) (hj : j ≤ 15) (h : rz_sb (Int32.ofNat i) (Int32.ofNat j)) : i ≤ j := by
  have key : ∀ i < 16, ∀ j < 16, Int32.ofNat i &&& Int32.ofNat j = Int32.ofNat i → i ≤ j := by decide +kernel
  exact key i (by omega) j (by omega) h.eq
def rz_s1 (x : Int32) : Prop := ∃ j : Nat, j ≤ 15 ∧ x = Int32.ofNat j
theorem rz_s1.or {x y : Int32} (hx : rz_s1 x) (hy : rz_s1 y) : rz_s1 (x ||| y) := by
  obtain ⟨i, hi, rfl⟩ := hx
  obtain ⟨j, hj, rfl⟩ := hy
  have key : ∀ i < 16, ∀ j < 16, Int32.ofNat i ||| Int32.ofNat j = Int32.ofNat (i ||| j) ∧ i ||| j < 16 := by decide +kernel
  have := key i (by omega) j (by omega)
  exact ⟨i ||| j, by omega, this.1⟩
theorem rz_s1.and {x c : Int32} (hx : rz_s1 x) : rz_s1 (x &&& c) := by
  obtain ⟨i, hi, rfl⟩ := hx
  obtain ⟨k, hk, e⟩ := rz_mask c i (by omega)
  exact ⟨k, by omega, by rw [Int32.and_comm]; exact e⟩
theorem rz_s1.bit {r : Nat} (hr : r ≤ 3) : rz_s1 (rz_bit (Int32.ofNat r)) := by
  have key : ∀ r < 4, rz_bit (Int32.ofNat r) = Int32.ofNat (if r = 0 then 0 else 2 ^ r) := by decide +kernel
  refine ⟨if r = 0 then 0 else 2 ^ r, ?_, key r (by omega)⟩
  have : ∀ r < 4, (if r = 0 then 0 else 2 ^ r) ≤ 15 := by decide
  exact this r (by omega)
theorem rz_s1.rd {o d s t : Int32} (h : rz_LI o d s t) : rz_s1 (rz_rd o d s t) := by
  obtain ⟨o', d', s', t', rfl, rfl, rfl, rfl, b1, b2, b3, b4, b5⟩ := h
  unfold rz_rd
  split
  · split
    · split
      · split
        · exact ⟨0, by omega, rfl⟩
        · exact ⟨14, by omega, rfl⟩
      · exact (rz_s1.bit b2).or (rz_s1.bit b3)
    · exact rz_s1.bit b3
  · rename_i h
    have h5 : o' ≤ 5 := Nat.not_lt.mp fun q => h ((rz_lt_iff (n := 5) (by omega) (by omega)).mpr q)
    exact (rz_s1.bit b3).or (rz_s1.bit (b5 h5))
def rz_b1 (n : Nat) (f : Nat → Int32) (o : Int32) (p : Nat) : Int32 := if o = 14 ∨ o = 15 then 0 else rz_at n f (p + 1)
def rz_b2 (n : Nat) (f : Nat → Int32) (o : Int32) (t : Nat) : Int32 := if ¬ o < 12 ∧ ¬ 14 < o then rz_at n f t else 0
def rz_wr (o d : Int32) : Int32 := if 10 < o then 0 else rz_bit d
def rz_Fp (a : Nat → Nat → Int32) (n : Nat) (f : Nat → Int32) (p : Nat) : Int32 := rz_rd (a 20 p) (a 21 p) (a 22 p) (a 23 p) ||| ((rz_b1 n f (a 20 p) p ||| rz_b2 n f (a 20 p) (a 23 p).toNatClampNeg) &&& (rz_wr (a 20 p) (a 21 p) ^^^ Int32.ofInt (-1)))
theorem rz_at_sb {n k : Nat} {f f' : Nat → Int32} (h : ∀ k, rz_sb (f k) (f' k)) : rz_sb (rz_at n f k) (rz_at n f' k) := by
  unfold rz_at; split
  · exact h k
  · exact rz_sb.rf
theorem rz_Fp_sb {n p : Nat} {f f' : Nat → Int32} (h : ∀ k, rz_sb (f k) (f' k)) : rz_sb (rz_Fp a n f p) (rz_Fp a n f' p) := by
  unfold rz_Fp
  refine rz_sb.rf.or (rz_sb.and (rz_sb.or ?_ ?_))
  · unfold rz_b1; split
    · exact rz_sb.rf
    · exact rz_at_sb h
  · unfold rz_b2; split
    · exact rz_at_sb h
    · exact rz_sb.rf
theorem rz_at_s1 {n k : Nat} {f : Nat → Int32} (h : rz_sm f n) : rz_s1 (rz_at n f k) := by
  unfold rz_at; split
  · rename_i hk; exact h k hk
  · exact ⟨14, by omega, rfl⟩
theorem rz_Fp_s1 {n p : Nat} {f : Nat → Int32} (h : rz_sm f n) (hli : rz_li a p) : rz_s1 (rz_Fp a n f p) := by
  unfold rz_Fp
  refine (rz_s1.rd hli).or (rz_s1.and (rz_s1.or ?_ ?_))
  · unfold rz_b1; split
    · exact ⟨0, by omega, rfl⟩
    · exact rz_at_s1 h
  · unfold rz_b2; split
    · exact rz_at_s1 h
    · exact ⟨0, by omega, rfl⟩
def rz_ms (f : Nat → Int32) : Nat → Nat
  | 0 => 0
  | k + 1 => rz_ms f k + (15 - (f k).toNatClampNeg)
theorem rz_ms_far {f : Nat → Int32} {p : Nat} {x : Int32} : ∀ n, n ≤ p → rz_ms (upd f p x) n = rz_ms f n := by
  intro n
  induction n with
  | zero => intro _; rfl
  | succ n ih =>
    intro h
    rw [rz_ms, rz_ms, ih (by omega)]
    simp only [upd]
    rw [if_neg (by omega)]
theorem rz_ms_up {f : Nat → Int32} {p : Nat} {x : Int32} : ∀ n, p < n → rz_ms (upd f p x) n + (15 - (f p).toNatClampNeg) = rz_ms f n + (15 - x.toNatClampNeg) := by
  intro n
  induction n with
  | zero => intro h; omega
  | succ n ih =>
    intro h
    rw [rz_ms, rz_ms]
    by_cases hp : p = n
    · subst hp
      rw [rz_ms_far p (Nat.le_refl _)]
      simp only [upd, if_true]
      omega
    · have := ih (by omega)
      simp only [upd]
      rw [if_neg (by omega : ¬ n = p)]
      omega
def rz_J (a : Nat → Nat → Int32) (n : Nat) (f : Nat → Int32) : Prop := rz_sm f n ∧ ∀ p, p < n → rz_sb (f p) (rz_Fp a n f p)
theorem rz_J_step {n p : Nat} {f : Nat → Int32} (hJ : rz_J a n f) (hp : p < n) (hli : rz_li a p) : rz_J a n (upd f p (rz_Fp a n f p)) ∧ rz_ms (upd f p (rz_Fp a n f p)) n ≤ rz_ms f n ∧ (¬ rz_Fp a n f p = f p → rz_ms (upd f p (rz_Fp a n f p)) n < rz_ms f n) := by
  have hs := rz_Fp_s1 hJ.1 hli
  have hgrow : ∀ k, rz_sb (f k) (upd f p (rz_Fp a n f p) k) := fun k => by
    by_cases hk : k = p
    · simp only [upd, hk, if_true]; exact hJ.2 p hp
    · simp only [upd, hk, if_false]; exact rz_sb.rf
  obtain ⟨j, hj, ej⟩ := hs
  obtain ⟨i, hi, ei⟩ := hJ.1 p hp
  have hij : i ≤ j := rz_sb_nat hi hj (by rw [← ei, ← ej]; exact hJ.2 p hp)
  have hsum := rz_ms_up (f := f) (p := p) (x := rz_Fp a n f p) n hp
  rw [ej, ei, rz_clamp (by omega), rz_clamp (by omega)] at hsum
  rw [ej]
  refine ⟨⟨fun k hk => ?_, fun q hq => ?_⟩, by omega, fun hne => ?_⟩
  · by_cases hkp : k = p
    · exact ⟨j, hj, by simp [upd, hkp]⟩
    · obtain ⟨c, hc, ec⟩ := hJ.1 k hk
      exact ⟨c, hc, by simp [upd, hkp]; exact ec⟩
  · rw [← ej]
    by_cases hqp : q = p
    · subst hqp
      simp only [upd, if_true]
      exact rz_Fp_sb hgrow
    · have : upd f p (rz_Fp a n f p) q = f q := by simp [upd, hqp]
      rw [this]
      exact (hJ.2 q hq).tr (rz_Fp_sb hgrow)
  · have : i ≠ j := fun q => hne (by rw [ei, q])
    omega
theorem m_findLives (hmi : rz_mi v a) : rz_C xs xl 86 [.ref 25] (rz_w v a g) (fun q w' => q = .inl none ∧ ∃ f, w' = rz_w v (rz_ua a 26 f) g) := by
  obtain ⟨n, hn, hv, hrows⟩ := hmi.1
  -- one place of a sweep
  have place : ∀ (c : Int32) (p : Nat) (f : Nat → Int32) (l3 l4 l5 l6 : Option Value), p < n → (∀ (d : Int32) (l3 l4 l5 l6 : Option Value), (d = 0 ∨ d = 1) → (d = 0 → c = 0 ∧ rz_Fp a n f p = f p) → (d = 1 → ¬ c = 0 ∨ ¬ rz_Fp a n f p = f p) → rz_E xs xl 86 170 [some (.ref 25), some (.int d), some (.int (Int32.ofNat p)), l3, l4, l5, l6] [] (rz_w v (rz_ua a 26 (upd f p (rz_Fp a n f p))) g) 0 0 (fun q w' => q = .inl none ∧ ∃ f, w' = rz_w v (rz_ua a 26 f) g)) → rz_E xs xl 86 42 [some (.ref 25), some (.int c), some (.int (Int32.ofNat p)), l3, l4, l5, l6] [] (rz_w v (rz_ua a 26 f) g) 0 0 (fun q w' => q = .inl none ∧ ∃ f, w' = rz_w v (rz_ua a 26 f) g) := by
    intro c p f l3 l4 l5 l6 hp hK
    have e := rz_clamp (k := p) (by omega)
    have hin : ¬ (Int32.ofNat p < 0 ∨ 25 ≤ (Int32.ofNat p).toNatClampNeg) := rz_in (by omega) (by decide)
    obtain ⟨o', d', s', t', ho, hd, hs, ht, b1, b2, b3, b4, b5⟩ := hrows p hp
    have fin : rz_E xs xl 86 141 [some (.ref 25), some (.int c), some (.int (Int32.ofNat p)), some (.int (a 20 p)), some (.int (rz_b1 n f (a 20 p) p ||| rz_b2 n f (a 20 p) (a 23 p).toNatClampNeg)), some (.int (rz_wr (a 20 p) (a 21 p))), some (.int (rz_Fp a n f p))] [] (rz_w v (rz_ua a 26 f) g) 0 0 (fun q w' => q = .inl none ∧ ∃ f, w' = rz_w v (rz_ua a 26 f) g) := by
      have store : ∀ d : Int32, (d = 0 ∨ d = 1) → (d = 0 → c = 0 ∧ rz_Fp a n f p = f p) → (d = 1 → ¬ c = 0 ∨ ¬ rz_Fp a n f p = f p) → rz_E xs xl 86 161 [some (.ref 25), some (.int c), some (.int (Int32.ofNat p)), some (.int (a 20 p)), some (.int (rz_b1 n f (a 20 p) p ||| rz_b2 n f (a 20 p) (a 23 p).toNatClampNeg)), some (.int (rz_wr (a 20 p) (a 21 p))), some (.int (rz_Fp a n f p))] [.int d] (rz_w v (rz_ua a 26 f) g) 0 0 (fun q w' => q = .inl none ∧ ∃ f, w' = rz_w v (rz_ua a 26 f) g) := by
        intro d hd0 hd1 hd2
        refine ev_ps 5 rfl (ev_ast rfl rfl hin ?_)
        refine ev_w (w2 := rz_w v (rz_ua a 26 (upd f p (rz_Fp a n f p))) g) (by rw [e]; rfl) ?_
        exact hK d _ _ _ _ hd0 hd1 hd2
      refine ev_ps 1 rfl (ev_if (cd := .ne) rfl (fun h => ?_) (fun h => ?_))
      · exact ev_ps 2 rfl (store 1 (Or.inr rfl) (fun q => absurd q (by decide)) (fun _ => Or.inl (rc_ne_t h)))
      · refine ev_ps 4 rfl (ev_ald rfl rfl hin ?_)
        refine ev_ic (cd := .eq) rfl (fun h2 => ?_) (fun h2 => ?_)
        · refine ev_ps 1 rfl (store 0 (Or.inl rfl) (fun _ => ⟨rc_ne_f h, ?_⟩) (fun q => absurd q (by decide)))
          have := rc_eq_t h2
          rw [e] at this
          exact this
        · refine ev_ps 2 rfl (store 1 (Or.inr rfl) (fun q => absurd q (by decide)) (fun _ => Or.inr (fun q => rc_eq_f h2 ?_)))
          rw [e]
          exact q
    have s124 : ∀ x : Int32, x = rz_wr (a 20 p) (a 21 p) → rz_E xs xl 86 124 [some (.ref 25), some (.int c), some (.int (Int32.ofNat p)), some (.int (a 20 p)), some (.int (rz_b1 n f (a 20 p) p ||| rz_b2 n f (a 20 p) (a 23 p).toNatClampNeg)), l5, l6] [.int x] (rz_w v (rz_ua a 26 f) g) 0 0 (fun q w' => q = .inl none ∧ ∃ f, w' = rz_w v (rz_ua a 26 f) g) := by
      intro x hx
      subst hx
      refine ev_ps 3 rfl (ev_call (av := [_, _]) rfl rfl rfl rfl ⟨Nat.le_of_ble_eq_true rfl, rfl⟩ ⟨Nat.le_of_ble_eq_true rfl, Nat.le_of_ble_eq_true rfl⟩ (m_reads (by omega)) ?_)
      rintro _ _ ⟨rfl, rfl⟩
      exact ev_ps 7 rfl fin
    have s102 : ∀ x : Int32, x = rz_b2 n f (a 20 p) (a 23 p).toNatClampNeg → rz_E xs xl 86 102 [some (.ref 25), some (.int c), some (.int (Int32.ofNat p)), some (.int (a 20 p)), some (.int (rz_b1 n f (a 20 p) p)), l5, l6] [.int x, .int (rz_b1 n f (a 20 p) p)] (rz_w v (rz_ua a 26 f) g) 0 0 (fun q w' => q = .inl none ∧ ∃ f, w' = rz_w v (rz_ua a 26 f) g) := by
      intro x hx
      subst hx
      refine ev_ps 4 rfl (ev_ic (cd := .gt) rfl (fun h => ?_) (fun h => ?_))
      · exact ev_ps 1 rfl (s124 0 (by unfold rz_wr; exact (if_pos (rc_gt_t h)).symm))
      · refine ev_ps 3 rfl (ev_ald rfl rfl hin ?_)
        rw [show (rz_ua a 26 f) 21 = a 21 from rfl, e]
        refine ev_call (av := [_]) rfl rfl rfl rfl ⟨Nat.le_of_ble_eq_true rfl, rfl⟩ ⟨Nat.le_of_ble_eq_true rfl, Nat.le_of_ble_eq_true rfl⟩ (m_bit _) ?_
        rintro _ _ ⟨rfl, rfl⟩
        exact ev_ps 1 rfl (s124 _ (by unfold rz_wr; exact (if_neg (rc_gt_f h)).symm))
    have s72 : ∀ (x : Int32) (l4 : Option Value), x = rz_b1 n f (a 20 p) p → rz_E xs xl 86 72 [some (.ref 25), some (.int c), some (.int (Int32.ofNat p)), some (.int (a 20 p)), l4, l5, l6] [.int x] (rz_w v (rz_ua a 26 f) g) 0 0 (fun q w' => q = .inl none ∧ ∃ f, w' = rz_w v (rz_ua a 26 f) g) := by
      intro x l4 hx
      subst hx
      refine ev_ps 4 rfl (ev_ic (cd := .lt) rfl (fun h => ?_) (fun h => ?_))
      · exact ev_ps 1 rfl (s102 0 (by unfold rz_b2; exact (if_neg (fun q => q.1 (rc_lt_t h))).symm))
      · refine ev_ps 2 rfl (ev_ic (cd := .gt) rfl (fun h2 => ?_) (fun h2 => ?_))
        · exact ev_ps 1 rfl (s102 0 (by unfold rz_b2; exact (if_neg (fun q => q.2 (rc_gt_t h2))).symm))
        · refine ev_ps 4 rfl (ev_ald rfl rfl hin ?_)
          rw [show (rz_ua a 26 f) 23 = a 23 from rfl, e, ht]
          refine ev_call (av := [_, _]) rfl rfl rfl rfl ⟨Nat.le_of_ble_eq_true rfl, rfl⟩ ⟨Nat.le_of_ble_eq_true rfl, Nat.le_of_ble_eq_true rfl⟩ (m_livesAt hv hn b4) ?_
          rintro _ _ ⟨rfl, rfl⟩
          exact ev_ps 1 rfl (s102 _ (by unfold rz_b2; rw [ht, rz_clamp (by omega)]; exact (if_pos ⟨rc_lt_f h, rc_gt_f h2⟩).symm))
    refine ev_ps 3 rfl (ev_ald rfl rfl hin ?_)
    rw [show (rz_ua a 26 f) 20 = a 20 from rfl, e]
    refine ev_ps 3 rfl (ev_ic (cd := .eq) rfl (fun h => ?_) (fun h => ?_))
    · exact ev_ps 2 rfl (s72 0 _ (by unfold rz_b1; exact (if_pos (Or.inl (rc_eq_t h))).symm))
    · refine ev_ps 2 rfl (ev_ic (cd := .ne) rfl (fun h2 => ?_) (fun h2 => ?_))
      · refine ev_ps 4 rfl ?_
        refine ev_call (av := [.ref 25, .int (Int32.ofNat (p + 1))]) rfl (by rw [← rz_succ]; rfl) rfl rfl ⟨Nat.le_of_ble_eq_true rfl, rfl⟩ ⟨Nat.le_of_ble_eq_true rfl, Nat.le_of_ble_eq_true rfl⟩ (m_livesAt hv hn (by omega)) ?_
        rintro _ _ ⟨rfl, rfl⟩
        exact s72 _ _ (by unfold rz_b1; exact (if_neg (fun q => q.elim (rc_eq_f h) (rc_ne_t h2))).symm)
      · exact ev_ps 2 rfl (s72 0 _ (by unfold rz_b1; exact (if_pos (Or.inr (rc_ne_f h2))).symm))
  -- a sweep
  have sweep : ∀ (c : Int32) (f : Nat → Int32) (l2 l3 l4 l5 l6 : Option Value), (c = 0 ∨ c = 1) → rz_J a n f → rz_E xs xl 86 25 [some (.ref 25), some (.int c), l2, l3, l4, l5, l6] [] (rz_w v (rz_ua a 26 f) g) 0 0 (fun q w' => q = .inl none ∧ ∃ f, w' = rz_w v (rz_ua a 26 f) g) := by
    intro c f l2 l3 l4 l5 l6 hc hJ
    refine ev_loop (α := Int32 × Option Value × Option Value × Option Value × Option Value × Option Value × (Nat → Int32)) (fun r => 2 * rz_ms r.2.2.2.2.2.2 n + (if r.1 = 1 then 1 else 0)) (fun r => (r.1 = 0 ∨ r.1 = 1) ∧ rz_J a n r.2.2.2.2.2.2) (fun r => [some (.ref 25), some (.int r.1), r.2.1, r.2.2.1, r.2.2.2.1, r.2.2.2.2.1, r.2.2.2.2.2.1]) (fun _ => []) (fun r => rz_w v (rz_ua a 26 r.2.2.2.2.2.2) g) ?_ (c, l2, l3, l4, l5, l6, f) ⟨hc, hJ⟩
    rintro ⟨c, l2, l3, l4, l5, l6, f0⟩ ⟨hc, hJ⟩ ih
    dsimp only at hc hJ ih ⊢
    refine ev_ps 1 rfl (ev_if (cd := .eq) rfl (fun h => ?_) (fun h => ?_))
    · exact ev_ret rfl rfl ⟨rfl, f0, rfl⟩
    · have hc1 : c = 1 := hc.resolve_left (rc_eq_f h)
      rw [if_pos hc1] at ih
      refine ev_ps 7 rfl ?_
      refine ev_l (L2 := [some (.ref 25), some (.int 0), some (.int (Int32.ofNat n - 1)), l3, l4, l5, l6]) (by rw [← hv]; rfl) ?_
      refine ev_loop (α := Nat × Int32 × Option Value × Option Value × Option Value × Option Value × (Nat → Int32)) (fun r => r.1) (fun r => r.1 ≤ n ∧ (r.2.1 = 0 ∨ r.2.1 = 1) ∧ rz_J a n r.2.2.2.2.2.2 ∧ rz_ms r.2.2.2.2.2.2 n ≤ rz_ms f0 n ∧ (r.2.1 = 1 → rz_ms r.2.2.2.2.2.2 n < rz_ms f0 n)) (fun r => [some (.ref 25), some (.int r.2.1), some (.int (Int32.ofNat r.1 - 1)), r.2.2.1, r.2.2.2.1, r.2.2.2.2.1, r.2.2.2.2.2.1]) (fun _ => []) (fun r => rz_w v (rz_ua a 26 r.2.2.2.2.2.2) g) ?_ (n, 0, l3, l4, l5, l6, f0) ⟨Nat.le_refl _, Or.inl rfl, hJ, Nat.le_refl _, fun q => absurd (show (0 : Int32) = 1 from q) (by decide)⟩
      rintro ⟨k, c2, l3, l4, l5, l6, f⟩ ⟨hk, hc2, hJ2, hm1, hm2⟩ ih2
      dsimp only at hk hc2 hJ2 hm1 hm2 ih2 ⊢
      refine ev_ps 1 rfl (ev_if (cd := .lt) rfl (fun h => ?_) (fun h => ?_))
      · have h9 := ih (c2, some (.int (Int32.ofNat k - 1)), l3, l4, l5, l6, f) ⟨hc2, hJ2⟩ (by
          show 2 * rz_ms f n + (if c2 = 1 then 1 else 0) < 2 * rz_ms f0 n + 1
          rcases hc2 with h0 | h1
          · rw [h0, if_neg (by decide)]; omega
          · rw [if_pos h1]; have := hm2 h1; omega)
        exact ev_ps 1 rfl h9
      · have hk0 : 0 < k := by
          rcases Nat.eq_zero_or_pos k with rfl | h0
          · exact absurd (by decide : Int32.ofNat 0 - 1 < 0) (rc_lt_f h)
          · exact h0
        rw [show Int32.ofNat k - 1 = Int32.ofNat (k - 1) from rz_sub (n := 1) hk0]
        refine place c2 (k - 1) f l3 l4 l5 l6 (by omega) (fun d l3 l4 l5 l6 hd hd0 hd1 => ?_)
        obtain ⟨j1, j2, j3⟩ := rz_J_step hJ2 (show k - 1 < n by omega) (hrows (k - 1) (by omega))
        have h9 := ih2 (k - 1, d, l3, l4, l5, l6, upd f (k - 1) (rz_Fp a n f (k - 1))) ⟨by show k - 1 ≤ n; omega, hd, j1, Nat.le_trans j2 hm1, fun q => by
          rcases hd1 q with h1 | h1
          · exact Nat.lt_of_le_of_lt j2 (hm2 (hc2.resolve_left h1))
          · exact Nat.lt_of_lt_of_le (j3 h1) hm1⟩ (by show k - 1 < k; omega)
        dsimp only at h9
        rw [show Int32.ofNat (k - 1) - 1 = Int32.ofNat (k - 1) + Int32.ofInt (-1) from Int32.sub_eq_add_neg _ _] at h9
        exact ev_ps 2 rfl h9
  refine ev_ps 2 rfl (ev_w (w2 := rz_w v (rz_ua a 26 (a 26)) g) rfl ?_)
  refine ev_loop (α := Nat × (Nat → Int32)) (fun r => n - r.1) (fun r => r.1 ≤ n ∧ ∀ j, j < r.1 → r.2 j = 0) (fun r => [some (.ref 25), some (.int (Int32.ofNat r.1)), none, none, none, none, none]) (fun _ => []) (fun r => rz_w v (rz_ua a 26 r.2) g) ?_ (0, a 26) ⟨Nat.zero_le _, fun j hj => absurd hj (by omega)⟩
  rintro ⟨k, f⟩ ⟨hk, hf⟩ ih
  dsimp only at hk hf ih ⊢
  refine ev_ps 3 rfl (ev_ic (cd := .ge) rfl (fun h => ?_) (fun h => ?_))
  · have h' : rz_cmp .ge (Int32.ofNat k) (v 21) = true := h
    rw [hv] at h'
    have hkn : n ≤ k := rn_ge_t (by omega) (by omega) h'
    refine ev_ps 2 rfl (sweep 1 f _ _ _ _ _ (Or.inr rfl) ⟨fun j hj => ⟨0, by omega, hf j (by omega)⟩, fun p hp => ?_⟩)
    rw [hf p (by omega)]
    exact rz_sb.zero
  · have h' : rz_cmp .ge (Int32.ofNat k) (v 21) = false := h
    rw [hv] at h'
    have hk' : k < n := rn_ge_f (by omega) (by omega) h'
    refine ev_ps 4 rfl (ev_ast rfl rfl (rz_in (by omega) (by decide)) ?_)
    have h9 := ih (k + 1, upd f k 0) ⟨by show k + 1 ≤ n; omega, fun j hj => by
      by_cases hjk : j = k
      · simp [upd, hjk]
      · simp [upd, hjk]; exact hf j (by have : j < k + 1 := hj; omega)⟩ (by show n - (k + 1) < n - k; omega)
    dsimp only at h9
    rw [← rz_succ k] at h9
    exact ev_w (w2 := rz_w v (rz_ua a 26 (upd f k 0)) g) (by rw [rz_clamp (by omega)]; rfl) (ev_ps 2 rfl h9)
theorem m_live (hmi : rz_mi v a) (x : Int32) : rz_C xs xl 85 [.ref 25, .int x] (rz_w v a g) (rz_mp v a g rz_pi) := by
  refine ev_ps 5 rfl (ev_call (av := [_, _, _]) rfl rfl rfl rfl ⟨Nat.le_of_ble_eq_true rfl, rfl⟩ ⟨Nat.le_of_ble_eq_true rfl, Nat.le_of_ble_eq_true rfl⟩ (m_in _ _ _) ?_)
  rintro _ _ ⟨⟨u2, h2, rfl⟩, rfl⟩
  refine ev_if (cd := .eq) rfl (fun e2 => ?_) (fun e2 => ?_)
  · refine ev_ps 2 rfl (ev_w (w2 := rz_w (rz_up v 20 1) a g) rfl ?_)
    refine ev_ps 2 rfl (ev_if (cd := .eq) rfl (fun h => absurd (rc_eq_t h) (show ¬ (1 : Int32) = 0 by decide)) (fun h => ?_))
    exact ev_ps 1 rfl (ev_ret rfl rfl ⟨⟨_, rfl⟩, _, _, rfl, rz_mf.rf.up (by omega) _, hmi⟩)
  · obtain ⟨-, y0, y1⟩ := h2.resolve_right (fun q => rc_eq_f e2 q.1)
    obtain ⟨n, hn, hv, hrows⟩ := hmi.1
    have y1' : ¬ v 21 < x := y1
    rw [hv] at y1'
    obtain ⟨k, hk, rfl⟩ := rz_le_nat (by omega) y0 y1'
    refine ev_ps 3 rfl (ev_w (w2 := rz_w (rz_up v 20 0) a g) rfl ?_)
    refine ev_ps 2 rfl (ev_if (cd := .eq) rfl (fun h => ?_) (fun h => absurd rfl (rc_eq_f h)))
    refine ev_ps 1 rfl (ev_call (av := [_]) rfl rfl rfl rfl ⟨Nat.le_of_ble_eq_true rfl, rfl⟩ ⟨Nat.le_of_ble_eq_true rfl, Nat.le_of_ble_eq_true rfl⟩ (m_findLives (v := rz_up v 20 0) hmi) ?_)
    rintro _ _ ⟨rfl, f, rfl⟩
    refine ev_ps 2 rfl (ev_call (av := [_, _]) rfl rfl rfl rfl ⟨Nat.le_of_ble_eq_true rfl, rfl⟩ ⟨Nat.le_of_ble_eq_true rfl, Nat.le_of_ble_eq_true rfl⟩ (m_livesAt (v := rz_up v 20 0) hv hn (by omega)) ?_)
    rintro _ _ ⟨rfl, rfl⟩
    exact ev_ret rfl rfl ⟨⟨_, rfl⟩, _, _, rfl, (rz_mf.rf.up (by omega) _).ua (by omega) _, hmi⟩
end RZM4
end
section
/-! the reference: run, and improving -/
section RZM5
variable {xs : Nat → Int32} {xl : Nat} {v : Nat → Int32} {a : Nat → Nat → Int32} {g : Nat → Int64}
theorem m_run (hmi : rz_mi v a) (x : Int32) : rz_C xs xl 80 [.ref 25, .int x] (rz_w v a g) (rz_mp v a g rz_pi) := by
  obtain ⟨n, hn, hv, hrows⟩ := hmi.1
  refine ev_ps 4 rfl (ev_call (av := [_, _, _]) rfl rfl rfl rfl ⟨Nat.le_of_ble_eq_true rfl, rfl⟩ ⟨Nat.le_of_ble_eq_true rfl, Nat.le_of_ble_eq_true rfl⟩ (m_in _ _ _) ?_)
  rintro _ _ ⟨⟨u2, h2, rfl⟩, rfl⟩
  refine ev_if (cd := .eq) rfl (fun e2 => ?_) (fun e2 => ?_)
  · refine ev_ps 2 rfl (ev_w (w2 := rz_w (rz_up v 20 1) a g) rfl ?_)
    refine ev_ps 2 rfl (ev_if (cd := .eq) rfl (fun h => absurd (rc_eq_t h) (show ¬ (1 : Int32) = 0 by decide)) (fun h => ?_))
    exact ev_ps 1 rfl (ev_ret rfl rfl ⟨⟨_, rfl⟩, _, _, rfl, rz_mf.rf.up (by omega) _, hmi⟩)
  · obtain ⟨-, y0, y1⟩ := h2.resolve_right (fun q => rc_eq_f e2 q.1)
    obtain ⟨l, hl, rfl⟩ := rz_le_nat (b := 500) (by decide) y0 y1
    refine ev_ps 3 rfl (ev_w (w2 := rz_w (rz_up v 20 0) a g) rfl ?_)
    refine ev_ps 2 rfl (ev_if (cd := .eq) rfl (fun h => ?_) (fun h => absurd rfl (rc_eq_f h)))
    have fin : ∀ (e : Int32) (j : Int32) (f f2 : Nat → Int32), rz_sm f2 12 → rz_mf v a (rz_up (rz_up (rz_up v 20 0) 22 e) 23 j) (rz_ua (rz_ua a 27 f) 25 f2) ∧ rz_mi (rz_up (rz_up (rz_up v 20 0) 22 e) 23 j) (rz_ua (rz_ua a 27 f) 25 f2) := fun e j f f2 hf2 =>
      ⟨((((rz_mf.rf.up (by omega) _).up (by omega) _).up (by omega) _).ua (by omega) _).ua (by omega) _, hmi.1, hmi.2.1, hmi.2.2.1, hf2⟩
    have loop : ∀ (e : Int32) (t3 : Option Value) (j : Nat) (f f2 : Nat → Int32), rz_sm f2 12 → (e = 0 → j < n) → rz_E xs xl 80 82 [some (.ref 25), some (.int (Int32.ofNat l)), some (.int (Int32.ofNat 0)), t3] [] (rz_w (rz_up (rz_up (rz_up v 20 0) 22 e) 23 (Int32.ofNat j)) (rz_ua (rz_ua a 27 f) 25 f2) g) 0 0 (rz_mp v a g rz_pi) := by
      intro e t3 j f f2 hf2 he
      refine ev_loop (α := Nat × Int32 × Option Value × Nat × (Nat → Int32) × (Nat → Int32)) (fun r => l - r.1) (fun r => r.1 ≤ l ∧ rz_sm r.2.2.2.2.2 12 ∧ (r.2.1 = 0 → r.2.2.2.1 < n)) (fun r => [some (.ref 25), some (.int (Int32.ofNat l)), some (.int (Int32.ofNat r.1)), r.2.2.1]) (fun _ => []) (fun r => rz_w (rz_up (rz_up (rz_up v 20 0) 22 r.2.1) 23 (Int32.ofNat r.2.2.2.1)) (rz_ua (rz_ua a 27 r.2.2.2.2.1) 25 r.2.2.2.2.2) g) ?_ (0, e, t3, j, f, f2) ⟨Nat.zero_le _, hf2, he⟩
      rintro ⟨k, e, t3, j, f, f2⟩ ⟨hk, hf2, he⟩ ih
      dsimp only at hk hf2 he ih ⊢
      obtain ⟨m1, m2⟩ := fin e (Int32.ofNat j) f f2 hf2
      refine ev_ps 2 rfl (ev_if (cd := .ne) rfl (fun h => ?_) (fun h => ?_))
      · exact ev_ps 1 rfl (ev_ret rfl rfl ⟨⟨_, rfl⟩, _, _, rfl, m1, m2⟩)
      · refine ev_ps 2 rfl (ev_ic (cd := .ge) rfl (fun h1 => ?_) (fun h1 => ?_))
        · exact ev_ps 1 rfl (ev_ret rfl rfl ⟨⟨_, rfl⟩, _, _, rfl, m1, m2⟩)
        · have hk' : k < l := rn_ge_f (by omega) (by omega) h1
          have hj : j < n := he (rc_ne_f h)
          refine ev_ps 5 rfl (ev_call (av := [_, _]) rfl rfl rfl rfl ⟨Nat.le_of_ble_eq_true rfl, rfl⟩ ⟨Nat.le_of_ble_eq_true rfl, Nat.le_of_ble_eq_true rfl⟩ (m_execute m2 hv hn hj (hrows j hj)) ?_)
          rintro _ _ ⟨rfl, j2, f3, f4, hj2, hf4, rfl⟩
          refine ev_w (w2 := rz_w (rz_up (rz_up (rz_up v 20 0) 22 e) 23 (Int32.ofNat j2)) (rz_ua (rz_ua a 27 f3) 25 f4) g) rfl ?_
          have next : ∀ e2 : Int32, (e2 = 0 → j2 < n) → rz_E xs xl 80 135 [some (.ref 25), some (.int (Int32.ofNat l)), some (.int (Int32.ofNat k + Int32.ofInt 1)), some (.int (Int32.ofNat j))] [.int e2, .ref 25] (rz_w (rz_up (rz_up (rz_up v 20 0) 22 e) 23 (Int32.ofNat j2)) (rz_ua (rz_ua a 27 f3) 25 f4) g) 0 0 (rz_mp v a g rz_pi) := by
            intro e3 he3
            have h9 := ih (k + 1, e3, some (.int (Int32.ofNat j)), j2, f3, f4) ⟨by show k + 1 ≤ l; omega, hf4, he3⟩ (by show l - (k + 1) < l - k; omega)
            dsimp only at h9
            rw [← rz_succ k] at h9
            exact ev_ps 1 rfl (ev_w (w2 := rz_w (rz_up (rz_up (rz_up v 20 0) 22 e3) 23 (Int32.ofNat j2)) (rz_ua (rz_ua a 27 f3) 25 f4) g) rfl (ev_ps 1 rfl h9))
          refine ev_ps 5 rfl (ev_ald rfl rfl (rz_in (by omega) (by decide)) ?_)
          refine ev_ps 1 rfl (ev_ic (cd := .eq) rfl (fun h5 => ?_) (fun h5 => ?_))
          · exact ev_ps 2 rfl (next 1 (fun q => absurd q (by decide)))
          · refine ev_ps 4 rfl (ev_ic (cd := .lt) rfl (fun h6 => ?_) (fun h6 => ?_))
            · have h6' : rz_cmp .lt (Int32.ofNat j2) (v 21) = true := h6
              rw [hv] at h6'
              exact ev_ps 1 rfl (next 0 (fun _ => rn_lt_t (by omega) (by omega) h6'))
            · exact ev_ps 2 rfl (next 1 (fun q => absurd q (by decide)))
    refine ev_ps 2 rfl (ev_w (w2 := rz_w (rz_up v 20 0) (rz_ua a 25 (a 25)) g) rfl ?_)
    refine ev_loop (α := Nat × (Nat → Int32)) (fun r => 12 - r.1) (fun r => r.1 ≤ 12 ∧ rz_sm r.2 12) (fun r => [some (.ref 25), some (.int (Int32.ofNat l)), some (.int (Int32.ofNat r.1)), none]) (fun _ => []) (fun r => rz_w (rz_up v 20 0) (rz_ua a 25 r.2) g) ?_ (0, a 25) ⟨Nat.zero_le _, hmi.2.2.2⟩
    rintro ⟨k, f2⟩ ⟨hk, hf2⟩ ih
    dsimp only at hk hf2 ih ⊢
    refine ev_ps 2 rfl (ev_ic (cd := .ge) rfl (fun h => ?_) (fun h => ?_))
    · refine ev_ps 3 rfl (ev_w (w2 := rz_w (rz_up (rz_up (rz_up v 20 0) 22 (v 22)) 23 0) (rz_ua (rz_ua a 27 (a 27)) 25 f2) g) rfl ?_)
      have go : ∀ e2 : Int32, (e2 = 0 → 0 < n) → rz_E xs xl 80 77 [some (.ref 25), some (.int (Int32.ofNat l)), some (.int (Int32.ofNat k)), none] [.int e2, .ref 25] (rz_w (rz_up (rz_up (rz_up v 20 0) 22 (v 22)) 23 0) (rz_ua (rz_ua a 27 (a 27)) 25 f2) g) 0 0 (rz_mp v a g rz_pi) := by
        intro e3 he3
        exact ev_ps 1 rfl (ev_w (w2 := rz_w (rz_up (rz_up (rz_up v 20 0) 22 e3) 23 (Int32.ofNat 0)) (rz_ua (rz_ua a 27 (a 27)) 25 f2) g) rfl (ev_ps 2 rfl (loop e3 _ 0 _ f2 hf2 he3)))
      refine ev_ps 5 rfl (ev_ic (cd := .lt) rfl (fun h6 => ?_) (fun h6 => ?_))
      · have h6' : rz_cmp .lt (Int32.ofNat 0) (v 21) = true := h6
        rw [hv] at h6'
        exact ev_ps 1 rfl (go 0 (fun _ => rn_lt_t (by omega) (by omega) h6'))
      · exact ev_ps 2 rfl (go 1 (fun q => absurd q (by decide)))
    · have hk' : k < 12 := rn_ge_f (k := 12) (by omega) (by omega) h
      obtain ⟨y, hy, ey⟩ := hmi.2.2.1 k hk'
      have ei := rz_clamp (k := k) (by omega)
      refine ev_ps 6 rfl (ev_ald rfl rfl (rz_in hk' (by decide)) ?_)
      refine ev_ast rfl rfl (rz_in hk' (by decide)) ?_
      have h9 := ih (k + 1, upd f2 k (Int32.ofNat y)) ⟨by show k + 1 ≤ 12; omega, rz_sm_up hf2 hy⟩ (by show 12 - (k + 1) < 12 - k; omega)
      dsimp only at h9
      rw [← rz_succ k] at h9
      refine ev_w (w2 := rz_w (rz_up v 20 0) (rz_ua a 25 (upd f2 k (Int32.ofNat y))) g) ?_ (ev_ps 2 rfl h9)
      rw [ei, ← ey]; rfl
theorem m_isRow {p n m : Nat} (hv : v 21 = Int32.ofNat m) (hm : m ≤ 24) (hp : p ≤ 24) (hn : n ≤ 3) : rz_C xs xl 99 [.ref 25, .int (Int32.ofNat p), .int (Int32.ofNat n)] (rz_w v a g) (rz_bo (rz_w v a g) (p + n ≤ m ∧ ∀ j, p < j → j < p + n → rz_nt a m j)) := by
  refine ev_ps 5 rfl (ev_ic (cd := .gt) rfl (fun h => ?_) (fun h => ?_))
  · exact ev_ps 1 rfl (ev_ret rfl rfl rz_bo0)
  · rw [rz_add, hv] at h
    have hle : p + n ≤ m := rn_gt_f (by omega) (by omega) h
    refine ev_ps 3 rfl (ev_call (av := [_, _, _]) rfl rfl rfl rfl ⟨Nat.le_of_ble_eq_true rfl, rfl⟩ ⟨Nat.le_of_ble_eq_true rfl, Nat.le_of_ble_eq_true rfl⟩ (m_isPlain (by omega)) ?_)
    rintro _ _ ⟨⟨u, hu, -, rfl⟩, rfl⟩
    refine ev_if (cd := .ne) rfl (fun h1 => ?_) (fun h1 => ?_)
    · refine ev_ps 6 rfl (ev_l (L2 := [some (.ref 25), some (.int (Int32.ofNat p)), some (.int (Int32.ofNat n)), some (.int 1), some (.int (Int32.ofNat (p + 1)))]) (by rw [← rz_succ]; rfl) ?_)
      by_cases hn0 : n = 0
      · subst hn0
        refine ev_ps 4 rfl (ev_ic (cd := .ge) rfl (fun h => ?_) (fun h => ?_))
        · exact ev_ps 1 rfl (ev_ret rfl rfl (rz_bo1 ⟨hle, fun j h1 h2 => absurd h2 (by omega)⟩))
        · rw [rz_add] at h
          have := rn_ge_f (by omega) (by omega) h
          omega
      refine ev_loop (α := Nat × Int32) (fun r => p + n - r.1) (fun r => r.1 ≤ p + n ∧ (r.2 = 0 ∨ r.2 = 1) ∧ (r.2 = 1 → ∀ j, p < j → j < r.1 → rz_nt a m j)) (fun r => [some (.ref 25), some (.int (Int32.ofNat p)), some (.int (Int32.ofNat n)), some (.int r.2), some (.int (Int32.ofNat r.1))]) (fun _ => []) (fun _ => rz_w v a g) ?_ (p + 1, 1) ⟨by show p + 1 ≤ p + n; omega, Or.inr rfl, fun _ j h1 h2 => absurd h2 (by show ¬ j < p + 1; omega)⟩
      rintro ⟨k, b⟩ ⟨hk, hb, hbp⟩ ih
      dsimp only at hk hb hbp ih ⊢
      have next : k < p + n → ∀ c : Int32, (c = 0 ∨ c = 1) → (c = 1 → ∀ j, p < j → j < k + 1 → rz_nt a m j) → rz_E xs xl 99 54 [some (.ref 25), some (.int (Int32.ofNat p)), some (.int (Int32.ofNat n)), some (.int b), some (.int (Int32.ofNat k))] [.int c] (rz_w v a g) 0 0 (rz_bo (rz_w v a g) (p + n ≤ m ∧ ∀ j, p < j → j < p + n → rz_nt a m j)) := fun hk' c hc hcp => by
        have h9 := ih (k + 1, c) ⟨by show k + 1 ≤ p + n; omega, hc, hcp⟩ (by show p + n - (k + 1) < p + n - k; omega)
        dsimp only at h9
        rw [← rz_succ k] at h9
        exact ev_ps 3 rfl h9
      refine ev_ps 4 rfl (ev_ic (cd := .ge) rfl (fun h => ?_) (fun h => ?_))
      · rw [rz_add] at h
        have hkn : p + n ≤ k := rn_ge_t (by omega) (by omega) h
        have : k = p + n := by omega
        subst this
        exact ev_ps 1 rfl (ev_ret rfl (show (if b = 0 ∨ b = 1 then some (some (Value.int b)) else none) = _ from if_pos hb) ⟨⟨b, hb, fun q => ⟨hle, hbp q⟩, rfl⟩, rfl⟩)
      · rw [rz_add] at h
        have hk' : k < p + n := rn_ge_f (by omega) (by omega) h
        refine ev_ps 1 rfl (ev_if (cd := .eq) rfl (fun h => ?_) (fun h => ?_))
        · exact ev_ps 1 rfl (next hk' 0 (Or.inl rfl) (fun q => absurd q (by decide)))
        · have hb1 : b = 1 := hb.resolve_left (rc_eq_f h)
          refine ev_ps 2 rfl (ev_call (av := [_, _]) rfl rfl rfl rfl ⟨Nat.le_of_ble_eq_true rfl, rfl⟩ ⟨Nat.le_of_ble_eq_true rfl, Nat.le_of_ble_eq_true rfl⟩ (m_isBegin hv hm (by omega)) ?_)
          rintro _ _ ⟨⟨u3, hu3, hP3, rfl⟩, rfl⟩
          refine ev_if (cd := .ne) rfl (fun h => ?_) (fun h => ?_)
          · exact ev_ps 1 rfl (next hk' 0 (Or.inl rfl) (fun q => absurd q (by decide)))
          · refine ev_ps 2 rfl (next hk' 1 (Or.inr rfl) (fun _ j h1 h2 => ?_))
            by_cases hjk : j = k
            · rw [hjk]; exact (hP3 (rc_ne_f h)).2
            · exact hbp hb1 j h1 (by omega)
    · exact ev_ps 1 rfl (ev_ret rfl rfl rz_bo0)
theorem m_isCandidate {p n : Nat} (x : Int32) (hp : p + n ≤ 25) : rz_C xs xl 101 [.ref 25, .int x, .int (Int32.ofNat p), .int (Int32.ofNat n)] (rz_w v a g) (rz_bo (rz_w v a g) True) := by
  have main : ∀ b : Int32, (b = 0 ∨ b = 1) → rz_E xs xl 101 20 [some (.ref 25), some (.int x), some (.int (Int32.ofNat p)), some (.int (Int32.ofNat n)), none, none] [.int b] (rz_w v a g) 0 0 (rz_bo (rz_w v a g) True) := by
    intro b hb
    refine ev_ps 3 rfl ?_
    refine ev_loop (α := Nat × Int32) (fun r => p + n - r.1) (fun r => r.1 ≤ p + n ∧ (r.2 = 0 ∨ r.2 = 1)) (fun r => [some (.ref 25), some (.int x), some (.int (Int32.ofNat p)), some (.int (Int32.ofNat n)), some (.int r.2), some (.int (Int32.ofNat r.1))]) (fun _ => []) (fun _ => rz_w v a g) ?_ (p, b) ⟨by show p ≤ p + n; omega, hb⟩
    rintro ⟨k, b⟩ ⟨hk, hb⟩ ih
    dsimp only at hk hb ih ⊢
    have next : k < p + n → ∀ c : Int32, (c = 0 ∨ c = 1) → rz_E xs xl 101 66 [some (.ref 25), some (.int x), some (.int (Int32.ofNat p)), some (.int (Int32.ofNat n)), some (.int b), some (.int (Int32.ofNat k))] [.int c] (rz_w v a g) 0 0 (rz_bo (rz_w v a g) True) := fun hk' c hc => by
      have h9 := ih (k + 1, c) ⟨by show k + 1 ≤ p + n; omega, hc⟩ (by show p + n - (k + 1) < p + n - k; omega)
      dsimp only at h9
      rw [← rz_succ k] at h9
      exact ev_ps 3 rfl h9
    refine ev_ps 4 rfl (ev_ic (cd := .ge) rfl (fun h => ?_) (fun h => ?_))
    · exact ev_ps 1 rfl (ev_ret rfl (show (if b = 0 ∨ b = 1 then some (some (Value.int b)) else none) = _ from if_pos hb) ⟨⟨b, hb, fun _ => trivial, rfl⟩, rfl⟩)
    · rw [rz_add] at h
      have hk' : k < p + n := rn_ge_f (by omega) (by omega) h
      refine ev_ps 1 rfl (ev_if (cd := .ne) rfl (fun h => ?_) (fun h => ?_))
      · exact ev_ps 2 rfl (next hk' 1 (Or.inr rfl))
      · refine ev_ps 3 rfl (ev_ald rfl rfl (rz_in (by omega) (by decide)) ?_)
        refine ev_ps 1 rfl (ev_ic (cd := .lt) rfl (fun h => ?_) (fun h => ?_))
        · exact ev_ps 1 rfl (next hk' 0 (Or.inl rfl))
        · refine ev_ps 3 rfl (ev_ald rfl rfl (rz_in (by omega) (by decide)) ?_)
          refine ev_ps 1 rfl (ev_ic (cd := .ne) rfl (fun h => ?_) (fun h => ?_))
          · exact ev_ps 1 rfl (next hk' 0 (Or.inl rfl))
          · exact ev_ps 2 rfl (next hk' 1 (Or.inr rfl))
  refine ev_ps 1 rfl (ev_if (cd := .eq) rfl (fun h => ?_) (fun h => ?_))
  · exact ev_ps 2 rfl (main 1 (Or.inr rfl))
  · refine ev_ps 2 rfl (ev_ic (cd := .eq) rfl (fun h => ?_) (fun h => ?_))
    · exact ev_ps 2 rfl (main 1 (Or.inr rfl))
    · refine ev_ps 2 rfl (ev_ic (cd := .ne) rfl (fun h => ?_) (fun h => ?_))
      · exact ev_ps 1 rfl (main 0 (Or.inl rfl))
      · exact ev_ps 2 rfl (main 1 (Or.inr rfl))
/-- but for the tried row and the two scratch arrays nothing has moved -/
def rz_ca (a a' : Nat → Nat → Int32) : Prop := (∀ i, i < 20 → a' i = a i) ∧ (∀ i, 20 ≤ i → i < 24 → ∀ k, k < 24 → a' i k = a i k) ∧ a' 24 = a 24 ∧ a' 25 = a 25 ∧ rz_li a' 24
theorem rz_ca.li {a' : Nat → Nat → Int32} (h : rz_ca a a') {k : Nat} (hk : k < 24) (hl : rz_li a k) : rz_li a' k := by
  unfold rz_li at hl ⊢
  rw [h.2.1 20 (by omega) (by omega) k hk, h.2.1 21 (by omega) (by omega) k hk, h.2.1 22 (by omega) (by omega) k hk, h.2.1 23 (by omega) (by omega) k hk]
  exact hl
theorem rz_ca.put {a' : Nat → Nat → Int32} (h : rz_ca a a') {o d s t : Int32} (hLI : rz_LI o d s t) : rz_ca a (rz_pt a' 24 o d s t) := by
  refine ⟨fun i hi => ?_, fun i hi hi2 k hk => ?_, h.2.2.1, h.2.2.2.1, rz_pt_li (fun _ => hLI) (fun q => absurd rfl q)⟩
  · have : rz_pt a' 24 o d s t i = a' i := by
      simp only [rz_pt, rz_ua]
      rw [if_neg (by omega), if_neg (by omega), if_neg (by omega), if_neg (by omega)]
    rw [this]; exact h.1 i hi
  · rw [← h.2.1 i hi hi2 k hk]
    have : i = 20 ∨ i = 21 ∨ i = 22 ∨ i = 23 := by omega
    rcases this with rfl | rfl | rfl | rfl
    · show upd (a' 20) 24 o k = _; simp only [upd]; rw [if_neg (by omega)]
    · show upd (a' 21) 24 d k = _; simp only [upd]; rw [if_neg (by omega)]
    · show upd (a' 22) 24 s k = _; simp only [upd]; rw [if_neg (by omega)]
    · show upd (a' 23) 24 t k = _; simp only [upd]; rw [if_neg (by omega)]
theorem rz_ca.ua {a' : Nat → Nat → Int32} (h : rz_ca a a') {i : Nat} (hi : 26 ≤ i) (f : Nat → Int32) : rz_ca a (rz_ua a' i f) := by
  have e : ∀ j, j < 26 → rz_ua a' i f j = a' j := fun j hj => if_neg (by omega)
  refine ⟨fun j hj => by rw [e j (by omega)]; exact h.1 j hj, fun j hj hj2 k hk => by rw [e j (by omega)]; exact h.2.1 j hj hj2 k hk, by rw [e 24 (by omega)]; exact h.2.2.1, by rw [e 25 (by omega)]; exact h.2.2.2.1, ?_⟩
  show rz_LI (rz_ua a' i f 20 24) (rz_ua a' i f 21 24) (rz_ua a' i f 22 24) (rz_ua a' i f 23 24)
  rw [e 20 (by omega), e 21 (by omega), e 22 (by omega), e 23 (by omega)]
  exact h.2.2.2.2
theorem rz_ca.mi {a' : Nat → Nat → Int32} (h : rz_ca a a') (hmi : rz_mi v a) : rz_mi v a' := by
  obtain ⟨⟨n, hn, hv, hrows⟩, h1, h2, h3⟩ := hmi
  refine ⟨⟨n, hn, hv, fun k hk => h.li (by omega) (hrows k hk)⟩, h.2.2.2.2, ?_, ?_⟩
  · rw [h.2.2.1]; exact h2
  · rw [h.2.2.2.1]; exact h3
set_option maxRecDepth 100000 in
theorem rz_kd : ∀ k, k < 1920 → Int32.ofNat k / 192 = Int32.ofNat (k / 192) ∧ 1 + (Int32.ofNat k / 64 - Int32.ofNat k / 64 / 3 * 3) = Int32.ofNat (1 + k / 64 % 3) ∧ Int32.ofNat k / 16 - Int32.ofNat k / 16 / 4 * 4 = Int32.ofNat (k / 16 % 4) ∧ Int32.ofNat k - Int32.ofNat k / 16 * 16 = Int32.ofNat (k % 16) := by decide +kernel
theorem m_isFound {p n m : Nat} (z : Int32) (hmi : rz_mi v a) (hv : v 21 = Int32.ofNat m) (hm : m ≤ 24) (hpn : p + n ≤ m) : rz_C xs xl 100 [.ref 25, .int (Int32.ofNat p), .int (Int32.ofNat n), .int z] (rz_w v a g) (fun q w' => ∃ (u y : Int32) (a' : Nat → Nat → Int32), (u = 0 ∨ u = 1) ∧ q = .inl (some (.int u)) ∧ rz_ca a a' ∧ (u = 1 → a' 20 24 < 12) ∧ w' = rz_w (rz_up v 26 y) a' g) := by
  obtain ⟨m', hm', hv', hrows⟩ := hmi.1
  have em : m' = m := (rz_eq_iff (by omega) (by omega)).mp (hv'.symm.trans hv)
  subst em
  refine ev_ps 2 rfl ?_
  refine ev_loop (α := Nat × Option Value × Option Value × Option Value × Option Value × Int32 × (Nat → Nat → Int32)) (fun r => 1920 - r.1) (fun r => r.1 ≤ 1920 ∧ rz_ca a r.2.2.2.2.2.2) (fun r => [some (.ref 25), some (.int (Int32.ofNat p)), some (.int (Int32.ofNat n)), some (.int z), some (.int (Int32.ofNat r.1)), r.2.1, r.2.2.1, r.2.2.2.1, r.2.2.2.2.1]) (fun _ => []) (fun r => rz_w (rz_up v 26 r.2.2.2.2.2.1) r.2.2.2.2.2.2 g) ?_ (0, none, none, none, none, v 26, a) ⟨Nat.zero_le _, fun _ _ => rfl, fun _ _ _ _ _ => rfl, rfl, rfl, hmi.2.1⟩
  rintro ⟨k, t5, t6, t7, t8, y, a1⟩ ⟨hk, hca⟩ ih
  dsimp only at hk hca ih ⊢
  refine ev_ps 2 rfl (ev_ic (cd := .ge) rfl (fun h => ?_) (fun h => ?_))
  · exact ev_ps 1 rfl (ev_ret rfl rfl ⟨0, y, a1, Or.inl rfl, rfl, hca, fun q => absurd q (by decide), rfl⟩)
  · have hk' : k < 1920 := rn_ge_f (k := 1920) (by omega) (by omega) h
    obtain ⟨k1, k2, k3, k4⟩ := rz_kd k hk'
    have next : ∀ (t5 t6 t7 t8 : Option Value) (y : Int32) (a1 : Nat → Nat → Int32), rz_ca a a1 → rz_E xs xl 100 112 [some (.ref 25), some (.int (Int32.ofNat p)), some (.int (Int32.ofNat n)), some (.int z), some (.int (Int32.ofNat k)), t5, t6, t7, t8] [] (rz_w (rz_up v 26 y) a1 g) 0 0 (fun q w' => ∃ (u y : Int32) (a' : Nat → Nat → Int32), (u = 0 ∨ u = 1) ∧ q = .inl (some (.int u)) ∧ rz_ca a a' ∧ (u = 1 → a' 20 24 < 12) ∧ w' = rz_w (rz_up v 26 y) a' g) := by
      intro t5 t6 t7 t8 y a1 hca
      have h9 := ih (k + 1, t5, t6, t7, t8, y, a1) ⟨by show k + 1 ≤ 1920; omega, hca⟩ (by show 1920 - (k + 1) < 1920 - k; omega)
      dsimp only at h9
      rw [← rz_succ k] at h9
      exact ev_ps 2 rfl h9
    refine ev_ps 22 rfl ?_
    refine ev_l (L2 := [some (.ref 25), some (.int (Int32.ofNat p)), some (.int (Int32.ofNat n)), some (.int z), some (.int (Int32.ofNat k)), some (.int (Int32.ofNat (k / 192))), some (.int (Int32.ofNat (1 + k / 64 % 3))), some (.int (Int32.ofNat (k / 16 % 4))), some (.int (Int32.ofNat (k % 16)))]) (by rw [← k1, ← k2, ← k3, ← k4]; rfl) ?_
    have try1 : (k / 192 ≤ 5 → k % 16 ≤ 3) → rz_E xs xl 100 73 [some (.ref 25), some (.int (Int32.ofNat p)), some (.int (Int32.ofNat n)), some (.int z), some (.int (Int32.ofNat k)), some (.int (Int32.ofNat (k / 192))), some (.int (Int32.ofNat (1 + k / 64 % 3))), some (.int (Int32.ofNat (k / 16 % 4))), some (.int (Int32.ofNat (k % 16)))] [] (rz_w (rz_up v 26 y) a1 g) 0 0 (fun q w' => ∃ (u y : Int32) (a' : Nat → Nat → Int32), (u = 0 ∨ u = 1) ∧ q = .inl (some (.int u)) ∧ rz_ca a a' ∧ (u = 1 → a' 20 24 < 12) ∧ w' = rz_w (rz_up v 26 y) a' g) := by
      intro hle
      have hLI : rz_LI (Int32.ofNat (k / 192)) (Int32.ofNat (1 + k / 64 % 3)) (Int32.ofNat (k / 16 % 4)) (Int32.ofNat (k % 16)) := ⟨_, _, _, _, rfl, rfl, rfl, rfl, by omega, by omega, by omega, by omega, hle⟩
      refine ev_ps 6 rfl ?_
      refine ev_call (av := [.ref 25, .int (Int32.ofNat 24), _, _, _, _]) rfl rfl rfl rfl ⟨Nat.le_of_ble_eq_true rfl, rfl⟩ ⟨Nat.le_of_ble_eq_true rfl, Nat.le_of_ble_eq_true rfl⟩ (m_put (k := 24) (by omega) _ _ _ _) ?_
      rintro _ _ ⟨rfl, rfl⟩
      have hca2 := hca.put hLI
      have hq : ∀ j, 24 ≤ j → j < 24 + 1 → rz_li (rz_pt a1 24 (Int32.ofNat (k / 192)) (Int32.ofNat (1 + k / 64 % 3)) (Int32.ofNat (k / 16 % 4)) (Int32.ofNat (k % 16))) j := fun j h1 h2 => by
        have h3 : j = 24 := by omega
        rw [h3]
        exact hca2.2.2.2.2
      refine ev_ps 6 rfl (ev_w (w2 := rz_w (rz_up v 26 (y + Int32.ofInt 1)) (rz_pt a1 24 (Int32.ofNat (k / 192)) (Int32.ofNat (1 + k / 64 % 3)) (Int32.ofNat (k / 16 % 4)) (Int32.ofNat (k % 16))) g) rfl ?_)
      refine ev_ps 6 rfl ?_
      refine ev_call (av := [.ref 25, .int (Int32.ofNat p), .int (Int32.ofNat n), .int (Int32.ofNat 24), .int (Int32.ofNat 1), .int z]) rfl rfl rfl rfl ⟨Nat.le_of_ble_eq_true rfl, rfl⟩ ⟨Nat.le_of_ble_eq_true rfl, Nat.le_of_ble_eq_true rfl⟩ (m_agree z (by omega) (by omega) (fun j h1 h2 => hca2.li (by omega) (hrows j (by omega))) hq) ?_
      rintro _ _ ⟨⟨u, hu, rfl⟩, f1, f2, rfl⟩
      have hca3 := (hca2.ua (i := 27) (by omega) f1).ua (i := 28) (by omega) f2
      refine ev_if (cd := .eq) rfl (fun h => next _ _ _ _ _ _ hca3) (fun h => ?_)
      refine ev_ps 1 rfl (ev_ret rfl rfl ⟨1, _, _, Or.inr rfl, rfl, hca3, fun _ => ?_, rfl⟩)
      show upd (a1 20) 24 (Int32.ofNat (k / 192)) 24 < 12
      simp only [upd, if_true]
      exact (rz_lt_iff (k := 12) (by omega) (by omega)).mpr (by omega)
    refine ev_ps 2 rfl (ev_ic (cd := .ge) rfl (fun h => ?_) (fun h => ?_))
    · have h6 : 6 ≤ k / 192 := rn_ge_t (k := 6) (by omega) (by omega) h
      refine ev_ps 4 rfl (ev_call (av := [_, _, _, _]) rfl rfl rfl rfl ⟨Nat.le_of_ble_eq_true rfl, rfl⟩ ⟨Nat.le_of_ble_eq_true rfl, Nat.le_of_ble_eq_true rfl⟩ (m_isCandidate _ (by omega)) ?_)
      rintro _ _ ⟨⟨u, hu, -, rfl⟩, rfl⟩
      exact ev_if (cd := .eq) rfl (fun h => next _ _ _ _ _ _ hca) (fun h => try1 (fun q => absurd q (by omega)))
    · refine ev_ps 2 rfl (ev_ic (cd := .ge) rfl (fun h => next _ _ _ _ _ _ hca) (fun h => ?_))
      have h4 : k % 16 < 4 := rn_ge_f (k := 4) (by omega) (by omega) h
      exact ev_ps 1 rfl (try1 (fun _ => by omega))
end RZM5
end
section
/-! the reference: cutting and improving -/
section RZM6
variable {xs : Nat → Int32} {xl : Nat} {v : Nat → Int32} {a : Nat → Nat → Int32} {g : Nat → Int64}
/-- a legal row that, if it is a jump, does not go to a place strictly between p and p + n -/
def rz_RP (p n : Nat) (o d s t : Int32) : Prop := rz_LI o d s t ∧ ∀ j, p < j → j < p + n → ¬ (¬ o < 12 ∧ ¬ 14 < o ∧ t = Int32.ofNat j)
def rz_rp (p n : Nat) (a : Nat → Nat → Int32) (k : Nat) : Prop := rz_RP p n (a 20 k) (a 21 k) (a 22 k) (a 23 k)
theorem rz_pt_rp {p n k j : Nat} {o d s t : Int32} (h : j = k → rz_RP p n o d s t) (h2 : j ≠ k → rz_rp p n a j) : rz_rp p n (rz_pt a k o d s t) j := by
  show rz_RP p n (upd (a 20) k o j) (upd (a 21) k d j) (upd (a 22) k s j) (upd (a 23) k t j)
  by_cases hj : j = k
  · simp only [upd, hj, if_true]
    exact h hj
  · simp only [upd, hj, if_false]
    exact h2 hj
theorem m_cut {p n m b : Nat} (hmi : rz_mi v a) (hv : v 21 = Int32.ofNat m) (hm : m ≤ 24) (hpn : p + n ≤ m) (hb : b ≤ 1) (hbn : b ≤ n) (hnt : ∀ j, p < j → j < p + n → rz_nt a m j) (hb1 : b = 1 → a 20 24 < 12) : rz_C xs xl 102 [.ref 25, .int (Int32.ofNat p), .int (Int32.ofNat n), .int (Int32.ofNat b)] (rz_w v a g) (fun q w' => q = .inl none ∧ ∃ v' a', w' = rz_w v' a' g ∧ rz_mf v a v' a' ∧ rz_mi v' a' ∧ v' 21 = Int32.ofNat (m - (n - b))) := by
  obtain ⟨m', hm', hv', hrows⟩ := hmi.1
  have em : m = m' := (rz_eq_iff (by omega) (by omega)).mp (hv.symm.trans hv')
  subst em
  refine ev_ps 4 rfl (ev_l (L2 := [some (.ref 25), some (.int (Int32.ofNat p)), some (.int (Int32.ofNat n)), some (.int (Int32.ofNat b)), some (.int (Int32.ofNat (n - b))), none]) (by rw [← rz_sub hbn]; rfl) ?_)
  -- the second loop, and the end
  have two : ∀ a1 : Nat → Nat → Int32, rz_mf v a v a1 → (∀ k, k < m → rz_rp p n a1 k) → rz_li a1 24 → rz_sm (a1 24) 12 → rz_sm (a1 25) 12 → ∀ l5, rz_E xs xl 102 112 [some (.ref 25), some (.int (Int32.ofNat p)), some (.int (Int32.ofNat n)), some (.int (Int32.ofNat b)), some (.int (Int32.ofNat (n - b))), l5] [] (rz_w v a1 g) 0 0 (fun q w' => q = .inl none ∧ ∃ v' a', w' = rz_w v' a' g ∧ rz_mf v a v' a' ∧ rz_mi v' a' ∧ v' 21 = Int32.ofNat (m - (n - b))) := by
    intro a1 hf1 hr1 h24 hs1 hs2 l5
    refine ev_ps 6 rfl (ev_w (w2 := rz_w (rz_up v 21 (Int32.ofNat (m - (n - b)))) a1 g) (by rw [← rz_sub (k := m) (n := n - b) (by omega), ← hv]; rfl) ?_)
    refine ev_ps 2 rfl ?_
    refine ev_loop (α := Nat × (Nat → Nat → Int32)) (fun r => m - (n - b) - r.1) (fun r => r.1 ≤ m - (n - b) ∧ rz_mf v a v r.2 ∧ (∀ k, k < r.1 → rz_li r.2 k) ∧ (∀ k, r.1 ≤ k → k < m → rz_rp p n r.2 k) ∧ rz_li r.2 24 ∧ rz_sm (r.2 24) 12 ∧ rz_sm (r.2 25) 12) (fun r => [some (.ref 25), some (.int (Int32.ofNat p)), some (.int (Int32.ofNat n)), some (.int (Int32.ofNat b)), some (.int (Int32.ofNat (n - b))), some (.int (Int32.ofNat r.1))]) (fun _ => []) (fun r => rz_w (rz_up v 21 (Int32.ofNat (m - (n - b)))) r.2 g) ?_ (0, a1) ⟨Nat.zero_le _, hf1, fun k hk => absurd hk (Nat.not_lt_zero _), fun k _ hk => hr1 k hk, h24, hs1, hs2⟩
    rintro ⟨k, a2⟩ ⟨hk, hf, hl, hr, h24, hs1, hs2⟩ ih
    dsimp only at hk hf hl hr h24 hs1 hs2 ih ⊢
    refine ev_ps 3 rfl (ev_ic (cd := .ge) rfl (fun h => ?_) (fun h => ?_))
    · have hkk : m - (n - b) ≤ k := rn_ge_t (by omega) (by omega) h
      refine ev_ps 6 rfl (ev_w (w2 := rz_w (rz_up (rz_up v 21 (Int32.ofNat (m - (n - b)))) 24 (v 24 + 1)) a2 g) rfl ?_)
      have fin : ∀ y : Int32, rz_E xs xl 102 212 [some (.ref 25), some (.int (Int32.ofNat p)), some (.int (Int32.ofNat n)), some (.int (Int32.ofNat b)), some (.int (Int32.ofNat (n - b))), some (.int (Int32.ofNat k))] [.int y, .int (v 25), .ref 25] (rz_w (rz_up (rz_up v 21 (Int32.ofNat (m - (n - b)))) 24 (v 24 + 1)) a2 g) 0 0 (fun q w' => q = .inl none ∧ ∃ v' a', w' = rz_w v' a' g ∧ rz_mf v a v' a' ∧ rz_mi v' a' ∧ v' 21 = Int32.ofNat (m - (n - b))) := fun y => by
        refine ev_ps 2 rfl (ev_w (w2 := rz_w (rz_up (rz_up (rz_up v 21 (Int32.ofNat (m - (n - b)))) 24 (v 24 + 1)) 25 (v 25 + y)) a2 g) rfl ?_)
        exact ev_ret rfl rfl ⟨rfl, _, _, rfl, ((hf.up (by omega) _).up (by omega) _).up (by omega) _, ⟨⟨m - (n - b), by omega, rfl, fun j hj => hl j (by omega)⟩, h24, hs1, hs2⟩, rfl⟩
      refine ev_ps 4 rfl (ev_if (cd := .ne) rfl (fun h => ?_) (fun h => ?_))
      · exact ev_ps 1 rfl (fin 0)
      · exact ev_ps 2 rfl (fin 1)
    · have hkk : k < m - (n - b) := rn_ge_f (by omega) (by omega) h
      have hin : ¬ (Int32.ofNat k < 0 ∨ 25 ≤ (Int32.ofNat k).toNatClampNeg) := rz_in (by omega) (by decide)
      have e := rz_clamp (k := k) (by omega)
      obtain ⟨hli, hj0⟩ := hr k (by omega) (by omega)
      have next : ∀ a3 : Nat → Nat → Int32, rz_mf v a v a3 → (∀ j, j < k + 1 → rz_li a3 j) → (∀ j, k + 1 ≤ j → j < m → rz_rp p n a3 j) → rz_li a3 24 → rz_sm (a3 24) 12 → rz_sm (a3 25) 12 → rz_E xs xl 102 182 [some (.ref 25), some (.int (Int32.ofNat p)), some (.int (Int32.ofNat n)), some (.int (Int32.ofNat b)), some (.int (Int32.ofNat (n - b))), some (.int (Int32.ofNat k))] [] (rz_w (rz_up v 21 (Int32.ofNat (m - (n - b)))) a3 g) 0 0 (fun q w' => q = .inl none ∧ ∃ v' a', w' = rz_w v' a' g ∧ rz_mf v a v' a' ∧ rz_mi v' a' ∧ v' 21 = Int32.ofNat (m - (n - b))) := by
        intro a3 hf hl hr h24 hs1 hs2
        have h9 := ih (k + 1, a3) ⟨by show k + 1 ≤ _; omega, hf, hl, hr, h24, hs1, hs2⟩ (by show m - (n - b) - (k + 1) < m - (n - b) - k; omega)
        dsimp only at h9
        rw [← rz_succ k] at h9
        exact ev_ps 2 rfl h9
      have same := next a2 hf (fun j hj => by
        by_cases hjk : j = k
        · rw [hjk]; exact hli
        · exact hl j (by omega)) (fun j h1 h2 => hr j (by omega) h2) h24 hs1 hs2
      refine ev_ps 3 rfl (ev_ald rfl rfl hin ?_)
      refine ev_ps 1 rfl (ev_ic (cd := .lt) rfl (fun h1 => same) (fun h1 => ?_))
      refine ev_ps 3 rfl (ev_ald rfl rfl hin ?_)
      refine ev_ps 1 rfl (ev_ic (cd := .gt) rfl (fun h2 => same) (fun h2 => ?_))
      refine ev_ps 3 rfl (ev_ald rfl rfl hin ?_)
      refine ev_ps 1 rfl (ev_ic (cd := .le) rfl (fun h3 => same) (fun h3 => ?_))
      rw [e] at h1 h2 h3
      have g1 : ¬ a2 20 k < 12 := rc_lt_f h1
      have g2 : ¬ 14 < a2 20 k := rc_gt_f h2
      obtain ⟨o', d', s', t', eo, ed, es, et, b1, b2, b3, b4, b5⟩ := hli
      have g3 : p < t' := by
        have : rz_cmp .le (a2 23 k) (Int32.ofNat p) = false := h3
        rw [et] at this
        exact rn_le_f (by omega) (by omega) this
      have g4 : p + n ≤ t' := by
        rcases Nat.lt_or_ge t' (p + n) with q | q
        · exact absurd ⟨g1, g2, et⟩ (hj0 t' g3 q)
        · exact q
      have g5 : ¬ o' ≤ 5 := fun q => g1 (by rw [eo]; exact (rz_lt_iff (k := 12) (by omega) (by omega)).mpr (by omega))
      refine ev_ps 4 rfl (ev_ald rfl rfl hin ?_)
      refine ev_ps 2 rfl (ev_ast rfl rfl hin ?_)
      refine ev_w (w2 := rz_w (rz_up v 21 (Int32.ofNat (m - (n - b)))) (rz_ua a2 23 (upd (a2 23) k (Int32.ofNat (t' - (n - b))))) g) (by rw [e, ← rz_sub (k := t') (n := n - b) (by omega), ← et]; rfl) ?_
      refine next _ (hf.ua (by omega) _) (fun j hj => ?_) (fun j h1 h2 => ?_) ?_ hs1 hs2
      · show rz_LI (a2 20 j) (a2 21 j) (a2 22 j) (upd (a2 23) k (Int32.ofNat (t' - (n - b))) j)
        by_cases hjk : j = k
        · subst hjk
          exact ⟨o', d', s', t' - (n - b), eo, ed, es, by simp [upd], b1, b2, b3, by omega, fun q => absurd q g5⟩
        · simp only [upd, hjk, if_false]
          exact hl j (by omega)
      · show rz_RP p n (a2 20 j) (a2 21 j) (a2 22 j) (upd (a2 23) k (Int32.ofNat (t' - (n - b))) j)
        simp only [upd]
        rw [if_neg (by omega)]
        exact hr j (by omega) h2
      · show rz_LI (a2 20 24) (a2 21 24) (a2 22 24) (upd (a2 23) k (Int32.ofNat (t' - (n - b))) 24)
        simp only [upd]
        rw [if_neg (by omega)]
        exact h24
  -- the first loop
  have one : ∀ a1 : Nat → Nat → Int32, rz_mf v a v a1 → (∀ k, k < m → rz_rp p n a1 k) → rz_li a1 24 → rz_sm (a1 24) 12 → rz_sm (a1 25) 12 → rz_E xs xl 102 43 [some (.ref 25), some (.int (Int32.ofNat p)), some (.int (Int32.ofNat n)), some (.int (Int32.ofNat b)), some (.int (Int32.ofNat (n - b))), none] [] (rz_w v a1 g) 0 0 (fun q w' => q = .inl none ∧ ∃ v' a', w' = rz_w v' a' g ∧ rz_mf v a v' a' ∧ rz_mi v' a' ∧ v' 21 = Int32.ofNat (m - (n - b))) := by
    intro a1 hf1 hr1 h24 hs1 hs2
    refine ev_ps 4 rfl (ev_l (L2 := [some (.ref 25), some (.int (Int32.ofNat p)), some (.int (Int32.ofNat n)), some (.int (Int32.ofNat b)), some (.int (Int32.ofNat (n - b))), some (.int (Int32.ofNat (p + b)))]) (by rw [← rz_add]; rfl) ?_)
    refine ev_loop (α := Nat × (Nat → Nat → Int32)) (fun r => m - r.1) (fun r => r.1 + (n - b) ≤ m ∧ rz_mf v a v r.2 ∧ (∀ k, k < m → rz_rp p n r.2 k) ∧ rz_li r.2 24 ∧ rz_sm (r.2 24) 12 ∧ rz_sm (r.2 25) 12) (fun r => [some (.ref 25), some (.int (Int32.ofNat p)), some (.int (Int32.ofNat n)), some (.int (Int32.ofNat b)), some (.int (Int32.ofNat (n - b))), some (.int (Int32.ofNat r.1))]) (fun _ => []) (fun r => rz_w v r.2 g) ?_ (p + b, a1) ⟨by show p + b + (n - b) ≤ m; omega, hf1, hr1, h24, hs1, hs2⟩
    rintro ⟨k, a2⟩ ⟨hk, hf, hr, h24, hs1, hs2⟩ ih
    dsimp only at hk hf hr h24 hs1 hs2 ih ⊢
    refine ev_ps 5 rfl (ev_ic (cd := .ge) rfl (fun h => two a2 hf hr h24 hs1 hs2 _) (fun h => ?_))
    rw [rz_add, hv] at h
    have hkk : k + (n - b) < m := rn_ge_f (by omega) (by omega) h
    have hin : ¬ (Int32.ofNat k + Int32.ofNat (n - b) < 0 ∨ 25 ≤ (Int32.ofNat k + Int32.ofNat (n - b)).toNatClampNeg) := by rw [rz_add]; exact rz_in (by omega) (by decide)
    refine ev_ps 7 rfl (ev_ald rfl rfl hin ?_)
    refine ev_ps 5 rfl (ev_ald rfl rfl hin ?_)
    refine ev_ps 5 rfl (ev_ald rfl rfl hin ?_)
    refine ev_ps 5 rfl (ev_ald rfl rfl hin ?_)
    refine ev_call (av := [.ref 25, .int (Int32.ofNat k), .int (a2 20 (k + (n - b))), .int (a2 21 (k + (n - b))), .int (a2 22 (k + (n - b))), .int (a2 23 (k + (n - b)))]) rfl (by rw [rz_add, rz_clamp (by omega)]; rfl) rfl rfl ⟨Nat.le_of_ble_eq_true rfl, rfl⟩ ⟨Nat.le_of_ble_eq_true rfl, Nat.le_of_ble_eq_true rfl⟩ (m_put (k := k) (by omega) _ _ _ _) ?_
    rintro _ _ ⟨rfl, rfl⟩
    have h9 := ih (k + 1, rz_pt a2 k (a2 20 (k + (n - b))) (a2 21 (k + (n - b))) (a2 22 (k + (n - b))) (a2 23 (k + (n - b)))) ⟨by show k + 1 + (n - b) ≤ m; omega, rz_pt_mf hf, fun j hj => rz_pt_rp (fun _ => hr _ hkk) (fun _ => hr j hj), rz_pt_li (fun q => absurd q (by omega)) (fun _ => h24), hs1, hs2⟩ (by show m - (k + 1) < m - k; omega)
    dsimp only at h9
    rw [← rz_succ k] at h9
    exact ev_ps 2 rfl h9
  have hr0 : ∀ k, k < m → rz_rp p n a k := fun k hk => ⟨hrows k hk, fun j h1 h2 => hnt j h1 h2 k hk⟩
  refine ev_ps 2 rfl (ev_ic (cd := .ne) rfl (fun h => one a rz_mf.rf hr0 hmi.2.1 hmi.2.2.1 hmi.2.2.2) (fun h => ?_))
  have eb : b = 1 := (rz_eq_iff (k := 1) (by omega) (by omega)).mp (rc_ne_f h)
  have hin : ¬ ((24 : Int32) < 0 ∨ 25 ≤ (24 : Int32).toNatClampNeg) := by decide
  refine ev_ps 5 rfl (ev_ald rfl rfl hin ?_)
  refine ev_ps 3 rfl (ev_ald rfl rfl hin ?_)
  refine ev_ps 3 rfl (ev_ald rfl rfl hin ?_)
  refine ev_ps 3 rfl (ev_ald rfl rfl hin ?_)
  refine ev_call (av := [.ref 25, .int (Int32.ofNat p), .int (a 20 24), .int (a 21 24), .int (a 22 24), .int (a 23 24)]) rfl rfl rfl rfl ⟨Nat.le_of_ble_eq_true rfl, rfl⟩ ⟨Nat.le_of_ble_eq_true rfl, Nat.le_of_ble_eq_true rfl⟩ (m_put (k := p) (by omega) _ _ _ _) ?_
  rintro _ _ ⟨rfl, rfl⟩
  exact one _ (rz_pt_mf rz_mf.rf) (fun j hj => rz_pt_rp (fun _ => ⟨hmi.2.1, fun _ _ _ q => q.1 (hb1 eb)⟩) (fun _ => hr0 j hj)) (rz_pt_li (fun q => absurd q (by omega)) (fun _ => hmi.2.1)) hmi.2.2.1 hmi.2.2.2
theorem rz_ca.nt {a' : Nat → Nat → Int32} {m j : Nat} (h : rz_ca a a') (hm : m ≤ 24) (hn : rz_nt a m j) : rz_nt a' m j := fun k hk q => by
  rw [h.2.1 20 (by omega) (by omega) k (by omega), h.2.1 23 (by omega) (by omega) k (by omega)] at q
  exact hn k hk q
theorem m_improved {p m : Nat} (hmi : rz_mi v a) (hv : v 21 = Int32.ofNat m) (hm : m ≤ 24) (hp : p < m) : rz_C xs xl 98 [.ref 25, .int (Int32.ofNat p)] (rz_w v a g) (fun q w' => ∃ (u : Int32) (v' : Nat → Int32) (a' : Nat → Nat → Int32) (m' : Nat), q = .inl (some (.int u)) ∧ w' = rz_w v' a' g ∧ rz_mf v a v' a' ∧ rz_mi v' a' ∧ v' 21 = Int32.ofNat m' ∧ m' ≤ 24 ∧ ((u = -1 ∧ m' = m) ∨ ∃ b : Nat, b ≤ 1 ∧ u = Int32.ofNat b ∧ m' + 1 ≤ m + b)) := by
  refine ev_ps 1 rfl (ev_call (av := [_]) rfl rfl rfl rfl ⟨Nat.le_of_ble_eq_true rfl, rfl⟩ ⟨Nat.le_of_ble_eq_true rfl, Nat.le_of_ble_eq_true rfl⟩ (m_findLives hmi) ?_)
  rintro _ _ ⟨rfl, f0, rfl⟩
  refine ev_ps 2 rfl ?_
  refine ev_loop (α := Nat × Option Value × Option Value × (Nat → Int32) × (Nat → Nat → Int32)) (fun r => r.1) (fun r => r.1 ≤ 3 ∧ rz_mf v a r.2.2.2.1 r.2.2.2.2 ∧ rz_mi r.2.2.2.1 r.2.2.2.2 ∧ r.2.2.2.1 21 = Int32.ofNat m) (fun r => [some (.ref 25), some (.int (Int32.ofNat p)), some (.int (Int32.ofNat r.1)), r.2.1, r.2.2.1]) (fun _ => []) (fun r => rz_w r.2.2.2.1 r.2.2.2.2 g) ?_ (3, none, none, v, rz_ua a 26 f0) ⟨Nat.le_refl _, rz_mf.rf.ua (by omega) _, hmi, hv⟩
  rintro ⟨n, l3, l4, v1, a1⟩ ⟨hn, hf, hmi1, hv1⟩ ih
  dsimp only at hn hf hmi1 hv1 ih ⊢
  refine ev_ps 1 rfl (ev_if (cd := .le) rfl (fun h => ?_) (fun h => ?_))
  · exact ev_ps 1 rfl (ev_ret rfl rfl ⟨-1, _, _, m, rfl, rfl, hf, hmi1, hv1, hm, Or.inl ⟨rfl, rfl⟩⟩)
  · have hn1 : 0 < n := rn_le_f (k := 0) (by omega) (by omega) h
    have next : ∀ (l3 l4 : Option Value) (v2 : Nat → Int32) (a2 : Nat → Nat → Int32), rz_mf v a v2 a2 → rz_mi v2 a2 → v2 21 = Int32.ofNat m → rz_E xs xl 98 91 [some (.ref 25), some (.int (Int32.ofNat p)), some (.int (Int32.ofNat n)), l3, l4] [] (rz_w v2 a2 g) 0 0 (fun q w' => ∃ (u : Int32) (v' : Nat → Int32) (a' : Nat → Nat → Int32) (m' : Nat), q = .inl (some (.int u)) ∧ w' = rz_w v' a' g ∧ rz_mf v a v' a' ∧ rz_mi v' a' ∧ v' 21 = Int32.ofNat m' ∧ m' ≤ 24 ∧ ((u = -1 ∧ m' = m) ∨ ∃ b : Nat, b ≤ 1 ∧ u = Int32.ofNat b ∧ m' + 1 ≤ m + b)) := by
      intro l3 l4 v2 a2 hf2 hmi2 hv2
      have h9 := ih (n - 1, l3, l4, v2, a2) ⟨by show n - 1 ≤ 3; omega, hf2, hmi2, hv2⟩ (by show n - 1 < n; omega)
      dsimp only at h9
      rw [← rz_sub (k := n) (n := 1) (by omega), show Int32.ofNat n - Int32.ofNat 1 = Int32.ofNat n + Int32.ofInt (-1) from Int32.sub_eq_add_neg _ _] at h9
      exact ev_ps 2 rfl h9
    refine ev_ps 3 rfl (ev_call (av := [_, _, _]) rfl rfl rfl rfl ⟨Nat.le_of_ble_eq_true rfl, rfl⟩ ⟨Nat.le_of_ble_eq_true rfl, Nat.le_of_ble_eq_true rfl⟩ (m_isRow hv1 hm (by omega) hn) ?_)
    rintro _ _ ⟨⟨u, hu, hP, rfl⟩, rfl⟩
    refine ev_if (cd := .eq) rfl (fun h1 => next _ _ _ _ hf hmi1 hv1) (fun h1 => ?_)
    obtain ⟨hpn, hnt⟩ := hP (hu.resolve_left (rc_eq_f h1))
    refine ev_ps 4 rfl ?_
    refine ev_call (av := [.ref 25, .int (Int32.ofNat (p + n))]) rfl (by rw [← rz_add]; rfl) rfl rfl ⟨Nat.le_of_ble_eq_true rfl, rfl⟩ ⟨Nat.le_of_ble_eq_true rfl, Nat.le_of_ble_eq_true rfl⟩ (m_livesAt hv1 hm (by omega)) ?_
    rintro _ _ ⟨rfl, rfl⟩
    refine ev_ps 7 rfl (ev_w (w2 := rz_w (rz_up v1 26 (v1 26 + 1)) a1 g) rfl ?_)
    have hrows : ∀ k, k < m → rz_li a1 k := by
      obtain ⟨m', hm', hv', hr⟩ := hmi1.1
      have em : m' = m := (rz_eq_iff (by omega) (by omega)).mp (hv'.symm.trans hv1)
      subst em
      exact hr
    -- the end of a turn
    have fin : ∀ (b : Nat) (l3 l4 : Option Value) (v2 : Nat → Int32) (a2 : Nat → Nat → Int32), b ≤ 1 → b ≤ n → rz_mf v a v2 a2 → rz_mi v2 a2 → v2 21 = Int32.ofNat m → (∀ j, p < j → j < p + n → rz_nt a2 m j) → (b = 1 → a2 20 24 < 12) → rz_E xs xl 98 73 [some (.ref 25), some (.int (Int32.ofNat p)), some (.int (Int32.ofNat n)), l3, l4] [.int (Int32.ofNat b)] (rz_w v2 a2 g) 0 0 (fun q w' => ∃ (u : Int32) (v' : Nat → Int32) (a' : Nat → Nat → Int32) (m' : Nat), q = .inl (some (.int u)) ∧ w' = rz_w v' a' g ∧ rz_mf v a v' a' ∧ rz_mi v' a' ∧ v' 21 = Int32.ofNat m' ∧ m' ≤ 24 ∧ ((u = -1 ∧ m' = m) ∨ ∃ b : Nat, b ≤ 1 ∧ u = Int32.ofNat b ∧ m' + 1 ≤ m + b)) := by
      intro b l3 l4 v2 a2 hb hbn hf2 hmi2 hv2 hnt2 hb1
      refine ev_ps 2 rfl (ev_if (cd := .lt) rfl (fun h2 => ?_) (fun h2 => ?_))
      · exact absurd (rn_lt_t (k := 0) (by omega) (by omega) h2) (by omega)
      · refine ev_ps 4 rfl (ev_call (av := [_, _, _, _]) rfl rfl rfl rfl ⟨Nat.le_of_ble_eq_true rfl, rfl⟩ ⟨Nat.le_of_ble_eq_true rfl, Nat.le_of_ble_eq_true rfl⟩ (m_cut hmi2 hv2 hm hpn hb hbn hnt2 hb1) ?_)
        rintro _ _ ⟨rfl, v3, a3, rfl, hf3, hmi3, hv3⟩
        exact ev_ps 1 rfl (ev_ret rfl rfl ⟨_, _, _, m - (n - b), rfl, rfl, hf2.tr hf3, hmi3, hv3, by omega, Or.inr ⟨b, hb, rfl, by omega⟩⟩)
    have fin1 : ∀ (l3 l4 : Option Value) (v2 : Nat → Int32) (a2 : Nat → Nat → Int32), rz_mf v a v2 a2 → rz_mi v2 a2 → v2 21 = Int32.ofNat m → rz_E xs xl 98 72 [some (.ref 25), some (.int (Int32.ofNat p)), some (.int (Int32.ofNat n)), l3, l4] [] (rz_w v2 a2 g) 0 0 (fun q w' => ∃ (u : Int32) (v' : Nat → Int32) (a' : Nat → Nat → Int32) (m' : Nat), q = .inl (some (.int u)) ∧ w' = rz_w v' a' g ∧ rz_mf v a v' a' ∧ rz_mi v' a' ∧ v' 21 = Int32.ofNat m' ∧ m' ≤ 24 ∧ ((u = -1 ∧ m' = m) ∨ ∃ b : Nat, b ≤ 1 ∧ u = Int32.ofNat b ∧ m' + 1 ≤ m + b)) := by
      intro l3 l4 v2 a2 hf2 hmi2 hv2
      refine ev_ps 3 rfl (ev_if (cd := .lt) rfl (fun h2 => next _ _ _ _ hf2 hmi2 hv2) (fun h2 => ?_))
      exact absurd (show (-1 : Int32) < 0 by decide) (rc_lt_f h2)
    refine ev_ps 6 rfl ?_
    refine ev_call (av := [.ref 25, .int (Int32.ofNat p), .int (Int32.ofNat n), .int (Int32.ofNat p), .int (Int32.ofNat 0), _]) rfl rfl rfl rfl ⟨Nat.le_of_ble_eq_true rfl, rfl⟩ ⟨Nat.le_of_ble_eq_true rfl, Nat.le_of_ble_eq_true rfl⟩ (m_agree _ (by omega) (by omega) (fun k h1 h2 => hrows k (by omega)) (fun k h1 h2 => absurd h2 (by omega))) ?_
    rintro _ _ ⟨⟨u2, hu2, rfl⟩, f1, f2, rfl⟩
    have hf2 : rz_mf v a (rz_up v1 26 (v1 26 + 1)) (rz_ua (rz_ua a1 27 f1) 28 f2) := ((hf.up (by omega) _).ua (by omega) _).ua (by omega) _
    refine ev_if (cd := .eq) rfl (fun h3 => ?_) (fun h3 => ?_)
    · refine ev_ps 2 rfl (ev_ic (cd := .le) rfl (fun h4 => fin1 _ _ _ _ hf2 hmi1 hv1) (fun h4 => ?_))
      refine ev_ps 4 rfl (ev_call (av := [_, _, _, _]) rfl rfl rfl rfl ⟨Nat.le_of_ble_eq_true rfl, rfl⟩ ⟨Nat.le_of_ble_eq_true rfl, Nat.le_of_ble_eq_true rfl⟩ (m_isFound _ hmi1 hv1 hm hpn) ?_)
      rintro _ _ ⟨u3, y, a3, hu3, rfl, hca, hc24, rfl⟩
      have hf3 : rz_mf v a (rz_up (rz_up v1 26 (v1 26 + 1)) 26 y) a3 := ⟨(hf2.up (by omega) _).1, fun k hk => (hca.1 k hk).trans (hf2.2 k hk)⟩
      have hmi3 : rz_mi (rz_up (rz_up v1 26 (v1 26 + 1)) 26 y) a3 := hca.mi (v := rz_up (rz_up v1 26 (v1 26 + 1)) 26 y) hmi1
      refine ev_if (cd := .eq) rfl (fun h5 => fin1 _ _ _ _ hf3 hmi3 hv1) (fun h5 => ?_)
      exact ev_ps 2 rfl (fin 1 _ _ _ _ (by omega) (by omega) hf3 hmi3 hv1 (fun j h1 h2 => hca.nt hm (hnt j h1 h2)) (fun _ => hc24 (hu3.resolve_left (rc_eq_f h5))))
    · exact ev_ps 2 rfl (fin 0 _ _ _ _ (by omega) (by omega) hf2 hmi1 hv1 hnt (fun q => absurd q (by decide)))
theorem m_improve (hmi : rz_mi v a) : rz_C xs xl 97 [.ref 25] (rz_w v a g) (rz_mp v a g rz_pi) := by
  obtain ⟨n, hn, hv, hrows⟩ := hmi.1
  refine ev_ps 3 rfl (ev_w (w2 := rz_w (rz_up v 20 0) a g) rfl ?_)
  refine ev_ps 5 rfl ?_
  refine ev_loop (α := Nat × Nat × Option Value × (Nat → Int32) × (Nat → Nat → Int32)) (fun r => r.2.1 - r.1) (fun r => r.1 ≤ 24 ∧ r.2.1 ≤ 24 ∧ rz_mf v a r.2.2.2.1 r.2.2.2.2 ∧ rz_mi r.2.2.2.1 r.2.2.2.2 ∧ r.2.2.2.1 21 = Int32.ofNat r.2.1) (fun r => [some (.ref 25), some (.int (v 21)), some (.int (Int32.ofNat r.1)), r.2.2.1]) (fun _ => []) (fun r => rz_w r.2.2.2.1 r.2.2.2.2 g) ?_ (0, n, none, rz_up v 20 0, a) ⟨Nat.zero_le _, hn, rz_mf.rf.up (by omega) _, hmi, hv⟩
  rintro ⟨p, m, l3, v1, a1⟩ ⟨hp, hm, hf, hmi1, hv1⟩ ih
  dsimp only at hp hm hf hmi1 hv1 ih ⊢
  refine ev_ps 3 rfl (ev_ic (cd := .ge) rfl (fun h => ?_) (fun h => ?_))
  · exact ev_ps 4 rfl (ev_ret rfl rfl ⟨⟨_, rfl⟩, _, _, rfl, hf, hmi1⟩)
  · rw [hv1] at h
    have hpm : p < m := rn_ge_f (by omega) (by omega) h
    refine ev_ps 2 rfl (ev_call (av := [_, _]) rfl rfl rfl rfl ⟨Nat.le_of_ble_eq_true rfl, rfl⟩ ⟨Nat.le_of_ble_eq_true rfl, Nat.le_of_ble_eq_true rfl⟩ (m_improved hmi1 hv1 hm hpm) ?_)
    rintro _ _ ⟨u, v2, a2, m2, rfl, rfl, hf2, hmi2, hv2, hm2, hor⟩
    have next : ∀ (p2 : Nat) (l3 : Option Value), p2 ≤ 24 → m2 - p2 < m - p → rz_E xs xl 97 39 [some (.ref 25), some (.int (v 21)), some (.int (Int32.ofNat p)), l3] [.int (Int32.ofNat p2)] (rz_w v2 a2 g) 0 0 (rz_mp v a g rz_pi) := by
      intro p2 l3 hp2 hlt
      have h9 := ih (p2, m2, l3, v2, a2) ⟨hp2, hm2, hf.tr hf2, hmi2, hv2⟩ hlt
      exact ev_ps 2 rfl h9
    rcases hor with ⟨rfl, rfl⟩ | ⟨b, hb, rfl, hmb⟩
    · refine ev_ps 2 rfl (ev_if (cd := .ge) rfl (fun h2 => absurd (rc_ge_t h2) (by decide)) (fun h2 => ?_))
      have h9 := next (p + 1) (some (.int (-1))) (by omega) (by omega)
      rw [← rz_succ p] at h9
      exact ev_ps 4 rfl h9
    · refine ev_ps 2 rfl (ev_if (cd := .ge) rfl (fun h2 => ?_) (fun h2 => ?_))
      · have h9 := next (p + b) (some (.int (Int32.ofNat b))) (by omega) (by omega)
        rw [← rz_add p b] at h9
        exact ev_ps 3 rfl h9
      · exact absurd (rn_ge_f (k := 0) (by omega) (by omega) h2) (by omega)
end RZM6
end
section
/-! the law's loop -/
section RZLAW
variable {xs : Nat → Int32} {xl pc : Nat} {L : rz_L} {st : List Value} {w : rz_W} {kc ks : Nat} {post : rz_R → rz_W → Prop}
theorem ev_sld {len x y z : Nat} {j : Int32} (hc : rz_code 0 pc = some (4, .iaload, len, x, y, z)) (hj : ¬ (j < 0 ∨ xl ≤ j.toNatClampNeg)) (k : rz_E xs xl 0 (pc + len) L (.int (xs j.toNatClampNeg) :: st) w kc ks post) : rz_E xs xl 0 pc L (.int j :: .ref 999 :: st) w kc ks post := by
  obtain ⟨n, r, w1, h1, h2⟩ := k
  refine ⟨n + 1, r, w1, ?_, h2⟩
  rw [rz_run, hc]
  exact (if_pos rfl).trans ((if_pos hj).trans h1)
theorem ev_sln {len x y z : Nat} (hc : rz_code 0 pc = some (4, .arraylength, len, x, y, z)) (k : rz_E xs xl 0 (pc + len) L (.int (Int32.ofNat xl) :: st) w kc ks post) : rz_E xs xl 0 pc L (.ref 999 :: st) w kc ks post := by
  obtain ⟨n, r, w1, h1, h2⟩ := k
  refine ⟨n + 1, r, w1, ?_, h2⟩
  rw [rz_run, hc]
  exact (if_pos rfl).trans h1
theorem rz_mi_cf {v v' : Nat → Int32} {a a' : Nat → Nat → Int32} (hf : rz_cf v a v' a') (h : rz_mi v a) : rz_mi v' a' := by
  obtain ⟨⟨n, hn, hv, hr⟩, h1, h2, h3⟩ := h
  refine ⟨⟨n, hn, by rw [hf.1 21 (by omega)]; exact hv, fun k hk => ?_⟩, ?_, ?_, ?_⟩
  · show rz_LI (a' 20 k) (a' 21 k) (a' 22 k) (a' 23 k)
    rw [hf.2 20 (by omega), hf.2 21 (by omega), hf.2 22 (by omega), hf.2 23 (by omega)]
    exact hr k hk
  · show rz_LI (a' 20 24) (a' 21 24) (a' 22 24) (a' 23 24)
    rw [hf.2 20 (by omega), hf.2 21 (by omega), hf.2 22 (by omega), hf.2 23 (by omega)]
    exact h1
  · rw [hf.2 24 (by omega)]; exact h2
  · rw [hf.2 25 (by omega)]; exact h3
theorem rz_ci_mf {v v' : Nat → Int32} {a a' : Nat → Nat → Int32} (hf : rz_mf v a v' a') (h : rz_ci v) : rz_ci v' := by
  unfold rz_ci
  rw [hf.1 0 (by omega), hf.1 4 (by omega)]
  exact h
theorem rz_mem13 {t a0 a1 a2 a3 a4 a5 a6 a7 a8 a9 a10 a11 a12 a13 : Nat} (h : t ∈ [a0, a1, a2, a3, a4, a5, a6, a7, a8, a9, a10, a11, a12, a13]) : t = a0 ∨ t = a1 ∨ t = a2 ∨ t = a3 ∨ t = a4 ∨ t = a5 ∨ t = a6 ∨ t = a7 ∨ t = a8 ∨ t = a9 ∨ t = a10 ∨ t = a11 ∨ t = a12 ∨ t = a13 := rz_mem14 h
end RZLAW
set_option maxRecDepth 50000 in
theorem rz_law {xs : Nat → Int32} {xl c0 s0' : Nat} (hxl : xl ≤ 3072) (hc0 : c0 + 512 ≤ 1074) (hs0 : s0' + 3072 ≤ 8598) : ∀ (d k : Nat), k + d = 600 → k ≤ 512 → ∀ (v : Nat → Int32) (a : Nat → Nat → Int32) (g : Nat → Int64) (l5 l6 : Option Value) (kc ks : Nat), rz_ci v → rz_mi v a → kc ≤ c0 + k → ks ≤ s0' + 6 * k →
    rz_E xs xl 0 23 [some (.ref 999), some (.ref 0), some (.ref 25), some (.ref 35), some (.int (Int32.ofNat (6 * k))), l5, l6] [] (rz_w v a g) kc ks (fun r _ => r = .inl (some (.int 1))) := by
  intro d
  induction d with
  | zero => intro k h1 h2; omega
  | succ d ih =>
    intro k hkd hk v a g l5 l6 kc ks hci hmi hkc hks
    refine ev_ps 2 rfl (ev_sln rfl ?_)
    refine ev_ps 2 rfl (ev_ic (cd := .gt) rfl (fun h => ?_) (fun h => ?_))
    · exact ev_ps 1 rfl (ev_ret rfl rfl rfl)
    · have hle : 6 * k + 6 ≤ xl := by
        have h' := rc_gt_f h
        by_cases h6 : 6 ≤ xl
        · rw [show Int32.ofNat xl - (Int8.ofInt 6).toInt32 = Int32.ofNat (xl - 6) from rz_sub (n := 6) h6, rz_lt_iff (by omega) (by omega)] at h'
          omega
        · exfalso
          apply h'
          have hx : xl = 0 ∨ xl = 1 ∨ xl = 2 ∨ xl = 3 ∨ xl = 4 ∨ xl = 5 := by omega
          have hneg : Int32.ofNat xl - (Int8.ofInt 6).toInt32 < 0 := by rcases hx with rfl | rfl | rfl | rfl | rfl | rfl <;> decide
          rw [Int32.lt_iff_toInt_lt] at hneg ⊢
          rw [rz_toInt (by omega)]
          have h0 : (0 : Int32).toInt = 0 := rfl
          omega
      have hk5 : k ≤ 511 := by omega
      have s0 : ¬ (Int32.ofNat (6 * k) < 0 ∨ xl ≤ (Int32.ofNat (6 * k)).toNatClampNeg) := rz_in (by omega) (by omega)
      have s1 : ¬ (Int32.ofNat (6 * k) + Int32.ofInt 1 < 0 ∨ xl ≤ (Int32.ofNat (6 * k) + Int32.ofInt 1).toNatClampNeg) := by
        rw [show Int32.ofNat (6 * k) + Int32.ofInt 1 = Int32.ofNat (6 * k + 1) from rz_add _ _]
        exact rz_in (by omega) (by omega)
      have s2 : ¬ (Int32.ofNat (6 * k) + Int32.ofInt 2 < 0 ∨ xl ≤ (Int32.ofNat (6 * k) + Int32.ofInt 2).toNatClampNeg) := by
        rw [show Int32.ofNat (6 * k) + Int32.ofInt 2 = Int32.ofNat (6 * k + 2) from rz_add _ _]
        exact rz_in (by omega) (by omega)
      have s3 : ¬ (Int32.ofNat (6 * k) + Int32.ofInt 3 < 0 ∨ xl ≤ (Int32.ofNat (6 * k) + Int32.ofInt 3).toNatClampNeg) := by
        rw [show Int32.ofNat (6 * k) + Int32.ofInt 3 = Int32.ofNat (6 * k + 3) from rz_add _ _]
        exact rz_in (by omega) (by omega)
      have s4 : ¬ (Int32.ofNat (6 * k) + Int32.ofInt 4 < 0 ∨ xl ≤ (Int32.ofNat (6 * k) + Int32.ofInt 4).toNatClampNeg) := by
        rw [show Int32.ofNat (6 * k) + Int32.ofInt 4 = Int32.ofNat (6 * k + 4) from rz_add _ _]
        exact rz_in (by omega) (by omega)
      have s5 : ¬ (Int32.ofNat (6 * k) + Int32.ofInt 5 < 0 ∨ xl ≤ (Int32.ofNat (6 * k) + Int32.ofInt 5).toNatClampNeg) := by
        rw [show Int32.ofNat (6 * k) + Int32.ofInt 5 = Int32.ofNat (6 * k + 5) from rz_add _ _]
        exact rz_in (by omega) (by omega)
      have nx : ∀ (l5 l6 : Option Value) (v2 : Nat → Int32) (a2 : Nat → Nat → Int32) (g2 : Nat → Int64) (kc2 ks2 : Nat), rz_ci v2 → rz_mi v2 a2 → kc2 ≤ c0 + (k + 1) → ks2 ≤ s0' + 6 * (k + 1) → rz_E xs xl 0 582 [some (.ref 999), some (.ref 0), some (.ref 25), some (.ref 35), some (.int (Int32.ofNat (6 * k))), l5, l6] [] (rz_w v2 a2 g2) kc2 ks2 (fun r _ => r = .inl (some (.int 1))) := by
        intro l5 l6 v2 a2 g2 kc2 ks2 h1 h2 h3 h4
        have h9 := ih (k + 1) (by omega) (by omega) v2 a2 g2 l5 l6 kc2 ks2 h1 h2 h3 h4
        rw [show Int32.ofNat (6 * (k + 1)) = Int32.ofNat (6 * k) + Int32.ofInt 6 from (rz_add (6 * k) 6).symm] at h9
        exact ev_ps 2 rfl h9
      refine ev_ps 2 rfl (ev_sld rfl s0 ?_)
      refine ev_ps 2 rfl (ev_tsw rfl (fun t ht => ?_))
      rcases rz_mem13 ht with rfl | rfl | rfl | rfl | rfl | rfl | rfl | rfl | rfl | rfl | rfl | rfl | rfl | rfl
      · exact nx _ _ _ _ _ _ _ hci hmi (by omega) (by omega)
      · refine ev_ps 5 rfl ?_
        refine ev_sld rfl s1 ?_
        refine ev_ps 4 rfl ?_
        refine ev_sld rfl s2 ?_
        refine ev_ps 4 rfl ?_
        refine ev_sld rfl s3 ?_
        refine ev_ps 4 rfl ?_
        refine ev_sld rfl s4 ?_
        refine ev_ps 1 rfl ?_
        refine ev_call (av := [_, _, _, _, _, _]) rfl rfl rfl rfl ⟨Nat.le_of_ble_eq_true rfl, rfl⟩ ⟨by show kc + 1 ≤ 1074; omega, by show ks + 6 ≤ 8598; omega⟩ (l_add hci _ _ _ _) ?_
        rintro _ _ ⟨⟨u1, rfl⟩, v1, a1, g1, rfl, hf1, hc1⟩
        have hm1 := rz_mi_cf hf1 hmi
        refine ev_ps 6 rfl ?_
        refine ev_sld rfl s1 ?_
        refine ev_ps 4 rfl ?_
        refine ev_sld rfl s2 ?_
        refine ev_ps 4 rfl ?_
        refine ev_sld rfl s3 ?_
        refine ev_ps 4 rfl ?_
        refine ev_sld rfl s4 ?_
        refine ev_call (av := [_, _, _, _, _]) rfl rfl rfl rfl ⟨Nat.le_of_ble_eq_true rfl, rfl⟩ ⟨by show kc + 1 + 0 ≤ 1074; omega, by show ks + 6 + 0 ≤ 8598; omega⟩ (m_add hm1 _ _ _ _) ?_
        rintro _ _ ⟨⟨u2, rfl⟩, v2, a2, rfl, hf2, hm2⟩
        have hc2 := rz_ci_mf hf2 hc1
        exact ev_ps 2 rfl (nx _ _ _ _ _ _ _ hc2 hm2 (by show kc + 1 + 0 ≤ c0 + (k + 1); omega) (by show ks + 6 + 0 ≤ s0' + 6 * (k + 1); omega))
      · refine ev_ps 5 rfl ?_
        refine ev_sld rfl s1 ?_
        refine ev_ps 4 rfl ?_
        refine ev_sld rfl s2 ?_
        refine ev_ps 4 rfl ?_
        refine ev_sld rfl s3 ?_
        refine ev_ps 4 rfl ?_
        refine ev_sld rfl s4 ?_
        refine ev_ps 4 rfl ?_
        refine ev_sld rfl s5 ?_
        refine ev_call (av := [_, _, _, _, _, _]) rfl rfl rfl rfl ⟨Nat.le_of_ble_eq_true rfl, rfl⟩ ⟨by show kc + 1 ≤ 1074; omega, by show ks + 6 ≤ 8598; omega⟩ (l_replace hci _ _ _ _ _) ?_
        rintro _ _ ⟨⟨u1, rfl⟩, v1, a1, g1, rfl, hf1, hc1⟩
        have hm1 := rz_mi_cf hf1 hmi
        refine ev_ps 6 rfl ?_
        refine ev_sld rfl s1 ?_
        refine ev_ps 4 rfl ?_
        refine ev_sld rfl s2 ?_
        refine ev_ps 4 rfl ?_
        refine ev_sld rfl s3 ?_
        refine ev_ps 4 rfl ?_
        refine ev_sld rfl s4 ?_
        refine ev_ps 4 rfl ?_
        refine ev_sld rfl s5 ?_
        refine ev_call (av := [_, _, _, _, _, _]) rfl rfl rfl rfl ⟨Nat.le_of_ble_eq_true rfl, rfl⟩ ⟨by show kc + 1 + 0 ≤ 1074; omega, by show ks + 6 + 0 ≤ 8598; omega⟩ (m_replace hm1 _ _ _ _ _) ?_
        rintro _ _ ⟨rfl, v2, a2, rfl, hf2, hm2⟩
        have hc2 := rz_ci_mf hf2 hc1
        exact ev_ps 1 rfl (nx _ _ _ _ _ _ _ hc2 hm2 (by show kc + 1 + 0 ≤ c0 + (k + 1); omega) (by show ks + 6 + 0 ≤ s0' + 6 * (k + 1); omega))
      · refine ev_ps 1 rfl ?_
        refine ev_call (av := [_]) rfl rfl rfl rfl ⟨Nat.le_of_ble_eq_true rfl, rfl⟩ ⟨by show kc + 0 ≤ 1074; omega, by show ks + 0 ≤ 8598; omega⟩ (p_clear hci) ?_
        rintro _ _ ⟨⟨u1, rfl⟩, v1, a1, rfl, hf1, hc1⟩
        have hm1 := rz_mi_cf hf1 hmi
        refine ev_ps 2 rfl ?_
        refine ev_call (av := [_]) rfl rfl rfl rfl ⟨Nat.le_of_ble_eq_true rfl, rfl⟩ ⟨by show kc + 0 + 0 ≤ 1074; omega, by show ks + 0 + 0 ≤ 8598; omega⟩ (m_clear hm1) ?_
        rintro _ _ ⟨⟨u2, rfl⟩, v2, a2, rfl, hf2, hm2⟩
        have hc2 := rz_ci_mf hf2 hc1
        exact ev_ps 2 rfl (nx _ _ _ _ _ _ _ hc2 hm2 (by show kc + 0 + 0 ≤ c0 + (k + 1); omega) (by show ks + 0 + 0 ≤ s0' + 6 * (k + 1); omega))
      · refine ev_ps 1 rfl ?_
        refine ev_call (av := [_]) rfl rfl rfl rfl ⟨Nat.le_of_ble_eq_true rfl, rfl⟩ ⟨by show kc + 0 ≤ 1074; omega, by show ks + 0 ≤ 8598; omega⟩ (p_size hci) ?_
        rintro _ _ ⟨⟨u1, rfl⟩, v1, a1, rfl, hf1, hc1⟩
        have hm1 := rz_mi_cf hf1 hmi
        refine ev_ps 2 rfl ?_
        refine ev_call (av := [_]) rfl rfl rfl rfl ⟨Nat.le_of_ble_eq_true rfl, rfl⟩ ⟨by show kc + 0 + 0 ≤ 1074; omega, by show ks + 0 + 0 ≤ 8598; omega⟩ (m_size hm1) ?_
        rintro _ _ ⟨⟨u2, rfl⟩, v2, a2, rfl, hf2, hm2⟩
        have hc2 := rz_ci_mf hf2 hc1
        exact ev_ps 2 rfl (nx _ _ _ _ _ _ _ hc2 hm2 (by show kc + 0 + 0 ≤ c0 + (k + 1); omega) (by show ks + 0 + 0 ≤ s0' + 6 * (k + 1); omega))
      · refine ev_ps 5 rfl ?_
        refine ev_sld rfl s1 ?_
        refine ev_ps 4 rfl ?_
        refine ev_sld rfl s2 ?_
        refine ev_ps 1 rfl ?_
        refine ev_call (av := [_, _, _, _]) rfl rfl rfl rfl ⟨Nat.le_of_ble_eq_true rfl, rfl⟩ ⟨by show kc + 1 ≤ 1074; omega, by show ks + 6 ≤ 8598; omega⟩ (l_instruction hci _ _) ?_
        rintro _ _ ⟨⟨u1, rfl⟩, v1, a1, g1, rfl, hf1, hc1⟩
        have hm1 := rz_mi_cf hf1 hmi
        refine ev_ps 6 rfl ?_
        refine ev_sld rfl s1 ?_
        refine ev_ps 4 rfl ?_
        refine ev_sld rfl s2 ?_
        refine ev_call (av := [_, _, _]) rfl rfl rfl rfl ⟨Nat.le_of_ble_eq_true rfl, rfl⟩ ⟨by show kc + 1 + 0 ≤ 1074; omega, by show ks + 6 + 0 ≤ 8598; omega⟩ (m_instruction hm1 _ _) ?_
        rintro _ _ ⟨⟨u2, rfl⟩, v2, a2, rfl, hf2, hm2⟩
        have hc2 := rz_ci_mf hf2 hc1
        exact ev_ps 2 rfl (nx _ _ _ _ _ _ _ hc2 hm2 (by show kc + 1 + 0 ≤ c0 + (k + 1); omega) (by show ks + 6 + 0 ≤ s0' + 6 * (k + 1); omega))
      · refine ev_ps 5 rfl ?_
        refine ev_sld rfl s1 ?_
        refine ev_ps 4 rfl ?_
        refine ev_sld rfl s2 ?_
        refine ev_call (av := [_, _, _]) rfl rfl rfl rfl ⟨Nat.le_of_ble_eq_true rfl, rfl⟩ ⟨by show kc + 1 ≤ 1074; omega, by show ks + 6 ≤ 8598; omega⟩ (l_start hci _ _) ?_
        rintro _ _ ⟨hor, v1, a1, g1, rfl, hf1, hc1⟩
        have hm1 := rz_mi_cf hf1 hmi
        have key : ∀ b : Int32, ((b = 0 ∧ rz_sok (xs (Int32.ofNat (6 * k) + Int32.ofInt 1).toNatClampNeg) (xs (Int32.ofNat (6 * k) + Int32.ofInt 2).toNatClampNeg)) ∨ (b = 1 ∧ ¬ rz_sok (xs (Int32.ofNat (6 * k) + Int32.ofInt 1).toNatClampNeg) (xs (Int32.ofNat (6 * k) + Int32.ofInt 2).toNatClampNeg))) → rz_E xs xl 0 327 [some (.ref 999), some (.ref 0), some (.ref 25), some (.ref 35), some (.int (Int32.ofNat (6 * k))), l5, l6] [.int b] (rz_w v1 a1 g1) (kc + 1) (ks + 6) (fun r _ => r = .inl (some (.int 1))) := by
          intro b hb
          refine ev_ps 6 rfl ?_
          refine ev_sld rfl s1 ?_
          refine ev_ps 4 rfl ?_
          refine ev_sld rfl s2 ?_
          refine ev_call (av := [_, _, _]) rfl rfl rfl rfl ⟨Nat.le_of_ble_eq_true rfl, rfl⟩ ⟨by show kc + 1 + 0 ≤ 1074; omega, by show ks + 6 + 0 ≤ 8598; omega⟩ (m_start hm1 _ _) ?_
          rintro _ _ ⟨rfl, v2, a2, rfl, hf2, hm2, h20⟩
          have hc2 := rz_ci_mf hf2 hc1
          refine ev_ps 1 rfl ?_
          refine ev_call (av := [_]) rfl rfl rfl rfl ⟨Nat.le_of_ble_eq_true rfl, rfl⟩ ⟨by show kc + 1 + 0 + 0 ≤ 1074; omega, by show ks + 6 + 0 + 0 ≤ 8598; omega⟩ m_thrown ?_
          rintro _ _ ⟨rfl, rfl⟩
          refine ev_ps 1 rfl (ev_ic (cd := .eq) rfl (fun h => ?_) (fun h => ?_))
          · exact ev_ps 1 rfl (nx _ _ _ _ _ _ _ hc2 hm2 (by show kc + 1 + 0 + 0 ≤ c0 + (k + 1); omega) (by show ks + 6 + 0 + 0 ≤ s0' + 6 * (k + 1); omega))
          · exfalso
            apply rc_eq_f h
            rcases hb with ⟨e1, q1⟩ | ⟨e1, q1⟩
            · rcases h20 with ⟨e2, q2⟩ | ⟨e2, q2⟩
              · rw [e1, e2]
              · exact absurd q1 q2
            · rcases h20 with ⟨e2, q2⟩ | ⟨e2, q2⟩
              · exact absurd q2 q1
              · rw [e1, e2]
        rcases hor with ⟨rfl, q⟩ | ⟨rfl, q⟩
        · exact key 0 (Or.inl ⟨rfl, q⟩)
        · exact key 1 (Or.inr ⟨rfl, q⟩)
      · refine ev_ps 5 rfl ?_
        refine ev_sld rfl s1 ?_
        refine ev_ps 1 rfl ?_
        refine ev_call (av := [_, _, _]) rfl rfl rfl rfl ⟨Nat.le_of_ble_eq_true rfl, rfl⟩ ⟨by show kc + 1 ≤ 1074; omega, by show ks + 6 ≤ 8598; omega⟩ (l_run hci _) ?_
        rintro _ _ ⟨⟨u1, rfl⟩, v1, a1, g1, rfl, hf1, hc1⟩
        have hm1 := rz_mi_cf hf1 hmi
        refine ev_ps 6 rfl ?_
        refine ev_sld rfl s1 ?_
        refine ev_call (av := [_, _]) rfl rfl rfl rfl ⟨Nat.le_of_ble_eq_true rfl, rfl⟩ ⟨by show kc + 1 + 0 ≤ 1074; omega, by show ks + 6 + 0 ≤ 8598; omega⟩ (m_run hm1 _) ?_
        rintro _ _ ⟨⟨u2, rfl⟩, v2, a2, rfl, hf2, hm2⟩
        have hc2 := rz_ci_mf hf2 hc1
        exact ev_ps 2 rfl (nx _ _ _ _ _ _ _ hc2 hm2 (by show kc + 1 + 0 ≤ c0 + (k + 1); omega) (by show ks + 6 + 0 ≤ s0' + 6 * (k + 1); omega))
      · refine ev_ps 5 rfl ?_
        refine ev_sld rfl s1 ?_
        refine ev_call (av := [_, _]) rfl rfl rfl rfl ⟨Nat.le_of_ble_eq_true rfl, rfl⟩ ⟨by show kc + 0 ≤ 1074; omega, by show ks + 0 ≤ 8598; omega⟩ (p_result hci _) ?_
        rintro _ _ ⟨⟨u1, rfl⟩, v1, a1, rfl, hf1, hc1⟩
        have hm1 := rz_mi_cf hf1 hmi
        refine ev_ps 6 rfl ?_
        refine ev_sld rfl s1 ?_
        refine ev_call (av := [_, _]) rfl rfl rfl rfl ⟨Nat.le_of_ble_eq_true rfl, rfl⟩ ⟨by show kc + 0 + 0 ≤ 1074; omega, by show ks + 0 + 0 ≤ 8598; omega⟩ (m_result hm1 _) ?_
        rintro _ _ ⟨⟨u2, rfl⟩, v2, a2, rfl, hf2, hm2⟩
        have hc2 := rz_ci_mf hf2 hc1
        exact ev_ps 2 rfl (nx _ _ _ _ _ _ _ hc2 hm2 (by show kc + 0 + 0 ≤ c0 + (k + 1); omega) (by show ks + 0 + 0 ≤ s0' + 6 * (k + 1); omega))
      · refine ev_ps 5 rfl ?_
        refine ev_sld rfl s1 ?_
        refine ev_ps 1 rfl ?_
        refine ev_call (av := [_, _, _]) rfl rfl rfl rfl ⟨Nat.le_of_ble_eq_true rfl, rfl⟩ ⟨by show kc + 1 ≤ 1074; omega, by show ks + 6 ≤ 8598; omega⟩ (l_live hci _) ?_
        rintro _ _ ⟨⟨u1, rfl⟩, v1, a1, g1, rfl, hf1, hc1⟩
        have hm1 := rz_mi_cf hf1 hmi
        refine ev_ps 6 rfl ?_
        refine ev_sld rfl s1 ?_
        refine ev_call (av := [_, _]) rfl rfl rfl rfl ⟨Nat.le_of_ble_eq_true rfl, rfl⟩ ⟨by show kc + 1 + 0 ≤ 1074; omega, by show ks + 6 + 0 ≤ 8598; omega⟩ (m_live hm1 _) ?_
        rintro _ _ ⟨⟨u2, rfl⟩, v2, a2, rfl, hf2, hm2⟩
        have hc2 := rz_ci_mf hf2 hc1
        exact ev_ps 2 rfl (nx _ _ _ _ _ _ _ hc2 hm2 (by show kc + 1 + 0 ≤ c0 + (k + 1); omega) (by show ks + 6 + 0 ≤ s0' + 6 * (k + 1); omega))
      · refine ev_ps 5 rfl ?_
        refine ev_sld rfl s1 ?_
        refine ev_ps 1 rfl ?_
        refine ev_call (av := [_, _, _]) rfl rfl rfl rfl ⟨Nat.le_of_ble_eq_true rfl, rfl⟩ ⟨by show kc + 1 ≤ 1074; omega, by show ks + 6 ≤ 8598; omega⟩ (l_block hci _) ?_
        rintro _ _ ⟨⟨u1, rfl⟩, v1, a1, g1, rfl, hf1, hc1⟩
        have hm1 := rz_mi_cf hf1 hmi
        refine ev_ps 6 rfl ?_
        refine ev_sld rfl s1 ?_
        refine ev_call (av := [_, _]) rfl rfl rfl rfl ⟨Nat.le_of_ble_eq_true rfl, rfl⟩ ⟨by show kc + 1 + 0 ≤ 1074; omega, by show ks + 6 + 0 ≤ 8598; omega⟩ (m_block hm1 _) ?_
        rintro _ _ ⟨⟨u2, rfl⟩, v2, a2, rfl, hf2, hm2⟩
        have hc2 := rz_ci_mf hf2 hc1
        exact ev_ps 2 rfl (nx _ _ _ _ _ _ _ hc2 hm2 (by show kc + 1 + 0 ≤ c0 + (k + 1); omega) (by show ks + 6 + 0 ≤ s0' + 6 * (k + 1); omega))
      · refine ev_ps 5 rfl ?_
        refine ev_sld rfl s1 ?_
        refine ev_ps 4 rfl ?_
        refine ev_sld rfl s2 ?_
        refine ev_ps 4 rfl ?_
        refine ev_sld rfl s3 ?_
        refine ev_ps 4 rfl ?_
        refine ev_sld rfl s4 ?_
        refine ev_ps 4 rfl ?_
        refine ev_sld rfl s5 ?_
        refine ev_ps 1 rfl ?_
        refine ev_call (av := [_, _, _, _, _, _, _]) rfl rfl rfl rfl ⟨Nat.le_of_ble_eq_true rfl, rfl⟩ ⟨by show kc + 1 ≤ 1074; omega, by show ks + 6 ≤ 8598; omega⟩ (l_same hci _ _ _ _ _) ?_
        rintro _ _ ⟨⟨u1, rfl⟩, v1, a1, g1, rfl, hf1, hc1⟩
        have hm1 := rz_mi_cf hf1 hmi
        refine ev_ps 6 rfl ?_
        refine ev_sld rfl s1 ?_
        refine ev_ps 4 rfl ?_
        refine ev_sld rfl s2 ?_
        refine ev_ps 4 rfl ?_
        refine ev_sld rfl s3 ?_
        refine ev_ps 4 rfl ?_
        refine ev_sld rfl s4 ?_
        refine ev_ps 4 rfl ?_
        refine ev_sld rfl s5 ?_
        refine ev_call (av := [_, _, _, _, _, _]) rfl rfl rfl rfl ⟨Nat.le_of_ble_eq_true rfl, rfl⟩ ⟨by show kc + 1 + 0 ≤ 1074; omega, by show ks + 6 + 0 ≤ 8598; omega⟩ (m_same hm1 _ _ _ _ _) ?_
        rintro _ _ ⟨⟨u2, rfl⟩, v2, a2, rfl, hf2, hm2⟩
        have hc2 := rz_ci_mf hf2 hc1
        exact ev_ps 2 rfl (nx _ _ _ _ _ _ _ hc2 hm2 (by show kc + 1 + 0 ≤ c0 + (k + 1); omega) (by show ks + 6 + 0 ≤ s0' + 6 * (k + 1); omega))
      · refine ev_ps 1 rfl ?_
        refine ev_call (av := [_]) rfl rfl rfl rfl ⟨Nat.le_of_ble_eq_true rfl, rfl⟩ ⟨by show kc + 0 ≤ 1074; omega, by show ks + 0 ≤ 8598; omega⟩ (p_improve hci) ?_
        rintro _ _ ⟨⟨u1, rfl⟩, v1, a1, rfl, hf1, hc1⟩
        have hm1 := rz_mi_cf hf1 hmi
        refine ev_ps 2 rfl ?_
        refine ev_call (av := [_]) rfl rfl rfl rfl ⟨Nat.le_of_ble_eq_true rfl, rfl⟩ ⟨by show kc + 0 + 0 ≤ 1074; omega, by show ks + 0 + 0 ≤ 8598; omega⟩ (m_improve hm1) ?_
        rintro _ _ ⟨⟨u2, rfl⟩, v2, a2, rfl, hf2, hm2⟩
        have hc2 := rz_ci_mf hf2 hc1
        exact ev_ps 2 rfl (nx _ _ _ _ _ _ _ hc2 hm2 (by show kc + 0 + 0 ≤ c0 + (k + 1); omega) (by show ks + 0 + 0 ≤ s0' + 6 * (k + 1); omega))
      · refine ev_ps 5 rfl ?_
        refine ev_sld rfl s1 ?_
        refine ev_call (av := [_, _]) rfl rfl rfl rfl ⟨Nat.le_of_ble_eq_true rfl, rfl⟩ ⟨by show kc + 0 ≤ 1074; omega, by show ks + 0 ≤ 8598; omega⟩ (p_count hci _) ?_
        rintro _ _ ⟨⟨u1, rfl⟩, v1, a1, rfl, hf1, hc1⟩
        have hm1 := rz_mi_cf hf1 hmi
        refine ev_ps 6 rfl ?_
        refine ev_sld rfl s1 ?_
        refine ev_call (av := [_, _]) rfl rfl rfl rfl ⟨Nat.le_of_ble_eq_true rfl, rfl⟩ ⟨by show kc + 0 + 0 ≤ 1074; omega, by show ks + 0 + 0 ≤ 8598; omega⟩ (m_count hm1 _) ?_
        rintro _ _ ⟨⟨u2, rfl⟩, v2, a2, rfl, hf2, hm2⟩
        have hc2 := rz_ci_mf hf2 hc1
        exact ev_ps 2 rfl (nx _ _ _ _ _ _ _ hc2 hm2 (by show kc + 0 + 0 ≤ c0 + (k + 1); omega) (by show ks + 0 + 0 ≤ s0' + 6 * (k + 1); omega))
end
section
/-! the constructors: what they make -/
def rz_isN (w : Cond) : Bool := match w with
  | .methodLinkNest _ _ _ _ => true
  | _ => false
/-- links between nest mates -/
def rz_Nx (U : State) : Prop := ∀ w ∈ lw_tbl, rz_isN w = true → va_Nw w U
theorem rz_Nx.same {u U : State} (h : u.vm = U.vm) (hN : rz_Nx u) : rz_Nx U := fun w hw hx => by
  have h1 := hN w hw hx
  cases w <;> first | (simp [rz_isN] at hx; done) | exact va_Nw.same rfl h h1
theorem rz_Nx.warm {s U : State} (hW : s.WarmedH U.vm) (hN : rz_Nx s) : rz_Nx U := fun w hw hx => by
  have h1 := hN w hw hx
  cases w <;> first | (simp [rz_isN] at hx; done) | exact va_Nw.warmM hW h1
theorem rz_gi {y : MethodName} {b : ByteArray} {n : Nat} {r : Option FieldType} (h : Cond.code y b n r ∈ rz_tw) : GoodIn rz_tw (Cond.code y b n r :: rz_tw) := fun w hw => by
  rcases List.mem_cons.mp hw with rfl | h1
  · exact ⟨h, Or.inl rfl⟩
  · exact ⟨h1, good_of_word (List.mem_filter.mp h1).2⟩
abbrev rz_tys (cI cJ : ClassId) : List (ClassId × FieldType) := [(cI, .int), (cJ, .long)]
section RZNEW
variable {p : Program} {l : Launch} {e : Env} {R : Room} {s : State} {m : MethodId} {args : Array Value} {below : List Frame} {meth : Method} {c : Code} {H : Heap} {locs : List Loc} {cells slots : Nat} {Q : State → Prop}
variable {cc : ByteArray} {pc : Nat} {ls : Array Slot} {rest : List Value} {D : va_G} {A : Nat → Prop} {ws : va_W} {H0 : Heap} {cI cJ : ClassId}
theorem rz_newi (hexec : p.tables.exec = Jvm.exec) (hb : c.code = cc) (harr : (Cond.arrayClass .int).before args s = true) (hK : va_K D rz_cl (rz_tys cI cJ) s) (hP : va_P D rz_cl ws H) (hD : va_D A ws) (hS : va_S A H0 H locs) (hA : ∀ q, H0.size ≤ q → A q)
    {n : Int32} {N' : Nat} (hn : ¬ n < 0) (hN : n.toNatClampNeg = N') (hbytes : N' * componentBytes .int ≤ 536870912) (hcells : cells + 1 ≤ R.cells) (hslots : slots + N' ≤ R.slots) (hdg : decode cc pc = .ok (.newarray .int, 2))
    (kk : ∀ (q : Nat) (H1 : Heap), va_P D rz_cl (ws ++ [(q, .inl (cI, N', .inl fun _ => 0))]) H1 → va_D A (ws ++ [(q, .inl (cI, N', .inl fun _ => 0))]) → va_S A H0 H1 locs →
      W p l e R s m args below meth c H1 locs (cells + 1) (slots + N') Q (F0 m (pc + 2) ls (.ref q :: rest))) : W p l e R s m args below meth c H locs cells slots Q (F0 m pc ls (.int n :: rest)) := by
  refine va_newa hexec hb (atype := .int) harr rfl hK hP hD hS hA (a0 := (N', .inl fun _ => 0)) (fun _ => rfl) hn hN hbytes hcells hslots hdg (fun q cA H1 hK1 hP1 hD1 hS1 => ?_)
  have e1 : s.vm.findClass ("[" ++ (FieldType.int).toString) = some cI := (hK1.2 0 (cI, .int) rfl).2
  have e2 : s.vm.findClass ("[" ++ (FieldType.int).toString) = some cA := (hK1.2 2 (cA, .int) rfl).2
  have e3 : cA = cI := Option.some.inj (e2.symm.trans e1)
  subst e3
  exact kk q H1 hP1 hD1 hS1
theorem rz_newl (hexec : p.tables.exec = Jvm.exec) (hb : c.code = cc) (harr : (Cond.arrayClass .long).before args s = true) (hK : va_K D rz_cl (rz_tys cI cJ) s) (hP : va_P D rz_cl ws H) (hD : va_D A ws) (hS : va_S A H0 H locs) (hA : ∀ q, H0.size ≤ q → A q)
    {n : Int32} {N' : Nat} (hn : ¬ n < 0) (hN : n.toNatClampNeg = N') (hbytes : N' * componentBytes .long ≤ 536870912) (hcells : cells + 1 ≤ R.cells) (hslots : slots + N' ≤ R.slots) (hdg : decode cc pc = .ok (.newarray .long, 2))
    (kk : ∀ (q : Nat) (H1 : Heap), va_P D rz_cl (ws ++ [(q, .inl (cJ, N', .inr (.inl fun _ => 0)))]) H1 → va_D A (ws ++ [(q, .inl (cJ, N', .inr (.inl fun _ => 0)))]) → va_S A H0 H1 locs →
      W p l e R s m args below meth c H1 locs (cells + 1) (slots + N') Q (F0 m (pc + 2) ls (.ref q :: rest))) : W p l e R s m args below meth c H locs cells slots Q (F0 m pc ls (.int n :: rest)) := by
  refine va_newa hexec hb (atype := .long) harr rfl hK hP hD hS hA (a0 := (N', .inr (.inl fun _ => 0))) (fun _ => rfl) hn hN hbytes hcells hslots hdg (fun q cA H1 hK1 hP1 hD1 hS1 => ?_)
  have e1 : s.vm.findClass ("[" ++ (FieldType.long).toString) = some cJ := (hK1.2 1 (cJ, .long) rfl).2
  have e2 : s.vm.findClass ("[" ++ (FieldType.long).toString) = some cA := (hK1.2 2 (cA, .long) rfl).2
  have e3 : cA = cJ := Option.some.inj (e2.symm.trans e1)
  subst e3
  exact kk q H1 hP1 hD1 hS1
end RZNEW
theorem rk_ai : Cond.arrayClass .int ∈ rz_tw := rz_use (List.mem_of_getElem? (i := 69) (by decide +kernel)) rfl
theorem rk_aj : Cond.arrayClass .long ∈ rz_tw := rz_use (List.mem_of_getElem? (i := 812) (by decide +kernel)) rfl
def rz_prc (D : va_G) (cI cJ : ClassId) (h0 sz : Nat) (w0 : va_W) : Array Value → State → Prop := va_Pc [.ref h0] (fun U => U.heap.size = sz ∧ va_P D rz_cl w0 U.heap ∧ va_K D rz_cl (rz_tys cI cJ) U ∧ va_D (fun _ => True) w0 ∧ rz_Nx U)
theorem rz_pre {s : State} {H : Heap} {D : va_G} {cI cJ : ClassId} {h0 : Nat} {w0 : va_W} {A : Nat → Prop} (hP : va_P D rz_cl w0 H) (hK : va_K D rz_cl (rz_tys cI cJ) s) (hD : va_D A w0) (hN : rz_Nx s) : PreS s H (rz_prc D cI cJ h0 H.size w0) [.ref h0] :=
  ⟨fun a U g mk q => by
    obtain ⟨q0, q1, qP, qK, qD, qN⟩ := q
    exact ⟨q0, q1, qP, va_K.moved (u := U) (U := U.calling g mk a) (Vm.Alike.refl U.vm) qK, qD, rz_Nx.same (u := U) rfl qN⟩,
  fun U hU hW => ⟨rfl, by rw [hU], by rw [hU]; exact hP, va_K.moved hW.alike hK, hD.weaken (fun _ _ _ _ => trivial), hN.warm hW⟩⟩
theorem rz_df0 : ∀ j, j < 5 → defaultValue (rz_fty 0 j) = vp_V [.null, .null, .null, .null, .null] j := by decide +kernel
theorem rz_df1 : ∀ j, j < 2 → defaultValue (rz_fty 1 j) = vp_V [.null, .int 0] j := by decide +kernel
theorem rz_df2 : ∀ j, j < 6 → defaultValue (rz_fty 2 j) = vp_V [.null, .null, .int 0, .int 0, .int 0, .int 0] j := by decide +kernel
theorem rz_df3 : ∀ j, j < 1 → defaultValue (rz_fty 3 j) = vp_V [.null] j := by decide +kernel
theorem rz_df4 : ∀ j, j < 3 → defaultValue (rz_fty 4 j) = vp_V [.null, .null, .int 0] j := by decide +kernel
theorem rz_df5 : ∀ j, j < 2 → defaultValue (rz_fty 5 j) = vp_V [.null, .int 0] j := by decide +kernel
theorem rz_df6 : ∀ j, j < 7 → defaultValue (rz_fty 6 j) = vp_V [.null, .null, .null, .null, .int 0, .int 0, .int 0] j := by decide +kernel
theorem rz_df7 : ∀ j, j < 16 → defaultValue (rz_fty 7 j) = vp_V [.int 0, .int 0, .null, .null, .null, .null, .null, .null, .int 0, .int 0, .null, .null, .null, .int 0, .int 0, .int 0] j := by decide +kernel
theorem rk_w115 : (Jvm.Cond.code ⟨"RowImprover$Row", "<init>", "()V"⟩ prog_9_method_1_code (1 : Nat) (Option.none : Option Jvm.ClassFile.FieldType)) ∈ rz_tw := rz_use (List.mem_of_getElem? (i := 115) (by decide +kernel)) rfl
theorem rk_w116 : (Jvm.Cond.methodLink "RowImprover$Row" (3 : Nat) Lib.objectInit) ∈ rz_tw := rz_use (List.mem_of_getElem? (i := 116) (by decide +kernel)) rfl
theorem rk_w54 : (Jvm.Cond.instanceMethod Lib.objectInit) ∈ rz_tw := rz_use (List.mem_of_getElem? (i := 54) (by decide +kernel)) rfl
theorem rk_w55 : (Jvm.Cond.code Lib.objectInit ⟨#[0xb1]⟩ (1 : Nat) (Option.none : Option Jvm.ClassFile.FieldType)) ∈ rz_tw := rz_use (List.mem_of_getElem? (i := 55) (by decide +kernel)) rfl
theorem rk_w117 : (Jvm.Cond.fieldLink "RowImprover$Row" (9 : Nat) "RowImprover$Row" "codes" "[I") ∈ rz_tw := rz_use (List.mem_of_getElem? (i := 117) (by decide +kernel)) rfl
/-- a new RowImprover$Row -/
def rk_y5 : MethodName := ⟨"RowImprover$Row", "<init>", "()V"⟩
theorem rk_d5_0 : decode prog_9_method_1_code 0 = .ok (.aload_n 0, 1) := by decide +kernel
theorem rk_d5_1 : decode prog_9_method_1_code 1 = .ok (.invokespecial 3, 3) := by decide +kernel
theorem rk_d5_4 : decode prog_9_method_1_code 4 = .ok (.aload_n 0, 1) := by decide +kernel
theorem rk_d5_5 : decode prog_9_method_1_code 5 = .ok (.iconst 3, 1) := by decide +kernel
theorem rk_d5_6 : decode prog_9_method_1_code 6 = .ok (.newarray .int, 2) := by decide +kernel
theorem rk_d5_8 : decode prog_9_method_1_code 8 = .ok (.putfield 9, 3) := by decide +kernel
theorem rk_d5_11 : decode prog_9_method_1_code 11 = .ok (.return_, 1) := by decide +kernel
set_option maxHeartbeats 4000000 in
set_option maxRecDepth 100000 in
theorem k_5 (l : Launch) (D : va_G) (cI cJ : ClassId) (h0 sz : Nat) : Met l rk_y5 (Cond.code rk_y5 prog_9_method_1_code 1 none :: rz_tw) ({ frames := 1, cells := 1, slots := 3, locals := 12 }) (rz_prc D cI cJ h0 sz [(h0, .inr (5, [.null, .int 0]))]) (va_Qv (fun _ : Unit => True) (fun _ t => ∃ q1 : Nat, va_P D rz_cl [(h0, .inr (5, [.ref q1, .int 0])), (q1, .inl (cI, 3, .inl fun _ => 0))] t.heap ∧ va_D (va_A [(h0, .inr (5, [.null, .int 0]))] sz) [(h0, .inr (5, [.ref q1, .int 0])), (q1, .inl (cI, 3, .inl fun _ => 0))]) (va_A [(h0, .inr (5, [.null, .int 0]))] sz)) 1 3 (va_A [(h0, .inr (5, [.null, .int 0]))] sz) := by
  refine Met.ofW (cc := prog_9_method_1_code) (maxL := 1) (ret := none) (by decide) rfl ?_
  intro p e s m args below meth c s₁ B hml hv
  obtain ⟨rfl, hsz, hP, hK, hD0, hN⟩ := hv
  have hx := B.exec
  have hb := B.bytes
  have hr := B.returns
  have hts : ∀ w ∈ rz_tw, w.before ([.ref h0] : List Value).toArray s = true := fun w hw => atoms_spec (ws := Cond.code rk_y5 prog_9_method_1_code 1 none :: rz_tw) B.pre w (List.mem_cons_of_mem _ hw)
  have hown : s.vm.findClass "RowImprover$Row" = some m.cls := findClass_of_methodNamed B.named
  have hlocks := B.notSynchronized
  have hin : meth.name = "<init>" := (name_of_methodNamed B.named B.method).1
  subst hsz
  have hD := hD0.self (sz := s.heap.size)
  generalize hAe : va_A [(h0, .inr (5, [.null, .int 0]))] s.heap.size = A at hD ⊢
  have hA : ∀ q : Nat, s.heap.size ≤ q → A q := fun q h => by rw [← hAe]; exact Or.inr h
  have hS : va_S A s.heap s.heap [] := va_S.rf
  have hP : va_P D rz_cl [(h0, .inr (5, [.null, .int 0]))] s.heap := hP
  have hl := lv_entry ([.ref h0]) (n := 1) (Nat.le_of_ble_eq_true rfl)
  rw [lg_entry_eq]
  generalize (lg_sl ([.ref h0]) ++ List.replicate (1 - (lg_sl ([.ref h0])).length) Slot.unset).toArray = ls at hl ⊢
  have hl : lv_has ls 1 [(0, .ref h0)] := hl
  refine lv_aload_n hx hb rk_d5_0 rfl (lv_at hl 0 rfl) ?_
  refine W.objInit hx hb hown (hts _ rk_w116) (hts _ rk_w54) (hts _ rk_w55) rfl (by rw [hml]; exact hl.1) rfl rk_d5_1 (Nat.le_of_ble_eq_true rfl) (Nat.le_of_ble_eq_true rfl) ?_
  refine W.eq (g2 := F0 m 4 ls []) rfl ?_
  refine lv_aload_n hx hb rk_d5_4 rfl (lv_at hl 0 rfl) ?_
  refine lv_iconst (v := 3) hx hb rk_d5_5 (by decide) ?_
  refine rz_newi hx hb (hts _ rk_ai) hK hP hD hS hA (N' := 3) (by decide) (by decide) (by decide) (show 0 + 1 ≤ 1 by decide) (show 0 + 3 ≤ 3 by decide) rk_d5_6 (fun q1 H hP hD hS => ?_)
  have hP : va_P D rz_cl [(h0, .inr (5, [.null, .int 0])), (q1, .inl (cI, 3, .inl fun _ => 0))] H := hP
  have hD : va_D A [(h0, .inr (5, [.null, .int 0])), (q1, .inl (cI, 3, .inl fun _ => 0))] := hD
  refine W.widen (k := 1) (n := 3) (by omega) (by omega) ?_
  refine va_putF (D := D) (ci := 5) (v := .ref q1) (ty := .array .int) (C := "RowImprover$Row") (T := rz_F5) (N := 2) hx hb hts (rz_clw_of (ci := 5) rfl) (rz_fty 5) (rz_cty_of (ci := 5) rfl) (rz_cnm_of (ci := 5) rfl) hown hK hP hD hS 0 rfl rfl 0 (by decide) (hts _ rk_w117) (fun _ h9 => h9) rfl hin rfl (by decide +kernel) rfl rfl (Nat.le_of_ble_eq_true rfl) rk_d5_8 (fun H locs hP hD hS => ?_)
  have hP : va_P D rz_cl [(h0, .inr (5, [.ref q1, .int 0])), (q1, .inl (cI, 3, .inl fun _ => 0))] H := hP
  have hD : va_D A [(h0, .inr (5, [.ref q1, .int 0])), (q1, .inl (cI, 3, .inl fun _ => 0))] := hD
  exact W.vret hx hb hr (fun t ht hW => ⟨⟨(), rfl, trivial, q1, by rw [ht]; exact hP, hD⟩, hS.F ht⟩) hS.2.2 rk_d5_11
theorem rk_w99 : (Jvm.Cond.code ⟨"RowImprover$Liveness", "<init>", "()V"⟩ prog_4_method_1_code (1 : Nat) (Option.none : Option Jvm.ClassFile.FieldType)) ∈ rz_tw := rz_use (List.mem_of_getElem? (i := 99) (by decide +kernel)) rfl
theorem rk_w100 : (Jvm.Cond.methodLink "RowImprover$Liveness" (3 : Nat) Lib.objectInit) ∈ rz_tw := rz_use (List.mem_of_getElem? (i := 100) (by decide +kernel)) rfl
theorem rk_w101 : (Jvm.Cond.fieldLink "RowImprover$Liveness" (9 : Nat) "RowImprover$Liveness" "found" "[I") ∈ rz_tw := rz_use (List.mem_of_getElem? (i := 101) (by decide +kernel)) rfl
/-- a new RowImprover$Liveness -/
def rk_y3 : MethodName := ⟨"RowImprover$Liveness", "<init>", "()V"⟩
theorem rk_d3_0 : decode prog_4_method_1_code 0 = .ok (.aload_n 0, 1) := by decide +kernel
theorem rk_d3_1 : decode prog_4_method_1_code 1 = .ok (.invokespecial 3, 3) := by decide +kernel
theorem rk_d3_4 : decode prog_4_method_1_code 4 = .ok (.aload_n 0, 1) := by decide +kernel
theorem rk_d3_5 : decode prog_4_method_1_code 5 = .ok (.bipush 25, 2) := by decide +kernel
theorem rk_d3_7 : decode prog_4_method_1_code 7 = .ok (.newarray .int, 2) := by decide +kernel
theorem rk_d3_9 : decode prog_4_method_1_code 9 = .ok (.putfield 9, 3) := by decide +kernel
theorem rk_d3_12 : decode prog_4_method_1_code 12 = .ok (.return_, 1) := by decide +kernel
set_option maxHeartbeats 4000000 in
set_option maxRecDepth 100000 in
theorem k_3 (l : Launch) (D : va_G) (cI cJ : ClassId) (h0 sz : Nat) : Met l rk_y3 (Cond.code rk_y3 prog_4_method_1_code 1 none :: rz_tw) ({ frames := 1, cells := 1, slots := 25, locals := 12 }) (rz_prc D cI cJ h0 sz [(h0, .inr (3, [.null]))]) (va_Qv (fun _ : Unit => True) (fun _ t => ∃ q1 : Nat, va_P D rz_cl [(h0, .inr (3, [.ref q1])), (q1, .inl (cI, 25, .inl fun _ => 0))] t.heap ∧ va_D (va_A [(h0, .inr (3, [.null]))] sz) [(h0, .inr (3, [.ref q1])), (q1, .inl (cI, 25, .inl fun _ => 0))]) (va_A [(h0, .inr (3, [.null]))] sz)) 1 25 (va_A [(h0, .inr (3, [.null]))] sz) := by
  refine Met.ofW (cc := prog_4_method_1_code) (maxL := 1) (ret := none) (by decide) rfl ?_
  intro p e s m args below meth c s₁ B hml hv
  obtain ⟨rfl, hsz, hP, hK, hD0, hN⟩ := hv
  have hx := B.exec
  have hb := B.bytes
  have hr := B.returns
  have hts : ∀ w ∈ rz_tw, w.before ([.ref h0] : List Value).toArray s = true := fun w hw => atoms_spec (ws := Cond.code rk_y3 prog_4_method_1_code 1 none :: rz_tw) B.pre w (List.mem_cons_of_mem _ hw)
  have hown : s.vm.findClass "RowImprover$Liveness" = some m.cls := findClass_of_methodNamed B.named
  have hlocks := B.notSynchronized
  have hin : meth.name = "<init>" := (name_of_methodNamed B.named B.method).1
  subst hsz
  have hD := hD0.self (sz := s.heap.size)
  generalize hAe : va_A [(h0, .inr (3, [.null]))] s.heap.size = A at hD ⊢
  have hA : ∀ q : Nat, s.heap.size ≤ q → A q := fun q h => by rw [← hAe]; exact Or.inr h
  have hS : va_S A s.heap s.heap [] := va_S.rf
  have hP : va_P D rz_cl [(h0, .inr (3, [.null]))] s.heap := hP
  have hl := lv_entry ([.ref h0]) (n := 1) (Nat.le_of_ble_eq_true rfl)
  rw [lg_entry_eq]
  generalize (lg_sl ([.ref h0]) ++ List.replicate (1 - (lg_sl ([.ref h0])).length) Slot.unset).toArray = ls at hl ⊢
  have hl : lv_has ls 1 [(0, .ref h0)] := hl
  refine lv_aload_n hx hb rk_d3_0 rfl (lv_at hl 0 rfl) ?_
  refine W.objInit hx hb hown (hts _ rk_w100) (hts _ rk_w54) (hts _ rk_w55) rfl (by rw [hml]; exact hl.1) rfl rk_d3_1 (Nat.le_of_ble_eq_true rfl) (Nat.le_of_ble_eq_true rfl) ?_
  refine W.eq (g2 := F0 m 4 ls []) rfl ?_
  refine lv_aload_n hx hb rk_d3_4 rfl (lv_at hl 0 rfl) ?_
  refine lv_bipush (v := 25) hx hb rk_d3_5 (by decide) ?_
  refine rz_newi hx hb (hts _ rk_ai) hK hP hD hS hA (N' := 25) (by decide) (by decide) (by decide) (show 0 + 1 ≤ 1 by decide) (show 0 + 25 ≤ 25 by decide) rk_d3_7 (fun q1 H hP hD hS => ?_)
  have hP : va_P D rz_cl [(h0, .inr (3, [.null])), (q1, .inl (cI, 25, .inl fun _ => 0))] H := hP
  have hD : va_D A [(h0, .inr (3, [.null])), (q1, .inl (cI, 25, .inl fun _ => 0))] := hD
  refine W.widen (k := 1) (n := 25) (by omega) (by omega) ?_
  refine va_putF (D := D) (ci := 3) (v := .ref q1) (ty := .array .int) (C := "RowImprover$Liveness") (T := rz_F3) (N := 1) hx hb hts (rz_clw_of (ci := 3) rfl) (rz_fty 3) (rz_cty_of (ci := 3) rfl) (rz_cnm_of (ci := 3) rfl) hown hK hP hD hS 0 rfl rfl 0 (by decide) (hts _ rk_w101) (fun _ h9 => h9) rfl hin rfl (by decide +kernel) rfl rfl (Nat.le_of_ble_eq_true rfl) rk_d3_9 (fun H locs hP hD hS => ?_)
  have hP : va_P D rz_cl [(h0, .inr (3, [.ref q1])), (q1, .inl (cI, 25, .inl fun _ => 0))] H := hP
  have hD : va_D A [(h0, .inr (3, [.ref q1])), (q1, .inl (cI, 25, .inl fun _ => 0))] := hD
  exact W.vret hx hb hr (fun t ht hW => ⟨⟨(), rfl, trivial, q1, by rw [ht]; exact hP, hD⟩, hS.F ht⟩) hS.2.2 rk_d3_12
theorem rk_w60 : (Jvm.Cond.code ⟨"RowImprover$Program", "<init>", "()V"⟩ prog_6_method_1_code (1 : Nat) (Option.none : Option Jvm.ClassFile.FieldType)) ∈ rz_tw := rz_use (List.mem_of_getElem? (i := 60) (by decide +kernel)) rfl
theorem rk_w61 : (Jvm.Cond.methodLink "RowImprover$Program" (3 : Nat) Lib.objectInit) ∈ rz_tw := rz_use (List.mem_of_getElem? (i := 61) (by decide +kernel)) rfl
theorem rk_w62 : (Jvm.Cond.fieldLink "RowImprover$Program" (9 : Nat) "RowImprover$Program" "codes" "[I") ∈ rz_tw := rz_use (List.mem_of_getElem? (i := 62) (by decide +kernel)) rfl
/-- a new RowImprover$Program -/
def rk_y1 : MethodName := ⟨"RowImprover$Program", "<init>", "()V"⟩
theorem rk_d1_0 : decode prog_6_method_1_code 0 = .ok (.aload_n 0, 1) := by decide +kernel
theorem rk_d1_1 : decode prog_6_method_1_code 1 = .ok (.invokespecial 3, 3) := by decide +kernel
theorem rk_d1_4 : decode prog_6_method_1_code 4 = .ok (.aload_n 0, 1) := by decide +kernel
theorem rk_d1_5 : decode prog_6_method_1_code 5 = .ok (.bipush 24, 2) := by decide +kernel
theorem rk_d1_7 : decode prog_6_method_1_code 7 = .ok (.newarray .int, 2) := by decide +kernel
theorem rk_d1_9 : decode prog_6_method_1_code 9 = .ok (.putfield 9, 3) := by decide +kernel
theorem rk_d1_12 : decode prog_6_method_1_code 12 = .ok (.return_, 1) := by decide +kernel
set_option maxHeartbeats 4000000 in
set_option maxRecDepth 100000 in
theorem k_1 (l : Launch) (D : va_G) (cI cJ : ClassId) (h0 sz : Nat) : Met l rk_y1 (Cond.code rk_y1 prog_6_method_1_code 1 none :: rz_tw) ({ frames := 1, cells := 1, slots := 24, locals := 12 }) (rz_prc D cI cJ h0 sz [(h0, .inr (1, [.null, .int 0]))]) (va_Qv (fun _ : Unit => True) (fun _ t => ∃ q1 : Nat, va_P D rz_cl [(h0, .inr (1, [.ref q1, .int 0])), (q1, .inl (cI, 24, .inl fun _ => 0))] t.heap ∧ va_D (va_A [(h0, .inr (1, [.null, .int 0]))] sz) [(h0, .inr (1, [.ref q1, .int 0])), (q1, .inl (cI, 24, .inl fun _ => 0))]) (va_A [(h0, .inr (1, [.null, .int 0]))] sz)) 1 24 (va_A [(h0, .inr (1, [.null, .int 0]))] sz) := by
  refine Met.ofW (cc := prog_6_method_1_code) (maxL := 1) (ret := none) (by decide) rfl ?_
  intro p e s m args below meth c s₁ B hml hv
  obtain ⟨rfl, hsz, hP, hK, hD0, hN⟩ := hv
  have hx := B.exec
  have hb := B.bytes
  have hr := B.returns
  have hts : ∀ w ∈ rz_tw, w.before ([.ref h0] : List Value).toArray s = true := fun w hw => atoms_spec (ws := Cond.code rk_y1 prog_6_method_1_code 1 none :: rz_tw) B.pre w (List.mem_cons_of_mem _ hw)
  have hown : s.vm.findClass "RowImprover$Program" = some m.cls := findClass_of_methodNamed B.named
  have hlocks := B.notSynchronized
  have hin : meth.name = "<init>" := (name_of_methodNamed B.named B.method).1
  subst hsz
  have hD := hD0.self (sz := s.heap.size)
  generalize hAe : va_A [(h0, .inr (1, [.null, .int 0]))] s.heap.size = A at hD ⊢
  have hA : ∀ q : Nat, s.heap.size ≤ q → A q := fun q h => by rw [← hAe]; exact Or.inr h
  have hS : va_S A s.heap s.heap [] := va_S.rf
  have hP : va_P D rz_cl [(h0, .inr (1, [.null, .int 0]))] s.heap := hP
  have hl := lv_entry ([.ref h0]) (n := 1) (Nat.le_of_ble_eq_true rfl)
  rw [lg_entry_eq]
  generalize (lg_sl ([.ref h0]) ++ List.replicate (1 - (lg_sl ([.ref h0])).length) Slot.unset).toArray = ls at hl ⊢
  have hl : lv_has ls 1 [(0, .ref h0)] := hl
  refine lv_aload_n hx hb rk_d1_0 rfl (lv_at hl 0 rfl) ?_
  refine W.objInit hx hb hown (hts _ rk_w61) (hts _ rk_w54) (hts _ rk_w55) rfl (by rw [hml]; exact hl.1) rfl rk_d1_1 (Nat.le_of_ble_eq_true rfl) (Nat.le_of_ble_eq_true rfl) ?_
  refine W.eq (g2 := F0 m 4 ls []) rfl ?_
  refine lv_aload_n hx hb rk_d1_4 rfl (lv_at hl 0 rfl) ?_
  refine lv_bipush (v := 24) hx hb rk_d1_5 (by decide) ?_
  refine rz_newi hx hb (hts _ rk_ai) hK hP hD hS hA (N' := 24) (by decide) (by decide) (by decide) (show 0 + 1 ≤ 1 by decide) (show 0 + 24 ≤ 24 by decide) rk_d1_7 (fun q1 H hP hD hS => ?_)
  have hP : va_P D rz_cl [(h0, .inr (1, [.null, .int 0])), (q1, .inl (cI, 24, .inl fun _ => 0))] H := hP
  have hD : va_D A [(h0, .inr (1, [.null, .int 0])), (q1, .inl (cI, 24, .inl fun _ => 0))] := hD
  refine W.widen (k := 1) (n := 24) (by omega) (by omega) ?_
  refine va_putF (D := D) (ci := 1) (v := .ref q1) (ty := .array .int) (C := "RowImprover$Program") (T := rz_F1) (N := 2) hx hb hts (rz_clw_of (ci := 1) rfl) (rz_fty 1) (rz_cty_of (ci := 1) rfl) (rz_cnm_of (ci := 1) rfl) hown hK hP hD hS 0 rfl rfl 0 (by decide) (hts _ rk_w62) (fun _ h9 => h9) rfl hin rfl (by decide +kernel) rfl rfl (Nat.le_of_ble_eq_true rfl) rk_d1_9 (fun H locs hP hD hS => ?_)
  have hP : va_P D rz_cl [(h0, .inr (1, [.ref q1, .int 0])), (q1, .inl (cI, 24, .inl fun _ => 0))] H := hP
  have hD : va_D A [(h0, .inr (1, [.ref q1, .int 0])), (q1, .inl (cI, 24, .inl fun _ => 0))] := hD
  exact W.vret hx hb hr (fun t ht hW => ⟨⟨(), rfl, trivial, q1, by rw [ht]; exact hP, hD⟩, hS.F ht⟩) hS.2.2 rk_d1_12
theorem rk_w74 : (Jvm.Cond.code ⟨"RowImprover$Machine", "<init>", "()V"⟩ prog_5_method_1_code (1 : Nat) (Option.none : Option Jvm.ClassFile.FieldType)) ∈ rz_tw := rz_use (List.mem_of_getElem? (i := 74) (by decide +kernel)) rfl
theorem rk_w75 : (Jvm.Cond.methodLink "RowImprover$Machine" (3 : Nat) Lib.objectInit) ∈ rz_tw := rz_use (List.mem_of_getElem? (i := 75) (by decide +kernel)) rfl
theorem rk_w76 : (Jvm.Cond.fieldLink "RowImprover$Machine" (9 : Nat) "RowImprover$Machine" "startCells" "[I") ∈ rz_tw := rz_use (List.mem_of_getElem? (i := 76) (by decide +kernel)) rfl
theorem rk_w77 : (Jvm.Cond.fieldLink "RowImprover$Machine" (15 : Nat) "RowImprover$Machine" "cells" "[I") ∈ rz_tw := rz_use (List.mem_of_getElem? (i := 77) (by decide +kernel)) rfl
/-- a new RowImprover$Machine -/
def rk_y2 : MethodName := ⟨"RowImprover$Machine", "<init>", "()V"⟩
theorem rk_d2_0 : decode prog_5_method_1_code 0 = .ok (.aload_n 0, 1) := by decide +kernel
theorem rk_d2_1 : decode prog_5_method_1_code 1 = .ok (.invokespecial 3, 3) := by decide +kernel
theorem rk_d2_4 : decode prog_5_method_1_code 4 = .ok (.aload_n 0, 1) := by decide +kernel
theorem rk_d2_5 : decode prog_5_method_1_code 5 = .ok (.bipush 8, 2) := by decide +kernel
theorem rk_d2_7 : decode prog_5_method_1_code 7 = .ok (.newarray .int, 2) := by decide +kernel
theorem rk_d2_9 : decode prog_5_method_1_code 9 = .ok (.putfield 9, 3) := by decide +kernel
theorem rk_d2_12 : decode prog_5_method_1_code 12 = .ok (.aload_n 0, 1) := by decide +kernel
theorem rk_d2_13 : decode prog_5_method_1_code 13 = .ok (.bipush 8, 2) := by decide +kernel
theorem rk_d2_15 : decode prog_5_method_1_code 15 = .ok (.newarray .int, 2) := by decide +kernel
theorem rk_d2_17 : decode prog_5_method_1_code 17 = .ok (.putfield 15, 3) := by decide +kernel
theorem rk_d2_20 : decode prog_5_method_1_code 20 = .ok (.return_, 1) := by decide +kernel
set_option maxHeartbeats 4000000 in
set_option maxRecDepth 100000 in
theorem k_2 (l : Launch) (D : va_G) (cI cJ : ClassId) (h0 sz : Nat) : Met l rk_y2 (Cond.code rk_y2 prog_5_method_1_code 1 none :: rz_tw) ({ frames := 1, cells := 2, slots := 16, locals := 12 }) (rz_prc D cI cJ h0 sz [(h0, .inr (2, [.null, .null, .int 0, .int 0, .int 0, .int 0]))]) (va_Qv (fun _ : Unit => True) (fun _ t => ∃ q1 q2 : Nat, va_P D rz_cl [(h0, .inr (2, [.ref q1, .ref q2, .int 0, .int 0, .int 0, .int 0])), (q1, .inl (cI, 8, .inl fun _ => 0)), (q2, .inl (cI, 8, .inl fun _ => 0))] t.heap ∧ va_D (va_A [(h0, .inr (2, [.null, .null, .int 0, .int 0, .int 0, .int 0]))] sz) [(h0, .inr (2, [.ref q1, .ref q2, .int 0, .int 0, .int 0, .int 0])), (q1, .inl (cI, 8, .inl fun _ => 0)), (q2, .inl (cI, 8, .inl fun _ => 0))]) (va_A [(h0, .inr (2, [.null, .null, .int 0, .int 0, .int 0, .int 0]))] sz)) 2 16 (va_A [(h0, .inr (2, [.null, .null, .int 0, .int 0, .int 0, .int 0]))] sz) := by
  refine Met.ofW (cc := prog_5_method_1_code) (maxL := 1) (ret := none) (by decide) rfl ?_
  intro p e s m args below meth c s₁ B hml hv
  obtain ⟨rfl, hsz, hP, hK, hD0, hN⟩ := hv
  have hx := B.exec
  have hb := B.bytes
  have hr := B.returns
  have hts : ∀ w ∈ rz_tw, w.before ([.ref h0] : List Value).toArray s = true := fun w hw => atoms_spec (ws := Cond.code rk_y2 prog_5_method_1_code 1 none :: rz_tw) B.pre w (List.mem_cons_of_mem _ hw)
  have hown : s.vm.findClass "RowImprover$Machine" = some m.cls := findClass_of_methodNamed B.named
  have hlocks := B.notSynchronized
  have hin : meth.name = "<init>" := (name_of_methodNamed B.named B.method).1
  subst hsz
  have hD := hD0.self (sz := s.heap.size)
  generalize hAe : va_A [(h0, .inr (2, [.null, .null, .int 0, .int 0, .int 0, .int 0]))] s.heap.size = A at hD ⊢
  have hA : ∀ q : Nat, s.heap.size ≤ q → A q := fun q h => by rw [← hAe]; exact Or.inr h
  have hS : va_S A s.heap s.heap [] := va_S.rf
  have hP : va_P D rz_cl [(h0, .inr (2, [.null, .null, .int 0, .int 0, .int 0, .int 0]))] s.heap := hP
  have hl := lv_entry ([.ref h0]) (n := 1) (Nat.le_of_ble_eq_true rfl)
  rw [lg_entry_eq]
  generalize (lg_sl ([.ref h0]) ++ List.replicate (1 - (lg_sl ([.ref h0])).length) Slot.unset).toArray = ls at hl ⊢
  have hl : lv_has ls 1 [(0, .ref h0)] := hl
  refine lv_aload_n hx hb rk_d2_0 rfl (lv_at hl 0 rfl) ?_
  refine W.objInit hx hb hown (hts _ rk_w75) (hts _ rk_w54) (hts _ rk_w55) rfl (by rw [hml]; exact hl.1) rfl rk_d2_1 (Nat.le_of_ble_eq_true rfl) (Nat.le_of_ble_eq_true rfl) ?_
  refine W.eq (g2 := F0 m 4 ls []) rfl ?_
  refine lv_aload_n hx hb rk_d2_4 rfl (lv_at hl 0 rfl) ?_
  refine lv_bipush (v := 8) hx hb rk_d2_5 (by decide) ?_
  refine rz_newi hx hb (hts _ rk_ai) hK hP hD hS hA (N' := 8) (by decide) (by decide) (by decide) (show 0 + 1 ≤ 2 by decide) (show 0 + 8 ≤ 16 by decide) rk_d2_7 (fun q1 H hP hD hS => ?_)
  have hP : va_P D rz_cl [(h0, .inr (2, [.null, .null, .int 0, .int 0, .int 0, .int 0])), (q1, .inl (cI, 8, .inl fun _ => 0))] H := hP
  have hD : va_D A [(h0, .inr (2, [.null, .null, .int 0, .int 0, .int 0, .int 0])), (q1, .inl (cI, 8, .inl fun _ => 0))] := hD
  refine W.widen (k := 1) (n := 8) (by omega) (by omega) ?_
  refine va_putF (D := D) (ci := 2) (v := .ref q1) (ty := .array .int) (C := "RowImprover$Machine") (T := rz_F2) (N := 6) hx hb hts (rz_clw_of (ci := 2) rfl) (rz_fty 2) (rz_cty_of (ci := 2) rfl) (rz_cnm_of (ci := 2) rfl) hown hK hP hD hS 0 rfl rfl 0 (by decide) (hts _ rk_w76) (fun _ h9 => h9) rfl hin rfl (by decide +kernel) rfl rfl (Nat.le_of_ble_eq_true rfl) rk_d2_9 (fun H locs hP hD hS => ?_)
  have hP : va_P D rz_cl [(h0, .inr (2, [.ref q1, .null, .int 0, .int 0, .int 0, .int 0])), (q1, .inl (cI, 8, .inl fun _ => 0))] H := hP
  have hD : va_D A [(h0, .inr (2, [.ref q1, .null, .int 0, .int 0, .int 0, .int 0])), (q1, .inl (cI, 8, .inl fun _ => 0))] := hD
  refine lv_aload_n hx hb rk_d2_12 rfl (lv_at hl 0 rfl) ?_
  refine lv_bipush (v := 8) hx hb rk_d2_13 (by decide) ?_
  refine rz_newi hx hb (hts _ rk_ai) hK hP hD hS hA (N' := 8) (by decide) (by decide) (by decide) (show 1 + 1 ≤ 2 by decide) (show 8 + 8 ≤ 16 by decide) rk_d2_15 (fun q2 H hP hD hS => ?_)
  have hP : va_P D rz_cl [(h0, .inr (2, [.ref q1, .null, .int 0, .int 0, .int 0, .int 0])), (q1, .inl (cI, 8, .inl fun _ => 0)), (q2, .inl (cI, 8, .inl fun _ => 0))] H := hP
  have hD : va_D A [(h0, .inr (2, [.ref q1, .null, .int 0, .int 0, .int 0, .int 0])), (q1, .inl (cI, 8, .inl fun _ => 0)), (q2, .inl (cI, 8, .inl fun _ => 0))] := hD
  refine W.widen (k := 2) (n := 16) (by omega) (by omega) ?_
  refine va_putF (D := D) (ci := 2) (v := .ref q2) (ty := .array .int) (C := "RowImprover$Machine") (T := rz_F2) (N := 6) hx hb hts (rz_clw_of (ci := 2) rfl) (rz_fty 2) (rz_cty_of (ci := 2) rfl) (rz_cnm_of (ci := 2) rfl) hown hK hP hD hS 0 rfl rfl 1 (by decide) (hts _ rk_w77) (fun _ h9 => h9) rfl hin rfl (by decide +kernel) rfl rfl (Nat.le_of_ble_eq_true rfl) rk_d2_17 (fun H locs hP hD hS => ?_)
  have hP : va_P D rz_cl [(h0, .inr (2, [.ref q1, .ref q2, .int 0, .int 0, .int 0, .int 0])), (q1, .inl (cI, 8, .inl fun _ => 0)), (q2, .inl (cI, 8, .inl fun _ => 0))] H := hP
  have hD : va_D A [(h0, .inr (2, [.ref q1, .ref q2, .int 0, .int 0, .int 0, .int 0])), (q1, .inl (cI, 8, .inl fun _ => 0)), (q2, .inl (cI, 8, .inl fun _ => 0))] := hD
  exact W.vret hx hb hr (fun t ht hW => ⟨⟨(), rfl, trivial, q1, q2, by rw [ht]; exact hP, hD⟩, hS.F ht⟩) hS.2.2 rk_d2_20
theorem rk_w629 : (Jvm.Cond.code ⟨"RowImproverModel", "<init>", "()V"⟩ prog_11_method_1_code (1 : Nat) (Option.none : Option Jvm.ClassFile.FieldType)) ∈ rz_tw := rz_use (List.mem_of_getElem? (i := 629) (by decide +kernel)) rfl
theorem rk_w630 : (Jvm.Cond.methodLink "RowImproverModel" (1 : Nat) Lib.objectInit) ∈ rz_tw := rz_use (List.mem_of_getElem? (i := 630) (by decide +kernel)) rfl
theorem rk_w633 : (Jvm.Cond.fieldLink "RowImproverModel" (7 : Nat) "RowImproverModel" "operation" "[I") ∈ rz_tw := rz_use (List.mem_of_getElem? (i := 633) (by decide +kernel)) rfl
theorem rk_w634 : (Jvm.Cond.fieldLink "RowImproverModel" (13 : Nat) "RowImproverModel" "to" "[I") ∈ rz_tw := rz_use (List.mem_of_getElem? (i := 634) (by decide +kernel)) rfl
theorem rk_w635 : (Jvm.Cond.fieldLink "RowImproverModel" (16 : Nat) "RowImproverModel" "from" "[I") ∈ rz_tw := rz_use (List.mem_of_getElem? (i := 635) (by decide +kernel)) rfl
theorem rk_w636 : (Jvm.Cond.fieldLink "RowImproverModel" (19 : Nat) "RowImproverModel" "with" "[I") ∈ rz_tw := rz_use (List.mem_of_getElem? (i := 636) (by decide +kernel)) rfl
theorem rk_w637 : (Jvm.Cond.fieldLink "RowImproverModel" (22 : Nat) "RowImproverModel" "starts" "[I") ∈ rz_tw := rz_use (List.mem_of_getElem? (i := 637) (by decide +kernel)) rfl
theorem rk_w638 : (Jvm.Cond.fieldLink "RowImproverModel" (25 : Nat) "RowImproverModel" "cells" "[I") ∈ rz_tw := rz_use (List.mem_of_getElem? (i := 638) (by decide +kernel)) rfl
theorem rk_w641 : (Jvm.Cond.fieldLink "RowImproverModel" (28 : Nat) "RowImproverModel" "lives" "[I") ∈ rz_tw := rz_use (List.mem_of_getElem? (i := 641) (by decide +kernel)) rfl
theorem rk_w642 : (Jvm.Cond.fieldLink "RowImproverModel" (31 : Nat) "RowImproverModel" "state" "[I") ∈ rz_tw := rz_use (List.mem_of_getElem? (i := 642) (by decide +kernel)) rfl
theorem rk_w643 : (Jvm.Cond.fieldLink "RowImproverModel" (34 : Nat) "RowImproverModel" "first" "[I") ∈ rz_tw := rz_use (List.mem_of_getElem? (i := 643) (by decide +kernel)) rfl
/-- a new RowImproverModel -/
def rk_y7 : MethodName := ⟨"RowImproverModel", "<init>", "()V"⟩
theorem rk_d7_0 : decode prog_11_method_1_code 0 = .ok (.aload_n 0, 1) := by decide +kernel
theorem rk_d7_1 : decode prog_11_method_1_code 1 = .ok (.invokespecial 1, 3) := by decide +kernel
theorem rk_d7_4 : decode prog_11_method_1_code 4 = .ok (.aload_n 0, 1) := by decide +kernel
theorem rk_d7_5 : decode prog_11_method_1_code 5 = .ok (.bipush 25, 2) := by decide +kernel
theorem rk_d7_7 : decode prog_11_method_1_code 7 = .ok (.newarray .int, 2) := by decide +kernel
theorem rk_d7_9 : decode prog_11_method_1_code 9 = .ok (.putfield 7, 3) := by decide +kernel
theorem rk_d7_12 : decode prog_11_method_1_code 12 = .ok (.aload_n 0, 1) := by decide +kernel
theorem rk_d7_13 : decode prog_11_method_1_code 13 = .ok (.bipush 25, 2) := by decide +kernel
theorem rk_d7_15 : decode prog_11_method_1_code 15 = .ok (.newarray .int, 2) := by decide +kernel
theorem rk_d7_17 : decode prog_11_method_1_code 17 = .ok (.putfield 13, 3) := by decide +kernel
theorem rk_d7_20 : decode prog_11_method_1_code 20 = .ok (.aload_n 0, 1) := by decide +kernel
theorem rk_d7_21 : decode prog_11_method_1_code 21 = .ok (.bipush 25, 2) := by decide +kernel
theorem rk_d7_23 : decode prog_11_method_1_code 23 = .ok (.newarray .int, 2) := by decide +kernel
theorem rk_d7_25 : decode prog_11_method_1_code 25 = .ok (.putfield 16, 3) := by decide +kernel
theorem rk_d7_28 : decode prog_11_method_1_code 28 = .ok (.aload_n 0, 1) := by decide +kernel
theorem rk_d7_29 : decode prog_11_method_1_code 29 = .ok (.bipush 25, 2) := by decide +kernel
theorem rk_d7_31 : decode prog_11_method_1_code 31 = .ok (.newarray .int, 2) := by decide +kernel
theorem rk_d7_33 : decode prog_11_method_1_code 33 = .ok (.putfield 19, 3) := by decide +kernel
theorem rk_d7_36 : decode prog_11_method_1_code 36 = .ok (.aload_n 0, 1) := by decide +kernel
theorem rk_d7_37 : decode prog_11_method_1_code 37 = .ok (.bipush 12, 2) := by decide +kernel
theorem rk_d7_39 : decode prog_11_method_1_code 39 = .ok (.newarray .int, 2) := by decide +kernel
theorem rk_d7_41 : decode prog_11_method_1_code 41 = .ok (.putfield 22, 3) := by decide +kernel
theorem rk_d7_44 : decode prog_11_method_1_code 44 = .ok (.aload_n 0, 1) := by decide +kernel
theorem rk_d7_45 : decode prog_11_method_1_code 45 = .ok (.bipush 12, 2) := by decide +kernel
theorem rk_d7_47 : decode prog_11_method_1_code 47 = .ok (.newarray .int, 2) := by decide +kernel
theorem rk_d7_49 : decode prog_11_method_1_code 49 = .ok (.putfield 25, 3) := by decide +kernel
theorem rk_d7_52 : decode prog_11_method_1_code 52 = .ok (.aload_n 0, 1) := by decide +kernel
theorem rk_d7_53 : decode prog_11_method_1_code 53 = .ok (.bipush 25, 2) := by decide +kernel
theorem rk_d7_55 : decode prog_11_method_1_code 55 = .ok (.newarray .int, 2) := by decide +kernel
theorem rk_d7_57 : decode prog_11_method_1_code 57 = .ok (.putfield 28, 3) := by decide +kernel
theorem rk_d7_60 : decode prog_11_method_1_code 60 = .ok (.aload_n 0, 1) := by decide +kernel
theorem rk_d7_61 : decode prog_11_method_1_code 61 = .ok (.iconst 4, 1) := by decide +kernel
theorem rk_d7_62 : decode prog_11_method_1_code 62 = .ok (.newarray .int, 2) := by decide +kernel
theorem rk_d7_64 : decode prog_11_method_1_code 64 = .ok (.putfield 31, 3) := by decide +kernel
theorem rk_d7_67 : decode prog_11_method_1_code 67 = .ok (.aload_n 0, 1) := by decide +kernel
theorem rk_d7_68 : decode prog_11_method_1_code 68 = .ok (.iconst 4, 1) := by decide +kernel
theorem rk_d7_69 : decode prog_11_method_1_code 69 = .ok (.newarray .int, 2) := by decide +kernel
theorem rk_d7_71 : decode prog_11_method_1_code 71 = .ok (.putfield 34, 3) := by decide +kernel
theorem rk_d7_74 : decode prog_11_method_1_code 74 = .ok (.return_, 1) := by decide +kernel
set_option maxHeartbeats 4000000 in
set_option maxRecDepth 100000 in
theorem k_7 (l : Launch) (D : va_G) (cI cJ : ClassId) (h0 sz : Nat) : Met l rk_y7 (Cond.code rk_y7 prog_11_method_1_code 1 none :: rz_tw) ({ frames := 1, cells := 9, slots := 157, locals := 12 }) (rz_prc D cI cJ h0 sz [(h0, .inr (7, [.int 0, .int 0, .null, .null, .null, .null, .null, .null, .int 0, .int 0, .null, .null, .null, .int 0, .int 0, .int 0]))]) (va_Qv (fun _ : Unit => True) (fun _ t => ∃ q1 q2 q3 q4 q5 q6 q7 q8 q9 : Nat, va_P D rz_cl [(h0, .inr (7, [.int 0, .int 0, .ref q1, .ref q2, .ref q3, .ref q4, .ref q5, .ref q6, .int 0, .int 0, .ref q7, .ref q8, .ref q9, .int 0, .int 0, .int 0])), (q1, .inl (cI, 25, .inl fun _ => 0)), (q2, .inl (cI, 25, .inl fun _ => 0)), (q3, .inl (cI, 25, .inl fun _ => 0)), (q4, .inl (cI, 25, .inl fun _ => 0)), (q5, .inl (cI, 12, .inl fun _ => 0)), (q6, .inl (cI, 12, .inl fun _ => 0)), (q7, .inl (cI, 25, .inl fun _ => 0)), (q8, .inl (cI, 4, .inl fun _ => 0)), (q9, .inl (cI, 4, .inl fun _ => 0))] t.heap ∧ va_D (va_A [(h0, .inr (7, [.int 0, .int 0, .null, .null, .null, .null, .null, .null, .int 0, .int 0, .null, .null, .null, .int 0, .int 0, .int 0]))] sz) [(h0, .inr (7, [.int 0, .int 0, .ref q1, .ref q2, .ref q3, .ref q4, .ref q5, .ref q6, .int 0, .int 0, .ref q7, .ref q8, .ref q9, .int 0, .int 0, .int 0])), (q1, .inl (cI, 25, .inl fun _ => 0)), (q2, .inl (cI, 25, .inl fun _ => 0)), (q3, .inl (cI, 25, .inl fun _ => 0)), (q4, .inl (cI, 25, .inl fun _ => 0)), (q5, .inl (cI, 12, .inl fun _ => 0)), (q6, .inl (cI, 12, .inl fun _ => 0)), (q7, .inl (cI, 25, .inl fun _ => 0)), (q8, .inl (cI, 4, .inl fun _ => 0)), (q9, .inl (cI, 4, .inl fun _ => 0))]) (va_A [(h0, .inr (7, [.int 0, .int 0, .null, .null, .null, .null, .null, .null, .int 0, .int 0, .null, .null, .null, .int 0, .int 0, .int 0]))] sz)) 9 157 (va_A [(h0, .inr (7, [.int 0, .int 0, .null, .null, .null, .null, .null, .null, .int 0, .int 0, .null, .null, .null, .int 0, .int 0, .int 0]))] sz) := by
  refine Met.ofW (cc := prog_11_method_1_code) (maxL := 1) (ret := none) (by decide) rfl ?_
  intro p e s m args below meth c s₁ B hml hv
  obtain ⟨rfl, hsz, hP, hK, hD0, hN⟩ := hv
  have hx := B.exec
  have hb := B.bytes
  have hr := B.returns
  have hts : ∀ w ∈ rz_tw, w.before ([.ref h0] : List Value).toArray s = true := fun w hw => atoms_spec (ws := Cond.code rk_y7 prog_11_method_1_code 1 none :: rz_tw) B.pre w (List.mem_cons_of_mem _ hw)
  have hown : s.vm.findClass "RowImproverModel" = some m.cls := findClass_of_methodNamed B.named
  have hlocks := B.notSynchronized
  have hin : meth.name = "<init>" := (name_of_methodNamed B.named B.method).1
  subst hsz
  have hD := hD0.self (sz := s.heap.size)
  generalize hAe : va_A [(h0, .inr (7, [.int 0, .int 0, .null, .null, .null, .null, .null, .null, .int 0, .int 0, .null, .null, .null, .int 0, .int 0, .int 0]))] s.heap.size = A at hD ⊢
  have hA : ∀ q : Nat, s.heap.size ≤ q → A q := fun q h => by rw [← hAe]; exact Or.inr h
  have hS : va_S A s.heap s.heap [] := va_S.rf
  have hP : va_P D rz_cl [(h0, .inr (7, [.int 0, .int 0, .null, .null, .null, .null, .null, .null, .int 0, .int 0, .null, .null, .null, .int 0, .int 0, .int 0]))] s.heap := hP
  have hl := lv_entry ([.ref h0]) (n := 1) (Nat.le_of_ble_eq_true rfl)
  rw [lg_entry_eq]
  generalize (lg_sl ([.ref h0]) ++ List.replicate (1 - (lg_sl ([.ref h0])).length) Slot.unset).toArray = ls at hl ⊢
  have hl : lv_has ls 1 [(0, .ref h0)] := hl
  refine lv_aload_n hx hb rk_d7_0 rfl (lv_at hl 0 rfl) ?_
  refine W.objInit hx hb hown (hts _ rk_w630) (hts _ rk_w54) (hts _ rk_w55) rfl (by rw [hml]; exact hl.1) rfl rk_d7_1 (Nat.le_of_ble_eq_true rfl) (Nat.le_of_ble_eq_true rfl) ?_
  refine W.eq (g2 := F0 m 4 ls []) rfl ?_
  refine lv_aload_n hx hb rk_d7_4 rfl (lv_at hl 0 rfl) ?_
  refine lv_bipush (v := 25) hx hb rk_d7_5 (by decide) ?_
  refine rz_newi hx hb (hts _ rk_ai) hK hP hD hS hA (N' := 25) (by decide) (by decide) (by decide) (show 0 + 1 ≤ 9 by decide) (show 0 + 25 ≤ 157 by decide) rk_d7_7 (fun q1 H hP hD hS => ?_)
  have hP : va_P D rz_cl [(h0, .inr (7, [.int 0, .int 0, .null, .null, .null, .null, .null, .null, .int 0, .int 0, .null, .null, .null, .int 0, .int 0, .int 0])), (q1, .inl (cI, 25, .inl fun _ => 0))] H := hP
  have hD : va_D A [(h0, .inr (7, [.int 0, .int 0, .null, .null, .null, .null, .null, .null, .int 0, .int 0, .null, .null, .null, .int 0, .int 0, .int 0])), (q1, .inl (cI, 25, .inl fun _ => 0))] := hD
  refine W.widen (k := 1) (n := 25) (by omega) (by omega) ?_
  refine va_putF (D := D) (ci := 7) (v := .ref q1) (ty := .array .int) (C := "RowImproverModel") (T := rz_F7) (N := 16) hx hb hts (rz_clw_of (ci := 7) rfl) (rz_fty 7) (rz_cty_of (ci := 7) rfl) (rz_cnm_of (ci := 7) rfl) hown hK hP hD hS 0 rfl rfl 2 (by decide) (hts _ rk_w633) (fun _ h9 => h9) rfl hin rfl (by decide +kernel) rfl rfl (Nat.le_of_ble_eq_true rfl) rk_d7_9 (fun H locs hP hD hS => ?_)
  have hP : va_P D rz_cl [(h0, .inr (7, [.int 0, .int 0, .ref q1, .null, .null, .null, .null, .null, .int 0, .int 0, .null, .null, .null, .int 0, .int 0, .int 0])), (q1, .inl (cI, 25, .inl fun _ => 0))] H := hP
  have hD : va_D A [(h0, .inr (7, [.int 0, .int 0, .ref q1, .null, .null, .null, .null, .null, .int 0, .int 0, .null, .null, .null, .int 0, .int 0, .int 0])), (q1, .inl (cI, 25, .inl fun _ => 0))] := hD
  refine lv_aload_n hx hb rk_d7_12 rfl (lv_at hl 0 rfl) ?_
  refine lv_bipush (v := 25) hx hb rk_d7_13 (by decide) ?_
  refine rz_newi hx hb (hts _ rk_ai) hK hP hD hS hA (N' := 25) (by decide) (by decide) (by decide) (show 1 + 1 ≤ 9 by decide) (show 25 + 25 ≤ 157 by decide) rk_d7_15 (fun q2 H hP hD hS => ?_)
  have hP : va_P D rz_cl [(h0, .inr (7, [.int 0, .int 0, .ref q1, .null, .null, .null, .null, .null, .int 0, .int 0, .null, .null, .null, .int 0, .int 0, .int 0])), (q1, .inl (cI, 25, .inl fun _ => 0)), (q2, .inl (cI, 25, .inl fun _ => 0))] H := hP
  have hD : va_D A [(h0, .inr (7, [.int 0, .int 0, .ref q1, .null, .null, .null, .null, .null, .int 0, .int 0, .null, .null, .null, .int 0, .int 0, .int 0])), (q1, .inl (cI, 25, .inl fun _ => 0)), (q2, .inl (cI, 25, .inl fun _ => 0))] := hD
  refine W.widen (k := 2) (n := 50) (by omega) (by omega) ?_
  refine va_putF (D := D) (ci := 7) (v := .ref q2) (ty := .array .int) (C := "RowImproverModel") (T := rz_F7) (N := 16) hx hb hts (rz_clw_of (ci := 7) rfl) (rz_fty 7) (rz_cty_of (ci := 7) rfl) (rz_cnm_of (ci := 7) rfl) hown hK hP hD hS 0 rfl rfl 3 (by decide) (hts _ rk_w634) (fun _ h9 => h9) rfl hin rfl (by decide +kernel) rfl rfl (Nat.le_of_ble_eq_true rfl) rk_d7_17 (fun H locs hP hD hS => ?_)
  have hP : va_P D rz_cl [(h0, .inr (7, [.int 0, .int 0, .ref q1, .ref q2, .null, .null, .null, .null, .int 0, .int 0, .null, .null, .null, .int 0, .int 0, .int 0])), (q1, .inl (cI, 25, .inl fun _ => 0)), (q2, .inl (cI, 25, .inl fun _ => 0))] H := hP
  have hD : va_D A [(h0, .inr (7, [.int 0, .int 0, .ref q1, .ref q2, .null, .null, .null, .null, .int 0, .int 0, .null, .null, .null, .int 0, .int 0, .int 0])), (q1, .inl (cI, 25, .inl fun _ => 0)), (q2, .inl (cI, 25, .inl fun _ => 0))] := hD
  refine lv_aload_n hx hb rk_d7_20 rfl (lv_at hl 0 rfl) ?_
  refine lv_bipush (v := 25) hx hb rk_d7_21 (by decide) ?_
  refine rz_newi hx hb (hts _ rk_ai) hK hP hD hS hA (N' := 25) (by decide) (by decide) (by decide) (show 2 + 1 ≤ 9 by decide) (show 50 + 25 ≤ 157 by decide) rk_d7_23 (fun q3 H hP hD hS => ?_)
  have hP : va_P D rz_cl [(h0, .inr (7, [.int 0, .int 0, .ref q1, .ref q2, .null, .null, .null, .null, .int 0, .int 0, .null, .null, .null, .int 0, .int 0, .int 0])), (q1, .inl (cI, 25, .inl fun _ => 0)), (q2, .inl (cI, 25, .inl fun _ => 0)), (q3, .inl (cI, 25, .inl fun _ => 0))] H := hP
  have hD : va_D A [(h0, .inr (7, [.int 0, .int 0, .ref q1, .ref q2, .null, .null, .null, .null, .int 0, .int 0, .null, .null, .null, .int 0, .int 0, .int 0])), (q1, .inl (cI, 25, .inl fun _ => 0)), (q2, .inl (cI, 25, .inl fun _ => 0)), (q3, .inl (cI, 25, .inl fun _ => 0))] := hD
  refine W.widen (k := 3) (n := 75) (by omega) (by omega) ?_
  refine va_putF (D := D) (ci := 7) (v := .ref q3) (ty := .array .int) (C := "RowImproverModel") (T := rz_F7) (N := 16) hx hb hts (rz_clw_of (ci := 7) rfl) (rz_fty 7) (rz_cty_of (ci := 7) rfl) (rz_cnm_of (ci := 7) rfl) hown hK hP hD hS 0 rfl rfl 4 (by decide) (hts _ rk_w635) (fun _ h9 => h9) rfl hin rfl (by decide +kernel) rfl rfl (Nat.le_of_ble_eq_true rfl) rk_d7_25 (fun H locs hP hD hS => ?_)
  have hP : va_P D rz_cl [(h0, .inr (7, [.int 0, .int 0, .ref q1, .ref q2, .ref q3, .null, .null, .null, .int 0, .int 0, .null, .null, .null, .int 0, .int 0, .int 0])), (q1, .inl (cI, 25, .inl fun _ => 0)), (q2, .inl (cI, 25, .inl fun _ => 0)), (q3, .inl (cI, 25, .inl fun _ => 0))] H := hP
  have hD : va_D A [(h0, .inr (7, [.int 0, .int 0, .ref q1, .ref q2, .ref q3, .null, .null, .null, .int 0, .int 0, .null, .null, .null, .int 0, .int 0, .int 0])), (q1, .inl (cI, 25, .inl fun _ => 0)), (q2, .inl (cI, 25, .inl fun _ => 0)), (q3, .inl (cI, 25, .inl fun _ => 0))] := hD
  refine lv_aload_n hx hb rk_d7_28 rfl (lv_at hl 0 rfl) ?_
  refine lv_bipush (v := 25) hx hb rk_d7_29 (by decide) ?_
  refine rz_newi hx hb (hts _ rk_ai) hK hP hD hS hA (N' := 25) (by decide) (by decide) (by decide) (show 3 + 1 ≤ 9 by decide) (show 75 + 25 ≤ 157 by decide) rk_d7_31 (fun q4 H hP hD hS => ?_)
  have hP : va_P D rz_cl [(h0, .inr (7, [.int 0, .int 0, .ref q1, .ref q2, .ref q3, .null, .null, .null, .int 0, .int 0, .null, .null, .null, .int 0, .int 0, .int 0])), (q1, .inl (cI, 25, .inl fun _ => 0)), (q2, .inl (cI, 25, .inl fun _ => 0)), (q3, .inl (cI, 25, .inl fun _ => 0)), (q4, .inl (cI, 25, .inl fun _ => 0))] H := hP
  have hD : va_D A [(h0, .inr (7, [.int 0, .int 0, .ref q1, .ref q2, .ref q3, .null, .null, .null, .int 0, .int 0, .null, .null, .null, .int 0, .int 0, .int 0])), (q1, .inl (cI, 25, .inl fun _ => 0)), (q2, .inl (cI, 25, .inl fun _ => 0)), (q3, .inl (cI, 25, .inl fun _ => 0)), (q4, .inl (cI, 25, .inl fun _ => 0))] := hD
  refine W.widen (k := 4) (n := 100) (by omega) (by omega) ?_
  refine va_putF (D := D) (ci := 7) (v := .ref q4) (ty := .array .int) (C := "RowImproverModel") (T := rz_F7) (N := 16) hx hb hts (rz_clw_of (ci := 7) rfl) (rz_fty 7) (rz_cty_of (ci := 7) rfl) (rz_cnm_of (ci := 7) rfl) hown hK hP hD hS 0 rfl rfl 5 (by decide) (hts _ rk_w636) (fun _ h9 => h9) rfl hin rfl (by decide +kernel) rfl rfl (Nat.le_of_ble_eq_true rfl) rk_d7_33 (fun H locs hP hD hS => ?_)
  have hP : va_P D rz_cl [(h0, .inr (7, [.int 0, .int 0, .ref q1, .ref q2, .ref q3, .ref q4, .null, .null, .int 0, .int 0, .null, .null, .null, .int 0, .int 0, .int 0])), (q1, .inl (cI, 25, .inl fun _ => 0)), (q2, .inl (cI, 25, .inl fun _ => 0)), (q3, .inl (cI, 25, .inl fun _ => 0)), (q4, .inl (cI, 25, .inl fun _ => 0))] H := hP
  have hD : va_D A [(h0, .inr (7, [.int 0, .int 0, .ref q1, .ref q2, .ref q3, .ref q4, .null, .null, .int 0, .int 0, .null, .null, .null, .int 0, .int 0, .int 0])), (q1, .inl (cI, 25, .inl fun _ => 0)), (q2, .inl (cI, 25, .inl fun _ => 0)), (q3, .inl (cI, 25, .inl fun _ => 0)), (q4, .inl (cI, 25, .inl fun _ => 0))] := hD
  refine lv_aload_n hx hb rk_d7_36 rfl (lv_at hl 0 rfl) ?_
  refine lv_bipush (v := 12) hx hb rk_d7_37 (by decide) ?_
  refine rz_newi hx hb (hts _ rk_ai) hK hP hD hS hA (N' := 12) (by decide) (by decide) (by decide) (show 4 + 1 ≤ 9 by decide) (show 100 + 12 ≤ 157 by decide) rk_d7_39 (fun q5 H hP hD hS => ?_)
  have hP : va_P D rz_cl [(h0, .inr (7, [.int 0, .int 0, .ref q1, .ref q2, .ref q3, .ref q4, .null, .null, .int 0, .int 0, .null, .null, .null, .int 0, .int 0, .int 0])), (q1, .inl (cI, 25, .inl fun _ => 0)), (q2, .inl (cI, 25, .inl fun _ => 0)), (q3, .inl (cI, 25, .inl fun _ => 0)), (q4, .inl (cI, 25, .inl fun _ => 0)), (q5, .inl (cI, 12, .inl fun _ => 0))] H := hP
  have hD : va_D A [(h0, .inr (7, [.int 0, .int 0, .ref q1, .ref q2, .ref q3, .ref q4, .null, .null, .int 0, .int 0, .null, .null, .null, .int 0, .int 0, .int 0])), (q1, .inl (cI, 25, .inl fun _ => 0)), (q2, .inl (cI, 25, .inl fun _ => 0)), (q3, .inl (cI, 25, .inl fun _ => 0)), (q4, .inl (cI, 25, .inl fun _ => 0)), (q5, .inl (cI, 12, .inl fun _ => 0))] := hD
  refine W.widen (k := 5) (n := 112) (by omega) (by omega) ?_
  refine va_putF (D := D) (ci := 7) (v := .ref q5) (ty := .array .int) (C := "RowImproverModel") (T := rz_F7) (N := 16) hx hb hts (rz_clw_of (ci := 7) rfl) (rz_fty 7) (rz_cty_of (ci := 7) rfl) (rz_cnm_of (ci := 7) rfl) hown hK hP hD hS 0 rfl rfl 6 (by decide) (hts _ rk_w637) (fun _ h9 => h9) rfl hin rfl (by decide +kernel) rfl rfl (Nat.le_of_ble_eq_true rfl) rk_d7_41 (fun H locs hP hD hS => ?_)
  have hP : va_P D rz_cl [(h0, .inr (7, [.int 0, .int 0, .ref q1, .ref q2, .ref q3, .ref q4, .ref q5, .null, .int 0, .int 0, .null, .null, .null, .int 0, .int 0, .int 0])), (q1, .inl (cI, 25, .inl fun _ => 0)), (q2, .inl (cI, 25, .inl fun _ => 0)), (q3, .inl (cI, 25, .inl fun _ => 0)), (q4, .inl (cI, 25, .inl fun _ => 0)), (q5, .inl (cI, 12, .inl fun _ => 0))] H := hP
  have hD : va_D A [(h0, .inr (7, [.int 0, .int 0, .ref q1, .ref q2, .ref q3, .ref q4, .ref q5, .null, .int 0, .int 0, .null, .null, .null, .int 0, .int 0, .int 0])), (q1, .inl (cI, 25, .inl fun _ => 0)), (q2, .inl (cI, 25, .inl fun _ => 0)), (q3, .inl (cI, 25, .inl fun _ => 0)), (q4, .inl (cI, 25, .inl fun _ => 0)), (q5, .inl (cI, 12, .inl fun _ => 0))] := hD
  refine lv_aload_n hx hb rk_d7_44 rfl (lv_at hl 0 rfl) ?_
  refine lv_bipush (v := 12) hx hb rk_d7_45 (by decide) ?_
  refine rz_newi hx hb (hts _ rk_ai) hK hP hD hS hA (N' := 12) (by decide) (by decide) (by decide) (show 5 + 1 ≤ 9 by decide) (show 112 + 12 ≤ 157 by decide) rk_d7_47 (fun q6 H hP hD hS => ?_)
  have hP : va_P D rz_cl [(h0, .inr (7, [.int 0, .int 0, .ref q1, .ref q2, .ref q3, .ref q4, .ref q5, .null, .int 0, .int 0, .null, .null, .null, .int 0, .int 0, .int 0])), (q1, .inl (cI, 25, .inl fun _ => 0)), (q2, .inl (cI, 25, .inl fun _ => 0)), (q3, .inl (cI, 25, .inl fun _ => 0)), (q4, .inl (cI, 25, .inl fun _ => 0)), (q5, .inl (cI, 12, .inl fun _ => 0)), (q6, .inl (cI, 12, .inl fun _ => 0))] H := hP
  have hD : va_D A [(h0, .inr (7, [.int 0, .int 0, .ref q1, .ref q2, .ref q3, .ref q4, .ref q5, .null, .int 0, .int 0, .null, .null, .null, .int 0, .int 0, .int 0])), (q1, .inl (cI, 25, .inl fun _ => 0)), (q2, .inl (cI, 25, .inl fun _ => 0)), (q3, .inl (cI, 25, .inl fun _ => 0)), (q4, .inl (cI, 25, .inl fun _ => 0)), (q5, .inl (cI, 12, .inl fun _ => 0)), (q6, .inl (cI, 12, .inl fun _ => 0))] := hD
  refine W.widen (k := 6) (n := 124) (by omega) (by omega) ?_
  refine va_putF (D := D) (ci := 7) (v := .ref q6) (ty := .array .int) (C := "RowImproverModel") (T := rz_F7) (N := 16) hx hb hts (rz_clw_of (ci := 7) rfl) (rz_fty 7) (rz_cty_of (ci := 7) rfl) (rz_cnm_of (ci := 7) rfl) hown hK hP hD hS 0 rfl rfl 7 (by decide) (hts _ rk_w638) (fun _ h9 => h9) rfl hin rfl (by decide +kernel) rfl rfl (Nat.le_of_ble_eq_true rfl) rk_d7_49 (fun H locs hP hD hS => ?_)
  have hP : va_P D rz_cl [(h0, .inr (7, [.int 0, .int 0, .ref q1, .ref q2, .ref q3, .ref q4, .ref q5, .ref q6, .int 0, .int 0, .null, .null, .null, .int 0, .int 0, .int 0])), (q1, .inl (cI, 25, .inl fun _ => 0)), (q2, .inl (cI, 25, .inl fun _ => 0)), (q3, .inl (cI, 25, .inl fun _ => 0)), (q4, .inl (cI, 25, .inl fun _ => 0)), (q5, .inl (cI, 12, .inl fun _ => 0)), (q6, .inl (cI, 12, .inl fun _ => 0))] H := hP
  have hD : va_D A [(h0, .inr (7, [.int 0, .int 0, .ref q1, .ref q2, .ref q3, .ref q4, .ref q5, .ref q6, .int 0, .int 0, .null, .null, .null, .int 0, .int 0, .int 0])), (q1, .inl (cI, 25, .inl fun _ => 0)), (q2, .inl (cI, 25, .inl fun _ => 0)), (q3, .inl (cI, 25, .inl fun _ => 0)), (q4, .inl (cI, 25, .inl fun _ => 0)), (q5, .inl (cI, 12, .inl fun _ => 0)), (q6, .inl (cI, 12, .inl fun _ => 0))] := hD
  refine lv_aload_n hx hb rk_d7_52 rfl (lv_at hl 0 rfl) ?_
  refine lv_bipush (v := 25) hx hb rk_d7_53 (by decide) ?_
  refine rz_newi hx hb (hts _ rk_ai) hK hP hD hS hA (N' := 25) (by decide) (by decide) (by decide) (show 6 + 1 ≤ 9 by decide) (show 124 + 25 ≤ 157 by decide) rk_d7_55 (fun q7 H hP hD hS => ?_)
  have hP : va_P D rz_cl [(h0, .inr (7, [.int 0, .int 0, .ref q1, .ref q2, .ref q3, .ref q4, .ref q5, .ref q6, .int 0, .int 0, .null, .null, .null, .int 0, .int 0, .int 0])), (q1, .inl (cI, 25, .inl fun _ => 0)), (q2, .inl (cI, 25, .inl fun _ => 0)), (q3, .inl (cI, 25, .inl fun _ => 0)), (q4, .inl (cI, 25, .inl fun _ => 0)), (q5, .inl (cI, 12, .inl fun _ => 0)), (q6, .inl (cI, 12, .inl fun _ => 0)), (q7, .inl (cI, 25, .inl fun _ => 0))] H := hP
  have hD : va_D A [(h0, .inr (7, [.int 0, .int 0, .ref q1, .ref q2, .ref q3, .ref q4, .ref q5, .ref q6, .int 0, .int 0, .null, .null, .null, .int 0, .int 0, .int 0])), (q1, .inl (cI, 25, .inl fun _ => 0)), (q2, .inl (cI, 25, .inl fun _ => 0)), (q3, .inl (cI, 25, .inl fun _ => 0)), (q4, .inl (cI, 25, .inl fun _ => 0)), (q5, .inl (cI, 12, .inl fun _ => 0)), (q6, .inl (cI, 12, .inl fun _ => 0)), (q7, .inl (cI, 25, .inl fun _ => 0))] := hD
  refine W.widen (k := 7) (n := 149) (by omega) (by omega) ?_
  refine va_putF (D := D) (ci := 7) (v := .ref q7) (ty := .array .int) (C := "RowImproverModel") (T := rz_F7) (N := 16) hx hb hts (rz_clw_of (ci := 7) rfl) (rz_fty 7) (rz_cty_of (ci := 7) rfl) (rz_cnm_of (ci := 7) rfl) hown hK hP hD hS 0 rfl rfl 10 (by decide) (hts _ rk_w641) (fun _ h9 => h9) rfl hin rfl (by decide +kernel) rfl rfl (Nat.le_of_ble_eq_true rfl) rk_d7_57 (fun H locs hP hD hS => ?_)
  have hP : va_P D rz_cl [(h0, .inr (7, [.int 0, .int 0, .ref q1, .ref q2, .ref q3, .ref q4, .ref q5, .ref q6, .int 0, .int 0, .ref q7, .null, .null, .int 0, .int 0, .int 0])), (q1, .inl (cI, 25, .inl fun _ => 0)), (q2, .inl (cI, 25, .inl fun _ => 0)), (q3, .inl (cI, 25, .inl fun _ => 0)), (q4, .inl (cI, 25, .inl fun _ => 0)), (q5, .inl (cI, 12, .inl fun _ => 0)), (q6, .inl (cI, 12, .inl fun _ => 0)), (q7, .inl (cI, 25, .inl fun _ => 0))] H := hP
  have hD : va_D A [(h0, .inr (7, [.int 0, .int 0, .ref q1, .ref q2, .ref q3, .ref q4, .ref q5, .ref q6, .int 0, .int 0, .ref q7, .null, .null, .int 0, .int 0, .int 0])), (q1, .inl (cI, 25, .inl fun _ => 0)), (q2, .inl (cI, 25, .inl fun _ => 0)), (q3, .inl (cI, 25, .inl fun _ => 0)), (q4, .inl (cI, 25, .inl fun _ => 0)), (q5, .inl (cI, 12, .inl fun _ => 0)), (q6, .inl (cI, 12, .inl fun _ => 0)), (q7, .inl (cI, 25, .inl fun _ => 0))] := hD
  refine lv_aload_n hx hb rk_d7_60 rfl (lv_at hl 0 rfl) ?_
  refine lv_iconst (v := 4) hx hb rk_d7_61 (by decide) ?_
  refine rz_newi hx hb (hts _ rk_ai) hK hP hD hS hA (N' := 4) (by decide) (by decide) (by decide) (show 7 + 1 ≤ 9 by decide) (show 149 + 4 ≤ 157 by decide) rk_d7_62 (fun q8 H hP hD hS => ?_)
  have hP : va_P D rz_cl [(h0, .inr (7, [.int 0, .int 0, .ref q1, .ref q2, .ref q3, .ref q4, .ref q5, .ref q6, .int 0, .int 0, .ref q7, .null, .null, .int 0, .int 0, .int 0])), (q1, .inl (cI, 25, .inl fun _ => 0)), (q2, .inl (cI, 25, .inl fun _ => 0)), (q3, .inl (cI, 25, .inl fun _ => 0)), (q4, .inl (cI, 25, .inl fun _ => 0)), (q5, .inl (cI, 12, .inl fun _ => 0)), (q6, .inl (cI, 12, .inl fun _ => 0)), (q7, .inl (cI, 25, .inl fun _ => 0)), (q8, .inl (cI, 4, .inl fun _ => 0))] H := hP
  have hD : va_D A [(h0, .inr (7, [.int 0, .int 0, .ref q1, .ref q2, .ref q3, .ref q4, .ref q5, .ref q6, .int 0, .int 0, .ref q7, .null, .null, .int 0, .int 0, .int 0])), (q1, .inl (cI, 25, .inl fun _ => 0)), (q2, .inl (cI, 25, .inl fun _ => 0)), (q3, .inl (cI, 25, .inl fun _ => 0)), (q4, .inl (cI, 25, .inl fun _ => 0)), (q5, .inl (cI, 12, .inl fun _ => 0)), (q6, .inl (cI, 12, .inl fun _ => 0)), (q7, .inl (cI, 25, .inl fun _ => 0)), (q8, .inl (cI, 4, .inl fun _ => 0))] := hD
  refine W.widen (k := 8) (n := 153) (by omega) (by omega) ?_
  refine va_putF (D := D) (ci := 7) (v := .ref q8) (ty := .array .int) (C := "RowImproverModel") (T := rz_F7) (N := 16) hx hb hts (rz_clw_of (ci := 7) rfl) (rz_fty 7) (rz_cty_of (ci := 7) rfl) (rz_cnm_of (ci := 7) rfl) hown hK hP hD hS 0 rfl rfl 11 (by decide) (hts _ rk_w642) (fun _ h9 => h9) rfl hin rfl (by decide +kernel) rfl rfl (Nat.le_of_ble_eq_true rfl) rk_d7_64 (fun H locs hP hD hS => ?_)
  have hP : va_P D rz_cl [(h0, .inr (7, [.int 0, .int 0, .ref q1, .ref q2, .ref q3, .ref q4, .ref q5, .ref q6, .int 0, .int 0, .ref q7, .ref q8, .null, .int 0, .int 0, .int 0])), (q1, .inl (cI, 25, .inl fun _ => 0)), (q2, .inl (cI, 25, .inl fun _ => 0)), (q3, .inl (cI, 25, .inl fun _ => 0)), (q4, .inl (cI, 25, .inl fun _ => 0)), (q5, .inl (cI, 12, .inl fun _ => 0)), (q6, .inl (cI, 12, .inl fun _ => 0)), (q7, .inl (cI, 25, .inl fun _ => 0)), (q8, .inl (cI, 4, .inl fun _ => 0))] H := hP
  have hD : va_D A [(h0, .inr (7, [.int 0, .int 0, .ref q1, .ref q2, .ref q3, .ref q4, .ref q5, .ref q6, .int 0, .int 0, .ref q7, .ref q8, .null, .int 0, .int 0, .int 0])), (q1, .inl (cI, 25, .inl fun _ => 0)), (q2, .inl (cI, 25, .inl fun _ => 0)), (q3, .inl (cI, 25, .inl fun _ => 0)), (q4, .inl (cI, 25, .inl fun _ => 0)), (q5, .inl (cI, 12, .inl fun _ => 0)), (q6, .inl (cI, 12, .inl fun _ => 0)), (q7, .inl (cI, 25, .inl fun _ => 0)), (q8, .inl (cI, 4, .inl fun _ => 0))] := hD
  refine lv_aload_n hx hb rk_d7_67 rfl (lv_at hl 0 rfl) ?_
  refine lv_iconst (v := 4) hx hb rk_d7_68 (by decide) ?_
  refine rz_newi hx hb (hts _ rk_ai) hK hP hD hS hA (N' := 4) (by decide) (by decide) (by decide) (show 8 + 1 ≤ 9 by decide) (show 153 + 4 ≤ 157 by decide) rk_d7_69 (fun q9 H hP hD hS => ?_)
  have hP : va_P D rz_cl [(h0, .inr (7, [.int 0, .int 0, .ref q1, .ref q2, .ref q3, .ref q4, .ref q5, .ref q6, .int 0, .int 0, .ref q7, .ref q8, .null, .int 0, .int 0, .int 0])), (q1, .inl (cI, 25, .inl fun _ => 0)), (q2, .inl (cI, 25, .inl fun _ => 0)), (q3, .inl (cI, 25, .inl fun _ => 0)), (q4, .inl (cI, 25, .inl fun _ => 0)), (q5, .inl (cI, 12, .inl fun _ => 0)), (q6, .inl (cI, 12, .inl fun _ => 0)), (q7, .inl (cI, 25, .inl fun _ => 0)), (q8, .inl (cI, 4, .inl fun _ => 0)), (q9, .inl (cI, 4, .inl fun _ => 0))] H := hP
  have hD : va_D A [(h0, .inr (7, [.int 0, .int 0, .ref q1, .ref q2, .ref q3, .ref q4, .ref q5, .ref q6, .int 0, .int 0, .ref q7, .ref q8, .null, .int 0, .int 0, .int 0])), (q1, .inl (cI, 25, .inl fun _ => 0)), (q2, .inl (cI, 25, .inl fun _ => 0)), (q3, .inl (cI, 25, .inl fun _ => 0)), (q4, .inl (cI, 25, .inl fun _ => 0)), (q5, .inl (cI, 12, .inl fun _ => 0)), (q6, .inl (cI, 12, .inl fun _ => 0)), (q7, .inl (cI, 25, .inl fun _ => 0)), (q8, .inl (cI, 4, .inl fun _ => 0)), (q9, .inl (cI, 4, .inl fun _ => 0))] := hD
  refine W.widen (k := 9) (n := 157) (by omega) (by omega) ?_
  refine va_putF (D := D) (ci := 7) (v := .ref q9) (ty := .array .int) (C := "RowImproverModel") (T := rz_F7) (N := 16) hx hb hts (rz_clw_of (ci := 7) rfl) (rz_fty 7) (rz_cty_of (ci := 7) rfl) (rz_cnm_of (ci := 7) rfl) hown hK hP hD hS 0 rfl rfl 12 (by decide) (hts _ rk_w643) (fun _ h9 => h9) rfl hin rfl (by decide +kernel) rfl rfl (Nat.le_of_ble_eq_true rfl) rk_d7_71 (fun H locs hP hD hS => ?_)
  have hP : va_P D rz_cl [(h0, .inr (7, [.int 0, .int 0, .ref q1, .ref q2, .ref q3, .ref q4, .ref q5, .ref q6, .int 0, .int 0, .ref q7, .ref q8, .ref q9, .int 0, .int 0, .int 0])), (q1, .inl (cI, 25, .inl fun _ => 0)), (q2, .inl (cI, 25, .inl fun _ => 0)), (q3, .inl (cI, 25, .inl fun _ => 0)), (q4, .inl (cI, 25, .inl fun _ => 0)), (q5, .inl (cI, 12, .inl fun _ => 0)), (q6, .inl (cI, 12, .inl fun _ => 0)), (q7, .inl (cI, 25, .inl fun _ => 0)), (q8, .inl (cI, 4, .inl fun _ => 0)), (q9, .inl (cI, 4, .inl fun _ => 0))] H := hP
  have hD : va_D A [(h0, .inr (7, [.int 0, .int 0, .ref q1, .ref q2, .ref q3, .ref q4, .ref q5, .ref q6, .int 0, .int 0, .ref q7, .ref q8, .ref q9, .int 0, .int 0, .int 0])), (q1, .inl (cI, 25, .inl fun _ => 0)), (q2, .inl (cI, 25, .inl fun _ => 0)), (q3, .inl (cI, 25, .inl fun _ => 0)), (q4, .inl (cI, 25, .inl fun _ => 0)), (q5, .inl (cI, 12, .inl fun _ => 0)), (q6, .inl (cI, 12, .inl fun _ => 0)), (q7, .inl (cI, 25, .inl fun _ => 0)), (q8, .inl (cI, 4, .inl fun _ => 0)), (q9, .inl (cI, 4, .inl fun _ => 0))] := hD
  exact W.vret hx hb hr (fun t ht hW => ⟨⟨(), rfl, trivial, q1, q2, q3, q4, q5, q6, q7, q8, q9, by rw [ht]; exact hP, hD⟩, hS.F ht⟩) hS.2.2 rk_d7_74
theorem rk_w109 : (Jvm.Cond.code ⟨"RowImprover$Prover", "<init>", "()V"⟩ prog_7_method_1_code (1 : Nat) (Option.none : Option Jvm.ClassFile.FieldType)) ∈ rz_tw := rz_use (List.mem_of_getElem? (i := 109) (by decide +kernel)) rfl
theorem rk_w110 : (Jvm.Cond.methodLink "RowImprover$Prover" (1 : Nat) Lib.objectInit) ∈ rz_tw := rz_use (List.mem_of_getElem? (i := 110) (by decide +kernel)) rfl
theorem rk_w111 : (Jvm.Cond.classLink "RowImprover$Prover" (7 : Nat) "RowImprover$Row") ∈ rz_tw := rz_use (List.mem_of_getElem? (i := 111) (by decide +kernel)) rfl
theorem rk_w112 : (Jvm.Cond.instantiable "RowImprover$Row" (2 : Nat)) ∈ rz_tw := rz_use (List.mem_of_getElem? (i := 112) (by decide +kernel)) rfl
theorem rk_w33 : (Jvm.Cond.initialized "RowImprover$Row") ∈ rz_tw := rz_use (List.mem_of_getElem? (i := 33) (by decide +kernel)) rfl
theorem rk_w113 : (Jvm.Cond.methodLinkNest "RowImprover$Prover" (9 : Nat) ⟨"RowImprover$Row", "<init>", "()V"⟩ "RowImprover") ∈ lw_tbl := List.mem_of_getElem? (i := 113) (by decide +kernel)
theorem rk_w114 : (Jvm.Cond.instanceMethod ⟨"RowImprover$Row", "<init>", "()V"⟩) ∈ rz_tw := rz_use (List.mem_of_getElem? (i := 114) (by decide +kernel)) rfl
theorem rk_w124 : (Jvm.Cond.fieldLink "RowImprover$Prover" (10 : Nat) "RowImprover$Prover" "one" "LRowImprover$Row;") ∈ rz_tw := rz_use (List.mem_of_getElem? (i := 124) (by decide +kernel)) rfl
theorem rk_w125 : (Jvm.Cond.fieldLink "RowImprover$Prover" (16 : Nat) "RowImprover$Prover" "other" "LRowImprover$Row;") ∈ rz_tw := rz_use (List.mem_of_getElem? (i := 125) (by decide +kernel)) rfl
/-- a new RowImprover$Prover -/
def rk_y4 : MethodName := ⟨"RowImprover$Prover", "<init>", "()V"⟩
theorem rk_d4_0 : decode prog_7_method_1_code 0 = .ok (.aload_n 0, 1) := by decide +kernel
theorem rk_d4_1 : decode prog_7_method_1_code 1 = .ok (.invokespecial 1, 3) := by decide +kernel
theorem rk_d4_4 : decode prog_7_method_1_code 4 = .ok (.aload_n 0, 1) := by decide +kernel
theorem rk_d4_5 : decode prog_7_method_1_code 5 = .ok (.new 7, 3) := by decide +kernel
theorem rk_d4_8 : decode prog_7_method_1_code 8 = .ok (.dup, 1) := by decide +kernel
theorem rk_d4_9 : decode prog_7_method_1_code 9 = .ok (.invokespecial 9, 3) := by decide +kernel
theorem rk_d4_12 : decode prog_7_method_1_code 12 = .ok (.putfield 10, 3) := by decide +kernel
theorem rk_d4_15 : decode prog_7_method_1_code 15 = .ok (.aload_n 0, 1) := by decide +kernel
theorem rk_d4_16 : decode prog_7_method_1_code 16 = .ok (.new 7, 3) := by decide +kernel
theorem rk_d4_19 : decode prog_7_method_1_code 19 = .ok (.dup, 1) := by decide +kernel
theorem rk_d4_20 : decode prog_7_method_1_code 20 = .ok (.invokespecial 9, 3) := by decide +kernel
theorem rk_d4_23 : decode prog_7_method_1_code 23 = .ok (.putfield 16, 3) := by decide +kernel
theorem rk_d4_26 : decode prog_7_method_1_code 26 = .ok (.return_, 1) := by decide +kernel
set_option maxHeartbeats 4000000 in
set_option maxRecDepth 100000 in
theorem k_4 (l : Launch) (D : va_G) (cI cJ : ClassId) (h0 sz : Nat) : Met l rk_y4 (Cond.code rk_y4 prog_7_method_1_code 1 none :: rz_tw) ({ frames := 2, cells := 4, slots := 10, locals := 32 }) (rz_prc D cI cJ h0 sz [(h0, .inr (4, [.null, .null, .int 0]))]) (va_Qv (fun _ : Unit => True) (fun _ t => ∃ q1 q2 q3 q4 : Nat, va_P D rz_cl [(h0, .inr (4, [.ref q1, .ref q3, .int 0])), (q1, .inr (5, [.ref q2, .int 0])), (q2, .inl (cI, 3, .inl fun _ => 0)), (q3, .inr (5, [.ref q4, .int 0])), (q4, .inl (cI, 3, .inl fun _ => 0))] t.heap ∧ va_D (va_A [(h0, .inr (4, [.null, .null, .int 0]))] sz) [(h0, .inr (4, [.ref q1, .ref q3, .int 0])), (q1, .inr (5, [.ref q2, .int 0])), (q2, .inl (cI, 3, .inl fun _ => 0)), (q3, .inr (5, [.ref q4, .int 0])), (q4, .inl (cI, 3, .inl fun _ => 0))]) (va_A [(h0, .inr (4, [.null, .null, .int 0]))] sz)) 4 10 (va_A [(h0, .inr (4, [.null, .null, .int 0]))] sz) := by
  refine Met.ofW (cc := prog_7_method_1_code) (maxL := 1) (ret := none) (by decide) rfl ?_
  intro p e s m args below meth c s₁ B hml hv
  obtain ⟨rfl, hsz, hP, hK, hD0, hN⟩ := hv
  have hx := B.exec
  have hb := B.bytes
  have hr := B.returns
  have hts : ∀ w ∈ rz_tw, w.before ([.ref h0] : List Value).toArray s = true := fun w hw => atoms_spec (ws := Cond.code rk_y4 prog_7_method_1_code 1 none :: rz_tw) B.pre w (List.mem_cons_of_mem _ hw)
  have hown : s.vm.findClass "RowImprover$Prover" = some m.cls := findClass_of_methodNamed B.named
  have hlocks := B.notSynchronized
  have hin : meth.name = "<init>" := (name_of_methodNamed B.named B.method).1
  subst hsz
  have hD := hD0.self (sz := s.heap.size)
  generalize hAe : va_A [(h0, .inr (4, [.null, .null, .int 0]))] s.heap.size = A at hD ⊢
  have hA : ∀ q : Nat, s.heap.size ≤ q → A q := fun q h => by rw [← hAe]; exact Or.inr h
  have hS : va_S A s.heap s.heap [] := va_S.rf
  have hP : va_P D rz_cl [(h0, .inr (4, [.null, .null, .int 0]))] s.heap := hP
  have hl := lv_entry ([.ref h0]) (n := 1) (Nat.le_of_ble_eq_true rfl)
  rw [lg_entry_eq]
  generalize (lg_sl ([.ref h0]) ++ List.replicate (1 - (lg_sl ([.ref h0])).length) Slot.unset).toArray = ls at hl ⊢
  have hl : lv_has ls 1 [(0, .ref h0)] := hl
  refine lv_aload_n hx hb rk_d4_0 rfl (lv_at hl 0 rfl) ?_
  refine W.objInit hx hb hown (hts _ rk_w110) (hts _ rk_w54) (hts _ rk_w55) rfl (by rw [hml]; exact hl.1) rfl rk_d4_1 (Nat.le_of_ble_eq_true rfl) (Nat.le_of_ble_eq_true rfl) ?_
  refine W.eq (g2 := F0 m 4 ls []) rfl ?_
  refine lv_aload_n hx hb rk_d4_4 rfl (lv_at hl 0 rfl) ?_
  refine va_new (ci := 5) (fs := [.null, .int 0]) (C := "RowImprover$Row") (T := rz_F5) (N := 2) hx hb hts (rz_clw_of (ci := 5) rfl) (rz_fty 5) (rz_cty_of (ci := 5) rfl) hown (hts _ rk_w111) (hts _ rk_w112) (hts _ rk_w33) hK hP hD hS hA rfl (rz_df5) (show 0 + 1 ≤ 4 by decide) (show 0 + 2 ≤ 10 by decide) rk_d4_5 (fun q1 H hP hD hS => ?_)
  have hP : va_P D rz_cl [(h0, .inr (4, [.null, .null, .int 0])), (q1, .inr (5, [.null, .int 0]))] H := hP
  have hD : va_D A [(h0, .inr (4, [.null, .null, .int 0])), (q1, .inr (5, [.null, .int 0]))] := hD
  refine W.widen (k := 1) (n := 2) (by omega) (by omega) ?_
  refine lv_dup hx hb rk_d4_8 rfl ?_
  have hPc := hP.sub (ws' := [(q1, .inr (5, [.null, .int 0]))]) [1] rfl
  have hDc := hD.sub (ws' := [(q1, .inr (5, [.null, .int 0]))]) [1] (by decide) rfl
  have hFc := va_free (wc := [(q1, .inr (5, [.null, .int 0]))]) hD hS hA [1] rfl
  refine va_callv (va_runIN (As := []) (rest := [.ref q1, .ref h0]) ⟨hx, hb, hml, hown, hts⟩ (k_5 l D cI cJ q1 H.size) ⟨va_cnB 0 hts (rz_gi rk_w115) rfl rfl rfl (hN _ rk_w113 rfl) (hts _ rk_w33) (by decide +kernel) ⟨Nat.le_of_ble_eq_true rfl, Nat.le_of_ble_eq_true rfl⟩, rfl, hts _ rk_w114⟩ (rz_pre hPc hK hDc hN) rfl rfl hl.1 rfl (lv_room (Nat.le_of_ble_eq_true rfl)) rk_d4_9 ⟨(show 1 + 1 ≤ 4 by decide), (show 2 + 3 ≤ 10 by decide)⟩) hS (fun q _ h => hFc q h) hFc (fun u t H1 locs ht hvm _ hB hz1 hk1 hS => ?_)
  obtain ⟨q2, hP1, hD1⟩ := hB
  rw [ht] at hP1
  obtain ⟨hP, hD⟩ := va_join (wr := [(h0, .inr (4, [.null, .null, .int 0]))]) (w1 := [(q1, .inr (5, [.ref q2, .int 0])), (q2, .inl (cI, 3, .inl fun _ => 0))]) hP hD [1] [0] rfl rfl (by decide) (by decide) hk1 hFc hP1 hD1
  generalize H1 = H at hP hS ⊢
  have hP : va_P D rz_cl [(h0, .inr (4, [.null, .null, .int 0])), (q1, .inr (5, [.ref q2, .int 0])), (q2, .inl (cI, 3, .inl fun _ => 0))] H := hP
  have hD : va_D A [(h0, .inr (4, [.null, .null, .int 0])), (q1, .inr (5, [.ref q2, .int 0])), (q2, .inl (cI, 3, .inl fun _ => 0))] := hD
  refine W.widen (k := 2) (n := 5) (by omega) (by omega) ?_
  refine va_putF (D := D) (ci := 4) (v := .ref q1) (ty := .object "RowImprover$Row") (C := "RowImprover$Prover") (T := rz_F4) (N := 3) hx hb hts (rz_clw_of (ci := 4) rfl) (rz_fty 4) (rz_cty_of (ci := 4) rfl) (rz_cnm_of (ci := 4) rfl) hown hK hP hD hS 0 rfl rfl 0 (by decide) (hts _ rk_w124) (fun _ h9 => h9) rfl hin rfl (by decide +kernel) rfl rfl (Nat.le_of_ble_eq_true rfl) rk_d4_12 (fun H locs hP hD hS => ?_)
  have hP : va_P D rz_cl [(h0, .inr (4, [.ref q1, .null, .int 0])), (q1, .inr (5, [.ref q2, .int 0])), (q2, .inl (cI, 3, .inl fun _ => 0))] H := hP
  have hD : va_D A [(h0, .inr (4, [.ref q1, .null, .int 0])), (q1, .inr (5, [.ref q2, .int 0])), (q2, .inl (cI, 3, .inl fun _ => 0))] := hD
  refine lv_aload_n hx hb rk_d4_15 rfl (lv_at hl 0 rfl) ?_
  refine va_new (ci := 5) (fs := [.null, .int 0]) (C := "RowImprover$Row") (T := rz_F5) (N := 2) hx hb hts (rz_clw_of (ci := 5) rfl) (rz_fty 5) (rz_cty_of (ci := 5) rfl) hown (hts _ rk_w111) (hts _ rk_w112) (hts _ rk_w33) hK hP hD hS hA rfl (rz_df5) (show 2 + 1 ≤ 4 by decide) (show 5 + 2 ≤ 10 by decide) rk_d4_16 (fun q3 H hP hD hS => ?_)
  have hP : va_P D rz_cl [(h0, .inr (4, [.ref q1, .null, .int 0])), (q1, .inr (5, [.ref q2, .int 0])), (q2, .inl (cI, 3, .inl fun _ => 0)), (q3, .inr (5, [.null, .int 0]))] H := hP
  have hD : va_D A [(h0, .inr (4, [.ref q1, .null, .int 0])), (q1, .inr (5, [.ref q2, .int 0])), (q2, .inl (cI, 3, .inl fun _ => 0)), (q3, .inr (5, [.null, .int 0]))] := hD
  refine W.widen (k := 3) (n := 7) (by omega) (by omega) ?_
  refine lv_dup hx hb rk_d4_19 rfl ?_
  have hPc := hP.sub (ws' := [(q3, .inr (5, [.null, .int 0]))]) [3] rfl
  have hDc := hD.sub (ws' := [(q3, .inr (5, [.null, .int 0]))]) [3] (by decide) rfl
  have hFc := va_free (wc := [(q3, .inr (5, [.null, .int 0]))]) hD hS hA [3] rfl
  refine va_callv (va_runIN (As := []) (rest := [.ref q3, .ref h0]) ⟨hx, hb, hml, hown, hts⟩ (k_5 l D cI cJ q3 H.size) ⟨va_cnB 0 hts (rz_gi rk_w115) rfl rfl rfl (hN _ rk_w113 rfl) (hts _ rk_w33) (by decide +kernel) ⟨Nat.le_of_ble_eq_true rfl, Nat.le_of_ble_eq_true rfl⟩, rfl, hts _ rk_w114⟩ (rz_pre hPc hK hDc hN) rfl rfl hl.1 rfl (lv_room (Nat.le_of_ble_eq_true rfl)) rk_d4_20 ⟨(show 3 + 1 ≤ 4 by decide), (show 7 + 3 ≤ 10 by decide)⟩) hS (fun q _ h => hFc q h) hFc (fun u t H1 locs ht hvm _ hB hz1 hk1 hS => ?_)
  obtain ⟨q4, hP1, hD1⟩ := hB
  rw [ht] at hP1
  obtain ⟨hP, hD⟩ := va_join (wr := [(h0, .inr (4, [.ref q1, .null, .int 0])), (q1, .inr (5, [.ref q2, .int 0])), (q2, .inl (cI, 3, .inl fun _ => 0))]) (w1 := [(q3, .inr (5, [.ref q4, .int 0])), (q4, .inl (cI, 3, .inl fun _ => 0))]) hP hD [3] [0, 1, 2] rfl rfl (by decide) (by decide) hk1 hFc hP1 hD1
  generalize H1 = H at hP hS ⊢
  have hP : va_P D rz_cl [(h0, .inr (4, [.ref q1, .null, .int 0])), (q1, .inr (5, [.ref q2, .int 0])), (q2, .inl (cI, 3, .inl fun _ => 0)), (q3, .inr (5, [.ref q4, .int 0])), (q4, .inl (cI, 3, .inl fun _ => 0))] H := hP
  have hD : va_D A [(h0, .inr (4, [.ref q1, .null, .int 0])), (q1, .inr (5, [.ref q2, .int 0])), (q2, .inl (cI, 3, .inl fun _ => 0)), (q3, .inr (5, [.ref q4, .int 0])), (q4, .inl (cI, 3, .inl fun _ => 0))] := hD
  refine W.widen (k := 4) (n := 10) (by omega) (by omega) ?_
  refine va_putF (D := D) (ci := 4) (v := .ref q3) (ty := .object "RowImprover$Row") (C := "RowImprover$Prover") (T := rz_F4) (N := 3) hx hb hts (rz_clw_of (ci := 4) rfl) (rz_fty 4) (rz_cty_of (ci := 4) rfl) (rz_cnm_of (ci := 4) rfl) hown hK hP hD hS 0 rfl rfl 1 (by decide) (hts _ rk_w125) (fun _ h9 => h9) rfl hin rfl (by decide +kernel) rfl rfl (Nat.le_of_ble_eq_true rfl) rk_d4_23 (fun H locs hP hD hS => ?_)
  have hP : va_P D rz_cl [(h0, .inr (4, [.ref q1, .ref q3, .int 0])), (q1, .inr (5, [.ref q2, .int 0])), (q2, .inl (cI, 3, .inl fun _ => 0)), (q3, .inr (5, [.ref q4, .int 0])), (q4, .inl (cI, 3, .inl fun _ => 0))] H := hP
  have hD : va_D A [(h0, .inr (4, [.ref q1, .ref q3, .int 0])), (q1, .inr (5, [.ref q2, .int 0])), (q2, .inl (cI, 3, .inl fun _ => 0)), (q3, .inr (5, [.ref q4, .int 0])), (q4, .inl (cI, 3, .inl fun _ => 0))] := hD
  exact W.vret hx hb hr (fun t ht hW => ⟨⟨(), rfl, trivial, q1, q2, q3, q4, by rw [ht]; exact hP, hD⟩, hS.F ht⟩) hS.2.2 rk_d4_26
theorem rk_w138 : (Jvm.Cond.code ⟨"RowImprover$Improver", "<init>", "()V"⟩ prog_3_method_1_code (1 : Nat) (Option.none : Option Jvm.ClassFile.FieldType)) ∈ rz_tw := rz_use (List.mem_of_getElem? (i := 138) (by decide +kernel)) rfl
theorem rk_w139 : (Jvm.Cond.methodLink "RowImprover$Improver" (3 : Nat) Lib.objectInit) ∈ rz_tw := rz_use (List.mem_of_getElem? (i := 139) (by decide +kernel)) rfl
theorem rk_w140 : (Jvm.Cond.classLink "RowImprover$Improver" (9 : Nat) "RowImprover$Liveness") ∈ rz_tw := rz_use (List.mem_of_getElem? (i := 140) (by decide +kernel)) rfl
theorem rk_w96 : (Jvm.Cond.instantiable "RowImprover$Liveness" (1 : Nat)) ∈ rz_tw := rz_use (List.mem_of_getElem? (i := 96) (by decide +kernel)) rfl
theorem rk_w31 : (Jvm.Cond.initialized "RowImprover$Liveness") ∈ rz_tw := rz_use (List.mem_of_getElem? (i := 31) (by decide +kernel)) rfl
theorem rk_w141 : (Jvm.Cond.methodLinkNest "RowImprover$Improver" (11 : Nat) ⟨"RowImprover$Liveness", "<init>", "()V"⟩ "RowImprover") ∈ lw_tbl := List.mem_of_getElem? (i := 141) (by decide +kernel)
theorem rk_w98 : (Jvm.Cond.instanceMethod ⟨"RowImprover$Liveness", "<init>", "()V"⟩) ∈ rz_tw := rz_use (List.mem_of_getElem? (i := 98) (by decide +kernel)) rfl
theorem rk_w146 : (Jvm.Cond.fieldLink "RowImprover$Improver" (12 : Nat) "RowImprover$Improver" "liveness" "LRowImprover$Liveness;") ∈ rz_tw := rz_use (List.mem_of_getElem? (i := 146) (by decide +kernel)) rfl
theorem rk_w142 : (Jvm.Cond.classLink "RowImprover$Improver" (18 : Nat) "RowImprover$Prover") ∈ rz_tw := rz_use (List.mem_of_getElem? (i := 142) (by decide +kernel)) rfl
theorem rk_w106 : (Jvm.Cond.instantiable "RowImprover$Prover" (3 : Nat)) ∈ rz_tw := rz_use (List.mem_of_getElem? (i := 106) (by decide +kernel)) rfl
theorem rk_w32 : (Jvm.Cond.initialized "RowImprover$Prover") ∈ rz_tw := rz_use (List.mem_of_getElem? (i := 32) (by decide +kernel)) rfl
theorem rk_w143 : (Jvm.Cond.methodLinkNest "RowImprover$Improver" (20 : Nat) ⟨"RowImprover$Prover", "<init>", "()V"⟩ "RowImprover") ∈ lw_tbl := List.mem_of_getElem? (i := 143) (by decide +kernel)
theorem rk_w108 : (Jvm.Cond.instanceMethod ⟨"RowImprover$Prover", "<init>", "()V"⟩) ∈ rz_tw := rz_use (List.mem_of_getElem? (i := 108) (by decide +kernel)) rfl
theorem rk_w147 : (Jvm.Cond.fieldLink "RowImprover$Improver" (21 : Nat) "RowImprover$Improver" "prover" "LRowImprover$Prover;") ∈ rz_tw := rz_use (List.mem_of_getElem? (i := 147) (by decide +kernel)) rfl
theorem rk_w144 : (Jvm.Cond.classLink "RowImprover$Improver" (25 : Nat) "RowImprover$Row") ∈ rz_tw := rz_use (List.mem_of_getElem? (i := 144) (by decide +kernel)) rfl
theorem rk_w145 : (Jvm.Cond.methodLinkNest "RowImprover$Improver" (27 : Nat) ⟨"RowImprover$Row", "<init>", "()V"⟩ "RowImprover") ∈ lw_tbl := List.mem_of_getElem? (i := 145) (by decide +kernel)
theorem rk_w148 : (Jvm.Cond.fieldLink "RowImprover$Improver" (28 : Nat) "RowImprover$Improver" "row" "LRowImprover$Row;") ∈ rz_tw := rz_use (List.mem_of_getElem? (i := 148) (by decide +kernel)) rfl
theorem rk_w149 : (Jvm.Cond.fieldLink "RowImprover$Improver" (32 : Nat) "RowImprover$Improver" "candidate" "LRowImprover$Row;") ∈ rz_tw := rz_use (List.mem_of_getElem? (i := 149) (by decide +kernel)) rfl
/-- a new RowImprover$Improver -/
def rk_y6 : MethodName := ⟨"RowImprover$Improver", "<init>", "()V"⟩
theorem rk_d6_0 : decode prog_3_method_1_code 0 = .ok (.aload_n 0, 1) := by decide +kernel
theorem rk_d6_1 : decode prog_3_method_1_code 1 = .ok (.invokespecial 3, 3) := by decide +kernel
theorem rk_d6_4 : decode prog_3_method_1_code 4 = .ok (.aload_n 0, 1) := by decide +kernel
theorem rk_d6_5 : decode prog_3_method_1_code 5 = .ok (.new 9, 3) := by decide +kernel
theorem rk_d6_8 : decode prog_3_method_1_code 8 = .ok (.dup, 1) := by decide +kernel
theorem rk_d6_9 : decode prog_3_method_1_code 9 = .ok (.invokespecial 11, 3) := by decide +kernel
theorem rk_d6_12 : decode prog_3_method_1_code 12 = .ok (.putfield 12, 3) := by decide +kernel
theorem rk_d6_15 : decode prog_3_method_1_code 15 = .ok (.aload_n 0, 1) := by decide +kernel
theorem rk_d6_16 : decode prog_3_method_1_code 16 = .ok (.new 18, 3) := by decide +kernel
theorem rk_d6_19 : decode prog_3_method_1_code 19 = .ok (.dup, 1) := by decide +kernel
theorem rk_d6_20 : decode prog_3_method_1_code 20 = .ok (.invokespecial 20, 3) := by decide +kernel
theorem rk_d6_23 : decode prog_3_method_1_code 23 = .ok (.putfield 21, 3) := by decide +kernel
theorem rk_d6_26 : decode prog_3_method_1_code 26 = .ok (.aload_n 0, 1) := by decide +kernel
theorem rk_d6_27 : decode prog_3_method_1_code 27 = .ok (.new 25, 3) := by decide +kernel
theorem rk_d6_30 : decode prog_3_method_1_code 30 = .ok (.dup, 1) := by decide +kernel
theorem rk_d6_31 : decode prog_3_method_1_code 31 = .ok (.invokespecial 27, 3) := by decide +kernel
theorem rk_d6_34 : decode prog_3_method_1_code 34 = .ok (.putfield 28, 3) := by decide +kernel
theorem rk_d6_37 : decode prog_3_method_1_code 37 = .ok (.aload_n 0, 1) := by decide +kernel
theorem rk_d6_38 : decode prog_3_method_1_code 38 = .ok (.new 25, 3) := by decide +kernel
theorem rk_d6_41 : decode prog_3_method_1_code 41 = .ok (.dup, 1) := by decide +kernel
theorem rk_d6_42 : decode prog_3_method_1_code 42 = .ok (.invokespecial 27, 3) := by decide +kernel
theorem rk_d6_45 : decode prog_3_method_1_code 45 = .ok (.putfield 32, 3) := by decide +kernel
theorem rk_d6_48 : decode prog_3_method_1_code 48 = .ok (.return_, 1) := by decide +kernel
set_option maxHeartbeats 4000000 in
set_option maxRecDepth 100000 in
theorem k_6 (l : Launch) (D : va_G) (cI cJ : ClassId) (h0 sz : Nat) : Met l rk_y6 (Cond.code rk_y6 prog_3_method_1_code 1 none :: rz_tw) ({ frames := 3, cells := 11, slots := 49, locals := 52 }) (rz_prc D cI cJ h0 sz [(h0, .inr (6, [.null, .null, .null, .null, .int 0, .int 0, .int 0]))]) (va_Qv (fun _ : Unit => True) (fun _ t => ∃ q1 q2 q3 q4 q5 q6 q7 q8 q9 q10 q11 : Nat, va_P D rz_cl [(h0, .inr (6, [.ref q1, .ref q3, .ref q8, .ref q10, .int 0, .int 0, .int 0])), (q1, .inr (3, [.ref q2])), (q2, .inl (cI, 25, .inl fun _ => 0)), (q3, .inr (4, [.ref q4, .ref q6, .int 0])), (q4, .inr (5, [.ref q5, .int 0])), (q5, .inl (cI, 3, .inl fun _ => 0)), (q6, .inr (5, [.ref q7, .int 0])), (q7, .inl (cI, 3, .inl fun _ => 0)), (q8, .inr (5, [.ref q9, .int 0])), (q9, .inl (cI, 3, .inl fun _ => 0)), (q10, .inr (5, [.ref q11, .int 0])), (q11, .inl (cI, 3, .inl fun _ => 0))] t.heap ∧ va_D (va_A [(h0, .inr (6, [.null, .null, .null, .null, .int 0, .int 0, .int 0]))] sz) [(h0, .inr (6, [.ref q1, .ref q3, .ref q8, .ref q10, .int 0, .int 0, .int 0])), (q1, .inr (3, [.ref q2])), (q2, .inl (cI, 25, .inl fun _ => 0)), (q3, .inr (4, [.ref q4, .ref q6, .int 0])), (q4, .inr (5, [.ref q5, .int 0])), (q5, .inl (cI, 3, .inl fun _ => 0)), (q6, .inr (5, [.ref q7, .int 0])), (q7, .inl (cI, 3, .inl fun _ => 0)), (q8, .inr (5, [.ref q9, .int 0])), (q9, .inl (cI, 3, .inl fun _ => 0)), (q10, .inr (5, [.ref q11, .int 0])), (q11, .inl (cI, 3, .inl fun _ => 0))]) (va_A [(h0, .inr (6, [.null, .null, .null, .null, .int 0, .int 0, .int 0]))] sz)) 11 49 (va_A [(h0, .inr (6, [.null, .null, .null, .null, .int 0, .int 0, .int 0]))] sz) := by
  refine Met.ofW (cc := prog_3_method_1_code) (maxL := 1) (ret := none) (by decide) rfl ?_
  intro p e s m args below meth c s₁ B hml hv
  obtain ⟨rfl, hsz, hP, hK, hD0, hN⟩ := hv
  have hx := B.exec
  have hb := B.bytes
  have hr := B.returns
  have hts : ∀ w ∈ rz_tw, w.before ([.ref h0] : List Value).toArray s = true := fun w hw => atoms_spec (ws := Cond.code rk_y6 prog_3_method_1_code 1 none :: rz_tw) B.pre w (List.mem_cons_of_mem _ hw)
  have hown : s.vm.findClass "RowImprover$Improver" = some m.cls := findClass_of_methodNamed B.named
  have hlocks := B.notSynchronized
  have hin : meth.name = "<init>" := (name_of_methodNamed B.named B.method).1
  subst hsz
  have hD := hD0.self (sz := s.heap.size)
  generalize hAe : va_A [(h0, .inr (6, [.null, .null, .null, .null, .int 0, .int 0, .int 0]))] s.heap.size = A at hD ⊢
  have hA : ∀ q : Nat, s.heap.size ≤ q → A q := fun q h => by rw [← hAe]; exact Or.inr h
  have hS : va_S A s.heap s.heap [] := va_S.rf
  have hP : va_P D rz_cl [(h0, .inr (6, [.null, .null, .null, .null, .int 0, .int 0, .int 0]))] s.heap := hP
  have hl := lv_entry ([.ref h0]) (n := 1) (Nat.le_of_ble_eq_true rfl)
  rw [lg_entry_eq]
  generalize (lg_sl ([.ref h0]) ++ List.replicate (1 - (lg_sl ([.ref h0])).length) Slot.unset).toArray = ls at hl ⊢
  have hl : lv_has ls 1 [(0, .ref h0)] := hl
  refine lv_aload_n hx hb rk_d6_0 rfl (lv_at hl 0 rfl) ?_
  refine W.objInit hx hb hown (hts _ rk_w139) (hts _ rk_w54) (hts _ rk_w55) rfl (by rw [hml]; exact hl.1) rfl rk_d6_1 (Nat.le_of_ble_eq_true rfl) (Nat.le_of_ble_eq_true rfl) ?_
  refine W.eq (g2 := F0 m 4 ls []) rfl ?_
  refine lv_aload_n hx hb rk_d6_4 rfl (lv_at hl 0 rfl) ?_
  refine va_new (ci := 3) (fs := [.null]) (C := "RowImprover$Liveness") (T := rz_F3) (N := 1) hx hb hts (rz_clw_of (ci := 3) rfl) (rz_fty 3) (rz_cty_of (ci := 3) rfl) hown (hts _ rk_w140) (hts _ rk_w96) (hts _ rk_w31) hK hP hD hS hA rfl (rz_df3) (show 0 + 1 ≤ 11 by decide) (show 0 + 1 ≤ 49 by decide) rk_d6_5 (fun q1 H hP hD hS => ?_)
  have hP : va_P D rz_cl [(h0, .inr (6, [.null, .null, .null, .null, .int 0, .int 0, .int 0])), (q1, .inr (3, [.null]))] H := hP
  have hD : va_D A [(h0, .inr (6, [.null, .null, .null, .null, .int 0, .int 0, .int 0])), (q1, .inr (3, [.null]))] := hD
  refine W.widen (k := 1) (n := 1) (by omega) (by omega) ?_
  refine lv_dup hx hb rk_d6_8 rfl ?_
  have hPc := hP.sub (ws' := [(q1, .inr (3, [.null]))]) [1] rfl
  have hDc := hD.sub (ws' := [(q1, .inr (3, [.null]))]) [1] (by decide) rfl
  have hFc := va_free (wc := [(q1, .inr (3, [.null]))]) hD hS hA [1] rfl
  refine va_callv (va_runIN (As := []) (rest := [.ref q1, .ref h0]) ⟨hx, hb, hml, hown, hts⟩ (k_3 l D cI cJ q1 H.size) ⟨va_cnB 0 hts (rz_gi rk_w99) rfl rfl rfl (hN _ rk_w141 rfl) (hts _ rk_w31) (by decide +kernel) ⟨Nat.le_of_ble_eq_true rfl, Nat.le_of_ble_eq_true rfl⟩, rfl, hts _ rk_w98⟩ (rz_pre hPc hK hDc hN) rfl rfl hl.1 rfl (lv_room (Nat.le_of_ble_eq_true rfl)) rk_d6_9 ⟨(show 1 + 1 ≤ 11 by decide), (show 1 + 25 ≤ 49 by decide)⟩) hS (fun q _ h => hFc q h) hFc (fun u t H1 locs ht hvm _ hB hz1 hk1 hS => ?_)
  obtain ⟨q2, hP1, hD1⟩ := hB
  rw [ht] at hP1
  obtain ⟨hP, hD⟩ := va_join (wr := [(h0, .inr (6, [.null, .null, .null, .null, .int 0, .int 0, .int 0]))]) (w1 := [(q1, .inr (3, [.ref q2])), (q2, .inl (cI, 25, .inl fun _ => 0))]) hP hD [1] [0] rfl rfl (by decide) (by decide) hk1 hFc hP1 hD1
  generalize H1 = H at hP hS ⊢
  have hP : va_P D rz_cl [(h0, .inr (6, [.null, .null, .null, .null, .int 0, .int 0, .int 0])), (q1, .inr (3, [.ref q2])), (q2, .inl (cI, 25, .inl fun _ => 0))] H := hP
  have hD : va_D A [(h0, .inr (6, [.null, .null, .null, .null, .int 0, .int 0, .int 0])), (q1, .inr (3, [.ref q2])), (q2, .inl (cI, 25, .inl fun _ => 0))] := hD
  refine W.widen (k := 2) (n := 26) (by omega) (by omega) ?_
  refine va_putF (D := D) (ci := 6) (v := .ref q1) (ty := .object "RowImprover$Liveness") (C := "RowImprover$Improver") (T := rz_F6) (N := 7) hx hb hts (rz_clw_of (ci := 6) rfl) (rz_fty 6) (rz_cty_of (ci := 6) rfl) (rz_cnm_of (ci := 6) rfl) hown hK hP hD hS 0 rfl rfl 0 (by decide) (hts _ rk_w146) (fun _ h9 => h9) rfl hin rfl (by decide +kernel) rfl rfl (Nat.le_of_ble_eq_true rfl) rk_d6_12 (fun H locs hP hD hS => ?_)
  have hP : va_P D rz_cl [(h0, .inr (6, [.ref q1, .null, .null, .null, .int 0, .int 0, .int 0])), (q1, .inr (3, [.ref q2])), (q2, .inl (cI, 25, .inl fun _ => 0))] H := hP
  have hD : va_D A [(h0, .inr (6, [.ref q1, .null, .null, .null, .int 0, .int 0, .int 0])), (q1, .inr (3, [.ref q2])), (q2, .inl (cI, 25, .inl fun _ => 0))] := hD
  refine lv_aload_n hx hb rk_d6_15 rfl (lv_at hl 0 rfl) ?_
  refine va_new (ci := 4) (fs := [.null, .null, .int 0]) (C := "RowImprover$Prover") (T := rz_F4) (N := 3) hx hb hts (rz_clw_of (ci := 4) rfl) (rz_fty 4) (rz_cty_of (ci := 4) rfl) hown (hts _ rk_w142) (hts _ rk_w106) (hts _ rk_w32) hK hP hD hS hA rfl (rz_df4) (show 2 + 1 ≤ 11 by decide) (show 26 + 3 ≤ 49 by decide) rk_d6_16 (fun q3 H hP hD hS => ?_)
  have hP : va_P D rz_cl [(h0, .inr (6, [.ref q1, .null, .null, .null, .int 0, .int 0, .int 0])), (q1, .inr (3, [.ref q2])), (q2, .inl (cI, 25, .inl fun _ => 0)), (q3, .inr (4, [.null, .null, .int 0]))] H := hP
  have hD : va_D A [(h0, .inr (6, [.ref q1, .null, .null, .null, .int 0, .int 0, .int 0])), (q1, .inr (3, [.ref q2])), (q2, .inl (cI, 25, .inl fun _ => 0)), (q3, .inr (4, [.null, .null, .int 0]))] := hD
  refine W.widen (k := 3) (n := 29) (by omega) (by omega) ?_
  refine lv_dup hx hb rk_d6_19 rfl ?_
  have hPc := hP.sub (ws' := [(q3, .inr (4, [.null, .null, .int 0]))]) [3] rfl
  have hDc := hD.sub (ws' := [(q3, .inr (4, [.null, .null, .int 0]))]) [3] (by decide) rfl
  have hFc := va_free (wc := [(q3, .inr (4, [.null, .null, .int 0]))]) hD hS hA [3] rfl
  refine va_callv (va_runIN (As := []) (rest := [.ref q3, .ref h0]) ⟨hx, hb, hml, hown, hts⟩ (k_4 l D cI cJ q3 H.size) ⟨va_cnB 0 hts (rz_gi rk_w109) rfl rfl rfl (hN _ rk_w143 rfl) (hts _ rk_w32) (by decide +kernel) ⟨Nat.le_of_ble_eq_true rfl, Nat.le_of_ble_eq_true rfl⟩, rfl, hts _ rk_w108⟩ (rz_pre hPc hK hDc hN) rfl rfl hl.1 rfl (lv_room (Nat.le_of_ble_eq_true rfl)) rk_d6_20 ⟨(show 3 + 4 ≤ 11 by decide), (show 29 + 10 ≤ 49 by decide)⟩) hS (fun q _ h => hFc q h) hFc (fun u t H1 locs ht hvm _ hB hz1 hk1 hS => ?_)
  obtain ⟨q4, q5, q6, q7, hP1, hD1⟩ := hB
  rw [ht] at hP1
  obtain ⟨hP, hD⟩ := va_join (wr := [(h0, .inr (6, [.ref q1, .null, .null, .null, .int 0, .int 0, .int 0])), (q1, .inr (3, [.ref q2])), (q2, .inl (cI, 25, .inl fun _ => 0))]) (w1 := [(q3, .inr (4, [.ref q4, .ref q6, .int 0])), (q4, .inr (5, [.ref q5, .int 0])), (q5, .inl (cI, 3, .inl fun _ => 0)), (q6, .inr (5, [.ref q7, .int 0])), (q7, .inl (cI, 3, .inl fun _ => 0))]) hP hD [3] [0, 1, 2] rfl rfl (by decide) (by decide) hk1 hFc hP1 hD1
  generalize H1 = H at hP hS ⊢
  have hP : va_P D rz_cl [(h0, .inr (6, [.ref q1, .null, .null, .null, .int 0, .int 0, .int 0])), (q1, .inr (3, [.ref q2])), (q2, .inl (cI, 25, .inl fun _ => 0)), (q3, .inr (4, [.ref q4, .ref q6, .int 0])), (q4, .inr (5, [.ref q5, .int 0])), (q5, .inl (cI, 3, .inl fun _ => 0)), (q6, .inr (5, [.ref q7, .int 0])), (q7, .inl (cI, 3, .inl fun _ => 0))] H := hP
  have hD : va_D A [(h0, .inr (6, [.ref q1, .null, .null, .null, .int 0, .int 0, .int 0])), (q1, .inr (3, [.ref q2])), (q2, .inl (cI, 25, .inl fun _ => 0)), (q3, .inr (4, [.ref q4, .ref q6, .int 0])), (q4, .inr (5, [.ref q5, .int 0])), (q5, .inl (cI, 3, .inl fun _ => 0)), (q6, .inr (5, [.ref q7, .int 0])), (q7, .inl (cI, 3, .inl fun _ => 0))] := hD
  refine W.widen (k := 7) (n := 39) (by omega) (by omega) ?_
  refine va_putF (D := D) (ci := 6) (v := .ref q3) (ty := .object "RowImprover$Prover") (C := "RowImprover$Improver") (T := rz_F6) (N := 7) hx hb hts (rz_clw_of (ci := 6) rfl) (rz_fty 6) (rz_cty_of (ci := 6) rfl) (rz_cnm_of (ci := 6) rfl) hown hK hP hD hS 0 rfl rfl 1 (by decide) (hts _ rk_w147) (fun _ h9 => h9) rfl hin rfl (by decide +kernel) rfl rfl (Nat.le_of_ble_eq_true rfl) rk_d6_23 (fun H locs hP hD hS => ?_)
  have hP : va_P D rz_cl [(h0, .inr (6, [.ref q1, .ref q3, .null, .null, .int 0, .int 0, .int 0])), (q1, .inr (3, [.ref q2])), (q2, .inl (cI, 25, .inl fun _ => 0)), (q3, .inr (4, [.ref q4, .ref q6, .int 0])), (q4, .inr (5, [.ref q5, .int 0])), (q5, .inl (cI, 3, .inl fun _ => 0)), (q6, .inr (5, [.ref q7, .int 0])), (q7, .inl (cI, 3, .inl fun _ => 0))] H := hP
  have hD : va_D A [(h0, .inr (6, [.ref q1, .ref q3, .null, .null, .int 0, .int 0, .int 0])), (q1, .inr (3, [.ref q2])), (q2, .inl (cI, 25, .inl fun _ => 0)), (q3, .inr (4, [.ref q4, .ref q6, .int 0])), (q4, .inr (5, [.ref q5, .int 0])), (q5, .inl (cI, 3, .inl fun _ => 0)), (q6, .inr (5, [.ref q7, .int 0])), (q7, .inl (cI, 3, .inl fun _ => 0))] := hD
  refine lv_aload_n hx hb rk_d6_26 rfl (lv_at hl 0 rfl) ?_
  refine va_new (ci := 5) (fs := [.null, .int 0]) (C := "RowImprover$Row") (T := rz_F5) (N := 2) hx hb hts (rz_clw_of (ci := 5) rfl) (rz_fty 5) (rz_cty_of (ci := 5) rfl) hown (hts _ rk_w144) (hts _ rk_w112) (hts _ rk_w33) hK hP hD hS hA rfl (rz_df5) (show 7 + 1 ≤ 11 by decide) (show 39 + 2 ≤ 49 by decide) rk_d6_27 (fun q8 H hP hD hS => ?_)
  have hP : va_P D rz_cl [(h0, .inr (6, [.ref q1, .ref q3, .null, .null, .int 0, .int 0, .int 0])), (q1, .inr (3, [.ref q2])), (q2, .inl (cI, 25, .inl fun _ => 0)), (q3, .inr (4, [.ref q4, .ref q6, .int 0])), (q4, .inr (5, [.ref q5, .int 0])), (q5, .inl (cI, 3, .inl fun _ => 0)), (q6, .inr (5, [.ref q7, .int 0])), (q7, .inl (cI, 3, .inl fun _ => 0)), (q8, .inr (5, [.null, .int 0]))] H := hP
  have hD : va_D A [(h0, .inr (6, [.ref q1, .ref q3, .null, .null, .int 0, .int 0, .int 0])), (q1, .inr (3, [.ref q2])), (q2, .inl (cI, 25, .inl fun _ => 0)), (q3, .inr (4, [.ref q4, .ref q6, .int 0])), (q4, .inr (5, [.ref q5, .int 0])), (q5, .inl (cI, 3, .inl fun _ => 0)), (q6, .inr (5, [.ref q7, .int 0])), (q7, .inl (cI, 3, .inl fun _ => 0)), (q8, .inr (5, [.null, .int 0]))] := hD
  refine W.widen (k := 8) (n := 41) (by omega) (by omega) ?_
  refine lv_dup hx hb rk_d6_30 rfl ?_
  have hPc := hP.sub (ws' := [(q8, .inr (5, [.null, .int 0]))]) [8] rfl
  have hDc := hD.sub (ws' := [(q8, .inr (5, [.null, .int 0]))]) [8] (by decide) rfl
  have hFc := va_free (wc := [(q8, .inr (5, [.null, .int 0]))]) hD hS hA [8] rfl
  refine va_callv (va_runIN (As := []) (rest := [.ref q8, .ref h0]) ⟨hx, hb, hml, hown, hts⟩ (k_5 l D cI cJ q8 H.size) ⟨va_cnB 0 hts (rz_gi rk_w115) rfl rfl rfl (hN _ rk_w145 rfl) (hts _ rk_w33) (by decide +kernel) ⟨Nat.le_of_ble_eq_true rfl, Nat.le_of_ble_eq_true rfl⟩, rfl, hts _ rk_w114⟩ (rz_pre hPc hK hDc hN) rfl rfl hl.1 rfl (lv_room (Nat.le_of_ble_eq_true rfl)) rk_d6_31 ⟨(show 8 + 1 ≤ 11 by decide), (show 41 + 3 ≤ 49 by decide)⟩) hS (fun q _ h => hFc q h) hFc (fun u t H1 locs ht hvm _ hB hz1 hk1 hS => ?_)
  obtain ⟨q9, hP1, hD1⟩ := hB
  rw [ht] at hP1
  obtain ⟨hP, hD⟩ := va_join (wr := [(h0, .inr (6, [.ref q1, .ref q3, .null, .null, .int 0, .int 0, .int 0])), (q1, .inr (3, [.ref q2])), (q2, .inl (cI, 25, .inl fun _ => 0)), (q3, .inr (4, [.ref q4, .ref q6, .int 0])), (q4, .inr (5, [.ref q5, .int 0])), (q5, .inl (cI, 3, .inl fun _ => 0)), (q6, .inr (5, [.ref q7, .int 0])), (q7, .inl (cI, 3, .inl fun _ => 0))]) (w1 := [(q8, .inr (5, [.ref q9, .int 0])), (q9, .inl (cI, 3, .inl fun _ => 0))]) hP hD [8] [0, 1, 2, 3, 4, 5, 6, 7] rfl rfl (by decide) (by decide) hk1 hFc hP1 hD1
  generalize H1 = H at hP hS ⊢
  have hP : va_P D rz_cl [(h0, .inr (6, [.ref q1, .ref q3, .null, .null, .int 0, .int 0, .int 0])), (q1, .inr (3, [.ref q2])), (q2, .inl (cI, 25, .inl fun _ => 0)), (q3, .inr (4, [.ref q4, .ref q6, .int 0])), (q4, .inr (5, [.ref q5, .int 0])), (q5, .inl (cI, 3, .inl fun _ => 0)), (q6, .inr (5, [.ref q7, .int 0])), (q7, .inl (cI, 3, .inl fun _ => 0)), (q8, .inr (5, [.ref q9, .int 0])), (q9, .inl (cI, 3, .inl fun _ => 0))] H := hP
  have hD : va_D A [(h0, .inr (6, [.ref q1, .ref q3, .null, .null, .int 0, .int 0, .int 0])), (q1, .inr (3, [.ref q2])), (q2, .inl (cI, 25, .inl fun _ => 0)), (q3, .inr (4, [.ref q4, .ref q6, .int 0])), (q4, .inr (5, [.ref q5, .int 0])), (q5, .inl (cI, 3, .inl fun _ => 0)), (q6, .inr (5, [.ref q7, .int 0])), (q7, .inl (cI, 3, .inl fun _ => 0)), (q8, .inr (5, [.ref q9, .int 0])), (q9, .inl (cI, 3, .inl fun _ => 0))] := hD
  refine W.widen (k := 9) (n := 44) (by omega) (by omega) ?_
  refine va_putF (D := D) (ci := 6) (v := .ref q8) (ty := .object "RowImprover$Row") (C := "RowImprover$Improver") (T := rz_F6) (N := 7) hx hb hts (rz_clw_of (ci := 6) rfl) (rz_fty 6) (rz_cty_of (ci := 6) rfl) (rz_cnm_of (ci := 6) rfl) hown hK hP hD hS 0 rfl rfl 2 (by decide) (hts _ rk_w148) (fun _ h9 => h9) rfl hin rfl (by decide +kernel) rfl rfl (Nat.le_of_ble_eq_true rfl) rk_d6_34 (fun H locs hP hD hS => ?_)
  have hP : va_P D rz_cl [(h0, .inr (6, [.ref q1, .ref q3, .ref q8, .null, .int 0, .int 0, .int 0])), (q1, .inr (3, [.ref q2])), (q2, .inl (cI, 25, .inl fun _ => 0)), (q3, .inr (4, [.ref q4, .ref q6, .int 0])), (q4, .inr (5, [.ref q5, .int 0])), (q5, .inl (cI, 3, .inl fun _ => 0)), (q6, .inr (5, [.ref q7, .int 0])), (q7, .inl (cI, 3, .inl fun _ => 0)), (q8, .inr (5, [.ref q9, .int 0])), (q9, .inl (cI, 3, .inl fun _ => 0))] H := hP
  have hD : va_D A [(h0, .inr (6, [.ref q1, .ref q3, .ref q8, .null, .int 0, .int 0, .int 0])), (q1, .inr (3, [.ref q2])), (q2, .inl (cI, 25, .inl fun _ => 0)), (q3, .inr (4, [.ref q4, .ref q6, .int 0])), (q4, .inr (5, [.ref q5, .int 0])), (q5, .inl (cI, 3, .inl fun _ => 0)), (q6, .inr (5, [.ref q7, .int 0])), (q7, .inl (cI, 3, .inl fun _ => 0)), (q8, .inr (5, [.ref q9, .int 0])), (q9, .inl (cI, 3, .inl fun _ => 0))] := hD
  refine lv_aload_n hx hb rk_d6_37 rfl (lv_at hl 0 rfl) ?_
  refine va_new (ci := 5) (fs := [.null, .int 0]) (C := "RowImprover$Row") (T := rz_F5) (N := 2) hx hb hts (rz_clw_of (ci := 5) rfl) (rz_fty 5) (rz_cty_of (ci := 5) rfl) hown (hts _ rk_w144) (hts _ rk_w112) (hts _ rk_w33) hK hP hD hS hA rfl (rz_df5) (show 9 + 1 ≤ 11 by decide) (show 44 + 2 ≤ 49 by decide) rk_d6_38 (fun q10 H hP hD hS => ?_)
  have hP : va_P D rz_cl [(h0, .inr (6, [.ref q1, .ref q3, .ref q8, .null, .int 0, .int 0, .int 0])), (q1, .inr (3, [.ref q2])), (q2, .inl (cI, 25, .inl fun _ => 0)), (q3, .inr (4, [.ref q4, .ref q6, .int 0])), (q4, .inr (5, [.ref q5, .int 0])), (q5, .inl (cI, 3, .inl fun _ => 0)), (q6, .inr (5, [.ref q7, .int 0])), (q7, .inl (cI, 3, .inl fun _ => 0)), (q8, .inr (5, [.ref q9, .int 0])), (q9, .inl (cI, 3, .inl fun _ => 0)), (q10, .inr (5, [.null, .int 0]))] H := hP
  have hD : va_D A [(h0, .inr (6, [.ref q1, .ref q3, .ref q8, .null, .int 0, .int 0, .int 0])), (q1, .inr (3, [.ref q2])), (q2, .inl (cI, 25, .inl fun _ => 0)), (q3, .inr (4, [.ref q4, .ref q6, .int 0])), (q4, .inr (5, [.ref q5, .int 0])), (q5, .inl (cI, 3, .inl fun _ => 0)), (q6, .inr (5, [.ref q7, .int 0])), (q7, .inl (cI, 3, .inl fun _ => 0)), (q8, .inr (5, [.ref q9, .int 0])), (q9, .inl (cI, 3, .inl fun _ => 0)), (q10, .inr (5, [.null, .int 0]))] := hD
  refine W.widen (k := 10) (n := 46) (by omega) (by omega) ?_
  refine lv_dup hx hb rk_d6_41 rfl ?_
  have hPc := hP.sub (ws' := [(q10, .inr (5, [.null, .int 0]))]) [10] rfl
  have hDc := hD.sub (ws' := [(q10, .inr (5, [.null, .int 0]))]) [10] (by decide) rfl
  have hFc := va_free (wc := [(q10, .inr (5, [.null, .int 0]))]) hD hS hA [10] rfl
  refine va_callv (va_runIN (As := []) (rest := [.ref q10, .ref h0]) ⟨hx, hb, hml, hown, hts⟩ (k_5 l D cI cJ q10 H.size) ⟨va_cnB 0 hts (rz_gi rk_w115) rfl rfl rfl (hN _ rk_w145 rfl) (hts _ rk_w33) (by decide +kernel) ⟨Nat.le_of_ble_eq_true rfl, Nat.le_of_ble_eq_true rfl⟩, rfl, hts _ rk_w114⟩ (rz_pre hPc hK hDc hN) rfl rfl hl.1 rfl (lv_room (Nat.le_of_ble_eq_true rfl)) rk_d6_42 ⟨(show 10 + 1 ≤ 11 by decide), (show 46 + 3 ≤ 49 by decide)⟩) hS (fun q _ h => hFc q h) hFc (fun u t H1 locs ht hvm _ hB hz1 hk1 hS => ?_)
  obtain ⟨q11, hP1, hD1⟩ := hB
  rw [ht] at hP1
  obtain ⟨hP, hD⟩ := va_join (wr := [(h0, .inr (6, [.ref q1, .ref q3, .ref q8, .null, .int 0, .int 0, .int 0])), (q1, .inr (3, [.ref q2])), (q2, .inl (cI, 25, .inl fun _ => 0)), (q3, .inr (4, [.ref q4, .ref q6, .int 0])), (q4, .inr (5, [.ref q5, .int 0])), (q5, .inl (cI, 3, .inl fun _ => 0)), (q6, .inr (5, [.ref q7, .int 0])), (q7, .inl (cI, 3, .inl fun _ => 0)), (q8, .inr (5, [.ref q9, .int 0])), (q9, .inl (cI, 3, .inl fun _ => 0))]) (w1 := [(q10, .inr (5, [.ref q11, .int 0])), (q11, .inl (cI, 3, .inl fun _ => 0))]) hP hD [10] [0, 1, 2, 3, 4, 5, 6, 7, 8, 9] rfl rfl (by decide) (by decide) hk1 hFc hP1 hD1
  generalize H1 = H at hP hS ⊢
  have hP : va_P D rz_cl [(h0, .inr (6, [.ref q1, .ref q3, .ref q8, .null, .int 0, .int 0, .int 0])), (q1, .inr (3, [.ref q2])), (q2, .inl (cI, 25, .inl fun _ => 0)), (q3, .inr (4, [.ref q4, .ref q6, .int 0])), (q4, .inr (5, [.ref q5, .int 0])), (q5, .inl (cI, 3, .inl fun _ => 0)), (q6, .inr (5, [.ref q7, .int 0])), (q7, .inl (cI, 3, .inl fun _ => 0)), (q8, .inr (5, [.ref q9, .int 0])), (q9, .inl (cI, 3, .inl fun _ => 0)), (q10, .inr (5, [.ref q11, .int 0])), (q11, .inl (cI, 3, .inl fun _ => 0))] H := hP
  have hD : va_D A [(h0, .inr (6, [.ref q1, .ref q3, .ref q8, .null, .int 0, .int 0, .int 0])), (q1, .inr (3, [.ref q2])), (q2, .inl (cI, 25, .inl fun _ => 0)), (q3, .inr (4, [.ref q4, .ref q6, .int 0])), (q4, .inr (5, [.ref q5, .int 0])), (q5, .inl (cI, 3, .inl fun _ => 0)), (q6, .inr (5, [.ref q7, .int 0])), (q7, .inl (cI, 3, .inl fun _ => 0)), (q8, .inr (5, [.ref q9, .int 0])), (q9, .inl (cI, 3, .inl fun _ => 0)), (q10, .inr (5, [.ref q11, .int 0])), (q11, .inl (cI, 3, .inl fun _ => 0))] := hD
  refine W.widen (k := 11) (n := 49) (by omega) (by omega) ?_
  refine va_putF (D := D) (ci := 6) (v := .ref q10) (ty := .object "RowImprover$Row") (C := "RowImprover$Improver") (T := rz_F6) (N := 7) hx hb hts (rz_clw_of (ci := 6) rfl) (rz_fty 6) (rz_cty_of (ci := 6) rfl) (rz_cnm_of (ci := 6) rfl) hown hK hP hD hS 0 rfl rfl 3 (by decide) (hts _ rk_w149) (fun _ h9 => h9) rfl hin rfl (by decide +kernel) rfl rfl (Nat.le_of_ble_eq_true rfl) rk_d6_45 (fun H locs hP hD hS => ?_)
  have hP : va_P D rz_cl [(h0, .inr (6, [.ref q1, .ref q3, .ref q8, .ref q10, .int 0, .int 0, .int 0])), (q1, .inr (3, [.ref q2])), (q2, .inl (cI, 25, .inl fun _ => 0)), (q3, .inr (4, [.ref q4, .ref q6, .int 0])), (q4, .inr (5, [.ref q5, .int 0])), (q5, .inl (cI, 3, .inl fun _ => 0)), (q6, .inr (5, [.ref q7, .int 0])), (q7, .inl (cI, 3, .inl fun _ => 0)), (q8, .inr (5, [.ref q9, .int 0])), (q9, .inl (cI, 3, .inl fun _ => 0)), (q10, .inr (5, [.ref q11, .int 0])), (q11, .inl (cI, 3, .inl fun _ => 0))] H := hP
  have hD : va_D A [(h0, .inr (6, [.ref q1, .ref q3, .ref q8, .ref q10, .int 0, .int 0, .int 0])), (q1, .inr (3, [.ref q2])), (q2, .inl (cI, 25, .inl fun _ => 0)), (q3, .inr (4, [.ref q4, .ref q6, .int 0])), (q4, .inr (5, [.ref q5, .int 0])), (q5, .inl (cI, 3, .inl fun _ => 0)), (q6, .inr (5, [.ref q7, .int 0])), (q7, .inl (cI, 3, .inl fun _ => 0)), (q8, .inr (5, [.ref q9, .int 0])), (q9, .inl (cI, 3, .inl fun _ => 0)), (q10, .inr (5, [.ref q11, .int 0])), (q11, .inl (cI, 3, .inl fun _ => 0))] := hD
  exact W.vret hx hb hr (fun t ht hW => ⟨⟨(), rfl, trivial, q1, q2, q3, q4, q5, q6, q7, q8, q9, q10, q11, by rw [ht]; exact hP, hD⟩, hS.F ht⟩) hS.2.2 rk_d6_48
theorem rk_w52 : (Jvm.Cond.code ⟨"RowImprover", "<init>", "()V"⟩ prog_1_method_1_code (1 : Nat) (Option.none : Option Jvm.ClassFile.FieldType)) ∈ rz_tw := rz_use (List.mem_of_getElem? (i := 52) (by decide +kernel)) rfl
theorem rk_w53 : (Jvm.Cond.methodLink "RowImprover" (1 : Nat) Lib.objectInit) ∈ rz_tw := rz_use (List.mem_of_getElem? (i := 53) (by decide +kernel)) rfl
theorem rk_w56 : (Jvm.Cond.classLink "RowImprover" (7 : Nat) "RowImprover$Program") ∈ rz_tw := rz_use (List.mem_of_getElem? (i := 56) (by decide +kernel)) rfl
theorem rk_w57 : (Jvm.Cond.instantiable "RowImprover$Program" (2 : Nat)) ∈ rz_tw := rz_use (List.mem_of_getElem? (i := 57) (by decide +kernel)) rfl
theorem rk_w29 : (Jvm.Cond.initialized "RowImprover$Program") ∈ rz_tw := rz_use (List.mem_of_getElem? (i := 29) (by decide +kernel)) rfl
theorem rk_w58 : (Jvm.Cond.methodLinkNest "RowImprover" (9 : Nat) ⟨"RowImprover$Program", "<init>", "()V"⟩ "RowImprover") ∈ lw_tbl := List.mem_of_getElem? (i := 58) (by decide +kernel)
theorem rk_w59 : (Jvm.Cond.instanceMethod ⟨"RowImprover$Program", "<init>", "()V"⟩) ∈ rz_tw := rz_use (List.mem_of_getElem? (i := 59) (by decide +kernel)) rfl
theorem rk_w168 : (Jvm.Cond.fieldLink "RowImprover" (10 : Nat) "RowImprover" "program" "LRowImprover$Program;") ∈ rz_tw := rz_use (List.mem_of_getElem? (i := 168) (by decide +kernel)) rfl
theorem rk_w70 : (Jvm.Cond.classLink "RowImprover" (16 : Nat) "RowImprover$Machine") ∈ rz_tw := rz_use (List.mem_of_getElem? (i := 70) (by decide +kernel)) rfl
theorem rk_w71 : (Jvm.Cond.instantiable "RowImprover$Machine" (6 : Nat)) ∈ rz_tw := rz_use (List.mem_of_getElem? (i := 71) (by decide +kernel)) rfl
theorem rk_w30 : (Jvm.Cond.initialized "RowImprover$Machine") ∈ rz_tw := rz_use (List.mem_of_getElem? (i := 30) (by decide +kernel)) rfl
theorem rk_w72 : (Jvm.Cond.methodLinkNest "RowImprover" (18 : Nat) ⟨"RowImprover$Machine", "<init>", "()V"⟩ "RowImprover") ∈ lw_tbl := List.mem_of_getElem? (i := 72) (by decide +kernel)
theorem rk_w73 : (Jvm.Cond.instanceMethod ⟨"RowImprover$Machine", "<init>", "()V"⟩) ∈ rz_tw := rz_use (List.mem_of_getElem? (i := 73) (by decide +kernel)) rfl
theorem rk_w169 : (Jvm.Cond.fieldLink "RowImprover" (19 : Nat) "RowImprover" "machine" "LRowImprover$Machine;") ∈ rz_tw := rz_use (List.mem_of_getElem? (i := 169) (by decide +kernel)) rfl
theorem rk_w95 : (Jvm.Cond.classLink "RowImprover" (23 : Nat) "RowImprover$Liveness") ∈ rz_tw := rz_use (List.mem_of_getElem? (i := 95) (by decide +kernel)) rfl
theorem rk_w97 : (Jvm.Cond.methodLinkNest "RowImprover" (25 : Nat) ⟨"RowImprover$Liveness", "<init>", "()V"⟩ "RowImprover") ∈ lw_tbl := List.mem_of_getElem? (i := 97) (by decide +kernel)
theorem rk_w170 : (Jvm.Cond.fieldLink "RowImprover" (26 : Nat) "RowImprover" "liveness" "LRowImprover$Liveness;") ∈ rz_tw := rz_use (List.mem_of_getElem? (i := 170) (by decide +kernel)) rfl
theorem rk_w105 : (Jvm.Cond.classLink "RowImprover" (30 : Nat) "RowImprover$Prover") ∈ rz_tw := rz_use (List.mem_of_getElem? (i := 105) (by decide +kernel)) rfl
theorem rk_w107 : (Jvm.Cond.methodLinkNest "RowImprover" (32 : Nat) ⟨"RowImprover$Prover", "<init>", "()V"⟩ "RowImprover") ∈ lw_tbl := List.mem_of_getElem? (i := 107) (by decide +kernel)
theorem rk_w171 : (Jvm.Cond.fieldLink "RowImprover" (33 : Nat) "RowImprover" "prover" "LRowImprover$Prover;") ∈ rz_tw := rz_use (List.mem_of_getElem? (i := 171) (by decide +kernel)) rfl
theorem rk_w134 : (Jvm.Cond.classLink "RowImprover" (37 : Nat) "RowImprover$Improver") ∈ rz_tw := rz_use (List.mem_of_getElem? (i := 134) (by decide +kernel)) rfl
theorem rk_w135 : (Jvm.Cond.instantiable "RowImprover$Improver" (7 : Nat)) ∈ rz_tw := rz_use (List.mem_of_getElem? (i := 135) (by decide +kernel)) rfl
theorem rk_w34 : (Jvm.Cond.initialized "RowImprover$Improver") ∈ rz_tw := rz_use (List.mem_of_getElem? (i := 34) (by decide +kernel)) rfl
theorem rk_w136 : (Jvm.Cond.methodLinkNest "RowImprover" (39 : Nat) ⟨"RowImprover$Improver", "<init>", "()V"⟩ "RowImprover") ∈ lw_tbl := List.mem_of_getElem? (i := 136) (by decide +kernel)
theorem rk_w137 : (Jvm.Cond.instanceMethod ⟨"RowImprover$Improver", "<init>", "()V"⟩) ∈ rz_tw := rz_use (List.mem_of_getElem? (i := 137) (by decide +kernel)) rfl
theorem rk_w172 : (Jvm.Cond.fieldLink "RowImprover" (40 : Nat) "RowImprover" "improver" "LRowImprover$Improver;") ∈ rz_tw := rz_use (List.mem_of_getElem? (i := 172) (by decide +kernel)) rfl
/-- a new RowImprover -/
def rk_y0 : MethodName := ⟨"RowImprover", "<init>", "()V"⟩
theorem rk_d0_0 : decode prog_1_method_1_code 0 = .ok (.aload_n 0, 1) := by decide +kernel
theorem rk_d0_1 : decode prog_1_method_1_code 1 = .ok (.invokespecial 1, 3) := by decide +kernel
theorem rk_d0_4 : decode prog_1_method_1_code 4 = .ok (.aload_n 0, 1) := by decide +kernel
theorem rk_d0_5 : decode prog_1_method_1_code 5 = .ok (.new 7, 3) := by decide +kernel
theorem rk_d0_8 : decode prog_1_method_1_code 8 = .ok (.dup, 1) := by decide +kernel
theorem rk_d0_9 : decode prog_1_method_1_code 9 = .ok (.invokespecial 9, 3) := by decide +kernel
theorem rk_d0_12 : decode prog_1_method_1_code 12 = .ok (.putfield 10, 3) := by decide +kernel
theorem rk_d0_15 : decode prog_1_method_1_code 15 = .ok (.aload_n 0, 1) := by decide +kernel
theorem rk_d0_16 : decode prog_1_method_1_code 16 = .ok (.new 16, 3) := by decide +kernel
theorem rk_d0_19 : decode prog_1_method_1_code 19 = .ok (.dup, 1) := by decide +kernel
theorem rk_d0_20 : decode prog_1_method_1_code 20 = .ok (.invokespecial 18, 3) := by decide +kernel
theorem rk_d0_23 : decode prog_1_method_1_code 23 = .ok (.putfield 19, 3) := by decide +kernel
theorem rk_d0_26 : decode prog_1_method_1_code 26 = .ok (.aload_n 0, 1) := by decide +kernel
theorem rk_d0_27 : decode prog_1_method_1_code 27 = .ok (.new 23, 3) := by decide +kernel
theorem rk_d0_30 : decode prog_1_method_1_code 30 = .ok (.dup, 1) := by decide +kernel
theorem rk_d0_31 : decode prog_1_method_1_code 31 = .ok (.invokespecial 25, 3) := by decide +kernel
theorem rk_d0_34 : decode prog_1_method_1_code 34 = .ok (.putfield 26, 3) := by decide +kernel
theorem rk_d0_37 : decode prog_1_method_1_code 37 = .ok (.aload_n 0, 1) := by decide +kernel
theorem rk_d0_38 : decode prog_1_method_1_code 38 = .ok (.new 30, 3) := by decide +kernel
theorem rk_d0_41 : decode prog_1_method_1_code 41 = .ok (.dup, 1) := by decide +kernel
theorem rk_d0_42 : decode prog_1_method_1_code 42 = .ok (.invokespecial 32, 3) := by decide +kernel
theorem rk_d0_45 : decode prog_1_method_1_code 45 = .ok (.putfield 33, 3) := by decide +kernel
theorem rk_d0_48 : decode prog_1_method_1_code 48 = .ok (.aload_n 0, 1) := by decide +kernel
theorem rk_d0_49 : decode prog_1_method_1_code 49 = .ok (.new 37, 3) := by decide +kernel
theorem rk_d0_52 : decode prog_1_method_1_code 52 = .ok (.dup, 1) := by decide +kernel
theorem rk_d0_53 : decode prog_1_method_1_code 53 = .ok (.invokespecial 39, 3) := by decide +kernel
theorem rk_d0_56 : decode prog_1_method_1_code 56 = .ok (.putfield 40, 3) := by decide +kernel
theorem rk_d0_59 : decode prog_1_method_1_code 59 = .ok (.return_, 1) := by decide +kernel
set_option maxHeartbeats 4000000 in
set_option maxRecDepth 100000 in
theorem k_0 (l : Launch) (D : va_G) (cI cJ : ClassId) (h0 sz : Nat) : Met l rk_y0 (Cond.code rk_y0 prog_1_method_1_code 1 none :: rz_tw) ({ frames := 4, cells := 24, slots := 143, locals := 72 }) (rz_prc D cI cJ h0 sz [(h0, .inr (0, [.null, .null, .null, .null, .null]))]) (va_Qv (fun _ : Unit => True) (fun _ t => ∃ q1 q2 q3 q4 q5 q6 q7 q8 q9 q10 q11 q12 q13 q14 q15 q16 q17 q18 q19 q20 q21 q22 q23 q24 : Nat, va_P D rz_cl [(h0, .inr (0, [.ref q1, .ref q3, .ref q6, .ref q8, .ref q13])), (q1, .inr (1, [.ref q2, .int 0])), (q2, .inl (cI, 24, .inl fun _ => 0)), (q3, .inr (2, [.ref q4, .ref q5, .int 0, .int 0, .int 0, .int 0])), (q4, .inl (cI, 8, .inl fun _ => 0)), (q5, .inl (cI, 8, .inl fun _ => 0)), (q6, .inr (3, [.ref q7])), (q7, .inl (cI, 25, .inl fun _ => 0)), (q8, .inr (4, [.ref q9, .ref q11, .int 0])), (q9, .inr (5, [.ref q10, .int 0])), (q10, .inl (cI, 3, .inl fun _ => 0)), (q11, .inr (5, [.ref q12, .int 0])), (q12, .inl (cI, 3, .inl fun _ => 0)), (q13, .inr (6, [.ref q14, .ref q16, .ref q21, .ref q23, .int 0, .int 0, .int 0])), (q14, .inr (3, [.ref q15])), (q15, .inl (cI, 25, .inl fun _ => 0)), (q16, .inr (4, [.ref q17, .ref q19, .int 0])), (q17, .inr (5, [.ref q18, .int 0])), (q18, .inl (cI, 3, .inl fun _ => 0)), (q19, .inr (5, [.ref q20, .int 0])), (q20, .inl (cI, 3, .inl fun _ => 0)), (q21, .inr (5, [.ref q22, .int 0])), (q22, .inl (cI, 3, .inl fun _ => 0)), (q23, .inr (5, [.ref q24, .int 0])), (q24, .inl (cI, 3, .inl fun _ => 0))] t.heap ∧ va_D (va_A [(h0, .inr (0, [.null, .null, .null, .null, .null]))] sz) [(h0, .inr (0, [.ref q1, .ref q3, .ref q6, .ref q8, .ref q13])), (q1, .inr (1, [.ref q2, .int 0])), (q2, .inl (cI, 24, .inl fun _ => 0)), (q3, .inr (2, [.ref q4, .ref q5, .int 0, .int 0, .int 0, .int 0])), (q4, .inl (cI, 8, .inl fun _ => 0)), (q5, .inl (cI, 8, .inl fun _ => 0)), (q6, .inr (3, [.ref q7])), (q7, .inl (cI, 25, .inl fun _ => 0)), (q8, .inr (4, [.ref q9, .ref q11, .int 0])), (q9, .inr (5, [.ref q10, .int 0])), (q10, .inl (cI, 3, .inl fun _ => 0)), (q11, .inr (5, [.ref q12, .int 0])), (q12, .inl (cI, 3, .inl fun _ => 0)), (q13, .inr (6, [.ref q14, .ref q16, .ref q21, .ref q23, .int 0, .int 0, .int 0])), (q14, .inr (3, [.ref q15])), (q15, .inl (cI, 25, .inl fun _ => 0)), (q16, .inr (4, [.ref q17, .ref q19, .int 0])), (q17, .inr (5, [.ref q18, .int 0])), (q18, .inl (cI, 3, .inl fun _ => 0)), (q19, .inr (5, [.ref q20, .int 0])), (q20, .inl (cI, 3, .inl fun _ => 0)), (q21, .inr (5, [.ref q22, .int 0])), (q22, .inl (cI, 3, .inl fun _ => 0)), (q23, .inr (5, [.ref q24, .int 0])), (q24, .inl (cI, 3, .inl fun _ => 0))]) (va_A [(h0, .inr (0, [.null, .null, .null, .null, .null]))] sz)) 24 143 (va_A [(h0, .inr (0, [.null, .null, .null, .null, .null]))] sz) := by
  refine Met.ofW (cc := prog_1_method_1_code) (maxL := 1) (ret := none) (by decide) rfl ?_
  intro p e s m args below meth c s₁ B hml hv
  obtain ⟨rfl, hsz, hP, hK, hD0, hN⟩ := hv
  have hx := B.exec
  have hb := B.bytes
  have hr := B.returns
  have hts : ∀ w ∈ rz_tw, w.before ([.ref h0] : List Value).toArray s = true := fun w hw => atoms_spec (ws := Cond.code rk_y0 prog_1_method_1_code 1 none :: rz_tw) B.pre w (List.mem_cons_of_mem _ hw)
  have hown : s.vm.findClass "RowImprover" = some m.cls := findClass_of_methodNamed B.named
  have hlocks := B.notSynchronized
  have hin : meth.name = "<init>" := (name_of_methodNamed B.named B.method).1
  subst hsz
  have hD := hD0.self (sz := s.heap.size)
  generalize hAe : va_A [(h0, .inr (0, [.null, .null, .null, .null, .null]))] s.heap.size = A at hD ⊢
  have hA : ∀ q : Nat, s.heap.size ≤ q → A q := fun q h => by rw [← hAe]; exact Or.inr h
  have hS : va_S A s.heap s.heap [] := va_S.rf
  have hP : va_P D rz_cl [(h0, .inr (0, [.null, .null, .null, .null, .null]))] s.heap := hP
  have hl := lv_entry ([.ref h0]) (n := 1) (Nat.le_of_ble_eq_true rfl)
  rw [lg_entry_eq]
  generalize (lg_sl ([.ref h0]) ++ List.replicate (1 - (lg_sl ([.ref h0])).length) Slot.unset).toArray = ls at hl ⊢
  have hl : lv_has ls 1 [(0, .ref h0)] := hl
  refine lv_aload_n hx hb rk_d0_0 rfl (lv_at hl 0 rfl) ?_
  refine W.objInit hx hb hown (hts _ rk_w53) (hts _ rk_w54) (hts _ rk_w55) rfl (by rw [hml]; exact hl.1) rfl rk_d0_1 (Nat.le_of_ble_eq_true rfl) (Nat.le_of_ble_eq_true rfl) ?_
  refine W.eq (g2 := F0 m 4 ls []) rfl ?_
  refine lv_aload_n hx hb rk_d0_4 rfl (lv_at hl 0 rfl) ?_
  refine va_new (ci := 1) (fs := [.null, .int 0]) (C := "RowImprover$Program") (T := rz_F1) (N := 2) hx hb hts (rz_clw_of (ci := 1) rfl) (rz_fty 1) (rz_cty_of (ci := 1) rfl) hown (hts _ rk_w56) (hts _ rk_w57) (hts _ rk_w29) hK hP hD hS hA rfl (rz_df1) (show 0 + 1 ≤ 24 by decide) (show 0 + 2 ≤ 143 by decide) rk_d0_5 (fun q1 H hP hD hS => ?_)
  have hP : va_P D rz_cl [(h0, .inr (0, [.null, .null, .null, .null, .null])), (q1, .inr (1, [.null, .int 0]))] H := hP
  have hD : va_D A [(h0, .inr (0, [.null, .null, .null, .null, .null])), (q1, .inr (1, [.null, .int 0]))] := hD
  refine W.widen (k := 1) (n := 2) (by omega) (by omega) ?_
  refine lv_dup hx hb rk_d0_8 rfl ?_
  have hPc := hP.sub (ws' := [(q1, .inr (1, [.null, .int 0]))]) [1] rfl
  have hDc := hD.sub (ws' := [(q1, .inr (1, [.null, .int 0]))]) [1] (by decide) rfl
  have hFc := va_free (wc := [(q1, .inr (1, [.null, .int 0]))]) hD hS hA [1] rfl
  refine va_callv (va_runIN (As := []) (rest := [.ref q1, .ref h0]) ⟨hx, hb, hml, hown, hts⟩ (k_1 l D cI cJ q1 H.size) ⟨va_cnB 0 hts (rz_gi rk_w60) rfl rfl rfl (hN _ rk_w58 rfl) (hts _ rk_w29) (by decide +kernel) ⟨Nat.le_of_ble_eq_true rfl, Nat.le_of_ble_eq_true rfl⟩, rfl, hts _ rk_w59⟩ (rz_pre hPc hK hDc hN) rfl rfl hl.1 rfl (lv_room (Nat.le_of_ble_eq_true rfl)) rk_d0_9 ⟨(show 1 + 1 ≤ 24 by decide), (show 2 + 24 ≤ 143 by decide)⟩) hS (fun q _ h => hFc q h) hFc (fun u t H1 locs ht hvm _ hB hz1 hk1 hS => ?_)
  obtain ⟨q2, hP1, hD1⟩ := hB
  rw [ht] at hP1
  obtain ⟨hP, hD⟩ := va_join (wr := [(h0, .inr (0, [.null, .null, .null, .null, .null]))]) (w1 := [(q1, .inr (1, [.ref q2, .int 0])), (q2, .inl (cI, 24, .inl fun _ => 0))]) hP hD [1] [0] rfl rfl (by decide) (by decide) hk1 hFc hP1 hD1
  generalize H1 = H at hP hS ⊢
  have hP : va_P D rz_cl [(h0, .inr (0, [.null, .null, .null, .null, .null])), (q1, .inr (1, [.ref q2, .int 0])), (q2, .inl (cI, 24, .inl fun _ => 0))] H := hP
  have hD : va_D A [(h0, .inr (0, [.null, .null, .null, .null, .null])), (q1, .inr (1, [.ref q2, .int 0])), (q2, .inl (cI, 24, .inl fun _ => 0))] := hD
  refine W.widen (k := 2) (n := 26) (by omega) (by omega) ?_
  refine va_putF (D := D) (ci := 0) (v := .ref q1) (ty := .object "RowImprover$Program") (C := "RowImprover") (T := rz_F0) (N := 5) hx hb hts (rz_clw_of (ci := 0) rfl) (rz_fty 0) (rz_cty_of (ci := 0) rfl) (rz_cnm_of (ci := 0) rfl) hown hK hP hD hS 0 rfl rfl 0 (by decide) (hts _ rk_w168) (fun _ h9 => h9) rfl hin rfl (by decide +kernel) rfl rfl (Nat.le_of_ble_eq_true rfl) rk_d0_12 (fun H locs hP hD hS => ?_)
  have hP : va_P D rz_cl [(h0, .inr (0, [.ref q1, .null, .null, .null, .null])), (q1, .inr (1, [.ref q2, .int 0])), (q2, .inl (cI, 24, .inl fun _ => 0))] H := hP
  have hD : va_D A [(h0, .inr (0, [.ref q1, .null, .null, .null, .null])), (q1, .inr (1, [.ref q2, .int 0])), (q2, .inl (cI, 24, .inl fun _ => 0))] := hD
  refine lv_aload_n hx hb rk_d0_15 rfl (lv_at hl 0 rfl) ?_
  refine va_new (ci := 2) (fs := [.null, .null, .int 0, .int 0, .int 0, .int 0]) (C := "RowImprover$Machine") (T := rz_F2) (N := 6) hx hb hts (rz_clw_of (ci := 2) rfl) (rz_fty 2) (rz_cty_of (ci := 2) rfl) hown (hts _ rk_w70) (hts _ rk_w71) (hts _ rk_w30) hK hP hD hS hA rfl (rz_df2) (show 2 + 1 ≤ 24 by decide) (show 26 + 6 ≤ 143 by decide) rk_d0_16 (fun q3 H hP hD hS => ?_)
  have hP : va_P D rz_cl [(h0, .inr (0, [.ref q1, .null, .null, .null, .null])), (q1, .inr (1, [.ref q2, .int 0])), (q2, .inl (cI, 24, .inl fun _ => 0)), (q3, .inr (2, [.null, .null, .int 0, .int 0, .int 0, .int 0]))] H := hP
  have hD : va_D A [(h0, .inr (0, [.ref q1, .null, .null, .null, .null])), (q1, .inr (1, [.ref q2, .int 0])), (q2, .inl (cI, 24, .inl fun _ => 0)), (q3, .inr (2, [.null, .null, .int 0, .int 0, .int 0, .int 0]))] := hD
  refine W.widen (k := 3) (n := 32) (by omega) (by omega) ?_
  refine lv_dup hx hb rk_d0_19 rfl ?_
  have hPc := hP.sub (ws' := [(q3, .inr (2, [.null, .null, .int 0, .int 0, .int 0, .int 0]))]) [3] rfl
  have hDc := hD.sub (ws' := [(q3, .inr (2, [.null, .null, .int 0, .int 0, .int 0, .int 0]))]) [3] (by decide) rfl
  have hFc := va_free (wc := [(q3, .inr (2, [.null, .null, .int 0, .int 0, .int 0, .int 0]))]) hD hS hA [3] rfl
  refine va_callv (va_runIN (As := []) (rest := [.ref q3, .ref h0]) ⟨hx, hb, hml, hown, hts⟩ (k_2 l D cI cJ q3 H.size) ⟨va_cnB 0 hts (rz_gi rk_w74) rfl rfl rfl (hN _ rk_w72 rfl) (hts _ rk_w30) (by decide +kernel) ⟨Nat.le_of_ble_eq_true rfl, Nat.le_of_ble_eq_true rfl⟩, rfl, hts _ rk_w73⟩ (rz_pre hPc hK hDc hN) rfl rfl hl.1 rfl (lv_room (Nat.le_of_ble_eq_true rfl)) rk_d0_20 ⟨(show 3 + 2 ≤ 24 by decide), (show 32 + 16 ≤ 143 by decide)⟩) hS (fun q _ h => hFc q h) hFc (fun u t H1 locs ht hvm _ hB hz1 hk1 hS => ?_)
  obtain ⟨q4, q5, hP1, hD1⟩ := hB
  rw [ht] at hP1
  obtain ⟨hP, hD⟩ := va_join (wr := [(h0, .inr (0, [.ref q1, .null, .null, .null, .null])), (q1, .inr (1, [.ref q2, .int 0])), (q2, .inl (cI, 24, .inl fun _ => 0))]) (w1 := [(q3, .inr (2, [.ref q4, .ref q5, .int 0, .int 0, .int 0, .int 0])), (q4, .inl (cI, 8, .inl fun _ => 0)), (q5, .inl (cI, 8, .inl fun _ => 0))]) hP hD [3] [0, 1, 2] rfl rfl (by decide) (by decide) hk1 hFc hP1 hD1
  generalize H1 = H at hP hS ⊢
  have hP : va_P D rz_cl [(h0, .inr (0, [.ref q1, .null, .null, .null, .null])), (q1, .inr (1, [.ref q2, .int 0])), (q2, .inl (cI, 24, .inl fun _ => 0)), (q3, .inr (2, [.ref q4, .ref q5, .int 0, .int 0, .int 0, .int 0])), (q4, .inl (cI, 8, .inl fun _ => 0)), (q5, .inl (cI, 8, .inl fun _ => 0))] H := hP
  have hD : va_D A [(h0, .inr (0, [.ref q1, .null, .null, .null, .null])), (q1, .inr (1, [.ref q2, .int 0])), (q2, .inl (cI, 24, .inl fun _ => 0)), (q3, .inr (2, [.ref q4, .ref q5, .int 0, .int 0, .int 0, .int 0])), (q4, .inl (cI, 8, .inl fun _ => 0)), (q5, .inl (cI, 8, .inl fun _ => 0))] := hD
  refine W.widen (k := 5) (n := 48) (by omega) (by omega) ?_
  refine va_putF (D := D) (ci := 0) (v := .ref q3) (ty := .object "RowImprover$Machine") (C := "RowImprover") (T := rz_F0) (N := 5) hx hb hts (rz_clw_of (ci := 0) rfl) (rz_fty 0) (rz_cty_of (ci := 0) rfl) (rz_cnm_of (ci := 0) rfl) hown hK hP hD hS 0 rfl rfl 1 (by decide) (hts _ rk_w169) (fun _ h9 => h9) rfl hin rfl (by decide +kernel) rfl rfl (Nat.le_of_ble_eq_true rfl) rk_d0_23 (fun H locs hP hD hS => ?_)
  have hP : va_P D rz_cl [(h0, .inr (0, [.ref q1, .ref q3, .null, .null, .null])), (q1, .inr (1, [.ref q2, .int 0])), (q2, .inl (cI, 24, .inl fun _ => 0)), (q3, .inr (2, [.ref q4, .ref q5, .int 0, .int 0, .int 0, .int 0])), (q4, .inl (cI, 8, .inl fun _ => 0)), (q5, .inl (cI, 8, .inl fun _ => 0))] H := hP
  have hD : va_D A [(h0, .inr (0, [.ref q1, .ref q3, .null, .null, .null])), (q1, .inr (1, [.ref q2, .int 0])), (q2, .inl (cI, 24, .inl fun _ => 0)), (q3, .inr (2, [.ref q4, .ref q5, .int 0, .int 0, .int 0, .int 0])), (q4, .inl (cI, 8, .inl fun _ => 0)), (q5, .inl (cI, 8, .inl fun _ => 0))] := hD
  refine lv_aload_n hx hb rk_d0_26 rfl (lv_at hl 0 rfl) ?_
  refine va_new (ci := 3) (fs := [.null]) (C := "RowImprover$Liveness") (T := rz_F3) (N := 1) hx hb hts (rz_clw_of (ci := 3) rfl) (rz_fty 3) (rz_cty_of (ci := 3) rfl) hown (hts _ rk_w95) (hts _ rk_w96) (hts _ rk_w31) hK hP hD hS hA rfl (rz_df3) (show 5 + 1 ≤ 24 by decide) (show 48 + 1 ≤ 143 by decide) rk_d0_27 (fun q6 H hP hD hS => ?_)
  have hP : va_P D rz_cl [(h0, .inr (0, [.ref q1, .ref q3, .null, .null, .null])), (q1, .inr (1, [.ref q2, .int 0])), (q2, .inl (cI, 24, .inl fun _ => 0)), (q3, .inr (2, [.ref q4, .ref q5, .int 0, .int 0, .int 0, .int 0])), (q4, .inl (cI, 8, .inl fun _ => 0)), (q5, .inl (cI, 8, .inl fun _ => 0)), (q6, .inr (3, [.null]))] H := hP
  have hD : va_D A [(h0, .inr (0, [.ref q1, .ref q3, .null, .null, .null])), (q1, .inr (1, [.ref q2, .int 0])), (q2, .inl (cI, 24, .inl fun _ => 0)), (q3, .inr (2, [.ref q4, .ref q5, .int 0, .int 0, .int 0, .int 0])), (q4, .inl (cI, 8, .inl fun _ => 0)), (q5, .inl (cI, 8, .inl fun _ => 0)), (q6, .inr (3, [.null]))] := hD
  refine W.widen (k := 6) (n := 49) (by omega) (by omega) ?_
  refine lv_dup hx hb rk_d0_30 rfl ?_
  have hPc := hP.sub (ws' := [(q6, .inr (3, [.null]))]) [6] rfl
  have hDc := hD.sub (ws' := [(q6, .inr (3, [.null]))]) [6] (by decide) rfl
  have hFc := va_free (wc := [(q6, .inr (3, [.null]))]) hD hS hA [6] rfl
  refine va_callv (va_runIN (As := []) (rest := [.ref q6, .ref h0]) ⟨hx, hb, hml, hown, hts⟩ (k_3 l D cI cJ q6 H.size) ⟨va_cnB 0 hts (rz_gi rk_w99) rfl rfl rfl (hN _ rk_w97 rfl) (hts _ rk_w31) (by decide +kernel) ⟨Nat.le_of_ble_eq_true rfl, Nat.le_of_ble_eq_true rfl⟩, rfl, hts _ rk_w98⟩ (rz_pre hPc hK hDc hN) rfl rfl hl.1 rfl (lv_room (Nat.le_of_ble_eq_true rfl)) rk_d0_31 ⟨(show 6 + 1 ≤ 24 by decide), (show 49 + 25 ≤ 143 by decide)⟩) hS (fun q _ h => hFc q h) hFc (fun u t H1 locs ht hvm _ hB hz1 hk1 hS => ?_)
  obtain ⟨q7, hP1, hD1⟩ := hB
  rw [ht] at hP1
  obtain ⟨hP, hD⟩ := va_join (wr := [(h0, .inr (0, [.ref q1, .ref q3, .null, .null, .null])), (q1, .inr (1, [.ref q2, .int 0])), (q2, .inl (cI, 24, .inl fun _ => 0)), (q3, .inr (2, [.ref q4, .ref q5, .int 0, .int 0, .int 0, .int 0])), (q4, .inl (cI, 8, .inl fun _ => 0)), (q5, .inl (cI, 8, .inl fun _ => 0))]) (w1 := [(q6, .inr (3, [.ref q7])), (q7, .inl (cI, 25, .inl fun _ => 0))]) hP hD [6] [0, 1, 2, 3, 4, 5] rfl rfl (by decide) (by decide) hk1 hFc hP1 hD1
  generalize H1 = H at hP hS ⊢
  have hP : va_P D rz_cl [(h0, .inr (0, [.ref q1, .ref q3, .null, .null, .null])), (q1, .inr (1, [.ref q2, .int 0])), (q2, .inl (cI, 24, .inl fun _ => 0)), (q3, .inr (2, [.ref q4, .ref q5, .int 0, .int 0, .int 0, .int 0])), (q4, .inl (cI, 8, .inl fun _ => 0)), (q5, .inl (cI, 8, .inl fun _ => 0)), (q6, .inr (3, [.ref q7])), (q7, .inl (cI, 25, .inl fun _ => 0))] H := hP
  have hD : va_D A [(h0, .inr (0, [.ref q1, .ref q3, .null, .null, .null])), (q1, .inr (1, [.ref q2, .int 0])), (q2, .inl (cI, 24, .inl fun _ => 0)), (q3, .inr (2, [.ref q4, .ref q5, .int 0, .int 0, .int 0, .int 0])), (q4, .inl (cI, 8, .inl fun _ => 0)), (q5, .inl (cI, 8, .inl fun _ => 0)), (q6, .inr (3, [.ref q7])), (q7, .inl (cI, 25, .inl fun _ => 0))] := hD
  refine W.widen (k := 7) (n := 74) (by omega) (by omega) ?_
  refine va_putF (D := D) (ci := 0) (v := .ref q6) (ty := .object "RowImprover$Liveness") (C := "RowImprover") (T := rz_F0) (N := 5) hx hb hts (rz_clw_of (ci := 0) rfl) (rz_fty 0) (rz_cty_of (ci := 0) rfl) (rz_cnm_of (ci := 0) rfl) hown hK hP hD hS 0 rfl rfl 2 (by decide) (hts _ rk_w170) (fun _ h9 => h9) rfl hin rfl (by decide +kernel) rfl rfl (Nat.le_of_ble_eq_true rfl) rk_d0_34 (fun H locs hP hD hS => ?_)
  have hP : va_P D rz_cl [(h0, .inr (0, [.ref q1, .ref q3, .ref q6, .null, .null])), (q1, .inr (1, [.ref q2, .int 0])), (q2, .inl (cI, 24, .inl fun _ => 0)), (q3, .inr (2, [.ref q4, .ref q5, .int 0, .int 0, .int 0, .int 0])), (q4, .inl (cI, 8, .inl fun _ => 0)), (q5, .inl (cI, 8, .inl fun _ => 0)), (q6, .inr (3, [.ref q7])), (q7, .inl (cI, 25, .inl fun _ => 0))] H := hP
  have hD : va_D A [(h0, .inr (0, [.ref q1, .ref q3, .ref q6, .null, .null])), (q1, .inr (1, [.ref q2, .int 0])), (q2, .inl (cI, 24, .inl fun _ => 0)), (q3, .inr (2, [.ref q4, .ref q5, .int 0, .int 0, .int 0, .int 0])), (q4, .inl (cI, 8, .inl fun _ => 0)), (q5, .inl (cI, 8, .inl fun _ => 0)), (q6, .inr (3, [.ref q7])), (q7, .inl (cI, 25, .inl fun _ => 0))] := hD
  refine lv_aload_n hx hb rk_d0_37 rfl (lv_at hl 0 rfl) ?_
  refine va_new (ci := 4) (fs := [.null, .null, .int 0]) (C := "RowImprover$Prover") (T := rz_F4) (N := 3) hx hb hts (rz_clw_of (ci := 4) rfl) (rz_fty 4) (rz_cty_of (ci := 4) rfl) hown (hts _ rk_w105) (hts _ rk_w106) (hts _ rk_w32) hK hP hD hS hA rfl (rz_df4) (show 7 + 1 ≤ 24 by decide) (show 74 + 3 ≤ 143 by decide) rk_d0_38 (fun q8 H hP hD hS => ?_)
  have hP : va_P D rz_cl [(h0, .inr (0, [.ref q1, .ref q3, .ref q6, .null, .null])), (q1, .inr (1, [.ref q2, .int 0])), (q2, .inl (cI, 24, .inl fun _ => 0)), (q3, .inr (2, [.ref q4, .ref q5, .int 0, .int 0, .int 0, .int 0])), (q4, .inl (cI, 8, .inl fun _ => 0)), (q5, .inl (cI, 8, .inl fun _ => 0)), (q6, .inr (3, [.ref q7])), (q7, .inl (cI, 25, .inl fun _ => 0)), (q8, .inr (4, [.null, .null, .int 0]))] H := hP
  have hD : va_D A [(h0, .inr (0, [.ref q1, .ref q3, .ref q6, .null, .null])), (q1, .inr (1, [.ref q2, .int 0])), (q2, .inl (cI, 24, .inl fun _ => 0)), (q3, .inr (2, [.ref q4, .ref q5, .int 0, .int 0, .int 0, .int 0])), (q4, .inl (cI, 8, .inl fun _ => 0)), (q5, .inl (cI, 8, .inl fun _ => 0)), (q6, .inr (3, [.ref q7])), (q7, .inl (cI, 25, .inl fun _ => 0)), (q8, .inr (4, [.null, .null, .int 0]))] := hD
  refine W.widen (k := 8) (n := 77) (by omega) (by omega) ?_
  refine lv_dup hx hb rk_d0_41 rfl ?_
  have hPc := hP.sub (ws' := [(q8, .inr (4, [.null, .null, .int 0]))]) [8] rfl
  have hDc := hD.sub (ws' := [(q8, .inr (4, [.null, .null, .int 0]))]) [8] (by decide) rfl
  have hFc := va_free (wc := [(q8, .inr (4, [.null, .null, .int 0]))]) hD hS hA [8] rfl
  refine va_callv (va_runIN (As := []) (rest := [.ref q8, .ref h0]) ⟨hx, hb, hml, hown, hts⟩ (k_4 l D cI cJ q8 H.size) ⟨va_cnB 0 hts (rz_gi rk_w109) rfl rfl rfl (hN _ rk_w107 rfl) (hts _ rk_w32) (by decide +kernel) ⟨Nat.le_of_ble_eq_true rfl, Nat.le_of_ble_eq_true rfl⟩, rfl, hts _ rk_w108⟩ (rz_pre hPc hK hDc hN) rfl rfl hl.1 rfl (lv_room (Nat.le_of_ble_eq_true rfl)) rk_d0_42 ⟨(show 8 + 4 ≤ 24 by decide), (show 77 + 10 ≤ 143 by decide)⟩) hS (fun q _ h => hFc q h) hFc (fun u t H1 locs ht hvm _ hB hz1 hk1 hS => ?_)
  obtain ⟨q9, q10, q11, q12, hP1, hD1⟩ := hB
  rw [ht] at hP1
  obtain ⟨hP, hD⟩ := va_join (wr := [(h0, .inr (0, [.ref q1, .ref q3, .ref q6, .null, .null])), (q1, .inr (1, [.ref q2, .int 0])), (q2, .inl (cI, 24, .inl fun _ => 0)), (q3, .inr (2, [.ref q4, .ref q5, .int 0, .int 0, .int 0, .int 0])), (q4, .inl (cI, 8, .inl fun _ => 0)), (q5, .inl (cI, 8, .inl fun _ => 0)), (q6, .inr (3, [.ref q7])), (q7, .inl (cI, 25, .inl fun _ => 0))]) (w1 := [(q8, .inr (4, [.ref q9, .ref q11, .int 0])), (q9, .inr (5, [.ref q10, .int 0])), (q10, .inl (cI, 3, .inl fun _ => 0)), (q11, .inr (5, [.ref q12, .int 0])), (q12, .inl (cI, 3, .inl fun _ => 0))]) hP hD [8] [0, 1, 2, 3, 4, 5, 6, 7] rfl rfl (by decide) (by decide) hk1 hFc hP1 hD1
  generalize H1 = H at hP hS ⊢
  have hP : va_P D rz_cl [(h0, .inr (0, [.ref q1, .ref q3, .ref q6, .null, .null])), (q1, .inr (1, [.ref q2, .int 0])), (q2, .inl (cI, 24, .inl fun _ => 0)), (q3, .inr (2, [.ref q4, .ref q5, .int 0, .int 0, .int 0, .int 0])), (q4, .inl (cI, 8, .inl fun _ => 0)), (q5, .inl (cI, 8, .inl fun _ => 0)), (q6, .inr (3, [.ref q7])), (q7, .inl (cI, 25, .inl fun _ => 0)), (q8, .inr (4, [.ref q9, .ref q11, .int 0])), (q9, .inr (5, [.ref q10, .int 0])), (q10, .inl (cI, 3, .inl fun _ => 0)), (q11, .inr (5, [.ref q12, .int 0])), (q12, .inl (cI, 3, .inl fun _ => 0))] H := hP
  have hD : va_D A [(h0, .inr (0, [.ref q1, .ref q3, .ref q6, .null, .null])), (q1, .inr (1, [.ref q2, .int 0])), (q2, .inl (cI, 24, .inl fun _ => 0)), (q3, .inr (2, [.ref q4, .ref q5, .int 0, .int 0, .int 0, .int 0])), (q4, .inl (cI, 8, .inl fun _ => 0)), (q5, .inl (cI, 8, .inl fun _ => 0)), (q6, .inr (3, [.ref q7])), (q7, .inl (cI, 25, .inl fun _ => 0)), (q8, .inr (4, [.ref q9, .ref q11, .int 0])), (q9, .inr (5, [.ref q10, .int 0])), (q10, .inl (cI, 3, .inl fun _ => 0)), (q11, .inr (5, [.ref q12, .int 0])), (q12, .inl (cI, 3, .inl fun _ => 0))] := hD
  refine W.widen (k := 12) (n := 87) (by omega) (by omega) ?_
  refine va_putF (D := D) (ci := 0) (v := .ref q8) (ty := .object "RowImprover$Prover") (C := "RowImprover") (T := rz_F0) (N := 5) hx hb hts (rz_clw_of (ci := 0) rfl) (rz_fty 0) (rz_cty_of (ci := 0) rfl) (rz_cnm_of (ci := 0) rfl) hown hK hP hD hS 0 rfl rfl 3 (by decide) (hts _ rk_w171) (fun _ h9 => h9) rfl hin rfl (by decide +kernel) rfl rfl (Nat.le_of_ble_eq_true rfl) rk_d0_45 (fun H locs hP hD hS => ?_)
  have hP : va_P D rz_cl [(h0, .inr (0, [.ref q1, .ref q3, .ref q6, .ref q8, .null])), (q1, .inr (1, [.ref q2, .int 0])), (q2, .inl (cI, 24, .inl fun _ => 0)), (q3, .inr (2, [.ref q4, .ref q5, .int 0, .int 0, .int 0, .int 0])), (q4, .inl (cI, 8, .inl fun _ => 0)), (q5, .inl (cI, 8, .inl fun _ => 0)), (q6, .inr (3, [.ref q7])), (q7, .inl (cI, 25, .inl fun _ => 0)), (q8, .inr (4, [.ref q9, .ref q11, .int 0])), (q9, .inr (5, [.ref q10, .int 0])), (q10, .inl (cI, 3, .inl fun _ => 0)), (q11, .inr (5, [.ref q12, .int 0])), (q12, .inl (cI, 3, .inl fun _ => 0))] H := hP
  have hD : va_D A [(h0, .inr (0, [.ref q1, .ref q3, .ref q6, .ref q8, .null])), (q1, .inr (1, [.ref q2, .int 0])), (q2, .inl (cI, 24, .inl fun _ => 0)), (q3, .inr (2, [.ref q4, .ref q5, .int 0, .int 0, .int 0, .int 0])), (q4, .inl (cI, 8, .inl fun _ => 0)), (q5, .inl (cI, 8, .inl fun _ => 0)), (q6, .inr (3, [.ref q7])), (q7, .inl (cI, 25, .inl fun _ => 0)), (q8, .inr (4, [.ref q9, .ref q11, .int 0])), (q9, .inr (5, [.ref q10, .int 0])), (q10, .inl (cI, 3, .inl fun _ => 0)), (q11, .inr (5, [.ref q12, .int 0])), (q12, .inl (cI, 3, .inl fun _ => 0))] := hD
  refine lv_aload_n hx hb rk_d0_48 rfl (lv_at hl 0 rfl) ?_
  refine va_new (ci := 6) (fs := [.null, .null, .null, .null, .int 0, .int 0, .int 0]) (C := "RowImprover$Improver") (T := rz_F6) (N := 7) hx hb hts (rz_clw_of (ci := 6) rfl) (rz_fty 6) (rz_cty_of (ci := 6) rfl) hown (hts _ rk_w134) (hts _ rk_w135) (hts _ rk_w34) hK hP hD hS hA rfl (rz_df6) (show 12 + 1 ≤ 24 by decide) (show 87 + 7 ≤ 143 by decide) rk_d0_49 (fun q13 H hP hD hS => ?_)
  have hP : va_P D rz_cl [(h0, .inr (0, [.ref q1, .ref q3, .ref q6, .ref q8, .null])), (q1, .inr (1, [.ref q2, .int 0])), (q2, .inl (cI, 24, .inl fun _ => 0)), (q3, .inr (2, [.ref q4, .ref q5, .int 0, .int 0, .int 0, .int 0])), (q4, .inl (cI, 8, .inl fun _ => 0)), (q5, .inl (cI, 8, .inl fun _ => 0)), (q6, .inr (3, [.ref q7])), (q7, .inl (cI, 25, .inl fun _ => 0)), (q8, .inr (4, [.ref q9, .ref q11, .int 0])), (q9, .inr (5, [.ref q10, .int 0])), (q10, .inl (cI, 3, .inl fun _ => 0)), (q11, .inr (5, [.ref q12, .int 0])), (q12, .inl (cI, 3, .inl fun _ => 0)), (q13, .inr (6, [.null, .null, .null, .null, .int 0, .int 0, .int 0]))] H := hP
  have hD : va_D A [(h0, .inr (0, [.ref q1, .ref q3, .ref q6, .ref q8, .null])), (q1, .inr (1, [.ref q2, .int 0])), (q2, .inl (cI, 24, .inl fun _ => 0)), (q3, .inr (2, [.ref q4, .ref q5, .int 0, .int 0, .int 0, .int 0])), (q4, .inl (cI, 8, .inl fun _ => 0)), (q5, .inl (cI, 8, .inl fun _ => 0)), (q6, .inr (3, [.ref q7])), (q7, .inl (cI, 25, .inl fun _ => 0)), (q8, .inr (4, [.ref q9, .ref q11, .int 0])), (q9, .inr (5, [.ref q10, .int 0])), (q10, .inl (cI, 3, .inl fun _ => 0)), (q11, .inr (5, [.ref q12, .int 0])), (q12, .inl (cI, 3, .inl fun _ => 0)), (q13, .inr (6, [.null, .null, .null, .null, .int 0, .int 0, .int 0]))] := hD
  refine W.widen (k := 13) (n := 94) (by omega) (by omega) ?_
  refine lv_dup hx hb rk_d0_52 rfl ?_
  have hPc := hP.sub (ws' := [(q13, .inr (6, [.null, .null, .null, .null, .int 0, .int 0, .int 0]))]) [13] rfl
  have hDc := hD.sub (ws' := [(q13, .inr (6, [.null, .null, .null, .null, .int 0, .int 0, .int 0]))]) [13] (by decide) rfl
  have hFc := va_free (wc := [(q13, .inr (6, [.null, .null, .null, .null, .int 0, .int 0, .int 0]))]) hD hS hA [13] rfl
  refine va_callv (va_runIN (As := []) (rest := [.ref q13, .ref h0]) ⟨hx, hb, hml, hown, hts⟩ (k_6 l D cI cJ q13 H.size) ⟨va_cnB 0 hts (rz_gi rk_w138) rfl rfl rfl (hN _ rk_w136 rfl) (hts _ rk_w34) (by decide +kernel) ⟨Nat.le_of_ble_eq_true rfl, Nat.le_of_ble_eq_true rfl⟩, rfl, hts _ rk_w137⟩ (rz_pre hPc hK hDc hN) rfl rfl hl.1 rfl (lv_room (Nat.le_of_ble_eq_true rfl)) rk_d0_53 ⟨(show 13 + 11 ≤ 24 by decide), (show 94 + 49 ≤ 143 by decide)⟩) hS (fun q _ h => hFc q h) hFc (fun u t H1 locs ht hvm _ hB hz1 hk1 hS => ?_)
  obtain ⟨q14, q15, q16, q17, q18, q19, q20, q21, q22, q23, q24, hP1, hD1⟩ := hB
  rw [ht] at hP1
  obtain ⟨hP, hD⟩ := va_join (wr := [(h0, .inr (0, [.ref q1, .ref q3, .ref q6, .ref q8, .null])), (q1, .inr (1, [.ref q2, .int 0])), (q2, .inl (cI, 24, .inl fun _ => 0)), (q3, .inr (2, [.ref q4, .ref q5, .int 0, .int 0, .int 0, .int 0])), (q4, .inl (cI, 8, .inl fun _ => 0)), (q5, .inl (cI, 8, .inl fun _ => 0)), (q6, .inr (3, [.ref q7])), (q7, .inl (cI, 25, .inl fun _ => 0)), (q8, .inr (4, [.ref q9, .ref q11, .int 0])), (q9, .inr (5, [.ref q10, .int 0])), (q10, .inl (cI, 3, .inl fun _ => 0)), (q11, .inr (5, [.ref q12, .int 0])), (q12, .inl (cI, 3, .inl fun _ => 0))]) (w1 := [(q13, .inr (6, [.ref q14, .ref q16, .ref q21, .ref q23, .int 0, .int 0, .int 0])), (q14, .inr (3, [.ref q15])), (q15, .inl (cI, 25, .inl fun _ => 0)), (q16, .inr (4, [.ref q17, .ref q19, .int 0])), (q17, .inr (5, [.ref q18, .int 0])), (q18, .inl (cI, 3, .inl fun _ => 0)), (q19, .inr (5, [.ref q20, .int 0])), (q20, .inl (cI, 3, .inl fun _ => 0)), (q21, .inr (5, [.ref q22, .int 0])), (q22, .inl (cI, 3, .inl fun _ => 0)), (q23, .inr (5, [.ref q24, .int 0])), (q24, .inl (cI, 3, .inl fun _ => 0))]) hP hD [13] [0, 1, 2, 3, 4, 5, 6, 7, 8, 9, 10, 11, 12] rfl rfl (by decide) (by decide) hk1 hFc hP1 hD1
  generalize H1 = H at hP hS ⊢
  have hP : va_P D rz_cl [(h0, .inr (0, [.ref q1, .ref q3, .ref q6, .ref q8, .null])), (q1, .inr (1, [.ref q2, .int 0])), (q2, .inl (cI, 24, .inl fun _ => 0)), (q3, .inr (2, [.ref q4, .ref q5, .int 0, .int 0, .int 0, .int 0])), (q4, .inl (cI, 8, .inl fun _ => 0)), (q5, .inl (cI, 8, .inl fun _ => 0)), (q6, .inr (3, [.ref q7])), (q7, .inl (cI, 25, .inl fun _ => 0)), (q8, .inr (4, [.ref q9, .ref q11, .int 0])), (q9, .inr (5, [.ref q10, .int 0])), (q10, .inl (cI, 3, .inl fun _ => 0)), (q11, .inr (5, [.ref q12, .int 0])), (q12, .inl (cI, 3, .inl fun _ => 0)), (q13, .inr (6, [.ref q14, .ref q16, .ref q21, .ref q23, .int 0, .int 0, .int 0])), (q14, .inr (3, [.ref q15])), (q15, .inl (cI, 25, .inl fun _ => 0)), (q16, .inr (4, [.ref q17, .ref q19, .int 0])), (q17, .inr (5, [.ref q18, .int 0])), (q18, .inl (cI, 3, .inl fun _ => 0)), (q19, .inr (5, [.ref q20, .int 0])), (q20, .inl (cI, 3, .inl fun _ => 0)), (q21, .inr (5, [.ref q22, .int 0])), (q22, .inl (cI, 3, .inl fun _ => 0)), (q23, .inr (5, [.ref q24, .int 0])), (q24, .inl (cI, 3, .inl fun _ => 0))] H := hP
  have hD : va_D A [(h0, .inr (0, [.ref q1, .ref q3, .ref q6, .ref q8, .null])), (q1, .inr (1, [.ref q2, .int 0])), (q2, .inl (cI, 24, .inl fun _ => 0)), (q3, .inr (2, [.ref q4, .ref q5, .int 0, .int 0, .int 0, .int 0])), (q4, .inl (cI, 8, .inl fun _ => 0)), (q5, .inl (cI, 8, .inl fun _ => 0)), (q6, .inr (3, [.ref q7])), (q7, .inl (cI, 25, .inl fun _ => 0)), (q8, .inr (4, [.ref q9, .ref q11, .int 0])), (q9, .inr (5, [.ref q10, .int 0])), (q10, .inl (cI, 3, .inl fun _ => 0)), (q11, .inr (5, [.ref q12, .int 0])), (q12, .inl (cI, 3, .inl fun _ => 0)), (q13, .inr (6, [.ref q14, .ref q16, .ref q21, .ref q23, .int 0, .int 0, .int 0])), (q14, .inr (3, [.ref q15])), (q15, .inl (cI, 25, .inl fun _ => 0)), (q16, .inr (4, [.ref q17, .ref q19, .int 0])), (q17, .inr (5, [.ref q18, .int 0])), (q18, .inl (cI, 3, .inl fun _ => 0)), (q19, .inr (5, [.ref q20, .int 0])), (q20, .inl (cI, 3, .inl fun _ => 0)), (q21, .inr (5, [.ref q22, .int 0])), (q22, .inl (cI, 3, .inl fun _ => 0)), (q23, .inr (5, [.ref q24, .int 0])), (q24, .inl (cI, 3, .inl fun _ => 0))] := hD
  refine W.widen (k := 24) (n := 143) (by omega) (by omega) ?_
  refine va_putF (D := D) (ci := 0) (v := .ref q13) (ty := .object "RowImprover$Improver") (C := "RowImprover") (T := rz_F0) (N := 5) hx hb hts (rz_clw_of (ci := 0) rfl) (rz_fty 0) (rz_cty_of (ci := 0) rfl) (rz_cnm_of (ci := 0) rfl) hown hK hP hD hS 0 rfl rfl 4 (by decide) (hts _ rk_w172) (fun _ h9 => h9) rfl hin rfl (by decide +kernel) rfl rfl (Nat.le_of_ble_eq_true rfl) rk_d0_56 (fun H locs hP hD hS => ?_)
  have hP : va_P D rz_cl [(h0, .inr (0, [.ref q1, .ref q3, .ref q6, .ref q8, .ref q13])), (q1, .inr (1, [.ref q2, .int 0])), (q2, .inl (cI, 24, .inl fun _ => 0)), (q3, .inr (2, [.ref q4, .ref q5, .int 0, .int 0, .int 0, .int 0])), (q4, .inl (cI, 8, .inl fun _ => 0)), (q5, .inl (cI, 8, .inl fun _ => 0)), (q6, .inr (3, [.ref q7])), (q7, .inl (cI, 25, .inl fun _ => 0)), (q8, .inr (4, [.ref q9, .ref q11, .int 0])), (q9, .inr (5, [.ref q10, .int 0])), (q10, .inl (cI, 3, .inl fun _ => 0)), (q11, .inr (5, [.ref q12, .int 0])), (q12, .inl (cI, 3, .inl fun _ => 0)), (q13, .inr (6, [.ref q14, .ref q16, .ref q21, .ref q23, .int 0, .int 0, .int 0])), (q14, .inr (3, [.ref q15])), (q15, .inl (cI, 25, .inl fun _ => 0)), (q16, .inr (4, [.ref q17, .ref q19, .int 0])), (q17, .inr (5, [.ref q18, .int 0])), (q18, .inl (cI, 3, .inl fun _ => 0)), (q19, .inr (5, [.ref q20, .int 0])), (q20, .inl (cI, 3, .inl fun _ => 0)), (q21, .inr (5, [.ref q22, .int 0])), (q22, .inl (cI, 3, .inl fun _ => 0)), (q23, .inr (5, [.ref q24, .int 0])), (q24, .inl (cI, 3, .inl fun _ => 0))] H := hP
  have hD : va_D A [(h0, .inr (0, [.ref q1, .ref q3, .ref q6, .ref q8, .ref q13])), (q1, .inr (1, [.ref q2, .int 0])), (q2, .inl (cI, 24, .inl fun _ => 0)), (q3, .inr (2, [.ref q4, .ref q5, .int 0, .int 0, .int 0, .int 0])), (q4, .inl (cI, 8, .inl fun _ => 0)), (q5, .inl (cI, 8, .inl fun _ => 0)), (q6, .inr (3, [.ref q7])), (q7, .inl (cI, 25, .inl fun _ => 0)), (q8, .inr (4, [.ref q9, .ref q11, .int 0])), (q9, .inr (5, [.ref q10, .int 0])), (q10, .inl (cI, 3, .inl fun _ => 0)), (q11, .inr (5, [.ref q12, .int 0])), (q12, .inl (cI, 3, .inl fun _ => 0)), (q13, .inr (6, [.ref q14, .ref q16, .ref q21, .ref q23, .int 0, .int 0, .int 0])), (q14, .inr (3, [.ref q15])), (q15, .inl (cI, 25, .inl fun _ => 0)), (q16, .inr (4, [.ref q17, .ref q19, .int 0])), (q17, .inr (5, [.ref q18, .int 0])), (q18, .inl (cI, 3, .inl fun _ => 0)), (q19, .inr (5, [.ref q20, .int 0])), (q20, .inl (cI, 3, .inl fun _ => 0)), (q21, .inr (5, [.ref q22, .int 0])), (q22, .inl (cI, 3, .inl fun _ => 0)), (q23, .inr (5, [.ref q24, .int 0])), (q24, .inl (cI, 3, .inl fun _ => 0))] := hD
  exact W.vret hx hb hr (fun t ht hW => ⟨⟨(), rfl, trivial, q1, q2, q3, q4, q5, q6, q7, q8, q9, q10, q11, q12, q13, q14, q15, q16, q17, q18, q19, q20, q21, q22, q23, q24, by rw [ht]; exact hP, hD⟩, hS.F ht⟩) hS.2.2 rk_d0_59
end
section
/-! what holds at the law's entry -/
theorem rz_xp : ∀ i, i < 4 → ∀ j, j < 4 → i ≠ j → Cond.not (Cond.castable (rz_xn i) (rz_xn j)) ∈ flatC (Jvm.Cond.and given_1 narrow_1) := by decide +kernel
theorem rz_X_start {s : State} {args : Array Value} {A : Nat → Prop} (hts : ∀ w ∈ lw_tbl, w.before args s = true) (hgv : (Jvm.Cond.and given_1 narrow_1).before args s = true) (hA : ∀ a : Nat, a < s.heap.size → ¬ A a) : rz_X A s s.heap := by
  have hs := flat_of_before _ hgv
  refine ⟨rz_Zs.of (hts _ (List.mem_of_getElem? (i := 417) (by decide +kernel))) (hs _ (by decide +kernel)) hA, rz_Zs.of (hts _ (List.mem_of_getElem? (i := 419) (by decide +kernel))) (hs _ (by decide +kernel)) hA, fun w hw hx => ?_, fun own tx k hw => ?_, fun i j hi hj hn c c' hc hc' => ?_⟩
  · have h1 := hts w hw
    cases w <;> first | (simp [rz_isX] at hx; done) | exact va_tabs rfl rfl h1
  · have h1 := hts _ hw
    have hcur : ∃ cur, s.vm.findClass own = some cur := by
      have h2 := h1
      simp only [Cond.before, Cond.holds, Cond.value] at h2
      cases hc : s.vm.findClass own with
      | none => simp [hc] at h2
      | some cur => exact ⟨cur, rfl⟩
    obtain ⟨cur, hcur⟩ := hcur
    obtain ⟨-, -, -, a, -, -, -, -, -, he⟩ := Cond.stringRef_spec hcur h1
    exact ⟨a, vk_R.of h1 he⟩
  · have h1 := hs _ (rz_xp i hi j hj hn)
    simp only [Cond.before, Cond.holds, Cond.value, hc, hc'] at h1
    simpa using h1
theorem rz_K_start {s : State} {args : Array Value} (hts : ∀ w ∈ rz_tw, w.before args s = true) : ∃ (D : va_G) (cI cJ : ClassId), va_K D rz_cl (rz_tys cI cJ) s := by
  obtain ⟨c0, i0, h0⟩ := u_known (C := "RowImprover") (T := rz_F0) (N := 5) (n := 5) hts (rz_clw_of (ci := 0) rfl) (hts _ (rz_use (List.mem_of_getElem? (i := 49) (by decide +kernel)) rfl))
  obtain ⟨c1, i1, h1⟩ := u_known (C := "RowImprover$Program") (T := rz_F1) (N := 2) (n := 2) hts (rz_clw_of (ci := 1) rfl) (hts _ (rz_use (List.mem_of_getElem? (i := 57) (by decide +kernel)) rfl))
  obtain ⟨c2, i2, h2⟩ := u_known (C := "RowImprover$Machine") (T := rz_F2) (N := 6) (n := 6) hts (rz_clw_of (ci := 2) rfl) (hts _ (rz_use (List.mem_of_getElem? (i := 71) (by decide +kernel)) rfl))
  obtain ⟨c3, i3, h3⟩ := u_known (C := "RowImprover$Liveness") (T := rz_F3) (N := 1) (n := 1) hts (rz_clw_of (ci := 3) rfl) (hts _ (rz_use (List.mem_of_getElem? (i := 96) (by decide +kernel)) rfl))
  obtain ⟨c4, i4, h4⟩ := u_known (C := "RowImprover$Prover") (T := rz_F4) (N := 3) (n := 3) hts (rz_clw_of (ci := 4) rfl) (hts _ (rz_use (List.mem_of_getElem? (i := 106) (by decide +kernel)) rfl))
  obtain ⟨c5, i5, h5⟩ := u_known (C := "RowImprover$Row") (T := rz_F5) (N := 2) (n := 2) hts (rz_clw_of (ci := 5) rfl) (hts _ (rz_use (List.mem_of_getElem? (i := 112) (by decide +kernel)) rfl))
  obtain ⟨c6, i6, h6⟩ := u_known (C := "RowImprover$Improver") (T := rz_F6) (N := 7) (n := 7) hts (rz_clw_of (ci := 6) rfl) (hts _ (rz_use (List.mem_of_getElem? (i := 135) (by decide +kernel)) rfl))
  obtain ⟨c7, i7, h7⟩ := u_known (C := "RowImproverModel") (T := rz_F7) (N := 16) (n := 16) hts (rz_clw_of (ci := 7) rfl) (hts _ (rz_use (List.mem_of_getElem? (i := 626) (by decide +kernel)) rfl))
  obtain ⟨cI, kI, compI, f1, f2, f3⟩ := Cond.arrayClass_spec (hts _ rk_ai)
  obtain ⟨cJ, kJ, compJ, g1, g2, g3⟩ := Cond.arrayClass_spec (hts _ rk_aj)
  refine ⟨(fun c => match c with
    | 0 => c0
    | 1 => c1
    | 2 => c2
    | 3 => c3
    | 4 => c4
    | 5 => c5
    | 6 => c6
    | _ => c7, fun c => match c with
    | 0 => i0
    | 1 => i1
    | 2 => i2
    | 3 => i3
    | 4 => i4
    | 5 => i5
    | 6 => i6
    | _ => i7), cI, cJ, fun c q hq => ?_, fun k q hk => ?_⟩
  · have hlt : c < 8 := (List.getElem?_eq_some_iff.mp hq).1
    rcases (show c = 0 ∨ c = 1 ∨ c = 2 ∨ c = 3 ∨ c = 4 ∨ c = 5 ∨ c = 6 ∨ c = 7 by omega) with rfl | rfl | rfl | rfl | rfl | rfl | rfl | rfl
    · cases hq; exact h0
    · cases hq; exact h1
    · cases hq; exact h2
    · cases hq; exact h3
    · cases hq; exact h4
    · cases hq; exact h5
    · cases hq; exact h6
    · cases hq; exact h7
  · have hlt : k < 2 := (List.getElem?_eq_some_iff.mp hk).1
    rcases (show k = 0 ∨ k = 1 by omega) with rfl | rfl
    · cases hk; exact ⟨fun n z => ⟨fun k h => (by cases h), kI, f2, compI, f3⟩, f1⟩
    · cases hk; exact ⟨fun n z => ⟨fun k h => (by cases h), kJ, g2, compJ, g3⟩, g1⟩
theorem rz_N_start {s : State} {args : Array Value} (hts : ∀ w ∈ lw_tbl, w.before args s = true) : rz_Nx s := fun w hw hx => by
  have h1 := hts w hw
  cases w <;> first | (simp [rz_isN] at hx; done) | exact va_Nw.of rfl h1
def rz_ad (b : Nat) (l : List Nat) : Nat → Nat := fun i => if i = 999 then b else l.getD i 0
theorem rz_ci0 : rz_ci (fun _ => 0) := ⟨⟨0, by omega, rfl⟩, Or.inl rfl⟩
theorem rz_mi0 : rz_mi (fun _ => 0) (fun _ _ => 0) := ⟨⟨0, by omega, rfl, fun k hk => absurd hk (Nat.not_lt_zero _)⟩, ⟨0, 0, 0, 0, rfl, rfl, rfl, rfl, by omega, by omega, by omega, by omega, fun _ => by omega⟩, fun _ _ => ⟨0, by omega, rfl⟩, fun _ _ => ⟨0, by omega, rfl⟩⟩
theorem rz_ws_w (cI cJ : ClassId) (ad : Nat → Nat) (v : Nat → Int32) (a : Nat → Nat → Int32) (g : Nat → Int64) : rz_ws cI cJ ad (rz_w v a g) = [(ad 0, .inr (0, [.ref (ad 1), .ref (ad 3), .ref (ad 6), .ref (ad 8), .ref (ad 13)])), (ad 1, .inr (1, [.ref (ad 2), .int (v 0)])), (ad 2, .inl (cI, 24, .inl (a 0))), (ad 3, .inr (2, [.ref (ad 4), .ref (ad 5), .int (v 1), .int (v 2), .int (v 3), .int (v 4)])), (ad 4, .inl (cI, 8, .inl (a 1))), (ad 5, .inl (cI, 8, .inl (a 2))), (ad 6, .inr (3, [.ref (ad 7)])), (ad 7, .inl (cI, 25, .inl (a 3))), (ad 8, .inr (4, [.ref (ad 9), .ref (ad 11), .int (v 5)])), (ad 9, .inr (5, [.ref (ad 10), .int (v 6)])), (ad 10, .inl (cI, 3, .inl (a 4))), (ad 11, .inr (5, [.ref (ad 12), .int (v 7)])), (ad 12, .inl (cI, 3, .inl (a 5))), (ad 13, .inr (6, [.ref (ad 14), .ref (ad 16), .ref (ad 21), .ref (ad 23), .int (v 13), .int (v 14), .int (v 15)])), (ad 14, .inr (3, [.ref (ad 15)])), (ad 15, .inl (cI, 25, .inl (a 6))), (ad 16, .inr (4, [.ref (ad 17), .ref (ad 19), .int (v 8)])), (ad 17, .inr (5, [.ref (ad 18), .int (v 9)])), (ad 18, .inl (cI, 3, .inl (a 7))), (ad 19, .inr (5, [.ref (ad 20), .int (v 10)])), (ad 20, .inl (cI, 3, .inl (a 8))), (ad 21, .inr (5, [.ref (ad 22), .int (v 11)])), (ad 22, .inl (cI, 3, .inl (a 9))), (ad 23, .inr (5, [.ref (ad 24), .int (v 12)])), (ad 24, .inl (cI, 3, .inl (a 10))), (ad 25, .inr (7, [.int (v 20), .int (v 21), .ref (ad 26), .ref (ad 27), .ref (ad 28), .ref (ad 29), .ref (ad 30), .ref (ad 31), .int (v 22), .int (v 23), .ref (ad 32), .ref (ad 33), .ref (ad 34), .int (v 24), .int (v 25), .int (v 26)])), (ad 26, .inl (cI, 25, .inl (a 20))), (ad 27, .inl (cI, 25, .inl (a 21))), (ad 28, .inl (cI, 25, .inl (a 22))), (ad 29, .inl (cI, 25, .inl (a 23))), (ad 30, .inl (cI, 12, .inl (a 24))), (ad 31, .inl (cI, 12, .inl (a 25))), (ad 32, .inl (cI, 25, .inl (a 26))), (ad 33, .inl (cI, 4, .inl (a 27))), (ad 34, .inl (cI, 4, .inl (a 28))), (ad 35, .inl (cJ, 1, .inr (.inl g)))] := by
  simp [rz_ws, rz_w, rz_e, rz_v]
end
section
/-! THE CLAIM OUT OF ONE WALK OF THE LAW'S BODY. Your part is whole_start (and what it stands on); all else here is the same for every law, but numbers. -/
def R_law : String := "RowImproverLaw"
def lw_P (b : Addr) (xs : List Int32) (args : Array Value) (s : State) : Prop := args = #[.ref b] ∧ s.IntsAt b xs ∧ xs.length ≤ 3072 ∧ (Jvm.Cond.and given_1 narrow_1).before args s = true
def lw_Q (_ : Array Value) (s : State) (o : Outcome) (t : State) : Prop := o = .returned (some (.int 1)) ∧ Framed s o t [] 1074 8598
def lw_Z (below : List Frame) (a : Array Value) (s : State) : State → Prop := fun t => ∃ o, t.status = .running ∧ Ended t below o ∧ lw_Q a s o t
/-- the law's own end, with 1 on the stack, nothing written that was there before, its room as the claim has it -/
theorem lw_ret {p : Program} {l : Launch} {e : Env} {s : State} {m : MethodId} {below : List Frame} {meth : Method} {c : Code} {b : Nat} (hx : p.tables.exec = Jvm.exec) (hb : c.code = code) (hr : meth.sig.returnType = ret) (hlocks : meth.locks = false) {pc : Nat} {H : Heap} {ls : Array Slot} (hdg : decode code pc = .ok (.ireturn, 1)) : W p l e room_1 s m #[Value.ref b] below meth c H [] 1074 8598 (lw_Z below #[Value.ref b] s) (F0 m pc ls [.int 1]) := by
  intro T hT X
  obtain ⟨fs, hret, hrun, hended, hW, hframe⟩ := X.leave (v := some (.int 1)) (hlocks := hlocks) (fun h => by rw [hr] at h; cases h)
  have hmeth' : T.vm.method? m = some meth := X.method'
  refine ⟨T.setFrames fs, ?_, .returned (some (.int 1)), hrun, hended, rfl, ⟨_, rfl⟩, hW, hframe⟩
  jvm_step X.here [X.here.top, hx, hb, hdg, hmeth', hr, ret, narrow_b1]
  (try refine ⟨rfl, ?_⟩); (try refine ⟨rfl, ?_⟩)
  first | (intro acts; rw [hret _ acts rfl rfl rfl]) | rw [hret _ _ rfl rfl rfl]
  exact Steps.refl _
/-- what holds at the law's entry: the machine, the code, the tables' words (any of lw_tbl by 'hts w (by decide +kernel)'), the script of L ints xs at the cell b, what the Statement gives of the start (any of its parts by flat_of_before) -/
def lw_At (p : Program) (s : State) (m : MethodId) (meth : Method) (c : Code) (b L : Nat) (xs : Nat → Int32) : Prop :=
  p.tables.exec = Jvm.exec ∧ c.code = code ∧ meth.sig.returnType = ret ∧ c.maxLocals = 7 ∧ s.vm.findClass R_law = some m.cls ∧ (∀ w ∈ lw_tbl, w.before #[Value.ref b] s = true) ∧ va_X b L xs s s.heap ∧ b < s.heap.size ∧ meth.locks = false ∧ (Jvm.Cond.and given_1 narrow_1).before #[Value.ref b] s = true ∧ c.exceptionTable.toList = []
theorem rk_dL_0 : decode code 0 = .ok (.new 8, 3) := by decide +kernel
theorem rk_dL_3 : decode code 3 = .ok (.dup, 1) := by decide +kernel
theorem rk_dL_4 : decode code 4 = .ok (.invokespecial 47, 3) := by decide +kernel
theorem rk_dL_7 : decode code 7 = .ok (.astore_n 1, 1) := by decide +kernel
theorem rk_dL_8 : decode code 8 = .ok (.new 48, 3) := by decide +kernel
theorem rk_dL_11 : decode code 11 = .ok (.dup, 1) := by decide +kernel
theorem rk_dL_12 : decode code 12 = .ok (.invokespecial 50, 3) := by decide +kernel
theorem rk_dL_15 : decode code 15 = .ok (.astore_n 2, 1) := by decide +kernel
theorem rk_dL_16 : decode code 16 = .ok (.iconst 1, 1) := by decide +kernel
theorem rk_dL_17 : decode code 17 = .ok (.newarray .long, 2) := by decide +kernel
theorem rk_dL_19 : decode code 19 = .ok (.astore_n 3, 1) := by decide +kernel
theorem rk_dL_20 : decode code 20 = .ok (.iconst 0, 1) := by decide +kernel
theorem rk_dL_21 : decode code 21 = .ok (.istore 4, 2) := by decide +kernel
set_option maxHeartbeats 4000000 in
set_option maxRecDepth 100000 in
theorem whole_start {p : Program} {e : Env} {s : State} {m : MethodId} {below : List Frame} {meth : Method} {c : Code} (l : Launch) (hl : l.stackTraces = false) {b L : Nat} {xs : Nat → Int32} (hL : L ≤ 3072) (C0 : lw_At p s m meth c b L xs) : W p l e room_1 s m #[Value.ref b] below meth c s.heap [] 0 0 (lw_Z below #[Value.ref b] s) (entryFrame m ([Value.ref b] : List Value).toArray 7) := by
  obtain ⟨hx, hb, hr, hml, hown, hts0, hX, hbl, hlocks, hgv, hex⟩ := C0
  have hts : ∀ w ∈ rz_tw, w.before #[Value.ref b] s = true := fun w hw => hts0 w (List.mem_filter.mp hw).1
  have hN : rz_Nx s := rz_N_start hts0
  obtain ⟨D, cI, cJ, hK⟩ := rz_K_start hts
  obtain ⟨A, hAe⟩ : ∃ A : Nat → Prop, A = fun q => s.heap.size ≤ q := ⟨_, rfl⟩
  have hA : ∀ q : Nat, s.heap.size ≤ q → A q := fun q h => by rw [hAe]; exact h
  have hXX : rz_X A s s.heap := rz_X_start hts0 hgv (fun a ha h => by rw [hAe] at h; exact absurd ha (Nat.not_lt.mpr h))
  have hS : va_S A s.heap s.heap [] := va_S.rf
  have hP : va_P D rz_cl [] s.heap := fun k q h => by simp at h
  have hD : va_D A [] := ⟨fun i j p q h => by simp at h, fun k q h => by simp at h⟩
  have hlv := lv_entry ([.ref b]) (n := 7) (Nat.le_of_ble_eq_true rfl)
  rw [lg_entry_eq]
  generalize (lg_sl ([.ref b]) ++ List.replicate (7 - (lg_sl ([.ref b])).length) Slot.unset).toArray = ls at hlv ⊢
  have hlv : lv_has ls 7 [(0, .ref b)] := hlv
  refine va_new (ci := 0) (fs := [.null, .null, .null, .null, .null]) (C := "RowImprover") (T := rz_F0) (N := 5) hx hb hts (rz_clw_of (ci := 0) rfl) (rz_fty 0) (rz_cty_of (ci := 0) rfl) hown (hts _ (rz_use (List.mem_of_getElem? (i := 48) (by decide +kernel)) rfl)) (hts _ (rz_use (List.mem_of_getElem? (i := 49) (by decide +kernel)) rfl)) (hts _ (rz_use (List.mem_of_getElem? (i := 28) (by decide +kernel)) rfl)) hK hP hD hS hA rfl (rz_df0) (show 0 + 1 ≤ 1074 by decide) (show 0 + 5 ≤ 8598 by decide) rk_dL_0 (fun q1 H hP hD hS => ?_)
  have hP : va_P D rz_cl [(q1, .inr (0, [.null, .null, .null, .null, .null]))] H := hP
  have hD : va_D A [(q1, .inr (0, [.null, .null, .null, .null, .null]))] := hD
  refine W.widen (k := 1) (n := 5) (by omega) (by omega) ?_
  refine lv_dup hx hb rk_dL_3 rfl ?_
  have hPc := hP.sub (ws' := [(q1, .inr (0, [.null, .null, .null, .null, .null]))]) [0] rfl
  have hDc := hD.sub (ws' := [(q1, .inr (0, [.null, .null, .null, .null, .null]))]) [0] (by decide) rfl
  have hFc := va_free (wc := [(q1, .inr (0, [.null, .null, .null, .null, .null]))]) hD hS hA [0] rfl
  refine va_callv (va_runI (As := []) (rest := [.ref q1]) ⟨hx, hb, hml, hown, hts⟩ (k_0 l D cI cJ q1 H.size) (cwI 0 hts (rz_gi (rz_use (List.mem_of_getElem? (i := 52) (by decide +kernel)) rfl)) rfl rfl rfl (hts _ (rz_use (List.mem_of_getElem? (i := 28) (by decide +kernel)) rfl)) (hts _ (rz_use (List.mem_of_getElem? (i := 50) (by decide +kernel)) rfl)) (hts _ (rz_use (List.mem_of_getElem? (i := 51) (by decide +kernel)) rfl)) rfl (by decide +kernel) ⟨Nat.le_of_ble_eq_true rfl, Nat.le_of_ble_eq_true rfl⟩) (rz_pre hPc hK hDc hN) rfl rfl hlv.1 rfl (lv_room (Nat.le_of_ble_eq_true rfl)) rk_dL_4 ⟨(show 1 + 24 ≤ 1074 by decide), (show 5 + 143 ≤ 8598 by decide)⟩) hS (fun q _ h => hFc q h) hFc (fun u t H1 locs ht hvm _ hB hz1 hk1 hS => ?_)
  obtain ⟨q2, q3, q4, q5, q6, q7, q8, q9, q10, q11, q12, q13, q14, q15, q16, q17, q18, q19, q20, q21, q22, q23, q24, q25, hP1, hD1⟩ := hB
  rw [ht] at hP1
  obtain ⟨hP, hD⟩ := va_join (wr := []) (w1 := [(q1, .inr (0, [.ref q2, .ref q4, .ref q7, .ref q9, .ref q14])), (q2, .inr (1, [.ref q3, .int 0])), (q3, .inl (cI, 24, .inl fun _ => 0)), (q4, .inr (2, [.ref q5, .ref q6, .int 0, .int 0, .int 0, .int 0])), (q5, .inl (cI, 8, .inl fun _ => 0)), (q6, .inl (cI, 8, .inl fun _ => 0)), (q7, .inr (3, [.ref q8])), (q8, .inl (cI, 25, .inl fun _ => 0)), (q9, .inr (4, [.ref q10, .ref q12, .int 0])), (q10, .inr (5, [.ref q11, .int 0])), (q11, .inl (cI, 3, .inl fun _ => 0)), (q12, .inr (5, [.ref q13, .int 0])), (q13, .inl (cI, 3, .inl fun _ => 0)), (q14, .inr (6, [.ref q15, .ref q17, .ref q22, .ref q24, .int 0, .int 0, .int 0])), (q15, .inr (3, [.ref q16])), (q16, .inl (cI, 25, .inl fun _ => 0)), (q17, .inr (4, [.ref q18, .ref q20, .int 0])), (q18, .inr (5, [.ref q19, .int 0])), (q19, .inl (cI, 3, .inl fun _ => 0)), (q20, .inr (5, [.ref q21, .int 0])), (q21, .inl (cI, 3, .inl fun _ => 0)), (q22, .inr (5, [.ref q23, .int 0])), (q23, .inl (cI, 3, .inl fun _ => 0)), (q24, .inr (5, [.ref q25, .int 0])), (q25, .inl (cI, 3, .inl fun _ => 0))]) hP hD [0] [] rfl rfl (by decide) (by decide) hk1 hFc hP1 hD1
  generalize H1 = H at hP hS ⊢
  have hP : va_P D rz_cl [(q1, .inr (0, [.ref q2, .ref q4, .ref q7, .ref q9, .ref q14])), (q2, .inr (1, [.ref q3, .int 0])), (q3, .inl (cI, 24, .inl fun _ => 0)), (q4, .inr (2, [.ref q5, .ref q6, .int 0, .int 0, .int 0, .int 0])), (q5, .inl (cI, 8, .inl fun _ => 0)), (q6, .inl (cI, 8, .inl fun _ => 0)), (q7, .inr (3, [.ref q8])), (q8, .inl (cI, 25, .inl fun _ => 0)), (q9, .inr (4, [.ref q10, .ref q12, .int 0])), (q10, .inr (5, [.ref q11, .int 0])), (q11, .inl (cI, 3, .inl fun _ => 0)), (q12, .inr (5, [.ref q13, .int 0])), (q13, .inl (cI, 3, .inl fun _ => 0)), (q14, .inr (6, [.ref q15, .ref q17, .ref q22, .ref q24, .int 0, .int 0, .int 0])), (q15, .inr (3, [.ref q16])), (q16, .inl (cI, 25, .inl fun _ => 0)), (q17, .inr (4, [.ref q18, .ref q20, .int 0])), (q18, .inr (5, [.ref q19, .int 0])), (q19, .inl (cI, 3, .inl fun _ => 0)), (q20, .inr (5, [.ref q21, .int 0])), (q21, .inl (cI, 3, .inl fun _ => 0)), (q22, .inr (5, [.ref q23, .int 0])), (q23, .inl (cI, 3, .inl fun _ => 0)), (q24, .inr (5, [.ref q25, .int 0])), (q25, .inl (cI, 3, .inl fun _ => 0))] H := hP
  have hD : va_D A [(q1, .inr (0, [.ref q2, .ref q4, .ref q7, .ref q9, .ref q14])), (q2, .inr (1, [.ref q3, .int 0])), (q3, .inl (cI, 24, .inl fun _ => 0)), (q4, .inr (2, [.ref q5, .ref q6, .int 0, .int 0, .int 0, .int 0])), (q5, .inl (cI, 8, .inl fun _ => 0)), (q6, .inl (cI, 8, .inl fun _ => 0)), (q7, .inr (3, [.ref q8])), (q8, .inl (cI, 25, .inl fun _ => 0)), (q9, .inr (4, [.ref q10, .ref q12, .int 0])), (q10, .inr (5, [.ref q11, .int 0])), (q11, .inl (cI, 3, .inl fun _ => 0)), (q12, .inr (5, [.ref q13, .int 0])), (q13, .inl (cI, 3, .inl fun _ => 0)), (q14, .inr (6, [.ref q15, .ref q17, .ref q22, .ref q24, .int 0, .int 0, .int 0])), (q15, .inr (3, [.ref q16])), (q16, .inl (cI, 25, .inl fun _ => 0)), (q17, .inr (4, [.ref q18, .ref q20, .int 0])), (q18, .inr (5, [.ref q19, .int 0])), (q19, .inl (cI, 3, .inl fun _ => 0)), (q20, .inr (5, [.ref q21, .int 0])), (q21, .inl (cI, 3, .inl fun _ => 0)), (q22, .inr (5, [.ref q23, .int 0])), (q23, .inl (cI, 3, .inl fun _ => 0)), (q24, .inr (5, [.ref q25, .int 0])), (q25, .inl (cI, 3, .inl fun _ => 0))] := hD
  refine W.widen (k := 25) (n := 148) (by omega) (by omega) ?_
  refine lv_astore_n (lv' := [(1, .ref q1), (0, .ref b)]) hx hb rk_dL_7 rfl hlv (by decide) rfl (fun ls hlv => ?_)
  refine va_new (ci := 7) (fs := [.int 0, .int 0, .null, .null, .null, .null, .null, .null, .int 0, .int 0, .null, .null, .null, .int 0, .int 0, .int 0]) (C := "RowImproverModel") (T := rz_F7) (N := 16) hx hb hts (rz_clw_of (ci := 7) rfl) (rz_fty 7) (rz_cty_of (ci := 7) rfl) hown (hts _ (rz_use (List.mem_of_getElem? (i := 625) (by decide +kernel)) rfl)) (hts _ (rz_use (List.mem_of_getElem? (i := 626) (by decide +kernel)) rfl)) (hts _ (rz_use (List.mem_of_getElem? (i := 35) (by decide +kernel)) rfl)) hK hP hD hS hA rfl (rz_df7) (show 25 + 1 ≤ 1074 by decide) (show 148 + 16 ≤ 8598 by decide) rk_dL_8 (fun q26 H hP hD hS => ?_)
  have hP : va_P D rz_cl [(q1, .inr (0, [.ref q2, .ref q4, .ref q7, .ref q9, .ref q14])), (q2, .inr (1, [.ref q3, .int 0])), (q3, .inl (cI, 24, .inl fun _ => 0)), (q4, .inr (2, [.ref q5, .ref q6, .int 0, .int 0, .int 0, .int 0])), (q5, .inl (cI, 8, .inl fun _ => 0)), (q6, .inl (cI, 8, .inl fun _ => 0)), (q7, .inr (3, [.ref q8])), (q8, .inl (cI, 25, .inl fun _ => 0)), (q9, .inr (4, [.ref q10, .ref q12, .int 0])), (q10, .inr (5, [.ref q11, .int 0])), (q11, .inl (cI, 3, .inl fun _ => 0)), (q12, .inr (5, [.ref q13, .int 0])), (q13, .inl (cI, 3, .inl fun _ => 0)), (q14, .inr (6, [.ref q15, .ref q17, .ref q22, .ref q24, .int 0, .int 0, .int 0])), (q15, .inr (3, [.ref q16])), (q16, .inl (cI, 25, .inl fun _ => 0)), (q17, .inr (4, [.ref q18, .ref q20, .int 0])), (q18, .inr (5, [.ref q19, .int 0])), (q19, .inl (cI, 3, .inl fun _ => 0)), (q20, .inr (5, [.ref q21, .int 0])), (q21, .inl (cI, 3, .inl fun _ => 0)), (q22, .inr (5, [.ref q23, .int 0])), (q23, .inl (cI, 3, .inl fun _ => 0)), (q24, .inr (5, [.ref q25, .int 0])), (q25, .inl (cI, 3, .inl fun _ => 0)), (q26, .inr (7, [.int 0, .int 0, .null, .null, .null, .null, .null, .null, .int 0, .int 0, .null, .null, .null, .int 0, .int 0, .int 0]))] H := hP
  have hD : va_D A [(q1, .inr (0, [.ref q2, .ref q4, .ref q7, .ref q9, .ref q14])), (q2, .inr (1, [.ref q3, .int 0])), (q3, .inl (cI, 24, .inl fun _ => 0)), (q4, .inr (2, [.ref q5, .ref q6, .int 0, .int 0, .int 0, .int 0])), (q5, .inl (cI, 8, .inl fun _ => 0)), (q6, .inl (cI, 8, .inl fun _ => 0)), (q7, .inr (3, [.ref q8])), (q8, .inl (cI, 25, .inl fun _ => 0)), (q9, .inr (4, [.ref q10, .ref q12, .int 0])), (q10, .inr (5, [.ref q11, .int 0])), (q11, .inl (cI, 3, .inl fun _ => 0)), (q12, .inr (5, [.ref q13, .int 0])), (q13, .inl (cI, 3, .inl fun _ => 0)), (q14, .inr (6, [.ref q15, .ref q17, .ref q22, .ref q24, .int 0, .int 0, .int 0])), (q15, .inr (3, [.ref q16])), (q16, .inl (cI, 25, .inl fun _ => 0)), (q17, .inr (4, [.ref q18, .ref q20, .int 0])), (q18, .inr (5, [.ref q19, .int 0])), (q19, .inl (cI, 3, .inl fun _ => 0)), (q20, .inr (5, [.ref q21, .int 0])), (q21, .inl (cI, 3, .inl fun _ => 0)), (q22, .inr (5, [.ref q23, .int 0])), (q23, .inl (cI, 3, .inl fun _ => 0)), (q24, .inr (5, [.ref q25, .int 0])), (q25, .inl (cI, 3, .inl fun _ => 0)), (q26, .inr (7, [.int 0, .int 0, .null, .null, .null, .null, .null, .null, .int 0, .int 0, .null, .null, .null, .int 0, .int 0, .int 0]))] := hD
  refine W.widen (k := 26) (n := 164) (by omega) (by omega) ?_
  refine lv_dup hx hb rk_dL_11 rfl ?_
  have hPc := hP.sub (ws' := [(q26, .inr (7, [.int 0, .int 0, .null, .null, .null, .null, .null, .null, .int 0, .int 0, .null, .null, .null, .int 0, .int 0, .int 0]))]) [25] rfl
  have hDc := hD.sub (ws' := [(q26, .inr (7, [.int 0, .int 0, .null, .null, .null, .null, .null, .null, .int 0, .int 0, .null, .null, .null, .int 0, .int 0, .int 0]))]) [25] (by decide) rfl
  have hFc := va_free (wc := [(q26, .inr (7, [.int 0, .int 0, .null, .null, .null, .null, .null, .null, .int 0, .int 0, .null, .null, .null, .int 0, .int 0, .int 0]))]) hD hS hA [25] rfl
  refine va_callv (va_runI (As := []) (rest := [.ref q26]) ⟨hx, hb, hml, hown, hts⟩ (k_7 l D cI cJ q26 H.size) (cwI 0 hts (rz_gi (rz_use (List.mem_of_getElem? (i := 629) (by decide +kernel)) rfl)) rfl rfl rfl (hts _ (rz_use (List.mem_of_getElem? (i := 35) (by decide +kernel)) rfl)) (hts _ (rz_use (List.mem_of_getElem? (i := 627) (by decide +kernel)) rfl)) (hts _ (rz_use (List.mem_of_getElem? (i := 628) (by decide +kernel)) rfl)) rfl (by decide +kernel) ⟨Nat.le_of_ble_eq_true rfl, Nat.le_of_ble_eq_true rfl⟩) (rz_pre hPc hK hDc hN) rfl rfl hlv.1 rfl (lv_room (Nat.le_of_ble_eq_true rfl)) rk_dL_12 ⟨(show 26 + 9 ≤ 1074 by decide), (show 164 + 157 ≤ 8598 by decide)⟩) hS (fun q _ h => hFc q h) hFc (fun u t H1 locs ht hvm _ hB hz1 hk1 hS => ?_)
  obtain ⟨q27, q28, q29, q30, q31, q32, q33, q34, q35, hP1, hD1⟩ := hB
  rw [ht] at hP1
  obtain ⟨hP, hD⟩ := va_join (wr := [(q1, .inr (0, [.ref q2, .ref q4, .ref q7, .ref q9, .ref q14])), (q2, .inr (1, [.ref q3, .int 0])), (q3, .inl (cI, 24, .inl fun _ => 0)), (q4, .inr (2, [.ref q5, .ref q6, .int 0, .int 0, .int 0, .int 0])), (q5, .inl (cI, 8, .inl fun _ => 0)), (q6, .inl (cI, 8, .inl fun _ => 0)), (q7, .inr (3, [.ref q8])), (q8, .inl (cI, 25, .inl fun _ => 0)), (q9, .inr (4, [.ref q10, .ref q12, .int 0])), (q10, .inr (5, [.ref q11, .int 0])), (q11, .inl (cI, 3, .inl fun _ => 0)), (q12, .inr (5, [.ref q13, .int 0])), (q13, .inl (cI, 3, .inl fun _ => 0)), (q14, .inr (6, [.ref q15, .ref q17, .ref q22, .ref q24, .int 0, .int 0, .int 0])), (q15, .inr (3, [.ref q16])), (q16, .inl (cI, 25, .inl fun _ => 0)), (q17, .inr (4, [.ref q18, .ref q20, .int 0])), (q18, .inr (5, [.ref q19, .int 0])), (q19, .inl (cI, 3, .inl fun _ => 0)), (q20, .inr (5, [.ref q21, .int 0])), (q21, .inl (cI, 3, .inl fun _ => 0)), (q22, .inr (5, [.ref q23, .int 0])), (q23, .inl (cI, 3, .inl fun _ => 0)), (q24, .inr (5, [.ref q25, .int 0])), (q25, .inl (cI, 3, .inl fun _ => 0))]) (w1 := [(q26, .inr (7, [.int 0, .int 0, .ref q27, .ref q28, .ref q29, .ref q30, .ref q31, .ref q32, .int 0, .int 0, .ref q33, .ref q34, .ref q35, .int 0, .int 0, .int 0])), (q27, .inl (cI, 25, .inl fun _ => 0)), (q28, .inl (cI, 25, .inl fun _ => 0)), (q29, .inl (cI, 25, .inl fun _ => 0)), (q30, .inl (cI, 25, .inl fun _ => 0)), (q31, .inl (cI, 12, .inl fun _ => 0)), (q32, .inl (cI, 12, .inl fun _ => 0)), (q33, .inl (cI, 25, .inl fun _ => 0)), (q34, .inl (cI, 4, .inl fun _ => 0)), (q35, .inl (cI, 4, .inl fun _ => 0))]) hP hD [25] [0, 1, 2, 3, 4, 5, 6, 7, 8, 9, 10, 11, 12, 13, 14, 15, 16, 17, 18, 19, 20, 21, 22, 23, 24] rfl rfl (by decide) (by decide) hk1 hFc hP1 hD1
  generalize H1 = H at hP hS ⊢
  have hP : va_P D rz_cl [(q1, .inr (0, [.ref q2, .ref q4, .ref q7, .ref q9, .ref q14])), (q2, .inr (1, [.ref q3, .int 0])), (q3, .inl (cI, 24, .inl fun _ => 0)), (q4, .inr (2, [.ref q5, .ref q6, .int 0, .int 0, .int 0, .int 0])), (q5, .inl (cI, 8, .inl fun _ => 0)), (q6, .inl (cI, 8, .inl fun _ => 0)), (q7, .inr (3, [.ref q8])), (q8, .inl (cI, 25, .inl fun _ => 0)), (q9, .inr (4, [.ref q10, .ref q12, .int 0])), (q10, .inr (5, [.ref q11, .int 0])), (q11, .inl (cI, 3, .inl fun _ => 0)), (q12, .inr (5, [.ref q13, .int 0])), (q13, .inl (cI, 3, .inl fun _ => 0)), (q14, .inr (6, [.ref q15, .ref q17, .ref q22, .ref q24, .int 0, .int 0, .int 0])), (q15, .inr (3, [.ref q16])), (q16, .inl (cI, 25, .inl fun _ => 0)), (q17, .inr (4, [.ref q18, .ref q20, .int 0])), (q18, .inr (5, [.ref q19, .int 0])), (q19, .inl (cI, 3, .inl fun _ => 0)), (q20, .inr (5, [.ref q21, .int 0])), (q21, .inl (cI, 3, .inl fun _ => 0)), (q22, .inr (5, [.ref q23, .int 0])), (q23, .inl (cI, 3, .inl fun _ => 0)), (q24, .inr (5, [.ref q25, .int 0])), (q25, .inl (cI, 3, .inl fun _ => 0)), (q26, .inr (7, [.int 0, .int 0, .ref q27, .ref q28, .ref q29, .ref q30, .ref q31, .ref q32, .int 0, .int 0, .ref q33, .ref q34, .ref q35, .int 0, .int 0, .int 0])), (q27, .inl (cI, 25, .inl fun _ => 0)), (q28, .inl (cI, 25, .inl fun _ => 0)), (q29, .inl (cI, 25, .inl fun _ => 0)), (q30, .inl (cI, 25, .inl fun _ => 0)), (q31, .inl (cI, 12, .inl fun _ => 0)), (q32, .inl (cI, 12, .inl fun _ => 0)), (q33, .inl (cI, 25, .inl fun _ => 0)), (q34, .inl (cI, 4, .inl fun _ => 0)), (q35, .inl (cI, 4, .inl fun _ => 0))] H := hP
  have hD : va_D A [(q1, .inr (0, [.ref q2, .ref q4, .ref q7, .ref q9, .ref q14])), (q2, .inr (1, [.ref q3, .int 0])), (q3, .inl (cI, 24, .inl fun _ => 0)), (q4, .inr (2, [.ref q5, .ref q6, .int 0, .int 0, .int 0, .int 0])), (q5, .inl (cI, 8, .inl fun _ => 0)), (q6, .inl (cI, 8, .inl fun _ => 0)), (q7, .inr (3, [.ref q8])), (q8, .inl (cI, 25, .inl fun _ => 0)), (q9, .inr (4, [.ref q10, .ref q12, .int 0])), (q10, .inr (5, [.ref q11, .int 0])), (q11, .inl (cI, 3, .inl fun _ => 0)), (q12, .inr (5, [.ref q13, .int 0])), (q13, .inl (cI, 3, .inl fun _ => 0)), (q14, .inr (6, [.ref q15, .ref q17, .ref q22, .ref q24, .int 0, .int 0, .int 0])), (q15, .inr (3, [.ref q16])), (q16, .inl (cI, 25, .inl fun _ => 0)), (q17, .inr (4, [.ref q18, .ref q20, .int 0])), (q18, .inr (5, [.ref q19, .int 0])), (q19, .inl (cI, 3, .inl fun _ => 0)), (q20, .inr (5, [.ref q21, .int 0])), (q21, .inl (cI, 3, .inl fun _ => 0)), (q22, .inr (5, [.ref q23, .int 0])), (q23, .inl (cI, 3, .inl fun _ => 0)), (q24, .inr (5, [.ref q25, .int 0])), (q25, .inl (cI, 3, .inl fun _ => 0)), (q26, .inr (7, [.int 0, .int 0, .ref q27, .ref q28, .ref q29, .ref q30, .ref q31, .ref q32, .int 0, .int 0, .ref q33, .ref q34, .ref q35, .int 0, .int 0, .int 0])), (q27, .inl (cI, 25, .inl fun _ => 0)), (q28, .inl (cI, 25, .inl fun _ => 0)), (q29, .inl (cI, 25, .inl fun _ => 0)), (q30, .inl (cI, 25, .inl fun _ => 0)), (q31, .inl (cI, 12, .inl fun _ => 0)), (q32, .inl (cI, 12, .inl fun _ => 0)), (q33, .inl (cI, 25, .inl fun _ => 0)), (q34, .inl (cI, 4, .inl fun _ => 0)), (q35, .inl (cI, 4, .inl fun _ => 0))] := hD
  refine W.widen (k := 35) (n := 321) (by omega) (by omega) ?_
  refine lv_astore_n (lv' := [(2, .ref q26), (1, .ref q1), (0, .ref b)]) hx hb rk_dL_15 rfl hlv (by decide) rfl (fun ls hlv => ?_)
  refine lv_iconst (v := 1) hx hb rk_dL_16 (by decide) ?_
  refine rz_newl hx hb (hts _ rk_aj) hK hP hD hS hA (N' := 1) (by decide) (by decide) (by decide) (show 35 + 1 ≤ 1074 by decide) (show 321 + 1 ≤ 8598 by decide) rk_dL_17 (fun q36 H hP hD hS => ?_)
  have hP : va_P D rz_cl [(q1, .inr (0, [.ref q2, .ref q4, .ref q7, .ref q9, .ref q14])), (q2, .inr (1, [.ref q3, .int 0])), (q3, .inl (cI, 24, .inl fun _ => 0)), (q4, .inr (2, [.ref q5, .ref q6, .int 0, .int 0, .int 0, .int 0])), (q5, .inl (cI, 8, .inl fun _ => 0)), (q6, .inl (cI, 8, .inl fun _ => 0)), (q7, .inr (3, [.ref q8])), (q8, .inl (cI, 25, .inl fun _ => 0)), (q9, .inr (4, [.ref q10, .ref q12, .int 0])), (q10, .inr (5, [.ref q11, .int 0])), (q11, .inl (cI, 3, .inl fun _ => 0)), (q12, .inr (5, [.ref q13, .int 0])), (q13, .inl (cI, 3, .inl fun _ => 0)), (q14, .inr (6, [.ref q15, .ref q17, .ref q22, .ref q24, .int 0, .int 0, .int 0])), (q15, .inr (3, [.ref q16])), (q16, .inl (cI, 25, .inl fun _ => 0)), (q17, .inr (4, [.ref q18, .ref q20, .int 0])), (q18, .inr (5, [.ref q19, .int 0])), (q19, .inl (cI, 3, .inl fun _ => 0)), (q20, .inr (5, [.ref q21, .int 0])), (q21, .inl (cI, 3, .inl fun _ => 0)), (q22, .inr (5, [.ref q23, .int 0])), (q23, .inl (cI, 3, .inl fun _ => 0)), (q24, .inr (5, [.ref q25, .int 0])), (q25, .inl (cI, 3, .inl fun _ => 0)), (q26, .inr (7, [.int 0, .int 0, .ref q27, .ref q28, .ref q29, .ref q30, .ref q31, .ref q32, .int 0, .int 0, .ref q33, .ref q34, .ref q35, .int 0, .int 0, .int 0])), (q27, .inl (cI, 25, .inl fun _ => 0)), (q28, .inl (cI, 25, .inl fun _ => 0)), (q29, .inl (cI, 25, .inl fun _ => 0)), (q30, .inl (cI, 25, .inl fun _ => 0)), (q31, .inl (cI, 12, .inl fun _ => 0)), (q32, .inl (cI, 12, .inl fun _ => 0)), (q33, .inl (cI, 25, .inl fun _ => 0)), (q34, .inl (cI, 4, .inl fun _ => 0)), (q35, .inl (cI, 4, .inl fun _ => 0)), (q36, .inl (cJ, 1, .inr (.inl fun _ => 0)))] H := hP
  have hD : va_D A [(q1, .inr (0, [.ref q2, .ref q4, .ref q7, .ref q9, .ref q14])), (q2, .inr (1, [.ref q3, .int 0])), (q3, .inl (cI, 24, .inl fun _ => 0)), (q4, .inr (2, [.ref q5, .ref q6, .int 0, .int 0, .int 0, .int 0])), (q5, .inl (cI, 8, .inl fun _ => 0)), (q6, .inl (cI, 8, .inl fun _ => 0)), (q7, .inr (3, [.ref q8])), (q8, .inl (cI, 25, .inl fun _ => 0)), (q9, .inr (4, [.ref q10, .ref q12, .int 0])), (q10, .inr (5, [.ref q11, .int 0])), (q11, .inl (cI, 3, .inl fun _ => 0)), (q12, .inr (5, [.ref q13, .int 0])), (q13, .inl (cI, 3, .inl fun _ => 0)), (q14, .inr (6, [.ref q15, .ref q17, .ref q22, .ref q24, .int 0, .int 0, .int 0])), (q15, .inr (3, [.ref q16])), (q16, .inl (cI, 25, .inl fun _ => 0)), (q17, .inr (4, [.ref q18, .ref q20, .int 0])), (q18, .inr (5, [.ref q19, .int 0])), (q19, .inl (cI, 3, .inl fun _ => 0)), (q20, .inr (5, [.ref q21, .int 0])), (q21, .inl (cI, 3, .inl fun _ => 0)), (q22, .inr (5, [.ref q23, .int 0])), (q23, .inl (cI, 3, .inl fun _ => 0)), (q24, .inr (5, [.ref q25, .int 0])), (q25, .inl (cI, 3, .inl fun _ => 0)), (q26, .inr (7, [.int 0, .int 0, .ref q27, .ref q28, .ref q29, .ref q30, .ref q31, .ref q32, .int 0, .int 0, .ref q33, .ref q34, .ref q35, .int 0, .int 0, .int 0])), (q27, .inl (cI, 25, .inl fun _ => 0)), (q28, .inl (cI, 25, .inl fun _ => 0)), (q29, .inl (cI, 25, .inl fun _ => 0)), (q30, .inl (cI, 25, .inl fun _ => 0)), (q31, .inl (cI, 12, .inl fun _ => 0)), (q32, .inl (cI, 12, .inl fun _ => 0)), (q33, .inl (cI, 25, .inl fun _ => 0)), (q34, .inl (cI, 4, .inl fun _ => 0)), (q35, .inl (cI, 4, .inl fun _ => 0)), (q36, .inl (cJ, 1, .inr (.inl fun _ => 0)))] := hD
  refine W.widen (k := 36) (n := 322) (by omega) (by omega) ?_
  refine lv_astore_n (lv' := [(3, .ref q36), (2, .ref q26), (1, .ref q1), (0, .ref b)]) hx hb rk_dL_19 rfl hlv (by decide) rfl (fun ls hlv => ?_)
  refine lv_iconst (v := 0) hx hb rk_dL_20 (by decide) ?_
  refine lv_istore (lv' := [(4, .int 0), (3, .ref q36), (2, .ref q26), (1, .ref q1), (0, .ref b)]) hx hb rk_dL_21 hlv (by decide) rfl (fun ls hlv => ?_)
  obtain ⟨ad, had, hPw, hDw, hLr⟩ : ∃ ad : Nat → Nat, ad 999 = b ∧ va_P D rz_cl (rz_ws cI cJ ad (rz_w (fun _ => 0) (fun _ _ => 0) (fun _ => 0))) H ∧ va_D A (rz_ws cI cJ ad (rz_w (fun _ => 0) (fun _ _ => 0) (fun _ => 0))) ∧ rz_Lr ad ls 7 [some (.ref 999), some (.ref 0), some (.ref 25), some (.ref 35), some (.int (Int32.ofNat (6 * 0))), none, none] := by
    obtain ⟨ad, e999, e0, e1, e2, e3, e4, e5, e6, e7, e8, e9, e10, e11, e12, e13, e14, e15, e16, e17, e18, e19, e20, e21, e22, e23, e24, e25, e26, e27, e28, e29, e30, e31, e32, e33, e34, e35⟩ : ∃ ad : Nat → Nat, ad 999 = b ∧ ad 0 = q1 ∧ ad 1 = q2 ∧ ad 2 = q3 ∧ ad 3 = q4 ∧ ad 4 = q5 ∧ ad 5 = q6 ∧ ad 6 = q7 ∧ ad 7 = q8 ∧ ad 8 = q9 ∧ ad 9 = q10 ∧ ad 10 = q11 ∧ ad 11 = q12 ∧ ad 12 = q13 ∧ ad 13 = q14 ∧ ad 14 = q15 ∧ ad 15 = q16 ∧ ad 16 = q17 ∧ ad 17 = q18 ∧ ad 18 = q19 ∧ ad 19 = q20 ∧ ad 20 = q21 ∧ ad 21 = q22 ∧ ad 22 = q23 ∧ ad 23 = q24 ∧ ad 24 = q25 ∧ ad 25 = q26 ∧ ad 26 = q27 ∧ ad 27 = q28 ∧ ad 28 = q29 ∧ ad 29 = q30 ∧ ad 30 = q31 ∧ ad 31 = q32 ∧ ad 32 = q33 ∧ ad 33 = q34 ∧ ad 34 = q35 ∧ ad 35 = q36 := ⟨rz_ad b [q1, q2, q3, q4, q5, q6, q7, q8, q9, q10, q11, q12, q13, q14, q15, q16, q17, q18, q19, q20, q21, q22, q23, q24, q25, q26, q27, q28, q29, q30, q31, q32, q33, q34, q35, q36], rfl, rfl, rfl, rfl, rfl, rfl, rfl, rfl, rfl, rfl, rfl, rfl, rfl, rfl, rfl, rfl, rfl, rfl, rfl, rfl, rfl, rfl, rfl, rfl, rfl, rfl, rfl, rfl, rfl, rfl, rfl, rfl, rfl, rfl, rfl, rfl, rfl⟩
    refine ⟨ad, e999, ?_, ?_, hlv.1, hlv.2.1, rfl, fun i v hi => ?_⟩
    · rw [rz_ws_w]
      simp only [e0, e1, e2, e3, e4, e5, e6, e7, e8, e9, e10, e11, e12, e13, e14, e15, e16, e17, e18, e19, e20, e21, e22, e23, e24, e25, e26, e27, e28, e29, e30, e31, e32, e33, e34, e35]
      exact hP
    · rw [rz_ws_w]
      simp only [e0, e1, e2, e3, e4, e5, e6, e7, e8, e9, e10, e11, e12, e13, e14, e15, e16, e17, e18, e19, e20, e21, e22, e23, e24, e25, e26, e27, e28, e29, e30, e31, e32, e33, e34, e35]
      exact hD
    have hlt : i < 7 := (List.getElem?_eq_some_iff.mp hi).1
    rcases (show i = 0 ∨ i = 1 ∨ i = 2 ∨ i = 3 ∨ i = 4 ∨ i = 5 ∨ i = 6 by omega) with rfl | rfl | rfl | rfl | rfl | rfl | rfl
    · cases hi; exact ⟨rfl, (lv_at hlv 4 rfl).trans (by show _ = some (Slot.val (.ref (ad 999))); rw [e999])⟩
    · cases hi; exact ⟨rfl, (lv_at hlv 3 rfl).trans (by show _ = some (Slot.val (.ref (ad 0))); rw [e0])⟩
    · cases hi; exact ⟨rfl, (lv_at hlv 2 rfl).trans (by show _ = some (Slot.val (.ref (ad 25))); rw [e25])⟩
    · cases hi; exact ⟨rfl, (lv_at hlv 1 rfl).trans (by show _ = some (Slot.val (.ref (ad 35))); rw [e35])⟩
    · cases hi; exact ⟨rfl, lv_at hlv 0 rfl⟩
    · cases hi
    · cases hi
  obtain ⟨n, r, w', hrun, hr1⟩ := rz_law (xs := xs) (xl := L) (c0 := 36) (s0' := 322) hL (by decide) (by decide) 600 0 rfl (by decide) (fun _ => 0) (fun _ _ => 0) (fun _ => 0) none none 36 322 rz_ci0 rz_mi0 (by decide) (by decide)
  have hnA : ¬ A b := fun h => by rw [hAe] at h; exact absurd hbl (Nat.not_lt.mpr h)
  refine rz_sound hl (xs := xs) (xl := L) (D := D) (cI := cI) (cJ := cJ) (ad := ad) n 0 23 _ [] _ 36 322 r w' hrun p e room_1 s m #[Value.ref b] below meth c A _ H locs ls ⟨hx, hb, hml, hown, hts, hK, hA, rfl⟩ hXX (by rw [hex]; rfl) (fun _ => ⟨by rw [had]; exact hX, by rw [had]; exact hbl, by rw [had]; exact hnA⟩) hPw hDw hS hLr (by decide) (by decide) ?_
  intro pc ins len x y z kd st ls2 H2 locs2 kc ks hcd hcase hls hkc hks hP' hD' hS'
  rcases hcase with ⟨rfl, v, hv, hrv⟩ | ⟨rfl, -, hrv, -⟩
  · rw [hr1] at hrv
    cases hrv
    rcases rz_ok2 (rz_all hcd) with ⟨hrt, hdg⟩ | ⟨hrt, hdg⟩ | ⟨hrt, hdg⟩
    · cases hrt
    · cases hrt
    · obtain ⟨a, rfl, he, -⟩ := rz_end_z hv
      cases he
      exact W.widen (k := 1074) (n := 8598) hkc hks (va_forget (fun q hq => by have h9 := hS'.2.2 q hq; rw [hAe] at h9; exact h9) (lw_ret hx hb hr hlocks hdg))
  · rw [hr1] at hrv
    cases hrv
set_option maxHeartbeats 4000000 in
theorem lw_walk (l : Launch) (hl : l.stackTraces = false) (b : Addr) (xs : List Int32) : MetFree l x (headSpec (Jvm.Cond.code x code maxLocals ret :: tables_1) room_1) (lw_P b xs) (fun _ _ _ _ _ => True) lw_Q := by
  refine MetFree.of_bodyS (code := code) (maxLocals := maxLocals) (ret := ret) (by decide) ?_ ?_
  · intro args s m h hn
    obtain ⟨meth, c, h1, h2, h3, h4, h5, h6, -, -⟩ := Cond.code_spec hn (atoms_spec (ws := Jvm.Cond.code x code maxLocals ret :: tables_1) h _ List.mem_cons_self)
    exact ⟨meth, c, h1, h2, h3, h4, h5, h6⟩
  · intro p e s m args below meth c s₁ B hml0 hP _
    obtain ⟨rfl, hx, hbd, hgv⟩ := hP
    obtain ⟨scr, harrAt, hlist, hof, hsmall⟩ := hx
    obtain ⟨hcb, hkn, -, -⟩ := State.arrayAt?_spec harrAt
    have hown : s.vm.findClass R_law = some m.cls := findClass_of_methodNamed B.named
    have hts0 : ∀ c ∈ (Jvm.Cond.code x code maxLocals ret :: tables_1), c.before #[Value.ref b] s = true := atoms_spec (ws := Jvm.Cond.code x code maxLocals ret :: tables_1) B.pre
    have hts : ∀ w ∈ lw_tbl, w.before #[Value.ref b] s = true := k2_hts_sels lw_privs (fun w hw => hts0 w (List.mem_cons_of_mem _ hw)) lw_privs_ok
    have hml : c.maxLocals = 7 := B.maxLocals_eq (hts0 _ List.mem_cons_self)
    have X₀ : Stand p l e room_1 s m #[Value.ref b] below meth c s₁ [] 0 0 := Stand.of_body B
    have hh0 : s₁.heap = s.heap := by rw [B.state]; rfl
    have hex : c.exceptionTable.toList = [] := by
      obtain ⟨meth', c', a1, a2, -, -, -, -, a7, -⟩ := Cond.code_spec B.named (hts0 _ List.mem_cons_self)
      cases B.method.symm.trans a1
      cases X₀.code.symm.trans a2
      have h0 : c.exceptionTable.size = 0 := by simpa [Array.isEmpty] using a7
      exact List.eq_nil_of_length_eq_zero (by simpa using h0)
    have hsz : scr.slots.size = xs.length := by rw [← Array.length_toList, hlist, List.length_map]
    have hval : ∀ j : Nat, j < xs.length → scr.slots[j]? = some (.int (xs.getD j 0)) := fun j hj => by
      rw [← Array.getElem?_toList, hlist]
      simp [hj]
    have hbl : b < s.heap.size := (Array.getElem?_eq_some_iff.mp hcb).1
    have hX : va_X b xs.length (fun j => xs.getD j 0) s s.heap := ⟨scr, hcb, hof, hkn, hsz, hval⟩
    have K : W p l e room_1 s m #[Value.ref b] below meth c s₁.heap [] 0 0 (lw_Z below #[Value.ref b] s) (entryFrame m ([Value.ref b] : List Value).toArray 7) := by
      rw [hh0]
      exact whole_start l hl hbd ⟨B.exec, B.bytes, B.returns, hml, hown, hts, hX, hbl, B.notSynchronized, hgv, hex⟩
    obtain ⟨t, a1, o, b1, b2, b3⟩ := K s₁ rfl X₀
    exact ⟨t, o, a1, b1, b2, b3⟩
theorem lw_pre_spec {args : Array Value} {s : State} (h : (Jvm.Cond.and given_1 narrow_1).before args s = true) (hr : rest_1_c.before args s = true) : ∃ (b : Addr) (xs : List Int32), lw_P b xs args s := by
  have hs := flat_of_before _ h
  have hq := flat_of_before _ hr
  have hc : (Cond.count 1).before args s = true := hs _ (by decide +kernel)
  have harr : (Cond.arrayOf (.arg 0) .int).before args s = true := hs _ (by decide +kernel)
  have hle : (Cond.le (.length (.arg 0)) (.int 3072)).before args s = true := hs _ (by decide +kernel)
  have hlen : (Cond.isInt (.length (.arg 0))).before args s = true := hq _ (by decide +kernel)
  have hall : (Cond.all (.arg 0) (.isInt (.elem (.arg 0) (.index 0)))).before args s = true := hq _ (by decide +kernel)
  obtain ⟨b, xs, hb, hx⟩ := State.ints_of_pre rfl harr hlen hall
  have hsm : xs.length < 2 ^ 31 := hx.choose_spec.2.2.2
  have hev : (Term.length (.arg 0)).eval args s none [] s = some (.int xs.length.toInt32) := hx.length_eval hb
  have hv := Cond.le_ints hev (show (Term.int 3072).eval args s none [] s = some (.int 3072) from rfl)
  have hd : xs.length.toInt32 ≤ 3072 := by
    simpa [Cond.before, Cond.holds, hv] using hle
  have hN : xs.length ≤ 3072 := (Int32.ofNat_le_ofNat hsm (by decide)).mp (show Int32.ofNat xs.length ≤ Int32.ofNat 3072 from hd)
  exact ⟨b, xs, Cond.one_arg hc (show args[0]? = some (.ref b) from hb), hx, hN, h⟩
theorem lw_comes (l : Launch) (hl : l.stackTraces = false) : Comes l x (Jvm.Cond.code x code maxLocals ret :: tables_1) room_1 (fun tb e args s => Calls_1 tb e args s ∧ rest_1 tb e args s ∧ Pre_1 tb e args s)
    (fun _ _ args s o t => lw_Q args s o t) := by
  intro p e ha hc hk s m args below hf hfit hheap happ hpre
  obtain ⟨b, xs, hP⟩ := lw_pre_spec hpre.2.2 hpre.2.1
  obtain ⟨k, o, h1, h2, h3, hQ⟩ := lw_walk l hl b xs p e ha hc hk s m args below hf ((Spec.applies_iff_loose hf).mp happ).1 hP trivial
  exact ⟨k, o, h1, h2, h3, hQ⟩
theorem lw_frame {s t : State} {o : Outcome} {args : Array Value} (h : Framed s o t [] 1074 8598) :
    Framed s o t (fieldLocs frame_1_writes args s ++ arrayLocs frame_1_arrays args s ++ staticLocs frame_1_statics s) 1074 8598 := h
theorem lw_limb (L : Cond) (hL : ∀ (args : Array Value) (s t : State), L.after args s (.returned (some (.int 1))) t = true) :
    ArmFor flags0 classFile x code maxLocals ret World_1 tables_1 room_1 Calls_1 rest_1 Pre_1
      (fun tb e a s o t => postC L tb e a s o t ∧ Framed s o t (fieldLocs frame_1_writes a s ++ arrayLocs frame_1_arrays a s ++ staticLocs frame_1_statics s) 1074 8598) := by
  intro l hfl _ _ p e ha hc hk s m args below hf hfit hheap happ hpre
  have hl : l.stackTraces = false := by unfold Launch.stackTraces; rw [hfl]; decide +kernel
  obtain ⟨k, o, h1, h2, h3, rfl, hF⟩ := lw_comes l hl p e ha hc hk s m args below hf hfit hheap happ hpre
  exact ⟨k, _, h1, h2, h3, hL args s _, lw_frame hF⟩
theorem i_vc : Claimed_1_1 ∧ Claimed_1_2 := ⟨lw_limb limb_1_1 (fun args s t => by simp [limb_1_1, Cond.after, Cond.holds, Cond.value]), lw_limb limb_1_2 (fun args s t => Cond.after_iff.mpr (by
  first | (rw [show limb_1_2 = Cond.eq .result (.int 1) from rfl, Cond.eq_ints (x := 1) (y := 1) rfl rfl]; simp; done) | (simp [limb_1_2, Cond.value, Term.eval]; done)))⟩
end
